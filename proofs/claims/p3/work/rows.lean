section
-- ===== PART A: goes FIRST, ahead of the names: the tables' words, and 'selects' of the private methods out of them =====
/-- a private method of a class that the tables say can be made, by its rows of tables_1 -/
def lw_okq (q : MethodName × Nat) : Prop := (q.1.cls ≠ "java/lang/invoke/MethodHandle" ∧ q.1.cls ≠ "java/lang/invoke/VarHandle") ∧ Cond.instantiable q.1.cls q.2 ∈ tables_1 ∧ Cond.privateMethod q.1 ∈ tables_1 ∧ Cond.instanceMethod q.1 ∈ tables_1
theorem lw_p0 : lw_okq (⟨"ReduceCluster", "pairsOfChunks", "()I"⟩, 15) := ⟨⟨by decide +kernel, by decide +kernel⟩, List.mem_of_getElem? (i := 17) (by decide +kernel), List.mem_of_getElem? (i := 207) (by decide +kernel), List.mem_of_getElem? (i := 208) (by decide +kernel)⟩
theorem lw_p1 : lw_okq (⟨"java/lang/Throwable", "fillInStackTrace", "(I)Ljava/lang/Throwable;"⟩, 6) := ⟨⟨by decide +kernel, by decide +kernel⟩, List.mem_of_getElem? (i := 279) (by decide +kernel), List.mem_of_getElem? (i := 277) (by decide +kernel), List.mem_of_getElem? (i := 278) (by decide +kernel)⟩
theorem lw_p2 : lw_okq (⟨"ReduceCluster", "loseDisk", "(I)V"⟩, 15) := ⟨⟨by decide +kernel, by decide +kernel⟩, List.mem_of_getElem? (i := 17) (by decide +kernel), List.mem_of_getElem? (i := 337) (by decide +kernel), List.mem_of_getElem? (i := 338) (by decide +kernel)⟩
theorem lw_p3 : lw_okq (⟨"ReduceCluster", "giveUpReduceTasks", "()V"⟩, 15) := ⟨⟨by decide +kernel, by decide +kernel⟩, List.mem_of_getElem? (i := 17) (by decide +kernel), List.mem_of_getElem? (i := 341) (by decide +kernel), List.mem_of_getElem? (i := 342) (by decide +kernel)⟩
theorem lw_p4 : lw_okq (⟨"ReduceCluster", "mapChunk", "(I)I"⟩, 15) := ⟨⟨by decide +kernel, by decide +kernel⟩, List.mem_of_getElem? (i := 17) (by decide +kernel), List.mem_of_getElem? (i := 363) (by decide +kernel), List.mem_of_getElem? (i := 364) (by decide +kernel)⟩
theorem lw_p5 : lw_okq (⟨"ReduceCluster", "demandJob", "()V"⟩, 15) := ⟨⟨by decide +kernel, by decide +kernel⟩, List.mem_of_getElem? (i := 17) (by decide +kernel), List.mem_of_getElem? (i := 399) (by decide +kernel), List.mem_of_getElem? (i := 400) (by decide +kernel)⟩
theorem lw_p6 : lw_okq (⟨"ReduceCluster", "passTick", "()I"⟩, 15) := ⟨⟨by decide +kernel, by decide +kernel⟩, List.mem_of_getElem? (i := 17) (by decide +kernel), List.mem_of_getElem? (i := 403) (by decide +kernel), List.mem_of_getElem? (i := 404) (by decide +kernel)⟩
theorem lw_p7 : lw_okq (⟨"ReduceCluster", "giveTask", "(I)V"⟩, 15) := ⟨⟨by decide +kernel, by decide +kernel⟩, List.mem_of_getElem? (i := 17) (by decide +kernel), List.mem_of_getElem? (i := 407) (by decide +kernel), List.mem_of_getElem? (i := 408) (by decide +kernel)⟩
theorem lw_p8 : lw_okq (⟨"ReduceCluster", "allDone", "(Z)Z"⟩, 15) := ⟨⟨by decide +kernel, by decide +kernel⟩, List.mem_of_getElem? (i := 17) (by decide +kernel), List.mem_of_getElem? (i := 411) (by decide +kernel), List.mem_of_getElem? (i := 412) (by decide +kernel)⟩
theorem lw_p9 : lw_okq (⟨"ReduceCluster", "taskCount", "(Z)I"⟩, 15) := ⟨⟨by decide +kernel, by decide +kernel⟩, List.mem_of_getElem? (i := 17) (by decide +kernel), List.mem_of_getElem? (i := 415) (by decide +kernel), List.mem_of_getElem? (i := 416) (by decide +kernel)⟩
theorem lw_p10 : lw_okq (⟨"ReduceCluster", "freshTask", "(ZI)LReduceCluster$Task;"⟩, 15) := ⟨⟨by decide +kernel, by decide +kernel⟩, List.mem_of_getElem? (i := 17) (by decide +kernel), List.mem_of_getElem? (i := 423) (by decide +kernel), List.mem_of_getElem? (i := 424) (by decide +kernel)⟩
theorem lw_p11 : lw_okq (⟨"ReduceCluster", "doers", "(LReduceCluster$Task;)I"⟩, 15) := ⟨⟨by decide +kernel, by decide +kernel⟩, List.mem_of_getElem? (i := 17) (by decide +kernel), List.mem_of_getElem? (i := 427) (by decide +kernel), List.mem_of_getElem? (i := 428) (by decide +kernel)⟩
theorem lw_p12 : lw_okq (⟨"ReduceCluster", "canBeDone", "(LReduceCluster$Task;)Z"⟩, 15) := ⟨⟨by decide +kernel, by decide +kernel⟩, List.mem_of_getElem? (i := 17) (by decide +kernel), List.mem_of_getElem? (i := 431) (by decide +kernel), List.mem_of_getElem? (i := 432) (by decide +kernel)⟩
theorem lw_p13 : lw_okq (⟨"ReduceCluster", "taskForSecondTime", "(Z)LReduceCluster$Task;"⟩, 15) := ⟨⟨by decide +kernel, by decide +kernel⟩, List.mem_of_getElem? (i := 17) (by decide +kernel), List.mem_of_getElem? (i := 438) (by decide +kernel), List.mem_of_getElem? (i := 439) (by decide +kernel)⟩
theorem lw_p14 : lw_okq (⟨"ReduceCluster", "leastDoer", "(LReduceCluster$Task;)I"⟩, 15) := ⟨⟨by decide +kernel, by decide +kernel⟩, List.mem_of_getElem? (i := 17) (by decide +kernel), List.mem_of_getElem? (i := 442) (by decide +kernel), List.mem_of_getElem? (i := 443) (by decide +kernel)⟩
theorem lw_p15 : lw_okq (⟨"ReduceCluster", "completeTask", "(I)Z"⟩, 15) := ⟨⟨by decide +kernel, by decide +kernel⟩, List.mem_of_getElem? (i := 17) (by decide +kernel), List.mem_of_getElem? (i := 455) (by decide +kernel), List.mem_of_getElem? (i := 456) (by decide +kernel)⟩
def lw_privs_1 : List (MethodName × Nat) := [(⟨"ReduceCluster", "pairsOfChunks", "()I"⟩, 15), (⟨"java/lang/Throwable", "fillInStackTrace", "(I)Ljava/lang/Throwable;"⟩, 6), (⟨"ReduceCluster", "loseDisk", "(I)V"⟩, 15), (⟨"ReduceCluster", "giveUpReduceTasks", "()V"⟩, 15), (⟨"ReduceCluster", "mapChunk", "(I)I"⟩, 15), (⟨"ReduceCluster", "demandJob", "()V"⟩, 15), (⟨"ReduceCluster", "passTick", "()I"⟩, 15), (⟨"ReduceCluster", "giveTask", "(I)V"⟩, 15), (⟨"ReduceCluster", "allDone", "(Z)Z"⟩, 15), (⟨"ReduceCluster", "taskCount", "(Z)I"⟩, 15), (⟨"ReduceCluster", "freshTask", "(ZI)LReduceCluster$Task;"⟩, 15), (⟨"ReduceCluster", "doers", "(LReduceCluster$Task;)I"⟩, 15), (⟨"ReduceCluster", "canBeDone", "(LReduceCluster$Task;)Z"⟩, 15), (⟨"ReduceCluster", "taskForSecondTime", "(Z)LReduceCluster$Task;"⟩, 15), (⟨"ReduceCluster", "leastDoer", "(LReduceCluster$Task;)I"⟩, 15), (⟨"ReduceCluster", "completeTask", "(I)Z"⟩, 15)]
theorem lw_r1 : ∀ q ∈ lw_privs_1, lw_okq q := List.forall_mem_cons.mpr ⟨lw_p0, List.forall_mem_cons.mpr ⟨lw_p1, List.forall_mem_cons.mpr ⟨lw_p2, List.forall_mem_cons.mpr ⟨lw_p3, List.forall_mem_cons.mpr ⟨lw_p4, List.forall_mem_cons.mpr ⟨lw_p5, List.forall_mem_cons.mpr ⟨lw_p6, List.forall_mem_cons.mpr ⟨lw_p7, List.forall_mem_cons.mpr ⟨lw_p8, List.forall_mem_cons.mpr ⟨lw_p9, List.forall_mem_cons.mpr ⟨lw_p10, List.forall_mem_cons.mpr ⟨lw_p11, List.forall_mem_cons.mpr ⟨lw_p12, List.forall_mem_cons.mpr ⟨lw_p13, List.forall_mem_cons.mpr ⟨lw_p14, List.forall_mem_cons.mpr ⟨lw_p15, fun _ h => absurd h List.not_mem_nil⟩⟩⟩⟩⟩⟩⟩⟩⟩⟩⟩⟩⟩⟩⟩⟩
theorem lw_p16 : lw_okq (⟨"ReduceCluster", "giveUpJob", "()V"⟩, 15) := ⟨⟨by decide +kernel, by decide +kernel⟩, List.mem_of_getElem? (i := 17) (by decide +kernel), List.mem_of_getElem? (i := 467) (by decide +kernel), List.mem_of_getElem? (i := 468) (by decide +kernel)⟩
theorem lw_p17 : lw_okq (⟨"ReduceCluster", "endJob", "()V"⟩, 15) := ⟨⟨by decide +kernel, by decide +kernel⟩, List.mem_of_getElem? (i := 17) (by decide +kernel), List.mem_of_getElem? (i := 471) (by decide +kernel), List.mem_of_getElem? (i := 472) (by decide +kernel)⟩
theorem lw_p18 : lw_okq (⟨"ReduceCluster", "anyoneWorks", "()Z"⟩, 15) := ⟨⟨by decide +kernel, by decide +kernel⟩, List.mem_of_getElem? (i := 17) (by decide +kernel), List.mem_of_getElem? (i := 475) (by decide +kernel), List.mem_of_getElem? (i := 476) (by decide +kernel)⟩
theorem lw_p19 : lw_okq (⟨"ReduceCluster", "stateOf", "(LReduceCluster$Task;)I"⟩, 15) := ⟨⟨by decide +kernel, by decide +kernel⟩, List.mem_of_getElem? (i := 17) (by decide +kernel), List.mem_of_getElem? (i := 543) (by decide +kernel), List.mem_of_getElem? (i := 544) (by decide +kernel)⟩
theorem lw_p20 : lw_okq (⟨"ReduceClusterModel", "bad", "(Z)Z"⟩, 31) := ⟨⟨by decide +kernel, by decide +kernel⟩, List.mem_of_getElem? (i := 558) (by decide +kernel), List.mem_of_getElem? (i := 671) (by decide +kernel), List.mem_of_getElem? (i := 672) (by decide +kernel)⟩
theorem lw_p21 : lw_okq (⟨"ReduceClusterModel", "fail", "(I)I"⟩, 31) := ⟨⟨by decide +kernel, by decide +kernel⟩, List.mem_of_getElem? (i := 558) (by decide +kernel), List.mem_of_getElem? (i := 675) (by decide +kernel), List.mem_of_getElem? (i := 676) (by decide +kernel)⟩
theorem lw_p22 : lw_okq (⟨"ReduceClusterModel", "giveUp", "(Z)V"⟩, 31) := ⟨⟨by decide +kernel, by decide +kernel⟩, List.mem_of_getElem? (i := 558) (by decide +kernel), List.mem_of_getElem? (i := 683) (by decide +kernel), List.mem_of_getElem? (i := 684) (by decide +kernel)⟩
theorem lw_p23 : lw_okq (⟨"ReduceClusterModel", "mapAll", "()V"⟩, 31) := ⟨⟨by decide +kernel, by decide +kernel⟩, List.mem_of_getElem? (i := 558) (by decide +kernel), List.mem_of_getElem? (i := 699) (by decide +kernel), List.mem_of_getElem? (i := 700) (by decide +kernel)⟩
theorem lw_p24 : lw_okq (⟨"ReduceClusterModel", "map", "(I)V"⟩, 31) := ⟨⟨by decide +kernel, by decide +kernel⟩, List.mem_of_getElem? (i := 558) (by decide +kernel), List.mem_of_getElem? (i := 703) (by decide +kernel), List.mem_of_getElem? (i := 704) (by decide +kernel)⟩
theorem lw_p25 : lw_okq (⟨"ReduceClusterModel", "pair", "(II)V"⟩, 31) := ⟨⟨by decide +kernel, by decide +kernel⟩, List.mem_of_getElem? (i := 558) (by decide +kernel), List.mem_of_getElem? (i := 710) (by decide +kernel), List.mem_of_getElem? (i := 711) (by decide +kernel)⟩
theorem lw_p26 : lw_okq (⟨"ReduceClusterModel", "sort", "()V"⟩, 31) := ⟨⟨by decide +kernel, by decide +kernel⟩, List.mem_of_getElem? (i := 558) (by decide +kernel), List.mem_of_getElem? (i := 715) (by decide +kernel), List.mem_of_getElem? (i := 716) (by decide +kernel)⟩
theorem lw_p27 : lw_okq (⟨"ReduceClusterModel", "tick", "()V"⟩, 31) := ⟨⟨by decide +kernel, by decide +kernel⟩, List.mem_of_getElem? (i := 558) (by decide +kernel), List.mem_of_getElem? (i := 723) (by decide +kernel), List.mem_of_getElem? (i := 724) (by decide +kernel)⟩
theorem lw_p28 : lw_okq (⟨"ReduceClusterModel", "get", "(I)V"⟩, 31) := ⟨⟨by decide +kernel, by decide +kernel⟩, List.mem_of_getElem? (i := 558) (by decide +kernel), List.mem_of_getElem? (i := 727) (by decide +kernel), List.mem_of_getElem? (i := 728) (by decide +kernel)⟩
theorem lw_p29 : lw_okq (⟨"ReduceClusterModel", "mapsDone", "()Z"⟩, 31) := ⟨⟨by decide +kernel, by decide +kernel⟩, List.mem_of_getElem? (i := 558) (by decide +kernel), List.mem_of_getElem? (i := 731) (by decide +kernel), List.mem_of_getElem? (i := 732) (by decide +kernel)⟩
theorem lw_p30 : lw_okq (⟨"ReduceClusterModel", "readable", "(I)Z"⟩, 31) := ⟨⟨by decide +kernel, by decide +kernel⟩, List.mem_of_getElem? (i := 558) (by decide +kernel), List.mem_of_getElem? (i := 735) (by decide +kernel), List.mem_of_getElem? (i := 736) (by decide +kernel)⟩
theorem lw_p31 : lw_okq (⟨"ReduceClusterModel", "doing", "(I)I"⟩, 31) := ⟨⟨by decide +kernel, by decide +kernel⟩, List.mem_of_getElem? (i := 558) (by decide +kernel), List.mem_of_getElem? (i := 739) (by decide +kernel), List.mem_of_getElem? (i := 740) (by decide +kernel)⟩
def lw_privs_2 : List (MethodName × Nat) := [(⟨"ReduceCluster", "giveUpJob", "()V"⟩, 15), (⟨"ReduceCluster", "endJob", "()V"⟩, 15), (⟨"ReduceCluster", "anyoneWorks", "()Z"⟩, 15), (⟨"ReduceCluster", "stateOf", "(LReduceCluster$Task;)I"⟩, 15), (⟨"ReduceClusterModel", "bad", "(Z)Z"⟩, 31), (⟨"ReduceClusterModel", "fail", "(I)I"⟩, 31), (⟨"ReduceClusterModel", "giveUp", "(Z)V"⟩, 31), (⟨"ReduceClusterModel", "mapAll", "()V"⟩, 31), (⟨"ReduceClusterModel", "map", "(I)V"⟩, 31), (⟨"ReduceClusterModel", "pair", "(II)V"⟩, 31), (⟨"ReduceClusterModel", "sort", "()V"⟩, 31), (⟨"ReduceClusterModel", "tick", "()V"⟩, 31), (⟨"ReduceClusterModel", "get", "(I)V"⟩, 31), (⟨"ReduceClusterModel", "mapsDone", "()Z"⟩, 31), (⟨"ReduceClusterModel", "readable", "(I)Z"⟩, 31), (⟨"ReduceClusterModel", "doing", "(I)I"⟩, 31)]
theorem lw_r2 : ∀ q ∈ lw_privs_2, lw_okq q := List.forall_mem_cons.mpr ⟨lw_p16, List.forall_mem_cons.mpr ⟨lw_p17, List.forall_mem_cons.mpr ⟨lw_p18, List.forall_mem_cons.mpr ⟨lw_p19, List.forall_mem_cons.mpr ⟨lw_p20, List.forall_mem_cons.mpr ⟨lw_p21, List.forall_mem_cons.mpr ⟨lw_p22, List.forall_mem_cons.mpr ⟨lw_p23, List.forall_mem_cons.mpr ⟨lw_p24, List.forall_mem_cons.mpr ⟨lw_p25, List.forall_mem_cons.mpr ⟨lw_p26, List.forall_mem_cons.mpr ⟨lw_p27, List.forall_mem_cons.mpr ⟨lw_p28, List.forall_mem_cons.mpr ⟨lw_p29, List.forall_mem_cons.mpr ⟨lw_p30, List.forall_mem_cons.mpr ⟨lw_p31, fun _ h => absurd h List.not_mem_nil⟩⟩⟩⟩⟩⟩⟩⟩⟩⟩⟩⟩⟩⟩⟩⟩
theorem lw_p32 : lw_okq (⟨"ReduceClusterModel", "leftOf", "(I)I"⟩, 31) := ⟨⟨by decide +kernel, by decide +kernel⟩, List.mem_of_getElem? (i := 558) (by decide +kernel), List.mem_of_getElem? (i := 743) (by decide +kernel), List.mem_of_getElem? (i := 744) (by decide +kernel)⟩
theorem lw_p33 : lw_okq (⟨"ReduceClusterModel", "needs", "(I)I"⟩, 31) := ⟨⟨by decide +kernel, by decide +kernel⟩, List.mem_of_getElem? (i := 558) (by decide +kernel), List.mem_of_getElem? (i := 747) (by decide +kernel), List.mem_of_getElem? (i := 748) (by decide +kernel)⟩
theorem lw_p34 : lw_okq (⟨"ReduceClusterModel", "runs", "(I)I"⟩, 31) := ⟨⟨by decide +kernel, by decide +kernel⟩, List.mem_of_getElem? (i := 558) (by decide +kernel), List.mem_of_getElem? (i := 751) (by decide +kernel), List.mem_of_getElem? (i := 752) (by decide +kernel)⟩
theorem lw_p35 : lw_okq (⟨"ReduceClusterModel", "pairsOf", "(I)I"⟩, 31) := ⟨⟨by decide +kernel, by decide +kernel⟩, List.mem_of_getElem? (i := 558) (by decide +kernel), List.mem_of_getElem? (i := 755) (by decide +kernel), List.mem_of_getElem? (i := 756) (by decide +kernel)⟩
theorem lw_p36 : lw_okq (⟨"ReduceClusterModel", "finish", "(I)V"⟩, 31) := ⟨⟨by decide +kernel, by decide +kernel⟩, List.mem_of_getElem? (i := 558) (by decide +kernel), List.mem_of_getElem? (i := 759) (by decide +kernel), List.mem_of_getElem? (i := 760) (by decide +kernel)⟩
theorem lw_p37 : lw_okq (⟨"ReduceClusterModel", "reduce", "(IZ)I"⟩, 31) := ⟨⟨by decide +kernel, by decide +kernel⟩, List.mem_of_getElem? (i := 558) (by decide +kernel), List.mem_of_getElem? (i := 763) (by decide +kernel), List.mem_of_getElem? (i := 764) (by decide +kernel)⟩
theorem lw_p38 : lw_okq (⟨"ReduceClusterModel", "reduced", "(I)I"⟩, 31) := ⟨⟨by decide +kernel, by decide +kernel⟩, List.mem_of_getElem? (i := 558) (by decide +kernel), List.mem_of_getElem? (i := 767) (by decide +kernel), List.mem_of_getElem? (i := 768) (by decide +kernel)⟩
theorem lw_p39 : lw_okq (⟨"ReduceClusterModel", "end", "()V"⟩, 31) := ⟨⟨by decide +kernel, by decide +kernel⟩, List.mem_of_getElem? (i := 558) (by decide +kernel), List.mem_of_getElem? (i := 771) (by decide +kernel), List.mem_of_getElem? (i := 772) (by decide +kernel)⟩
def lw_privs_3 : List (MethodName × Nat) := [(⟨"ReduceClusterModel", "leftOf", "(I)I"⟩, 31), (⟨"ReduceClusterModel", "needs", "(I)I"⟩, 31), (⟨"ReduceClusterModel", "runs", "(I)I"⟩, 31), (⟨"ReduceClusterModel", "pairsOf", "(I)I"⟩, 31), (⟨"ReduceClusterModel", "finish", "(I)V"⟩, 31), (⟨"ReduceClusterModel", "reduce", "(IZ)I"⟩, 31), (⟨"ReduceClusterModel", "reduced", "(I)I"⟩, 31), (⟨"ReduceClusterModel", "end", "()V"⟩, 31)]
theorem lw_r3 : ∀ q ∈ lw_privs_3, lw_okq q := List.forall_mem_cons.mpr ⟨lw_p32, List.forall_mem_cons.mpr ⟨lw_p33, List.forall_mem_cons.mpr ⟨lw_p34, List.forall_mem_cons.mpr ⟨lw_p35, List.forall_mem_cons.mpr ⟨lw_p36, List.forall_mem_cons.mpr ⟨lw_p37, List.forall_mem_cons.mpr ⟨lw_p38, List.forall_mem_cons.mpr ⟨lw_p39, fun _ h => absurd h List.not_mem_nil⟩⟩⟩⟩⟩⟩⟩⟩
def lw_privs : List (MethodName × Nat) := lw_privs_1 ++ (lw_privs_2 ++ (lw_privs_3))
def lw_tbl : List Cond := k2_sels lw_privs ++ tables_1
theorem lw_privs_ok : ∀ q ∈ lw_privs, lw_okq q := by
  show ∀ q ∈ lw_privs_1 ++ (lw_privs_2 ++ (lw_privs_3)), lw_okq q
  exact List.forall_mem_append.mpr ⟨lw_r1, List.forall_mem_append.mpr ⟨lw_r2, lw_r3⟩⟩

-- ===== end of PART A; then your names; then what follows =====
/-! THE CLAIM OUT OF ONE WALK OF THE LAW'S BODY. Your part is whole_start (and what it stands on); all else here is the same for every law, but numbers. -/
def R_law : String := "ReduceClusterLaw"
def lw_P (b : Addr) (xs : List Int32) (args : Array Value) (s : State) : Prop := args = #[.ref b] ∧ s.IntsAt b xs ∧ xs.length ≤ 2560 ∧ (Jvm.Cond.and given_1 narrow_1).before args s = true
def lw_Q (_ : Array Value) (s : State) (o : Outcome) (t : State) : Prop := o = .returned (some (.int 1)) ∧ Framed s o t [] 601024 7293033
def lw_Z (below : List Frame) (a : Array Value) (s : State) : State → Prop := fun t => ∃ o, t.status = .running ∧ Ended t below o ∧ lw_Q a s o t
/-- the law's own end, with 1 on the stack, nothing written that was there before, its room as the claim has it -/
theorem lw_ret {p : Program} {l : Launch} {e : Env} {s : State} {m : MethodId} {below : List Frame} {meth : Method} {c : Code} {b : Nat} (hx : p.tables.exec = Jvm.exec) (hb : c.code = code) (hr : meth.sig.returnType = ret) (hlocks : meth.locks = false) {pc : Nat} {H : Heap} {ls : Array Slot} (hdg : decode code pc = .ok (.ireturn, 1)) : W p l e room_1 s m #[Value.ref b] below meth c H [] 601024 7293033 (lw_Z below #[Value.ref b] s) (F0 m pc ls [.int 1]) := by
  intro T hT X
  obtain ⟨fs, hret, hrun, hended, hW, hframe⟩ := X.leave (v := some (.int 1)) (hlocks := hlocks) (fun h => by rw [hr] at h; cases h)
  have hmeth' : T.vm.method? m = some meth := X.method'
  refine ⟨T.setFrames fs, ?_, .returned (some (.int 1)), hrun, hended, rfl, ⟨_, rfl⟩, hW, hframe⟩
  jvm_step X.here [X.here.top, hx, hb, hdg, hmeth', hr, ret, narrow_b1]
  (try refine ⟨rfl, ?_⟩); (try refine ⟨rfl, ?_⟩)
  first | (intro acts; rw [hret _ acts rfl rfl rfl]) | rw [hret _ _ rfl rfl rfl]
  exact Steps.refl _
/-- what holds at the law's entry: the machine, the code, the tables' words (any of lw_tbl by 'hts w (by decide +kernel)'), the script of L ints xs at the cell b, what the Statement gives of the start (any of its parts by flat_of_before) -/
def lw_At (p : Program) (s : State) (m : MethodId) (meth : Method) (c : Code) (b L : Nat) (xs : Nat → Int32) : Prop :=
  p.tables.exec = Jvm.exec ∧ c.code = code ∧ meth.sig.returnType = ret ∧ c.maxLocals = 7 ∧ s.vm.findClass R_law = some m.cls ∧ (∀ w ∈ lw_tbl, w.before #[Value.ref b] s = true) ∧ va_X b L xs s s.heap ∧ b < s.heap.size ∧ meth.locks = false ∧ (Jvm.Cond.and given_1 narrow_1).before #[Value.ref b] s = true
end
section
/-! NAMES, written by gen_names.py out of the claim -/
/-- a method: name, code, local variables, answer's type, handlers -/
abbrev xM : Type := MethodName × ByteArray × Nat × Option FieldType × List (Nat × Nat × Nat × Nat)
abbrev xMn (M : xM) : MethodName := M.1
abbrev xMc (M : xM) : ByteArray := M.2.1
abbrev xMl (M : xM) : Nat := M.2.2.1
abbrev xMr (M : xM) : Option FieldType := M.2.2.2.1
abbrev xMh (M : xM) : List (Nat × Nat × Nat × Nat) := M.2.2.2.2
def xgood : Cond → Bool
  | .arrayClass _ => true
  | .methodLinkNest .. => true
  | .fieldLinkNest .. => true
  | .arrayOver (.object _) => true
  | w => w.onTables && w.keepsFace
def xTT : List Cond := lw_tbl.filter xgood
theorem xTTgood : ∀ w ∈ xTT, xgood w = true := fun w hw => (List.mem_filter.mp hw).2
theorem xin {w : Cond} (h : w ∈ tables_1) (hg : xgood w = true) : w ∈ xTT := List.mem_filter.mpr ⟨List.mem_append_right _ h, hg⟩
theorem xin1 {w : Cond} (i : Nat) (h : tables_1_1[i]? = some w) (hg : xgood w = true) : w ∈ xTT := xin (List.mem_append_left _ (List.mem_of_getElem? h)) hg
theorem xin2 {w : Cond} (i : Nat) (h : tables_1_2[i]? = some w) (hg : xgood w = true) : w ∈ xTT := xin (List.mem_append_right _ (List.mem_append_left _ (List.mem_of_getElem? h))) hg
theorem xin3 {w : Cond} (i : Nat) (h : tables_1_3[i]? = some w) (hg : xgood w = true) : w ∈ xTT := xin (List.mem_append_right _ (List.mem_append_right _ (List.mem_append_left _ (List.mem_of_getElem? h)))) hg
theorem xin4 {w : Cond} (i : Nat) (h : tables_1_4[i]? = some w) (hg : xgood w = true) : w ∈ xTT := xin (List.mem_append_right _ (List.mem_append_right _ (List.mem_append_right _ (List.mem_of_getElem? h)))) hg
theorem xsel {w : Cond} (i : Nat) (h : (k2_sels lw_privs)[i]? = some w) (hg : xgood w = true) : w ∈ xTT := List.mem_filter.mpr ⟨List.mem_append_left _ (List.mem_of_getElem? h), hg⟩

def F_A : u_T := fun k => match k with
  | 0 => ("ReduceCluster", "workers", "[LReduceCluster$Worker;", true)
  | 1 => ("ReduceCluster", "chunks", "[LReduceCluster$Chunk;", true)
  | 2 => ("ReduceCluster", "mapTasks", "[LReduceCluster$Task;", true)
  | 3 => ("ReduceCluster", "reduceTasks", "[LReduceCluster$Task;", true)
  | 4 => ("ReduceCluster", "mapped", "LReduceCluster$Pairs;", true)
  | 5 => ("ReduceCluster", "job", "LReduceCluster$Job;", false)
  | 6 => ("ReduceCluster", "endedJob", "LReduceCluster$Job;", false)
  | 7 => ("ReduceCluster", "underWay", "Z", false)
  | 8 => ("ReduceCluster", "chunkCount", "I", false)
  | 9 => ("ReduceCluster", "latestMapper", "I", false)
  | 10 => ("ReduceCluster", "nextFilter", "I", false)
  | 11 => ("ReduceCluster", "ticks", "I", false)
  | 12 => ("ReduceCluster", "jobsEnded", "I", false)
  | 13 => ("ReduceCluster", "secondTimes", "I", false)
  | _ => ("ReduceCluster", "mapTasksLost", "I", false)
def ft_A : Nat → FieldType := fun k => match k with
  | 0 => .array (.object "ReduceCluster$Worker")
  | 1 => .array (.object "ReduceCluster$Chunk")
  | 2 => .array (.object "ReduceCluster$Task")
  | 3 => .array (.object "ReduceCluster$Task")
  | 4 => .object "ReduceCluster$Pairs"
  | 5 => .object "ReduceCluster$Job"
  | 6 => .object "ReduceCluster$Job"
  | 7 => .boolean
  | 8 => .int
  | 9 => .int
  | 10 => .int
  | 11 => .int
  | 12 => .int
  | 13 => .int
  | _ => .int
def F_C : u_T := fun k => match k with
  | 0 => ("ReduceCluster$Chunk", "numbers", "[I", true)
  | _ => ("ReduceCluster$Chunk", "size", "I", false)
def ft_C : Nat → FieldType := fun k => match k with
  | 0 => .array (.int)
  | _ => .int
def F_J : u_T := fun k => match k with
  | 0 => ("ReduceCluster$Job", "taken", "[LReduceCluster$Pairs;", true)
  | 1 => ("ReduceCluster$Job", "reduced", "[LReduceCluster$Pairs;", true)
  | 2 => ("ReduceCluster$Job", "reducer", "I", false)
  | 3 => ("ReduceCluster$Job", "partitions", "I", false)
  | _ => ("ReduceCluster$Job", "least", "I", false)
def ft_J : Nat → FieldType := fun k => match k with
  | 0 => .array (.object "ReduceCluster$Pairs")
  | 1 => .array (.object "ReduceCluster$Pairs")
  | 2 => .int
  | 3 => .int
  | _ => .int
def F_P : u_T := fun k => match k with
  | 0 => ("ReduceCluster$Pairs", "keys", "[I", true)
  | 1 => ("ReduceCluster$Pairs", "values", "[I", true)
  | _ => ("ReduceCluster$Pairs", "size", "I", false)
def ft_P : Nat → FieldType := fun k => match k with
  | 0 => .array (.int)
  | 1 => .array (.int)
  | _ => .int
def F_T : u_T := fun k => match k with
  | 0 => ("ReduceCluster$Task", "map", "Z", true)
  | 1 => ("ReduceCluster$Task", "number", "I", true)
  | 2 => ("ReduceCluster$Task", "units", "I", false)
  | 3 => ("ReduceCluster$Task", "runs", "I", false)
  | _ => ("ReduceCluster$Task", "doneBy", "I", false)
def ft_T : Nat → FieldType := fun k => match k with
  | 0 => .boolean
  | 1 => .int
  | 2 => .int
  | 3 => .int
  | _ => .int
def F_K : u_T := fun k => match k with
  | 0 => ("ReduceCluster$Worker", "up", "Z", false)
  | 1 => ("ReduceCluster$Worker", "unitsPerTick", "I", false)
  | 2 => ("ReduceCluster$Worker", "task", "LReduceCluster$Task;", false)
  | 3 => ("ReduceCluster$Worker", "unitsLeft", "I", false)
  | _ => ("ReduceCluster$Worker", "unitsDone", "I", false)
def ft_K : Nat → FieldType := fun k => match k with
  | 0 => .boolean
  | 1 => .int
  | 2 => .object "ReduceCluster$Task"
  | 3 => .int
  | _ => .int
def F_M : u_T := fun k => match k with
  | 0 => ("ReduceClusterModel", "size", "[I", true)
  | 1 => ("ReduceClusterModel", "numbers", "[I", true)
  | 2 => ("ReduceClusterModel", "speed", "[I", true)
  | 3 => ("ReduceClusterModel", "task", "[I", true)
  | 4 => ("ReduceClusterModel", "left", "[I", true)
  | 5 => ("ReduceClusterModel", "units", "[I", true)
  | 6 => ("ReduceClusterModel", "up", "[Z", true)
  | 7 => ("ReduceClusterModel", "done", "[Z", true)
  | 8 => ("ReduceClusterModel", "doneBy", "[I", true)
  | 9 => ("ReduceClusterModel", "key", "[I", true)
  | 10 => ("ReduceClusterModel", "value", "[I", true)
  | 11 => ("ReduceClusterModel", "perChunk", "[I", true)
  | 12 => ("ReduceClusterModel", "pairs", "I", false)
  | 13 => ("ReduceClusterModel", "chunks", "I", false)
  | 14 => ("ReduceClusterModel", "thrown", "I", false)
  | 15 => ("ReduceClusterModel", "least", "I", false)
  | 16 => ("ReduceClusterModel", "jobLeast", "I", false)
  | 17 => ("ReduceClusterModel", "mapper", "I", false)
  | 18 => ("ReduceClusterModel", "reducer", "I", false)
  | 19 => ("ReduceClusterModel", "partitions", "I", false)
  | 20 => ("ReduceClusterModel", "buffer", "I", false)
  | 21 => ("ReduceClusterModel", "ticks", "I", false)
  | 22 => ("ReduceClusterModel", "ended", "I", false)
  | 23 => ("ReduceClusterModel", "seconds", "I", false)
  | 24 => ("ReduceClusterModel", "undone", "I", false)
  | 25 => ("ReduceClusterModel", "outPartitions", "I", false)
  | 26 => ("ReduceClusterModel", "job", "Z", false)
  | 27 => ("ReduceClusterModel", "any", "Z", false)
  | 28 => ("ReduceClusterModel", "outKey", "[I", true)
  | 29 => ("ReduceClusterModel", "outValue", "[I", true)
  | _ => ("ReduceClusterModel", "outCount", "[I", true)
def ft_M : Nat → FieldType := fun k => match k with
  | 0 => .array (.int)
  | 1 => .array (.int)
  | 2 => .array (.int)
  | 3 => .array (.int)
  | 4 => .array (.int)
  | 5 => .array (.int)
  | 6 => .array (.boolean)
  | 7 => .array (.boolean)
  | 8 => .array (.int)
  | 9 => .array (.int)
  | 10 => .array (.int)
  | 11 => .array (.int)
  | 12 => .int
  | 13 => .int
  | 14 => .int
  | 15 => .int
  | 16 => .int
  | 17 => .int
  | 18 => .int
  | 19 => .int
  | 20 => .int
  | 21 => .int
  | 22 => .int
  | 23 => .int
  | 24 => .int
  | 25 => .int
  | 26 => .boolean
  | 27 => .boolean
  | 28 => .array (.int)
  | 29 => .array (.int)
  | _ => .array (.int)
abbrev xcls : List vw_C := [("ReduceCluster", F_A, 15), ("ReduceCluster$Chunk", F_C, 2), ("ReduceCluster$Job", F_J, 5), ("ReduceCluster$Pairs", F_P, 3), ("ReduceCluster$Task", F_T, 5), ("ReduceCluster$Worker", F_K, 5), ("ReduceClusterModel", F_M, 31)]
def xft (k : Nat) : Nat → FieldType := match k with
  | 0 => ft_A
  | 1 => ft_C
  | 2 => ft_J
  | 3 => ft_P
  | 4 => ft_T
  | 5 => ft_K
  | _ => ft_M
def xat : Nat → Option FieldType := fun t => match t with
  | 100 => some .int
  | 101 => some .boolean
  | 102 => some .long
  | 110 => some (.object "ReduceCluster$Worker")
  | 111 => some (.object "ReduceCluster$Chunk")
  | 112 => some (.object "ReduceCluster$Task")
  | 113 => some (.object "ReduceCluster$Pairs")
  | _ => none
def xexn : List String := ["java/lang/IllegalArgumentException", "java/lang/IllegalStateException", "java/util/NoSuchElementException", "java/lang/ArithmeticException"]
def xNC : List (String × String) := [("java/lang/IllegalArgumentException", "java/lang/IllegalStateException"), ("java/lang/IllegalArgumentException", "java/util/NoSuchElementException"), ("java/lang/IllegalArgumentException", "java/lang/ArithmeticException"), ("java/lang/IllegalStateException", "java/lang/IllegalArgumentException"), ("java/lang/IllegalStateException", "java/util/NoSuchElementException"), ("java/lang/IllegalStateException", "java/lang/ArithmeticException"), ("java/util/NoSuchElementException", "java/lang/IllegalArgumentException"), ("java/util/NoSuchElementException", "java/lang/IllegalStateException"), ("java/util/NoSuchElementException", "java/lang/ArithmeticException"), ("java/lang/ArithmeticException", "java/lang/IllegalArgumentException"), ("java/lang/ArithmeticException", "java/lang/IllegalStateException"), ("java/lang/ArithmeticException", "java/util/NoSuchElementException")]
def xSS : List (String × String × String) := [("java/lang/Throwable", "UNASSIGNED_STACK", "[Ljava/lang/StackTraceElement;"), ("java/lang/Throwable", "SUPPRESSED_SENTINEL", "Ljava/util/List;")]
def xSWW : List Cond := [.laysStatic Bundle.tN "UNASSIGNED_STACK" Bundle.steD, .laysStatic Bundle.tN "SUPPRESSED_SENTINEL" Bundle.listD, .isRef (.static Bundle.tN "UNASSIGNED_STACK" Bundle.steD), .isRef (.static Bundle.tN "SUPPRESSED_SENTINEL" Bundle.listD)]
theorem i_A : ∀ w ∈ u_ws "ReduceCluster" F_A 15, w ∈ xTT := by
  intro w hw
  simp only [u_ws, List.mem_map, List.mem_range] at hw
  obtain ⟨k, hk, rfl⟩ := hw
  match k, hk with
  | 0, _ => exact xin1 167 rfl rfl
  | 1, _ => exact xin1 169 rfl rfl
  | 2, _ => exact xin1 171 rfl rfl
  | 3, _ => exact xin1 173 rfl rfl
  | 4, _ => exact xin1 175 rfl rfl
  | 5, _ => exact xin1 177 rfl rfl
  | 6, _ => exact xin1 179 rfl rfl
  | 7, _ => exact xin1 181 rfl rfl
  | 8, _ => exact xin1 183 rfl rfl
  | 9, _ => exact xin1 185 rfl rfl
  | 10, _ => exact xin1 187 rfl rfl
  | 11, _ => exact xin1 189 rfl rfl
  | 12, _ => exact xin1 191 rfl rfl
  | 13, _ => exact xin1 193 rfl rfl
  | 14, _ => exact xin1 195 rfl rfl
  | n + 15, h => omega
theorem t_A_ok : ∀ k, k < 15 → parseFieldDescriptor (F_A k).2.2.1 = some (ft_A k) := by decide +kernel
theorem n_A : ∀ a, a < 15 → ∀ b, b < 15 → a ≠ b → (F_A a).2.1 ≠ (F_A b).2.1 := by decide +kernel
theorem i_C : ∀ w ∈ u_ws "ReduceCluster$Chunk" F_C 2, w ∈ xTT := by
  intro w hw
  simp only [u_ws, List.mem_map, List.mem_range] at hw
  obtain ⟨k, hk, rfl⟩ := hw
  match k, hk with
  | 0, _ => exact xin1 118 rfl rfl
  | 1, _ => exact xin1 120 rfl rfl
  | n + 2, h => omega
theorem t_C_ok : ∀ k, k < 2 → parseFieldDescriptor (F_C k).2.2.1 = some (ft_C k) := by decide +kernel
theorem n_C : ∀ a, a < 2 → ∀ b, b < 2 → a ≠ b → (F_C a).2.1 ≠ (F_C b).2.1 := by decide +kernel
theorem i_J : ∀ w ∈ u_ws "ReduceCluster$Job" F_J 5, w ∈ xTT := by
  intro w hw
  simp only [u_ws, List.mem_map, List.mem_range] at hw
  obtain ⟨k, hk, rfl⟩ := hw
  match k, hk with
  | 0, _ => exact xin1 71 rfl rfl
  | 1, _ => exact xin1 73 rfl rfl
  | 2, _ => exact xin1 75 rfl rfl
  | 3, _ => exact xin1 77 rfl rfl
  | 4, _ => exact xin1 79 rfl rfl
  | n + 5, h => omega
theorem t_J_ok : ∀ k, k < 5 → parseFieldDescriptor (F_J k).2.2.1 = some (ft_J k) := by decide +kernel
theorem n_J : ∀ a, a < 5 → ∀ b, b < 5 → a ≠ b → (F_J a).2.1 ≠ (F_J b).2.1 := by decide +kernel
theorem i_P : ∀ w ∈ u_ws "ReduceCluster$Pairs" F_P 3, w ∈ xTT := by
  intro w hw
  simp only [u_ws, List.mem_map, List.mem_range] at hw
  obtain ⟨k, hk, rfl⟩ := hw
  match k, hk with
  | 0, _ => exact xin1 45 rfl rfl
  | 1, _ => exact xin1 47 rfl rfl
  | 2, _ => exact xin1 49 rfl rfl
  | n + 3, h => omega
theorem t_P_ok : ∀ k, k < 3 → parseFieldDescriptor (F_P k).2.2.1 = some (ft_P k) := by decide +kernel
theorem n_P : ∀ a, a < 3 → ∀ b, b < 3 → a ≠ b → (F_P a).2.1 ≠ (F_P b).2.1 := by decide +kernel
theorem i_T : ∀ w ∈ u_ws "ReduceCluster$Task" F_T 5, w ∈ xTT := by
  intro w hw
  simp only [u_ws, List.mem_map, List.mem_range] at hw
  obtain ⟨k, hk, rfl⟩ := hw
  match k, hk with
  | 0, _ => exact xin1 141 rfl rfl
  | 1, _ => exact xin1 143 rfl rfl
  | 2, _ => exact xin1 145 rfl rfl
  | 3, _ => exact xin1 147 rfl rfl
  | 4, _ => exact xin1 149 rfl rfl
  | n + 5, h => omega
theorem t_T_ok : ∀ k, k < 5 → parseFieldDescriptor (F_T k).2.2.1 = some (ft_T k) := by decide +kernel
theorem n_T : ∀ a, a < 5 → ∀ b, b < 5 → a ≠ b → (F_T a).2.1 ≠ (F_T b).2.1 := by decide +kernel
theorem i_K : ∀ w ∈ u_ws "ReduceCluster$Worker" F_K 5, w ∈ xTT := by
  intro w hw
  simp only [u_ws, List.mem_map, List.mem_range] at hw
  obtain ⟨k, hk, rfl⟩ := hw
  match k, hk with
  | 0, _ => exact xin1 98 rfl rfl
  | 1, _ => exact xin1 100 rfl rfl
  | 2, _ => exact xin1 102 rfl rfl
  | 3, _ => exact xin1 104 rfl rfl
  | 4, _ => exact xin1 106 rfl rfl
  | n + 5, h => omega
theorem t_K_ok : ∀ k, k < 5 → parseFieldDescriptor (F_K k).2.2.1 = some (ft_K k) := by decide +kernel
theorem n_K : ∀ a, a < 5 → ∀ b, b < 5 → a ≠ b → (F_K a).2.1 ≠ (F_K b).2.1 := by decide +kernel
theorem i_M : ∀ w ∈ u_ws "ReduceClusterModel" F_M 31, w ∈ xTT := by
  intro w hw
  simp only [u_ws, List.mem_map, List.mem_range] at hw
  obtain ⟨k, hk, rfl⟩ := hw
  match k, hk with
  | 0, _ => exact xin3 115 rfl rfl
  | 1, _ => exact xin3 117 rfl rfl
  | 2, _ => exact xin3 119 rfl rfl
  | 3, _ => exact xin3 121 rfl rfl
  | 4, _ => exact xin3 123 rfl rfl
  | 5, _ => exact xin3 125 rfl rfl
  | 6, _ => exact xin3 127 rfl rfl
  | 7, _ => exact xin3 129 rfl rfl
  | 8, _ => exact xin3 131 rfl rfl
  | 9, _ => exact xin3 133 rfl rfl
  | 10, _ => exact xin3 135 rfl rfl
  | 11, _ => exact xin3 137 rfl rfl
  | 12, _ => exact xin3 139 rfl rfl
  | 13, _ => exact xin3 141 rfl rfl
  | 14, _ => exact xin3 143 rfl rfl
  | 15, _ => exact xin3 145 rfl rfl
  | 16, _ => exact xin3 147 rfl rfl
  | 17, _ => exact xin3 149 rfl rfl
  | 18, _ => exact xin3 151 rfl rfl
  | 19, _ => exact xin3 153 rfl rfl
  | 20, _ => exact xin3 155 rfl rfl
  | 21, _ => exact xin3 157 rfl rfl
  | 22, _ => exact xin3 159 rfl rfl
  | 23, _ => exact xin3 161 rfl rfl
  | 24, _ => exact xin3 163 rfl rfl
  | 25, _ => exact xin3 165 rfl rfl
  | 26, _ => exact xin3 167 rfl rfl
  | 27, _ => exact xin3 169 rfl rfl
  | 28, _ => exact xin3 171 rfl rfl
  | 29, _ => exact xin3 173 rfl rfl
  | 30, _ => exact xin3 175 rfl rfl
  | n + 31, h => omega
theorem t_M_ok : ∀ k, k < 31 → parseFieldDescriptor (F_M k).2.2.1 = some (ft_M k) := by decide +kernel
theorem n_M : ∀ a, a < 31 → ∀ b, b < 31 → a ≠ b → (F_M a).2.1 ≠ (F_M b).2.1 := by decide +kernel
theorem xclsok : ∀ (k : Nat) (C : vw_C), xcls[k]? = some C → k < 99 ∧ (∀ w ∈ u_ws C.1 C.2.1 C.2.2, w ∈ xTT) ∧ (∀ j, j < C.2.2 → parseFieldDescriptor (C.2.1 j).2.2.1 = some (xft k j)) ∧ (∀ a, a < C.2.2 → ∀ b, b < C.2.2 → a ≠ b → (C.2.1 a).2.1 ≠ (C.2.1 b).2.1) := by
  intro k C h
  match k, h with
  | 0, h => cases h; exact ⟨by decide, i_A, t_A_ok, n_A⟩
  | 1, h => cases h; exact ⟨by decide, i_C, t_C_ok, n_C⟩
  | 2, h => cases h; exact ⟨by decide, i_J, t_J_ok, n_J⟩
  | 3, h => cases h; exact ⟨by decide, i_P, t_P_ok, n_P⟩
  | 4, h => cases h; exact ⟨by decide, i_T, t_T_ok, n_T⟩
  | 5, h => cases h; exact ⟨by decide, i_K, t_K_ok, n_K⟩
  | 6, h => cases h; exact ⟨by decide, i_M, t_M_ok, n_M⟩
  | n + 7, h => simp [xcls] at h
def m_A_init : xM := (⟨"ReduceCluster", "<init>", "()V"⟩, prog_1_method_1_code, 2, (Option.none : Option FieldType), [])
theorem wc_A_init : Cond.code (xMn m_A_init) (xMc m_A_init) (xMl m_A_init) (xMr m_A_init) ∈ xTT := xin1 20 rfl rfl
def m_O_init : xM := (⟨"java/lang/Object", "<init>", "()V"⟩, object_method_1_code, 1, (Option.none : Option FieldType), [])
theorem wc_O_init : Cond.code (xMn m_O_init) (xMc m_O_init) (xMl m_O_init) (xMr m_O_init) ∈ xTT := xin1 23 rfl rfl
def m_P_init : xM := (⟨"ReduceCluster$Pairs", "<init>", "(I)V"⟩, prog_4_method_1_code, 2, (Option.none : Option FieldType), [])
theorem wc_P_init : Cond.code (xMn m_P_init) (xMc m_P_init) (xMl m_P_init) (xMr m_P_init) ∈ xTT := xin1 34 rfl rfl
def m_J_init : xM := (⟨"ReduceCluster$Job", "<init>", "()V"⟩, prog_3_method_1_code, 2, (Option.none : Option FieldType), [])
theorem wc_J_init : Cond.code (xMn m_J_init) (xMc m_J_init) (xMl m_J_init) (xMr m_J_init) ∈ xTT := xin1 57 rfl rfl
def m_K_init : xM := (⟨"ReduceCluster$Worker", "<init>", "()V"⟩, prog_6_method_1_code, 1, (Option.none : Option FieldType), [])
theorem wc_K_init : Cond.code (xMn m_K_init) (xMc m_K_init) (xMl m_K_init) (xMr m_K_init) ∈ xTT := xin1 86 rfl rfl
def m_C_init : xM := (⟨"ReduceCluster$Chunk", "<init>", "()V"⟩, prog_2_method_1_code, 1, (Option.none : Option FieldType), [])
theorem wc_C_init : Cond.code (xMn m_C_init) (xMc m_C_init) (xMl m_C_init) (xMr m_C_init) ∈ xTT := xin1 112 rfl rfl
def m_T_init : xM := (⟨"ReduceCluster$Task", "<init>", "(ZI)V"⟩, prog_5_method_1_code, 3, (Option.none : Option FieldType), [])
theorem wc_T_init : Cond.code (xMn m_T_init) (xMc m_T_init) (xMl m_T_init) (xMr m_T_init) ∈ xTT := xin1 126 rfl rfl
def m_A_filter : xM := (⟨"ReduceCluster", "filter", "(I)V"⟩, prog_1_method_5_code, 2, (Option.none : Option FieldType), [])
theorem wc_A_filter : Cond.code (xMn m_A_filter) (xMc m_A_filter) (xMl m_A_filter) (xMr m_A_filter) ∈ xTT := xin1 201 rfl rfl
def m_A_count : xM := (⟨"ReduceCluster", "count", "(I)I"⟩, prog_1_method_13_code, 2, (Option.some FieldType.int), [])
theorem wc_A_count : Cond.code (xMn m_A_count) (xMc m_A_count) (xMl m_A_count) (xMr m_A_count) ∈ xTT := xin1 205 rfl rfl
def m_A_pairsOfChunks : xM := (⟨"ReduceCluster", "pairsOfChunks", "()I"⟩, prog_1_method_18_code, 4, (Option.some FieldType.int), [])
theorem wc_A_pairsOfChunks : Cond.code (xMn m_A_pairsOfChunks) (xMc m_A_pairsOfChunks) (xMl m_A_pairsOfChunks) (xMr m_A_pairsOfChunks) ∈ xTT := xin1 209 rfl rfl
def m_A_mapNumber : xM := (⟨"ReduceCluster", "mapNumber", "(IILReduceCluster$Pairs;)V"⟩, prog_1_method_19_code, 3, (Option.none : Option FieldType), [])
theorem wc_A_mapNumber : Cond.code (xMn m_A_mapNumber) (xMc m_A_mapNumber) (xMl m_A_mapNumber) (xMr m_A_mapNumber) ∈ xTT := xin1 212 rfl rfl
def m_Z_floorMod : xM := (⟨"java/lang/Math", "floorMod", "(II)I"⟩, prog_13_method_50_code, 3, (Option.some FieldType.int), [])
theorem wc_Z_floorMod : Cond.code (xMn m_Z_floorMod) (xMc m_Z_floorMod) (xMl m_Z_floorMod) (xMr m_Z_floorMod) ∈ xTT := xin1 215 rfl rfl
def m_P_append : xM := (⟨"ReduceCluster$Pairs", "append", "(II)V"⟩, prog_4_method_2_code, 3, (Option.none : Option FieldType), [])
theorem wc_P_append : Cond.code (xMn m_P_append) (xMc m_P_append) (xMl m_P_append) (xMr m_P_append) ∈ xTT := xin1 219 rfl rfl
def m_A_mapDigits : xM := (⟨"ReduceCluster", "mapDigits", "(ILReduceCluster$Pairs;)V"⟩, prog_1_method_20_code, 5, (Option.none : Option FieldType), [])
theorem wc_A_mapDigits : Cond.code (xMn m_A_mapDigits) (xMc m_A_mapDigits) (xMl m_A_mapDigits) (xMr m_A_mapDigits) ∈ xTT := xin1 222 rfl rfl
def m_Z_abs : xM := (⟨"java/lang/Math", "abs", "(J)J"⟩, prog_13_method_61_code, 2, (Option.some FieldType.long), [])
theorem wc_Z_abs : Cond.code (xMn m_Z_abs) (xMc m_Z_abs) (xMl m_Z_abs) (xMr m_Z_abs) ∈ xTT := xin1 225 rfl rfl
def m_L_chunk : xM := (⟨"ReduceClusterLaw", "chunk", "(LReduceCluster;JII[J)I"⟩, method_3_code, 7, (Option.some FieldType.int), [((0 : Nat), (13 : Nat), (16 : Nat), (13 : Nat)), ((0 : Nat), (13 : Nat), (20 : Nat), (15 : Nat))])
theorem wc_L_chunk : Cond.codeWith (xMn m_L_chunk) (xMc m_L_chunk) (xMl m_L_chunk) (xMr m_L_chunk) (xMh m_L_chunk) ∈ xTT := xin1 229 rfl rfl
def m_A_chunk : xM := (⟨"ReduceCluster", "chunk", "(JII)I"⟩, prog_1_method_2_code, 5, (Option.some FieldType.int), [])
theorem wc_A_chunk : Cond.code (xMn m_A_chunk) (xMc m_A_chunk) (xMl m_A_chunk) (xMr m_A_chunk) ∈ xTT := xin1 235 rfl rfl
def m_A_demandRange : xM := (⟨"ReduceCluster", "demandRange", "(III)V"⟩, prog_1_method_14_code, 3, (Option.none : Option FieldType), [])
theorem wc_A_demandRange : Cond.code (xMn m_A_demandRange) (xMc m_A_demandRange) (xMl m_A_demandRange) (xMr m_A_demandRange) ∈ xTT := xin1 238 rfl rfl
def m_C_fill : xM := (⟨"ReduceCluster$Chunk", "fill", "(JII)V"⟩, prog_2_method_2_code, 6, (Option.none : Option FieldType), [])
theorem wc_C_fill : Cond.code (xMn m_C_fill) (xMc m_C_fill) (xMl m_C_fill) (xMr m_C_fill) ∈ xTT := xin2 81 rfl rfl
def m_Z_min : xM := (⟨"java/lang/Math", "min", "(II)I"⟩, prog_13_method_69_code, 2, (Option.some FieldType.int), [])
theorem wc_Z_min : Cond.code (xMn m_Z_min) (xMc m_Z_min) (xMl m_Z_min) (xMr m_Z_min) ∈ xTT := xin2 84 rfl rfl
def m_L_worker : xM := (⟨"ReduceClusterLaw", "worker", "(LReduceCluster;IZ)I"⟩, method_4_code, 4, (Option.some FieldType.int), [((0 : Nat), (6 : Nat), (9 : Nat), (13 : Nat))])
theorem wc_L_worker : Cond.codeWith (xMn m_L_worker) (xMc m_L_worker) (xMl m_L_worker) (xMr m_L_worker) (xMh m_L_worker) ∈ xTT := xin2 87 rfl rfl
def m_A_worker : xM := (⟨"ReduceCluster", "worker", "(IZ)V"⟩, prog_1_method_3_code, 3, (Option.none : Option FieldType), [])
theorem wc_A_worker : Cond.code (xMn m_A_worker) (xMc m_A_worker) (xMl m_A_worker) (xMr m_A_worker) ∈ xTT := xin2 91 rfl rfl
def m_K_drop : xM := (⟨"ReduceCluster$Worker", "drop", "()V"⟩, prog_6_method_3_code, 1, (Option.none : Option FieldType), [])
theorem wc_K_drop : Cond.code (xMn m_K_drop) (xMc m_K_drop) (xMl m_K_drop) (xMr m_K_drop) ∈ xTT := xin2 95 rfl rfl
def m_A_loseDisk : xM := (⟨"ReduceCluster", "loseDisk", "(I)V"⟩, prog_1_method_34_code, 4, (Option.none : Option FieldType), [])
theorem wc_A_loseDisk : Cond.code (xMn m_A_loseDisk) (xMc m_A_loseDisk) (xMl m_A_loseDisk) (xMr m_A_loseDisk) ∈ xTT := xin2 99 rfl rfl
def m_A_giveUpReduceTasks : xM := (⟨"ReduceCluster", "giveUpReduceTasks", "()V"⟩, prog_1_method_35_code, 3, (Option.none : Option FieldType), [])
theorem wc_A_giveUpReduceTasks : Cond.code (xMn m_A_giveUpReduceTasks) (xMc m_A_giveUpReduceTasks) (xMl m_A_giveUpReduceTasks) (xMr m_A_giveUpReduceTasks) ∈ xTT := xin2 103 rfl rfl
def m_L_speed : xM := (⟨"ReduceClusterLaw", "speed", "(LReduceCluster;II)I"⟩, method_5_code, 4, (Option.some FieldType.int), [((0 : Nat), (6 : Nat), (9 : Nat), (13 : Nat))])
theorem wc_L_speed : Cond.codeWith (xMn m_L_speed) (xMc m_L_speed) (xMl m_L_speed) (xMr m_L_speed) (xMh m_L_speed) ∈ xTT := xin2 106 rfl rfl
def m_A_speed : xM := (⟨"ReduceCluster", "speed", "(II)V"⟩, prog_1_method_4_code, 3, (Option.none : Option FieldType), [])
theorem wc_A_speed : Cond.code (xMn m_A_speed) (xMc m_A_speed) (xMl m_A_speed) (xMr m_A_speed) ∈ xTT := xin2 110 rfl rfl
def m_L_begin : xM := (⟨"ReduceClusterLaw", "begin", "(LReduceCluster;IIII[J)I"⟩, method_6_code, 7, (Option.some FieldType.int), [((0 : Nat), (14 : Nat), (17 : Nat), (13 : Nat)), ((0 : Nat), (14 : Nat), (21 : Nat), (15 : Nat))])
theorem wc_L_begin : Cond.codeWith (xMn m_L_begin) (xMc m_L_begin) (xMl m_L_begin) (xMr m_L_begin) (xMh m_L_begin) ∈ xTT := xin2 113 rfl rfl
def m_A_begin : xM := (⟨"ReduceCluster", "begin", "(IIII)I"⟩, prog_1_method_6_code, 6, (Option.some FieldType.int), [])
theorem wc_A_begin : Cond.code (xMn m_A_begin) (xMc m_A_begin) (xMl m_A_begin) (xMr m_A_begin) ∈ xTT := xin2 117 rfl rfl
def m_J_prepare : xM := (⟨"ReduceCluster$Job", "prepare", "(III)V"⟩, prog_3_method_2_code, 5, (Option.none : Option FieldType), [])
theorem wc_J_prepare : Cond.code (xMn m_J_prepare) (xMc m_J_prepare) (xMl m_J_prepare) (xMr m_J_prepare) ∈ xTT := xin2 121 rfl rfl
def m_A_mapChunk : xM := (⟨"ReduceCluster", "mapChunk", "(I)I"⟩, prog_1_method_17_code, 4, (Option.some FieldType.int), [])
theorem wc_A_mapChunk : Cond.code (xMn m_A_mapChunk) (xMc m_A_mapChunk) (xMl m_A_mapChunk) (xMr m_A_mapChunk) ∈ xTT := xin2 125 rfl rfl
def m_J_take : xM := (⟨"ReduceCluster$Job", "take", "(LReduceCluster$Pairs;)V"⟩, prog_3_method_4_code, 3, (Option.none : Option FieldType), [])
theorem wc_J_take : Cond.code (xMn m_J_take) (xMc m_J_take) (xMl m_J_take) (xMr m_J_take) ∈ xTT := xin2 129 rfl rfl
def m_J_partitionOf : xM := (⟨"ReduceCluster$Job", "partitionOf", "(I)I"⟩, prog_3_method_3_code, 2, (Option.some FieldType.int), [])
theorem wc_J_partitionOf : Cond.code (xMn m_J_partitionOf) (xMc m_J_partitionOf) (xMl m_J_partitionOf) (xMr m_J_partitionOf) ∈ xTT := xin2 133 rfl rfl
def m_Z_max : xM := (⟨"java/lang/Math", "max", "(II)I"⟩, prog_13_method_65_code, 2, (Option.some FieldType.int), [])
theorem wc_Z_max : Cond.code (xMn m_Z_max) (xMc m_Z_max) (xMl m_Z_max) (xMr m_Z_max) ∈ xTT := xin2 136 rfl rfl
def m_P_insertByKey : xM := (⟨"ReduceCluster$Pairs", "insertByKey", "(II)V"⟩, prog_4_method_3_code, 4, (Option.none : Option FieldType), [])
theorem wc_P_insertByKey : Cond.code (xMn m_P_insertByKey) (xMc m_P_insertByKey) (xMl m_P_insertByKey) (xMr m_P_insertByKey) ∈ xTT := xin2 141 rfl rfl
def m_A_runsOf : xM := (⟨"ReduceCluster", "runsOf", "(II)I"⟩, prog_1_method_16_code, 2, (Option.some FieldType.int), [])
theorem wc_A_runsOf : Cond.code (xMn m_A_runsOf) (xMc m_A_runsOf) (xMl m_A_runsOf) (xMr m_A_runsOf) ∈ xTT := xin2 144 rfl rfl
def m_T_renew : xM := (⟨"ReduceCluster$Task", "renew", "(II)V"⟩, prog_5_method_2_code, 3, (Option.none : Option FieldType), [])
theorem wc_T_renew : Cond.code (xMn m_T_renew) (xMc m_T_renew) (xMl m_T_renew) (xMr m_T_renew) ∈ xTT := xin2 149 rfl rfl
def m_L_run : xM := (⟨"ReduceClusterLaw", "run", "(LReduceCluster;I[J)I"⟩, method_7_code, 4, (Option.some FieldType.int), [((0 : Nat), (9 : Nat), (12 : Nat), (13 : Nat)), ((0 : Nat), (9 : Nat), (15 : Nat), (15 : Nat)), ((0 : Nat), (9 : Nat), (18 : Nat), (33 : Nat))])
theorem wc_L_run : Cond.codeWith (xMn m_L_run) (xMc m_L_run) (xMl m_L_run) (xMr m_L_run) (xMh m_L_run) ∈ xTT := xin2 152 rfl rfl
def m_A_run : xM := (⟨"ReduceCluster", "run", "(I)I"⟩, prog_1_method_7_code, 4, (Option.some FieldType.int), [])
theorem wc_A_run : Cond.code (xMn m_A_run) (xMc m_A_run) (xMl m_A_run) (xMr m_A_run) ∈ xTT := xin2 157 rfl rfl
def m_A_demandJob : xM := (⟨"ReduceCluster", "demandJob", "()V"⟩, prog_1_method_15_code, 1, (Option.none : Option FieldType), [])
theorem wc_A_demandJob : Cond.code (xMn m_A_demandJob) (xMc m_A_demandJob) (xMl m_A_demandJob) (xMr m_A_demandJob) ∈ xTT := xin2 161 rfl rfl
def m_A_passTick : xM := (⟨"ReduceCluster", "passTick", "()I"⟩, prog_1_method_21_code, 3, (Option.some FieldType.int), [])
theorem wc_A_passTick : Cond.code (xMn m_A_passTick) (xMc m_A_passTick) (xMl m_A_passTick) (xMr m_A_passTick) ∈ xTT := xin2 165 rfl rfl
def m_A_giveTask : xM := (⟨"ReduceCluster", "giveTask", "(I)V"⟩, prog_1_method_23_code, 4, (Option.none : Option FieldType), [])
theorem wc_A_giveTask : Cond.code (xMn m_A_giveTask) (xMc m_A_giveTask) (xMl m_A_giveTask) (xMr m_A_giveTask) ∈ xTT := xin2 169 rfl rfl
def m_A_allDone : xM := (⟨"ReduceCluster", "allDone", "(Z)Z"⟩, prog_1_method_33_code, 4, (Option.some FieldType.boolean), [])
theorem wc_A_allDone : Cond.code (xMn m_A_allDone) (xMc m_A_allDone) (xMl m_A_allDone) (xMr m_A_allDone) ∈ xTT := xin2 173 rfl rfl
def m_A_taskCount : xM := (⟨"ReduceCluster", "taskCount", "(Z)I"⟩, prog_1_method_32_code, 2, (Option.some FieldType.int), [])
theorem wc_A_taskCount : Cond.code (xMn m_A_taskCount) (xMc m_A_taskCount) (xMl m_A_taskCount) (xMr m_A_taskCount) ∈ xTT := xin2 177 rfl rfl
def m_T_isDone : xM := (⟨"ReduceCluster$Task", "isDone", "()Z"⟩, prog_5_method_3_code, 1, (Option.some FieldType.boolean), [])
theorem wc_T_isDone : Cond.code (xMn m_T_isDone) (xMc m_T_isDone) (xMl m_T_isDone) (xMr m_T_isDone) ∈ xTT := xin2 181 rfl rfl
def m_A_freshTask : xM := (⟨"ReduceCluster", "freshTask", "(ZI)LReduceCluster$Task;"⟩, prog_1_method_24_code, 7, (Option.some (FieldType.object "ReduceCluster$Task")), [])
theorem wc_A_freshTask : Cond.code (xMn m_A_freshTask) (xMc m_A_freshTask) (xMl m_A_freshTask) (xMr m_A_freshTask) ∈ xTT := xin2 185 rfl rfl
def m_A_doers : xM := (⟨"ReduceCluster", "doers", "(LReduceCluster$Task;)I"⟩, prog_1_method_28_code, 4, (Option.some FieldType.int), [])
theorem wc_A_doers : Cond.code (xMn m_A_doers) (xMc m_A_doers) (xMl m_A_doers) (xMr m_A_doers) ∈ xTT := xin2 189 rfl rfl
def m_A_canBeDone : xM := (⟨"ReduceCluster", "canBeDone", "(LReduceCluster$Task;)Z"⟩, prog_1_method_27_code, 3, (Option.some FieldType.boolean), [])
theorem wc_A_canBeDone : Cond.code (xMn m_A_canBeDone) (xMc m_A_canBeDone) (xMl m_A_canBeDone) (xMr m_A_canBeDone) ∈ xTT := xin2 193 rfl rfl
def m_A_isHome : xM := (⟨"ReduceCluster", "isHome", "(II)Z"⟩, prog_1_method_26_code, 2, (Option.some FieldType.boolean), [])
theorem wc_A_isHome : Cond.code (xMn m_A_isHome) (xMc m_A_isHome) (xMl m_A_isHome) (xMr m_A_isHome) ∈ xTT := xin2 196 rfl rfl
def m_A_taskForSecondTime : xM := (⟨"ReduceCluster", "taskForSecondTime", "(Z)LReduceCluster$Task;"⟩, prog_1_method_25_code, 8, (Option.some (FieldType.object "ReduceCluster$Task")), [])
theorem wc_A_taskForSecondTime : Cond.code (xMn m_A_taskForSecondTime) (xMc m_A_taskForSecondTime) (xMl m_A_taskForSecondTime) (xMr m_A_taskForSecondTime) ∈ xTT := xin2 200 rfl rfl
def m_A_leastDoer : xM := (⟨"ReduceCluster", "leastDoer", "(LReduceCluster$Task;)I"⟩, prog_1_method_29_code, 3, (Option.some FieldType.int), [])
theorem wc_A_leastDoer : Cond.code (xMn m_A_leastDoer) (xMc m_A_leastDoer) (xMl m_A_leastDoer) (xMr m_A_leastDoer) ∈ xTT := xin2 204 rfl rfl
def m_K_take : xM := (⟨"ReduceCluster$Worker", "take", "(LReduceCluster$Task;)V"⟩, prog_6_method_2_code, 2, (Option.none : Option FieldType), [])
theorem wc_K_take : Cond.code (xMn m_K_take) (xMc m_K_take) (xMl m_K_take) (xMr m_K_take) ∈ xTT := xin2 208 rfl rfl
def m_K_doUnits : xM := (⟨"ReduceCluster$Worker", "doUnits", "()Z"⟩, prog_6_method_4_code, 2, (Option.some FieldType.boolean), [])
theorem wc_K_doUnits : Cond.code (xMn m_K_doUnits) (xMc m_K_doUnits) (xMl m_K_doUnits) (xMr m_K_doUnits) ∈ xTT := xin2 212 rfl rfl
def m_A_completeTask : xM := (⟨"ReduceCluster", "completeTask", "(I)Z"⟩, prog_1_method_22_code, 4, (Option.some FieldType.boolean), [])
theorem wc_A_completeTask : Cond.code (xMn m_A_completeTask) (xMc m_A_completeTask) (xMl m_A_completeTask) (xMr m_A_completeTask) ∈ xTT := xin2 217 rfl rfl
def m_J_reduce : xM := (⟨"ReduceCluster$Job", "reduce", "(I)Z"⟩, prog_3_method_5_code, 7, (Option.some FieldType.boolean), [])
theorem wc_J_reduce : Cond.code (xMn m_J_reduce) (xMc m_J_reduce) (xMl m_J_reduce) (xMr m_J_reduce) ∈ xTT := xin2 221 rfl rfl
def m_J_combine : xM := (⟨"ReduceCluster$Job", "combine", "(III)I"⟩, prog_3_method_6_code, 3, (Option.some FieldType.int), [])
theorem wc_J_combine : Cond.code (xMn m_J_combine) (xMc m_J_combine) (xMl m_J_combine) (xMr m_J_combine) ∈ xTT := xin2 225 rfl rfl
def m_A_giveUpJob : xM := (⟨"ReduceCluster", "giveUpJob", "()V"⟩, prog_1_method_37_code, 2, (Option.none : Option FieldType), [])
theorem wc_A_giveUpJob : Cond.code (xMn m_A_giveUpJob) (xMc m_A_giveUpJob) (xMl m_A_giveUpJob) (xMr m_A_giveUpJob) ∈ xTT := xin2 229 rfl rfl
def m_A_endJob : xM := (⟨"ReduceCluster", "endJob", "()V"⟩, prog_1_method_36_code, 2, (Option.none : Option FieldType), [])
theorem wc_A_endJob : Cond.code (xMn m_A_endJob) (xMc m_A_endJob) (xMl m_A_endJob) (xMr m_A_endJob) ∈ xTT := xin2 233 rfl rfl
def m_A_anyoneWorks : xM := (⟨"ReduceCluster", "anyoneWorks", "()Z"⟩, prog_1_method_31_code, 2, (Option.some FieldType.boolean), [])
theorem wc_A_anyoneWorks : Cond.code (xMn m_A_anyoneWorks) (xMc m_A_anyoneWorks) (xMl m_A_anyoneWorks) (xMr m_A_anyoneWorks) ∈ xTT := xin2 237 rfl rfl
def m_L_stop : xM := (⟨"ReduceClusterLaw", "stop", "(LReduceCluster;)I"⟩, method_8_code, 2, (Option.some FieldType.int), [((0 : Nat), (4 : Nat), (7 : Nat), (15 : Nat))])
theorem wc_L_stop : Cond.codeWith (xMn m_L_stop) (xMc m_L_stop) (xMl m_L_stop) (xMr m_L_stop) (xMh m_L_stop) ∈ xTT := xin3 15 rfl rfl
def m_A_stop : xM := (⟨"ReduceCluster", "stop", "()V"⟩, prog_1_method_8_code, 1, (Option.none : Option FieldType), [])
theorem wc_A_stop : Cond.code (xMn m_A_stop) (xMc m_A_stop) (xMl m_A_stop) (xMr m_A_stop) ∈ xTT := xin3 19 rfl rfl
def m_L_output : xM := (⟨"ReduceClusterLaw", "output", "(LReduceCluster;III[J)I"⟩, method_9_code, 6, (Option.some FieldType.int), [((0 : Nat), (12 : Nat), (15 : Nat), (13 : Nat)), ((0 : Nat), (12 : Nat), (19 : Nat), (42 : Nat))])
theorem wc_L_output : Cond.codeWith (xMn m_L_output) (xMc m_L_output) (xMl m_L_output) (xMr m_L_output) (xMh m_L_output) ∈ xTT := xin3 22 rfl rfl
def m_A_output : xM := (⟨"ReduceCluster", "output", "(III)I"⟩, prog_1_method_9_code, 5, (Option.some FieldType.int), [])
theorem wc_A_output : Cond.code (xMn m_A_output) (xMc m_A_output) (xMl m_A_output) (xMr m_A_output) ∈ xTT := xin3 27 rfl rfl
def m_L_find : xM := (⟨"ReduceClusterLaw", "find", "(LReduceCluster;I[J)I"⟩, method_10_code, 4, (Option.some FieldType.int), [((0 : Nat), (9 : Nat), (12 : Nat), (42 : Nat))])
theorem wc_L_find : Cond.codeWith (xMn m_L_find) (xMc m_L_find) (xMl m_L_find) (xMr m_L_find) (xMh m_L_find) ∈ xTT := xin3 45 rfl rfl
def m_A_find : xM := (⟨"ReduceCluster", "find", "(I)I"⟩, prog_1_method_10_code, 4, (Option.some FieldType.int), [])
theorem wc_A_find : Cond.code (xMn m_A_find) (xMc m_A_find) (xMl m_A_find) (xMr m_A_find) ∈ xTT := xin3 49 rfl rfl
def m_P_indexOf : xM := (⟨"ReduceCluster$Pairs", "indexOf", "(I)I"⟩, prog_4_method_4_code, 3, (Option.some FieldType.int), [])
theorem wc_P_indexOf : Cond.code (xMn m_P_indexOf) (xMc m_P_indexOf) (xMl m_P_indexOf) (xMr m_P_indexOf) ∈ xTT := xin3 54 rfl rfl
def m_L_task : xM := (⟨"ReduceClusterLaw", "task", "(LReduceCluster;ZII[J)I"⟩, method_11_code, 6, (Option.some FieldType.int), [((0 : Nat), (12 : Nat), (15 : Nat), (13 : Nat)), ((0 : Nat), (12 : Nat), (19 : Nat), (42 : Nat)), ((0 : Nat), (12 : Nat), (23 : Nat), (15 : Nat))])
theorem wc_L_task : Cond.codeWith (xMn m_L_task) (xMc m_L_task) (xMl m_L_task) (xMr m_L_task) (xMh m_L_task) ∈ xTT := xin3 57 rfl rfl
def m_A_task : xM := (⟨"ReduceCluster", "task", "(ZII)I"⟩, prog_1_method_11_code, 5, (Option.some FieldType.int), [])
theorem wc_A_task : Cond.code (xMn m_A_task) (xMc m_A_task) (xMl m_A_task) (xMr m_A_task) ∈ xTT := xin3 61 rfl rfl
def m_A_stateOf : xM := (⟨"ReduceCluster", "stateOf", "(LReduceCluster$Task;)I"⟩, prog_1_method_30_code, 2, (Option.some FieldType.int), [])
theorem wc_A_stateOf : Cond.code (xMn m_A_stateOf) (xMc m_A_stateOf) (xMl m_A_stateOf) (xMr m_A_stateOf) ∈ xTT := xin3 65 rfl rfl
def m_L_ofWorker : xM := (⟨"ReduceClusterLaw", "ofWorker", "(LReduceCluster;II[J)I"⟩, method_12_code, 5, (Option.some FieldType.int), [((0 : Nat), (10 : Nat), (13 : Nat), (13 : Nat))])
theorem wc_L_ofWorker : Cond.codeWith (xMn m_L_ofWorker) (xMc m_L_ofWorker) (xMl m_L_ofWorker) (xMr m_L_ofWorker) (xMh m_L_ofWorker) ∈ xTT := xin3 68 rfl rfl
def m_A_ofWorker : xM := (⟨"ReduceCluster", "ofWorker", "(II)I"⟩, prog_1_method_12_code, 3, (Option.some FieldType.int), [])
theorem wc_A_ofWorker : Cond.code (xMn m_A_ofWorker) (xMc m_A_ofWorker) (xMl m_A_ofWorker) (xMr m_A_ofWorker) ∈ xTT := xin3 72 rfl rfl
def m_K_taskNumber : xM := (⟨"ReduceCluster$Worker", "taskNumber", "()I"⟩, prog_6_method_5_code, 1, (Option.some FieldType.int), [])
theorem wc_K_taskNumber : Cond.code (xMn m_K_taskNumber) (xMc m_K_taskNumber) (xMl m_K_taskNumber) (xMr m_K_taskNumber) ∈ xTT := xin3 76 rfl rfl
def m_M_init : xM := (⟨"ReduceClusterModel", "<init>", "()V"⟩, prog_8_method_1_code, 1, (Option.none : Option FieldType), [])
theorem wc_M_init : Cond.code (xMn m_M_init) (xMc m_M_init) (xMl m_M_init) (xMr m_M_init) ∈ xTT := xin3 81 rfl rfl
def m_M_thrown : xM := (⟨"ReduceClusterModel", "thrown", "()I"⟩, prog_8_method_2_code, 1, (Option.some FieldType.int), [])
theorem wc_M_thrown : Cond.code (xMn m_M_thrown) (xMc m_M_thrown) (xMl m_M_thrown) (xMr m_M_thrown) ∈ xTT := xin3 182 rfl rfl
def m_M_chunk : xM := (⟨"ReduceClusterModel", "chunk", "(JII)I"⟩, prog_8_method_7_code, 6, (Option.some FieldType.int), [])
theorem wc_M_chunk : Cond.code (xMn m_M_chunk) (xMc m_M_chunk) (xMl m_M_chunk) (xMr m_M_chunk) ∈ xTT := xin3 186 rfl rfl
def m_M_in : xM := (⟨"ReduceClusterModel", "in", "(III)Z"⟩, prog_8_method_3_code, 3, (Option.some FieldType.boolean), [])
theorem wc_M_in : Cond.code (xMn m_M_in) (xMc m_M_in) (xMl m_M_in) (xMr m_M_in) ∈ xTT := xin3 189 rfl rfl
def m_M_bad : xM := (⟨"ReduceClusterModel", "bad", "(Z)Z"⟩, prog_8_method_4_code, 2, (Option.some FieldType.boolean), [])
theorem wc_M_bad : Cond.code (xMn m_M_bad) (xMc m_M_bad) (xMl m_M_bad) (xMr m_M_bad) ∈ xTT := xin3 193 rfl rfl
def m_M_fail : xM := (⟨"ReduceClusterModel", "fail", "(I)I"⟩, prog_8_method_5_code, 2, (Option.some FieldType.int), [])
theorem wc_M_fail : Cond.code (xMn m_M_fail) (xMc m_M_fail) (xMl m_M_fail) (xMr m_M_fail) ∈ xTT := xin3 197 rfl rfl
def m_M_worker : xM := (⟨"ReduceClusterModel", "worker", "(IZ)V"⟩, prog_8_method_16_code, 5, (Option.none : Option FieldType), [])
theorem wc_M_worker : Cond.code (xMn m_M_worker) (xMc m_M_worker) (xMl m_M_worker) (xMr m_M_worker) ∈ xTT := xin3 201 rfl rfl
def m_M_giveUp : xM := (⟨"ReduceClusterModel", "giveUp", "(Z)V"⟩, prog_8_method_15_code, 3, (Option.none : Option FieldType), [])
theorem wc_M_giveUp : Cond.code (xMn m_M_giveUp) (xMc m_M_giveUp) (xMl m_M_giveUp) (xMr m_M_giveUp) ∈ xTT := xin3 205 rfl rfl
def m_M_speed : xM := (⟨"ReduceClusterModel", "speed", "(II)V"⟩, prog_8_method_17_code, 3, (Option.none : Option FieldType), [])
theorem wc_M_speed : Cond.code (xMn m_M_speed) (xMc m_M_speed) (xMl m_M_speed) (xMr m_M_speed) ∈ xTT := xin3 209 rfl rfl
def m_M_filter : xM := (⟨"ReduceClusterModel", "filter", "(I)V"⟩, prog_8_method_18_code, 2, (Option.none : Option FieldType), [])
theorem wc_M_filter : Cond.code (xMn m_M_filter) (xMc m_M_filter) (xMl m_M_filter) (xMr m_M_filter) ∈ xTT := xin3 213 rfl rfl
def m_M_begin : xM := (⟨"ReduceClusterModel", "begin", "(IIII)I"⟩, prog_8_method_19_code, 6, (Option.some FieldType.int), [])
theorem wc_M_begin : Cond.code (xMn m_M_begin) (xMc m_M_begin) (xMl m_M_begin) (xMr m_M_begin) ∈ xTT := xin3 217 rfl rfl
def m_M_mapAll : xM := (⟨"ReduceClusterModel", "mapAll", "()V"⟩, prog_8_method_10_code, 4, (Option.none : Option FieldType), [])
theorem wc_M_mapAll : Cond.code (xMn m_M_mapAll) (xMc m_M_mapAll) (xMl m_M_mapAll) (xMr m_M_mapAll) ∈ xTT := xin3 221 rfl rfl
def m_M_map : xM := (⟨"ReduceClusterModel", "map", "(I)V"⟩, prog_8_method_9_code, 4, (Option.none : Option FieldType), [])
theorem wc_M_map : Cond.code (xMn m_M_map) (xMc m_M_map) (xMl m_M_map) (xMr m_M_map) ∈ xTT := xin3 225 rfl rfl
def m_M_modulo : xM := (⟨"ReduceClusterModel", "modulo", "(II)I"⟩, prog_8_method_6_code, 2, (Option.some FieldType.int), [])
theorem wc_M_modulo : Cond.code (xMn m_M_modulo) (xMc m_M_modulo) (xMl m_M_modulo) (xMr m_M_modulo) ∈ xTT := xin3 228 rfl rfl
def m_M_pair : xM := (⟨"ReduceClusterModel", "pair", "(II)V"⟩, prog_8_method_8_code, 3, (Option.none : Option FieldType), [])
theorem wc_M_pair : Cond.code (xMn m_M_pair) (xMc m_M_pair) (xMl m_M_pair) (xMr m_M_pair) ∈ xTT := xin3 232 rfl rfl
def m_M_sort : xM := (⟨"ReduceClusterModel", "sort", "()V"⟩, prog_8_method_11_code, 5, (Option.none : Option FieldType), [])
theorem wc_M_sort : Cond.code (xMn m_M_sort) (xMc m_M_sort) (xMl m_M_sort) (xMr m_M_sort) ∈ xTT := xin3 237 rfl rfl
def m_M_run : xM := (⟨"ReduceClusterModel", "run", "(I)I"⟩, prog_8_method_30_code, 3, (Option.some FieldType.int), [])
theorem wc_M_run : Cond.code (xMn m_M_run) (xMc m_M_run) (xMl m_M_run) (xMr m_M_run) ∈ xTT := xin4 1 rfl rfl
def m_M_tick : xM := (⟨"ReduceClusterModel", "tick", "()V"⟩, prog_8_method_29_code, 4, (Option.none : Option FieldType), [])
theorem wc_M_tick : Cond.code (xMn m_M_tick) (xMc m_M_tick) (xMl m_M_tick) (xMr m_M_tick) ∈ xTT := xin4 5 rfl rfl
def m_M_get : xM := (⟨"ReduceClusterModel", "get", "(I)V"⟩, prog_8_method_26_code, 10, (Option.none : Option FieldType), [])
theorem wc_M_get : Cond.code (xMn m_M_get) (xMc m_M_get) (xMl m_M_get) (xMr m_M_get) ∈ xTT := xin4 9 rfl rfl
def m_M_mapsDone : xM := (⟨"ReduceClusterModel", "mapsDone", "()Z"⟩, prog_8_method_20_code, 2, (Option.some FieldType.boolean), [])
theorem wc_M_mapsDone : Cond.code (xMn m_M_mapsDone) (xMc m_M_mapsDone) (xMl m_M_mapsDone) (xMr m_M_mapsDone) ∈ xTT := xin4 13 rfl rfl
def m_M_readable : xM := (⟨"ReduceClusterModel", "readable", "(I)Z"⟩, prog_8_method_23_code, 2, (Option.some FieldType.boolean), [])
theorem wc_M_readable : Cond.code (xMn m_M_readable) (xMc m_M_readable) (xMl m_M_readable) (xMr m_M_readable) ∈ xTT := xin4 17 rfl rfl
def m_M_doing : xM := (⟨"ReduceClusterModel", "doing", "(I)I"⟩, prog_8_method_24_code, 4, (Option.some FieldType.int), [])
theorem wc_M_doing : Cond.code (xMn m_M_doing) (xMc m_M_doing) (xMl m_M_doing) (xMr m_M_doing) ∈ xTT := xin4 21 rfl rfl
def m_M_leftOf : xM := (⟨"ReduceClusterModel", "leftOf", "(I)I"⟩, prog_8_method_25_code, 3, (Option.some FieldType.int), [])
theorem wc_M_leftOf : Cond.code (xMn m_M_leftOf) (xMc m_M_leftOf) (xMl m_M_leftOf) (xMr m_M_leftOf) ∈ xTT := xin4 25 rfl rfl
def m_M_needs : xM := (⟨"ReduceClusterModel", "needs", "(I)I"⟩, prog_8_method_22_code, 2, (Option.some FieldType.int), [])
theorem wc_M_needs : Cond.code (xMn m_M_needs) (xMc m_M_needs) (xMl m_M_needs) (xMr m_M_needs) ∈ xTT := xin4 29 rfl rfl
def m_M_runs : xM := (⟨"ReduceClusterModel", "runs", "(I)I"⟩, prog_8_method_21_code, 2, (Option.some FieldType.int), [])
theorem wc_M_runs : Cond.code (xMn m_M_runs) (xMc m_M_runs) (xMl m_M_runs) (xMr m_M_runs) ∈ xTT := xin4 33 rfl rfl
def m_M_pairsOf : xM := (⟨"ReduceClusterModel", "pairsOf", "(I)I"⟩, prog_8_method_12_code, 4, (Option.some FieldType.int), [])
theorem wc_M_pairsOf : Cond.code (xMn m_M_pairsOf) (xMc m_M_pairsOf) (xMl m_M_pairsOf) (xMr m_M_pairsOf) ∈ xTT := xin4 37 rfl rfl
def m_M_finish : xM := (⟨"ReduceClusterModel", "finish", "(I)V"⟩, prog_8_method_27_code, 4, (Option.none : Option FieldType), [])
theorem wc_M_finish : Cond.code (xMn m_M_finish) (xMc m_M_finish) (xMl m_M_finish) (xMr m_M_finish) ∈ xTT := xin4 41 rfl rfl
def m_M_reduce : xM := (⟨"ReduceClusterModel", "reduce", "(IZ)I"⟩, prog_8_method_14_code, 6, (Option.some FieldType.int), [])
theorem wc_M_reduce : Cond.code (xMn m_M_reduce) (xMc m_M_reduce) (xMl m_M_reduce) (xMr m_M_reduce) ∈ xTT := xin4 45 rfl rfl
def m_M_reduced : xM := (⟨"ReduceClusterModel", "reduced", "(I)I"⟩, prog_8_method_13_code, 6, (Option.some FieldType.int), [])
theorem wc_M_reduced : Cond.code (xMn m_M_reduced) (xMc m_M_reduced) (xMl m_M_reduced) (xMr m_M_reduced) ∈ xTT := xin4 49 rfl rfl
def m_M_end : xM := (⟨"ReduceClusterModel", "end", "()V"⟩, prog_8_method_28_code, 2, (Option.none : Option FieldType), [])
theorem wc_M_end : Cond.code (xMn m_M_end) (xMc m_M_end) (xMl m_M_end) (xMr m_M_end) ∈ xTT := xin4 53 rfl rfl
def m_M_stop : xM := (⟨"ReduceClusterModel", "stop", "()V"⟩, prog_8_method_31_code, 1, (Option.none : Option FieldType), [])
theorem wc_M_stop : Cond.code (xMn m_M_stop) (xMc m_M_stop) (xMl m_M_stop) (xMr m_M_stop) ∈ xTT := xin4 57 rfl rfl
def m_M_output : xM := (⟨"ReduceClusterModel", "output", "(III)I"⟩, prog_8_method_32_code, 4, (Option.some FieldType.int), [])
theorem wc_M_output : Cond.code (xMn m_M_output) (xMc m_M_output) (xMl m_M_output) (xMr m_M_output) ∈ xTT := xin4 61 rfl rfl
def m_M_find : xM := (⟨"ReduceClusterModel", "find", "(I)I"⟩, prog_8_method_33_code, 4, (Option.some FieldType.int), [])
theorem wc_M_find : Cond.code (xMn m_M_find) (xMc m_M_find) (xMl m_M_find) (xMr m_M_find) ∈ xTT := xin4 65 rfl rfl
def m_M_task : xM := (⟨"ReduceClusterModel", "task", "(ZII)I"⟩, prog_8_method_34_code, 7, (Option.some FieldType.int), [])
theorem wc_M_task : Cond.code (xMn m_M_task) (xMc m_M_task) (xMl m_M_task) (xMr m_M_task) ∈ xTT := xin4 69 rfl rfl
def m_M_ofWorker : xM := (⟨"ReduceClusterModel", "ofWorker", "(II)I"⟩, prog_8_method_35_code, 3, (Option.some FieldType.int), [])
theorem wc_M_ofWorker : Cond.code (xMn m_M_ofWorker) (xMc m_M_ofWorker) (xMl m_M_ofWorker) (xMr m_M_ofWorker) ∈ xTT := xin4 73 rfl rfl
def m_M_count : xM := (⟨"ReduceClusterModel", "count", "(I)I"⟩, prog_8_method_36_code, 2, (Option.some FieldType.int), [])
theorem wc_M_count : Cond.code (xMn m_M_count) (xMc m_M_count) (xMl m_M_count) (xMr m_M_count) ∈ xTT := xin4 77 rfl rfl
theorem wi_L : Cond.initialized "ReduceClusterLaw" ∈ xTT := xin1 0 rfl rfl
theorem wi_A : Cond.initialized "ReduceCluster" ∈ xTT := xin1 1 rfl rfl
theorem wi_P : Cond.initialized "ReduceCluster$Pairs" ∈ xTT := xin1 2 rfl rfl
theorem wi_J : Cond.initialized "ReduceCluster$Job" ∈ xTT := xin1 3 rfl rfl
theorem wi_K : Cond.initialized "ReduceCluster$Worker" ∈ xTT := xin1 4 rfl rfl
theorem wi_C : Cond.initialized "ReduceCluster$Chunk" ∈ xTT := xin1 5 rfl rfl
theorem wi_T : Cond.initialized "ReduceCluster$Task" ∈ xTT := xin1 6 rfl rfl
theorem wi_M : Cond.initialized "ReduceClusterModel" ∈ xTT := xin1 7 rfl rfl
theorem wi_Throwable : Cond.initialized "java/lang/Throwable" ∈ xTT := xin1 8 rfl rfl
theorem wi_Exception : Cond.initialized "java/lang/Exception" ∈ xTT := xin1 9 rfl rfl
theorem wi_RuntimeException : Cond.initialized "java/lang/RuntimeException" ∈ xTT := xin1 10 rfl rfl
theorem wi_IllegalArgumentException : Cond.initialized "java/lang/IllegalArgumentException" ∈ xTT := xin1 11 rfl rfl
theorem wi_IllegalStateException : Cond.initialized "java/lang/IllegalStateException" ∈ xTT := xin1 12 rfl rfl
theorem wi_Z : Cond.initialized "java/lang/Math" ∈ xTT := xin1 13 rfl rfl
theorem wi_ArithmeticException : Cond.initialized "java/lang/ArithmeticException" ∈ xTT := xin1 14 rfl rfl
theorem wi_NoSuchElementException : Cond.initialized "java/util/NoSuchElementException" ∈ xTT := xin1 15 rfl rfl
theorem wk_L_8 : Cond.classLink "ReduceClusterLaw" 8 "ReduceCluster" ∈ xTT := xin1 16 rfl rfl
theorem wo_A : Cond.instantiable "ReduceCluster" 15 ∈ xTT := xin1 17 rfl rfl
theorem wl_L_55 : Cond.methodLink "ReduceClusterLaw" 55 (⟨"ReduceCluster", "<init>", "()V"⟩ : MethodName) ∈ xTT := xin1 18 rfl rfl
theorem wm_A_init : Cond.instanceMethod (⟨"ReduceCluster", "<init>", "()V"⟩ : MethodName) ∈ xTT := xin1 19 rfl rfl
theorem wl_A_3 : Cond.methodLink "ReduceCluster" 3 (⟨"java/lang/Object", "<init>", "()V"⟩ : MethodName) ∈ xTT := xin1 21 rfl rfl
theorem wm_O_init : Cond.instanceMethod (⟨"java/lang/Object", "<init>", "()V"⟩ : MethodName) ∈ xTT := xin1 22 rfl rfl
theorem wk_A_9 : Cond.classLink "ReduceCluster" 9 "ReduceCluster$Worker" ∈ xTT := xin1 24 rfl rfl
theorem wq_K : Cond.arrayOver (FieldType.object "ReduceCluster$Worker") ∈ xTT := xin1 25 rfl rfl
theorem wk_A_15 : Cond.classLink "ReduceCluster" 15 "ReduceCluster$Chunk" ∈ xTT := xin1 26 rfl rfl
theorem wq_C : Cond.arrayOver (FieldType.object "ReduceCluster$Chunk") ∈ xTT := xin1 27 rfl rfl
theorem wk_A_21 : Cond.classLink "ReduceCluster" 21 "ReduceCluster$Task" ∈ xTT := xin1 28 rfl rfl
theorem wq_T : Cond.arrayOver (FieldType.object "ReduceCluster$Task") ∈ xTT := xin1 29 rfl rfl
theorem wk_A_30 : Cond.classLink "ReduceCluster" 30 "ReduceCluster$Pairs" ∈ xTT := xin1 30 rfl rfl
theorem wo_P : Cond.instantiable "ReduceCluster$Pairs" 3 ∈ xTT := xin1 31 rfl rfl
theorem wl_A_32 : Cond.methodLink "ReduceCluster" 32 (⟨"ReduceCluster$Pairs", "<init>", "(I)V"⟩ : MethodName) ∈ xTT := xin1 32 rfl rfl
theorem wm_P_init : Cond.instanceMethod (⟨"ReduceCluster$Pairs", "<init>", "(I)V"⟩ : MethodName) ∈ xTT := xin1 33 rfl rfl
theorem wl_P_3 : Cond.methodLink "ReduceCluster$Pairs" 3 (⟨"java/lang/Object", "<init>", "()V"⟩ : MethodName) ∈ xTT := xin1 35 rfl rfl
theorem wf_P_15 : Cond.fieldLink "ReduceCluster$Pairs" 15 "ReduceCluster$Pairs" "keys" "[I" ∈ xTT := xin1 36 rfl rfl
theorem wf_J_48 : Cond.fieldLink "ReduceCluster$Job" 48 "ReduceCluster$Pairs" "keys" "[I" ∈ xTT := xin1 37 rfl rfl
theorem wf_A_151 : Cond.fieldLink "ReduceCluster" 151 "ReduceCluster$Pairs" "keys" "[I" ∈ xTT := xin1 38 rfl rfl
theorem wf_P_19 : Cond.fieldLink "ReduceCluster$Pairs" 19 "ReduceCluster$Pairs" "values" "[I" ∈ xTT := xin1 39 rfl rfl
theorem wf_J_56 : Cond.fieldLink "ReduceCluster$Job" 56 "ReduceCluster$Pairs" "values" "[I" ∈ xTT := xin1 40 rfl rfl
theorem wf_A_155 : Cond.fieldLink "ReduceCluster" 155 "ReduceCluster$Pairs" "values" "[I" ∈ xTT := xin1 41 rfl rfl
theorem wf_P_9 : Cond.fieldLink "ReduceCluster$Pairs" 9 "ReduceCluster$Pairs" "size" "I" ∈ xTT := xin1 42 rfl rfl
theorem wf_J_36 : Cond.fieldLink "ReduceCluster$Job" 36 "ReduceCluster$Pairs" "size" "I" ∈ xTT := xin1 43 rfl rfl
theorem wf_A_128 : Cond.fieldLink "ReduceCluster" 128 "ReduceCluster$Pairs" "size" "I" ∈ xTT := xin1 44 rfl rfl
theorem wa_int : Cond.arrayClass FieldType.int ∈ xTT := xin1 52 rfl rfl
theorem wk_A_39 : Cond.classLink "ReduceCluster" 39 "ReduceCluster$Job" ∈ xTT := xin1 53 rfl rfl
theorem wo_J : Cond.instantiable "ReduceCluster$Job" 5 ∈ xTT := xin1 54 rfl rfl
theorem wl_A_41 : Cond.methodLink "ReduceCluster" 41 (⟨"ReduceCluster$Job", "<init>", "()V"⟩ : MethodName) ∈ xTT := xin1 55 rfl rfl
theorem wm_J_init : Cond.instanceMethod (⟨"ReduceCluster$Job", "<init>", "()V"⟩ : MethodName) ∈ xTT := xin1 56 rfl rfl
theorem wl_J_3 : Cond.methodLink "ReduceCluster$Job" 3 (⟨"java/lang/Object", "<init>", "()V"⟩ : MethodName) ∈ xTT := xin1 58 rfl rfl
theorem wk_J_9 : Cond.classLink "ReduceCluster$Job" 9 "ReduceCluster$Pairs" ∈ xTT := xin1 59 rfl rfl
theorem wq_P : Cond.arrayOver (FieldType.object "ReduceCluster$Pairs") ∈ xTT := xin1 60 rfl rfl
theorem wv_J_29 : Cond.constant "ReduceCluster$Job" 29 (-2147483648) ∈ xTT := xin1 61 rfl rfl
theorem wl_J_33 : Cond.methodLink "ReduceCluster$Job" 33 (⟨"ReduceCluster$Pairs", "<init>", "(I)V"⟩ : MethodName) ∈ xTT := xin1 62 rfl rfl
theorem wf_J_11 : Cond.fieldLink "ReduceCluster$Job" 11 "ReduceCluster$Job" "taken" "[LReduceCluster$Pairs;" ∈ xTT := xin1 63 rfl rfl
theorem wf_A_124 : Cond.fieldLink "ReduceCluster" 124 "ReduceCluster$Job" "taken" "[LReduceCluster$Pairs;" ∈ xTT := xin1 64 rfl rfl
theorem wf_J_17 : Cond.fieldLink "ReduceCluster$Job" 17 "ReduceCluster$Job" "reduced" "[LReduceCluster$Pairs;" ∈ xTT := xin1 65 rfl rfl
theorem wf_A_148 : Cond.fieldLink "ReduceCluster" 148 "ReduceCluster$Job" "reduced" "[LReduceCluster$Pairs;" ∈ xTT := xin1 66 rfl rfl
theorem wf_J_20 : Cond.fieldLink "ReduceCluster$Job" 20 "ReduceCluster$Job" "reducer" "I" ∈ xTT := xin1 67 rfl rfl
theorem wf_J_24 : Cond.fieldLink "ReduceCluster$Job" 24 "ReduceCluster$Job" "partitions" "I" ∈ xTT := xin1 68 rfl rfl
theorem wf_A_142 : Cond.fieldLink "ReduceCluster" 142 "ReduceCluster$Job" "partitions" "I" ∈ xTT := xin1 69 rfl rfl
theorem wf_J_30 : Cond.fieldLink "ReduceCluster$Job" 30 "ReduceCluster$Job" "least" "I" ∈ xTT := xin1 70 rfl rfl
theorem wv_A_62 : Cond.constant "ReduceCluster" 62 (-2147483648) ∈ xTT := xin1 82 rfl rfl
theorem wo_K : Cond.instantiable "ReduceCluster$Worker" 5 ∈ xTT := xin1 83 rfl rfl
theorem wn_A_78 : Cond.methodLinkNest "ReduceCluster" 78 (⟨"ReduceCluster$Worker", "<init>", "()V"⟩ : MethodName) "ReduceCluster" ∈ xTT := xin1 84 rfl rfl
theorem wm_K_init : Cond.instanceMethod (⟨"ReduceCluster$Worker", "<init>", "()V"⟩ : MethodName) ∈ xTT := xin1 85 rfl rfl
theorem wl_K_3 : Cond.methodLink "ReduceCluster$Worker" 3 (⟨"java/lang/Object", "<init>", "()V"⟩ : MethodName) ∈ xTT := xin1 87 rfl rfl
theorem wf_K_9 : Cond.fieldLink "ReduceCluster$Worker" 9 "ReduceCluster$Worker" "up" "Z" ∈ xTT := xin1 88 rfl rfl
theorem wf_A_94 : Cond.fieldLink "ReduceCluster" 94 "ReduceCluster$Worker" "up" "Z" ∈ xTT := xin1 89 rfl rfl
theorem wf_K_15 : Cond.fieldLink "ReduceCluster$Worker" 15 "ReduceCluster$Worker" "unitsPerTick" "I" ∈ xTT := xin1 90 rfl rfl
theorem wf_A_103 : Cond.fieldLink "ReduceCluster" 103 "ReduceCluster$Worker" "unitsPerTick" "I" ∈ xTT := xin1 91 rfl rfl
theorem wf_K_19 : Cond.fieldLink "ReduceCluster$Worker" 19 "ReduceCluster$Worker" "task" "LReduceCluster$Task;" ∈ xTT := xin1 92 rfl rfl
theorem wf_A_239 : Cond.fieldLink "ReduceCluster" 239 "ReduceCluster$Worker" "task" "LReduceCluster$Task;" ∈ xTT := xin1 93 rfl rfl
theorem wf_K_23 : Cond.fieldLink "ReduceCluster$Worker" 23 "ReduceCluster$Worker" "unitsLeft" "I" ∈ xTT := xin1 94 rfl rfl
theorem wf_A_195 : Cond.fieldLink "ReduceCluster" 195 "ReduceCluster$Worker" "unitsLeft" "I" ∈ xTT := xin1 95 rfl rfl
theorem wf_K_26 : Cond.fieldLink "ReduceCluster$Worker" 26 "ReduceCluster$Worker" "unitsDone" "I" ∈ xTT := xin1 96 rfl rfl
theorem wf_A_198 : Cond.fieldLink "ReduceCluster" 198 "ReduceCluster$Worker" "unitsDone" "I" ∈ xTT := xin1 97 rfl rfl
theorem wo_C : Cond.instantiable "ReduceCluster$Chunk" 2 ∈ xTT := xin1 109 rfl rfl
theorem wn_A_79 : Cond.methodLinkNest "ReduceCluster" 79 (⟨"ReduceCluster$Chunk", "<init>", "()V"⟩ : MethodName) "ReduceCluster" ∈ xTT := xin1 110 rfl rfl
theorem wm_C_init : Cond.instanceMethod (⟨"ReduceCluster$Chunk", "<init>", "()V"⟩ : MethodName) ∈ xTT := xin1 111 rfl rfl
theorem wl_C_3 : Cond.methodLink "ReduceCluster$Chunk" 3 (⟨"java/lang/Object", "<init>", "()V"⟩ : MethodName) ∈ xTT := xin1 113 rfl rfl
theorem wf_C_9 : Cond.fieldLink "ReduceCluster$Chunk" 9 "ReduceCluster$Chunk" "numbers" "[I" ∈ xTT := xin1 114 rfl rfl
theorem wf_A_212 : Cond.fieldLink "ReduceCluster" 212 "ReduceCluster$Chunk" "numbers" "[I" ∈ xTT := xin1 115 rfl rfl
theorem wf_C_15 : Cond.fieldLink "ReduceCluster$Chunk" 15 "ReduceCluster$Chunk" "size" "I" ∈ xTT := xin1 116 rfl rfl
theorem wf_A_109 : Cond.fieldLink "ReduceCluster" 109 "ReduceCluster$Chunk" "size" "I" ∈ xTT := xin1 117 rfl rfl
theorem wo_T : Cond.instantiable "ReduceCluster$Task" 5 ∈ xTT := xin1 123 rfl rfl
theorem wl_A_80 : Cond.methodLink "ReduceCluster" 80 (⟨"ReduceCluster$Task", "<init>", "(ZI)V"⟩ : MethodName) ∈ xTT := xin1 124 rfl rfl
theorem wm_T_init : Cond.instanceMethod (⟨"ReduceCluster$Task", "<init>", "(ZI)V"⟩ : MethodName) ∈ xTT := xin1 125 rfl rfl
theorem wl_T_3 : Cond.methodLink "ReduceCluster$Task" 3 (⟨"java/lang/Object", "<init>", "()V"⟩ : MethodName) ∈ xTT := xin1 127 rfl rfl
theorem wf_T_21 : Cond.fieldLink "ReduceCluster$Task" 21 "ReduceCluster$Task" "map" "Z" ∈ xTT := xin1 128 rfl rfl
theorem wf_K_40 : Cond.fieldLink "ReduceCluster$Worker" 40 "ReduceCluster$Task" "map" "Z" ∈ xTT := xin1 129 rfl rfl
theorem wf_A_259 : Cond.fieldLink "ReduceCluster" 259 "ReduceCluster$Task" "map" "Z" ∈ xTT := xin1 130 rfl rfl
theorem wf_T_25 : Cond.fieldLink "ReduceCluster$Task" 25 "ReduceCluster$Task" "number" "I" ∈ xTT := xin1 131 rfl rfl
theorem wf_K_43 : Cond.fieldLink "ReduceCluster$Worker" 43 "ReduceCluster$Task" "number" "I" ∈ xTT := xin1 132 rfl rfl
theorem wf_A_262 : Cond.fieldLink "ReduceCluster" 262 "ReduceCluster$Task" "number" "I" ∈ xTT := xin1 133 rfl rfl
theorem wf_T_9 : Cond.fieldLink "ReduceCluster$Task" 9 "ReduceCluster$Task" "units" "I" ∈ xTT := xin1 134 rfl rfl
theorem wf_K_29 : Cond.fieldLink "ReduceCluster$Worker" 29 "ReduceCluster$Task" "units" "I" ∈ xTT := xin1 135 rfl rfl
theorem wf_A_176 : Cond.fieldLink "ReduceCluster" 176 "ReduceCluster$Task" "units" "I" ∈ xTT := xin1 136 rfl rfl
theorem wf_T_15 : Cond.fieldLink "ReduceCluster$Task" 15 "ReduceCluster$Task" "runs" "I" ∈ xTT := xin1 137 rfl rfl
theorem wf_A_179 : Cond.fieldLink "ReduceCluster" 179 "ReduceCluster$Task" "runs" "I" ∈ xTT := xin1 138 rfl rfl
theorem wf_T_18 : Cond.fieldLink "ReduceCluster$Task" 18 "ReduceCluster$Task" "doneBy" "I" ∈ xTT := xin1 139 rfl rfl
theorem wf_A_186 : Cond.fieldLink "ReduceCluster" 186 "ReduceCluster$Task" "doneBy" "I" ∈ xTT := xin1 140 rfl rfl
theorem wf_A_11 : Cond.fieldLink "ReduceCluster" 11 "ReduceCluster" "workers" "[LReduceCluster$Worker;" ∈ xTT := xin1 152 rfl rfl
theorem wf_A_17 : Cond.fieldLink "ReduceCluster" 17 "ReduceCluster" "chunks" "[LReduceCluster$Chunk;" ∈ xTT := xin1 153 rfl rfl
theorem wf_A_23 : Cond.fieldLink "ReduceCluster" 23 "ReduceCluster" "mapTasks" "[LReduceCluster$Task;" ∈ xTT := xin1 154 rfl rfl
theorem wf_A_27 : Cond.fieldLink "ReduceCluster" 27 "ReduceCluster" "reduceTasks" "[LReduceCluster$Task;" ∈ xTT := xin1 155 rfl rfl
theorem wf_A_35 : Cond.fieldLink "ReduceCluster" 35 "ReduceCluster" "mapped" "LReduceCluster$Pairs;" ∈ xTT := xin1 156 rfl rfl
theorem wf_A_42 : Cond.fieldLink "ReduceCluster" 42 "ReduceCluster" "job" "LReduceCluster$Job;" ∈ xTT := xin1 157 rfl rfl
theorem wf_A_46 : Cond.fieldLink "ReduceCluster" 46 "ReduceCluster" "endedJob" "LReduceCluster$Job;" ∈ xTT := xin1 158 rfl rfl
theorem wf_A_49 : Cond.fieldLink "ReduceCluster" 49 "ReduceCluster" "underWay" "Z" ∈ xTT := xin1 159 rfl rfl
theorem wf_A_53 : Cond.fieldLink "ReduceCluster" 53 "ReduceCluster" "chunkCount" "I" ∈ xTT := xin1 160 rfl rfl
theorem wf_A_57 : Cond.fieldLink "ReduceCluster" 57 "ReduceCluster" "latestMapper" "I" ∈ xTT := xin1 161 rfl rfl
theorem wf_A_63 : Cond.fieldLink "ReduceCluster" 63 "ReduceCluster" "nextFilter" "I" ∈ xTT := xin1 162 rfl rfl
theorem wf_A_66 : Cond.fieldLink "ReduceCluster" 66 "ReduceCluster" "ticks" "I" ∈ xTT := xin1 163 rfl rfl
theorem wf_A_69 : Cond.fieldLink "ReduceCluster" 69 "ReduceCluster" "jobsEnded" "I" ∈ xTT := xin1 164 rfl rfl
theorem wf_A_72 : Cond.fieldLink "ReduceCluster" 72 "ReduceCluster" "secondTimes" "I" ∈ xTT := xin1 165 rfl rfl
theorem wf_A_75 : Cond.fieldLink "ReduceCluster" 75 "ReduceCluster" "mapTasksLost" "I" ∈ xTT := xin1 166 rfl rfl
theorem wl_L_79 : Cond.methodLink "ReduceClusterLaw" 79 (⟨"ReduceCluster", "filter", "(I)V"⟩ : MethodName) ∈ xTT := xin1 198 rfl rfl
theorem wm_A_filter : Cond.instanceMethod (⟨"ReduceCluster", "filter", "(I)V"⟩ : MethodName) ∈ xTT := xin1 199 rfl rfl
theorem we_A_filter : Cond.selects "ReduceCluster" (⟨"ReduceCluster", "filter", "(I)V"⟩ : MethodName) (⟨"ReduceCluster", "filter", "(I)V"⟩ : MethodName) ∈ xTT := xin1 200 rfl rfl
theorem wl_L_111 : Cond.methodLink "ReduceClusterLaw" 111 (⟨"ReduceCluster", "count", "(I)I"⟩ : MethodName) ∈ xTT := xin1 202 rfl rfl
theorem wm_A_count : Cond.instanceMethod (⟨"ReduceCluster", "count", "(I)I"⟩ : MethodName) ∈ xTT := xin1 203 rfl rfl
theorem we_A_count : Cond.selects "ReduceCluster" (⟨"ReduceCluster", "count", "(I)I"⟩ : MethodName) (⟨"ReduceCluster", "count", "(I)I"⟩ : MethodName) ∈ xTT := xin1 204 rfl rfl
theorem wl_A_201 : Cond.methodLink "ReduceCluster" 201 (⟨"ReduceCluster", "pairsOfChunks", "()I"⟩ : MethodName) ∈ xTT := xin1 206 rfl rfl
theorem wm_A_pairsOfChunks : Cond.instanceMethod (⟨"ReduceCluster", "pairsOfChunks", "()I"⟩ : MethodName) ∈ xTT := xin1 208 rfl rfl
theorem wl_A_215 : Cond.methodLink "ReduceCluster" 215 (⟨"ReduceCluster", "mapNumber", "(IILReduceCluster$Pairs;)V"⟩ : MethodName) ∈ xTT := xin1 210 rfl rfl
theorem ws_A_mapNumber : Cond.static (⟨"ReduceCluster", "mapNumber", "(IILReduceCluster$Pairs;)V"⟩ : MethodName) ∈ xTT := xin1 211 rfl rfl
theorem wl_A_223 : Cond.methodLink "ReduceCluster" 223 (⟨"java/lang/Math", "floorMod", "(II)I"⟩ : MethodName) ∈ xTT := xin1 213 rfl rfl
theorem ws_Z_floorMod : Cond.static (⟨"java/lang/Math", "floorMod", "(II)I"⟩ : MethodName) ∈ xTT := xin1 214 rfl rfl
theorem wl_A_226 : Cond.methodLink "ReduceCluster" 226 (⟨"ReduceCluster$Pairs", "append", "(II)V"⟩ : MethodName) ∈ xTT := xin1 216 rfl rfl
theorem wm_P_append : Cond.instanceMethod (⟨"ReduceCluster$Pairs", "append", "(II)V"⟩ : MethodName) ∈ xTT := xin1 217 rfl rfl
theorem we_P_append : Cond.selects "ReduceCluster$Pairs" (⟨"ReduceCluster$Pairs", "append", "(II)V"⟩ : MethodName) (⟨"ReduceCluster$Pairs", "append", "(II)V"⟩ : MethodName) ∈ xTT := xin1 218 rfl rfl
theorem wl_A_229 : Cond.methodLink "ReduceCluster" 229 (⟨"ReduceCluster", "mapDigits", "(ILReduceCluster$Pairs;)V"⟩ : MethodName) ∈ xTT := xin1 220 rfl rfl
theorem ws_A_mapDigits : Cond.static (⟨"ReduceCluster", "mapDigits", "(ILReduceCluster$Pairs;)V"⟩ : MethodName) ∈ xTT := xin1 221 rfl rfl
theorem wl_A_233 : Cond.methodLink "ReduceCluster" 233 (⟨"java/lang/Math", "abs", "(J)J"⟩ : MethodName) ∈ xTT := xin1 223 rfl rfl
theorem ws_Z_abs : Cond.static (⟨"java/lang/Math", "abs", "(J)J"⟩ : MethodName) ∈ xTT := xin1 224 rfl rfl
theorem wv_A_237 : Cond.constantLong "ReduceCluster" 237 10 ∈ xTT := xin1 226 rfl rfl
theorem wl_L_61 : Cond.methodLink "ReduceClusterLaw" 61 (⟨"ReduceClusterLaw", "chunk", "(LReduceCluster;JII[J)I"⟩ : MethodName) ∈ xTT := xin1 227 rfl rfl
theorem ws_L_chunk : Cond.static (⟨"ReduceClusterLaw", "chunk", "(LReduceCluster;JII[J)I"⟩ : MethodName) ∈ xTT := xin1 228 rfl rfl
theorem wk_L_13 : Cond.classLink "ReduceClusterLaw" 13 "java/lang/IllegalArgumentException" ∈ xTT := xin1 230 rfl rfl
theorem wk_L_15 : Cond.classLink "ReduceClusterLaw" 15 "java/lang/IllegalStateException" ∈ xTT := xin1 231 rfl rfl
theorem wl_L_7 : Cond.methodLink "ReduceClusterLaw" 7 (⟨"ReduceCluster", "chunk", "(JII)I"⟩ : MethodName) ∈ xTT := xin1 232 rfl rfl
theorem wm_A_chunk : Cond.instanceMethod (⟨"ReduceCluster", "chunk", "(JII)I"⟩ : MethodName) ∈ xTT := xin1 233 rfl rfl
theorem we_A_chunk : Cond.selects "ReduceCluster" (⟨"ReduceCluster", "chunk", "(JII)I"⟩ : MethodName) (⟨"ReduceCluster", "chunk", "(JII)I"⟩ : MethodName) ∈ xTT := xin1 234 rfl rfl
theorem wl_A_83 : Cond.methodLink "ReduceCluster" 83 (⟨"ReduceCluster", "demandRange", "(III)V"⟩ : MethodName) ∈ xTT := xin1 236 rfl rfl
theorem ws_A_demandRange : Cond.static (⟨"ReduceCluster", "demandRange", "(III)V"⟩ : MethodName) ∈ xTT := xin1 237 rfl rfl
theorem wk_A_204 : Cond.classLink "ReduceCluster" 204 "java/lang/IllegalArgumentException" ∈ xTT := xin1 239 rfl rfl
theorem wo_IllegalArgumentException : Cond.instantiable "java/lang/IllegalArgumentException" 6 ∈ xTT := xin2 0 rfl rfl
theorem wz_IllegalArgumentException : Cond.castable "java/lang/IllegalArgumentException" "java/lang/IllegalArgumentException" ∈ xTT := xin2 1 rfl rfl
theorem wo_Throwable : Cond.instantiable "java/lang/Throwable" 6 ∈ xTT := xin2 39 rfl rfl
theorem wl_A_206 : Cond.methodLink "ReduceCluster" 206 (⟨"java/lang/IllegalArgumentException", "<init>", "()V"⟩ : MethodName) ∈ xTT := xin2 41 rfl rfl
theorem wk_A_87 : Cond.classLink "ReduceCluster" 87 "java/lang/IllegalStateException" ∈ xTT := xin2 63 rfl rfl
theorem wo_IllegalStateException : Cond.instantiable "java/lang/IllegalStateException" 6 ∈ xTT := xin2 64 rfl rfl
theorem wz_IllegalStateException : Cond.castable "java/lang/IllegalStateException" "java/lang/IllegalStateException" ∈ xTT := xin2 65 rfl rfl
theorem wl_A_89 : Cond.methodLink "ReduceCluster" 89 (⟨"java/lang/IllegalStateException", "<init>", "()V"⟩ : MethodName) ∈ xTT := xin2 72 rfl rfl
theorem wl_A_90 : Cond.methodLink "ReduceCluster" 90 (⟨"ReduceCluster$Chunk", "fill", "(JII)V"⟩ : MethodName) ∈ xTT := xin2 78 rfl rfl
theorem wm_C_fill : Cond.instanceMethod (⟨"ReduceCluster$Chunk", "fill", "(JII)V"⟩ : MethodName) ∈ xTT := xin2 79 rfl rfl
theorem we_C_fill : Cond.selects "ReduceCluster$Chunk" (⟨"ReduceCluster$Chunk", "fill", "(JII)V"⟩ : MethodName) (⟨"ReduceCluster$Chunk", "fill", "(JII)V"⟩ : MethodName) ∈ xTT := xin2 80 rfl rfl
theorem wl_C_19 : Cond.methodLink "ReduceCluster$Chunk" 19 (⟨"java/lang/Math", "min", "(II)I"⟩ : MethodName) ∈ xTT := xin2 82 rfl rfl
theorem ws_Z_min : Cond.static (⟨"java/lang/Math", "min", "(II)I"⟩ : MethodName) ∈ xTT := xin2 83 rfl rfl
theorem wl_L_67 : Cond.methodLink "ReduceClusterLaw" 67 (⟨"ReduceClusterLaw", "worker", "(LReduceCluster;IZ)I"⟩ : MethodName) ∈ xTT := xin2 85 rfl rfl
theorem ws_L_worker : Cond.static (⟨"ReduceClusterLaw", "worker", "(LReduceCluster;IZ)I"⟩ : MethodName) ∈ xTT := xin2 86 rfl rfl
theorem wl_L_17 : Cond.methodLink "ReduceClusterLaw" 17 (⟨"ReduceCluster", "worker", "(IZ)V"⟩ : MethodName) ∈ xTT := xin2 88 rfl rfl
theorem wm_A_worker : Cond.instanceMethod (⟨"ReduceCluster", "worker", "(IZ)V"⟩ : MethodName) ∈ xTT := xin2 89 rfl rfl
theorem we_A_worker : Cond.selects "ReduceCluster" (⟨"ReduceCluster", "worker", "(IZ)V"⟩ : MethodName) (⟨"ReduceCluster", "worker", "(IZ)V"⟩ : MethodName) ∈ xTT := xin2 90 rfl rfl
theorem wl_A_97 : Cond.methodLink "ReduceCluster" 97 (⟨"ReduceCluster$Worker", "drop", "()V"⟩ : MethodName) ∈ xTT := xin2 92 rfl rfl
theorem wm_K_drop : Cond.instanceMethod (⟨"ReduceCluster$Worker", "drop", "()V"⟩ : MethodName) ∈ xTT := xin2 93 rfl rfl
theorem we_K_drop : Cond.selects "ReduceCluster$Worker" (⟨"ReduceCluster$Worker", "drop", "()V"⟩ : MethodName) (⟨"ReduceCluster$Worker", "drop", "()V"⟩ : MethodName) ∈ xTT := xin2 94 rfl rfl
theorem wl_A_100 : Cond.methodLink "ReduceCluster" 100 (⟨"ReduceCluster", "loseDisk", "(I)V"⟩ : MethodName) ∈ xTT := xin2 96 rfl rfl
theorem wm_A_loseDisk : Cond.instanceMethod (⟨"ReduceCluster", "loseDisk", "(I)V"⟩ : MethodName) ∈ xTT := xin2 98 rfl rfl
theorem wl_A_290 : Cond.methodLink "ReduceCluster" 290 (⟨"ReduceCluster", "giveUpReduceTasks", "()V"⟩ : MethodName) ∈ xTT := xin2 100 rfl rfl
theorem wm_A_giveUpReduceTasks : Cond.instanceMethod (⟨"ReduceCluster", "giveUpReduceTasks", "()V"⟩ : MethodName) ∈ xTT := xin2 102 rfl rfl
theorem wl_L_75 : Cond.methodLink "ReduceClusterLaw" 75 (⟨"ReduceClusterLaw", "speed", "(LReduceCluster;II)I"⟩ : MethodName) ∈ xTT := xin2 104 rfl rfl
theorem ws_L_speed : Cond.static (⟨"ReduceClusterLaw", "speed", "(LReduceCluster;II)I"⟩ : MethodName) ∈ xTT := xin2 105 rfl rfl
theorem wl_L_21 : Cond.methodLink "ReduceClusterLaw" 21 (⟨"ReduceCluster", "speed", "(II)V"⟩ : MethodName) ∈ xTT := xin2 107 rfl rfl
theorem wm_A_speed : Cond.instanceMethod (⟨"ReduceCluster", "speed", "(II)V"⟩ : MethodName) ∈ xTT := xin2 108 rfl rfl
theorem we_A_speed : Cond.selects "ReduceCluster" (⟨"ReduceCluster", "speed", "(II)V"⟩ : MethodName) (⟨"ReduceCluster", "speed", "(II)V"⟩ : MethodName) ∈ xTT := xin2 109 rfl rfl
theorem wl_L_84 : Cond.methodLink "ReduceClusterLaw" 84 (⟨"ReduceClusterLaw", "begin", "(LReduceCluster;IIII[J)I"⟩ : MethodName) ∈ xTT := xin2 111 rfl rfl
theorem ws_L_begin : Cond.static (⟨"ReduceClusterLaw", "begin", "(LReduceCluster;IIII[J)I"⟩ : MethodName) ∈ xTT := xin2 112 rfl rfl
theorem wl_L_25 : Cond.methodLink "ReduceClusterLaw" 25 (⟨"ReduceCluster", "begin", "(IIII)I"⟩ : MethodName) ∈ xTT := xin2 114 rfl rfl
theorem wm_A_begin : Cond.instanceMethod (⟨"ReduceCluster", "begin", "(IIII)I"⟩ : MethodName) ∈ xTT := xin2 115 rfl rfl
theorem we_A_begin : Cond.selects "ReduceCluster" (⟨"ReduceCluster", "begin", "(IIII)I"⟩ : MethodName) (⟨"ReduceCluster", "begin", "(IIII)I"⟩ : MethodName) ∈ xTT := xin2 116 rfl rfl
theorem wl_A_106 : Cond.methodLink "ReduceCluster" 106 (⟨"ReduceCluster$Job", "prepare", "(III)V"⟩ : MethodName) ∈ xTT := xin2 118 rfl rfl
theorem wm_J_prepare : Cond.instanceMethod (⟨"ReduceCluster$Job", "prepare", "(III)V"⟩ : MethodName) ∈ xTT := xin2 119 rfl rfl
theorem we_J_prepare : Cond.selects "ReduceCluster$Job" (⟨"ReduceCluster$Job", "prepare", "(III)V"⟩ : MethodName) (⟨"ReduceCluster$Job", "prepare", "(III)V"⟩ : MethodName) ∈ xTT := xin2 120 rfl rfl
theorem wl_A_112 : Cond.methodLink "ReduceCluster" 112 (⟨"ReduceCluster", "mapChunk", "(I)I"⟩ : MethodName) ∈ xTT := xin2 122 rfl rfl
theorem wm_A_mapChunk : Cond.instanceMethod (⟨"ReduceCluster", "mapChunk", "(I)I"⟩ : MethodName) ∈ xTT := xin2 124 rfl rfl
theorem wl_A_219 : Cond.methodLink "ReduceCluster" 219 (⟨"ReduceCluster$Job", "take", "(LReduceCluster$Pairs;)V"⟩ : MethodName) ∈ xTT := xin2 126 rfl rfl
theorem wm_J_take : Cond.instanceMethod (⟨"ReduceCluster$Job", "take", "(LReduceCluster$Pairs;)V"⟩ : MethodName) ∈ xTT := xin2 127 rfl rfl
theorem we_J_take : Cond.selects "ReduceCluster$Job" (⟨"ReduceCluster$Job", "take", "(LReduceCluster$Pairs;)V"⟩ : MethodName) (⟨"ReduceCluster$Job", "take", "(LReduceCluster$Pairs;)V"⟩ : MethodName) ∈ xTT := xin2 128 rfl rfl
theorem wl_J_52 : Cond.methodLink "ReduceCluster$Job" 52 (⟨"ReduceCluster$Job", "partitionOf", "(I)I"⟩ : MethodName) ∈ xTT := xin2 130 rfl rfl
theorem wm_J_partitionOf : Cond.instanceMethod (⟨"ReduceCluster$Job", "partitionOf", "(I)I"⟩ : MethodName) ∈ xTT := xin2 131 rfl rfl
theorem we_J_partitionOf : Cond.selects "ReduceCluster$Job" (⟨"ReduceCluster$Job", "partitionOf", "(I)I"⟩ : MethodName) (⟨"ReduceCluster$Job", "partitionOf", "(I)I"⟩ : MethodName) ∈ xTT := xin2 132 rfl rfl
theorem wl_J_39 : Cond.methodLink "ReduceCluster$Job" 39 (⟨"java/lang/Math", "max", "(II)I"⟩ : MethodName) ∈ xTT := xin2 134 rfl rfl
theorem ws_Z_max : Cond.static (⟨"java/lang/Math", "max", "(II)I"⟩ : MethodName) ∈ xTT := xin2 135 rfl rfl
theorem wl_J_45 : Cond.methodLink "ReduceCluster$Job" 45 (⟨"java/lang/Math", "floorMod", "(II)I"⟩ : MethodName) ∈ xTT := xin2 137 rfl rfl
theorem wl_J_59 : Cond.methodLink "ReduceCluster$Job" 59 (⟨"ReduceCluster$Pairs", "insertByKey", "(II)V"⟩ : MethodName) ∈ xTT := xin2 138 rfl rfl
theorem wm_P_insertByKey : Cond.instanceMethod (⟨"ReduceCluster$Pairs", "insertByKey", "(II)V"⟩ : MethodName) ∈ xTT := xin2 139 rfl rfl
theorem we_P_insertByKey : Cond.selects "ReduceCluster$Pairs" (⟨"ReduceCluster$Pairs", "insertByKey", "(II)V"⟩ : MethodName) (⟨"ReduceCluster$Pairs", "insertByKey", "(II)V"⟩ : MethodName) ∈ xTT := xin2 140 rfl rfl
theorem wl_A_116 : Cond.methodLink "ReduceCluster" 116 (⟨"ReduceCluster", "runsOf", "(II)I"⟩ : MethodName) ∈ xTT := xin2 142 rfl rfl
theorem ws_A_runsOf : Cond.static (⟨"ReduceCluster", "runsOf", "(II)I"⟩ : MethodName) ∈ xTT := xin2 143 rfl rfl
theorem wl_A_207 : Cond.methodLink "ReduceCluster" 207 (⟨"java/lang/Math", "max", "(II)I"⟩ : MethodName) ∈ xTT := xin2 145 rfl rfl
theorem wl_A_120 : Cond.methodLink "ReduceCluster" 120 (⟨"ReduceCluster$Task", "renew", "(II)V"⟩ : MethodName) ∈ xTT := xin2 146 rfl rfl
theorem wm_T_renew : Cond.instanceMethod (⟨"ReduceCluster$Task", "renew", "(II)V"⟩ : MethodName) ∈ xTT := xin2 147 rfl rfl
theorem we_T_renew : Cond.selects "ReduceCluster$Task" (⟨"ReduceCluster$Task", "renew", "(II)V"⟩ : MethodName) (⟨"ReduceCluster$Task", "renew", "(II)V"⟩ : MethodName) ∈ xTT := xin2 148 rfl rfl
theorem wl_L_88 : Cond.methodLink "ReduceClusterLaw" 88 (⟨"ReduceClusterLaw", "run", "(LReduceCluster;I[J)I"⟩ : MethodName) ∈ xTT := xin2 150 rfl rfl
theorem ws_L_run : Cond.static (⟨"ReduceClusterLaw", "run", "(LReduceCluster;I[J)I"⟩ : MethodName) ∈ xTT := xin2 151 rfl rfl
theorem wk_L_33 : Cond.classLink "ReduceClusterLaw" 33 "java/lang/ArithmeticException" ∈ xTT := xin2 153 rfl rfl
theorem wl_L_29 : Cond.methodLink "ReduceClusterLaw" 29 (⟨"ReduceCluster", "run", "(I)I"⟩ : MethodName) ∈ xTT := xin2 154 rfl rfl
theorem wm_A_run : Cond.instanceMethod (⟨"ReduceCluster", "run", "(I)I"⟩ : MethodName) ∈ xTT := xin2 155 rfl rfl
theorem we_A_run : Cond.selects "ReduceCluster" (⟨"ReduceCluster", "run", "(I)I"⟩ : MethodName) (⟨"ReduceCluster", "run", "(I)I"⟩ : MethodName) ∈ xTT := xin2 156 rfl rfl
theorem wl_A_129 : Cond.methodLink "ReduceCluster" 129 (⟨"ReduceCluster", "demandJob", "()V"⟩ : MethodName) ∈ xTT := xin2 158 rfl rfl
theorem wm_A_demandJob : Cond.instanceMethod (⟨"ReduceCluster", "demandJob", "()V"⟩ : MethodName) ∈ xTT := xin2 160 rfl rfl
theorem wl_A_132 : Cond.methodLink "ReduceCluster" 132 (⟨"ReduceCluster", "passTick", "()I"⟩ : MethodName) ∈ xTT := xin2 162 rfl rfl
theorem wm_A_passTick : Cond.instanceMethod (⟨"ReduceCluster", "passTick", "()I"⟩ : MethodName) ∈ xTT := xin2 164 rfl rfl
theorem wl_A_243 : Cond.methodLink "ReduceCluster" 243 (⟨"ReduceCluster", "giveTask", "(I)V"⟩ : MethodName) ∈ xTT := xin2 166 rfl rfl
theorem wm_A_giveTask : Cond.instanceMethod (⟨"ReduceCluster", "giveTask", "(I)V"⟩ : MethodName) ∈ xTT := xin2 168 rfl rfl
theorem wl_A_172 : Cond.methodLink "ReduceCluster" 172 (⟨"ReduceCluster", "allDone", "(Z)Z"⟩ : MethodName) ∈ xTT := xin2 170 rfl rfl
theorem wm_A_allDone : Cond.instanceMethod (⟨"ReduceCluster", "allDone", "(Z)Z"⟩ : MethodName) ∈ xTT := xin2 172 rfl rfl
theorem wl_A_164 : Cond.methodLink "ReduceCluster" 164 (⟨"ReduceCluster", "taskCount", "(Z)I"⟩ : MethodName) ∈ xTT := xin2 174 rfl rfl
theorem wm_A_taskCount : Cond.instanceMethod (⟨"ReduceCluster", "taskCount", "(Z)I"⟩ : MethodName) ∈ xTT := xin2 176 rfl rfl
theorem wl_A_182 : Cond.methodLink "ReduceCluster" 182 (⟨"ReduceCluster$Task", "isDone", "()Z"⟩ : MethodName) ∈ xTT := xin2 178 rfl rfl
theorem wm_T_isDone : Cond.instanceMethod (⟨"ReduceCluster$Task", "isDone", "()Z"⟩ : MethodName) ∈ xTT := xin2 179 rfl rfl
theorem we_T_isDone : Cond.selects "ReduceCluster$Task" (⟨"ReduceCluster$Task", "isDone", "()Z"⟩ : MethodName) (⟨"ReduceCluster$Task", "isDone", "()Z"⟩ : MethodName) ∈ xTT := xin2 180 rfl rfl
theorem wl_A_268 : Cond.methodLink "ReduceCluster" 268 (⟨"ReduceCluster", "freshTask", "(ZI)LReduceCluster$Task;"⟩ : MethodName) ∈ xTT := xin2 182 rfl rfl
theorem wm_A_freshTask : Cond.instanceMethod (⟨"ReduceCluster", "freshTask", "(ZI)LReduceCluster$Task;"⟩ : MethodName) ∈ xTT := xin2 184 rfl rfl
theorem wl_A_279 : Cond.methodLink "ReduceCluster" 279 (⟨"ReduceCluster", "doers", "(LReduceCluster$Task;)I"⟩ : MethodName) ∈ xTT := xin2 186 rfl rfl
theorem wm_A_doers : Cond.instanceMethod (⟨"ReduceCluster", "doers", "(LReduceCluster$Task;)I"⟩ : MethodName) ∈ xTT := xin2 188 rfl rfl
theorem wl_A_282 : Cond.methodLink "ReduceCluster" 282 (⟨"ReduceCluster", "canBeDone", "(LReduceCluster$Task;)Z"⟩ : MethodName) ∈ xTT := xin2 190 rfl rfl
theorem wm_A_canBeDone : Cond.instanceMethod (⟨"ReduceCluster", "canBeDone", "(LReduceCluster$Task;)Z"⟩ : MethodName) ∈ xTT := xin2 192 rfl rfl
theorem wl_A_286 : Cond.methodLink "ReduceCluster" 286 (⟨"ReduceCluster", "isHome", "(II)Z"⟩ : MethodName) ∈ xTT := xin2 194 rfl rfl
theorem ws_A_isHome : Cond.static (⟨"ReduceCluster", "isHome", "(II)Z"⟩ : MethodName) ∈ xTT := xin2 195 rfl rfl
theorem wl_A_272 : Cond.methodLink "ReduceCluster" 272 (⟨"ReduceCluster", "taskForSecondTime", "(Z)LReduceCluster$Task;"⟩ : MethodName) ∈ xTT := xin2 197 rfl rfl
theorem wm_A_taskForSecondTime : Cond.instanceMethod (⟨"ReduceCluster", "taskForSecondTime", "(Z)LReduceCluster$Task;"⟩ : MethodName) ∈ xTT := xin2 199 rfl rfl
theorem wl_A_189 : Cond.methodLink "ReduceCluster" 189 (⟨"ReduceCluster", "leastDoer", "(LReduceCluster$Task;)I"⟩ : MethodName) ∈ xTT := xin2 201 rfl rfl
theorem wm_A_leastDoer : Cond.instanceMethod (⟨"ReduceCluster", "leastDoer", "(LReduceCluster$Task;)I"⟩ : MethodName) ∈ xTT := xin2 203 rfl rfl
theorem wl_A_276 : Cond.methodLink "ReduceCluster" 276 (⟨"ReduceCluster$Worker", "take", "(LReduceCluster$Task;)V"⟩ : MethodName) ∈ xTT := xin2 205 rfl rfl
theorem wm_K_take : Cond.instanceMethod (⟨"ReduceCluster$Worker", "take", "(LReduceCluster$Task;)V"⟩ : MethodName) ∈ xTT := xin2 206 rfl rfl
theorem we_K_take : Cond.selects "ReduceCluster$Worker" (⟨"ReduceCluster$Worker", "take", "(LReduceCluster$Task;)V"⟩ : MethodName) (⟨"ReduceCluster$Worker", "take", "(LReduceCluster$Task;)V"⟩ : MethodName) ∈ xTT := xin2 207 rfl rfl
theorem wl_A_246 : Cond.methodLink "ReduceCluster" 246 (⟨"ReduceCluster$Worker", "doUnits", "()Z"⟩ : MethodName) ∈ xTT := xin2 209 rfl rfl
theorem wm_K_doUnits : Cond.instanceMethod (⟨"ReduceCluster$Worker", "doUnits", "()Z"⟩ : MethodName) ∈ xTT := xin2 210 rfl rfl
theorem we_K_doUnits : Cond.selects "ReduceCluster$Worker" (⟨"ReduceCluster$Worker", "doUnits", "()Z"⟩ : MethodName) (⟨"ReduceCluster$Worker", "doUnits", "()Z"⟩ : MethodName) ∈ xTT := xin2 211 rfl rfl
theorem wl_K_34 : Cond.methodLink "ReduceCluster$Worker" 34 (⟨"java/lang/Math", "min", "(II)I"⟩ : MethodName) ∈ xTT := xin2 213 rfl rfl
theorem wl_A_249 : Cond.methodLink "ReduceCluster" 249 (⟨"ReduceCluster", "completeTask", "(I)Z"⟩ : MethodName) ∈ xTT := xin2 214 rfl rfl
theorem wm_A_completeTask : Cond.instanceMethod (⟨"ReduceCluster", "completeTask", "(I)Z"⟩ : MethodName) ∈ xTT := xin2 216 rfl rfl
theorem wl_A_265 : Cond.methodLink "ReduceCluster" 265 (⟨"ReduceCluster$Job", "reduce", "(I)Z"⟩ : MethodName) ∈ xTT := xin2 218 rfl rfl
theorem wm_J_reduce : Cond.instanceMethod (⟨"ReduceCluster$Job", "reduce", "(I)Z"⟩ : MethodName) ∈ xTT := xin2 219 rfl rfl
theorem we_J_reduce : Cond.selects "ReduceCluster$Job" (⟨"ReduceCluster$Job", "reduce", "(I)Z"⟩ : MethodName) (⟨"ReduceCluster$Job", "reduce", "(I)Z"⟩ : MethodName) ∈ xTT := xin2 220 rfl rfl
theorem wl_J_63 : Cond.methodLink "ReduceCluster$Job" 63 (⟨"ReduceCluster$Pairs", "append", "(II)V"⟩ : MethodName) ∈ xTT := xin2 222 rfl rfl
theorem wl_J_66 : Cond.methodLink "ReduceCluster$Job" 66 (⟨"ReduceCluster$Job", "combine", "(III)I"⟩ : MethodName) ∈ xTT := xin2 223 rfl rfl
theorem ws_J_combine : Cond.static (⟨"ReduceCluster$Job", "combine", "(III)I"⟩ : MethodName) ∈ xTT := xin2 224 rfl rfl
theorem wl_A_139 : Cond.methodLink "ReduceCluster" 139 (⟨"ReduceCluster", "giveUpJob", "()V"⟩ : MethodName) ∈ xTT := xin2 226 rfl rfl
theorem wm_A_giveUpJob : Cond.instanceMethod (⟨"ReduceCluster", "giveUpJob", "()V"⟩ : MethodName) ∈ xTT := xin2 228 rfl rfl
theorem wl_A_253 : Cond.methodLink "ReduceCluster" 253 (⟨"ReduceCluster", "endJob", "()V"⟩ : MethodName) ∈ xTT := xin2 230 rfl rfl
theorem wm_A_endJob : Cond.instanceMethod (⟨"ReduceCluster", "endJob", "()V"⟩ : MethodName) ∈ xTT := xin2 232 rfl rfl
theorem wl_A_256 : Cond.methodLink "ReduceCluster" 256 (⟨"ReduceCluster", "anyoneWorks", "()Z"⟩ : MethodName) ∈ xTT := xin2 234 rfl rfl
theorem wm_A_anyoneWorks : Cond.instanceMethod (⟨"ReduceCluster", "anyoneWorks", "()Z"⟩ : MethodName) ∈ xTT := xin2 236 rfl rfl
theorem wk_A_136 : Cond.classLink "ReduceCluster" 136 "java/lang/ArithmeticException" ∈ xTT := xin2 238 rfl rfl
theorem wo_ArithmeticException : Cond.instantiable "java/lang/ArithmeticException" 6 ∈ xTT := xin2 239 rfl rfl
theorem wz_ArithmeticException : Cond.castable "java/lang/ArithmeticException" "java/lang/ArithmeticException" ∈ xTT := xin3 0 rfl rfl
theorem wl_A_138 : Cond.methodLink "ReduceCluster" 138 (⟨"java/lang/ArithmeticException", "<init>", "()V"⟩ : MethodName) ∈ xTT := xin3 7 rfl rfl
theorem wl_L_92 : Cond.methodLink "ReduceClusterLaw" 92 (⟨"ReduceClusterLaw", "stop", "(LReduceCluster;)I"⟩ : MethodName) ∈ xTT := xin3 13 rfl rfl
theorem ws_L_stop : Cond.static (⟨"ReduceClusterLaw", "stop", "(LReduceCluster;)I"⟩ : MethodName) ∈ xTT := xin3 14 rfl rfl
theorem wl_L_35 : Cond.methodLink "ReduceClusterLaw" 35 (⟨"ReduceCluster", "stop", "()V"⟩ : MethodName) ∈ xTT := xin3 16 rfl rfl
theorem wm_A_stop : Cond.instanceMethod (⟨"ReduceCluster", "stop", "()V"⟩ : MethodName) ∈ xTT := xin3 17 rfl rfl
theorem we_A_stop : Cond.selects "ReduceCluster" (⟨"ReduceCluster", "stop", "()V"⟩ : MethodName) (⟨"ReduceCluster", "stop", "()V"⟩ : MethodName) ∈ xTT := xin3 18 rfl rfl
theorem wl_L_96 : Cond.methodLink "ReduceClusterLaw" 96 (⟨"ReduceClusterLaw", "output", "(LReduceCluster;III[J)I"⟩ : MethodName) ∈ xTT := xin3 20 rfl rfl
theorem ws_L_output : Cond.static (⟨"ReduceClusterLaw", "output", "(LReduceCluster;III[J)I"⟩ : MethodName) ∈ xTT := xin3 21 rfl rfl
theorem wk_L_42 : Cond.classLink "ReduceClusterLaw" 42 "java/util/NoSuchElementException" ∈ xTT := xin3 23 rfl rfl
theorem wl_L_38 : Cond.methodLink "ReduceClusterLaw" 38 (⟨"ReduceCluster", "output", "(III)I"⟩ : MethodName) ∈ xTT := xin3 24 rfl rfl
theorem wm_A_output : Cond.instanceMethod (⟨"ReduceCluster", "output", "(III)I"⟩ : MethodName) ∈ xTT := xin3 25 rfl rfl
theorem we_A_output : Cond.selects "ReduceCluster" (⟨"ReduceCluster", "output", "(III)I"⟩ : MethodName) (⟨"ReduceCluster", "output", "(III)I"⟩ : MethodName) ∈ xTT := xin3 26 rfl rfl
theorem wk_A_145 : Cond.classLink "ReduceCluster" 145 "java/util/NoSuchElementException" ∈ xTT := xin3 28 rfl rfl
theorem wo_NoSuchElementException : Cond.instantiable "java/util/NoSuchElementException" 6 ∈ xTT := xin3 29 rfl rfl
theorem wz_NoSuchElementException : Cond.castable "java/util/NoSuchElementException" "java/util/NoSuchElementException" ∈ xTT := xin3 30 rfl rfl
theorem wl_A_147 : Cond.methodLink "ReduceCluster" 147 (⟨"java/util/NoSuchElementException", "<init>", "()V"⟩ : MethodName) ∈ xTT := xin3 37 rfl rfl
theorem wl_L_100 : Cond.methodLink "ReduceClusterLaw" 100 (⟨"ReduceClusterLaw", "find", "(LReduceCluster;I[J)I"⟩ : MethodName) ∈ xTT := xin3 43 rfl rfl
theorem ws_L_find : Cond.static (⟨"ReduceClusterLaw", "find", "(LReduceCluster;I[J)I"⟩ : MethodName) ∈ xTT := xin3 44 rfl rfl
theorem wl_L_44 : Cond.methodLink "ReduceClusterLaw" 44 (⟨"ReduceCluster", "find", "(I)I"⟩ : MethodName) ∈ xTT := xin3 46 rfl rfl
theorem wm_A_find : Cond.instanceMethod (⟨"ReduceCluster", "find", "(I)I"⟩ : MethodName) ∈ xTT := xin3 47 rfl rfl
theorem we_A_find : Cond.selects "ReduceCluster" (⟨"ReduceCluster", "find", "(I)I"⟩ : MethodName) (⟨"ReduceCluster", "find", "(I)I"⟩ : MethodName) ∈ xTT := xin3 48 rfl rfl
theorem wl_A_158 : Cond.methodLink "ReduceCluster" 158 (⟨"ReduceCluster$Job", "partitionOf", "(I)I"⟩ : MethodName) ∈ xTT := xin3 50 rfl rfl
theorem wl_A_161 : Cond.methodLink "ReduceCluster" 161 (⟨"ReduceCluster$Pairs", "indexOf", "(I)I"⟩ : MethodName) ∈ xTT := xin3 51 rfl rfl
theorem wm_P_indexOf : Cond.instanceMethod (⟨"ReduceCluster$Pairs", "indexOf", "(I)I"⟩ : MethodName) ∈ xTT := xin3 52 rfl rfl
theorem we_P_indexOf : Cond.selects "ReduceCluster$Pairs" (⟨"ReduceCluster$Pairs", "indexOf", "(I)I"⟩ : MethodName) (⟨"ReduceCluster$Pairs", "indexOf", "(I)I"⟩ : MethodName) ∈ xTT := xin3 53 rfl rfl
theorem wl_L_103 : Cond.methodLink "ReduceClusterLaw" 103 (⟨"ReduceClusterLaw", "task", "(LReduceCluster;ZII[J)I"⟩ : MethodName) ∈ xTT := xin3 55 rfl rfl
theorem ws_L_task : Cond.static (⟨"ReduceClusterLaw", "task", "(LReduceCluster;ZII[J)I"⟩ : MethodName) ∈ xTT := xin3 56 rfl rfl
theorem wl_L_47 : Cond.methodLink "ReduceClusterLaw" 47 (⟨"ReduceCluster", "task", "(ZII)I"⟩ : MethodName) ∈ xTT := xin3 58 rfl rfl
theorem wm_A_task : Cond.instanceMethod (⟨"ReduceCluster", "task", "(ZII)I"⟩ : MethodName) ∈ xTT := xin3 59 rfl rfl
theorem we_A_task : Cond.selects "ReduceCluster" (⟨"ReduceCluster", "task", "(ZII)I"⟩ : MethodName) (⟨"ReduceCluster", "task", "(ZII)I"⟩ : MethodName) ∈ xTT := xin3 60 rfl rfl
theorem wl_A_168 : Cond.methodLink "ReduceCluster" 168 (⟨"ReduceCluster", "stateOf", "(LReduceCluster$Task;)I"⟩ : MethodName) ∈ xTT := xin3 62 rfl rfl
theorem wm_A_stateOf : Cond.instanceMethod (⟨"ReduceCluster", "stateOf", "(LReduceCluster$Task;)I"⟩ : MethodName) ∈ xTT := xin3 64 rfl rfl
theorem wl_L_107 : Cond.methodLink "ReduceClusterLaw" 107 (⟨"ReduceClusterLaw", "ofWorker", "(LReduceCluster;II[J)I"⟩ : MethodName) ∈ xTT := xin3 66 rfl rfl
theorem ws_L_ofWorker : Cond.static (⟨"ReduceClusterLaw", "ofWorker", "(LReduceCluster;II[J)I"⟩ : MethodName) ∈ xTT := xin3 67 rfl rfl
theorem wl_L_51 : Cond.methodLink "ReduceClusterLaw" 51 (⟨"ReduceCluster", "ofWorker", "(II)I"⟩ : MethodName) ∈ xTT := xin3 69 rfl rfl
theorem wm_A_ofWorker : Cond.instanceMethod (⟨"ReduceCluster", "ofWorker", "(II)I"⟩ : MethodName) ∈ xTT := xin3 70 rfl rfl
theorem we_A_ofWorker : Cond.selects "ReduceCluster" (⟨"ReduceCluster", "ofWorker", "(II)I"⟩ : MethodName) (⟨"ReduceCluster", "ofWorker", "(II)I"⟩ : MethodName) ∈ xTT := xin3 71 rfl rfl
theorem wl_A_192 : Cond.methodLink "ReduceCluster" 192 (⟨"ReduceCluster$Worker", "taskNumber", "()I"⟩ : MethodName) ∈ xTT := xin3 73 rfl rfl
theorem wm_K_taskNumber : Cond.instanceMethod (⟨"ReduceCluster$Worker", "taskNumber", "()I"⟩ : MethodName) ∈ xTT := xin3 74 rfl rfl
theorem we_K_taskNumber : Cond.selects "ReduceCluster$Worker" (⟨"ReduceCluster$Worker", "taskNumber", "()I"⟩ : MethodName) (⟨"ReduceCluster$Worker", "taskNumber", "()I"⟩ : MethodName) ∈ xTT := xin3 75 rfl rfl
theorem wk_L_56 : Cond.classLink "ReduceClusterLaw" 56 "ReduceClusterModel" ∈ xTT := xin3 77 rfl rfl
theorem wo_M : Cond.instantiable "ReduceClusterModel" 31 ∈ xTT := xin3 78 rfl rfl
theorem wl_L_58 : Cond.methodLink "ReduceClusterLaw" 58 (⟨"ReduceClusterModel", "<init>", "()V"⟩ : MethodName) ∈ xTT := xin3 79 rfl rfl
theorem wm_M_init : Cond.instanceMethod (⟨"ReduceClusterModel", "<init>", "()V"⟩ : MethodName) ∈ xTT := xin3 80 rfl rfl
theorem wl_M_1 : Cond.methodLink "ReduceClusterModel" 1 (⟨"java/lang/Object", "<init>", "()V"⟩ : MethodName) ∈ xTT := xin3 82 rfl rfl
theorem wv_M_47 : Cond.constant "ReduceClusterModel" 47 (-2147483648) ∈ xTT := xin3 83 rfl rfl
theorem wf_M_7 : Cond.fieldLink "ReduceClusterModel" 7 "ReduceClusterModel" "size" "[I" ∈ xTT := xin3 84 rfl rfl
theorem wf_M_13 : Cond.fieldLink "ReduceClusterModel" 13 "ReduceClusterModel" "numbers" "[I" ∈ xTT := xin3 85 rfl rfl
theorem wf_M_16 : Cond.fieldLink "ReduceClusterModel" 16 "ReduceClusterModel" "speed" "[I" ∈ xTT := xin3 86 rfl rfl
theorem wf_M_19 : Cond.fieldLink "ReduceClusterModel" 19 "ReduceClusterModel" "task" "[I" ∈ xTT := xin3 87 rfl rfl
theorem wf_M_22 : Cond.fieldLink "ReduceClusterModel" 22 "ReduceClusterModel" "left" "[I" ∈ xTT := xin3 88 rfl rfl
theorem wf_M_25 : Cond.fieldLink "ReduceClusterModel" 25 "ReduceClusterModel" "units" "[I" ∈ xTT := xin3 89 rfl rfl
theorem wf_M_28 : Cond.fieldLink "ReduceClusterModel" 28 "ReduceClusterModel" "up" "[Z" ∈ xTT := xin3 90 rfl rfl
theorem wf_M_32 : Cond.fieldLink "ReduceClusterModel" 32 "ReduceClusterModel" "done" "[Z" ∈ xTT := xin3 91 rfl rfl
theorem wf_M_35 : Cond.fieldLink "ReduceClusterModel" 35 "ReduceClusterModel" "doneBy" "[I" ∈ xTT := xin3 92 rfl rfl
theorem wf_M_38 : Cond.fieldLink "ReduceClusterModel" 38 "ReduceClusterModel" "key" "[I" ∈ xTT := xin3 93 rfl rfl
theorem wf_M_41 : Cond.fieldLink "ReduceClusterModel" 41 "ReduceClusterModel" "value" "[I" ∈ xTT := xin3 94 rfl rfl
theorem wf_M_44 : Cond.fieldLink "ReduceClusterModel" 44 "ReduceClusterModel" "perChunk" "[I" ∈ xTT := xin3 95 rfl rfl
theorem wf_M_86 : Cond.fieldLink "ReduceClusterModel" 86 "ReduceClusterModel" "pairs" "I" ∈ xTT := xin3 96 rfl rfl
theorem wf_M_79 : Cond.fieldLink "ReduceClusterModel" 79 "ReduceClusterModel" "chunks" "I" ∈ xTT := xin3 97 rfl rfl
theorem wf_M_64 : Cond.fieldLink "ReduceClusterModel" 64 "ReduceClusterModel" "thrown" "I" ∈ xTT := xin3 98 rfl rfl
theorem wf_M_48 : Cond.fieldLink "ReduceClusterModel" 48 "ReduceClusterModel" "least" "I" ∈ xTT := xin3 99 rfl rfl
theorem wf_M_106 : Cond.fieldLink "ReduceClusterModel" 106 "ReduceClusterModel" "jobLeast" "I" ∈ xTT := xin3 100 rfl rfl
theorem wf_M_52 : Cond.fieldLink "ReduceClusterModel" 52 "ReduceClusterModel" "mapper" "I" ∈ xTT := xin3 101 rfl rfl
theorem wf_M_109 : Cond.fieldLink "ReduceClusterModel" 109 "ReduceClusterModel" "reducer" "I" ∈ xTT := xin3 102 rfl rfl
theorem wf_M_103 : Cond.fieldLink "ReduceClusterModel" 103 "ReduceClusterModel" "partitions" "I" ∈ xTT := xin3 103 rfl rfl
theorem wf_M_125 : Cond.fieldLink "ReduceClusterModel" 125 "ReduceClusterModel" "buffer" "I" ∈ xTT := xin3 104 rfl rfl
theorem wf_M_170 : Cond.fieldLink "ReduceClusterModel" 170 "ReduceClusterModel" "ticks" "I" ∈ xTT := xin3 105 rfl rfl
theorem wf_M_164 : Cond.fieldLink "ReduceClusterModel" 164 "ReduceClusterModel" "ended" "I" ∈ xTT := xin3 106 rfl rfl
theorem wf_M_154 : Cond.fieldLink "ReduceClusterModel" 154 "ReduceClusterModel" "seconds" "I" ∈ xTT := xin3 107 rfl rfl
theorem wf_M_118 : Cond.fieldLink "ReduceClusterModel" 118 "ReduceClusterModel" "undone" "I" ∈ xTT := xin3 108 rfl rfl
theorem wf_M_167 : Cond.fieldLink "ReduceClusterModel" 167 "ReduceClusterModel" "outPartitions" "I" ∈ xTT := xin3 109 rfl rfl
theorem wf_M_75 : Cond.fieldLink "ReduceClusterModel" 75 "ReduceClusterModel" "job" "Z" ∈ xTT := xin3 110 rfl rfl
theorem wf_M_112 : Cond.fieldLink "ReduceClusterModel" 112 "ReduceClusterModel" "any" "Z" ∈ xTT := xin3 111 rfl rfl
theorem wf_M_55 : Cond.fieldLink "ReduceClusterModel" 55 "ReduceClusterModel" "outKey" "[I" ∈ xTT := xin3 112 rfl rfl
theorem wf_M_58 : Cond.fieldLink "ReduceClusterModel" 58 "ReduceClusterModel" "outValue" "[I" ∈ xTT := xin3 113 rfl rfl
theorem wf_M_61 : Cond.fieldLink "ReduceClusterModel" 61 "ReduceClusterModel" "outCount" "[I" ∈ xTT := xin3 114 rfl rfl
theorem wa_boolean : Cond.arrayClass FieldType.boolean ∈ xTT := xin3 178 rfl rfl
theorem wl_L_71 : Cond.methodLink "ReduceClusterLaw" 71 (⟨"ReduceClusterModel", "thrown", "()I"⟩ : MethodName) ∈ xTT := xin3 179 rfl rfl
theorem wm_M_thrown : Cond.instanceMethod (⟨"ReduceClusterModel", "thrown", "()I"⟩ : MethodName) ∈ xTT := xin3 180 rfl rfl
theorem we_M_thrown : Cond.selects "ReduceClusterModel" (⟨"ReduceClusterModel", "thrown", "()I"⟩ : MethodName) (⟨"ReduceClusterModel", "thrown", "()I"⟩ : MethodName) ∈ xTT := xin3 181 rfl rfl
theorem wl_L_66 : Cond.methodLink "ReduceClusterLaw" 66 (⟨"ReduceClusterModel", "chunk", "(JII)I"⟩ : MethodName) ∈ xTT := xin3 183 rfl rfl
theorem wm_M_chunk : Cond.instanceMethod (⟨"ReduceClusterModel", "chunk", "(JII)I"⟩ : MethodName) ∈ xTT := xin3 184 rfl rfl
theorem we_M_chunk : Cond.selects "ReduceClusterModel" (⟨"ReduceClusterModel", "chunk", "(JII)I"⟩ : MethodName) (⟨"ReduceClusterModel", "chunk", "(JII)I"⟩ : MethodName) ∈ xTT := xin3 185 rfl rfl
theorem wl_M_67 : Cond.methodLink "ReduceClusterModel" 67 (⟨"ReduceClusterModel", "in", "(III)Z"⟩ : MethodName) ∈ xTT := xin3 187 rfl rfl
theorem ws_M_in : Cond.static (⟨"ReduceClusterModel", "in", "(III)Z"⟩ : MethodName) ∈ xTT := xin3 188 rfl rfl
theorem wl_M_71 : Cond.methodLink "ReduceClusterModel" 71 (⟨"ReduceClusterModel", "bad", "(Z)Z"⟩ : MethodName) ∈ xTT := xin3 190 rfl rfl
theorem wm_M_bad : Cond.instanceMethod (⟨"ReduceClusterModel", "bad", "(Z)Z"⟩ : MethodName) ∈ xTT := xin3 192 rfl rfl
theorem wl_M_82 : Cond.methodLink "ReduceClusterModel" 82 (⟨"ReduceClusterModel", "fail", "(I)I"⟩ : MethodName) ∈ xTT := xin3 194 rfl rfl
theorem wm_M_fail : Cond.instanceMethod (⟨"ReduceClusterModel", "fail", "(I)I"⟩ : MethodName) ∈ xTT := xin3 196 rfl rfl
theorem wl_L_70 : Cond.methodLink "ReduceClusterLaw" 70 (⟨"ReduceClusterModel", "worker", "(IZ)V"⟩ : MethodName) ∈ xTT := xin3 198 rfl rfl
theorem wm_M_worker : Cond.instanceMethod (⟨"ReduceClusterModel", "worker", "(IZ)V"⟩ : MethodName) ∈ xTT := xin3 199 rfl rfl
theorem we_M_worker : Cond.selects "ReduceClusterModel" (⟨"ReduceClusterModel", "worker", "(IZ)V"⟩ : MethodName) (⟨"ReduceClusterModel", "worker", "(IZ)V"⟩ : MethodName) ∈ xTT := xin3 200 rfl rfl
theorem wl_M_121 : Cond.methodLink "ReduceClusterModel" 121 (⟨"ReduceClusterModel", "giveUp", "(Z)V"⟩ : MethodName) ∈ xTT := xin3 202 rfl rfl
theorem wm_M_giveUp : Cond.instanceMethod (⟨"ReduceClusterModel", "giveUp", "(Z)V"⟩ : MethodName) ∈ xTT := xin3 204 rfl rfl
theorem wl_L_78 : Cond.methodLink "ReduceClusterLaw" 78 (⟨"ReduceClusterModel", "speed", "(II)V"⟩ : MethodName) ∈ xTT := xin3 206 rfl rfl
theorem wm_M_speed : Cond.instanceMethod (⟨"ReduceClusterModel", "speed", "(II)V"⟩ : MethodName) ∈ xTT := xin3 207 rfl rfl
theorem we_M_speed : Cond.selects "ReduceClusterModel" (⟨"ReduceClusterModel", "speed", "(II)V"⟩ : MethodName) (⟨"ReduceClusterModel", "speed", "(II)V"⟩ : MethodName) ∈ xTT := xin3 208 rfl rfl
theorem wl_L_83 : Cond.methodLink "ReduceClusterLaw" 83 (⟨"ReduceClusterModel", "filter", "(I)V"⟩ : MethodName) ∈ xTT := xin3 210 rfl rfl
theorem wm_M_filter : Cond.instanceMethod (⟨"ReduceClusterModel", "filter", "(I)V"⟩ : MethodName) ∈ xTT := xin3 211 rfl rfl
theorem we_M_filter : Cond.selects "ReduceClusterModel" (⟨"ReduceClusterModel", "filter", "(I)V"⟩ : MethodName) (⟨"ReduceClusterModel", "filter", "(I)V"⟩ : MethodName) ∈ xTT := xin3 212 rfl rfl
theorem wl_L_87 : Cond.methodLink "ReduceClusterLaw" 87 (⟨"ReduceClusterModel", "begin", "(IIII)I"⟩ : MethodName) ∈ xTT := xin3 214 rfl rfl
theorem wm_M_begin : Cond.instanceMethod (⟨"ReduceClusterModel", "begin", "(IIII)I"⟩ : MethodName) ∈ xTT := xin3 215 rfl rfl
theorem we_M_begin : Cond.selects "ReduceClusterModel" (⟨"ReduceClusterModel", "begin", "(IIII)I"⟩ : MethodName) (⟨"ReduceClusterModel", "begin", "(IIII)I"⟩ : MethodName) ∈ xTT := xin3 216 rfl rfl
theorem wl_M_128 : Cond.methodLink "ReduceClusterModel" 128 (⟨"ReduceClusterModel", "mapAll", "()V"⟩ : MethodName) ∈ xTT := xin3 218 rfl rfl
theorem wm_M_mapAll : Cond.instanceMethod (⟨"ReduceClusterModel", "mapAll", "()V"⟩ : MethodName) ∈ xTT := xin3 220 rfl rfl
theorem wl_M_99 : Cond.methodLink "ReduceClusterModel" 99 (⟨"ReduceClusterModel", "map", "(I)V"⟩ : MethodName) ∈ xTT := xin3 222 rfl rfl
theorem wm_M_map : Cond.instanceMethod (⟨"ReduceClusterModel", "map", "(I)V"⟩ : MethodName) ∈ xTT := xin3 224 rfl rfl
theorem wl_M_89 : Cond.methodLink "ReduceClusterModel" 89 (⟨"ReduceClusterModel", "modulo", "(II)I"⟩ : MethodName) ∈ xTT := xin3 226 rfl rfl
theorem ws_M_modulo : Cond.static (⟨"ReduceClusterModel", "modulo", "(II)I"⟩ : MethodName) ∈ xTT := xin3 227 rfl rfl
theorem wl_M_93 : Cond.methodLink "ReduceClusterModel" 93 (⟨"ReduceClusterModel", "pair", "(II)V"⟩ : MethodName) ∈ xTT := xin3 229 rfl rfl
theorem wm_M_pair : Cond.instanceMethod (⟨"ReduceClusterModel", "pair", "(II)V"⟩ : MethodName) ∈ xTT := xin3 231 rfl rfl
theorem wv_M_97 : Cond.constantLong "ReduceClusterModel" 97 10 ∈ xTT := xin3 233 rfl rfl
theorem wl_M_131 : Cond.methodLink "ReduceClusterModel" 131 (⟨"ReduceClusterModel", "sort", "()V"⟩ : MethodName) ∈ xTT := xin3 234 rfl rfl
theorem wm_M_sort : Cond.instanceMethod (⟨"ReduceClusterModel", "sort", "()V"⟩ : MethodName) ∈ xTT := xin3 236 rfl rfl
theorem wl_L_91 : Cond.methodLink "ReduceClusterLaw" 91 (⟨"ReduceClusterModel", "run", "(I)I"⟩ : MethodName) ∈ xTT := xin3 238 rfl rfl
theorem wm_M_run : Cond.instanceMethod (⟨"ReduceClusterModel", "run", "(I)I"⟩ : MethodName) ∈ xTT := xin3 239 rfl rfl
theorem we_M_run : Cond.selects "ReduceClusterModel" (⟨"ReduceClusterModel", "run", "(I)I"⟩ : MethodName) (⟨"ReduceClusterModel", "run", "(I)I"⟩ : MethodName) ∈ xTT := xin4 0 rfl rfl
theorem wl_M_182 : Cond.methodLink "ReduceClusterModel" 182 (⟨"ReduceClusterModel", "tick", "()V"⟩ : MethodName) ∈ xTT := xin4 2 rfl rfl
theorem wm_M_tick : Cond.instanceMethod (⟨"ReduceClusterModel", "tick", "()V"⟩ : MethodName) ∈ xTT := xin4 4 rfl rfl
theorem wl_M_173 : Cond.methodLink "ReduceClusterModel" 173 (⟨"ReduceClusterModel", "get", "(I)V"⟩ : MethodName) ∈ xTT := xin4 6 rfl rfl
theorem wm_M_get : Cond.instanceMethod (⟨"ReduceClusterModel", "get", "(I)V"⟩ : MethodName) ∈ xTT := xin4 8 rfl rfl
theorem wl_M_140 : Cond.methodLink "ReduceClusterModel" 140 (⟨"ReduceClusterModel", "mapsDone", "()Z"⟩ : MethodName) ∈ xTT := xin4 10 rfl rfl
theorem wm_M_mapsDone : Cond.instanceMethod (⟨"ReduceClusterModel", "mapsDone", "()Z"⟩ : MethodName) ∈ xTT := xin4 12 rfl rfl
theorem wl_M_144 : Cond.methodLink "ReduceClusterModel" 144 (⟨"ReduceClusterModel", "readable", "(I)Z"⟩ : MethodName) ∈ xTT := xin4 14 rfl rfl
theorem wm_M_readable : Cond.instanceMethod (⟨"ReduceClusterModel", "readable", "(I)Z"⟩ : MethodName) ∈ xTT := xin4 16 rfl rfl
theorem wl_M_148 : Cond.methodLink "ReduceClusterModel" 148 (⟨"ReduceClusterModel", "doing", "(I)I"⟩ : MethodName) ∈ xTT := xin4 18 rfl rfl
theorem wm_M_doing : Cond.instanceMethod (⟨"ReduceClusterModel", "doing", "(I)I"⟩ : MethodName) ∈ xTT := xin4 20 rfl rfl
theorem wl_M_151 : Cond.methodLink "ReduceClusterModel" 151 (⟨"ReduceClusterModel", "leftOf", "(I)I"⟩ : MethodName) ∈ xTT := xin4 22 rfl rfl
theorem wm_M_leftOf : Cond.instanceMethod (⟨"ReduceClusterModel", "leftOf", "(I)I"⟩ : MethodName) ∈ xTT := xin4 24 rfl rfl
theorem wl_M_157 : Cond.methodLink "ReduceClusterModel" 157 (⟨"ReduceClusterModel", "needs", "(I)I"⟩ : MethodName) ∈ xTT := xin4 26 rfl rfl
theorem wm_M_needs : Cond.instanceMethod (⟨"ReduceClusterModel", "needs", "(I)I"⟩ : MethodName) ∈ xTT := xin4 28 rfl rfl
theorem wl_M_134 : Cond.methodLink "ReduceClusterModel" 134 (⟨"ReduceClusterModel", "runs", "(I)I"⟩ : MethodName) ∈ xTT := xin4 30 rfl rfl
theorem wm_M_runs : Cond.instanceMethod (⟨"ReduceClusterModel", "runs", "(I)I"⟩ : MethodName) ∈ xTT := xin4 32 rfl rfl
theorem wl_M_137 : Cond.methodLink "ReduceClusterModel" 137 (⟨"ReduceClusterModel", "pairsOf", "(I)I"⟩ : MethodName) ∈ xTT := xin4 34 rfl rfl
theorem wm_M_pairsOf : Cond.instanceMethod (⟨"ReduceClusterModel", "pairsOf", "(I)I"⟩ : MethodName) ∈ xTT := xin4 36 rfl rfl
theorem wl_M_176 : Cond.methodLink "ReduceClusterModel" 176 (⟨"ReduceClusterModel", "finish", "(I)V"⟩ : MethodName) ∈ xTT := xin4 38 rfl rfl
theorem wm_M_finish : Cond.instanceMethod (⟨"ReduceClusterModel", "finish", "(I)V"⟩ : MethodName) ∈ xTT := xin4 40 rfl rfl
theorem wl_M_160 : Cond.methodLink "ReduceClusterModel" 160 (⟨"ReduceClusterModel", "reduce", "(IZ)I"⟩ : MethodName) ∈ xTT := xin4 42 rfl rfl
theorem wm_M_reduce : Cond.instanceMethod (⟨"ReduceClusterModel", "reduce", "(IZ)I"⟩ : MethodName) ∈ xTT := xin4 44 rfl rfl
theorem wl_M_115 : Cond.methodLink "ReduceClusterModel" 115 (⟨"ReduceClusterModel", "reduced", "(I)I"⟩ : MethodName) ∈ xTT := xin4 46 rfl rfl
theorem wm_M_reduced : Cond.instanceMethod (⟨"ReduceClusterModel", "reduced", "(I)I"⟩ : MethodName) ∈ xTT := xin4 48 rfl rfl
theorem wl_M_179 : Cond.methodLink "ReduceClusterModel" 179 (⟨"ReduceClusterModel", "end", "()V"⟩ : MethodName) ∈ xTT := xin4 50 rfl rfl
theorem wm_M_end : Cond.instanceMethod (⟨"ReduceClusterModel", "end", "()V"⟩ : MethodName) ∈ xTT := xin4 52 rfl rfl
theorem wl_L_95 : Cond.methodLink "ReduceClusterLaw" 95 (⟨"ReduceClusterModel", "stop", "()V"⟩ : MethodName) ∈ xTT := xin4 54 rfl rfl
theorem wm_M_stop : Cond.instanceMethod (⟨"ReduceClusterModel", "stop", "()V"⟩ : MethodName) ∈ xTT := xin4 55 rfl rfl
theorem we_M_stop : Cond.selects "ReduceClusterModel" (⟨"ReduceClusterModel", "stop", "()V"⟩ : MethodName) (⟨"ReduceClusterModel", "stop", "()V"⟩ : MethodName) ∈ xTT := xin4 56 rfl rfl
theorem wl_L_99 : Cond.methodLink "ReduceClusterLaw" 99 (⟨"ReduceClusterModel", "output", "(III)I"⟩ : MethodName) ∈ xTT := xin4 58 rfl rfl
theorem wm_M_output : Cond.instanceMethod (⟨"ReduceClusterModel", "output", "(III)I"⟩ : MethodName) ∈ xTT := xin4 59 rfl rfl
theorem we_M_output : Cond.selects "ReduceClusterModel" (⟨"ReduceClusterModel", "output", "(III)I"⟩ : MethodName) (⟨"ReduceClusterModel", "output", "(III)I"⟩ : MethodName) ∈ xTT := xin4 60 rfl rfl
theorem wl_L_102 : Cond.methodLink "ReduceClusterLaw" 102 (⟨"ReduceClusterModel", "find", "(I)I"⟩ : MethodName) ∈ xTT := xin4 62 rfl rfl
theorem wm_M_find : Cond.instanceMethod (⟨"ReduceClusterModel", "find", "(I)I"⟩ : MethodName) ∈ xTT := xin4 63 rfl rfl
theorem we_M_find : Cond.selects "ReduceClusterModel" (⟨"ReduceClusterModel", "find", "(I)I"⟩ : MethodName) (⟨"ReduceClusterModel", "find", "(I)I"⟩ : MethodName) ∈ xTT := xin4 64 rfl rfl
theorem wl_L_106 : Cond.methodLink "ReduceClusterLaw" 106 (⟨"ReduceClusterModel", "task", "(ZII)I"⟩ : MethodName) ∈ xTT := xin4 66 rfl rfl
theorem wm_M_task : Cond.instanceMethod (⟨"ReduceClusterModel", "task", "(ZII)I"⟩ : MethodName) ∈ xTT := xin4 67 rfl rfl
theorem we_M_task : Cond.selects "ReduceClusterModel" (⟨"ReduceClusterModel", "task", "(ZII)I"⟩ : MethodName) (⟨"ReduceClusterModel", "task", "(ZII)I"⟩ : MethodName) ∈ xTT := xin4 68 rfl rfl
theorem wl_L_110 : Cond.methodLink "ReduceClusterLaw" 110 (⟨"ReduceClusterModel", "ofWorker", "(II)I"⟩ : MethodName) ∈ xTT := xin4 70 rfl rfl
theorem wm_M_ofWorker : Cond.instanceMethod (⟨"ReduceClusterModel", "ofWorker", "(II)I"⟩ : MethodName) ∈ xTT := xin4 71 rfl rfl
theorem we_M_ofWorker : Cond.selects "ReduceClusterModel" (⟨"ReduceClusterModel", "ofWorker", "(II)I"⟩ : MethodName) (⟨"ReduceClusterModel", "ofWorker", "(II)I"⟩ : MethodName) ∈ xTT := xin4 72 rfl rfl
theorem wl_L_114 : Cond.methodLink "ReduceClusterLaw" 114 (⟨"ReduceClusterModel", "count", "(I)I"⟩ : MethodName) ∈ xTT := xin4 74 rfl rfl
theorem wm_M_count : Cond.instanceMethod (⟨"ReduceClusterModel", "count", "(I)I"⟩ : MethodName) ∈ xTT := xin4 75 rfl rfl
theorem we_M_count : Cond.selects "ReduceClusterModel" (⟨"ReduceClusterModel", "count", "(I)I"⟩ : MethodName) (⟨"ReduceClusterModel", "count", "(I)I"⟩ : MethodName) ∈ xTT := xin4 76 rfl rfl
theorem wv_L_59 : Cond.constantLong "ReduceClusterLaw" 59 4294967295 ∈ xTT := xin4 78 rfl rfl
theorem wa_long : Cond.arrayClass FieldType.long ∈ xTT := xin4 79 rfl rfl
theorem plc_A : plainName "ReduceCluster" = true := by decide +kernel
theorem plc_C : plainName "ReduceCluster$Chunk" = true := by decide +kernel
theorem plc_J : plainName "ReduceCluster$Job" = true := by decide +kernel
theorem plc_P : plainName "ReduceCluster$Pairs" = true := by decide +kernel
theorem plc_T : plainName "ReduceCluster$Task" = true := by decide +kernel
theorem plc_K : plainName "ReduceCluster$Worker" = true := by decide +kernel
theorem plc_M : plainName "ReduceClusterModel" = true := by decide +kernel
theorem plc_L : plainName "ReduceClusterLaw" = true := by decide +kernel
theorem pl_A_init : plainFor (xMn m_A_init) = true := plainFor_of_name plc_A
theorem np_A_init : (parseMethodDescriptor (xMn m_A_init).desc).map (fun d => d.parameters.length) = some 0 := by decide +kernel
theorem pl_P_init : plainFor (xMn m_P_init) = true := plainFor_of_name plc_P
theorem np_P_init : (parseMethodDescriptor (xMn m_P_init).desc).map (fun d => d.parameters.length) = some 1 := by decide +kernel
theorem pl_J_init : plainFor (xMn m_J_init) = true := plainFor_of_name plc_J
theorem np_J_init : (parseMethodDescriptor (xMn m_J_init).desc).map (fun d => d.parameters.length) = some 0 := by decide +kernel
theorem pl_K_init : plainFor (xMn m_K_init) = true := plainFor_of_name plc_K
theorem np_K_init : (parseMethodDescriptor (xMn m_K_init).desc).map (fun d => d.parameters.length) = some 0 := by decide +kernel
theorem pl_C_init : plainFor (xMn m_C_init) = true := plainFor_of_name plc_C
theorem np_C_init : (parseMethodDescriptor (xMn m_C_init).desc).map (fun d => d.parameters.length) = some 0 := by decide +kernel
theorem pl_T_init : plainFor (xMn m_T_init) = true := plainFor_of_name plc_T
theorem np_T_init : (parseMethodDescriptor (xMn m_T_init).desc).map (fun d => d.parameters.length) = some 2 := by decide +kernel
theorem pl_A_filter : plainFor (xMn m_A_filter) = true := plainFor_of_name plc_A
theorem np_A_filter : (parseMethodDescriptor (xMn m_A_filter).desc).map (fun d => d.parameters.length) = some 1 := by decide +kernel
theorem pl_A_count : plainFor (xMn m_A_count) = true := plainFor_of_name plc_A
theorem np_A_count : (parseMethodDescriptor (xMn m_A_count).desc).map (fun d => d.parameters.length) = some 1 := by decide +kernel
theorem pl_A_pairsOfChunks : plainFor (xMn m_A_pairsOfChunks) = true := plainFor_of_name plc_A
theorem np_A_pairsOfChunks : (parseMethodDescriptor (xMn m_A_pairsOfChunks).desc).map (fun d => d.parameters.length) = some 0 := by decide +kernel
theorem pl_A_mapNumber : plainFor (xMn m_A_mapNumber) = true := plainFor_of_name plc_A
theorem np_A_mapNumber : (parseMethodDescriptor (xMn m_A_mapNumber).desc).map (fun d => d.parameters.length) = some 3 := by decide +kernel
theorem pl_Z_floorMod : plainFor (xMn m_Z_floorMod) = true := by decide +kernel
theorem np_Z_floorMod : (parseMethodDescriptor (xMn m_Z_floorMod).desc).map (fun d => d.parameters.length) = some 2 := by decide +kernel
theorem pl_P_append : plainFor (xMn m_P_append) = true := plainFor_of_name plc_P
theorem np_P_append : (parseMethodDescriptor (xMn m_P_append).desc).map (fun d => d.parameters.length) = some 2 := by decide +kernel
theorem pl_A_mapDigits : plainFor (xMn m_A_mapDigits) = true := plainFor_of_name plc_A
theorem np_A_mapDigits : (parseMethodDescriptor (xMn m_A_mapDigits).desc).map (fun d => d.parameters.length) = some 2 := by decide +kernel
theorem pl_Z_abs : plainFor (xMn m_Z_abs) = true := by decide +kernel
theorem np_Z_abs : (parseMethodDescriptor (xMn m_Z_abs).desc).map (fun d => d.parameters.length) = some 1 := by decide +kernel
theorem pl_L_chunk : plainFor (xMn m_L_chunk) = true := plainFor_of_name plc_L
theorem np_L_chunk : (parseMethodDescriptor (xMn m_L_chunk).desc).map (fun d => d.parameters.length) = some 5 := by decide +kernel
theorem pl_A_chunk : plainFor (xMn m_A_chunk) = true := plainFor_of_name plc_A
theorem np_A_chunk : (parseMethodDescriptor (xMn m_A_chunk).desc).map (fun d => d.parameters.length) = some 3 := by decide +kernel
theorem pl_A_demandRange : plainFor (xMn m_A_demandRange) = true := plainFor_of_name plc_A
theorem np_A_demandRange : (parseMethodDescriptor (xMn m_A_demandRange).desc).map (fun d => d.parameters.length) = some 3 := by decide +kernel
theorem pl_C_fill : plainFor (xMn m_C_fill) = true := plainFor_of_name plc_C
theorem np_C_fill : (parseMethodDescriptor (xMn m_C_fill).desc).map (fun d => d.parameters.length) = some 3 := by decide +kernel
theorem pl_Z_min : plainFor (xMn m_Z_min) = true := by decide +kernel
theorem np_Z_min : (parseMethodDescriptor (xMn m_Z_min).desc).map (fun d => d.parameters.length) = some 2 := by decide +kernel
theorem pl_L_worker : plainFor (xMn m_L_worker) = true := plainFor_of_name plc_L
theorem np_L_worker : (parseMethodDescriptor (xMn m_L_worker).desc).map (fun d => d.parameters.length) = some 3 := by decide +kernel
theorem pl_A_worker : plainFor (xMn m_A_worker) = true := plainFor_of_name plc_A
theorem np_A_worker : (parseMethodDescriptor (xMn m_A_worker).desc).map (fun d => d.parameters.length) = some 2 := by decide +kernel
theorem pl_K_drop : plainFor (xMn m_K_drop) = true := plainFor_of_name plc_K
theorem np_K_drop : (parseMethodDescriptor (xMn m_K_drop).desc).map (fun d => d.parameters.length) = some 0 := by decide +kernel
theorem pl_A_loseDisk : plainFor (xMn m_A_loseDisk) = true := plainFor_of_name plc_A
theorem np_A_loseDisk : (parseMethodDescriptor (xMn m_A_loseDisk).desc).map (fun d => d.parameters.length) = some 1 := by decide +kernel
theorem pl_A_giveUpReduceTasks : plainFor (xMn m_A_giveUpReduceTasks) = true := plainFor_of_name plc_A
theorem np_A_giveUpReduceTasks : (parseMethodDescriptor (xMn m_A_giveUpReduceTasks).desc).map (fun d => d.parameters.length) = some 0 := by decide +kernel
theorem pl_L_speed : plainFor (xMn m_L_speed) = true := plainFor_of_name plc_L
theorem np_L_speed : (parseMethodDescriptor (xMn m_L_speed).desc).map (fun d => d.parameters.length) = some 3 := by decide +kernel
theorem pl_A_speed : plainFor (xMn m_A_speed) = true := plainFor_of_name plc_A
theorem np_A_speed : (parseMethodDescriptor (xMn m_A_speed).desc).map (fun d => d.parameters.length) = some 2 := by decide +kernel
theorem pl_L_begin : plainFor (xMn m_L_begin) = true := plainFor_of_name plc_L
theorem np_L_begin : (parseMethodDescriptor (xMn m_L_begin).desc).map (fun d => d.parameters.length) = some 6 := by decide +kernel
theorem pl_A_begin : plainFor (xMn m_A_begin) = true := plainFor_of_name plc_A
theorem np_A_begin : (parseMethodDescriptor (xMn m_A_begin).desc).map (fun d => d.parameters.length) = some 4 := by decide +kernel
theorem pl_J_prepare : plainFor (xMn m_J_prepare) = true := plainFor_of_name plc_J
theorem np_J_prepare : (parseMethodDescriptor (xMn m_J_prepare).desc).map (fun d => d.parameters.length) = some 3 := by decide +kernel
theorem pl_A_mapChunk : plainFor (xMn m_A_mapChunk) = true := plainFor_of_name plc_A
theorem np_A_mapChunk : (parseMethodDescriptor (xMn m_A_mapChunk).desc).map (fun d => d.parameters.length) = some 1 := by decide +kernel
theorem pl_J_take : plainFor (xMn m_J_take) = true := plainFor_of_name plc_J
theorem np_J_take : (parseMethodDescriptor (xMn m_J_take).desc).map (fun d => d.parameters.length) = some 1 := by decide +kernel
theorem pl_J_partitionOf : plainFor (xMn m_J_partitionOf) = true := plainFor_of_name plc_J
theorem np_J_partitionOf : (parseMethodDescriptor (xMn m_J_partitionOf).desc).map (fun d => d.parameters.length) = some 1 := by decide +kernel
theorem pl_Z_max : plainFor (xMn m_Z_max) = true := by decide +kernel
theorem np_Z_max : (parseMethodDescriptor (xMn m_Z_max).desc).map (fun d => d.parameters.length) = some 2 := by decide +kernel
theorem pl_P_insertByKey : plainFor (xMn m_P_insertByKey) = true := plainFor_of_name plc_P
theorem np_P_insertByKey : (parseMethodDescriptor (xMn m_P_insertByKey).desc).map (fun d => d.parameters.length) = some 2 := by decide +kernel
theorem pl_A_runsOf : plainFor (xMn m_A_runsOf) = true := plainFor_of_name plc_A
theorem np_A_runsOf : (parseMethodDescriptor (xMn m_A_runsOf).desc).map (fun d => d.parameters.length) = some 2 := by decide +kernel
theorem pl_T_renew : plainFor (xMn m_T_renew) = true := plainFor_of_name plc_T
theorem np_T_renew : (parseMethodDescriptor (xMn m_T_renew).desc).map (fun d => d.parameters.length) = some 2 := by decide +kernel
theorem pl_L_run : plainFor (xMn m_L_run) = true := plainFor_of_name plc_L
theorem np_L_run : (parseMethodDescriptor (xMn m_L_run).desc).map (fun d => d.parameters.length) = some 3 := by decide +kernel
theorem pl_A_run : plainFor (xMn m_A_run) = true := plainFor_of_name plc_A
theorem np_A_run : (parseMethodDescriptor (xMn m_A_run).desc).map (fun d => d.parameters.length) = some 1 := by decide +kernel
theorem pl_A_demandJob : plainFor (xMn m_A_demandJob) = true := plainFor_of_name plc_A
theorem np_A_demandJob : (parseMethodDescriptor (xMn m_A_demandJob).desc).map (fun d => d.parameters.length) = some 0 := by decide +kernel
theorem pl_A_passTick : plainFor (xMn m_A_passTick) = true := plainFor_of_name plc_A
theorem np_A_passTick : (parseMethodDescriptor (xMn m_A_passTick).desc).map (fun d => d.parameters.length) = some 0 := by decide +kernel
theorem pl_A_giveTask : plainFor (xMn m_A_giveTask) = true := plainFor_of_name plc_A
theorem np_A_giveTask : (parseMethodDescriptor (xMn m_A_giveTask).desc).map (fun d => d.parameters.length) = some 1 := by decide +kernel
theorem pl_A_allDone : plainFor (xMn m_A_allDone) = true := plainFor_of_name plc_A
theorem np_A_allDone : (parseMethodDescriptor (xMn m_A_allDone).desc).map (fun d => d.parameters.length) = some 1 := by decide +kernel
theorem pl_A_taskCount : plainFor (xMn m_A_taskCount) = true := plainFor_of_name plc_A
theorem np_A_taskCount : (parseMethodDescriptor (xMn m_A_taskCount).desc).map (fun d => d.parameters.length) = some 1 := by decide +kernel
theorem pl_T_isDone : plainFor (xMn m_T_isDone) = true := plainFor_of_name plc_T
theorem np_T_isDone : (parseMethodDescriptor (xMn m_T_isDone).desc).map (fun d => d.parameters.length) = some 0 := by decide +kernel
theorem pl_A_freshTask : plainFor (xMn m_A_freshTask) = true := plainFor_of_name plc_A
theorem np_A_freshTask : (parseMethodDescriptor (xMn m_A_freshTask).desc).map (fun d => d.parameters.length) = some 2 := by decide +kernel
theorem pl_A_doers : plainFor (xMn m_A_doers) = true := plainFor_of_name plc_A
theorem np_A_doers : (parseMethodDescriptor (xMn m_A_doers).desc).map (fun d => d.parameters.length) = some 1 := by decide +kernel
theorem pl_A_canBeDone : plainFor (xMn m_A_canBeDone) = true := plainFor_of_name plc_A
theorem np_A_canBeDone : (parseMethodDescriptor (xMn m_A_canBeDone).desc).map (fun d => d.parameters.length) = some 1 := by decide +kernel
theorem pl_A_isHome : plainFor (xMn m_A_isHome) = true := plainFor_of_name plc_A
theorem np_A_isHome : (parseMethodDescriptor (xMn m_A_isHome).desc).map (fun d => d.parameters.length) = some 2 := by decide +kernel
theorem pl_A_taskForSecondTime : plainFor (xMn m_A_taskForSecondTime) = true := plainFor_of_name plc_A
theorem np_A_taskForSecondTime : (parseMethodDescriptor (xMn m_A_taskForSecondTime).desc).map (fun d => d.parameters.length) = some 1 := by decide +kernel
theorem pl_A_leastDoer : plainFor (xMn m_A_leastDoer) = true := plainFor_of_name plc_A
theorem np_A_leastDoer : (parseMethodDescriptor (xMn m_A_leastDoer).desc).map (fun d => d.parameters.length) = some 1 := by decide +kernel
theorem pl_K_take : plainFor (xMn m_K_take) = true := plainFor_of_name plc_K
theorem np_K_take : (parseMethodDescriptor (xMn m_K_take).desc).map (fun d => d.parameters.length) = some 1 := by decide +kernel
theorem pl_K_doUnits : plainFor (xMn m_K_doUnits) = true := plainFor_of_name plc_K
theorem np_K_doUnits : (parseMethodDescriptor (xMn m_K_doUnits).desc).map (fun d => d.parameters.length) = some 0 := by decide +kernel
theorem pl_A_completeTask : plainFor (xMn m_A_completeTask) = true := plainFor_of_name plc_A
theorem np_A_completeTask : (parseMethodDescriptor (xMn m_A_completeTask).desc).map (fun d => d.parameters.length) = some 1 := by decide +kernel
theorem pl_J_reduce : plainFor (xMn m_J_reduce) = true := plainFor_of_name plc_J
theorem np_J_reduce : (parseMethodDescriptor (xMn m_J_reduce).desc).map (fun d => d.parameters.length) = some 1 := by decide +kernel
theorem pl_J_combine : plainFor (xMn m_J_combine) = true := plainFor_of_name plc_J
theorem np_J_combine : (parseMethodDescriptor (xMn m_J_combine).desc).map (fun d => d.parameters.length) = some 3 := by decide +kernel
theorem pl_A_giveUpJob : plainFor (xMn m_A_giveUpJob) = true := plainFor_of_name plc_A
theorem np_A_giveUpJob : (parseMethodDescriptor (xMn m_A_giveUpJob).desc).map (fun d => d.parameters.length) = some 0 := by decide +kernel
theorem pl_A_endJob : plainFor (xMn m_A_endJob) = true := plainFor_of_name plc_A
theorem np_A_endJob : (parseMethodDescriptor (xMn m_A_endJob).desc).map (fun d => d.parameters.length) = some 0 := by decide +kernel
theorem pl_A_anyoneWorks : plainFor (xMn m_A_anyoneWorks) = true := plainFor_of_name plc_A
theorem np_A_anyoneWorks : (parseMethodDescriptor (xMn m_A_anyoneWorks).desc).map (fun d => d.parameters.length) = some 0 := by decide +kernel
theorem pl_L_stop : plainFor (xMn m_L_stop) = true := plainFor_of_name plc_L
theorem np_L_stop : (parseMethodDescriptor (xMn m_L_stop).desc).map (fun d => d.parameters.length) = some 1 := by decide +kernel
theorem pl_A_stop : plainFor (xMn m_A_stop) = true := plainFor_of_name plc_A
theorem np_A_stop : (parseMethodDescriptor (xMn m_A_stop).desc).map (fun d => d.parameters.length) = some 0 := by decide +kernel
theorem pl_L_output : plainFor (xMn m_L_output) = true := plainFor_of_name plc_L
theorem np_L_output : (parseMethodDescriptor (xMn m_L_output).desc).map (fun d => d.parameters.length) = some 5 := by decide +kernel
theorem pl_A_output : plainFor (xMn m_A_output) = true := plainFor_of_name plc_A
theorem np_A_output : (parseMethodDescriptor (xMn m_A_output).desc).map (fun d => d.parameters.length) = some 3 := by decide +kernel
theorem pl_L_find : plainFor (xMn m_L_find) = true := plainFor_of_name plc_L
theorem np_L_find : (parseMethodDescriptor (xMn m_L_find).desc).map (fun d => d.parameters.length) = some 3 := by decide +kernel
theorem pl_A_find : plainFor (xMn m_A_find) = true := plainFor_of_name plc_A
theorem np_A_find : (parseMethodDescriptor (xMn m_A_find).desc).map (fun d => d.parameters.length) = some 1 := by decide +kernel
theorem pl_P_indexOf : plainFor (xMn m_P_indexOf) = true := plainFor_of_name plc_P
theorem np_P_indexOf : (parseMethodDescriptor (xMn m_P_indexOf).desc).map (fun d => d.parameters.length) = some 1 := by decide +kernel
theorem pl_L_task : plainFor (xMn m_L_task) = true := plainFor_of_name plc_L
theorem np_L_task : (parseMethodDescriptor (xMn m_L_task).desc).map (fun d => d.parameters.length) = some 5 := by decide +kernel
theorem pl_A_task : plainFor (xMn m_A_task) = true := plainFor_of_name plc_A
theorem np_A_task : (parseMethodDescriptor (xMn m_A_task).desc).map (fun d => d.parameters.length) = some 3 := by decide +kernel
theorem pl_A_stateOf : plainFor (xMn m_A_stateOf) = true := plainFor_of_name plc_A
theorem np_A_stateOf : (parseMethodDescriptor (xMn m_A_stateOf).desc).map (fun d => d.parameters.length) = some 1 := by decide +kernel
theorem pl_L_ofWorker : plainFor (xMn m_L_ofWorker) = true := plainFor_of_name plc_L
theorem np_L_ofWorker : (parseMethodDescriptor (xMn m_L_ofWorker).desc).map (fun d => d.parameters.length) = some 4 := by decide +kernel
theorem pl_A_ofWorker : plainFor (xMn m_A_ofWorker) = true := plainFor_of_name plc_A
theorem np_A_ofWorker : (parseMethodDescriptor (xMn m_A_ofWorker).desc).map (fun d => d.parameters.length) = some 2 := by decide +kernel
theorem pl_K_taskNumber : plainFor (xMn m_K_taskNumber) = true := plainFor_of_name plc_K
theorem np_K_taskNumber : (parseMethodDescriptor (xMn m_K_taskNumber).desc).map (fun d => d.parameters.length) = some 0 := by decide +kernel
theorem pl_M_init : plainFor (xMn m_M_init) = true := plainFor_of_name plc_M
theorem np_M_init : (parseMethodDescriptor (xMn m_M_init).desc).map (fun d => d.parameters.length) = some 0 := by decide +kernel
theorem pl_M_thrown : plainFor (xMn m_M_thrown) = true := plainFor_of_name plc_M
theorem np_M_thrown : (parseMethodDescriptor (xMn m_M_thrown).desc).map (fun d => d.parameters.length) = some 0 := by decide +kernel
theorem pl_M_chunk : plainFor (xMn m_M_chunk) = true := plainFor_of_name plc_M
theorem np_M_chunk : (parseMethodDescriptor (xMn m_M_chunk).desc).map (fun d => d.parameters.length) = some 3 := by decide +kernel
theorem pl_M_in : plainFor (xMn m_M_in) = true := plainFor_of_name plc_M
theorem np_M_in : (parseMethodDescriptor (xMn m_M_in).desc).map (fun d => d.parameters.length) = some 3 := by decide +kernel
theorem pl_M_bad : plainFor (xMn m_M_bad) = true := plainFor_of_name plc_M
theorem np_M_bad : (parseMethodDescriptor (xMn m_M_bad).desc).map (fun d => d.parameters.length) = some 1 := by decide +kernel
theorem pl_M_fail : plainFor (xMn m_M_fail) = true := plainFor_of_name plc_M
theorem np_M_fail : (parseMethodDescriptor (xMn m_M_fail).desc).map (fun d => d.parameters.length) = some 1 := by decide +kernel
theorem pl_M_worker : plainFor (xMn m_M_worker) = true := plainFor_of_name plc_M
theorem np_M_worker : (parseMethodDescriptor (xMn m_M_worker).desc).map (fun d => d.parameters.length) = some 2 := by decide +kernel
theorem pl_M_giveUp : plainFor (xMn m_M_giveUp) = true := plainFor_of_name plc_M
theorem np_M_giveUp : (parseMethodDescriptor (xMn m_M_giveUp).desc).map (fun d => d.parameters.length) = some 1 := by decide +kernel
theorem pl_M_speed : plainFor (xMn m_M_speed) = true := plainFor_of_name plc_M
theorem np_M_speed : (parseMethodDescriptor (xMn m_M_speed).desc).map (fun d => d.parameters.length) = some 2 := by decide +kernel
theorem pl_M_filter : plainFor (xMn m_M_filter) = true := plainFor_of_name plc_M
theorem np_M_filter : (parseMethodDescriptor (xMn m_M_filter).desc).map (fun d => d.parameters.length) = some 1 := by decide +kernel
theorem pl_M_begin : plainFor (xMn m_M_begin) = true := plainFor_of_name plc_M
theorem np_M_begin : (parseMethodDescriptor (xMn m_M_begin).desc).map (fun d => d.parameters.length) = some 4 := by decide +kernel
theorem pl_M_mapAll : plainFor (xMn m_M_mapAll) = true := plainFor_of_name plc_M
theorem np_M_mapAll : (parseMethodDescriptor (xMn m_M_mapAll).desc).map (fun d => d.parameters.length) = some 0 := by decide +kernel
theorem pl_M_map : plainFor (xMn m_M_map) = true := plainFor_of_name plc_M
theorem np_M_map : (parseMethodDescriptor (xMn m_M_map).desc).map (fun d => d.parameters.length) = some 1 := by decide +kernel
theorem pl_M_modulo : plainFor (xMn m_M_modulo) = true := plainFor_of_name plc_M
theorem np_M_modulo : (parseMethodDescriptor (xMn m_M_modulo).desc).map (fun d => d.parameters.length) = some 2 := by decide +kernel
theorem pl_M_pair : plainFor (xMn m_M_pair) = true := plainFor_of_name plc_M
theorem np_M_pair : (parseMethodDescriptor (xMn m_M_pair).desc).map (fun d => d.parameters.length) = some 2 := by decide +kernel
theorem pl_M_sort : plainFor (xMn m_M_sort) = true := plainFor_of_name plc_M
theorem np_M_sort : (parseMethodDescriptor (xMn m_M_sort).desc).map (fun d => d.parameters.length) = some 0 := by decide +kernel
theorem pl_M_run : plainFor (xMn m_M_run) = true := plainFor_of_name plc_M
theorem np_M_run : (parseMethodDescriptor (xMn m_M_run).desc).map (fun d => d.parameters.length) = some 1 := by decide +kernel
theorem pl_M_tick : plainFor (xMn m_M_tick) = true := plainFor_of_name plc_M
theorem np_M_tick : (parseMethodDescriptor (xMn m_M_tick).desc).map (fun d => d.parameters.length) = some 0 := by decide +kernel
theorem pl_M_get : plainFor (xMn m_M_get) = true := plainFor_of_name plc_M
theorem np_M_get : (parseMethodDescriptor (xMn m_M_get).desc).map (fun d => d.parameters.length) = some 1 := by decide +kernel
theorem pl_M_mapsDone : plainFor (xMn m_M_mapsDone) = true := plainFor_of_name plc_M
theorem np_M_mapsDone : (parseMethodDescriptor (xMn m_M_mapsDone).desc).map (fun d => d.parameters.length) = some 0 := by decide +kernel
theorem pl_M_readable : plainFor (xMn m_M_readable) = true := plainFor_of_name plc_M
theorem np_M_readable : (parseMethodDescriptor (xMn m_M_readable).desc).map (fun d => d.parameters.length) = some 1 := by decide +kernel
theorem pl_M_doing : plainFor (xMn m_M_doing) = true := plainFor_of_name plc_M
theorem np_M_doing : (parseMethodDescriptor (xMn m_M_doing).desc).map (fun d => d.parameters.length) = some 1 := by decide +kernel
theorem pl_M_leftOf : plainFor (xMn m_M_leftOf) = true := plainFor_of_name plc_M
theorem np_M_leftOf : (parseMethodDescriptor (xMn m_M_leftOf).desc).map (fun d => d.parameters.length) = some 1 := by decide +kernel
theorem pl_M_needs : plainFor (xMn m_M_needs) = true := plainFor_of_name plc_M
theorem np_M_needs : (parseMethodDescriptor (xMn m_M_needs).desc).map (fun d => d.parameters.length) = some 1 := by decide +kernel
theorem pl_M_runs : plainFor (xMn m_M_runs) = true := plainFor_of_name plc_M
theorem np_M_runs : (parseMethodDescriptor (xMn m_M_runs).desc).map (fun d => d.parameters.length) = some 1 := by decide +kernel
theorem pl_M_pairsOf : plainFor (xMn m_M_pairsOf) = true := plainFor_of_name plc_M
theorem np_M_pairsOf : (parseMethodDescriptor (xMn m_M_pairsOf).desc).map (fun d => d.parameters.length) = some 1 := by decide +kernel
theorem pl_M_finish : plainFor (xMn m_M_finish) = true := plainFor_of_name plc_M
theorem np_M_finish : (parseMethodDescriptor (xMn m_M_finish).desc).map (fun d => d.parameters.length) = some 1 := by decide +kernel
theorem pl_M_reduce : plainFor (xMn m_M_reduce) = true := plainFor_of_name plc_M
theorem np_M_reduce : (parseMethodDescriptor (xMn m_M_reduce).desc).map (fun d => d.parameters.length) = some 2 := by decide +kernel
theorem pl_M_reduced : plainFor (xMn m_M_reduced) = true := plainFor_of_name plc_M
theorem np_M_reduced : (parseMethodDescriptor (xMn m_M_reduced).desc).map (fun d => d.parameters.length) = some 1 := by decide +kernel
theorem pl_M_end : plainFor (xMn m_M_end) = true := plainFor_of_name plc_M
theorem np_M_end : (parseMethodDescriptor (xMn m_M_end).desc).map (fun d => d.parameters.length) = some 0 := by decide +kernel
theorem pl_M_stop : plainFor (xMn m_M_stop) = true := plainFor_of_name plc_M
theorem np_M_stop : (parseMethodDescriptor (xMn m_M_stop).desc).map (fun d => d.parameters.length) = some 0 := by decide +kernel
theorem pl_M_output : plainFor (xMn m_M_output) = true := plainFor_of_name plc_M
theorem np_M_output : (parseMethodDescriptor (xMn m_M_output).desc).map (fun d => d.parameters.length) = some 3 := by decide +kernel
theorem pl_M_find : plainFor (xMn m_M_find) = true := plainFor_of_name plc_M
theorem np_M_find : (parseMethodDescriptor (xMn m_M_find).desc).map (fun d => d.parameters.length) = some 1 := by decide +kernel
theorem pl_M_task : plainFor (xMn m_M_task) = true := plainFor_of_name plc_M
theorem np_M_task : (parseMethodDescriptor (xMn m_M_task).desc).map (fun d => d.parameters.length) = some 3 := by decide +kernel
theorem pl_M_ofWorker : plainFor (xMn m_M_ofWorker) = true := plainFor_of_name plc_M
theorem np_M_ofWorker : (parseMethodDescriptor (xMn m_M_ofWorker).desc).map (fun d => d.parameters.length) = some 2 := by decide +kernel
theorem pl_M_count : plainFor (xMn m_M_count) = true := plainFor_of_name plc_M
theorem np_M_count : (parseMethodDescriptor (xMn m_M_count).desc).map (fun d => d.parameters.length) = some 1 := by decide +kernel
theorem we_A_pairsOfChunks : Cond.selects "ReduceCluster" (⟨"ReduceCluster", "pairsOfChunks", "()I"⟩ : MethodName) (⟨"ReduceCluster", "pairsOfChunks", "()I"⟩ : MethodName) ∈ xTT := xsel 0 rfl rfl
theorem we_A_loseDisk : Cond.selects "ReduceCluster" (⟨"ReduceCluster", "loseDisk", "(I)V"⟩ : MethodName) (⟨"ReduceCluster", "loseDisk", "(I)V"⟩ : MethodName) ∈ xTT := xsel 2 rfl rfl
theorem we_A_giveUpReduceTasks : Cond.selects "ReduceCluster" (⟨"ReduceCluster", "giveUpReduceTasks", "()V"⟩ : MethodName) (⟨"ReduceCluster", "giveUpReduceTasks", "()V"⟩ : MethodName) ∈ xTT := xsel 3 rfl rfl
theorem we_A_mapChunk : Cond.selects "ReduceCluster" (⟨"ReduceCluster", "mapChunk", "(I)I"⟩ : MethodName) (⟨"ReduceCluster", "mapChunk", "(I)I"⟩ : MethodName) ∈ xTT := xsel 4 rfl rfl
theorem we_A_demandJob : Cond.selects "ReduceCluster" (⟨"ReduceCluster", "demandJob", "()V"⟩ : MethodName) (⟨"ReduceCluster", "demandJob", "()V"⟩ : MethodName) ∈ xTT := xsel 5 rfl rfl
theorem we_A_passTick : Cond.selects "ReduceCluster" (⟨"ReduceCluster", "passTick", "()I"⟩ : MethodName) (⟨"ReduceCluster", "passTick", "()I"⟩ : MethodName) ∈ xTT := xsel 6 rfl rfl
theorem we_A_giveTask : Cond.selects "ReduceCluster" (⟨"ReduceCluster", "giveTask", "(I)V"⟩ : MethodName) (⟨"ReduceCluster", "giveTask", "(I)V"⟩ : MethodName) ∈ xTT := xsel 7 rfl rfl
theorem we_A_allDone : Cond.selects "ReduceCluster" (⟨"ReduceCluster", "allDone", "(Z)Z"⟩ : MethodName) (⟨"ReduceCluster", "allDone", "(Z)Z"⟩ : MethodName) ∈ xTT := xsel 8 rfl rfl
theorem we_A_taskCount : Cond.selects "ReduceCluster" (⟨"ReduceCluster", "taskCount", "(Z)I"⟩ : MethodName) (⟨"ReduceCluster", "taskCount", "(Z)I"⟩ : MethodName) ∈ xTT := xsel 9 rfl rfl
theorem we_A_freshTask : Cond.selects "ReduceCluster" (⟨"ReduceCluster", "freshTask", "(ZI)LReduceCluster$Task;"⟩ : MethodName) (⟨"ReduceCluster", "freshTask", "(ZI)LReduceCluster$Task;"⟩ : MethodName) ∈ xTT := xsel 10 rfl rfl
theorem we_A_doers : Cond.selects "ReduceCluster" (⟨"ReduceCluster", "doers", "(LReduceCluster$Task;)I"⟩ : MethodName) (⟨"ReduceCluster", "doers", "(LReduceCluster$Task;)I"⟩ : MethodName) ∈ xTT := xsel 11 rfl rfl
theorem we_A_canBeDone : Cond.selects "ReduceCluster" (⟨"ReduceCluster", "canBeDone", "(LReduceCluster$Task;)Z"⟩ : MethodName) (⟨"ReduceCluster", "canBeDone", "(LReduceCluster$Task;)Z"⟩ : MethodName) ∈ xTT := xsel 12 rfl rfl
theorem we_A_taskForSecondTime : Cond.selects "ReduceCluster" (⟨"ReduceCluster", "taskForSecondTime", "(Z)LReduceCluster$Task;"⟩ : MethodName) (⟨"ReduceCluster", "taskForSecondTime", "(Z)LReduceCluster$Task;"⟩ : MethodName) ∈ xTT := xsel 13 rfl rfl
theorem we_A_leastDoer : Cond.selects "ReduceCluster" (⟨"ReduceCluster", "leastDoer", "(LReduceCluster$Task;)I"⟩ : MethodName) (⟨"ReduceCluster", "leastDoer", "(LReduceCluster$Task;)I"⟩ : MethodName) ∈ xTT := xsel 14 rfl rfl
theorem we_A_completeTask : Cond.selects "ReduceCluster" (⟨"ReduceCluster", "completeTask", "(I)Z"⟩ : MethodName) (⟨"ReduceCluster", "completeTask", "(I)Z"⟩ : MethodName) ∈ xTT := xsel 15 rfl rfl
theorem we_A_giveUpJob : Cond.selects "ReduceCluster" (⟨"ReduceCluster", "giveUpJob", "()V"⟩ : MethodName) (⟨"ReduceCluster", "giveUpJob", "()V"⟩ : MethodName) ∈ xTT := xsel 16 rfl rfl
theorem we_A_endJob : Cond.selects "ReduceCluster" (⟨"ReduceCluster", "endJob", "()V"⟩ : MethodName) (⟨"ReduceCluster", "endJob", "()V"⟩ : MethodName) ∈ xTT := xsel 17 rfl rfl
theorem we_A_anyoneWorks : Cond.selects "ReduceCluster" (⟨"ReduceCluster", "anyoneWorks", "()Z"⟩ : MethodName) (⟨"ReduceCluster", "anyoneWorks", "()Z"⟩ : MethodName) ∈ xTT := xsel 18 rfl rfl
theorem we_A_stateOf : Cond.selects "ReduceCluster" (⟨"ReduceCluster", "stateOf", "(LReduceCluster$Task;)I"⟩ : MethodName) (⟨"ReduceCluster", "stateOf", "(LReduceCluster$Task;)I"⟩ : MethodName) ∈ xTT := xsel 19 rfl rfl
theorem we_M_bad : Cond.selects "ReduceClusterModel" (⟨"ReduceClusterModel", "bad", "(Z)Z"⟩ : MethodName) (⟨"ReduceClusterModel", "bad", "(Z)Z"⟩ : MethodName) ∈ xTT := xsel 20 rfl rfl
theorem we_M_fail : Cond.selects "ReduceClusterModel" (⟨"ReduceClusterModel", "fail", "(I)I"⟩ : MethodName) (⟨"ReduceClusterModel", "fail", "(I)I"⟩ : MethodName) ∈ xTT := xsel 21 rfl rfl
theorem we_M_giveUp : Cond.selects "ReduceClusterModel" (⟨"ReduceClusterModel", "giveUp", "(Z)V"⟩ : MethodName) (⟨"ReduceClusterModel", "giveUp", "(Z)V"⟩ : MethodName) ∈ xTT := xsel 22 rfl rfl
theorem we_M_mapAll : Cond.selects "ReduceClusterModel" (⟨"ReduceClusterModel", "mapAll", "()V"⟩ : MethodName) (⟨"ReduceClusterModel", "mapAll", "()V"⟩ : MethodName) ∈ xTT := xsel 23 rfl rfl
theorem we_M_map : Cond.selects "ReduceClusterModel" (⟨"ReduceClusterModel", "map", "(I)V"⟩ : MethodName) (⟨"ReduceClusterModel", "map", "(I)V"⟩ : MethodName) ∈ xTT := xsel 24 rfl rfl
theorem we_M_pair : Cond.selects "ReduceClusterModel" (⟨"ReduceClusterModel", "pair", "(II)V"⟩ : MethodName) (⟨"ReduceClusterModel", "pair", "(II)V"⟩ : MethodName) ∈ xTT := xsel 25 rfl rfl
theorem we_M_sort : Cond.selects "ReduceClusterModel" (⟨"ReduceClusterModel", "sort", "()V"⟩ : MethodName) (⟨"ReduceClusterModel", "sort", "()V"⟩ : MethodName) ∈ xTT := xsel 26 rfl rfl
theorem we_M_tick : Cond.selects "ReduceClusterModel" (⟨"ReduceClusterModel", "tick", "()V"⟩ : MethodName) (⟨"ReduceClusterModel", "tick", "()V"⟩ : MethodName) ∈ xTT := xsel 27 rfl rfl
theorem we_M_get : Cond.selects "ReduceClusterModel" (⟨"ReduceClusterModel", "get", "(I)V"⟩ : MethodName) (⟨"ReduceClusterModel", "get", "(I)V"⟩ : MethodName) ∈ xTT := xsel 28 rfl rfl
theorem we_M_mapsDone : Cond.selects "ReduceClusterModel" (⟨"ReduceClusterModel", "mapsDone", "()Z"⟩ : MethodName) (⟨"ReduceClusterModel", "mapsDone", "()Z"⟩ : MethodName) ∈ xTT := xsel 29 rfl rfl
theorem we_M_readable : Cond.selects "ReduceClusterModel" (⟨"ReduceClusterModel", "readable", "(I)Z"⟩ : MethodName) (⟨"ReduceClusterModel", "readable", "(I)Z"⟩ : MethodName) ∈ xTT := xsel 30 rfl rfl
theorem we_M_doing : Cond.selects "ReduceClusterModel" (⟨"ReduceClusterModel", "doing", "(I)I"⟩ : MethodName) (⟨"ReduceClusterModel", "doing", "(I)I"⟩ : MethodName) ∈ xTT := xsel 31 rfl rfl
theorem we_M_leftOf : Cond.selects "ReduceClusterModel" (⟨"ReduceClusterModel", "leftOf", "(I)I"⟩ : MethodName) (⟨"ReduceClusterModel", "leftOf", "(I)I"⟩ : MethodName) ∈ xTT := xsel 32 rfl rfl
theorem we_M_needs : Cond.selects "ReduceClusterModel" (⟨"ReduceClusterModel", "needs", "(I)I"⟩ : MethodName) (⟨"ReduceClusterModel", "needs", "(I)I"⟩ : MethodName) ∈ xTT := xsel 33 rfl rfl
theorem we_M_runs : Cond.selects "ReduceClusterModel" (⟨"ReduceClusterModel", "runs", "(I)I"⟩ : MethodName) (⟨"ReduceClusterModel", "runs", "(I)I"⟩ : MethodName) ∈ xTT := xsel 34 rfl rfl
theorem we_M_pairsOf : Cond.selects "ReduceClusterModel" (⟨"ReduceClusterModel", "pairsOf", "(I)I"⟩ : MethodName) (⟨"ReduceClusterModel", "pairsOf", "(I)I"⟩ : MethodName) ∈ xTT := xsel 35 rfl rfl
theorem we_M_finish : Cond.selects "ReduceClusterModel" (⟨"ReduceClusterModel", "finish", "(I)V"⟩ : MethodName) (⟨"ReduceClusterModel", "finish", "(I)V"⟩ : MethodName) ∈ xTT := xsel 36 rfl rfl
theorem we_M_reduce : Cond.selects "ReduceClusterModel" (⟨"ReduceClusterModel", "reduce", "(IZ)I"⟩ : MethodName) (⟨"ReduceClusterModel", "reduce", "(IZ)I"⟩ : MethodName) ∈ xTT := xsel 37 rfl rfl
theorem we_M_reduced : Cond.selects "ReduceClusterModel" (⟨"ReduceClusterModel", "reduced", "(I)I"⟩ : MethodName) (⟨"ReduceClusterModel", "reduced", "(I)I"⟩ : MethodName) ∈ xTT := xsel 38 rfl rfl
theorem we_M_end : Cond.selects "ReduceClusterModel" (⟨"ReduceClusterModel", "end", "()V"⟩ : MethodName) (⟨"ReduceClusterModel", "end", "()V"⟩ : MethodName) ∈ xTT := xsel 39 rfl rfl
end
section
/-! THE PICTURE OF THE HEAP. h = ((next address, slots used), (kind, length), ints, references, longs); kinds: 0 nothing, 1 + k an object of class k, 100 + t an array, 200 + k an exception -/
abbrev xH : Type := (Nat × Nat) × ((Nat → Nat) × (Nat → Nat)) × (Nat → Nat → Int32) × (Nat → Nat → Option Nat) × (Nat → Nat → Int64)
abbrev xnx (h : xH) : Nat := h.1.1
abbrev xsl (h : xH) : Nat := h.1.2
abbrev xT (h : xH) : Nat → Nat := h.2.1.1
abbrev xN (h : xH) : Nat → Nat := h.2.1.2
abbrev xI (h : xH) : Nat → Nat → Int32 := h.2.2.1
abbrev xP (h : xH) : Nat → Nat → Option Nat := h.2.2.2.1
abbrev xJ (h : xH) : Nat → Nat → Int64 := h.2.2.2.2
def xu {α : Type} (f : Nat → Nat → α) (a j : Nat) (v : α) : Nat → Nat → α := fun b i => if b = a ∧ i = j then v else f b i
def xr {α : Type} (f : Nat → α) (a : Nat) (r : α) : Nat → α := fun b => if b = a then r else f b
abbrev xwI (h : xH) (a j : Nat) (v : Int32) : xH := (h.1, h.2.1, xu h.2.2.1 a j v, h.2.2.2)
abbrev xwP (h : xH) (a j : Nat) (v : Option Nat) : xH := (h.1, h.2.1, h.2.2.1, xu h.2.2.2.1 a j v, h.2.2.2.2)
abbrev xwJ (h : xH) (a j : Nat) (v : Int64) : xH := (h.1, h.2.1, h.2.2.1, h.2.2.2.1, xu h.2.2.2.2 a j v)
/-- a new cell: kind t, length n, sl slots, all 0 and null -/
abbrev xnw (h : xH) (t n sl : Nat) : xH := ((h.1.1 + 1, h.1.2 + sl), (xr h.2.1.1 h.1.1 t, xr h.2.1.2 h.1.1 n), xr h.2.2.1 h.1.1 (fun _ => 0), xr h.2.2.2.1 h.1.1 (fun _ => none), xr h.2.2.2.2 h.1.1 (fun _ => 0))
theorem xu_s {α : Type} (f : Nat → Nat → α) (a j : Nat) (v : α) : xu f a j v a j = v := if_pos ⟨rfl, rfl⟩
theorem xu_a {α : Type} (f : Nat → Nat → α) {a b : Nat} (j i : Nat) (v : α) (h : b ≠ a) : xu f a j v b i = f b i := if_neg (fun q => h q.1)
theorem xu_j {α : Type} (f : Nat → Nat → α) (a b : Nat) {j i : Nat} (v : α) (h : i ≠ j) : xu f a j v b i = f b i := if_neg (fun q => h q.2)
theorem xr_s {α : Type} (f : Nat → α) (a : Nat) (r : α) : xr f a r a = r := if_pos rfl
theorem xr_n {α : Type} (f : Nat → α) {a b : Nat} (r : α) (h : b ≠ a) : xr f a r b = f b := if_neg h
/-- what a slot of that type holds -/
def xsv (ty : FieldType) (h : xH) (a j : Nat) : Value := match ty with
  | .long => .long (xJ h a j)
  | .object _ => va_rf (xP h a j)
  | .array _ => va_rf (xP h a j)
  | _ => .int (xI h a j)
/-- the surroundings: the classes' numbers and slots, the numbers of array classes and exceptions, the heap at the start -/
abbrev xG : Type := va_G × (Nat → ClassId) × Heap × (Nat × Nat × (Nat → Int32))
abbrev xGD (G : xG) : va_G := G.1
abbrev xGA (G : xG) : Nat → ClassId := G.2.1
abbrev xGH (G : xG) : Heap := G.2.2.1
abbrev xGz (G : xG) : Nat := G.2.2.1.size
/-- the script: its address, how many ints, which -/
abbrev xGb (G : xG) : Nat := G.2.2.2.1
abbrev xGL (G : xG) : Nat := G.2.2.2.2.1
abbrev xGx (G : xG) : Nat → Int32 := G.2.2.2.2.2
def xCell (G : xG) (h : xH) (H : Heap) (a t : Nat) : Prop :=
  if t < 100 then ∃ r : vw_C, xcls[t - 1]? = some r ∧ t_OB a ((xGD G).1 (t - 1)) r.2.2 ((xGD G).2 (t - 1)) H (fun j => xsv (xft (t - 1) j) h a j)
  else if t < 200 then ∃ ty : FieldType, xat t = some ty ∧ H[a]? = some (arrV (xGA G t) (xN h a) (fun j => xsv ty h a j))
  else ∃ cell : Cell, H[a]? = some cell ∧ cell.cls = xGA G t ∧ cell.vm.isStatics = false
def xRep (G : xG) (h : xH) (H : Heap) : Prop := H.size = xnx h ∧ xGz G ≤ xnx h ∧ (∀ q : Nat, q < xGz G → H[q]? = (xGH G)[q]?) ∧ ∀ a : Nat, xT h a ≠ 0 → xGz G ≤ a ∧ a < xnx h ∧ xCell G h H a (xT h a)
/-- a static field that holds a reference or null, in the heap at the start -/
def xStat (Hb : Heap) (U : State) (q : String × String × String) : Prop := ∃ (c : ClassId) (k : Class) (i : Nat) (f : Field) (a : Nat) (cell : Cell) (v : Value), U.vm.findClass q.1 = some c ∧ U.fieldFound? q.1 q.2.1 q.2.2 = some (c, k, i, f) ∧ f.isStatic = true ∧ k.statics = some a ∧ Hb[a]? = some cell ∧ cell.vm.isStatics = true ∧ cell.cls = c ∧ f.slot < cell.slots.size ∧ k.staticTypes[f.slot]? = some f.type ∧ cell.slots[f.slot]? = some v ∧ (v = .null ∨ ∃ t : Nat, v = .ref t)
theorem xStat.moved {Hb : Heap} {u U : State} {q : String × String × String} (hvm : u.vm.Alike U.vm) (h : xStat Hb u q) : xStat Hb U q := by
  obtain ⟨c, k, i, f, a, cell, v, h1, h2, h3, h4, h5, h6, h7, h8, h9, h10⟩ := h
  obtain ⟨k', hi', he⟩ := State.fieldFound?_setVm hvm h2
  exact ⟨c, k', i, f, a, cell, v, by rw [hvm.findClass]; exact h1, hi', h3, by rw [he]; exact h4, h5, h6, h7, h8, by rw [he]; exact h9, h10⟩
theorem xword0 {args a' : Array Value} {s U : State} (hW : s.WarmedH U.vm) {w : Cond} (hg : (w.onTables && w.keepsFace) = true) (h : w.before args s = true) : w.before a' U = true := by
  simp only [Bool.and_eq_true] at hg
  have h1 := Cond.before_shiftedFace (State.Shifted.of_warmed hW) w hg.2 h
  rw [Cond.onTables_vm (A := args) (A' := a') (U := s) (U' := U) U.vm w hg.1, State.setVm_self] at h1
  exact h1
theorem xword {args a' : Array Value} {s U : State} (hW : s.WarmedH U.vm) {w : Cond} (hg : xgood w = true) (h : w.before args s = true) : w.before a' U = true := by
  cases w with
  | arrayClass ty => exact word_at hW (Or.inr ⟨_, rfl⟩) h
  | methodLinkNest a i x n => exact va_Nw.use rfl (va_Nw.warmM hW (va_Nw.of rfl h))
  | fieldLinkNest a i b n d q => exact va_Nw.use rfl (va_Nw.warmF hW (va_Nw.of rfl h))
  | arrayOver ty => cases ty with
    | object C => exact (va_AO.moved hW.alike (va_AO.of h)).use
    | _ => exact xword0 hW hg h
  | _ => exact xword0 hW hg h
/-- what the tables say, at any state of the run -/
def xKn (G : xG) (U : State) : Prop :=
  (∀ (c : Nat) (q : vw_C), xcls[c]? = some q → u_Kn U q.1 q.2.1 q.2.2 ((xGD G).1 c) ((xGD G).2 c)) ∧ (∀ (t : Nat) (ty : FieldType), xat t = some ty → ArrOfT U (xGA G t) ty ∧ va_RA U (xGA G t) ty) ∧
  (∀ (k : Nat) (n : String), xexn[k]? = some n → U.vm.findClass n = some (xGA G (200 + k))) ∧ (∀ (a' : Array Value) (w : Cond), w ∈ xTT → w.before a' U = true) ∧ (∀ q ∈ xSS, xStat (xGH G) U q) ∧ (∀ q ∈ xNC, va_Nc q.1 q.2 U) ∧ va_X (xGb G) (xGL G) (xGx G) U (xGH G)
theorem xKn.moved {G : xG} {s U : State} (hW : s.WarmedH U.vm) (hK : xKn G s) : xKn G U :=
  ⟨fun c q hq => u_Kn_moved hW.alike (hK.1 c q hq), fun t ty ht => ⟨arrOfT_moved hW.alike (hK.2.1 t ty ht).1, (hK.2.1 t ty ht).2.moved hW.alike⟩, fun k n hk => by rw [hW.alike.findClass]; exact hK.2.2.1 k n hk, fun a' w hw => xword hW (xTTgood w hw) (hK.2.2.2.1 #[] w hw), fun q hq => (hK.2.2.2.2.1 q hq).moved hW.alike, fun q hq => (hK.2.2.2.2.2.1 q hq).moved hW.alike, hK.2.2.2.2.2.2.moved hW.alike⟩
def xCx (G : xG) (M : xM) (p : Program) (s : State) (m : MethodId) (meth : Method) (c : Code) : Prop :=
  p.tables.exec = Jvm.exec ∧ c.code = xMc M ∧ c.maxLocals = xMl M ∧ meth.sig.returnType = xMr M ∧ meth.locks = false ∧ s.vm.findClass (xMn M).cls = some m.cls ∧ meth.name = (xMn M).name ∧ xKn G s ∧ c.exceptionTable.toList.map (fun q => (q.startPc, q.endPc, q.handlerPc, q.catchType)) = xMh M
/-- an answer: returned, or thrown: the exception's kind and address -/
abbrev xR : Type := Option Value ⊕ (Nat × Nat)
def xMQT (below : List Frame) (s : State) (a C S : Nat) (P : State → Prop) (free : Addr → Prop) : State → Prop := fun t =>
  t.status = .running ∧ Ended t below (.threw a) ∧ P t ∧ s.WarmedH t.vm ∧ ∃ L : List Loc, s.sameButNew ({ t with vm := s.vm } : State) L C S ∧ ∀ q ∈ L, free q.base
def xPost (G : xG) (below : List Frame) (args : Array Value) (s : State) (r : xR) (h' : xH) (C S : Nat) : State → Prop := match r with
  | .inl v => MQ below (fun _ _ o t => o = .returned v ∧ xRep G h' t.heap) args s C S (fun q => xGz G ≤ q)
  | .inr (k, a) => xMQT below s a C S (fun t => xT h' a = 200 + k ∧ xRep G h' t.heap) (fun q => xGz G ≤ q)
/-- THE JUDGEMENT: from that frame and heap the method ends, and its end has Q; fr, wd: the frames and words that it may take -/
def xV (l : Launch) (G : xG) (fr wd : Nat) (M : xM) (pc : Nat) (L : List (Nat × Value)) (st : List Value) (h : xH) (Q : xR → xH → Prop) : Prop :=
  ∃ (r : xR) (h' : xH), Q r h' ∧ xnx h ≤ xnx h' ∧ xsl h ≤ xsl h' ∧
    ∀ (p : Program) (e : Env) (R : Room) (s : State) (m : MethodId) (args : Array Value) (below : List Frame) (meth : Method) (c : Code) (H : Heap) (locs : List Loc) (cells slots : Nat) (ls : Array Slot),
      xCx G M p s m meth c → xRep G h H → lv_has ls (xMl M) L → (∀ q ∈ locs, xGz G ≤ q.base) → (xnx h' - xnx h) + cells ≤ R.cells → (xsl h' - xsl h) + slots ≤ R.slots → fr ≤ R.frames → wd ≤ R.locals →
      W p l e R s m args below meth c H locs cells slots (xPost G below args s r h' ((xnx h' - xnx h) + cells) ((xsl h' - xsl h) + slots)) (F0 m pc ls st)
/-- a whole method, from its entry -/
def xVM (l : Launch) (G : xG) (fr wd : Nat) (M : xM) (As : List Value) (h : xH) (Q : xR → xH → Prop) : Prop := xV l G fr wd M 0 (lv_args 0 As) [] h Q
theorem xV.imp {l : Launch} {G : xG} {fr wd : Nat} {M : xM} {pc : Nat} {L : List (Nat × Value)} {st : List Value} {h : xH} {Q Q' : xR → xH → Prop} (k : xV l G fr wd M pc L st h Q) (f : ∀ r h', Q r h' → Q' r h') : xV l G fr wd M pc L st h Q' := by
  obtain ⟨r, h', q, x⟩ := k
  exact ⟨r, h', f r h' q, x⟩
theorem xV.up {l : Launch} {G : xG} {fr wd fr' wd' : Nat} {M : xM} {pc : Nat} {L : List (Nat × Value)} {st : List Value} {h : xH} {Q : xR → xH → Prop} (k : xV l G fr wd M pc L st h Q) (hd : fr ≤ fr') (hw : wd ≤ wd') : xV l G fr' wd' M pc L st h Q := by
  obtain ⟨r, h', q, x1, x2, x⟩ := k
  exact ⟨r, h', q, x1, x2, fun p e R s m args below meth c H locs cells slots ls C hR hl hf h1 h2 h3 h4 => x p e R s m args below meth c H locs cells slots ls C hR hl hf h1 h2 (Nat.le_trans hd h3) (Nat.le_trans hw h4)⟩
/-- a step that leaves the heap alone -/
theorem xgo {l : Launch} {G : xG} {fr wd : Nat} {M : xM} {pc pc2 : Nat} {L L2 : List (Nat × Value)} {st st2 : List Value} {h : xH} {Q : xR → xH → Prop} (k : xV l G fr wd M pc2 L2 st2 h Q)
    (f : ∀ (p : Program) (e : Env) (R : Room) (s : State) (m : MethodId) (args : Array Value) (below : List Frame) (meth : Method) (c : Code) (H : Heap) (locs : List Loc) (cells slots : Nat) (ls : Array Slot) (Qw : State → Prop),
      xCx G M p s m meth c → xRep G h H → lv_has ls (xMl M) L → (∀ ls' : Array Slot, lv_has ls' (xMl M) L2 → W p l e R s m args below meth c H locs cells slots Qw (F0 m pc2 ls' st2)) → W p l e R s m args below meth c H locs cells slots Qw (F0 m pc ls st)) :
    xV l G fr wd M pc L st h Q := by
  obtain ⟨r, h', q, x1, x2, x⟩ := k
  exact ⟨r, h', q, x1, x2, fun p e R s m args below meth c H locs cells slots ls C hR hl hf h1 h2 h3 h4 => f p e R s m args below meth c H locs cells slots ls _ C hR hl (fun ls' hl' => x p e R s m args below meth c H locs cells slots ls' C hR hl' hf h1 h2 h3 h4)⟩
def xlk (L : List (Nat × Value)) (i : Nat) : Option Value := (L.find? (fun q => q.1 == i)).map (fun q => q.2)
theorem xlk_has {L : List (Nat × Value)} {i n : Nat} {v : Value} {ls : Array Slot} (hl : lv_has ls n L) (h : xlk L i = some v) : ls[i]? = some (.val v) := by
  unfold xlk at h
  obtain ⟨q, hq, rfl⟩ := Option.map_eq_some_iff.mp h
  have h1 := hl.2.2 q (List.mem_of_find?_eq_some hq)
  have h2 : q.1 = i := by simpa using List.find?_some hq
  rw [← h2]
  exact h1
abbrev xst (L : List (Nat × Value)) (i : Nat) (v : Value) : List (Nat × Value) := (i, v) :: L.filter (fun q => !(q.1 == i) && !(q.1 + 1 == i && q.2.category == 2))
abbrev xst2 (L : List (Nat × Value)) (i : Nat) (v : Value) : List (Nat × Value) := (i, v) :: L.filter (fun q => !(q.1 == i) && (!(q.1 == i + 1) && !(q.1 + 1 == i && q.2.category == 2)))
section XROWS
variable {l : Launch} {G : xG} {fr wd : Nat} {M : xM} {pc : Nat} {L : List (Nat × Value)} {st : List Value} {h : xH} {Q : xR → xH → Prop}
theorem x_iconst {n : Int} {v : Int32} (hd : decode (xMc M) pc = .ok (.iconst n, 1)) (hv : Int32.ofInt n = v) (k : xV l G fr wd M (pc + 1) L (.int v :: st) h Q) : xV l G fr wd M pc L st h Q :=
  xgo k (fun p e R s m args below meth c H locs cells slots ls Qw C hR hl kk => lv_iconst C.1 C.2.1 hd hv (kk ls hl))
theorem x_bipush {n : Int} {v : Int32} (hd : decode (xMc M) pc = .ok (.bipush n, 2)) (hv : (Int8.ofInt n).toInt32 = v) (k : xV l G fr wd M (pc + 2) L (.int v :: st) h Q) : xV l G fr wd M pc L st h Q :=
  xgo k (fun p e R s m args below meth c H locs cells slots ls Qw C hR hl kk => lv_bipush C.1 C.2.1 hd hv (kk ls hl))
theorem x_sipush {n : Int} {v : Int32} (hd : decode (xMc M) pc = .ok (.sipush n, 3)) (hv : (Int16.ofInt n).toInt32 = v) (k : xV l G fr wd M (pc + 3) L (.int v :: st) h Q) : xV l G fr wd M pc L st h Q :=
  xgo k (fun p e R s m args below meth c H locs cells slots ls Qw C hR hl kk => lv_sipush C.1 C.2.1 hd hv (kk ls hl))
theorem x_lconst {n : Fin 2} {v : Int64} (hd : decode (xMc M) pc = .ok (.lconst n, 1)) (hv : Int64.ofNat (n : Nat) = v) (k : xV l G fr wd M (pc + 1) L (.long v :: st) h Q) : xV l G fr wd M pc L st h Q :=
  xgo k (fun p e R s m args below meth c H locs cells slots ls Qw C hR hl kk => lv_lconst C.1 C.2.1 hd hv (kk ls hl))
theorem x_ldc {ix : Nat} {v : Int32} (hd : decode (xMc M) pc = .ok (.ldc ix, 2)) (hw : Cond.constant (xMn M).cls ix v ∈ xTT) (k : xV l G fr wd M (pc + 2) L (.int v :: st) h Q) : xV l G fr wd M pc L st h Q :=
  xgo k (fun p e R s m args below meth c H locs cells slots ls Qw C hR hl kk => lv_ldc C.1 C.2.1 C.2.2.2.2.2.1 (C.2.2.2.2.2.2.2.1.2.2.2.1 args _ hw) hd (kk ls hl))
theorem x_ldc2 {ix : Nat} {v : Int64} (hd : decode (xMc M) pc = .ok (.ldc2_w ix, 3)) (hw : Cond.constantLong (xMn M).cls ix v ∈ xTT) (k : xV l G fr wd M (pc + 3) L (.long v :: st) h Q) : xV l G fr wd M pc L st h Q :=
  xgo k (fun p e R s m args below meth c H locs cells slots ls Qw C hR hl kk => lv_ldc2 C.1 C.2.1 C.2.2.2.2.2.1 (C.2.2.2.2.2.2.2.1.2.2.2.1 args _ hw) hd (kk ls hl))
theorem x_null (hd : decode (xMc M) pc = .ok (.aconst_null, 1)) (k : xV l G fr wd M (pc + 1) L (.null :: st) h Q) : xV l G fr wd M pc L st h Q :=
  xgo k (fun p e R s m args below meth c H locs cells slots ls Qw C hR hl kk => lv_null C.1 C.2.1 hd (kk ls hl))
theorem x_iload_n {k : Fin 4} {x : Int32} (hd : decode (xMc M) pc = .ok (.iload_n k, 1)) (hx : xlk L (k : Nat) = some (.int x)) (k : xV l G fr wd M (pc + 1) L (.int x :: st) h Q) : xV l G fr wd M pc L st h Q :=
  xgo k (fun p e R s m args below meth c H locs cells slots ls Qw C hR hl kk => lv_iload_n C.1 C.2.1 hd rfl (xlk_has hl hx) (kk ls hl))
theorem x_iload {i : Nat} {x : Int32} (hd : decode (xMc M) pc = .ok (.iload i, 2)) (hx : xlk L i = some (.int x)) (k : xV l G fr wd M (pc + 2) L (.int x :: st) h Q) : xV l G fr wd M pc L st h Q :=
  xgo k (fun p e R s m args below meth c H locs cells slots ls Qw C hR hl kk => lv_iload C.1 C.2.1 hd (xlk_has hl hx) (kk ls hl))
theorem x_lload_n {k : Fin 4} {x : Int64} (hd : decode (xMc M) pc = .ok (.lload_n k, 1)) (hx : xlk L (k : Nat) = some (.long x)) (k : xV l G fr wd M (pc + 1) L (.long x :: st) h Q) : xV l G fr wd M pc L st h Q :=
  xgo k (fun p e R s m args below meth c H locs cells slots ls Qw C hR hl kk => lv_lload_n C.1 C.2.1 hd rfl (xlk_has hl hx) (kk ls hl))
theorem x_lload {i : Nat} {x : Int64} (hd : decode (xMc M) pc = .ok (.lload i, 2)) (hx : xlk L i = some (.long x)) (k : xV l G fr wd M (pc + 2) L (.long x :: st) h Q) : xV l G fr wd M pc L st h Q :=
  xgo k (fun p e R s m args below meth c H locs cells slots ls Qw C hR hl kk => lv_lload C.1 C.2.1 hd (xlk_has hl hx) (kk ls hl))
theorem x_aload_n {k : Fin 4} {x : Nat} (hd : decode (xMc M) pc = .ok (.aload_n k, 1)) (hx : xlk L (k : Nat) = some (.ref x)) (k : xV l G fr wd M (pc + 1) L (.ref x :: st) h Q) : xV l G fr wd M pc L st h Q :=
  xgo k (fun p e R s m args below meth c H locs cells slots ls Qw C hR hl kk => lv_aload_n C.1 C.2.1 hd rfl (xlk_has hl hx) (kk ls hl))
theorem x_aload {i : Nat} {x : Nat} (hd : decode (xMc M) pc = .ok (.aload i, 2)) (hx : xlk L i = some (.ref x)) (k : xV l G fr wd M (pc + 2) L (.ref x :: st) h Q) : xV l G fr wd M pc L st h Q :=
  xgo k (fun p e R s m args below meth c H locs cells slots ls Qw C hR hl kk => lv_aload C.1 C.2.1 hd (xlk_has hl hx) (kk ls hl))
theorem x_aloadq_n {k : Fin 4} {o : Option Nat} (hd : decode (xMc M) pc = .ok (.aload_n k, 1)) (hx : xlk L (k : Nat) = some (va_rf o)) (kq : xV l G fr wd M (pc + 1) L (va_rf o :: st) h Q) : xV l G fr wd M pc L st h Q := by
  cases o with
  | none => exact xgo kq (fun p e R s m args below meth c H locs cells slots ls Qw C hR hl kk => lv_aload_nN C.1 C.2.1 hd rfl (xlk_has hl hx) (kk ls hl))
  | some x => exact xgo kq (fun p e R s m args below meth c H locs cells slots ls Qw C hR hl kk => lv_aload_n C.1 C.2.1 hd rfl (xlk_has hl hx) (kk ls hl))
theorem x_aloadq {i : Nat} {o : Option Nat} (hd : decode (xMc M) pc = .ok (.aload i, 2)) (hx : xlk L i = some (va_rf o)) (kq : xV l G fr wd M (pc + 2) L (va_rf o :: st) h Q) : xV l G fr wd M pc L st h Q := by
  cases o with
  | none => exact xgo kq (fun p e R s m args below meth c H locs cells slots ls Qw C hR hl kk => lv_aloadN C.1 C.2.1 hd (xlk_has hl hx) (kk ls hl))
  | some x => exact xgo kq (fun p e R s m args below meth c H locs cells slots ls Qw C hR hl kk => lv_aload C.1 C.2.1 hd (xlk_has hl hx) (kk ls hl))
theorem x_istore_n {k : Fin 4} {x : Int32} (hd : decode (xMc M) pc = .ok (.istore_n k, 1)) (hn : (k : Nat) < xMl M) (k : xV l G fr wd M (pc + 1) (xst L (k : Nat) (.int x)) st h Q) : xV l G fr wd M pc L (.int x :: st) h Q :=
  xgo k (fun p e R s m args below meth c H locs cells slots ls Qw C hR hl kk => lv_istore_n C.1 C.2.1 hd rfl hl hn rfl kk)
theorem x_istore {i : Nat} {x : Int32} (hd : decode (xMc M) pc = .ok (.istore i, 2)) (hn : i < xMl M) (k : xV l G fr wd M (pc + 2) (xst L i (.int x)) st h Q) : xV l G fr wd M pc L (.int x :: st) h Q :=
  xgo k (fun p e R s m args below meth c H locs cells slots ls Qw C hR hl kk => lv_istore C.1 C.2.1 hd hl hn rfl kk)
theorem x_lstore_n {k : Fin 4} {x : Int64} (hd : decode (xMc M) pc = .ok (.lstore_n k, 1)) (hn : (k : Nat) + 1 < xMl M) (k : xV l G fr wd M (pc + 1) (xst2 L (k : Nat) (.long x)) st h Q) : xV l G fr wd M pc L (.long x :: st) h Q :=
  xgo k (fun p e R s m args below meth c H locs cells slots ls Qw C hR hl kk => lv_lstore_n C.1 C.2.1 hd rfl hl hn rfl kk)
theorem x_lstore {i : Nat} {x : Int64} (hd : decode (xMc M) pc = .ok (.lstore i, 2)) (hn : i + 1 < xMl M) (k : xV l G fr wd M (pc + 2) (xst2 L i (.long x)) st h Q) : xV l G fr wd M pc L (.long x :: st) h Q :=
  xgo k (fun p e R s m args below meth c H locs cells slots ls Qw C hR hl kk => lv_lstore C.1 C.2.1 hd hl hn rfl kk)
theorem x_astore_n {k : Fin 4} {x : Nat} (hd : decode (xMc M) pc = .ok (.astore_n k, 1)) (hn : (k : Nat) < xMl M) (k : xV l G fr wd M (pc + 1) (xst L (k : Nat) (.ref x)) st h Q) : xV l G fr wd M pc L (.ref x :: st) h Q :=
  xgo k (fun p e R s m args below meth c H locs cells slots ls Qw C hR hl kk => lv_astore_n C.1 C.2.1 hd rfl hl hn rfl kk)
theorem x_astore {i : Nat} {x : Nat} (hd : decode (xMc M) pc = .ok (.astore i, 2)) (hn : i < xMl M) (k : xV l G fr wd M (pc + 2) (xst L i (.ref x)) st h Q) : xV l G fr wd M pc L (.ref x :: st) h Q :=
  xgo k (fun p e R s m args below meth c H locs cells slots ls Qw C hR hl kk => lv_astore C.1 C.2.1 hd hl hn rfl kk)
theorem x_astore_nN {k : Fin 4} (hd : decode (xMc M) pc = .ok (.astore_n k, 1)) (hn : (k : Nat) < xMl M) (k : xV l G fr wd M (pc + 1) (xst L (k : Nat) .null) st h Q) : xV l G fr wd M pc L (.null :: st) h Q :=
  xgo k (fun p e R s m args below meth c H locs cells slots ls Qw C hR hl kk => lv_astore_nN C.1 C.2.1 hd rfl hl hn rfl kk)
theorem x_astoreN {i : Nat} (hd : decode (xMc M) pc = .ok (.astore i, 2)) (hn : i < xMl M) (k : xV l G fr wd M (pc + 2) (xst L i .null) st h Q) : xV l G fr wd M pc L (.null :: st) h Q :=
  xgo k (fun p e R s m args below meth c H locs cells slots ls Qw C hR hl kk => lv_astoreN C.1 C.2.1 hd hl hn rfl kk)
theorem x_astoreq_n {k : Fin 4} {o : Option Nat} (hd : decode (xMc M) pc = .ok (.astore_n k, 1)) (hn : (k : Nat) < xMl M) (kq : xV l G fr wd M (pc + 1) (xst L (k : Nat) (va_rf o)) st h Q) : xV l G fr wd M pc L (va_rf o :: st) h Q := by
  cases o with
  | none => exact x_astore_nN hd hn kq
  | some x => exact x_astore_n hd hn kq
theorem x_astoreq {i : Nat} {o : Option Nat} (hd : decode (xMc M) pc = .ok (.astore i, 2)) (hn : i < xMl M) (kq : xV l G fr wd M (pc + 2) (xst L i (va_rf o)) st h Q) : xV l G fr wd M pc L (va_rf o :: st) h Q := by
  cases o with
  | none => exact x_astoreN hd hn kq
  | some x => exact x_astore hd hn kq
theorem xlk_pos {L : List (Nat × Value)} {i : Nat} {v : Value} (h : xlk L i = some v) : ∃ k : Nat, L[k]? = some (i, v) := by
  unfold xlk at h
  obtain ⟨q, hq, rfl⟩ := Option.map_eq_some_iff.mp h
  have h2 : q.1 = i := by simpa using List.find?_some hq
  obtain ⟨k, hk⟩ := List.getElem?_of_mem (List.mem_of_find?_eq_some hq)
  exact ⟨k, by rw [hk, ← h2]⟩
theorem x_iinc {i : Nat} {n : Int} {x v : Int32} (hd : decode (xMc M) pc = .ok (.iinc i n, 3)) (hx : xlk L i = some (.int x)) (hv : x + Int32.ofInt n = v) (hn : i < xMl M) (kq : xV l G fr wd M (pc + 3) (xst L i (.int v)) st h Q) : xV l G fr wd M pc L st h Q := by
  obtain ⟨k0, hk0⟩ := xlk_pos hx
  exact xgo kq (fun p e R s m args below meth c H locs cells slots ls Qw C hR hl kk => lv_iinc C.1 C.2.1 hd hl hk0 hv hn rfl kk)
theorem x_iadd {x y : Int32} (hd : decode (xMc M) pc = .ok (.iadd, 1)) (k : xV l G fr wd M (pc + 1) L (.int (x + y) :: st) h Q) : xV l G fr wd M pc L (.int y :: .int x :: st) h Q :=
  xgo k (fun p e R s m args below meth c H locs cells slots ls Qw C hR hl kk => lv_iadd C.1 C.2.1 hd (kk ls hl))
theorem x_isub {x y : Int32} (hd : decode (xMc M) pc = .ok (.isub, 1)) (k : xV l G fr wd M (pc + 1) L (.int (x - y) :: st) h Q) : xV l G fr wd M pc L (.int y :: .int x :: st) h Q :=
  xgo k (fun p e R s m args below meth c H locs cells slots ls Qw C hR hl kk => lv_isub C.1 C.2.1 hd (kk ls hl))
theorem x_imul {x y : Int32} (hd : decode (xMc M) pc = .ok (.imul, 1)) (k : xV l G fr wd M (pc + 1) L (.int (x * y) :: st) h Q) : xV l G fr wd M pc L (.int y :: .int x :: st) h Q :=
  xgo k (fun p e R s m args below meth c H locs cells slots ls Qw C hR hl kk => lv_imul C.1 C.2.1 hd (kk ls hl))
theorem x_iand {x y : Int32} (hd : decode (xMc M) pc = .ok (.iand, 1)) (k : xV l G fr wd M (pc + 1) L (.int (x &&& y) :: st) h Q) : xV l G fr wd M pc L (.int y :: .int x :: st) h Q :=
  xgo k (fun p e R s m args below meth c H locs cells slots ls Qw C hR hl kk => lv_iand C.1 C.2.1 hd (kk ls hl))
theorem x_ior {x y : Int32} (hd : decode (xMc M) pc = .ok (.ior, 1)) (k : xV l G fr wd M (pc + 1) L (.int (x ||| y) :: st) h Q) : xV l G fr wd M pc L (.int y :: .int x :: st) h Q :=
  xgo k (fun p e R s m args below meth c H locs cells slots ls Qw C hR hl kk => lv_ior C.1 C.2.1 hd (kk ls hl))
theorem x_ixor {x y : Int32} (hd : decode (xMc M) pc = .ok (.ixor, 1)) (k : xV l G fr wd M (pc + 1) L (.int (x ^^^ y) :: st) h Q) : xV l G fr wd M pc L (.int y :: .int x :: st) h Q :=
  xgo k (fun p e R s m args below meth c H locs cells slots ls Qw C hR hl kk => lv_ixor C.1 C.2.1 hd (kk ls hl))
theorem x_ishl {x y : Int32} (hd : decode (xMc M) pc = .ok (.ishl, 1)) (k : xV l G fr wd M (pc + 1) L (.int (x <<< (y &&& 31)) :: st) h Q) : xV l G fr wd M pc L (.int y :: .int x :: st) h Q :=
  xgo k (fun p e R s m args below meth c H locs cells slots ls Qw C hR hl kk => lv_ishl C.1 C.2.1 hd (kk ls hl))
theorem x_ishr {x y : Int32} (hd : decode (xMc M) pc = .ok (.ishr, 1)) (k : xV l G fr wd M (pc + 1) L (.int (x >>> (y &&& 31)) :: st) h Q) : xV l G fr wd M pc L (.int y :: .int x :: st) h Q :=
  xgo k (fun p e R s m args below meth c H locs cells slots ls Qw C hR hl kk => lv_ishr C.1 C.2.1 hd (kk ls hl))
theorem x_idiv {x y : Int32} (hd : decode (xMc M) pc = .ok (.idiv, 1)) (hne : ¬ y = 0) (k : xV l G fr wd M (pc + 1) L (.int (x / y) :: st) h Q) : xV l G fr wd M pc L (.int y :: .int x :: st) h Q :=
  xgo k (fun p e R s m args below meth c H locs cells slots ls Qw C hR hl kk => lv_idiv C.1 C.2.1 hd hne (kk ls hl))
theorem x_irem {x y : Int32} (hd : decode (xMc M) pc = .ok (.irem, 1)) (hne : ¬ y = 0) (k : xV l G fr wd M (pc + 1) L (.int (x - x / y * y) :: st) h Q) : xV l G fr wd M pc L (.int y :: .int x :: st) h Q :=
  xgo k (fun p e R s m args below meth c H locs cells slots ls Qw C hR hl kk => lv_irem C.1 C.2.1 hd hne (kk ls hl))
theorem x_ineg {x : Int32} (hd : decode (xMc M) pc = .ok (.ineg, 1)) (k : xV l G fr wd M (pc + 1) L (.int (-x) :: st) h Q) : xV l G fr wd M pc L (.int x :: st) h Q :=
  xgo k (fun p e R s m args below meth c H locs cells slots ls Qw C hR hl kk => lv_ineg C.1 C.2.1 hd (kk ls hl))
theorem x_ladd {x y : Int64} (hd : decode (xMc M) pc = .ok (.ladd, 1)) (k : xV l G fr wd M (pc + 1) L (.long (x + y) :: st) h Q) : xV l G fr wd M pc L (.long y :: .long x :: st) h Q :=
  xgo k (fun p e R s m args below meth c H locs cells slots ls Qw C hR hl kk => lv_ladd C.1 C.2.1 hd (kk ls hl))
theorem x_lsub {x y : Int64} (hd : decode (xMc M) pc = .ok (.lsub, 1)) (k : xV l G fr wd M (pc + 1) L (.long (x - y) :: st) h Q) : xV l G fr wd M pc L (.long y :: .long x :: st) h Q :=
  xgo k (fun p e R s m args below meth c H locs cells slots ls Qw C hR hl kk => lv_lsub C.1 C.2.1 hd (kk ls hl))
theorem x_lmul {x y : Int64} (hd : decode (xMc M) pc = .ok (.lmul, 1)) (k : xV l G fr wd M (pc + 1) L (.long (x * y) :: st) h Q) : xV l G fr wd M pc L (.long y :: .long x :: st) h Q :=
  xgo k (fun p e R s m args below meth c H locs cells slots ls Qw C hR hl kk => lv_lmul C.1 C.2.1 hd (kk ls hl))
theorem x_land {x y : Int64} (hd : decode (xMc M) pc = .ok (.land, 1)) (k : xV l G fr wd M (pc + 1) L (.long (x &&& y) :: st) h Q) : xV l G fr wd M pc L (.long y :: .long x :: st) h Q :=
  xgo k (fun p e R s m args below meth c H locs cells slots ls Qw C hR hl kk => lv_land C.1 C.2.1 hd (kk ls hl))
theorem x_lor {x y : Int64} (hd : decode (xMc M) pc = .ok (.lor, 1)) (k : xV l G fr wd M (pc + 1) L (.long (x ||| y) :: st) h Q) : xV l G fr wd M pc L (.long y :: .long x :: st) h Q :=
  xgo k (fun p e R s m args below meth c H locs cells slots ls Qw C hR hl kk => lv_lor C.1 C.2.1 hd (kk ls hl))
theorem x_lxor {x y : Int64} (hd : decode (xMc M) pc = .ok (.lxor, 1)) (k : xV l G fr wd M (pc + 1) L (.long (x ^^^ y) :: st) h Q) : xV l G fr wd M pc L (.long y :: .long x :: st) h Q :=
  xgo k (fun p e R s m args below meth c H locs cells slots ls Qw C hR hl kk => lv_lxor C.1 C.2.1 hd (kk ls hl))
theorem x_ldiv {x y : Int64} (hd : decode (xMc M) pc = .ok (.ldiv, 1)) (hne : ¬ y = 0) (k : xV l G fr wd M (pc + 1) L (.long (x / y) :: st) h Q) : xV l G fr wd M pc L (.long y :: .long x :: st) h Q :=
  xgo k (fun p e R s m args below meth c H locs cells slots ls Qw C hR hl kk => lv_ldiv C.1 C.2.1 hd hne (kk ls hl))
theorem x_lrem {x y : Int64} (hd : decode (xMc M) pc = .ok (.lrem, 1)) (hne : ¬ y = 0) (k : xV l G fr wd M (pc + 1) L (.long (x - x / y * y) :: st) h Q) : xV l G fr wd M pc L (.long y :: .long x :: st) h Q :=
  xgo k (fun p e R s m args below meth c H locs cells slots ls Qw C hR hl kk => lv_lrem C.1 C.2.1 hd hne (kk ls hl))
theorem x_lneg {x : Int64} (hd : decode (xMc M) pc = .ok (.lneg, 1)) (k : xV l G fr wd M (pc + 1) L (.long (-x) :: st) h Q) : xV l G fr wd M pc L (.long x :: st) h Q :=
  xgo k (fun p e R s m args below meth c H locs cells slots ls Qw C hR hl kk => lv_lneg C.1 C.2.1 hd (kk ls hl))
theorem x_lshl {x : Int64} {y : Int32} (hd : decode (xMc M) pc = .ok (.lshl, 1)) (k : xV l G fr wd M (pc + 1) L (.long (x <<< (y.toInt64 &&& 63)) :: st) h Q) : xV l G fr wd M pc L (.int y :: .long x :: st) h Q :=
  xgo k (fun p e R s m args below meth c H locs cells slots ls Qw C hR hl kk => lv_lshl C.1 C.2.1 hd rfl (kk ls hl))
theorem x_lshr {x : Int64} {y : Int32} (hd : decode (xMc M) pc = .ok (.lshr, 1)) (k : xV l G fr wd M (pc + 1) L (.long (x >>> (y.toInt64 &&& 63)) :: st) h Q) : xV l G fr wd M pc L (.int y :: .long x :: st) h Q :=
  xgo k (fun p e R s m args below meth c H locs cells slots ls Qw C hR hl kk => lv_lshr C.1 C.2.1 hd rfl (kk ls hl))
theorem x_iushr {x y : Int32} (hd : decode (xMc M) pc = .ok (.iushr, 1)) (k : xV l G fr wd M (pc + 1) L (.int (x.toUInt32 >>> (y.toUInt32 &&& Int32.toUInt32 31)).toInt32 :: st) h Q) : xV l G fr wd M pc L (.int y :: .int x :: st) h Q :=
  xgo k (fun p e R s m args below meth c H locs cells slots ls Qw C hR hl kk => lv_iushr C.1 C.2.1 hd rfl (kk ls hl))
theorem x_i2l {x : Int32} (hd : decode (xMc M) pc = .ok (.i2l, 1)) (k : xV l G fr wd M (pc + 1) L (.long x.toInt64 :: st) h Q) : xV l G fr wd M pc L (.int x :: st) h Q :=
  xgo k (fun p e R s m args below meth c H locs cells slots ls Qw C hR hl kk => lv_i2l C.1 C.2.1 hd rfl (kk ls hl))
theorem x_l2i {x : Int64} (hd : decode (xMc M) pc = .ok (.l2i, 1)) (k : xV l G fr wd M (pc + 1) L (.int x.toInt32 :: st) h Q) : xV l G fr wd M pc L (.long x :: st) h Q :=
  xgo k (fun p e R s m args below meth c H locs cells slots ls Qw C hR hl kk => lv_l2i C.1 C.2.1 hd rfl (kk ls hl))
theorem x_i2b {x : Int32} (hd : decode (xMc M) pc = .ok (.i2b, 1)) (k : xV l G fr wd M (pc + 1) L (.int x.toInt8.toInt32 :: st) h Q) : xV l G fr wd M pc L (.int x :: st) h Q :=
  xgo k (fun p e R s m args below meth c H locs cells slots ls Qw C hR hl kk => lv_i2b C.1 C.2.1 hd rfl (kk ls hl))
theorem x_lcmp {x y : Int64} (hd : decode (xMc M) pc = .ok (.lcmp, 1)) (k : xV l G fr wd M (pc + 1) L (.int (lg_cmp x y) :: st) h Q) : xV l G fr wd M pc L (.long y :: .long x :: st) h Q :=
  xgo k (fun p e R s m args below meth c H locs cells slots ls Qw C hR hl kk => W.lcmp C.1 C.2.1 hd (kk ls hl))
theorem x_dup {va : Value} (hd : decode (xMc M) pc = .ok (.dup, 1)) (hva : va.category = 1) (k : xV l G fr wd M (pc + 1) L (va :: va :: st) h Q) : xV l G fr wd M pc L (va :: st) h Q :=
  xgo k (fun p e R s m args below meth c H locs cells slots ls Qw C hR hl kk => lv_dup C.1 C.2.1 hd hva (kk ls hl))
theorem x_pop {va : Value} (hd : decode (xMc M) pc = .ok (.pop, 1)) (hva : va.category = 1) (k : xV l G fr wd M (pc + 1) L st h Q) : xV l G fr wd M pc L (va :: st) h Q :=
  xgo k (fun p e R s m args below meth c H locs cells slots ls Qw C hR hl kk => lv_pop C.1 C.2.1 hd hva (kk ls hl))
theorem x_dup_x1 {va vb : Value} (hd : decode (xMc M) pc = .ok (.dup_x1, 1)) (hva : va.category = 1) (hvb : vb.category = 1) (k : xV l G fr wd M (pc + 1) L (va :: vb :: va :: st) h Q) : xV l G fr wd M pc L (va :: vb :: st) h Q :=
  xgo k (fun p e R s m args below meth c H locs cells slots ls Qw C hR hl kk => lv_dup_x1 C.1 C.2.1 hd hva hvb (kk ls hl))
theorem x_dup2 {va vb : Value} (hd : decode (xMc M) pc = .ok (.dup2, 1)) (hva : va.category = 1) (hvb : vb.category = 1) (k : xV l G fr wd M (pc + 1) L (va :: vb :: va :: vb :: st) h Q) : xV l G fr wd M pc L (va :: vb :: st) h Q :=
  xgo k (fun p e R s m args below meth c H locs cells slots ls Qw C hR hl kk => lv_dup2_11 C.1 C.2.1 hd hva hvb (kk ls hl))
theorem x_dup_x2 {va vb vd : Value} (hd : decode (xMc M) pc = .ok (.dup_x2, 1)) (hva : va.category = 1) (hvb : vb.category = 1) (hvd : vd.category = 1) (k : xV l G fr wd M (pc + 1) L (va :: vb :: vd :: va :: st) h Q) : xV l G fr wd M pc L (va :: vb :: vd :: st) h Q :=
  xgo k (fun p e R s m args below meth c H locs cells slots ls Qw C hR hl kk => lv_dup_x2 C.1 C.2.1 hd hva hvb hvd (kk ls hl))
theorem x_if_eq_t {x : Int32} {off : Int} {tgt : Nat} (hd : decode (xMc M) pc = .ok (.ifCond .eq off, 3)) (ht : (pc : Int) + off = (tgt : Int)) (hc : x = 0) (k : xV l G fr wd M tgt L st h Q) : xV l G fr wd M pc L (.int x :: st) h Q :=
  xgo k (fun p e R s m args below meth c H locs cells slots ls Qw C hR hl kk => lv_if_eq C.1 C.2.1 hd ht (fun _ => kk ls hl) (fun z => absurd hc z))
theorem x_if_eq_f {x : Int32} {off : Int} (tgt : Nat) (hd : decode (xMc M) pc = .ok (.ifCond .eq off, 3)) (ht : (pc : Int) + off = (tgt : Int)) (hc : ¬ (x = 0)) (k : xV l G fr wd M (pc + 3) L st h Q) : xV l G fr wd M pc L (.int x :: st) h Q :=
  xgo k (fun p e R s m args below meth c H locs cells slots ls Qw C hR hl kk => lv_if_eq C.1 C.2.1 hd ht (fun z => absurd z hc) (fun _ => kk ls hl))
theorem x_if_eq {x : Int32} {off : Int} {tgt : Nat} (hd : decode (xMc M) pc = .ok (.ifCond .eq off, 3)) (ht : (pc : Int) + off = (tgt : Int)) (kt : x = 0 → xV l G fr wd M tgt L st h Q) (kf : ¬ (x = 0) → xV l G fr wd M (pc + 3) L st h Q) : xV l G fr wd M pc L (.int x :: st) h Q := by
  by_cases hc : x = 0
  · exact x_if_eq_t hd ht hc (kt hc)
  · exact x_if_eq_f tgt hd ht hc (kf hc)
theorem x_icmp_eq_t {x y : Int32} {off : Int} {tgt : Nat} (hd : decode (xMc M) pc = .ok (.if_icmp .eq off, 3)) (ht : (pc : Int) + off = (tgt : Int)) (hc : x = y) (k : xV l G fr wd M tgt L st h Q) : xV l G fr wd M pc L (.int y :: .int x :: st) h Q :=
  xgo k (fun p e R s m args below meth c H locs cells slots ls Qw C hR hl kk => lv_icmp_eq C.1 C.2.1 hd ht (fun _ => kk ls hl) (fun z => absurd hc z))
theorem x_icmp_eq_f {x y : Int32} {off : Int} (tgt : Nat) (hd : decode (xMc M) pc = .ok (.if_icmp .eq off, 3)) (ht : (pc : Int) + off = (tgt : Int)) (hc : ¬ (x = y)) (k : xV l G fr wd M (pc + 3) L st h Q) : xV l G fr wd M pc L (.int y :: .int x :: st) h Q :=
  xgo k (fun p e R s m args below meth c H locs cells slots ls Qw C hR hl kk => lv_icmp_eq C.1 C.2.1 hd ht (fun z => absurd z hc) (fun _ => kk ls hl))
theorem x_icmp_eq {x y : Int32} {off : Int} {tgt : Nat} (hd : decode (xMc M) pc = .ok (.if_icmp .eq off, 3)) (ht : (pc : Int) + off = (tgt : Int)) (kt : x = y → xV l G fr wd M tgt L st h Q) (kf : ¬ (x = y) → xV l G fr wd M (pc + 3) L st h Q) : xV l G fr wd M pc L (.int y :: .int x :: st) h Q := by
  by_cases hc : x = y
  · exact x_icmp_eq_t hd ht hc (kt hc)
  · exact x_icmp_eq_f tgt hd ht hc (kf hc)
theorem x_if_ne_t {x : Int32} {off : Int} {tgt : Nat} (hd : decode (xMc M) pc = .ok (.ifCond .ne off, 3)) (ht : (pc : Int) + off = (tgt : Int)) (hc : ¬ x = 0) (k : xV l G fr wd M tgt L st h Q) : xV l G fr wd M pc L (.int x :: st) h Q :=
  xgo k (fun p e R s m args below meth c H locs cells slots ls Qw C hR hl kk => lv_if_ne C.1 C.2.1 hd ht (fun _ => kk ls hl) (fun z => absurd z hc))
theorem x_if_ne_f {x : Int32} {off : Int} (tgt : Nat) (hd : decode (xMc M) pc = .ok (.ifCond .ne off, 3)) (ht : (pc : Int) + off = (tgt : Int)) (hc : x = 0) (k : xV l G fr wd M (pc + 3) L st h Q) : xV l G fr wd M pc L (.int x :: st) h Q :=
  xgo k (fun p e R s m args below meth c H locs cells slots ls Qw C hR hl kk => lv_if_ne C.1 C.2.1 hd ht (fun z => absurd hc z) (fun _ => kk ls hl))
theorem x_if_ne {x : Int32} {off : Int} {tgt : Nat} (hd : decode (xMc M) pc = .ok (.ifCond .ne off, 3)) (ht : (pc : Int) + off = (tgt : Int)) (kt : ¬ x = 0 → xV l G fr wd M tgt L st h Q) (kf : x = 0 → xV l G fr wd M (pc + 3) L st h Q) : xV l G fr wd M pc L (.int x :: st) h Q := by
  by_cases hc : x = 0
  · exact x_if_ne_f tgt hd ht hc (kf hc)
  · exact x_if_ne_t hd ht hc (kt hc)
theorem x_icmp_ne_t {x y : Int32} {off : Int} {tgt : Nat} (hd : decode (xMc M) pc = .ok (.if_icmp .ne off, 3)) (ht : (pc : Int) + off = (tgt : Int)) (hc : ¬ x = y) (k : xV l G fr wd M tgt L st h Q) : xV l G fr wd M pc L (.int y :: .int x :: st) h Q :=
  xgo k (fun p e R s m args below meth c H locs cells slots ls Qw C hR hl kk => lv_icmp_ne C.1 C.2.1 hd ht (fun _ => kk ls hl) (fun z => absurd z hc))
theorem x_icmp_ne_f {x y : Int32} {off : Int} (tgt : Nat) (hd : decode (xMc M) pc = .ok (.if_icmp .ne off, 3)) (ht : (pc : Int) + off = (tgt : Int)) (hc : x = y) (k : xV l G fr wd M (pc + 3) L st h Q) : xV l G fr wd M pc L (.int y :: .int x :: st) h Q :=
  xgo k (fun p e R s m args below meth c H locs cells slots ls Qw C hR hl kk => lv_icmp_ne C.1 C.2.1 hd ht (fun z => absurd hc z) (fun _ => kk ls hl))
theorem x_icmp_ne {x y : Int32} {off : Int} {tgt : Nat} (hd : decode (xMc M) pc = .ok (.if_icmp .ne off, 3)) (ht : (pc : Int) + off = (tgt : Int)) (kt : ¬ x = y → xV l G fr wd M tgt L st h Q) (kf : x = y → xV l G fr wd M (pc + 3) L st h Q) : xV l G fr wd M pc L (.int y :: .int x :: st) h Q := by
  by_cases hc : x = y
  · exact x_icmp_ne_f tgt hd ht hc (kf hc)
  · exact x_icmp_ne_t hd ht hc (kt hc)
theorem x_if_lt_t {x : Int32} {off : Int} {tgt : Nat} (hd : decode (xMc M) pc = .ok (.ifCond .lt off, 3)) (ht : (pc : Int) + off = (tgt : Int)) (hc : x < 0) (k : xV l G fr wd M tgt L st h Q) : xV l G fr wd M pc L (.int x :: st) h Q :=
  xgo k (fun p e R s m args below meth c H locs cells slots ls Qw C hR hl kk => lv_if_lt C.1 C.2.1 hd ht (fun _ => kk ls hl) (fun z => absurd hc z))
theorem x_if_lt_f {x : Int32} {off : Int} (tgt : Nat) (hd : decode (xMc M) pc = .ok (.ifCond .lt off, 3)) (ht : (pc : Int) + off = (tgt : Int)) (hc : ¬ (x < 0)) (k : xV l G fr wd M (pc + 3) L st h Q) : xV l G fr wd M pc L (.int x :: st) h Q :=
  xgo k (fun p e R s m args below meth c H locs cells slots ls Qw C hR hl kk => lv_if_lt C.1 C.2.1 hd ht (fun z => absurd z hc) (fun _ => kk ls hl))
theorem x_if_lt {x : Int32} {off : Int} {tgt : Nat} (hd : decode (xMc M) pc = .ok (.ifCond .lt off, 3)) (ht : (pc : Int) + off = (tgt : Int)) (kt : x < 0 → xV l G fr wd M tgt L st h Q) (kf : ¬ (x < 0) → xV l G fr wd M (pc + 3) L st h Q) : xV l G fr wd M pc L (.int x :: st) h Q := by
  by_cases hc : x < 0
  · exact x_if_lt_t hd ht hc (kt hc)
  · exact x_if_lt_f tgt hd ht hc (kf hc)
theorem x_icmp_lt_t {x y : Int32} {off : Int} {tgt : Nat} (hd : decode (xMc M) pc = .ok (.if_icmp .lt off, 3)) (ht : (pc : Int) + off = (tgt : Int)) (hc : x < y) (k : xV l G fr wd M tgt L st h Q) : xV l G fr wd M pc L (.int y :: .int x :: st) h Q :=
  xgo k (fun p e R s m args below meth c H locs cells slots ls Qw C hR hl kk => lv_icmp_lt C.1 C.2.1 hd ht (fun _ => kk ls hl) (fun z => absurd hc z))
theorem x_icmp_lt_f {x y : Int32} {off : Int} (tgt : Nat) (hd : decode (xMc M) pc = .ok (.if_icmp .lt off, 3)) (ht : (pc : Int) + off = (tgt : Int)) (hc : ¬ (x < y)) (k : xV l G fr wd M (pc + 3) L st h Q) : xV l G fr wd M pc L (.int y :: .int x :: st) h Q :=
  xgo k (fun p e R s m args below meth c H locs cells slots ls Qw C hR hl kk => lv_icmp_lt C.1 C.2.1 hd ht (fun z => absurd z hc) (fun _ => kk ls hl))
theorem x_icmp_lt {x y : Int32} {off : Int} {tgt : Nat} (hd : decode (xMc M) pc = .ok (.if_icmp .lt off, 3)) (ht : (pc : Int) + off = (tgt : Int)) (kt : x < y → xV l G fr wd M tgt L st h Q) (kf : ¬ (x < y) → xV l G fr wd M (pc + 3) L st h Q) : xV l G fr wd M pc L (.int y :: .int x :: st) h Q := by
  by_cases hc : x < y
  · exact x_icmp_lt_t hd ht hc (kt hc)
  · exact x_icmp_lt_f tgt hd ht hc (kf hc)
theorem x_if_ge_t {x : Int32} {off : Int} {tgt : Nat} (hd : decode (xMc M) pc = .ok (.ifCond .ge off, 3)) (ht : (pc : Int) + off = (tgt : Int)) (hc : 0 ≤ x) (k : xV l G fr wd M tgt L st h Q) : xV l G fr wd M pc L (.int x :: st) h Q :=
  xgo k (fun p e R s m args below meth c H locs cells slots ls Qw C hR hl kk => lv_if_ge C.1 C.2.1 hd ht (fun _ => kk ls hl) (fun z => absurd hc z))
theorem x_if_ge_f {x : Int32} {off : Int} (tgt : Nat) (hd : decode (xMc M) pc = .ok (.ifCond .ge off, 3)) (ht : (pc : Int) + off = (tgt : Int)) (hc : ¬ (0 ≤ x)) (k : xV l G fr wd M (pc + 3) L st h Q) : xV l G fr wd M pc L (.int x :: st) h Q :=
  xgo k (fun p e R s m args below meth c H locs cells slots ls Qw C hR hl kk => lv_if_ge C.1 C.2.1 hd ht (fun z => absurd z hc) (fun _ => kk ls hl))
theorem x_if_ge {x : Int32} {off : Int} {tgt : Nat} (hd : decode (xMc M) pc = .ok (.ifCond .ge off, 3)) (ht : (pc : Int) + off = (tgt : Int)) (kt : 0 ≤ x → xV l G fr wd M tgt L st h Q) (kf : ¬ (0 ≤ x) → xV l G fr wd M (pc + 3) L st h Q) : xV l G fr wd M pc L (.int x :: st) h Q := by
  by_cases hc : 0 ≤ x
  · exact x_if_ge_t hd ht hc (kt hc)
  · exact x_if_ge_f tgt hd ht hc (kf hc)
theorem x_icmp_ge_t {x y : Int32} {off : Int} {tgt : Nat} (hd : decode (xMc M) pc = .ok (.if_icmp .ge off, 3)) (ht : (pc : Int) + off = (tgt : Int)) (hc : y ≤ x) (k : xV l G fr wd M tgt L st h Q) : xV l G fr wd M pc L (.int y :: .int x :: st) h Q :=
  xgo k (fun p e R s m args below meth c H locs cells slots ls Qw C hR hl kk => lv_icmp_ge C.1 C.2.1 hd ht (fun _ => kk ls hl) (fun z => absurd hc z))
theorem x_icmp_ge_f {x y : Int32} {off : Int} (tgt : Nat) (hd : decode (xMc M) pc = .ok (.if_icmp .ge off, 3)) (ht : (pc : Int) + off = (tgt : Int)) (hc : ¬ (y ≤ x)) (k : xV l G fr wd M (pc + 3) L st h Q) : xV l G fr wd M pc L (.int y :: .int x :: st) h Q :=
  xgo k (fun p e R s m args below meth c H locs cells slots ls Qw C hR hl kk => lv_icmp_ge C.1 C.2.1 hd ht (fun z => absurd z hc) (fun _ => kk ls hl))
theorem x_icmp_ge {x y : Int32} {off : Int} {tgt : Nat} (hd : decode (xMc M) pc = .ok (.if_icmp .ge off, 3)) (ht : (pc : Int) + off = (tgt : Int)) (kt : y ≤ x → xV l G fr wd M tgt L st h Q) (kf : ¬ (y ≤ x) → xV l G fr wd M (pc + 3) L st h Q) : xV l G fr wd M pc L (.int y :: .int x :: st) h Q := by
  by_cases hc : y ≤ x
  · exact x_icmp_ge_t hd ht hc (kt hc)
  · exact x_icmp_ge_f tgt hd ht hc (kf hc)
theorem x_if_gt_t {x : Int32} {off : Int} {tgt : Nat} (hd : decode (xMc M) pc = .ok (.ifCond .gt off, 3)) (ht : (pc : Int) + off = (tgt : Int)) (hc : 0 < x) (k : xV l G fr wd M tgt L st h Q) : xV l G fr wd M pc L (.int x :: st) h Q :=
  xgo k (fun p e R s m args below meth c H locs cells slots ls Qw C hR hl kk => lv_if_gt C.1 C.2.1 hd ht (fun _ => kk ls hl) (fun z => absurd hc z))
theorem x_if_gt_f {x : Int32} {off : Int} (tgt : Nat) (hd : decode (xMc M) pc = .ok (.ifCond .gt off, 3)) (ht : (pc : Int) + off = (tgt : Int)) (hc : ¬ (0 < x)) (k : xV l G fr wd M (pc + 3) L st h Q) : xV l G fr wd M pc L (.int x :: st) h Q :=
  xgo k (fun p e R s m args below meth c H locs cells slots ls Qw C hR hl kk => lv_if_gt C.1 C.2.1 hd ht (fun z => absurd z hc) (fun _ => kk ls hl))
theorem x_if_gt {x : Int32} {off : Int} {tgt : Nat} (hd : decode (xMc M) pc = .ok (.ifCond .gt off, 3)) (ht : (pc : Int) + off = (tgt : Int)) (kt : 0 < x → xV l G fr wd M tgt L st h Q) (kf : ¬ (0 < x) → xV l G fr wd M (pc + 3) L st h Q) : xV l G fr wd M pc L (.int x :: st) h Q := by
  by_cases hc : 0 < x
  · exact x_if_gt_t hd ht hc (kt hc)
  · exact x_if_gt_f tgt hd ht hc (kf hc)
theorem x_icmp_gt_t {x y : Int32} {off : Int} {tgt : Nat} (hd : decode (xMc M) pc = .ok (.if_icmp .gt off, 3)) (ht : (pc : Int) + off = (tgt : Int)) (hc : y < x) (k : xV l G fr wd M tgt L st h Q) : xV l G fr wd M pc L (.int y :: .int x :: st) h Q :=
  xgo k (fun p e R s m args below meth c H locs cells slots ls Qw C hR hl kk => lv_icmp_gt C.1 C.2.1 hd ht (fun _ => kk ls hl) (fun z => absurd hc z))
theorem x_icmp_gt_f {x y : Int32} {off : Int} (tgt : Nat) (hd : decode (xMc M) pc = .ok (.if_icmp .gt off, 3)) (ht : (pc : Int) + off = (tgt : Int)) (hc : ¬ (y < x)) (k : xV l G fr wd M (pc + 3) L st h Q) : xV l G fr wd M pc L (.int y :: .int x :: st) h Q :=
  xgo k (fun p e R s m args below meth c H locs cells slots ls Qw C hR hl kk => lv_icmp_gt C.1 C.2.1 hd ht (fun z => absurd z hc) (fun _ => kk ls hl))
theorem x_icmp_gt {x y : Int32} {off : Int} {tgt : Nat} (hd : decode (xMc M) pc = .ok (.if_icmp .gt off, 3)) (ht : (pc : Int) + off = (tgt : Int)) (kt : y < x → xV l G fr wd M tgt L st h Q) (kf : ¬ (y < x) → xV l G fr wd M (pc + 3) L st h Q) : xV l G fr wd M pc L (.int y :: .int x :: st) h Q := by
  by_cases hc : y < x
  · exact x_icmp_gt_t hd ht hc (kt hc)
  · exact x_icmp_gt_f tgt hd ht hc (kf hc)
theorem x_if_le_t {x : Int32} {off : Int} {tgt : Nat} (hd : decode (xMc M) pc = .ok (.ifCond .le off, 3)) (ht : (pc : Int) + off = (tgt : Int)) (hc : x ≤ 0) (k : xV l G fr wd M tgt L st h Q) : xV l G fr wd M pc L (.int x :: st) h Q :=
  xgo k (fun p e R s m args below meth c H locs cells slots ls Qw C hR hl kk => lv_if_le C.1 C.2.1 hd ht (fun _ => kk ls hl) (fun z => absurd hc z))
theorem x_if_le_f {x : Int32} {off : Int} (tgt : Nat) (hd : decode (xMc M) pc = .ok (.ifCond .le off, 3)) (ht : (pc : Int) + off = (tgt : Int)) (hc : ¬ (x ≤ 0)) (k : xV l G fr wd M (pc + 3) L st h Q) : xV l G fr wd M pc L (.int x :: st) h Q :=
  xgo k (fun p e R s m args below meth c H locs cells slots ls Qw C hR hl kk => lv_if_le C.1 C.2.1 hd ht (fun z => absurd z hc) (fun _ => kk ls hl))
theorem x_if_le {x : Int32} {off : Int} {tgt : Nat} (hd : decode (xMc M) pc = .ok (.ifCond .le off, 3)) (ht : (pc : Int) + off = (tgt : Int)) (kt : x ≤ 0 → xV l G fr wd M tgt L st h Q) (kf : ¬ (x ≤ 0) → xV l G fr wd M (pc + 3) L st h Q) : xV l G fr wd M pc L (.int x :: st) h Q := by
  by_cases hc : x ≤ 0
  · exact x_if_le_t hd ht hc (kt hc)
  · exact x_if_le_f tgt hd ht hc (kf hc)
theorem x_icmp_le_t {x y : Int32} {off : Int} {tgt : Nat} (hd : decode (xMc M) pc = .ok (.if_icmp .le off, 3)) (ht : (pc : Int) + off = (tgt : Int)) (hc : x ≤ y) (k : xV l G fr wd M tgt L st h Q) : xV l G fr wd M pc L (.int y :: .int x :: st) h Q :=
  xgo k (fun p e R s m args below meth c H locs cells slots ls Qw C hR hl kk => lv_icmp_le C.1 C.2.1 hd ht (fun _ => kk ls hl) (fun z => absurd hc z))
theorem x_icmp_le_f {x y : Int32} {off : Int} (tgt : Nat) (hd : decode (xMc M) pc = .ok (.if_icmp .le off, 3)) (ht : (pc : Int) + off = (tgt : Int)) (hc : ¬ (x ≤ y)) (k : xV l G fr wd M (pc + 3) L st h Q) : xV l G fr wd M pc L (.int y :: .int x :: st) h Q :=
  xgo k (fun p e R s m args below meth c H locs cells slots ls Qw C hR hl kk => lv_icmp_le C.1 C.2.1 hd ht (fun z => absurd z hc) (fun _ => kk ls hl))
theorem x_icmp_le {x y : Int32} {off : Int} {tgt : Nat} (hd : decode (xMc M) pc = .ok (.if_icmp .le off, 3)) (ht : (pc : Int) + off = (tgt : Int)) (kt : x ≤ y → xV l G fr wd M tgt L st h Q) (kf : ¬ (x ≤ y) → xV l G fr wd M (pc + 3) L st h Q) : xV l G fr wd M pc L (.int y :: .int x :: st) h Q := by
  by_cases hc : x ≤ y
  · exact x_icmp_le_t hd ht hc (kt hc)
  · exact x_icmp_le_f tgt hd ht hc (kf hc)
theorem x_acmp_eq_t {rx ry : Option Nat} {off : Int} {tgt : Nat} (hd : decode (xMc M) pc = .ok (.if_acmp .eq off, 3)) (ht : (pc : Int) + off = (tgt : Int)) (hc : rx = ry) (k : xV l G fr wd M tgt L st h Q) : xV l G fr wd M pc L (va_rf ry :: va_rf rx :: st) h Q :=
  xgo k (fun p e R s m args below meth c H locs cells slots ls Qw C hR hl kk => lv_acmp_eq C.1 C.2.1 hd ht (fun _ => kk ls hl) (fun z => absurd hc z))
theorem x_acmp_eq_f {rx ry : Option Nat} {off : Int} (tgt : Nat) (hd : decode (xMc M) pc = .ok (.if_acmp .eq off, 3)) (ht : (pc : Int) + off = (tgt : Int)) (hc : ¬ (rx = ry)) (k : xV l G fr wd M (pc + 3) L st h Q) : xV l G fr wd M pc L (va_rf ry :: va_rf rx :: st) h Q :=
  xgo k (fun p e R s m args below meth c H locs cells slots ls Qw C hR hl kk => lv_acmp_eq C.1 C.2.1 hd ht (fun z => absurd z hc) (fun _ => kk ls hl))
theorem x_acmp_eq {rx ry : Option Nat} {off : Int} {tgt : Nat} (hd : decode (xMc M) pc = .ok (.if_acmp .eq off, 3)) (ht : (pc : Int) + off = (tgt : Int)) (kt : rx = ry → xV l G fr wd M tgt L st h Q) (kf : ¬ (rx = ry) → xV l G fr wd M (pc + 3) L st h Q) : xV l G fr wd M pc L (va_rf ry :: va_rf rx :: st) h Q := by
  by_cases hc : rx = ry
  · exact x_acmp_eq_t hd ht hc (kt hc)
  · exact x_acmp_eq_f tgt hd ht hc (kf hc)
theorem x_acmp_ne_t {rx ry : Option Nat} {off : Int} {tgt : Nat} (hd : decode (xMc M) pc = .ok (.if_acmp .ne off, 3)) (ht : (pc : Int) + off = (tgt : Int)) (hc : ¬ rx = ry) (k : xV l G fr wd M tgt L st h Q) : xV l G fr wd M pc L (va_rf ry :: va_rf rx :: st) h Q :=
  xgo k (fun p e R s m args below meth c H locs cells slots ls Qw C hR hl kk => lv_acmp_ne C.1 C.2.1 hd ht (fun _ => kk ls hl) (fun z => absurd z hc))
theorem x_acmp_ne_f {rx ry : Option Nat} {off : Int} (tgt : Nat) (hd : decode (xMc M) pc = .ok (.if_acmp .ne off, 3)) (ht : (pc : Int) + off = (tgt : Int)) (hc : rx = ry) (k : xV l G fr wd M (pc + 3) L st h Q) : xV l G fr wd M pc L (va_rf ry :: va_rf rx :: st) h Q :=
  xgo k (fun p e R s m args below meth c H locs cells slots ls Qw C hR hl kk => lv_acmp_ne C.1 C.2.1 hd ht (fun z => absurd hc z) (fun _ => kk ls hl))
theorem x_acmp_ne {rx ry : Option Nat} {off : Int} {tgt : Nat} (hd : decode (xMc M) pc = .ok (.if_acmp .ne off, 3)) (ht : (pc : Int) + off = (tgt : Int)) (kt : ¬ rx = ry → xV l G fr wd M tgt L st h Q) (kf : rx = ry → xV l G fr wd M (pc + 3) L st h Q) : xV l G fr wd M pc L (va_rf ry :: va_rf rx :: st) h Q := by
  by_cases hc : rx = ry
  · exact x_acmp_ne_f tgt hd ht hc (kf hc)
  · exact x_acmp_ne_t hd ht hc (kt hc)
theorem x_goto {off : Int} {tgt : Nat} (hd : decode (xMc M) pc = .ok (.goto off, 3)) (ht : (pc : Int) + off = (tgt : Int)) (k : xV l G fr wd M tgt L st h Q) : xV l G fr wd M pc L st h Q :=
  xgo k (fun p e R s m args below meth c H locs cells slots ls Qw C hR hl kk => lv_goto C.1 C.2.1 hd ht (kk ls hl))
theorem x_ifnonnull {x : Nat} {off : Int} {tgt : Nat} (hd : decode (xMc M) pc = .ok (.ifnonnull off, 3)) (ht : (pc : Int) + off = (tgt : Int)) (k : xV l G fr wd M tgt L st h Q) : xV l G fr wd M pc L (.ref x :: st) h Q :=
  xgo k (fun p e R s m args below meth c H locs cells slots ls Qw C hR hl kk => lv_ifnonnull C.1 C.2.1 hd ht (kk ls hl))
theorem x_ifnonnullN {off : Int} (hd : decode (xMc M) pc = .ok (.ifnonnull off, 3)) (k : xV l G fr wd M (pc + 3) L st h Q) : xV l G fr wd M pc L (.null :: st) h Q :=
  xgo k (fun p e R s m args below meth c H locs cells slots ls Qw C hR hl kk => lv_ifnonnullN C.1 C.2.1 hd (kk ls hl))
theorem x_ifnull {x : Nat} {off : Int} (hd : decode (xMc M) pc = .ok (.ifnull off, 3)) (k : xV l G fr wd M (pc + 3) L st h Q) : xV l G fr wd M pc L (.ref x :: st) h Q :=
  xgo k (fun p e R s m args below meth c H locs cells slots ls Qw C hR hl kk => lv_ifnull C.1 C.2.1 hd (kk ls hl))
theorem x_ifnullN {off : Int} {tgt : Nat} (hd : decode (xMc M) pc = .ok (.ifnull off, 3)) (ht : (pc : Int) + off = (tgt : Int)) (k : xV l G fr wd M tgt L st h Q) : xV l G fr wd M pc L (.null :: st) h Q :=
  xgo k (fun p e R s m args below meth c H locs cells slots ls Qw C hR hl kk => lv_ifnullN C.1 C.2.1 hd ht (kk ls hl))
theorem x_ifnonnullq {o : Option Nat} {off : Int} {tgt : Nat} (hd : decode (xMc M) pc = .ok (.ifnonnull off, 3)) (ht : (pc : Int) + off = (tgt : Int)) (kt : ∀ x, o = some x → xV l G fr wd M tgt L st h Q) (kf : o = none → xV l G fr wd M (pc + 3) L st h Q) : xV l G fr wd M pc L (va_rf o :: st) h Q := by
  cases o with
  | none => exact x_ifnonnullN hd (kf rfl)
  | some x => exact x_ifnonnull hd ht (kt x rfl)
theorem x_ifnullq {o : Option Nat} {off : Int} {tgt : Nat} (hd : decode (xMc M) pc = .ok (.ifnull off, 3)) (ht : (pc : Int) + off = (tgt : Int)) (kf : ∀ x, o = some x → xV l G fr wd M (pc + 3) L st h Q) (kt : o = none → xV l G fr wd M tgt L st h Q) : xV l G fr wd M pc L (va_rf o :: st) h Q := by
  cases o with
  | none => exact x_ifnullN hd ht (kt rfl)
  | some x => exact x_ifnull hd (kf x rfl)
theorem x_swOut {dflt lo hi : Int} {offs : Array Int} {len : Nat} {x : Int32} {tgt : Nat} (hd : decode (xMc M) pc = .ok (.tableswitch dflt lo hi offs, len)) (hx : x.toInt < lo ∨ hi < x.toInt) (ht : (pc : Int) + dflt = (tgt : Int)) (k : xV l G fr wd M tgt L st h Q) : xV l G fr wd M pc L (.int x :: st) h Q :=
  xgo k (fun p e R s m args below meth c H locs cells slots ls Qw C hR hl kk => lv_tableOut C.1 C.2.1 hd hx ht (kk ls hl))
theorem x_swIn {dflt lo hi : Int} {offs : Array Int} {len : Nat} {x : Int32} {off : Int} {tgt : Nat} (hd : decode (xMc M) pc = .ok (.tableswitch dflt lo hi offs, len)) (h1 : ¬ x.toInt < lo) (h2 : ¬ hi < x.toInt) (ho : offs[(x.toInt - lo).toNat]? = some off) (ht : (pc : Int) + off = (tgt : Int)) (k : xV l G fr wd M tgt L st h Q) : xV l G fr wd M pc L (.int x :: st) h Q :=
  xgo k (fun p e R s m args below meth c H locs cells slots ls Qw C hR hl kk => lv_tableIn C.1 C.2.1 hd h1 h2 ho ht (kk ls hl))
end XROWS
end
section
theorem xobj {G : xG} {h : xH} {H : Heap} {a k : Nat} {C : vw_C} (hR : xRep G h H) (hT : xT h a = k + 1) (hc : xcls[k]? = some C) : ∃ cell : Cell, H[a]? = some cell ∧ cell.cls = (xGD G).1 k ∧ cell.vm = .none ∧ ∀ j, j < C.2.2 → cell.slots[(xGD G).2 k j]? = some (xsv (xft k j) h a j) := by
  have hk9 := (xclsok k C hc).1
  obtain ⟨-, -, h3⟩ := hR.2.2.2 a (by rw [hT]; exact Nat.succ_ne_zero k)
  rw [hT] at h3
  unfold xCell at h3
  rw [if_pos (by omega)] at h3
  simp only [Nat.add_sub_cancel] at h3
  obtain ⟨r, hr, h4⟩ := h3
  cases hc.symm.trans hr
  exact h4
theorem xarr {G : xG} {h : xH} {H : Heap} {a t : Nat} {ty : FieldType} (hR : xRep G h H) (hT : xT h a = t) (h1 : 100 ≤ t) (h2 : t < 200) (hty : xat t = some ty) : H[a]? = some (arrV (xGA G t) (xN h a) (fun j => xsv ty h a j)) := by
  obtain ⟨-, -, h3⟩ := hR.2.2.2 a (by rw [hT]; omega)
  rw [hT] at h3
  unfold xCell at h3
  rw [if_neg (by omega), if_pos h2] at h3
  obtain ⟨ty', e, h4⟩ := h3
  cases hty.symm.trans e
  exact h4
theorem xCell.eqv {G : xG} {h h2 : xH} {H H2 : Heap} {a t : Nat} (hC : xCell G h H a t) (hs : ∀ (ty : FieldType) (i : Nat), xsv ty h2 a i = xsv ty h a i) (hN : xN h2 a = xN h a) (hH : H2[a]? = H[a]?) : xCell G h2 H2 a t := by
  unfold xCell at hC ⊢
  split
  · rename_i z
    rw [if_pos z] at hC
    obtain ⟨r, hr, h4⟩ := hC
    exact ⟨r, hr, (h4.kept hH).to (fun j _ => (hs _ j).symm)⟩
  · rename_i z
    rw [if_neg z] at hC
    split
    · rename_i z2
      rw [if_pos z2] at hC
      obtain ⟨ty, e, h4⟩ := hC
      refine ⟨ty, e, ?_⟩
      rw [hH, h4, hN]
      congr 2
      funext j
      exact (hs ty j).symm
    · rename_i z2
      rw [if_neg z2] at hC
      obtain ⟨cell, h4, h5⟩ := hC
      exact ⟨cell, by rw [hH]; exact h4, h5⟩
theorem xRep.write {G : xG} {h h2 : xH} {H H2 : Heap} {a : Nat} (hR : xRep G h H) (e1 : h2.1 = h.1) (e2 : h2.2.1 = h.2.1) (hs : ∀ (ty : FieldType) (b i : Nat), b ≠ a → xsv ty h2 b i = xsv ty h b i) (hz : H2.size = H.size) (hq : ∀ q : Nat, q ≠ a → H2[q]? = H[q]?) (ha : xT h a ≠ 0) (hC : xCell G h2 H2 a (xT h a)) : xRep G h2 H2 := by
  obtain ⟨r1, r2, r3, r4⟩ := hR
  have ex : xnx h2 = xnx h := congrArg Prod.fst e1
  have eT : xT h2 = xT h := congrArg Prod.fst e2
  have eN : xN h2 = xN h := congrArg Prod.snd e2
  refine ⟨by rw [hz, ex]; exact r1, by rw [ex]; exact r2, fun q hlt => ?_, fun b hb => ?_⟩
  · rw [hq q (by have := (r4 a ha).1; omega)]
    exact r3 q hlt
  · rw [eT] at hb ⊢
    rw [ex]
    obtain ⟨g1, g2, g3⟩ := r4 b hb
    refine ⟨g1, g2, ?_⟩
    by_cases hba : b = a
    · subst hba
      exact hC
    · exact g3.eqv (fun ty i => hs ty b i hba) (by rw [eN]) (hq b hba)
theorem xRep.new {G : xG} {h : xH} {H H2 : Heap} {t n sl : Nat} (hR : xRep G h H) (hz : H2.size = xnx h + 1) (hq : ∀ q : Nat, q < xnx h → H2[q]? = H[q]?) (hC : xCell G (xnw h t n sl) H2 (xnx h) t) : xRep G (xnw h t n sl) H2 := by
  obtain ⟨r1, r2, r3, r4⟩ := hR
  refine ⟨hz, Nat.le_succ_of_le r2, fun q hlt => ?_, fun b hb => ?_⟩
  · rw [hq q (Nat.lt_of_lt_of_le hlt r2)]
    exact r3 q hlt
  · by_cases hba : b = xnx h
    · subst hba
      refine ⟨r2, Nat.lt_succ_self _, ?_⟩
      rw [show xT (xnw h t n sl) (xnx h) = t from xr_s _ _ _]
      exact hC
    · have eT : xT (xnw h t n sl) b = xT h b := xr_n _ _ hba
      rw [eT] at hb ⊢
      obtain ⟨g1, g2, g3⟩ := r4 b hb
      refine ⟨g1, Nat.lt_succ_of_lt g2, g3.eqv (fun ty i => ?_) (xr_n _ _ hba) (hq b g2)⟩
      unfold xsv
      cases ty <;> first | exact congrArg Value.int (congrFun (xr_n _ _ hba) i) | exact congrArg va_rf (congrFun (xr_n _ _ hba) i) | exact congrArg Value.long (congrFun (xr_n _ _ hba) i)
theorem xsv_wI_a {h : xH} {a b j i : Nat} {x : Int32} (ty : FieldType) (hb : b ≠ a) : xsv ty (xwI h a j x) b i = xsv ty h b i := by
  unfold xsv
  cases ty <;> first | rfl | exact congrArg Value.int (xu_a _ _ _ _ hb)
theorem xsv_wI_j {h : xH} {a b j i : Nat} {x : Int32} (ty : FieldType) (hb : i ≠ j) : xsv ty (xwI h a j x) b i = xsv ty h b i := by
  unfold xsv
  cases ty <;> first | rfl | exact congrArg Value.int (xu_j _ _ _ _ hb)
theorem xsv_wP_a {h : xH} {a b j i : Nat} {x : Option Nat} (ty : FieldType) (hb : b ≠ a) : xsv ty (xwP h a j x) b i = xsv ty h b i := by
  unfold xsv
  cases ty <;> first | rfl | exact congrArg va_rf (xu_a _ _ _ _ hb)
theorem xsv_wP_j {h : xH} {a b j i : Nat} {x : Option Nat} (ty : FieldType) (hb : i ≠ j) : xsv ty (xwP h a j x) b i = xsv ty h b i := by
  unfold xsv
  cases ty <;> first | rfl | exact congrArg va_rf (xu_j _ _ _ _ hb)
theorem xsv_wJ_a {h : xH} {a b j i : Nat} {x : Int64} (ty : FieldType) (hb : b ≠ a) : xsv ty (xwJ h a j x) b i = xsv ty h b i := by
  unfold xsv
  cases ty <;> first | rfl | exact congrArg Value.long (xu_a _ _ _ _ hb)
theorem xsv_wJ_j {h : xH} {a b j i : Nat} {x : Int64} (ty : FieldType) (hb : i ≠ j) : xsv ty (xwJ h a j x) b i = xsv ty h b i := by
  unfold xsv
  cases ty <;> first | rfl | exact congrArg Value.long (xu_j _ _ _ _ hb)
/-- a step that changes the heap, but makes nothing -/
theorem xgoW {l : Launch} {G : xG} {fr wd : Nat} {M : xM} {pc pc2 : Nat} {L : List (Nat × Value)} {st st2 : List Value} {h h2 : xH} {Q : xR → xH → Prop} (k : xV l G fr wd M pc2 L st2 h2 Q) (e1 : h2.1 = h.1)
    (f : ∀ (p : Program) (e : Env) (R : Room) (s : State) (m : MethodId) (args : Array Value) (below : List Frame) (meth : Method) (c : Code) (H : Heap) (locs : List Loc) (cells slots : Nat) (ls : Array Slot) (Qw : State → Prop),
      xCx G M p s m meth c → xRep G h H → lv_has ls (xMl M) L → (∀ (H2 : Heap) (b i : Nat), xRep G h2 H2 → xGz G ≤ b → W p l e R s m args below meth c H2 (locs ++ [⟨b, i⟩]) cells slots Qw (F0 m pc2 ls st2)) → W p l e R s m args below meth c H locs cells slots Qw (F0 m pc ls st)) :
    xV l G fr wd M pc L st h Q := by
  obtain ⟨r, h', q, x1, x2, x⟩ := k
  have ex : xnx h2 = xnx h := congrArg Prod.fst e1
  have es : xsl h2 = xsl h := congrArg Prod.snd e1
  rw [ex] at x1
  rw [es] at x2
  rw [ex, es] at x
  refine ⟨r, h', q, x1, x2, fun p e R s m args below meth c H locs cells slots ls C hR hl hf h1 h2 h3 h4 => f p e R s m args below meth c H locs cells slots ls _ C hR hl (fun H2 b i hR2 hb => x p e R s m args below meth c H2 _ cells slots ls C hR2 hl (fun q0 hq0 => ?_) h1 h2 h3 h4)⟩
  rcases List.mem_append.mp hq0 with z | z
  · exact hf q0 z
  · simp only [List.mem_cons, List.not_mem_nil, or_false] at z
    subst z
    exact hb
section XHEAP
variable {l : Launch} {G : xG} {fr wd : Nat} {M : xM} {pc : Nat} {L : List (Nat × Value)} {st : List Value} {h : xH} {Q : xR → xH → Prop}
theorem x_get {ix k j a : Nat} {C : vw_C} {v : Value} (hd : decode (xMc M) pc = .ok (.getfield ix, 3)) (hT : xT h a = k + 1) (hc : xcls[k]? = some C) (hj : j < C.2.2) (hw : Cond.fieldLink (xMn M).cls ix (C.2.1 j).1 (C.2.1 j).2.1 (C.2.1 j).2.2.1 ∈ xTT) (hv : xsv (xft k j) h a j = v)
    (kq : xV l G fr wd M (pc + 3) L (v :: st) h Q) : xV l G fr wd M pc L (.ref a :: st) h Q := by
  obtain ⟨hk9, hin, hty, hnm⟩ := xclsok k C hc
  refine xgo kq (fun p e R s m args below meth c H locs cells slots ls Qw Cx hR hl kk => ?_)
  obtain ⟨cell, q1, q2, q3, q4⟩ := xobj hR hT hc
  obtain ⟨hx, hb, hml, hr, hlk, hown, hmn, hKn, -⟩ := Cx
  have hts := hKn.2.2.2.1 args
  obtain ⟨hS, hfc, kC, hkC, hkind⟩ := hKn.1 k C hc
  obtain ⟨cf, kf, fi, f, hi, hsl⟩ := hS j hj
  refine W.getf hx hb hown (hts _ hw) hi (u_facts hfc hkC (u_lays hts hin hj) hi).1 q1 (by rw [q3]; exact fun z => by cases z) (v := v) ?_ rfl rfl hd (kk ls hl)
  rw [hsl, q4 j hj, hv]
theorem x_put {ix k j a : Nat} {C : vw_C} {v : Value} {h2 : xH} (hd : decode (xMc M) pc = .ok (.putfield ix, 3)) (hT : xT h a = k + 1) (hc : xcls[k]? = some C) (hj : j < C.2.2) (hw : Cond.fieldLink (xMn M).cls ix (C.2.1 j).1 (C.2.1 j).2.1 (C.2.1 j).2.2.1 ∈ xTT)
    (hfin : (C.2.1 j).2.2.2 = false ∨ ((C.2.1 j).2.2.2 = true ∧ (xMn M).name = "<init>" ∧ (C.2.1 j).1 = (xMn M).cls)) (hn : narrow (xft k j) v = v) (hfit : fits (xft k j) v = true)
    (e1 : h2.1 = h.1) (e2 : h2.2.1 = h.2.1) (hsa : ∀ (ty : FieldType) (b i : Nat), b ≠ a → xsv ty h2 b i = xsv ty h b i) (hsj : ∀ (ty : FieldType) (b i : Nat), i ≠ j → xsv ty h2 b i = xsv ty h b i) (hv : xsv (xft k j) h2 a j = v)
    (kq : xV l G fr wd M (pc + 3) L st h2 Q) : xV l G fr wd M pc L (v :: .ref a :: st) h Q := by
  obtain ⟨hk9, hin, hty, hnm⟩ := xclsok k C hc
  refine xgoW kq e1 (fun p e R s m args below meth c H locs cells slots ls Qw Cx hR hl kk => ?_)
  obtain ⟨cell, q1, q2, q3, q4⟩ := xobj hR hT hc
  obtain ⟨hx, hb, hml, hr, hlk, hown, hmn, hKn, -⟩ := Cx
  have hts := hKn.2.2.2.1 args
  have hz : xGz G ≤ a := (hR.2.2.2 a (by rw [hT]; exact Nat.succ_ne_zero k)).1
  obtain ⟨hS, hfc, kC, hkC, hkind⟩ := hKn.1 k C hc
  have hap : ∀ x y, x < C.2.2 → y < C.2.2 → x ≠ y → (xGD G).2 k x ≠ (xGD G).2 k y := by
    intro x y hx hy hne
    obtain ⟨_, _, _, fa, hia, ea⟩ := hS x hx
    obtain ⟨_, _, _, fb, hib, eb⟩ := hS y hy
    rw [← ea, ← eb]
    refine u_apart (u_lays hts hin hx) (u_lays hts hin hy) hia hib ?_
    rw [(State.fieldFound?_type hia (hty x hx)).1, (State.fieldFound?_type hib (hty y hy)).1]
    exact hnm x hx y hy hne
  obtain ⟨cf, kf, fi, f, hi, hsl⟩ := hS j hj
  have hst := (u_facts hfc hkC (u_lays hts hin hj) hi).1
  have fin : ∀ H2 : Heap, H2[a]? = some (cell.setSlot ((xGD G).2 k j) v) → H2.size = H.size → (∀ q, q ≠ a → H2[q]? = H[q]?) → xRep G h2 H2 := by
    intro H2 g1 g2 g3
    refine hR.write e1 e2 hsa g2 g3 (by rw [hT]; exact Nat.succ_ne_zero k) ?_
    rw [hT]
    unfold xCell
    rw [if_pos (by omega)]
    simp only [Nat.add_sub_cancel]
    refine ⟨C, hc, t_OB.to (V := updV (fun i => xsv (xft k i) h a i) j v) ⟨_, g1, q2, q3, t_set q4 hap hj v⟩ (fun i _ => ?_)⟩
    unfold updV
    split
    · rename_i z
      subst z
      exact hv.symm
    · rename_i z
      exact (hsj _ a i z).symm
  have hlay := hts _ (hin _ (u_in_lay hj))
  unfold u_lay at hlay
  rcases hfin with hfin | ⟨hfin, hni, hdecl⟩
  · rw [if_neg (by rw [hfin]; decide)] at hlay
    have h6 := u_store hfc hkC hkind hlay hi (hty j hj) hn hfit
    refine W.putK hx hb (f := f) ⟨hown, hts _ hw, ⟨_, _, _, hi⟩, hst⟩ (by rw [q2]; exact h6) q1 q3 (by rw [hsl]; exact k2_hasslot (q4 j hj)) rfl rfl hd fun H2 g1 g2 g3 => ?_
    rw [hsl] at g1
    exact kk H2 a f.slot (fin H2 g1 g2 g3) hz
  · rw [if_pos hfin] at hlay
    have hcf : m.cls = cf := by
      obtain ⟨_, _, c', _, _, _, -, -, hf', -, -, -, hown2, -⟩ := Cond.laysFinal_spec hlay
      have e1 : c' = cf := by have := hi.symm.trans hf'; simp at this; exact this.1.symm
      rw [hdecl] at hown2
      rw [← e1]; exact Option.some.inj (hown.symm.trans hown2)
    have h6 := u_fits hfc hkC hkind (Or.inr hlay) hi (hty j hj) hn hfit
    refine W.putFinK hx hb hown (hts _ hw) hi hst hcf (hmn.trans hni) (by rw [q2]; exact h6) q1 q3 (by rw [hsl]; exact k2_hasslot (q4 j hj)) rfl rfl hd fun H2 g1 g2 g3 => ?_
    rw [hsl] at g1
    exact kk H2 a f.slot (fin H2 g1 g2 g3) hz
theorem x_putI {ix k j a : Nat} {C : vw_C} {x : Int32} (hd : decode (xMc M) pc = .ok (.putfield ix, 3)) (hT : xT h a = k + 1) (hc : xcls[k]? = some C) (hj : j < C.2.2) (hw : Cond.fieldLink (xMn M).cls ix (C.2.1 j).1 (C.2.1 j).2.1 (C.2.1 j).2.2.1 ∈ xTT)
    (hfin : (C.2.1 j).2.2.2 = false ∨ ((C.2.1 j).2.2.2 = true ∧ (xMn M).name = "<init>" ∧ (C.2.1 j).1 = (xMn M).cls)) (hn : narrow (xft k j) (.int x) = .int x) (hfit : fits (xft k j) (.int x) = true) (hv : xsv (xft k j) (xwI h a j x) a j = .int (xI (xwI h a j x) a j))
    (kq : xV l G fr wd M (pc + 3) L st (xwI h a j x) Q) : xV l G fr wd M pc L (.int x :: .ref a :: st) h Q :=
  x_put (h2 := xwI h a j x) hd hT hc hj hw hfin hn hfit rfl rfl (fun ty b i hb => xsv_wI_a ty hb) (fun ty b i hb => xsv_wI_j ty hb) (hv.trans (congrArg Value.int (xu_s _ _ _ _))) kq
theorem x_putP {ix k j a : Nat} {C : vw_C} {x : Option Nat} (hd : decode (xMc M) pc = .ok (.putfield ix, 3)) (hT : xT h a = k + 1) (hc : xcls[k]? = some C) (hj : j < C.2.2) (hw : Cond.fieldLink (xMn M).cls ix (C.2.1 j).1 (C.2.1 j).2.1 (C.2.1 j).2.2.1 ∈ xTT)
    (hfin : (C.2.1 j).2.2.2 = false ∨ ((C.2.1 j).2.2.2 = true ∧ (xMn M).name = "<init>" ∧ (C.2.1 j).1 = (xMn M).cls)) (hn : narrow (xft k j) (va_rf x) = va_rf x) (hfit : fits (xft k j) (va_rf x) = true) (hv : xsv (xft k j) (xwP h a j x) a j = va_rf (xP (xwP h a j x) a j))
    (kq : xV l G fr wd M (pc + 3) L st (xwP h a j x) Q) : xV l G fr wd M pc L (va_rf x :: .ref a :: st) h Q :=
  x_put (h2 := xwP h a j x) hd hT hc hj hw hfin hn hfit rfl rfl (fun ty b i hb => xsv_wP_a ty hb) (fun ty b i hb => xsv_wP_j ty hb) (hv.trans (congrArg va_rf (xu_s _ _ _ _))) kq
theorem x_alen {t a : Nat} {ty : FieldType} {n : Int32} (hd : decode (xMc M) pc = .ok (.arraylength, 1)) (hT : xT h a = t) (ht : 100 ≤ t ∧ t < 200) (hty : xat t = some ty) (hn : (xN h a).toInt32 = n)
    (kq : xV l G fr wd M (pc + 1) L (.int n :: st) h Q) : xV l G fr wd M pc L (.ref a :: st) h Q := by
  refine xgo kq (fun p e R s m args below meth c H locs cells slots ls Qw Cx hR hl kk => ?_)
  have q1 := xarr hR hT ht.1 ht.2 hty
  obtain ⟨hx, hb, hml, hr, hlk, hown, hmn, hKn, -⟩ := Cx
  exact W.alen hx hb q1 ((hKn.2.1 t ty hty).1 _ _) (by rw [arrV_size]; exact hn) rfl rfl hd (kk ls hl)
theorem x_iald {t a : Nat} {i : Int32} (hd : decode (xMc M) pc = .ok (.iaload, 1)) (hT : xT h a = t) (ht : 100 ≤ t ∧ t < 200) (hty : xat t = some .int) (hi : vp_in i (xN h a))
    (kq : xV l G fr wd M (pc + 1) L (.int (xI h a i.toNatClampNeg) :: st) h Q) : xV l G fr wd M pc L (.int i :: .ref a :: st) h Q := by
  refine xgo kq (fun p e R s m args below meth c H locs cells slots ls Qw Cx hR hl kk => ?_)
  have q1 := xarr hR hT ht.1 ht.2 hty
  obtain ⟨hx, hb, hml, hr, hlk, hown, hmn, hKn, -⟩ := Cx
  have hlt : i.toNatClampNeg < xN h a := Nat.not_le.mp fun q => hi (Or.inr q)
  exact W.iald hx hb q1 ((hKn.2.1 t _ hty).1 _ _) (fun q => by cases q) (by rw [arrV_size]; exact hi) (v := .int (xI h a i.toNatClampNeg)) (by rw [arrV_read _ _ hlt]; rfl) rfl rfl hd (kk ls hl)
theorem x_zald {t a : Nat} {i : Int32} (hd : decode (xMc M) pc = .ok (.baload, 1)) (hT : xT h a = t) (ht : 100 ≤ t ∧ t < 200) (hty : xat t = some .boolean) (hi : vp_in i (xN h a))
    (kq : xV l G fr wd M (pc + 1) L (.int (xI h a i.toNatClampNeg) :: st) h Q) : xV l G fr wd M pc L (.int i :: .ref a :: st) h Q := by
  refine xgo kq (fun p e R s m args below meth c H locs cells slots ls Qw Cx hR hl kk => ?_)
  have q1 := xarr hR hT ht.1 ht.2 hty
  obtain ⟨hx, hb, hml, hr, hlk, hown, hmn, hKn, -⟩ := Cx
  have hlt : i.toNatClampNeg < xN h a := Nat.not_le.mp fun q => hi (Or.inr q)
  exact W.zald hx hb q1 ((hKn.2.1 t _ hty).1 _ _) (fun q => by cases q) (by rw [arrV_size]; exact hi) (v := .int (xI h a i.toNatClampNeg)) (by rw [arrV_read _ _ hlt]; rfl) rfl rfl hd (kk ls hl)
theorem x_lald {t a : Nat} {i : Int32} (hd : decode (xMc M) pc = .ok (.laload, 1)) (hT : xT h a = t) (ht : 100 ≤ t ∧ t < 200) (hty : xat t = some .long) (hi : vp_in i (xN h a))
    (kq : xV l G fr wd M (pc + 1) L (.long (xJ h a i.toNatClampNeg) :: st) h Q) : xV l G fr wd M pc L (.int i :: .ref a :: st) h Q := by
  refine xgo kq (fun p e R s m args below meth c H locs cells slots ls Qw Cx hR hl kk => ?_)
  have q1 := xarr hR hT ht.1 ht.2 hty
  obtain ⟨hx, hb, hml, hr, hlk, hown, hmn, hKn, -⟩ := Cx
  have hlt : i.toNatClampNeg < xN h a := Nat.not_le.mp fun q => hi (Or.inr q)
  exact W.lald hx hb q1 ((hKn.2.1 t _ hty).1 _ _) (fun q => by cases q) (by rw [arrV_size]; exact hi) (v := .long (xJ h a i.toNatClampNeg)) (by rw [arrV_read _ _ hlt]; rfl) rfl rfl hd (kk ls hl)
theorem x_aald {t a : Nat} {ty : FieldType} {i : Int32} {v : Value} (hd : decode (xMc M) pc = .ok (.aaload, 1)) (hT : xT h a = t) (ht : 100 ≤ t ∧ t < 200) (hty : xat t = some ty) (href : ty.isReference = true) (hi : vp_in i (xN h a)) (hv : xsv ty h a i.toNatClampNeg = v)
    (kq : xV l G fr wd M (pc + 1) L (v :: st) h Q) : xV l G fr wd M pc L (.int i :: .ref a :: st) h Q := by
  refine xgo kq (fun p e R s m args below meth c H locs cells slots ls Qw Cx hR hl kk => ?_)
  have q1 := xarr hR hT ht.1 ht.2 hty
  obtain ⟨hx, hb, hml, hr, hlk, hown, hmn, hKn, -⟩ := Cx
  have hlt : i.toNatClampNeg < xN h a := Nat.not_le.mp fun q => hi (Or.inr q)
  exact W.aald hx hb q1 ((hKn.2.1 t _ hty).1 _ _) href (fun q => by cases q) (by rw [arrV_size]; exact hi) (v := v) (by rw [arrV_read _ _ hlt, hv]) rfl rfl hd (kk ls hl)
theorem xarrW {G : xG} {h h2 : xH} {H H2 : Heap} {a t i : Nat} {ty : FieldType} {v : Value} (hR : xRep G h H) (hT : xT h a = t) (h1 : 100 ≤ t) (h2' : t < 200) (hty : xat t = some ty) (e1 : h2.1 = h.1) (e2 : h2.2.1 = h.2.1)
    (hsa : ∀ (ty : FieldType) (b i : Nat), b ≠ a → xsv ty h2 b i = xsv ty h b i) (hsj : ∀ (ty : FieldType) (b j : Nat), j ≠ i → xsv ty h2 b j = xsv ty h b j) (hv : xsv ty h2 a i = v)
    (g1 : H2[a]? = some ((arrV (xGA G t) (xN h a) (fun j => xsv ty h a j)).setSlot i v)) (g2 : H2.size = H.size) (g3 : ∀ q, q ≠ a → H2[q]? = H[q]?) : xRep G h2 H2 := by
  refine hR.write e1 e2 hsa g2 g3 (by rw [hT]; omega) ?_
  rw [hT]
  unfold xCell
  rw [if_neg (by omega), if_pos h2']
  refine ⟨ty, hty, ?_⟩
  rw [g1, arrV_store, show xN h2 = xN h from congrArg Prod.snd e2]
  congr 2
  funext j
  unfold updV
  split
  · rename_i z
    subst z
    exact hv.symm
  · rename_i z
    exact (hsj ty a j z).symm
theorem x_iast {t a : Nat} {i x : Int32} (hd : decode (xMc M) pc = .ok (.iastore, 1)) (hT : xT h a = t) (ht : 100 ≤ t ∧ t < 200) (hty : xat t = some .int) (hi : vp_in i (xN h a))
    (kq : xV l G fr wd M (pc + 1) L st (xwI h a i.toNatClampNeg x) Q) : xV l G fr wd M pc L (.int x :: .int i :: .ref a :: st) h Q := by
  refine xgoW kq rfl (fun p e R s m args below meth c H locs cells slots ls Qw Cx hR hl kk => ?_)
  have q1 := xarr hR hT ht.1 ht.2 hty
  have hz : xGz G ≤ a := (hR.2.2.2 a (by rw [hT]; omega)).1
  obtain ⟨hx, hb, hml, hr, hlk, hown, hmn, hKn, -⟩ := Cx
  refine W.iast hx hb q1 ((hKn.2.1 t _ hty).1 _ _) (fun q => by cases q) (by rw [arrV_size]; exact hi) rfl rfl hd fun H2 g1 g2 g3 => kk H2 a _ ?_ hz
  exact xarrW (v := .int x) hR hT ht.1 ht.2 hty rfl rfl (fun ty b i hb => xsv_wI_a ty hb) (fun ty b i hb => xsv_wI_j ty hb) (congrArg Value.int (xu_s _ _ _ _)) g1 g2 g3
theorem x_last {t a : Nat} {i : Int32} {x : Int64} (hd : decode (xMc M) pc = .ok (.lastore, 1)) (hT : xT h a = t) (ht : 100 ≤ t ∧ t < 200) (hty : xat t = some .long) (hi : vp_in i (xN h a))
    (kq : xV l G fr wd M (pc + 1) L st (xwJ h a i.toNatClampNeg x) Q) : xV l G fr wd M pc L (.long x :: .int i :: .ref a :: st) h Q := by
  refine xgoW kq rfl (fun p e R s m args below meth c H locs cells slots ls Qw Cx hR hl kk => ?_)
  have q1 := xarr hR hT ht.1 ht.2 hty
  have hz : xGz G ≤ a := (hR.2.2.2 a (by rw [hT]; omega)).1
  obtain ⟨hx, hb, hml, hr, hlk, hown, hmn, hKn, -⟩ := Cx
  refine W.last hx hb q1 ((hKn.2.1 t _ hty).1 _ _) (fun q => by cases q) (by rw [arrV_size]; exact hi) rfl rfl hd fun H2 g1 g2 g3 => kk H2 a _ ?_ hz
  exact xarrW (v := .long x) hR hT ht.1 ht.2 hty rfl rfl (fun ty b i hb => xsv_wJ_a ty hb) (fun ty b i hb => xsv_wJ_j ty hb) (congrArg Value.long (xu_s _ _ _ _)) g1 g2 g3
/-- the script's own length, and its ints -/
theorem x_slen (hd : decode (xMc M) pc = .ok (.arraylength, 1)) (kq : xV l G fr wd M (pc + 1) L (.int (xGL G).toInt32 :: st) h Q) : xV l G fr wd M pc L (.ref (xGb G) :: st) h Q := by
  refine xgo kq (fun p e R s m args below meth c H locs cells slots ls Qw Cx hR hl kk => ?_)
  obtain ⟨hx, hb, hml, hr, hlk, hown, hmn, hKn, -⟩ := Cx
  obtain ⟨scr, s1, s2, s3, s4, s5⟩ := hKn.2.2.2.2.2.2
  have s1' : H[xGb G]? = some scr := by rw [hR.2.2.1 _ (Array.getElem?_eq_some_iff.mp s1).1]; exact s1
  exact W.alen hx hb s1' s2 (by rw [s4]) rfl rfl hd (kk ls hl)
theorem x_sld {i : Int32} (hd : decode (xMc M) pc = .ok (.iaload, 1)) (hi : vp_in i (xGL G)) (kq : xV l G fr wd M (pc + 1) L (.int (xGx G i.toNatClampNeg) :: st) h Q) : xV l G fr wd M pc L (.int i :: .ref (xGb G) :: st) h Q := by
  refine xgo kq (fun p e R s m args below meth c H locs cells slots ls Qw Cx hR hl kk => ?_)
  obtain ⟨hx, hb, hml, hr, hlk, hown, hmn, hKn, -⟩ := Cx
  obtain ⟨scr, s1, s2, s3, s4, s5⟩ := hKn.2.2.2.2.2.2
  have s1' : H[xGb G]? = some scr := by rw [hR.2.2.1 _ (Array.getElem?_eq_some_iff.mp s1).1]; exact s1
  have hlt : i.toNatClampNeg < xGL G := Nat.not_le.mp fun q => hi (Or.inr q)
  exact W.iald hx hb s1' s2 s3 (by rw [s4]; exact hi) (s5 _ hlt) rfl rfl hd (kk ls hl)
end XHEAP
end
section
/-- a step that makes one cell -/
theorem xgoN {l : Launch} {G : xG} {fr wd : Nat} {M : xM} {pc pc2 : Nat} {L : List (Nat × Value)} {st st2 : List Value} {h : xH} {t n sl : Nat} {Q : xR → xH → Prop} (k : xV l G fr wd M pc2 L st2 (xnw h t n sl) Q)
    (f : ∀ (p : Program) (e : Env) (R : Room) (s : State) (m : MethodId) (args : Array Value) (below : List Frame) (meth : Method) (c : Code) (H : Heap) (locs : List Loc) (cells slots : Nat) (ls : Array Slot) (Qw : State → Prop),
      xCx G M p s m meth c → xRep G h H → lv_has ls (xMl M) L → cells + 1 ≤ R.cells → slots + sl ≤ R.slots → (∀ H2 : Heap, xRep G (xnw h t n sl) H2 → W p l e R s m args below meth c H2 locs (cells + 1) (slots + sl) Qw (F0 m pc2 ls st2)) → W p l e R s m args below meth c H locs cells slots Qw (F0 m pc ls st)) :
    xV l G fr wd M pc L st h Q := by
  obtain ⟨r, h', q, x1, x2, x⟩ := k
  have x1' : xnx h + 1 ≤ xnx h' := x1
  have x2' : xsl h + sl ≤ xsl h' := x2
  refine ⟨r, h', q, Nat.le_trans (Nat.le_succ _) x1', Nat.le_trans (Nat.le_add_right _ _) x2', fun p e R s m args below meth c H locs cells slots ls C hR hl hf h1 h2 h3 h4 => ?_⟩
  have e1 : (xnx h' - xnx (xnw h t n sl)) + (cells + 1) = (xnx h' - xnx h) + cells := by
    show (xnx h' - (xnx h + 1)) + (cells + 1) = _
    omega
  have e2 : (xsl h' - xsl (xnw h t n sl)) + (slots + sl) = (xsl h' - xsl h) + slots := by
    show (xsl h' - (xsl h + sl)) + (slots + sl) = _
    omega
  refine f p e R s m args below meth c H locs cells slots ls _ C hR hl (by omega) (by omega) (fun H2 hR2 => ?_)
  have z := x p e R s m args below meth c H2 locs (cells + 1) (slots + sl) ls C hR2 hl hf (by rw [e1]; exact h1) (by rw [e2]; exact h2) h3 h4
  rw [e1, e2] at z
  exact z
section XMAKE
variable {l : Launch} {G : xG} {fr wd : Nat} {M : xM} {pc : Nat} {L : List (Nat × Value)} {st : List Value} {h : xH} {Q : xR → xH → Prop}
theorem x_new {ix k : Nat} {C : vw_C} (hd : decode (xMc M) pc = .ok (.new ix, 3)) (hc : xcls[k]? = some C) (h1 : Cond.classLink (xMn M).cls ix C.1 ∈ xTT) (h2 : Cond.instantiable C.1 C.2.2 ∈ xTT) (h3 : Cond.initialized C.1 ∈ xTT) (hdf : ∀ j, j < C.2.2 → defaultValue (xft k j) = xsv (xft k j) (xnw h (k + 1) 0 C.2.2) (xnx h) j)
    (kq : xV l G fr wd M (pc + 3) L (.ref (xnx h) :: st) (xnw h (k + 1) 0 C.2.2) Q) : xV l G fr wd M pc L st h Q := by
  obtain ⟨hk9, hin, hty, hnm⟩ := xclsok k C hc
  refine xgoN kq (fun p e R s m args below meth c H locs cells slots ls Qw Cx hR hl b1 b2 kk => ?_)
  obtain ⟨hx, hb, hml, hr, hlk, hown, hmn, hKn, -⟩ := Cx
  have hts := hKn.2.2.2.1 args
  have hKc := hKn.1 k C hc
  refine W.newcK hx hb hown (hts _ h1) (hts _ h2) (hts _ h3) rfl hd b1 b2 hKc.2.1 hR.1 fun H2 kC hkC g1 g2 g3 => kk H2 ?_
  refine hR.new g2 g3 ?_
  unfold xCell
  rw [if_pos (by omega)]
  simp only [Nat.add_sub_cancel]
  exact ⟨C, hc, (u_born (fun j => xft k j) hts hin hKc hkC g1 hty).to hdf⟩
theorem x_newa {t : Nat} {ty : FieldType} {at0 : ArrayType} {n : Int32} {N : Nat} (hd : decode (xMc M) pc = .ok (.newarray at0, 2)) (ht : 100 ≤ t ∧ t < 200) (hty : xat t = some ty) (hat : newarray.typeOf at0 = ty) (hra : ∀ (U : State) (c : ClassId), va_RA U c ty = (U.vm.findClass ("[" ++ ty.toString) = some c)) (hw : Cond.arrayClass ty ∈ xTT) (hn : ¬ n < 0) (hN : n.toNatClampNeg = N) (hby : N * componentBytes ty ≤ 536870912) (hdf : ∀ j, defaultValue ty = xsv ty (xnw h t N N) (xnx h) j)
    (kq : xV l G fr wd M (pc + 2) L (.ref (xnx h) :: st) (xnw h t N N) Q) : xV l G fr wd M pc L (.int n :: st) h Q := by
  subst hat
  refine xgoN kq (fun p e R s m args below meth c H locs cells slots ls Qw Cx hR hl b1 b2 kk => ?_)
  obtain ⟨hx, hb, hml, hr, hlk, hown, hmn, hKn, -⟩ := Cx
  have hts := hKn.2.2.2.1 args
  refine va_newaK hx hb (hts _ hw) rfl hd rfl hn hN hby b1 b2 hR.1 fun H2 cA g1 g2 g3 g4 g5 => kk H2 ?_
  have hRA := (hKn.2.1 t _ hty).2
  rw [hra] at hRA
  cases g5.symm.trans hRA
  refine hR.new g2 g3 ?_
  unfold xCell
  rw [if_neg (by omega), if_pos ht.2]
  refine ⟨_, hty, ?_⟩
  rw [g1, show xN (xnw h t N N) (xnx h) = N from xr_s _ _ _]
  congr 2
  funext j
  exact hdf j
theorem x_anew {t ix : Nat} {C : String} {n : Int32} {N : Nat} (hd : decode (xMc M) pc = .ok (.anewarray ix, 3)) (ht : 100 ≤ t ∧ t < 200) (hty : xat t = some (.object C)) (h1 : Cond.classLink (xMn M).cls ix C ∈ xTT) (h2 : Cond.arrayOver (.object C) ∈ xTT) (hn : ¬ n < 0) (hN : n.toNatClampNeg = N) (hby : N * 4 ≤ 536870912)
    (kq : xV l G fr wd M (pc + 3) L (.ref (xnx h) :: st) (xnw h t N N) Q) : xV l G fr wd M pc L (.int n :: st) h Q := by
  subst hN
  refine xgoN kq (fun p e R s m args below meth c H locs cells slots ls Qw Cx hR hl b1 b2 kk => ?_)
  obtain ⟨hx, hb, hml, hr, hlk, hown, hmn, hKn, -⟩ := Cx
  have hts := hKn.2.2.2.1 args
  obtain ⟨kA0, comp0, k1, k2, k3, k4⟩ := (hKn.2.1 t _ hty).2
  refine W.anew hx hb hown (hts _ h1) (hts _ h2) rfl hd rfl hn hby b1 b2 fun cA kA comp f1 f2 f3 f4 => ?_
  cases f1.symm.trans k4
  generalize hH1 : H.push ({ cls := xGA G t, slots := Array.replicate n.toNatClampNeg .null, vm := .none } : Cell) = H1
  have z1 : H1.size = xnx h + 1 := by rw [← hH1, Array.size_push, hR.1]
  have g1 : H1[xnx h]? = some (arrV (xGA G t) n.toNatClampNeg (fun _ => .null)) := by rw [← hH1, ← hR.1, Array.getElem?_push_size, ← arrV_new]
  have o1 : ∀ q : Nat, q < xnx h → H1[q]? = H[q]? := fun q hq => by rw [← hH1, Array.getElem?_push, if_neg (by rw [hR.1]; exact Nat.ne_of_lt hq)]
  rw [hR.1]
  refine kk H1 (hR.new z1 o1 ?_)
  unfold xCell
  rw [if_neg (by omega), if_pos ht.2]
  refine ⟨_, hty, ?_⟩
  rw [g1, show xN (xnw h t n.toNatClampNeg n.toNatClampNeg) (xnx h) = n.toNatClampNeg from xr_s _ _ _]
  congr 2
  funext j
  show Value.null = va_rf (xr (xP h) (xnx h) (fun _ => none) (xnx h) j)
  rw [xr_s]
  rfl
theorem x_aast {t a v k : Nat} {C : vw_C} {i : Int32} (hd : decode (xMc M) pc = .ok (.aastore, 1)) (hT : xT h a = t) (ht : 100 ≤ t ∧ t < 200) (hc : xcls[k]? = some C) (hty : xat t = some (.object C.1)) (hv : xT h v = k + 1) (hi : vp_in i (xN h a))
    (kq : xV l G fr wd M (pc + 1) L st (xwP h a i.toNatClampNeg (some v)) Q) : xV l G fr wd M pc L (.ref v :: .int i :: .ref a :: st) h Q := by
  refine xgoW kq rfl (fun p e R s m args below meth c H locs cells slots ls Qw Cx hR hl kk => ?_)
  have q1 := xarr hR hT ht.1 ht.2 hty
  have hz : xGz G ≤ a := (hR.2.2.2 a (by rw [hT]; omega)).1
  obtain ⟨cv, v1, v2, v3, -⟩ := xobj hR hv hc
  obtain ⟨hx, hb, hml, hr, hlk, hown, hmn, hKn, -⟩ := Cx
  have hcls := (hKn.1 k C hc).2
  obtain ⟨kA, comp, k1, k2, k3, -⟩ := (hKn.2.1 t _ hty).2
  have hcomp : comp = (xGD G).1 k := Option.some.inj (k3.symm.trans hcls.1)
  subst hcomp
  obtain ⟨kC, hkC, -⟩ := hcls.2
  have hlt : i.toNatClampNeg < xN h a := Nat.not_le.mp fun q => hi (Or.inr q)
  have h0 : ¬ i < 0 := fun q => hi (Or.inl q)
  refine W.aast hx hb q1 (fun q z => by cases z) (fun z => by cases z) k1 k2 rfl hkC ⟨h0, by rw [arrV_size]; exact hlt⟩ v1 (fun q z => by rw [v3] at z; cases z) (by rw [v2]; exact hkC) (by rw [v2]; exact va_assign hcls) rfl rfl hd fun H2 g1 g2 g3 => kk H2 a _ ?_ hz
  exact xarrW (v := .ref v) hR hT ht.1 ht.2 hty rfl rfl (fun ty b i hb => xsv_wP_a ty hb) (fun ty b i hb => xsv_wP_j ty hb) (congrArg va_rf (xu_s _ _ _ _)) g1 g2 g3
theorem x_objInit {ix a : Nat} (hd : decode (xMc M) pc = .ok (.invokespecial ix, 3)) (h1 : Cond.methodLink (xMn M).cls ix Lib.objectInit ∈ xTT) (h2 : Cond.instanceMethod Lib.objectInit ∈ xTT) (h3 : Cond.code Lib.objectInit ⟨#[0xb1]⟩ 1 none ∈ xTT) (hdp : 1 ≤ fr) (hdw : 20 ≤ wd) (hst : (st.map fun v => v.category).sum ≤ 8)
    (kq : xV l G fr wd M (pc + 3) L st h Q) : xV l G fr wd M pc L (.ref a :: st) h Q := by
  obtain ⟨r, h', q, x1, x2, x⟩ := kq
  refine ⟨r, h', q, x1, x2, fun p e R s m args below meth c H locs cells slots ls C hR hl hf b1 b2 b3 b4 => ?_⟩
  have kk := x p e R s m args below meth c H locs cells slots ls C hR hl hf b1 b2 b3 b4
  obtain ⟨hx, hb, hml, hr, hlk, hown, hmn, hKn, -⟩ := C
  have hts := hKn.2.2.2.1 args
  exact W.objInit hx hb hown (hts _ h1) (hts _ h2) (hts _ h3) rfl (by rw [hml]; exact hl.1) rfl hd (by omega) (by show 2 * 0 + _ + 12 ≤ R.locals; omega) kk
/-! the ends -/
theorem x_iret {v : Int32} {ty : FieldType} (hd : decode (xMc M) pc = .ok (.ireturn, 1)) (hr : xMr M = some ty) (hn : narrow ty (.int v) = .int v) (q : Q (.inl (some (.int v))) h) : xV l G fr wd M pc L [.int v] h Q := by
  refine ⟨.inl (some (.int v)), h, q, Nat.le_refl _, Nat.le_refl _, fun p e R s m args below meth c H locs cells slots ls C hR hl hf b1 b2 b3 b4 => ?_⟩
  simp only [Nat.sub_self, Nat.zero_add]
  obtain ⟨hx, hb, hml, hr', hlk, hown, hmn, hKn, -⟩ := C
  exact W.zret (Qc := fun _ _ o t => o = .returned (some (.int v)) ∧ xRep G h t.heap) (free := fun q => xGz G ≤ q) hx hb (hr'.trans hr) hn (fun t ht hW => ⟨rfl, by rw [ht]; exact hR⟩) hf hd hlk
theorem x_lret {v : Int64} (hd : decode (xMc M) pc = .ok (.lreturn, 1)) (hr : xMr M = some .long) (q : Q (.inl (some (.long v))) h) : xV l G fr wd M pc L [.long v] h Q := by
  refine ⟨.inl (some (.long v)), h, q, Nat.le_refl _, Nat.le_refl _, fun p e R s m args below meth c H locs cells slots ls C hR hl hf b1 b2 b3 b4 => ?_⟩
  simp only [Nat.sub_self, Nat.zero_add]
  obtain ⟨hx, hb, hml, hr', hlk, hown, hmn, hKn, -⟩ := C
  exact W.lret (Qc := fun _ _ o t => o = .returned (some (.long v)) ∧ xRep G h t.heap) (free := fun q => xGz G ≤ q) hx hb (hr'.trans hr) (fun t ht hW => ⟨rfl, by rw [ht]; exact hR⟩) hf hd hlk
theorem x_vret (hd : decode (xMc M) pc = .ok (.return_, 1)) (hr : xMr M = none) (q : Q (.inl none) h) : xV l G fr wd M pc L [] h Q := by
  refine ⟨.inl none, h, q, Nat.le_refl _, Nat.le_refl _, fun p e R s m args below meth c H locs cells slots ls C hR hl hf b1 b2 b3 b4 => ?_⟩
  simp only [Nat.sub_self, Nat.zero_add]
  obtain ⟨hx, hb, hml, hr', hlk, hown, hmn, hKn, -⟩ := C
  exact W.vret (Qc := fun _ _ o t => o = .returned none ∧ xRep G h t.heap) (free := fun q => xGz G ≤ q) hx hb (hr'.trans hr) (fun t ht hW => ⟨rfl, by rw [ht]; exact hR⟩) hf hd hlk
theorem x_aret {o : Option Nat} {n : String} (hd : decode (xMc M) pc = .ok (.areturn, 1)) (hr : xMr M = some (.object n)) (q : Q (.inl (some (va_rf o))) h) : xV l G fr wd M pc L [va_rf o] h Q := by
  refine ⟨.inl (some (va_rf o)), h, q, Nat.le_refl _, Nat.le_refl _, fun p e R s m args below meth c H locs cells slots ls C hR hl hf b1 b2 b3 b4 => ?_⟩
  simp only [Nat.sub_self, Nat.zero_add]
  obtain ⟨hx, hb, hml, hr', hlk, hown, hmn, hKn, -⟩ := C
  refine W.aret (Qc := fun _ _ o9 t => o9 = .returned (some (va_rf o)) ∧ xRep G h t.heap) (free := fun q => xGz G ≤ q) hx hb (hr'.trans hr) (Or.inl ⟨n, rfl⟩) ?_ (fun t ht hW => ⟨rfl, by rw [ht]; exact hR⟩) hf hd hlk
  cases o with
  | none => exact Or.inl rfl
  | some x => exact Or.inr ⟨x, rfl⟩
end XMAKE
end
section
/-- the callee's contract, where it returns -/
theorem xMet {l : Launch} {G : xG} {fr wd : Nat} {M : xM} {As : List Value} {h h1 : xH} {v : Option Value} (hpl : plainFor (xMn M) = true) (hh : xMh M = []) (hln : (lg_sl As).length ≤ xMl M)
    (x : ∀ (p : Program) (e : Env) (R : Room) (s : State) (m : MethodId) (args : Array Value) (below : List Frame) (meth : Method) (c : Code) (H : Heap) (locs : List Loc) (cells slots : Nat) (ls : Array Slot),
      xCx G M p s m meth c → xRep G h H → lv_has ls (xMl M) (lv_args 0 As) → (∀ q ∈ locs, xGz G ≤ q.base) → (xnx h1 - xnx h) + cells ≤ R.cells → (xsl h1 - xsl h) + slots ≤ R.slots → fr ≤ R.frames → wd ≤ R.locals →
      W p l e R s m args below meth c H locs cells slots (xPost G below args s (.inl v) h1 ((xnx h1 - xnx h) + cells) ((xsl h1 - xsl h) + slots)) (F0 m 0 ls [])) :
    Met l (xMn M) [Cond.code (xMn M) (xMc M) (xMl M) (xMr M)] { frames := fr, cells := xnx h1 - xnx h, slots := xsl h1 - xsl h, locals := wd } (fun a U => a = As.toArray ∧ xRep G h U.heap ∧ xKn G U) (fun _ _ o t => o = .returned v ∧ xRep G h1 t.heap) (xnx h1 - xnx h) (xsl h1 - xsl h) (fun q => xGz G ≤ q) := by
  refine MetFree.of_bodySF (code := xMc M) (maxLocals := xMl M) (ret := xMr M) hpl ?_ ?_
  · intro args s m hp hn
    obtain ⟨meth, c, h1, h2, h3, h4, h5, h6, -, -⟩ := Cond.code_spec hn (atoms_spec (ws := [Cond.code (xMn M) (xMc M) (xMl M) (xMr M)]) hp _ List.mem_cons_self)
    exact ⟨meth, c, h1, h2, h3, h4, h5, h6⟩
  · intro p e s m args below meth c s₁ B hml hv _
    obtain ⟨rfl, hR, hK⟩ := hv
    have hcode : (Cond.code (xMn M) (xMc M) (xMl M) (xMr M)).before As.toArray s = true := atoms_spec (ws := [Cond.code (xMn M) (xMc M) (xMl M) (xMr M)]) B.pre _ List.mem_cons_self
    have he := B.noHandlers hcode
    have he2 : c.exceptionTable.toList = [] := by simpa using he
    have hh0 : s₁.heap = s.heap := by rw [B.state]; rfl
    rw [lg_entry_eq]
    obtain ⟨t, a1, o, b1, b2, b3⟩ := x p e (headSpec [Cond.code (xMn M) (xMc M) (xMl M) (xMr M)] { frames := fr, cells := xnx h1 - xnx h, slots := xsl h1 - xsl h, locals := wd }).room s m _ below meth c s.heap [] 0 0 _ ⟨B.exec, B.bytes, hml, B.returns, B.notSynchronized, findClass_of_methodNamed B.named, (name_of_methodNamed B.named B.method).1, hK, by rw [he2, hh]; rfl⟩ hR (lv_entry As hln) (fun q hq => by cases hq) (Nat.le_refl _) (Nat.le_refl _) (Nat.le_refl _) (Nat.le_refl _) s₁ hh0 (Stand.of_body B)
    exact ⟨t, o, a1, b1, b2, ⟨b3.1, b3.2⟩⟩
theorem xblind {G : xG} {h : xH} {As : List Value} : FrameBlind (fun a U => a = As.toArray ∧ xRep G h U.heap ∧ xKn G U) := by
  intro a U g mk q
  exact ⟨q.1, q.2.1, xKn.moved (s := U) (U := U.calling g mk a) (State.WarmedH.refl U) q.2.2⟩
/-- a call that returns, at the walk's own height: mk runs, and hands v back -/
theorem xBackR {p : Program} {l : Launch} {e : Env} {R : Room} {s : State} {m : MethodId} {args : Array Value} {below : List Frame} {meth : Method} {c : Code} {T : State} {locs : List Loc} {cells slots : Nat} {G : xG} {fr' wd' : Nat} {M' : xM} {As : List Value} {h h1 : xH} {v : Option Value}
    (X : Stand p l e R s m args below meth c T locs cells slots) (hKs : xKn G s) (hpl : plainFor (xMn M') = true) (hh : xMh M' = []) (hln : (lg_sl As).length ≤ xMl M') 
    (hM : Met l (xMn M') [Cond.code (xMn M') (xMc M') (xMl M') (xMr M')] { frames := fr', cells := xnx h1 - xnx h, slots := xsl h1 - xsl h, locals := wd' } (fun a U => a = As.toArray ∧ xRep G h U.heap ∧ xKn G U) (fun _ _ o t => o = .returned v ∧ xRep G h1 t.heap) (xnx h1 - xnx h) (xsl h1 - xsl h) (fun q => xGz G ≤ q))
    (hw1 : Cond.code (xMn M') (xMc M') (xMl M') (xMr M') ∈ xTT) (hw2 : Cond.initialized (xMn M').cls ∈ xTT) (hR : xRep G h T.heap) (b1 : (xnx h1 - xnx h) + cells ≤ R.cells) (b2 : (xsl h1 - xsl h) + slots ≤ R.slots) (b3 : fr' + 1 ≤ R.frames) (b4 : 19 + xMl M' + wd' ≤ R.locals)
    {g : JFrame} {ig : Instr} {len : Nat} {mk : MethodId} (hg : g.method = m) (hsize : g.locals.size = c.maxLocals) (hdg : decode c.code g.pc = .ok (ig, len)) (hW : 2 * g.monitorRoom + (g.stack.map fun v => v.category).sum ≤ 8) (hn : T.methodNamed? (xMn M') = some mk) :
    ∃ (T' : State) (L' : List Loc), Stand p l e R s m args below meth c T' (locs ++ L') ((xnx h1 - xnx h) + cells) ((xsl h1 - xsl h) + slots) ∧ (∀ q ∈ L', xGz G ≤ q.base) ∧ xRep G h1 T'.heap ∧
      Steps p.tables e below (doInvoke e (T.setTop g) [] mk As.toArray).1 (T'.setTop { g with pc := g.pc + len, stack := v.toList ++ g.stack }) := by
  have hK : Back l R p e below s args (xMn M') len 8 (PreOf R (xnx h1 - xnx h) (xsl h1 - xsl h) (fun a U => a = As.toArray ∧ xRep G h U.heap ∧ xKn G U)) (PostOf (fun _ _ o t => o = .returned v ∧ xRep G h1 t.heap) (xnx h1 - xnx h) (xsl h1 - xsl h) (fun q => xGz G ≤ q)) :=
    back_of (bytes := xMc M') (maxL := xMl M') (ret := xMr M') hM xblind rfl rfl b3 (by show 8 + (xMl M' + 11) + wd' ≤ R.locals; omega)
      (fun w hw a' U hWu => by
        simp only [List.mem_cons, List.not_mem_nil, or_false] at hw
        subst hw
        exact (hKs.moved hWu).2.2.2.1 a' _ hw1) List.mem_cons_self (fun a' U hWu => (hKs.moved hWu).2.2.2.1 a' _ hw2)
  obtain ⟨v', ⟨U', l2, c2, s2⟩, X', ⟨g', mk', t, L', e1, e2, ⟨hq1, hq2⟩, h1', hL', h2', h3'⟩, st⟩ := hK m meth c ⟨T, locs, cells, slots⟩ g ig mk As.toArray X hg hsize hdg hW hn ⟨by show cells + (xnx h1 - xnx h) ≤ R.cells; omega, by show slots + (xsl h1 - xsl h) ≤ R.slots; omega, rfl, hR, hKs.moved X.warmed⟩
  dsimp only [Pt.U, Pt.locs, Pt.cells, Pt.slots] at X' e1 e2 h1' h2' h3' st
  cases hq1
  subst h1'; subst h2'; subst h3'
  refine ⟨U', L', ?_, hL', by rw [e1]; exact hq2, st⟩
  rw [Nat.add_comm (xnx h1 - xnx h), Nat.add_comm (xsl h1 - xsl h)]
  exact X'
/-- the callee's contract, where it throws -/
theorem xMetT {l : Launch} {G : xG} {fr wd : Nat} {M : xM} {As : List Value} {h h1 : xH} {k a : Nat} (hpl : plainFor (xMn M) = true) (hh : xMh M = []) (hln : (lg_sl As).length ≤ xMl M)
    (x : ∀ (p : Program) (e : Env) (R : Room) (s : State) (m : MethodId) (args : Array Value) (below : List Frame) (meth : Method) (c : Code) (H : Heap) (locs : List Loc) (cells slots : Nat) (ls : Array Slot),
      xCx G M p s m meth c → xRep G h H → lv_has ls (xMl M) (lv_args 0 As) → (∀ q ∈ locs, xGz G ≤ q.base) → (xnx h1 - xnx h) + cells ≤ R.cells → (xsl h1 - xsl h) + slots ≤ R.slots → fr ≤ R.frames → wd ≤ R.locals →
      W p l e R s m args below meth c H locs cells slots (xPost G below args s (.inr (k, a)) h1 ((xnx h1 - xnx h) + cells) ((xsl h1 - xsl h) + slots)) (F0 m 0 ls [])) :
    MetFree l (xMn M) (headSpec [Cond.code (xMn M) (xMc M) (xMl M) (xMr M)] { frames := fr, cells := xnx h1 - xnx h, slots := xsl h1 - xsl h, locals := wd }) (fun b U => b = As.toArray ∧ xRep G h U.heap ∧ xKn G U) (fun _ _ _ _ _ => True)
      (fun _ st o t => o = .threw a ∧ (xT h1 a = 200 + k ∧ xRep G h1 t.heap) ∧ st.WarmedH t.vm ∧ ∃ L : List Loc, st.sameButNew ({ t with vm := st.vm } : State) L (xnx h1 - xnx h) (xsl h1 - xsl h) ∧ ∀ q ∈ L, xGz G ≤ q.base) := by
  refine MetFree.of_bodySF (code := xMc M) (maxLocals := xMl M) (ret := xMr M) hpl ?_ ?_
  · intro args s m hp hn
    obtain ⟨meth, c, h1, h2, h3, h4, h5, h6, -, -⟩ := Cond.code_spec hn (atoms_spec (ws := [Cond.code (xMn M) (xMc M) (xMl M) (xMr M)]) hp _ List.mem_cons_self)
    exact ⟨meth, c, h1, h2, h3, h4, h5, h6⟩
  · intro p e s m args below meth c s₁ B hml hv _
    obtain ⟨rfl, hR, hK⟩ := hv
    have hcode : (Cond.code (xMn M) (xMc M) (xMl M) (xMr M)).before As.toArray s = true := atoms_spec (ws := [Cond.code (xMn M) (xMc M) (xMl M) (xMr M)]) B.pre _ List.mem_cons_self
    have he := B.noHandlers hcode
    have he2 : c.exceptionTable.toList = [] := by simpa using he
    have hh0 : s₁.heap = s.heap := by rw [B.state]; rfl
    rw [lg_entry_eq]
    obtain ⟨t, a1, b1, b2, b3, b4, b5⟩ := x p e (headSpec [Cond.code (xMn M) (xMc M) (xMl M) (xMr M)] { frames := fr, cells := xnx h1 - xnx h, slots := xsl h1 - xsl h, locals := wd }).room s m _ below meth c s.heap [] 0 0 _ ⟨B.exec, B.bytes, hml, B.returns, B.notSynchronized, findClass_of_methodNamed B.named, (name_of_methodNamed B.named B.method).1, hK, by rw [he2, hh]; rfl⟩ hR (lv_entry As hln) (fun q hq => by cases hq) (Nat.le_refl _) (Nat.le_refl _) (Nat.le_refl _) (Nat.le_refl _) s₁ hh0 (Stand.of_body B)
    exact ⟨t, .threw a, a1, b1, b2, rfl, b3, b4, b5⟩
theorem xBackT {p : Program} {l : Launch} {e : Env} {R : Room} {s : State} {m : MethodId} {args : Array Value} {below : List Frame} {meth : Method} {c : Code} {T : State} {locs : List Loc} {cells slots : Nat} {G : xG} {fr' wd' : Nat} {M' : xM} {As : List Value} {h h1 : xH} {k a : Nat}
    (X : Stand p l e R s m args below meth c T locs cells slots) (hKs : xKn G s) 
    (hM : MetFree l (xMn M') (headSpec [Cond.code (xMn M') (xMc M') (xMl M') (xMr M')] { frames := fr', cells := xnx h1 - xnx h, slots := xsl h1 - xsl h, locals := wd' }) (fun b U => b = As.toArray ∧ xRep G h U.heap ∧ xKn G U) (fun _ _ _ _ _ => True)
      (fun _ st o t => o = .threw a ∧ (xT h1 a = 200 + k ∧ xRep G h1 t.heap) ∧ st.WarmedH t.vm ∧ ∃ L : List Loc, st.sameButNew ({ t with vm := st.vm } : State) L (xnx h1 - xnx h) (xsl h1 - xsl h) ∧ ∀ q ∈ L, xGz G ≤ q.base))
    (hw1 : Cond.code (xMn M') (xMc M') (xMl M') (xMr M') ∈ xTT) (hw2 : Cond.initialized (xMn M').cls ∈ xTT) (hR : xRep G h T.heap) (b1 : (xnx h1 - xnx h) + cells ≤ R.cells) (b2 : (xsl h1 - xsl h) + slots ≤ R.slots) (b3 : fr' + 1 ≤ R.frames) (b4 : 19 + xMl M' + wd' ≤ R.locals)
    {g : JFrame} {ig : Instr} {len : Nat} {mk : MethodId} (hg : g.method = m) (hsize : g.locals.size = c.maxLocals) (hdg : decode c.code g.pc = .ok (ig, len)) (hW : 2 * g.monitorRoom + (g.stack.map fun v => v.category).sum ≤ 8) (hn : T.methodNamed? (xMn M') = some mk) :
    ∃ (T' : State) (L' : List Loc), Stand p l e R s m args below meth c T' (locs ++ L') ((xnx h1 - xnx h) + cells) ((xsl h1 - xsl h) + slots) ∧ (∀ q ∈ L', xGz G ≤ q.base) ∧ xT h1 a = 200 + k ∧ xRep G h1 T'.heap ∧
      Steps p.tables e below (doInvoke e (T.setTop g) [] mk As.toArray).1 ((T'.setTop g).pushFrame (.throwing a)) := by
  have hKT := hKs.moved X.warmed
  have hcodeT := hKT.2.2.2.1 As.toArray _ hw1
  obtain ⟨methY, cY, hmY, hcY, -, hlY, -, -, -, -⟩ := Cond.code_spec hn hcodeT
  obtain ⟨kY, hkY, -⟩ := className_of_methodNamed hn
  have hinitY : kY.init = .initialized := Cond.initialized_spec (findClass_of_methodNamed hn) hkY (hKT.2.2.2.1 As.toArray _ hw2)
  have hat : At T g.method c below := by rw [hg]; exact X.here
  have hpre : (headSpec [Cond.code (xMn M') (xMc M') (xMl M') (xMr M')] { frames := fr', cells := xnx h1 - xnx h, slots := xsl h1 - xsl h, locals := wd' }).pre.before As.toArray T = true :=
    atoms_intro (fun w hw => by
      simp only [List.mem_cons, List.not_mem_nil, or_false] at hw
      subst hw
      exact hcodeT)
  have happ : (headSpec [Cond.code (xMn M') (xMc M') (xMl M') (xMr M')] { frames := fr', cells := xnx h1 - xnx h, slots := xsl h1 - xsl h, locals := wd' }).appliesLoose (xMn M') e.platform (T.calling g mk As.toArray) = true :=
    Spec.appliesLoose_calling (g := g) hat hdg hn hkY hinitY
      (X.room_calling (g := g) (R' := { frames := fr', cells := xnx h1 - xnx h, slots := xsl h1 - xsl h, locals := wd' }) hsize hmY hcY b3 (by rw [hlY]; show _ + (xMl M' + 11) + wd' ≤ R.locals; omega) (by show cells + (xnx h1 - xnx h) ≤ R.cells; omega) (by show slots + (xsl h1 - xsl h) ≤ R.slots; omega)) hpre
  obtain ⟨mid, hmid⟩ := hat.above
  have hfr : (T.setTop g).frames = (.java g :: mid) ++ below := by rw [State.frames_setTop' g hat.top, hmid]; rfl
  obtain ⟨o, s₂, hsteps, -, hend, ho, hq1, hW₂, L', hsb, hbase⟩ := Steps.callFree hM p X.admits X.cas X.clock (acts := []) hfr happ ⟨rfl, hR, xKn.moved (s := T) (U := T.calling g mk As.toArray) (State.WarmedH.refl T) hKT⟩ trivial
  subst ho
  rw [State.frames_setTop' g hat.top] at hend
  obtain ⟨e2, q2, q3, q4, q5, q6⟩ := hsb
  have e2 : ({ s₂ with vm := (T.calling g mk As.toArray).vm } : State) = { (T.calling g mk As.toArray).setFrames s₂.frames with heap := s₂.heap, slotsUsed := s₂.slotsUsed } := e2
  have e3 : s₂ = ({ (T.calling g mk As.toArray).setFrames s₂.frames with heap := s₂.heap, slotsUsed := s₂.slotsUsed } : State).setVm s₂.vm := by
    have z : s₂ = ({ s₂ with vm := (T.calling g mk As.toArray).vm } : State).setVm s₂.vm := rfl
    rw [e2] at z
    exact z
  have hf₂ : s₂.frames = .throwing a :: .java g :: T.frames.tail := hend
  have hW' : T.WarmedH s₂.vm := hW₂
  obtain ⟨g₀, hg0⟩ := Option.isSome_iff_exists.mp hat.top
  obtain ⟨r, hr⟩ := State.topJava?_eq_some.mp hg0
  have hs₂ : s₂ = ((({ T with heap := s₂.heap, slotsUsed := s₂.slotsUsed } : State).setVm s₂.vm).setTop g).pushFrame (.throwing a) := by
    have hr' : (({ T with heap := s₂.heap, slotsUsed := s₂.slotsUsed } : State).setVm s₂.vm).frames = .java g₀ :: r := hr
    refine e3.trans ?_
    rw [hf₂, State.calling_eq hat.top, State.setFrames_setFrames, State.pushFrame, State.frames_setTop _ hr', State.setTop_of_frames _ hr', State.setFrames_setFrames, hr]
    rfl
  have hsame : T.sameButNew ({ T with heap := s₂.heap, slotsUsed := s₂.slotsUsed } : State) L' (xnx h1 - xnx h) (xsl h1 - xsl h) := by
    refine ⟨?_, q2, q3, q4, q5, q6⟩
    obtain ⟨t, ht, -⟩ := State.frames_cons hr
    show ({ T with heap := s₂.heap, slotsUsed := s₂.slotsUsed } : State) = { T.setFrames T.frames with heap := s₂.heap, slotsUsed := s₂.slotsUsed }
    rw [State.setFrames_self ht]
  subst hg
  refine ⟨({ T with heap := s₂.heap, slotsUsed := s₂.slotsUsed } : State).setVm s₂.vm, L', ?_, hbase, hq1.1, hq1.2, ?_⟩
  · rw [Nat.add_comm (xnx h1 - xnx h), Nat.add_comm (xsl h1 - xsl h)]
    exact ⟨X.admits, X.cas, X.clock, X.frames, X.room, X.hears, X.method, X.code, (X.here.setHeapUsed s₂.heap s₂.slotsUsed).setVm hW'.alike, X.tail, State.WarmedH.trans X.warmed hW', X.limits, X.bytes, X.same.trans (hsame.setVm s.vm)⟩
  · rw [← hs₂]
    exact hsteps
/-- a call, whatever comes of it: 'go' is what the instruction does before the callee's frame is laid -/
theorem xcall {l : Launch} {G : xG} {fr wd fr' wd' : Nat} {M M' : xM} {pc : Nat} {L : List (Nat × Value)} {st0 st : List Value} {h : xH} {Q Q' : xR → xH → Prop} {As : List Value} {ig : Instr} (hd : decode (xMc M) pc = .ok (ig, 3)) (hpl : plainFor (xMn M') = true) (hh : xMh M' = []) (hln : (lg_sl As).length ≤ xMl M') 
    (hfr : fr' + 1 ≤ fr) (hwd : 19 + xMl M' + wd' ≤ wd) (hw1 : Cond.code (xMn M') (xMc M') (xMl M') (xMr M') ∈ xTT) (hw2 : Cond.initialized (xMn M').cls ∈ xTT) (hst : (st.map fun v => v.category).sum ≤ 8)
    (go : ∀ (p : Program) (e : Env) (R : Room) (s : State) (m : MethodId) (args : Array Value) (below : List Frame) (meth : Method) (c : Code) (T : State) (locs : List Loc) (cells slots : Nat) (ls : Array Slot), xCx G M p s m meth c → xRep G h T.heap → lv_has ls (xMl M) L → Stand p l e R s m args below meth c T locs cells slots →
      ∃ (vm₁ : Vm) (mk : MethodId), Stand p l e R s m args below meth c (T.setVm vm₁) locs cells slots ∧ s.methodNamed? (xMn M') = some mk ∧ ∀ target, (∀ acts, Steps p.tables e below (doInvoke e ((T.setVm vm₁).setTop (F0 m pc ls st)) acts mk As.toArray).1 target) → Steps p.tables e below (T.setTop (F0 m pc ls st0)) target)
    (hq : xVM l G fr' wd' M' As h Q') (kr : ∀ (v : Option Value) (h1 : xH), Q' (.inl v) h1 → xV l G fr wd M (pc + 3) L (v.toList ++ st) h1 Q) (kt : ∀ (k a : Nat) (h1 : xH), Q' (.inr (k, a)) h1 → Q (.inr (k, a)) h1) (hno : ∀ q ∈ xMh M, ¬ (q.1 ≤ pc ∧ pc < q.2.1)) :
    xV l G fr wd M pc L st0 h Q := by
  obtain ⟨r1, h1, q1, y1, y2, y⟩ := hq
  cases r1 with
  | inl v =>
    obtain ⟨r, h', q, x1, x2, x⟩ := kr v h1 q1
    refine ⟨r, h', q, Nat.le_trans y1 x1, Nat.le_trans y2 x2, fun p e R s m args below meth c H locs cells slots ls C hR hl hf b1 b2 b3 b4 => ?_⟩
    have hC := C
    obtain ⟨hx, hb, hml, hr', hlk, hown, hmn, hKn, hex⟩ := hC
    intro T hT X
    subst hT
    obtain ⟨vm₁, mk, X₁, hnm, hstep⟩ := go p e R s m args below meth c T locs cells slots ls C hR hl X
    obtain ⟨T', L', X', hL', hR1, hst'⟩ := xBackR (h1 := h1) (v := v) X₁ hKn hpl hh hln (xMet hpl hh hln y) hw1 hw2 hR (by omega) (by omega) (Nat.le_trans hfr b3) (Nat.le_trans hwd b4) (g := F0 m pc ls st) rfl (by rw [hml]; exact hl.1) (by rw [hb]; exact hd) (lv_room hst) (X₁.named hnm)
    have e1 : (xnx h' - xnx h1) + ((xnx h1 - xnx h) + cells) = (xnx h' - xnx h) + cells := by omega
    have e2 : (xsl h' - xsl h1) + ((xsl h1 - xsl h) + slots) = (xsl h' - xsl h) + slots := by omega
    obtain ⟨t, a1, b1'⟩ := x p e R s m args below meth c T'.heap (locs ++ L') _ _ ls C hR1 hl (fun q0 hq0 => by
      rcases List.mem_append.mp hq0 with z | z
      · exact hf q0 z
      · exact hL' q0 z) (by rw [e1]; exact b1) (by rw [e2]; exact b2) b3 b4 T' rfl X'
    rw [e1, e2] at b1'
    exact ⟨t, hstep t (fun acts => by rw [doInvoke_state]; exact hst'.trans a1), b1'⟩
  | inr ka =>
    obtain ⟨k, a⟩ := ka
    refine ⟨.inr (k, a), h1, kt k a h1 q1, y1, y2, fun p e R s m args below meth c H locs cells slots ls C hR hl hf b1 b2 b3 b4 => ?_⟩
    have hC := C
    obtain ⟨hx, hb, hml, hr', hlk, hown, hmn, hKn, hex⟩ := hC
    intro T hT X
    subst hT
    obtain ⟨vm₁, mk, X₁, hnm, hstep⟩ := go p e R s m args below meth c T locs cells slots ls C hR hl X
    obtain ⟨T', L', X', hL', hTa, hR1, hst'⟩ := xBackT (h1 := h1) X₁ hKn (xMetT hpl hh hln y) hw1 hw2 hR b1 b2 (Nat.le_trans hfr b3) (Nat.le_trans hwd b4) (g := F0 m pc ls st) rfl (by rw [hml]; exact hl.1) (by rw [hb]; exact hd) (lv_room hst) (X₁.named hnm)
    have hout : ∀ z ∈ c.exceptionTable.toList, covers z pc = false := by
      intro z hz
      have hm : (z.startPc, z.endPc, z.handlerPc, z.catchType) ∈ xMh M := by
        rw [← hex]
        exact List.mem_map_of_mem hz
      have := hno _ hm
      simp only [covers, Bool.and_eq_false_iff, decide_eq_false_iff_not]
      by_cases h9 : z.startPc ≤ pc
      · exact Or.inr (fun h8 => this ⟨h9, h8⟩)
      · exact Or.inl h9
    obtain ⟨w1, w2, w3, w4, w5⟩ := X'.leaveThrown a (g := F0 m pc ls st) rfl rfl rfl hout hlk
    refine ⟨_, hstep _ (fun acts => by rw [doInvoke_state]; exact hst'.trans w1), w2, w3, ⟨hTa, hR1⟩, w4, locs ++ L', w5, fun q0 hq0 => ?_⟩
    rcases List.mem_append.mp hq0 with z | z
    · exact hf q0 z
    · exact hL' q0 z
section XCALL
variable {l : Launch} {G : xG} {fr wd fr' wd' : Nat} {M M' : xM} {pc : Nat} {L : List (Nat × Value)} {st : List Value} {h : xH} {Q Q' : xR → xH → Prop} {As : List Value}
theorem x_callS {ix : Nat} (hd : decode (xMc M) pc = .ok (.invokestatic ix, 3)) (hpl : plainFor (xMn M') = true) (hh : xMh M' = []) (hln : (lg_sl As).length ≤ xMl M') 
    (hfr : fr' + 1 ≤ fr) (hwd : 19 + xMl M' + wd' ≤ wd) (hw1 : Cond.code (xMn M') (xMc M') (xMl M') (xMr M') ∈ xTT) (hw2 : Cond.initialized (xMn M').cls ∈ xTT) (hw3 : Cond.methodLink (xMn M).cls ix (xMn M') ∈ xTT) (hw4 : Cond.static (xMn M') ∈ xTT)
    (hy : (xMn M').cls ≠ "java/lang/invoke/MethodHandle" ∧ (xMn M').cls ≠ "java/lang/invoke/VarHandle") (hn : (parseMethodDescriptor (xMn M').desc).map (fun d => d.parameters.length) = some As.length) (hst : (st.map fun v => v.category).sum ≤ 8) (hno : ∀ q ∈ xMh M, ¬ (q.1 ≤ pc ∧ pc < q.2.1))
    (hq : xVM l G fr' wd' M' As h Q') (kt : ∀ (k a : Nat) (h1 : xH), Q' (.inr (k, a)) h1 → Q (.inr (k, a)) h1) (kr : ∀ (v : Option Value) (h1 : xH), Q' (.inl v) h1 → xV l G fr wd M (pc + 3) L (v.toList ++ st) h1 Q) :
    xV l G fr wd M pc L (As.reverse ++ st) h Q := by
  refine xcall hd hpl hh hln hfr hwd hw1 hw2 hst (fun p e R s m args below meth c T locs cells slots ls C hR hl X => ?_) hq kr kt hno
  obtain ⟨hx, hb, hml, hr', hlk, hown, hmn, hKn, hex⟩ := C
  have hts := hKn.2.2.2.1 args
  obtain ⟨mk, hnamed⟩ := Cond.code_named (hts _ hw1)
  obtain ⟨methM, cM, hmethM, -, -, -, -, -, -, hsigM⟩ := Cond.code_spec hnamed (hts _ hw1)
  have hstatic : methM.isStatic = true := Cond.static_spec hnamed hmethM (hts _ hw4)
  obtain ⟨kP, hkP, -⟩ := className_of_methodNamed hnamed
  have hinitP : kP.init = .initialized := Cond.initialized_spec (findClass_of_methodNamed hnamed) hkP (hts _ hw2)
  rw [hsigM] at hn
  obtain ⟨vm₁, X₁, hstep₁⟩ := X.invokestatic hx hown (hts _ hw3) hnamed hmethM hstatic hkP hinitP hy (g := F0 m pc ls (As.reverse ++ st)) rfl (argsL := As) (rest := st) (Option.some.inj hn).symm rfl (by rw [hb]; exact hd)
  exact ⟨vm₁, mk, X₁, hnamed, hstep₁⟩
theorem x_callV {ix k b : Nat} {C : vw_C} (hd : decode (xMc M) pc = .ok (.invokevirtual ix, 3)) (hT : xT h b = k + 1) (hc : xcls[k]? = some C) (hpl : plainFor (xMn M') = true) (hh : xMh M' = []) (hln : (lg_sl (.ref b :: As)).length ≤ xMl M') 
    (hfr : fr' + 1 ≤ fr) (hwd : 19 + xMl M' + wd' ≤ wd) (hw1 : Cond.code (xMn M') (xMc M') (xMl M') (xMr M') ∈ xTT) (hw2 : Cond.initialized (xMn M').cls ∈ xTT) (hw3 : Cond.methodLink (xMn M).cls ix (xMn M') ∈ xTT) (hw4 : Cond.instanceMethod (xMn M') ∈ xTT) (hw5 : Cond.selects C.1 (xMn M') (xMn M') ∈ xTT)
    (hy : (xMn M').cls ≠ "java/lang/invoke/MethodHandle" ∧ (xMn M').cls ≠ "java/lang/invoke/VarHandle") (hn : (parseMethodDescriptor (xMn M').desc).map (fun d => d.parameters.length) = some As.length) (hst : (st.map fun v => v.category).sum ≤ 8) (hno : ∀ q ∈ xMh M, ¬ (q.1 ≤ pc ∧ pc < q.2.1))
    (hq : xVM l G fr' wd' M' (.ref b :: As) h Q') (kt : ∀ (k a : Nat) (h1 : xH), Q' (.inr (k, a)) h1 → Q (.inr (k, a)) h1) (kr : ∀ (v : Option Value) (h1 : xH), Q' (.inl v) h1 → xV l G fr wd M (pc + 3) L (v.toList ++ st) h1 Q) :
    xV l G fr wd M pc L (As.reverse ++ .ref b :: st) h Q := by
  refine xcall hd hpl hh hln hfr hwd hw1 hw2 hst (fun p e R s m args below meth c T locs cells slots ls Cx hR hl X => ?_) hq kr kt hno
  obtain ⟨cellB, c1, c2, c3, -⟩ := xobj hR hT hc
  obtain ⟨hx, hb, hml, hr', hlk, hown, hmn, hKn, hex⟩ := Cx
  have hts := hKn.2.2.2.1 args
  have hcls : s.vm.findClass C.1 = some cellB.cls := by rw [c2]; exact (hKn.1 k C hc).2.1
  obtain ⟨mk, methM, hnamed, hmethM, hstM, habM⟩ := Cond.instanceMethod_spec (hts _ hw4)
  obtain ⟨methM', cM, hmethM', -, -, -, -, -, -, hsigM⟩ := Cond.code_spec hnamed (hts _ hw1)
  cases hmethM.symm.trans hmethM'
  obtain ⟨c2', r2, m2, q1, q2, q3, q4, kP, hkP, hkPi⟩ := Cond.selects_spec (hts _ hw5)
  cases hcls.symm.trans q1
  cases (State.methodFound?_of_named hnamed hy).symm.trans q2
  cases hnamed.symm.trans q3
  have hselP : selectMethod e.platform s.vm cellB.cls mk = .method mk := by rw [Launch.admits_selectMethod X.admits]; exact q4
  rw [hsigM] at hn
  obtain ⟨vm₁, X₁, hstep₁⟩ := X.invokevirtual hx hown (hts _ hw3) hnamed hmethM hstM hkP hkPi hy (a := b) (cell := cellB) c1
    (fun z hz => by rw [c3] at hz; cases hz) hselP hmethM habM hkP hkPi (g := F0 m pc ls (As.reverse ++ .ref b :: st)) rfl (argsL := As) (rest := st) (Option.some.inj hn).symm rfl (by rw [hb]; exact hd)
  exact ⟨vm₁, mk, X₁, hnamed, hstep₁⟩
theorem x_callI {ix b : Nat} (hd : decode (xMc M) pc = .ok (.invokespecial ix, 3)) (hpl : plainFor (xMn M') = true) (hh : xMh M' = []) (hln : (lg_sl (.ref b :: As)).length ≤ xMl M')  (hr0 : xMr M' = none) (hni : (xMn M').name = "<init>")
    (hfr : fr' + 1 ≤ fr) (hwd : 19 + xMl M' + wd' ≤ wd) (hw1 : Cond.code (xMn M') (xMc M') (xMl M') (xMr M') ∈ xTT) (hw2 : Cond.initialized (xMn M').cls ∈ xTT) (hw3 : Cond.methodLink (xMn M).cls ix (xMn M') ∈ xTT) (hw4 : Cond.instanceMethod (xMn M') ∈ xTT)
    (hy : (xMn M').cls ≠ "java/lang/invoke/MethodHandle" ∧ (xMn M').cls ≠ "java/lang/invoke/VarHandle") (hn : (parseMethodDescriptor (xMn M').desc).map (fun d => d.parameters.length) = some As.length) (hst : (st.map fun v => v.category).sum ≤ 8) (hno : ∀ q ∈ xMh M, ¬ (q.1 ≤ pc ∧ pc < q.2.1))
    (hq : xVM l G fr' wd' M' (.ref b :: As) h Q') (kt : ∀ (k a : Nat) (h1 : xH), Q' (.inr (k, a)) h1 → Q (.inr (k, a)) h1) (kr : ∀ (v : Option Value) (h1 : xH), Q' (.inl v) h1 → xV l G fr wd M (pc + 3) L (v.toList ++ st) h1 Q) :
    xV l G fr wd M pc L (As.reverse ++ .ref b :: st) h Q := by
  refine xcall hd hpl hh hln hfr hwd hw1 hw2 hst (fun p e R s m args below meth c T locs cells slots ls Cx hR hl X => ?_) hq kr kt hno
  obtain ⟨hx, hb, hml, hr', hlk, hown, hmn, hKn, hex⟩ := Cx
  have hts := hKn.2.2.2.1 args
  have hpl2 : e.platform.magicAccessors = ({} : Platform).magicAccessors := by rw [X.admits.platform]
  have hc1 := hts _ hw1
  rw [hr0] at hc1
  obtain ⟨mk, methM, cM, kP, vm₁, hnamed, hmethM, hcodeM, -, hlocalsM, -, hkP, -, hW₁, hstep₁⟩ := Steps.initColdArgs (e := e) X.here hx X.warmed hpl2 hown hni hy (hts _ hw3) (hts _ hw4) hc1 (f := F0 m pc ls (As.reverse ++ .ref b :: st)) rfl (fun sig hs => by rw [hs] at hn; exact (Option.some.inj hn).symm) rfl (by rw [hb]; exact hd)
  exact ⟨vm₁, mk, X.noted hW₁, hnamed, hstep₁⟩
end XCALL
end
section
/-- the walk's own place, as if the method began here -/
theorem xrebase {p : Program} {l : Launch} {e : Env} {R : Room} {s : State} {m : MethodId} {args : Array Value} {below : List Frame} {meth : Method} {c : Code} {T : State} {locs : List Loc} {cells slots : Nat}
    (X : Stand p l e R s m args below meth c T locs cells slots) (hcc : cells ≤ R.cells) (hss : slots ≤ R.slots) : Stand p l e { frames := R.frames, cells := R.cells - cells, slots := R.slots - slots, locals := R.locals } (T.setFrames (.invoking m args :: below)) m args below meth c T [] 0 0 := by
  obtain ⟨g₀, hfr⟩ := X.frames_eq
  have hcur : T.cur < T.threads.size := State.cur_lt_of_frames hfr
  obtain ⟨t, ht, -⟩ := State.frames_cons hfr
  have hF : (T.setFrames (.invoking m args :: below)).frames = .invoking m args :: below := State.frames_setFrames _ hcur
  have hm : T.vm.method? m = some meth := X.method'
  refine ⟨X.admits, X.cas, X.clock, hF, ?_, ?_, hm, X.code, X.here, X.tail, State.WarmedH.refl _, ?_, ?_, ?_⟩
  · have hr := X.room
    have hh := X.heapSize
    have hu := X.used
    have hb := X.book
    have hl1 : (T.setFrames (.invoking m args :: below)).localsInUse = s.localsInUse := by
      rw [State.localsInUse_invoking hF (show (T.setFrames (.invoking m args :: below)).vm.method? m = some meth from hm) X.code, State.localsInUse_invoking X.frames X.method X.code]
    have hl2 : e.platform.stackLimits (T.setFrames (.invoking m args :: below)).me = e.platform.stackLimits s.me := by rw [State.stackLimits_setFrames]; exact X.limits
    have hl3 : (T.setFrames (.invoking m args :: below)).me.stackBytes = s.me.stackBytes := by rw [State.stackBytes_setFrames]; exact X.bytes
    simp only [State.hasRoom, Bool.and_eq_true, decide_eq_true_eq] at hr ⊢
    rw [hl1, hl2, hl3, hF]
    obtain ⟨⟨⟨⟨r1, r2⟩, r3⟩, r4⟩, r5⟩ := hr
    rw [X.frames] at r2
    refine ⟨⟨⟨⟨r1, r2⟩, ?_⟩, ?_⟩, ?_⟩
    · show T.heap.size + (R.cells - cells) ≤ _
      omega
    · show T.slotsUsed + (R.slots - slots) ≤ _
      omega
    · exact hb
  · have hh := X.hears
    rcases below with _ | ⟨y, r⟩
    · simpa [State.hears, X.method, hm] using hh
    · cases y <;> first | rfl | (simp only [State.hears, State.code?_eq] at hh ⊢; show Option.isSome _ = true; rw [show (T.setFrames _).vm = T.vm from rfl, X.warmed.alike.method?]; exact hh) | simpa [State.hears, X.method, hm] using hh
  · rw [State.stackLimits_setFrames]
  · rw [State.stackBytes_setFrames]
  · obtain ⟨t', ht', -⟩ := State.frames_cons hF
    have hback : (T.setFrames (.invoking m args :: below)).setFrames T.frames = T := by rw [State.setFrames_setFrames, State.setFrames_self ht]
    have h1 := (State.sameButNew.refl (T.setFrames (.invoking m args :: below)) ht').setFrames T.frames (Array.getElem?_eq_some_iff.mp ht').1
    rw [hback] at h1
    exact h1
section XTHROW
variable {l : Launch} {G : xG} {fr wd : Nat} {M : xM} {pc : Nat} {L : List (Nat × Value)} {st : List Value} {h : xH} {Q : xR → xH → Prop}
/-- the words that an exception's making reads: the tables', and two of the statics -/
theorem xownA {G : xG} {U : State} {args : Array Value} {own cls : String} {ic : Nat} {names : List String} (hK : xKn G U) (hH : ∀ q : Nat, q < xGz G → U.heap[q]? = (xGH G)[q]?) (hw : ∀ w ∈ Bundle.ownAtoms0 own ic cls names, w ∈ xTT ∨ w ∈ xSWW) : ∀ w ∈ Bundle.ownAtoms0 own ic cls names, w.before args U = true := by
  intro w hm
  rcases hw w hm with z | z
  · exact hK.2.2.2.1 args w z
  · have key : ∀ n ds : String, (Bundle.tN, n, ds) ∈ xSS → (Cond.laysStatic Bundle.tN n ds).before args U = true ∧ (Cond.isRef (.static Bundle.tN n ds)).before args U = true := by
      intro n ds hq
      obtain ⟨c, k, i, f, a, cell, v, h1, h2, h3, h4, h5, h6, h7, h8, h9, h10, h11⟩ := hK.2.2.2.2.1 _ hq
      have h5' : U.heap[a]? = some cell := by rw [hH a (Array.getElem?_eq_some_iff.mp h5).1]; exact h5
      refine ⟨Cond.laysStatic_of h1 h2 h3 h4 h5' h6 h7 h8 h9, ?_⟩
      have he : (Term.static Bundle.tN n ds).eval args U none [] U = some v := by
        have h2' : U.fieldFound? Bundle.tN n ds = some (c, k, i, f) := h2
        simp [Term.eval, State.fieldNamed?, h2', h3, h4, h5', h6, h10]
      show (Cond.isRef (.static Bundle.tN n ds)).holds args U none U [] = true
      simp only [Cond.holds, Cond.value, he]
      rcases h11 with rfl | ⟨t, rfl⟩ <;> rfl
    simp only [xSWW, List.mem_cons, List.not_mem_nil, or_false] at z
    rcases z with rfl | rfl | rfl | rfl
    · exact (key _ _ (List.mem_of_getElem? (l := xSS) (i := 0) rfl)).1
    · exact (key _ _ (List.mem_of_getElem? (l := xSS) (i := 1) rfl)).1
    · exact (key _ _ (List.mem_of_getElem? (l := xSS) (i := 0) rfl)).2
    · exact (key _ _ (List.mem_of_getElem? (l := xSS) (i := 1) rfl)).2
theorem x_throw {ix ic k : Nat} {cls : String} {names : List String} (hd0 : decode (xMc M) pc = .ok (.new ix, 3)) (hd3 : decode (xMc M) (pc + 3) = .ok (.dup, 1)) (hd4 : decode (xMc M) (pc + 4) = .ok (.invokespecial ic, 3)) (hd7 : decode (xMc M) (pc + 7) = .ok (.athrow, 1))
    (hk : xexn[k]? = some cls) (hfit : Bundle.fit cls = true) (hfits : ∀ n ∈ names, Bundle.fit n = true) (hlen : names.length ≤ 3) (hw1 : Cond.classLink (xMn M).cls ix cls ∈ xTT) (hw2 : Cond.instantiable cls 6 ∈ xTT) (hw3 : Cond.initialized cls ∈ xTT)
    (hw : ∀ w ∈ Bundle.ownAtoms0 (xMn M).cls ic cls names, w ∈ xTT ∨ w ∈ xSWW) (hno : xMh M = []) (hnt : l.stackTraces = false) (hdp : 7 ≤ fr) (hdw : 102 ≤ wd) (hst : (st.map fun v => v.category).sum ≤ 8) (q : Q (.inr (k, xnx h)) (xnw h (200 + k) 0 6)) : xV l G fr wd M pc L st h Q := by
  refine ⟨.inr (k, xnx h), xnw h (200 + k) 0 6, q, Nat.le_succ _, Nat.le_add_right _ _, fun p e R s m args below meth c H locs cells slots ls C hR hl hf b1 b2 b3 b4 => ?_⟩
  have b1' : (xnx h + 1 - xnx h) + cells ≤ R.cells := b1
  have b2' : (xsl h + 6 - xsl h) + slots ≤ R.slots := b2
  intro T hT X
  subst hT
  obtain ⟨hx, hb, hml, hr', hlk, hown, hmn, hKn, hex⟩ := C
  have htr : e.platform.stackTraces = false := (show e.platform.stackTraces = l.stackTraces by rw [X.admits.platform]).trans hnt
  have hKs : xKn G (T.setFrames (.invoking m args :: below)) := hKn.moved (U := T.setFrames (.invoking m args :: below)) X.warmed
  have hts := hKs.2.2.2.1 args
  have hown' : (T.setFrames (.invoking m args :: below)).vm.findClass (xMn M).cls = some m.cls := by
    show T.vm.findClass _ = _
    rw [X.warmed.alike.findClass]
    exact hown
  have he : c.exceptionTable.toList = [] := by
    rw [hno] at hex
    exact List.map_eq_nil_iff.mp hex
  have hcX : (T.setFrames (.invoking m args :: below)).vm.findClass cls = some (xGA G (200 + k)) := hKs.2.2.1 k cls hk
  have X' := xrebase X (by omega) (by omega)
  have K : W p l e { frames := R.frames, cells := R.cells - cells, slots := R.slots - slots, locals := R.locals } (T.setFrames (.invoking m args :: below)) m args below meth c T.heap [] 0 0
      (fun t => t.status = .running ∧ Ended t below (.threw (xnx h)) ∧ (T.setFrames (.invoking m args :: below)).WarmedH t.vm ∧ (T.setFrames (.invoking m args :: below)).sameButNew ({ t with vm := (T.setFrames (.invoking m args :: below)).vm } : State) [] 1 6 ∧ ∃ ce, t.heap[xnx h]? = some ce ∧ Bundle.OwnCell args (T.setFrames (.invoking m args :: below)) cls (xnx h) .null ce) (F0 m pc ls st) := by
    refine W.newcK hx hb hown' (hts _ hw1) (hts _ hw2) (hts _ hw3) rfl hd0 (by show 0 + 1 ≤ R.cells - cells; omega) (by show 0 + 6 ≤ R.slots - slots; omega) hcX hR.1 fun H2 kC hkC g1 g2 g3 => ?_
    refine lv_dup (pc := pc + 3) hx hb hd3 rfl ?_
    intro T2 hT2 X2
    obtain ⟨U, w1, w2, w3, w4, w5, w6⟩ := X2.ctorThrow0 hx htr hown' hfit hfits (xownA hKs hR.2.2.1 hw) (fun x hx9 => by cases hx9) hcX hkC (by rw [hT2]; exact g1) (by show T.heap.size ≤ xnx h; rw [hR.1]; exact Nat.le_refl _) (g := F0 m (pc + 4) ls (.ref (xnx h) :: .ref (xnx h) :: st)) rfl (by rw [hml]; exact hl.1) rfl rfl (rest := st) rfl (by rw [hb]; exact hd4) (by rw [hb]; exact hd7) (by rw [he]; intro x hx9; cases hx9)
      (by show names.length + 3 < R.frames; omega) (by show 2 * 0 + (((Value.ref (xnx h)) :: st).map fun v => v.category).sum + (13 * (names.length + 1) + 41) ≤ R.locals; rw [List.map_cons, List.sum_cons, show (Value.ref (xnx h)).category = 1 from rfl]; omega) hlk
    exact ⟨U, w1, w2, w3, w4, w5, w6⟩
  obtain ⟨t, a1, a2, a3, a4, a5, ce, a6, a7⟩ := K T rfl X'
  obtain ⟨g₀, hfr⟩ := X.frames_eq
  have hcur : T.cur < T.threads.size := State.cur_lt_of_frames hfr
  obtain ⟨th, hth, -⟩ := State.frames_cons hfr
  have hs2 := X.same.trans (((State.sameButNew.refl (T.setVm s.vm) hth).setFrames (.invoking m args :: below) hcur).trans (a5.setVm s.vm))
  have hsz : t.heap.size = xnx h + 1 := by
    have z2 := a5.2.2.1
    have z2' : t.heap.size ≤ T.heap.size + 1 := z2
    have z3 := (Array.getElem?_eq_some_iff.mp a6).1
    rw [hR.1] at z2'
    omega
  have hold : ∀ q0 : Nat, q0 < xnx h → t.heap[q0]? = T.heap[q0]? := by
    intro q0 hq0
    have hlt : q0 < T.heap.size := by rw [hR.1]; exact hq0
    obtain ⟨cT, hcT⟩ : ∃ cT, T.heap[q0]? = some cT := ⟨_, Array.getElem?_eq_getElem hlt⟩
    rw [hcT]
    exact State.sameButNew.old_cell a5 hcT
  refine ⟨t, a1, a2, a3, ⟨xr_s _ _ _, ?_⟩, State.WarmedH.trans X.warmed a4, locs, ?_, hf⟩
  · refine hR.new hsz hold ?_
    unfold xCell
    rw [if_neg (by omega), if_neg (by omega)]
    refine ⟨ce, a6, ?_, by rw [a7.vm]; rfl⟩
    exact Option.some.inj (a7.cls.symm.trans hcX)
  · have e1 : (xnx (xnw h (200 + k) 0 6) - xnx h) + cells = cells + (0 + 1) := by
      show (xnx h + 1 - xnx h) + cells = _
      omega
    have e2 : (xsl (xnw h (200 + k) 0 6) - xsl h) + slots = slots + (0 + 6) := by
      show (xsl h + 6 - xsl h) + slots = _
      omega
    rw [e1, e2]
    simp only [List.append_nil] at hs2
    exact hs2
end XTHROW
end
section
/-- the callee's contract, a method with handlers that returns -/
theorem xMetH {l : Launch} {G : xG} {fr wd : Nat} {M : xM} {As : List Value} {h h1 : xH} {v : Option Value} (hpl : plainFor (xMn M) = true) (hln : (lg_sl As).length ≤ xMl M)
    (x : ∀ (p : Program) (e : Env) (R : Room) (s : State) (m : MethodId) (args : Array Value) (below : List Frame) (meth : Method) (c : Code) (H : Heap) (locs : List Loc) (cells slots : Nat) (ls : Array Slot),
      xCx G M p s m meth c → xRep G h H → lv_has ls (xMl M) (lv_args 0 As) → (∀ q ∈ locs, xGz G ≤ q.base) → (xnx h1 - xnx h) + cells ≤ R.cells → (xsl h1 - xsl h) + slots ≤ R.slots → fr ≤ R.frames → wd ≤ R.locals →
      W p l e R s m args below meth c H locs cells slots (xPost G below args s (.inl v) h1 ((xnx h1 - xnx h) + cells) ((xsl h1 - xsl h) + slots)) (F0 m 0 ls [])) :
    Met l (xMn M) [Cond.codeWith (xMn M) (xMc M) (xMl M) (xMr M) (xMh M)] { frames := fr, cells := xnx h1 - xnx h, slots := xsl h1 - xsl h, locals := wd } (fun a U => a = As.toArray ∧ xRep G h U.heap ∧ xKn G U) (fun _ _ o t => o = .returned v ∧ xRep G h1 t.heap) (xnx h1 - xnx h) (xsl h1 - xsl h) (fun q => xGz G ≤ q) := by
  refine MetFree.of_bodySF (code := xMc M) (maxLocals := xMl M) (ret := xMr M) hpl ?_ ?_
  · intro args s m hp hn
    obtain ⟨m', meth, c, hn', h1, h2, h3, h4, -, h5, h6, -⟩ := Cond.codeWith_spec (atoms_spec (ws := [Cond.codeWith (xMn M) (xMc M) (xMl M) (xMr M) (xMh M)]) hp _ List.mem_cons_self)
    cases hn.symm.trans hn'
    exact ⟨meth, c, h1, h2, h3, h4, h5, h6⟩
  · intro p e s m args below meth c s₁ B hml hv _
    obtain ⟨rfl, hR, hK⟩ := hv
    obtain ⟨m', meth', c', hn', g1, g2, -, -, g3, -, -, -⟩ := Cond.codeWith_spec (atoms_spec (ws := [Cond.codeWith (xMn M) (xMc M) (xMl M) (xMr M) (xMh M)]) B.pre _ List.mem_cons_self)
    cases B.named.symm.trans hn'
    cases B.method.symm.trans g1
    have X0 := Stand.of_body B
    cases X0.code.symm.trans g2
    have hh0 : s₁.heap = s.heap := by rw [B.state]; rfl
    rw [lg_entry_eq]
    obtain ⟨t, a1, o, b1, b2, b3⟩ := x p e (headSpec [Cond.codeWith (xMn M) (xMc M) (xMl M) (xMr M) (xMh M)] { frames := fr, cells := xnx h1 - xnx h, slots := xsl h1 - xsl h, locals := wd }).room s m _ below meth c s.heap [] 0 0 _ ⟨B.exec, B.bytes, hml, B.returns, B.notSynchronized, findClass_of_methodNamed B.named, (name_of_methodNamed B.named B.method).1, hK, g3⟩ hR (lv_entry As hln) (fun q hq => by cases hq) (Nat.le_refl _) (Nat.le_refl _) (Nat.le_refl _) (Nat.le_refl _) s₁ hh0 X0
    exact ⟨t, o, a1, b1, b2, ⟨b3.1, b3.2⟩⟩
theorem xBackRH {p : Program} {l : Launch} {e : Env} {R : Room} {s : State} {m : MethodId} {args : Array Value} {below : List Frame} {meth : Method} {c : Code} {T : State} {locs : List Loc} {cells slots : Nat} {G : xG} {fr' wd' : Nat} {M' : xM} {As : List Value} {h h1 : xH} {v : Option Value}
    (X : Stand p l e R s m args below meth c T locs cells slots) (hKs : xKn G s)
    (hM : Met l (xMn M') [Cond.codeWith (xMn M') (xMc M') (xMl M') (xMr M') (xMh M')] { frames := fr', cells := xnx h1 - xnx h, slots := xsl h1 - xsl h, locals := wd' } (fun a U => a = As.toArray ∧ xRep G h U.heap ∧ xKn G U) (fun _ _ o t => o = .returned v ∧ xRep G h1 t.heap) (xnx h1 - xnx h) (xsl h1 - xsl h) (fun q => xGz G ≤ q))
    (hw1 : Cond.codeWith (xMn M') (xMc M') (xMl M') (xMr M') (xMh M') ∈ xTT) (hw2 : Cond.initialized (xMn M').cls ∈ xTT) (hR : xRep G h T.heap) (b1 : (xnx h1 - xnx h) + cells ≤ R.cells) (b2 : (xsl h1 - xsl h) + slots ≤ R.slots) (b3 : fr' + 1 ≤ R.frames) (b4 : 19 + xMl M' + wd' ≤ R.locals)
    {g : JFrame} {ig : Instr} {len : Nat} {mk : MethodId} (hg : g.method = m) (hsize : g.locals.size = c.maxLocals) (hdg : decode c.code g.pc = .ok (ig, len)) (hW : 2 * g.monitorRoom + (g.stack.map fun v => v.category).sum ≤ 8) (hn : T.methodNamed? (xMn M') = some mk) :
    ∃ (T' : State) (L' : List Loc), Stand p l e R s m args below meth c T' (locs ++ L') ((xnx h1 - xnx h) + cells) ((xsl h1 - xsl h) + slots) ∧ (∀ q ∈ L', xGz G ≤ q.base) ∧ xRep G h1 T'.heap ∧
      Steps p.tables e below (doInvoke e (T.setTop g) [] mk As.toArray).1 (T'.setTop { g with pc := g.pc + len, stack := v.toList ++ g.stack }) := by
  have hK : Back l R p e below s args (xMn M') len 8 (PreOf R (xnx h1 - xnx h) (xsl h1 - xsl h) (fun a U => a = As.toArray ∧ xRep G h U.heap ∧ xKn G U)) (PostOf (fun _ _ o t => o = .returned v ∧ xRep G h1 t.heap) (xnx h1 - xnx h) (xsl h1 - xsl h) (fun q => xGz G ≤ q)) := by
    refine va_ofFreeW (S := headSpec [Cond.codeWith (xMn M') (xMc M') (xMl M') (xMr M') (xMh M')] { frames := fr', cells := xnx h1 - xnx h, slots := xsl h1 - xsl h, locals := wd' }) (bytes := xMc M') (maxL := xMl M') (ret := xMr M') (hh := xMh M')
      (E := fun a st o t L k n => k = xnx h1 - xnx h ∧ n = xsl h1 - xsl h ∧ ∀ q ∈ L, xGz G ≤ q.base) hM b3 (by show 8 + (xMl M' + 11) + wd' ≤ R.locals; omega) ?_ ?_ (fun _ _ _ _ _ _ _ _ _ => trivial) ?_ ?_
    · intro m meth c A a X hp
      have hKA := hKs.moved X.warmed
      refine ⟨atoms_intro (fun w hw => ?_), hKA.2.2.2.1 a _ hw1, hKA.2.2.2.1 a _ hw2, hp.1, hp.2.1⟩
      simp only [List.mem_cons, List.not_mem_nil, or_false] at hw
      subst hw
      exact hKA.2.2.2.1 a _ hw1
    · intro m meth c A a g mk X hp
      exact xblind _ _ _ _ hp.2.2
    · intro a st o t hq
      obtain ⟨hq1, L, hF, hL⟩ := hq
      exact ⟨L, _, _, hF, rfl, rfl, hL⟩
    · intro m meth c A a g mk v t L k n X hp hq hF he
      obtain ⟨e1, e2, hL⟩ := he
      subst e1; subst e2
      exact ⟨g, mk, t, L, rfl, rfl, hq.1, rfl, hL, rfl, rfl⟩
  obtain ⟨v', ⟨U', l2, c2, s2⟩, X', ⟨g', mk', t, L', e1, e2, ⟨hq1, hq2⟩, h1', hL', h2', h3'⟩, st⟩ := hK m meth c ⟨T, locs, cells, slots⟩ g ig mk As.toArray X hg hsize hdg hW hn ⟨by show cells + (xnx h1 - xnx h) ≤ R.cells; omega, by show slots + (xsl h1 - xsl h) ≤ R.slots; omega, rfl, hR, hKs.moved X.warmed⟩
  dsimp only [Pt.U, Pt.locs, Pt.cells, Pt.slots] at X' e1 e2 h1' h2' h3' st
  cases hq1
  subst h1'; subst h2'; subst h3'
  refine ⟨U', L', ?_, hL', by rw [e1]; exact hq2, st⟩
  rw [Nat.add_comm (xnx h1 - xnx h), Nat.add_comm (xsl h1 - xsl h)]
  exact X'
/-- a static call of a method with handlers, that returns -/
theorem x_callSH {l : Launch} {G : xG} {fr wd fr' wd' : Nat} {M M' : xM} {pc : Nat} {L : List (Nat × Value)} {st : List Value} {h : xH} {Q Q' : xR → xH → Prop} {As : List Value} {ix : Nat} (hd : decode (xMc M) pc = .ok (.invokestatic ix, 3)) (hpl : plainFor (xMn M') = true) (hln : (lg_sl As).length ≤ xMl M')
    (hfr : fr' + 1 ≤ fr) (hwd : 19 + xMl M' + wd' ≤ wd) (hw1 : Cond.codeWith (xMn M') (xMc M') (xMl M') (xMr M') (xMh M') ∈ xTT) (hw2 : Cond.initialized (xMn M').cls ∈ xTT) (hw3 : Cond.methodLink (xMn M).cls ix (xMn M') ∈ xTT) (hw4 : Cond.static (xMn M') ∈ xTT)
    (hy : (xMn M').cls ≠ "java/lang/invoke/MethodHandle" ∧ (xMn M').cls ≠ "java/lang/invoke/VarHandle") (hn : (parseMethodDescriptor (xMn M').desc).map (fun d => d.parameters.length) = some As.length) (hst : (st.map fun v => v.category).sum ≤ 8)
    (hq : xVM l G fr' wd' M' As h Q') (kt : ∀ (k a : Nat) (h1 : xH), ¬ Q' (.inr (k, a)) h1) (kr : ∀ (v : Option Value) (h1 : xH), Q' (.inl v) h1 → xV l G fr wd M (pc + 3) L (v.toList ++ st) h1 Q) :
    xV l G fr wd M pc L (As.reverse ++ st) h Q := by
  obtain ⟨r1, h1, q1, y1, y2, y⟩ := hq
  cases r1 with
  | inr ka => exact absurd q1 (kt ka.1 ka.2 h1)
  | inl v =>
    obtain ⟨r, h', q, x1, x2, x⟩ := kr v h1 q1
    refine ⟨r, h', q, Nat.le_trans y1 x1, Nat.le_trans y2 x2, fun p e R s m args below meth c H locs cells slots ls C hR hl hf b1 b2 b3 b4 => ?_⟩
    have hC := C
    obtain ⟨hx, hb, hml, hr', hlk, hown, hmn, hKn, hex⟩ := hC
    have hts := hKn.2.2.2.1 args
    intro T hT X
    subst hT
    obtain ⟨mk, methM, cM, hnamed, hmethM, -, -, -, -, -, -, hsigM⟩ := Cond.codeWith_spec (hts _ hw1)
    have hstatic : methM.isStatic = true := Cond.static_spec hnamed hmethM (hts _ hw4)
    obtain ⟨kP, hkP, -⟩ := className_of_methodNamed hnamed
    have hinitP : kP.init = .initialized := Cond.initialized_spec (findClass_of_methodNamed hnamed) hkP (hts _ hw2)
    rw [hsigM] at hn
    obtain ⟨vm₁, X₁, hstep₁⟩ := X.invokestatic hx hown (hts _ hw3) hnamed hmethM hstatic hkP hinitP hy (g := F0 m pc ls (As.reverse ++ st)) rfl (argsL := As) (rest := st) (Option.some.inj hn).symm rfl (by rw [hb]; exact hd)
    obtain ⟨T', L', X', hL', hR1, hst'⟩ := xBackRH (h1 := h1) (v := v) X₁ hKn (xMetH hpl hln y) hw1 hw2 hR (by omega) (by omega) (Nat.le_trans hfr b3) (Nat.le_trans hwd b4) (g := F0 m pc ls st) rfl (by rw [hml]; exact hl.1) (by rw [hb]; exact hd) (lv_room hst) (X₁.named hnamed)
    have e1 : (xnx h' - xnx h1) + ((xnx h1 - xnx h) + cells) = (xnx h' - xnx h) + cells := by omega
    have e2 : (xsl h' - xsl h1) + ((xsl h1 - xsl h) + slots) = (xsl h' - xsl h) + slots := by omega
    obtain ⟨t, a1, b1'⟩ := x p e R s m args below meth c T'.heap (locs ++ L') _ _ ls C hR1 hl (fun q0 hq0 => by
      rcases List.mem_append.mp hq0 with z | z
      · exact hf q0 z
      · exact hL' q0 z) (by rw [e1]; exact b1) (by rw [e2]; exact b2) b3 b4 T' rfl X'
    rw [e1, e2] at b1'
    exact ⟨t, hstep₁ t (fun acts => by rw [doInvoke_state]; exact hst'.trans a1), b1'⟩
/-- where a thrown exception of kind k is caught in M: the row, and those ahead of it that it passes -/
def xHnd (M : xM) (pc k hp : Nat) : Prop :=
  ∃ (pre suf : List (Nat × Nat × Nat × Nat)) (s0 e0 ct : Nat) (nm : String), xMh M = pre ++ (s0, e0, hp, ct) :: suf ∧ s0 ≤ pc ∧ pc < e0 ∧ ct ≠ 0 ∧ xexn[k]? = some nm ∧ Cond.classLink (xMn M).cls ct nm ∈ xTT ∧ Cond.castable nm nm ∈ xTT ∧
    ∀ y ∈ pre, y.2.2.2 ≠ 0 ∧ ∃ nj : String, Cond.classLink (xMn M).cls y.2.2.2 nj ∈ xTT ∧ (nm, nj) ∈ xNC
theorem xcaught {p : Program} {l : Launch} {e : Env} {R : Room} {s : State} {m : MethodId} {args : Array Value} {below : List Frame} {meth : Method} {c : Code} {T : State} {locs : List Loc} {cells slots : Nat} {G : xG} {M : xM} {pc k a hp : Nat} {h1 : xH} {ls : Array Slot} {st : List Value}
    (X : Stand p l e R s m args below meth c T locs cells slots) (C : xCx G M p s m meth c) (hT : xT h1 a = 200 + k) (hR : xRep G h1 T.heap) (hh : xHnd M pc k hp) :
    ∃ vm' : Vm, Stand p l e R s m args below meth c (T.setVm vm') locs cells slots ∧ Steps p.tables e below ((T.setTop (F0 m pc ls st)).pushFrame (.throwing a)) ((T.setVm vm').setTop (F0 m hp ls [.ref a])) := by
  obtain ⟨hx, hb, hml, hr', hlk, hown, hmn, hKn, hex⟩ := C
  obtain ⟨pre, suf, s0, e0, ct, nm, hsp, hs0, he0, hct, hnm, hl1, hl2, hpre⟩ := hh
  have hts := hKn.2.2.2.1 args
  have hpl : e.platform.magicAccessors = ({} : Platform).magicAccessors := by rw [X.admits.platform]
  obtain ⟨-, -, h3⟩ := hR.2.2.2 a (by rw [hT]; omega)
  rw [hT] at h3
  unfold xCell at h3
  rw [if_neg (by omega), if_neg (by omega)] at h3
  obtain ⟨cell, hcell, hccls, hcst⟩ := h3
  have hcl : s.vm.findClass nm = some cell.cls := by rw [hccls]; exact hKn.2.2.1 k nm hnm
  rw [hsp] at hex
  obtain ⟨pre', rest', hex1, hex2, hex3⟩ := List.map_eq_append_iff.mp hex
  obtain ⟨x', suf', hex4, hex5, hex6⟩ := List.map_eq_cons_iff.mp hex3
  subst hex4
  simp only [Prod.mk.injEq] at hex5
  obtain ⟨u1, u2, u3, u4⟩ := hex5
  obtain ⟨c3, c4, hc3, hc4, hasg⟩ := Cond.castable_spec (hts _ hl2)
  cases Option.some.inj (hc3.symm.trans hcl)
  cases Option.some.inj (hc4.symm.trans hcl)
  have hlk1 := hts _ hl1
  rw [← u4] at hlk1 hct
  obtain ⟨c5, hc5, hcl5⟩ := Cond.classLink_spec hown hlk1 e.platform hpl
  cases Option.some.inj (hcl.symm.trans hc5)
  obtain ⟨vm', X', st'⟩ := X.thenCaughtThrough a (g := F0 m pc ls st) rfl (Steps.refl _) hcell hcst (by obtain ⟨k9, h9, -⟩ := Vm.findClass_spec hcl; exact ⟨k9, h9⟩) pre' x' suf' hex1
    (fun z hz => by
      have hz2 : (z.startPc, z.endPc, z.handlerPc, z.catchType) ∈ pre := by rw [← hex2]; exact List.mem_map_of_mem hz
      obtain ⟨hz0, nj, hj1, hj2⟩ := hpre _ hz2
      obtain ⟨c6, hc6, hcl6⟩ := Cond.classLink_spec hown (hts _ hj1) e.platform hpl
      obtain ⟨a8, b8, n1, n2, n3⟩ := hKn.2.2.2.2.2.1 _ hj2
      cases Option.some.inj (n1.symm.trans hcl)
      cases Option.some.inj (n2.symm.trans hc6)
      exact Or.inr ⟨hz0, _, hcl6, n3⟩) (by simp [covers, u1, u2, hs0, he0]) (Or.inr ⟨hct, _, hcl5, hasg⟩)
  rw [u3] at st'
  exact ⟨vm', X', st'⟩
/-- a call, whose exceptions are caught here -/
theorem xcallC {l : Launch} {G : xG} {fr wd fr' wd' : Nat} {M M' : xM} {pc : Nat} {L : List (Nat × Value)} {st0 st : List Value} {h : xH} {Q Q' : xR → xH → Prop} {As : List Value} {ig : Instr} (hd : decode (xMc M) pc = .ok (ig, 3)) (hpl : plainFor (xMn M') = true) (hh : xMh M' = []) (hln : (lg_sl As).length ≤ xMl M')
    (hfr : fr' + 1 ≤ fr) (hwd : 19 + xMl M' + wd' ≤ wd) (hw1 : Cond.code (xMn M') (xMc M') (xMl M') (xMr M') ∈ xTT) (hw2 : Cond.initialized (xMn M').cls ∈ xTT) (hst : (st.map fun v => v.category).sum ≤ 8)
    (go : ∀ (p : Program) (e : Env) (R : Room) (s : State) (m : MethodId) (args : Array Value) (below : List Frame) (meth : Method) (c : Code) (T : State) (locs : List Loc) (cells slots : Nat) (ls : Array Slot), xCx G M p s m meth c → xRep G h T.heap → lv_has ls (xMl M) L → Stand p l e R s m args below meth c T locs cells slots →
      ∃ (vm₁ : Vm) (mk : MethodId), Stand p l e R s m args below meth c (T.setVm vm₁) locs cells slots ∧ s.methodNamed? (xMn M') = some mk ∧ ∀ target, (∀ acts, Steps p.tables e below (doInvoke e ((T.setVm vm₁).setTop (F0 m pc ls st)) acts mk As.toArray).1 target) → Steps p.tables e below (T.setTop (F0 m pc ls st0)) target)
    (hq : xVM l G fr' wd' M' As h Q') (kr : ∀ (v : Option Value) (h1 : xH), Q' (.inl v) h1 → xV l G fr wd M (pc + 3) L (v.toList ++ st) h1 Q) (kc : ∀ (k a : Nat) (h1 : xH), Q' (.inr (k, a)) h1 → ∃ hp : Nat, xHnd M pc k hp ∧ xV l G fr wd M hp L [.ref a] h1 Q) :
    xV l G fr wd M pc L st0 h Q := by
  obtain ⟨r1, h1, q1, y1, y2, y⟩ := hq
  cases r1 with
  | inl v =>
    obtain ⟨r, h', q, x1, x2, x⟩ := kr v h1 q1
    refine ⟨r, h', q, Nat.le_trans y1 x1, Nat.le_trans y2 x2, fun p e R s m args below meth c H locs cells slots ls C hR hl hf b1 b2 b3 b4 => ?_⟩
    have hC := C
    obtain ⟨hx, hb, hml, hr', hlk, hown, hmn, hKn, hex⟩ := hC
    intro T hT X
    subst hT
    obtain ⟨vm₁, mk, X₁, hnm, hstep⟩ := go p e R s m args below meth c T locs cells slots ls C hR hl X
    obtain ⟨T', L', X', hL', hR1, hst'⟩ := xBackR (h1 := h1) (v := v) X₁ hKn hpl hh hln (xMet hpl hh hln y) hw1 hw2 hR (by omega) (by omega) (Nat.le_trans hfr b3) (Nat.le_trans hwd b4) (g := F0 m pc ls st) rfl (by rw [hml]; exact hl.1) (by rw [hb]; exact hd) (lv_room hst) (X₁.named hnm)
    have e1 : (xnx h' - xnx h1) + ((xnx h1 - xnx h) + cells) = (xnx h' - xnx h) + cells := by omega
    have e2 : (xsl h' - xsl h1) + ((xsl h1 - xsl h) + slots) = (xsl h' - xsl h) + slots := by omega
    obtain ⟨t, a1, b1'⟩ := x p e R s m args below meth c T'.heap (locs ++ L') _ _ ls C hR1 hl (fun q0 hq0 => by
      rcases List.mem_append.mp hq0 with z | z
      · exact hf q0 z
      · exact hL' q0 z) (by rw [e1]; exact b1) (by rw [e2]; exact b2) b3 b4 T' rfl X'
    rw [e1, e2] at b1'
    exact ⟨t, hstep t (fun acts => by rw [doInvoke_state]; exact hst'.trans a1), b1'⟩
  | inr ka =>
    obtain ⟨k, a⟩ := ka
    obtain ⟨hp, hhnd, r, h', q, x1, x2, x⟩ := kc k a h1 q1
    refine ⟨r, h', q, Nat.le_trans y1 x1, Nat.le_trans y2 x2, fun p e R s m args below meth c H locs cells slots ls C hR hl hf b1 b2 b3 b4 => ?_⟩
    have hC := C
    obtain ⟨hx, hb, hml, hr', hlk, hown, hmn, hKn, hex⟩ := hC
    intro T hT X
    subst hT
    obtain ⟨vm₁, mk, X₁, hnm, hstep⟩ := go p e R s m args below meth c T locs cells slots ls C hR hl X
    obtain ⟨T', L', X', hL', hTa, hR1, hst'⟩ := xBackT (h1 := h1) X₁ hKn (xMetT hpl hh hln y) hw1 hw2 hR (by omega) (by omega) (Nat.le_trans hfr b3) (Nat.le_trans hwd b4) (g := F0 m pc ls st) rfl (by rw [hml]; exact hl.1) (by rw [hb]; exact hd) (lv_room hst) (X₁.named hnm)
    obtain ⟨vm₂, X₂, hst2⟩ := xcaught (ls := ls) (st := st) X' C hTa hR1 hhnd
    have e1 : (xnx h' - xnx h1) + ((xnx h1 - xnx h) + cells) = (xnx h' - xnx h) + cells := by omega
    have e2 : (xsl h' - xsl h1) + ((xsl h1 - xsl h) + slots) = (xsl h' - xsl h) + slots := by omega
    obtain ⟨t, a1, b1'⟩ := x p e R s m args below meth c (T'.setVm vm₂).heap (locs ++ L') _ _ ls C hR1 hl (fun q0 hq0 => by
      rcases List.mem_append.mp hq0 with z | z
      · exact hf q0 z
      · exact hL' q0 z) (by rw [e1]; exact b1) (by rw [e2]; exact b2) b3 b4 (T'.setVm vm₂) rfl X₂
    rw [e1, e2] at b1'
    exact ⟨t, hstep t (fun acts => by rw [doInvoke_state]; exact (hst'.trans hst2).trans a1), b1'⟩
/-- a call on an object, whose exceptions are caught here -/
theorem x_callVC {l : Launch} {G : xG} {fr wd fr' wd' : Nat} {M M' : xM} {pc : Nat} {L : List (Nat × Value)} {st : List Value} {h : xH} {Q Q' : xR → xH → Prop} {As : List Value} {ix k b : Nat} {C : vw_C} (hd : decode (xMc M) pc = .ok (.invokevirtual ix, 3)) (hT : xT h b = k + 1) (hc : xcls[k]? = some C) (hpl : plainFor (xMn M') = true) (hh : xMh M' = []) (hln : (lg_sl (.ref b :: As)).length ≤ xMl M')
    (hfr : fr' + 1 ≤ fr) (hwd : 19 + xMl M' + wd' ≤ wd) (hw1 : Cond.code (xMn M') (xMc M') (xMl M') (xMr M') ∈ xTT) (hw2 : Cond.initialized (xMn M').cls ∈ xTT) (hw3 : Cond.methodLink (xMn M).cls ix (xMn M') ∈ xTT) (hw4 : Cond.instanceMethod (xMn M') ∈ xTT) (hw5 : Cond.selects C.1 (xMn M') (xMn M') ∈ xTT)
    (hy : (xMn M').cls ≠ "java/lang/invoke/MethodHandle" ∧ (xMn M').cls ≠ "java/lang/invoke/VarHandle") (hn : (parseMethodDescriptor (xMn M').desc).map (fun d => d.parameters.length) = some As.length) (hst : (st.map fun v => v.category).sum ≤ 8)
    (hq : xVM l G fr' wd' M' (.ref b :: As) h Q') (kc : ∀ (k a : Nat) (h1 : xH), Q' (.inr (k, a)) h1 → ∃ hp : Nat, xHnd M pc k hp ∧ xV l G fr wd M hp L [.ref a] h1 Q) (kr : ∀ (v : Option Value) (h1 : xH), Q' (.inl v) h1 → xV l G fr wd M (pc + 3) L (v.toList ++ st) h1 Q) :
    xV l G fr wd M pc L (As.reverse ++ .ref b :: st) h Q := by
  refine xcallC hd hpl hh hln hfr hwd hw1 hw2 hst (fun p e R s m args below meth c T locs cells slots ls Cx hR hl X => ?_) hq kr kc
  obtain ⟨cellB, c1, c2, c3, -⟩ := xobj hR hT hc
  obtain ⟨hx, hb, hml, hr', hlk, hown, hmn, hKn, hex⟩ := Cx
  have hts := hKn.2.2.2.1 args
  have hcls : s.vm.findClass C.1 = some cellB.cls := by rw [c2]; exact (hKn.1 k C hc).2.1
  obtain ⟨mk, methM, hnamed, hmethM, hstM, habM⟩ := Cond.instanceMethod_spec (hts _ hw4)
  obtain ⟨methM', cM, hmethM', -, -, -, -, -, -, hsigM⟩ := Cond.code_spec hnamed (hts _ hw1)
  cases hmethM.symm.trans hmethM'
  obtain ⟨c2', r2, m2, q1, q2, q3, q4, kP, hkP, hkPi⟩ := Cond.selects_spec (hts _ hw5)
  cases hcls.symm.trans q1
  cases (State.methodFound?_of_named hnamed hy).symm.trans q2
  cases hnamed.symm.trans q3
  have hselP : selectMethod e.platform s.vm cellB.cls mk = .method mk := by rw [Launch.admits_selectMethod X.admits]; exact q4
  rw [hsigM] at hn
  obtain ⟨vm₁, X₁, hstep₁⟩ := X.invokevirtual hx hown (hts _ hw3) hnamed hmethM hstM hkP hkPi hy (a := b) (cell := cellB) c1
    (fun z hz => by rw [c3] at hz; cases hz) hselP hmethM habM hkP hkPi (g := F0 m pc ls (As.reverse ++ .ref b :: st)) rfl (argsL := As) (rest := st) (Option.some.inj hn).symm rfl (by rw [hb]; exact hd)
  exact ⟨vm₁, mk, X₁, hnamed, hstep₁⟩
/-- a private constructor of a nest mate -/
theorem x_callIN {l : Launch} {G : xG} {fr wd fr' wd' : Nat} {M M' : xM} {pc : Nat} {L : List (Nat × Value)} {st : List Value} {h : xH} {Q Q' : xR → xH → Prop} {As : List Value} {ix b : Nat} {host : String} (hd : decode (xMc M) pc = .ok (.invokespecial ix, 3)) (hpl : plainFor (xMn M') = true) (hh : xMh M' = []) (hln : (lg_sl (.ref b :: As)).length ≤ xMl M') (hfr : fr' + 1 ≤ fr) (hwd : 19 + xMl M' + wd' ≤ wd) (hr0 : xMr M' = none) (hni : (xMn M').name = "<init>")
    (hw1 : Cond.code (xMn M') (xMc M') (xMl M') (xMr M') ∈ xTT) (hw2 : Cond.initialized (xMn M').cls ∈ xTT) (hw3 : Cond.methodLinkNest (xMn M).cls ix (xMn M') host ∈ xTT) (hw4 : Cond.instanceMethod (xMn M') ∈ xTT)
    (hy : (xMn M').cls ≠ "java/lang/invoke/MethodHandle" ∧ (xMn M').cls ≠ "java/lang/invoke/VarHandle") (hn : (parseMethodDescriptor (xMn M').desc).map (fun d => d.parameters.length) = some As.length) (hst : (st.map fun v => v.category).sum ≤ 8) (hno : ∀ q ∈ xMh M, ¬ (q.1 ≤ pc ∧ pc < q.2.1))
    (hq : xVM l G fr' wd' M' (.ref b :: As) h Q') (kt : ∀ (k a : Nat) (h1 : xH), Q' (.inr (k, a)) h1 → Q (.inr (k, a)) h1) (kr : ∀ (v : Option Value) (h1 : xH), Q' (.inl v) h1 → xV l G fr wd M (pc + 3) L (v.toList ++ st) h1 Q) :
    xV l G fr wd M pc L (As.reverse ++ .ref b :: st) h Q := by
  refine xcall hd hpl hh hln hfr hwd hw1 hw2 hst (fun p e R s m args below meth c T locs cells slots ls Cx hR hl X => ?_) hq kr kt hno
  obtain ⟨hx, hb, hml, hr', hlk, hown, hmn, hKn, hex⟩ := Cx
  have hts := hKn.2.2.2.1 args
  have hpl2 : e.platform.magicAccessors = ({} : Platform).magicAccessors := by rw [X.admits.platform]
  have hc1 := hts _ hw1
  rw [hr0] at hc1
  obtain ⟨mk, methM, cM, kP, vm₁, hnamed, hmethM, hcodeM, -, hlocalsM, -, hkP, -, hW₁, hstep₁⟩ := Steps.initColdArgsNest (e := e) X.here hx X.warmed hpl2 hown hni hy (hts _ hw3) (hts _ hw4) hc1 (f := F0 m pc ls (As.reverse ++ .ref b :: st)) rfl (fun sig hs => by rw [hs] at hn; exact (Option.some.inj hn).symm) rfl (by rw [hb]; exact hd)
  exact ⟨vm₁, mk, X.noted hW₁, hnamed, hstep₁⟩
end
section
theorem xstat_of {args : Array Value} {s : State} {C n ds : String} (hl : (Cond.laysStatic C n ds).before args s = true) (h : (Cond.isRef (.static C n ds)).before args s = true) : xStat s.heap s (C, n, ds) := by
  obtain ⟨c, k, i, f, a, cell, hc, hi, hst, ha, hcell, hs, hcls, hlt, hty⟩ := Cond.laysStatic_spec hl
  have he : (Term.static C n ds).eval args s none [] s = cell.slots[f.slot]? := by simp [Term.eval, State.fieldNamed?, hi, hst, ha, hcell, hs]
  simp only [Cond.before, Cond.holds, Cond.value, he] at h
  cases hv : cell.slots[f.slot]? with
  | none => simp [hv] at h
  | some v =>
    refine ⟨c, k, i, f, a, cell, v, hc, hi, hst, ha, hcell, hs, hcls, hlt, hty, hv, ?_⟩
    cases v with
    | null => exact Or.inl rfl
    | ref t => exact Or.inr ⟨t, rfl⟩
    | _ => simp [hv] at h
theorem xarr_p {args : Array Value} {s : State} {ty : FieldType} (h : (Cond.arrayClass ty).before args s = true) (hra : ∀ c : ClassId, va_RA s c ty = (s.vm.findClass ("[" ++ ty.toString) = some c)) : ∃ cA : ClassId, ArrOfT s cA ty ∧ va_RA s cA ty := by
  obtain ⟨c, k, comp, h1, h2, h3⟩ := Cond.arrayClass_spec h
  exact ⟨c, fun n z => ⟨fun k h => (by cases h), k, h2, comp, h3⟩, by rw [hra]; exact h1⟩
theorem xarr_o {args : Array Value} {s : State} {C : String} (h : (Cond.arrayOver (.object C)).before args s = true) : ∃ cA : ClassId, ArrOfT s cA (.object C) ∧ va_RA s cA (.object C) := by
  obtain ⟨comp, c, k, h1, h2, h3, h4, h5⟩ := Cond.arrayOver_spec h
  exact ⟨c, fun n z => ⟨fun k h => (by cases h), k, h3, comp, h4⟩, k, comp, h3, h4, h1, h5⟩
set_option maxHeartbeats 4000000 in
theorem xstart {p : Program} {s : State} {m : MethodId} {meth : Method} {c : Code} {b L : Nat} {xs : Nat → Int32} (C0 : lw_At p s m meth c b L xs) : ∃ (D : va_G) (cA : Nat → ClassId), xKn (D, cA, s.heap, b, L, xs) s := by
  obtain ⟨hx, hb, hr, hml, hown, hts, hX, hbl, hlocks, hgv⟩ := C0
  have htt : ∀ (a' : Array Value) (w : Cond), w ∈ xTT → w.before a' s = true := fun a' w hw => xword (State.WarmedH.refl s) (xTTgood w hw) (hts w (List.mem_filter.mp hw).1)
  have hf := flat_of_before _ hgv
  obtain ⟨c0, i0, k0⟩ := u_known (C := "ReduceCluster") (T := F_A) (N := 15) (n := 15) (htt #[]) i_A (htt #[] _ wo_A)
  obtain ⟨c1, i1, k1⟩ := u_known (C := "ReduceCluster$Chunk") (T := F_C) (N := 2) (n := 2) (htt #[]) i_C (htt #[] _ wo_C)
  obtain ⟨c2, i2, k2⟩ := u_known (C := "ReduceCluster$Job") (T := F_J) (N := 5) (n := 5) (htt #[]) i_J (htt #[] _ wo_J)
  obtain ⟨c3, i3, k3⟩ := u_known (C := "ReduceCluster$Pairs") (T := F_P) (N := 3) (n := 3) (htt #[]) i_P (htt #[] _ wo_P)
  obtain ⟨c4, i4, k4⟩ := u_known (C := "ReduceCluster$Task") (T := F_T) (N := 5) (n := 5) (htt #[]) i_T (htt #[] _ wo_T)
  obtain ⟨c5, i5, k5⟩ := u_known (C := "ReduceCluster$Worker") (T := F_K) (N := 5) (n := 5) (htt #[]) i_K (htt #[] _ wo_K)
  obtain ⟨c6, i6, k6⟩ := u_known (C := "ReduceClusterModel") (T := F_M) (N := 31) (n := 31) (htt #[]) i_M (htt #[] _ wo_M)
  obtain ⟨a100, p100⟩ := xarr_p (ty := .int) (htt #[] _ wa_int) (fun _ => rfl)
  obtain ⟨a101, p101⟩ := xarr_p (ty := .boolean) (htt #[] _ wa_boolean) (fun _ => rfl)
  obtain ⟨a102, p102⟩ := xarr_p (ty := .long) (htt #[] _ wa_long) (fun _ => rfl)
  obtain ⟨a110, p110⟩ := xarr_o (htt #[] _ wq_K)
  obtain ⟨a111, p111⟩ := xarr_o (htt #[] _ wq_C)
  obtain ⟨a112, p112⟩ := xarr_o (htt #[] _ wq_T)
  obtain ⟨a113, p113⟩ := xarr_o (htt #[] _ wq_P)
  obtain ⟨a200, -, p200, -⟩ := Cond.instantiable_spec (htt #[] _ wo_IllegalArgumentException)
  obtain ⟨a201, -, p201, -⟩ := Cond.instantiable_spec (htt #[] _ wo_IllegalStateException)
  obtain ⟨a202, -, p202, -⟩ := Cond.instantiable_spec (htt #[] _ wo_NoSuchElementException)
  obtain ⟨a203, -, p203, -⟩ := Cond.instantiable_spec (htt #[] _ wo_ArithmeticException)
  refine ⟨(fun k => match k with | 0 => c0 | 1 => c1 | 2 => c2 | 3 => c3 | 4 => c4 | 5 => c5 | _ => c6, fun k => match k with | 0 => i0 | 1 => i1 | 2 => i2 | 3 => i3 | 4 => i4 | 5 => i5 | _ => i6), fun t => match t with | 100 => a100 | 101 => a101 | 102 => a102 | 110 => a110 | 111 => a111 | 112 => a112 | 113 => a113 | 200 => a200 | 201 => a201 | 202 => a202 | _ => a203, ?_, ?_, ?_, htt, ?_, ?_, hX⟩
  · intro k q hq
    match k, hq with
    | 0, hq => cases hq; exact k0
    | 1, hq => cases hq; exact k1
    | 2, hq => cases hq; exact k2
    | 3, hq => cases hq; exact k3
    | 4, hq => cases hq; exact k4
    | 5, hq => cases hq; exact k5
    | 6, hq => cases hq; exact k6
    | n + 7, hq => simp [xcls] at hq
  · intro t ty ht
    unfold xat at ht
    split at ht
    · cases ht; exact p100
    · cases ht; exact p101
    · cases ht; exact p102
    · cases ht; exact p110
    · cases ht; exact p111
    · cases ht; exact p112
    · cases ht; exact p113
    · cases ht
  · intro k n hk
    match k, hk with
    | 0, hk => cases hk; exact p200
    | 1, hk => cases hk; exact p201
    | 2, hk => cases hk; exact p202
    | 3, hk => cases hk; exact p203
    | n + 4, hk => simp [xexn] at hk
  · intro q hq
    simp only [xSS, List.mem_cons, List.not_mem_nil, or_false] at hq
    rcases hq with rfl | rfl
    · exact xstat_of (hts _ (List.mem_append_right _ (List.mem_append_right _ (List.mem_append_left _ (List.mem_of_getElem? (l := tables_1_2) (i := 26) rfl))))) (hf (Cond.isRef (.static "java/lang/Throwable" "UNASSIGNED_STACK" "[Ljava/lang/StackTraceElement;")) (by decide +kernel))
    · exact xstat_of (hts _ (List.mem_append_right _ (List.mem_append_right _ (List.mem_append_left _ (List.mem_of_getElem? (l := tables_1_2) (i := 28) rfl))))) (hf (Cond.isRef (.static "java/lang/Throwable" "SUPPRESSED_SENTINEL" "Ljava/util/List;")) (by decide +kernel))
  · intro q hq
    simp only [xNC, List.mem_cons, List.not_mem_nil, or_false] at hq
    rcases hq with rfl | rfl | rfl | rfl | rfl | rfl | rfl | rfl | rfl | rfl | rfl | rfl
    · exact va_Nc.of (hf (Cond.not (.castable "java/lang/IllegalArgumentException" "java/lang/IllegalStateException")) (by decide +kernel))
    · exact va_Nc.of (hf (Cond.not (.castable "java/lang/IllegalArgumentException" "java/util/NoSuchElementException")) (by decide +kernel))
    · exact va_Nc.of (hf (Cond.not (.castable "java/lang/IllegalArgumentException" "java/lang/ArithmeticException")) (by decide +kernel))
    · exact va_Nc.of (hf (Cond.not (.castable "java/lang/IllegalStateException" "java/lang/IllegalArgumentException")) (by decide +kernel))
    · exact va_Nc.of (hf (Cond.not (.castable "java/lang/IllegalStateException" "java/util/NoSuchElementException")) (by decide +kernel))
    · exact va_Nc.of (hf (Cond.not (.castable "java/lang/IllegalStateException" "java/lang/ArithmeticException")) (by decide +kernel))
    · exact va_Nc.of (hf (Cond.not (.castable "java/util/NoSuchElementException" "java/lang/IllegalArgumentException")) (by decide +kernel))
    · exact va_Nc.of (hf (Cond.not (.castable "java/util/NoSuchElementException" "java/lang/IllegalStateException")) (by decide +kernel))
    · exact va_Nc.of (hf (Cond.not (.castable "java/util/NoSuchElementException" "java/lang/ArithmeticException")) (by decide +kernel))
    · exact va_Nc.of (hf (Cond.not (.castable "java/lang/ArithmeticException" "java/lang/IllegalArgumentException")) (by decide +kernel))
    · exact va_Nc.of (hf (Cond.not (.castable "java/lang/ArithmeticException" "java/lang/IllegalStateException")) (by decide +kernel))
    · exact va_Nc.of (hf (Cond.not (.castable "java/lang/ArithmeticException" "java/util/NoSuchElementException")) (by decide +kernel))
end
section
/-- the law itself -/
def m_L_law : xM := (x, code, maxLocals, ret, [])
/-- the heap at the start: nothing is made yet -/
def xh0 (G : xG) : xH := ((xGz G, 0), (fun _ => 0, fun _ => 0), fun _ _ => 0, fun _ _ => none, fun _ _ => 0)
theorem xRep0 (G : xG) : xRep G (xh0 G) (xGH G) := ⟨rfl, Nat.le_refl _, fun _ _ => rfl, fun a ha => absurd rfl ha⟩
/-- what is owed of the law's body, in the judgement's words -/
def xLaw (l : Launch) : Prop := ∀ G : xG, xGL G ≤ 2560 → xV l G 11 388 m_L_law 0 [(0, .ref (xGb G))] [] (xh0 G) (fun r h' => r = .inl (some (.int 1)) ∧ xnx h' ≤ xGz G + 601024 ∧ xsl h' ≤ 7293033)
set_option maxHeartbeats 4000000 in
theorem lw_walk (l : Launch) (hV : xLaw l) (b : Addr) (xs : List Int32) : MetFree l x (headSpec (Jvm.Cond.code x code maxLocals ret :: tables_1) room_1) (lw_P b xs) (fun _ _ _ _ _ => True) lw_Q := by
  refine MetFree.of_bodyS (code := code) (maxLocals := maxLocals) (ret := ret) (by decide) ?_ ?_
  · intro args s m h hn
    obtain ⟨meth, c, h1, h2, h3, h4, h5, h6, -, -⟩ := Cond.code_spec hn (atoms_spec (ws := Jvm.Cond.code x code maxLocals ret :: tables_1) h _ List.mem_cons_self)
    exact ⟨meth, c, h1, h2, h3, h4, h5, h6⟩
  · intro p e s m args below meth c s₁ B hml0 hP _
    obtain ⟨rfl, hx, hbd, hgv⟩ := hP
    obtain ⟨scr, harrAt, hlist, hof, hsmall⟩ := hx
    obtain ⟨hcb, hkn, -, -⟩ := State.arrayAt?_spec harrAt
    have hown : s.vm.findClass R_law = some m.cls := findClass_of_methodNamed B.named
    have hts0 : ∀ c ∈ (Jvm.Cond.code x code maxLocals ret :: tables_1), c.before #[Value.ref b] s = true := atoms_spec (ws := Jvm.Cond.code x code maxLocals ret :: tables_1) B.pre
    have hts : ∀ w ∈ lw_tbl, w.before #[Value.ref b] s = true := k2_hts_sels lw_privs (fun w hw => hts0 w (List.mem_cons_of_mem _ hw)) lw_privs_ok
    have hml : c.maxLocals = 7 := B.maxLocals_eq (hts0 _ List.mem_cons_self)
    have X₀ : Stand p l e room_1 s m #[Value.ref b] below meth c s₁ [] 0 0 := Stand.of_body B
    have hh0 : s₁.heap = s.heap := by rw [B.state]; rfl
    have hsz : scr.slots.size = xs.length := by rw [← Array.length_toList, hlist, List.length_map]
    have hval : ∀ j : Nat, j < xs.length → scr.slots[j]? = some (.int (xs.getD j 0)) := fun j hj => by
      rw [← Array.getElem?_toList, hlist]
      simp [hj]
    have hbl : b < s.heap.size := (Array.getElem?_eq_some_iff.mp hcb).1
    have hX : va_X b xs.length (fun j => xs.getD j 0) s s.heap := ⟨scr, hcb, hof, hkn, hsz, hval⟩
    have he2 : c.exceptionTable.toList = [] := by simpa using B.noHandlers (hts0 _ List.mem_cons_self)
    obtain ⟨D, cA, hK⟩ := xstart (p := p) (m := m) (meth := meth) (c := c) ⟨B.exec, B.bytes, B.returns, hml, hown, hts, hX, hbl, B.notSynchronized, hgv⟩
    obtain ⟨r, h', ⟨hq1, hq2, hq3⟩, x1, x2, xx⟩ := hV (D, cA, s.heap, b, xs.length, fun j => xs.getD j 0) hbd
    subst hq1
    have hq2' : xnx h' ≤ s.heap.size + 601024 := hq2
    have e1 : (xnx h' - s.heap.size) + 0 ≤ 601024 := by omega
    have e2 : (xsl h' - 0) + 0 ≤ 7293033 := by omega
    rw [show entryFrame m #[Value.ref b] maxLocals = F0 m 0 ((lg_sl [Value.ref b] ++ List.replicate (7 - (lg_sl [Value.ref b]).length) Slot.unset).toArray) [] from lg_entry_eq m [Value.ref b] 7]
    obtain ⟨t, a1, o, b1, b2, b3, L0, b4, b5⟩ := xx p e room_1 s m #[Value.ref b] below meth c s.heap [] 0 0 _ ⟨B.exec, B.bytes, hml, B.returns, B.notSynchronized, hown, (name_of_methodNamed B.named B.method).1, hK, by rw [he2]; rfl⟩ (xRep0 _) (lv_entry [Value.ref b] (n := 7) (Nat.le_of_ble_eq_true rfl)) (fun q hq => by cases hq) e1 e2 (Nat.le_refl _) (Nat.le_refl _) s₁ hh0 X₀
    refine ⟨t, o, a1, b1, b2, b3.1, ⟨_, b3.1⟩, b4.2.1, b4.2.2.weaken (fun y hy hlt => absurd hlt (Nat.not_lt.mpr (b5 y hy))) e1 e2⟩
theorem lw_pre_spec {args : Array Value} {s : State} (h : (Jvm.Cond.and given_1 narrow_1).before args s = true) (hr : rest_1_c.before args s = true) : ∃ (b : Addr) (xs : List Int32), lw_P b xs args s := by
  have hs := flat_of_before _ h
  have hq := flat_of_before _ hr
  have hc : (Cond.count 1).before args s = true := hs _ (by decide +kernel)
  have harr : (Cond.arrayOf (.arg 0) .int).before args s = true := hs _ (by decide +kernel)
  have hle : (Cond.le (.length (.arg 0)) (.int 2560)).before args s = true := hs _ (by decide +kernel)
  have hlen : (Cond.isInt (.length (.arg 0))).before args s = true := hq _ (by decide +kernel)
  have hall : (Cond.all (.arg 0) (.isInt (.elem (.arg 0) (.index 0)))).before args s = true := hq _ (by decide +kernel)
  obtain ⟨b, xs, hb, hx⟩ := State.ints_of_pre rfl harr hlen hall
  have hsm : xs.length < 2 ^ 31 := hx.choose_spec.2.2.2
  have hev : (Term.length (.arg 0)).eval args s none [] s = some (.int xs.length.toInt32) := hx.length_eval hb
  have hv := Cond.le_ints hev (show (Term.int 2560).eval args s none [] s = some (.int 2560) from rfl)
  have hd : xs.length.toInt32 ≤ 2560 := by
    simpa [Cond.before, Cond.holds, hv] using hle
  have hN : xs.length ≤ 2560 := (Int32.ofNat_le_ofNat hsm (by decide)).mp (show Int32.ofNat xs.length ≤ Int32.ofNat 2560 from hd)
  exact ⟨b, xs, Cond.one_arg hc (show args[0]? = some (.ref b) from hb), hx, hN, h⟩
theorem lw_comes (l : Launch) (hV : xLaw l) : Comes l x (Jvm.Cond.code x code maxLocals ret :: tables_1) room_1 (fun tb e args s => Calls_1 tb e args s ∧ rest_1 tb e args s ∧ Pre_1 tb e args s)
    (fun _ _ args s o t => lw_Q args s o t) := by
  intro p e ha hc hk s m args below hf hfit hheap happ hpre
  obtain ⟨b, xs, hP⟩ := lw_pre_spec hpre.2.2 hpre.2.1
  obtain ⟨k, o, h1, h2, h3, hQ⟩ := lw_walk l hV b xs p e ha hc hk s m args below hf ((Spec.applies_iff_loose hf).mp happ).1 hP trivial
  exact ⟨k, o, h1, h2, h3, hQ⟩
theorem lw_frame {s t : State} {o : Outcome} {args : Array Value} (h : Framed s o t [] 601024 7293033) :
    Framed s o t (fieldLocs frame_1_writes args s ++ arrayLocs frame_1_arrays args s ++ staticLocs frame_1_statics s) 601024 7293033 := h
theorem lw_limb (hV : ∀ l : Launch, l.stackTraces = false → xLaw l) (L : Cond) (hL : ∀ (args : Array Value) (s t : State), L.after args s (.returned (some (.int 1))) t = true) :
    ArmFor flags0 classFile x code maxLocals ret World_1 tables_1 room_1 Calls_1 rest_1 Pre_1
      (fun tb e a s o t => postC L tb e a s o t ∧ Framed s o t (fieldLocs frame_1_writes a s ++ arrayLocs frame_1_arrays a s ++ staticLocs frame_1_statics s) 601024 7293033) := by
  intro l hfl _ _ p e ha hc hk s m args below hf hfit hheap happ hpre
  obtain ⟨k, o, h1, h2, h3, rfl, hF⟩ := lw_comes l (hV l (by rw [Launch.stackTraces, hfl]; decide +kernel)) p e ha hc hk s m args below hf hfit hheap happ hpre
  exact ⟨k, _, h1, h2, h3, hL args s _, lw_frame hF⟩
end
section
section XSUGAR
variable {l : Launch} {G : xG} {fr wd : Nat} {M : xM} {pc : Nat} {L : List (Nat × Value)} {st : List Value} {h : xH} {Q : xR → xH → Prop}
theorem x_getI {ix k j a : Nat} {C : vw_C} (hd : decode (xMc M) pc = .ok (.getfield ix, 3)) (hT : xT h a = k + 1) (hc : xcls[k]? = some C) (hj : j < C.2.2) (hw : Cond.fieldLink (xMn M).cls ix (C.2.1 j).1 (C.2.1 j).2.1 (C.2.1 j).2.2.1 ∈ xTT) (hv : xsv (xft k j) h a j = .int (xI h a j))
    (kq : xV l G fr wd M (pc + 3) L (.int (xI h a j) :: st) h Q) : xV l G fr wd M pc L (.ref a :: st) h Q := x_get hd hT hc hj hw hv kq
theorem x_getQ {ix k j a : Nat} {C : vw_C} (hd : decode (xMc M) pc = .ok (.getfield ix, 3)) (hT : xT h a = k + 1) (hc : xcls[k]? = some C) (hj : j < C.2.2) (hw : Cond.fieldLink (xMn M).cls ix (C.2.1 j).1 (C.2.1 j).2.1 (C.2.1 j).2.2.1 ∈ xTT) (hv : xsv (xft k j) h a j = va_rf (xP h a j))
    (kq : xV l G fr wd M (pc + 3) L (va_rf (xP h a j) :: st) h Q) : xV l G fr wd M pc L (.ref a :: st) h Q := x_get hd hT hc hj hw hv kq
theorem x_getR {ix k j a b : Nat} {C : vw_C} (hd : decode (xMc M) pc = .ok (.getfield ix, 3)) (hT : xT h a = k + 1) (hc : xcls[k]? = some C) (hj : j < C.2.2) (hw : Cond.fieldLink (xMn M).cls ix (C.2.1 j).1 (C.2.1 j).2.1 (C.2.1 j).2.2.1 ∈ xTT) (hv : xsv (xft k j) h a j = va_rf (xP h a j)) (hp : xP h a j = some b)
    (kq : xV l G fr wd M (pc + 3) L (.ref b :: st) h Q) : xV l G fr wd M pc L (.ref a :: st) h Q := x_get hd hT hc hj hw (hv.trans (by rw [hp]; rfl)) kq
theorem x_aaldR {t a b : Nat} {C : String} {i : Int32} (hd : decode (xMc M) pc = .ok (.aaload, 1)) (hT : xT h a = t) (ht : 100 ≤ t ∧ t < 200) (hty : xat t = some (.object C)) (hi : vp_in i (xN h a)) (hp : xP h a i.toNatClampNeg = some b)
    (kq : xV l G fr wd M (pc + 1) L (.ref b :: st) h Q) : xV l G fr wd M pc L (.int i :: .ref a :: st) h Q := x_aald hd hT ht hty rfl hi (show va_rf (xP h a i.toNatClampNeg) = .ref b by rw [hp]; rfl) kq
theorem x_inc {i : Nat} {x : Int32} (hd : decode (xMc M) pc = .ok (.iinc i 1, 3)) (hx : xlk L i = some (.int x)) (hn : i < xMl M) (kq : xV l G fr wd M (pc + 3) (xst L i (.int (x + 1))) st h Q) : xV l G fr wd M pc L st h Q := x_iinc hd hx rfl hn kq
/-- a reference on the stack, under the name that comparisons ask -/
theorem x_asQ1 {a : Nat} (kq : xV l G fr wd M pc L (va_rf (some a) :: st) h Q) : xV l G fr wd M pc L (.ref a :: st) h Q := kq
theorem x_getE {ix k j a : Nat} {C : vw_C} {v : Int32} (hd : decode (xMc M) pc = .ok (.getfield ix, 3)) (hT : xT h a = k + 1) (hc : xcls[k]? = some C) (hj : j < C.2.2) (hw : Cond.fieldLink (xMn M).cls ix (C.2.1 j).1 (C.2.1 j).2.1 (C.2.1 j).2.2.1 ∈ xTT) (hv : xsv (xft k j) h a j = .int (xI h a j)) (he : xI h a j = v)
    (kq : xV l G fr wd M (pc + 3) L (.int v :: st) h Q) : xV l G fr wd M pc L (.ref a :: st) h Q := x_get hd hT hc hj hw (hv.trans (by rw [he])) kq
theorem x_alenN {a cap : Nat} {t : Nat} {ty : FieldType} (hd : decode (xMc M) pc = .ok (.arraylength, 1)) (hT : xT h a = t) (ht : 100 ≤ t ∧ t < 200) (hty : xat t = some ty) (hn : xN h a = cap)
    (kq : xV l G fr wd M (pc + 1) L (.int (nI cap) :: st) h Q) : xV l G fr wd M pc L (.ref a :: st) h Q := x_alen hd hT ht hty (by rw [hn]; rfl) kq
theorem x_ialdN {a i cap : Nat} {v : Int32} (hd : decode (xMc M) pc = .ok (.iaload, 1)) (hT : xT h a = 100) (hn : xN h a = cap) (hi : i < cap) (hc : cap < 2 ^ 31) (he : xI h a i = v)
    (kq : xV l G fr wd M (pc + 1) L (.int v :: st) h Q) : xV l G fr wd M pc L (.int (nI i) :: .ref a :: st) h Q := by
  refine x_iald (t := 100) hd hT (by decide) rfl (by rw [hn]; exact vp_in_nI hi hc) ?_
  rw [nI_clamp (Nat.lt_trans hi hc), he]
  exact kq
theorem x_zaldN {a i cap : Nat} {v : Int32} (hd : decode (xMc M) pc = .ok (.baload, 1)) (hT : xT h a = 101) (hn : xN h a = cap) (hi : i < cap) (hc : cap < 2 ^ 31) (he : xI h a i = v)
    (kq : xV l G fr wd M (pc + 1) L (.int v :: st) h Q) : xV l G fr wd M pc L (.int (nI i) :: .ref a :: st) h Q := by
  refine x_zald (t := 101) hd hT (by decide) rfl (by rw [hn]; exact vp_in_nI hi hc) ?_
  rw [nI_clamp (Nat.lt_trans hi hc), he]
  exact kq
theorem x_iastN {a i cap : Nat} {v : Int32} (hd : decode (xMc M) pc = .ok (.iastore, 1)) (hT : xT h a = 100) (hn : xN h a = cap) (hi : i < cap) (hc : cap < 2 ^ 31)
    (kq : xV l G fr wd M (pc + 1) L st (xwI h a i v) Q) : xV l G fr wd M pc L (.int v :: .int (nI i) :: .ref a :: st) h Q := by
  refine x_iast (t := 100) hd hT (by decide) rfl (by rw [hn]; exact vp_in_nI hi hc) ?_
  rw [nI_clamp (Nat.lt_trans hi hc)]
  exact kq
theorem x_aaldN {t a b i cap : Nat} {C : String} (hd : decode (xMc M) pc = .ok (.aaload, 1)) (hT : xT h a = t) (ht : 100 ≤ t ∧ t < 200) (hty : xat t = some (.object C)) (hn : xN h a = cap) (hi : i < cap) (hc : cap < 2 ^ 31) (hp : xP h a i = some b)
    (kq : xV l G fr wd M (pc + 1) L (.ref b :: st) h Q) : xV l G fr wd M pc L (.int (nI i) :: .ref a :: st) h Q := by
  refine x_aaldR hd hT ht hty (by rw [hn]; exact vp_in_nI hi hc) ?_ kq
  rw [nI_clamp (Nat.lt_trans hi hc)]
  exact hp
end XSUGAR
end
section
theorem d_P_init_0 : decode (xMc m_P_init) 0 = .ok (.aload_n 0, 1) := by decide +kernel
theorem d_P_init_1 : decode (xMc m_P_init) 1 = .ok (.invokespecial 3, 3) := by decide +kernel
theorem d_P_init_4 : decode (xMc m_P_init) 4 = .ok (.aload_n 0, 1) := by decide +kernel
theorem d_P_init_5 : decode (xMc m_P_init) 5 = .ok (.iconst 0, 1) := by decide +kernel
theorem d_P_init_6 : decode (xMc m_P_init) 6 = .ok (.putfield 9, 3) := by decide +kernel
theorem d_P_init_9 : decode (xMc m_P_init) 9 = .ok (.aload_n 0, 1) := by decide +kernel
theorem d_P_init_10 : decode (xMc m_P_init) 10 = .ok (.iload_n 1, 1) := by decide +kernel
theorem d_P_init_11 : decode (xMc m_P_init) 11 = .ok (.newarray .int, 2) := by decide +kernel
theorem d_P_init_13 : decode (xMc m_P_init) 13 = .ok (.putfield 15, 3) := by decide +kernel
theorem d_P_init_16 : decode (xMc m_P_init) 16 = .ok (.aload_n 0, 1) := by decide +kernel
theorem d_P_init_17 : decode (xMc m_P_init) 17 = .ok (.iload_n 1, 1) := by decide +kernel
theorem d_P_init_18 : decode (xMc m_P_init) 18 = .ok (.newarray .int, 2) := by decide +kernel
theorem d_P_init_20 : decode (xMc m_P_init) 20 = .ok (.putfield 19, 3) := by decide +kernel
theorem d_P_init_23 : decode (xMc m_P_init) 23 = .ok (.return_, 1) := by decide +kernel
theorem d_J_init_0 : decode (xMc m_J_init) 0 = .ok (.aload_n 0, 1) := by decide +kernel
theorem d_J_init_1 : decode (xMc m_J_init) 1 = .ok (.invokespecial 3, 3) := by decide +kernel
theorem d_J_init_4 : decode (xMc m_J_init) 4 = .ok (.aload_n 0, 1) := by decide +kernel
theorem d_J_init_5 : decode (xMc m_J_init) 5 = .ok (.iconst 3, 1) := by decide +kernel
theorem d_J_init_6 : decode (xMc m_J_init) 6 = .ok (.anewarray 9, 3) := by decide +kernel
theorem d_J_init_9 : decode (xMc m_J_init) 9 = .ok (.putfield 11, 3) := by decide +kernel
theorem d_J_init_12 : decode (xMc m_J_init) 12 = .ok (.aload_n 0, 1) := by decide +kernel
theorem d_J_init_13 : decode (xMc m_J_init) 13 = .ok (.iconst 3, 1) := by decide +kernel
theorem d_J_init_14 : decode (xMc m_J_init) 14 = .ok (.anewarray 9, 3) := by decide +kernel
theorem d_J_init_17 : decode (xMc m_J_init) 17 = .ok (.putfield 17, 3) := by decide +kernel
theorem d_J_init_20 : decode (xMc m_J_init) 20 = .ok (.aload_n 0, 1) := by decide +kernel
theorem d_J_init_21 : decode (xMc m_J_init) 21 = .ok (.iconst 0, 1) := by decide +kernel
theorem d_J_init_22 : decode (xMc m_J_init) 22 = .ok (.putfield 20, 3) := by decide +kernel
theorem d_J_init_25 : decode (xMc m_J_init) 25 = .ok (.aload_n 0, 1) := by decide +kernel
theorem d_J_init_26 : decode (xMc m_J_init) 26 = .ok (.iconst 0, 1) := by decide +kernel
theorem d_J_init_27 : decode (xMc m_J_init) 27 = .ok (.putfield 24, 3) := by decide +kernel
theorem d_J_init_30 : decode (xMc m_J_init) 30 = .ok (.aload_n 0, 1) := by decide +kernel
theorem d_J_init_31 : decode (xMc m_J_init) 31 = .ok (.ldc 29, 2) := by decide +kernel
theorem d_J_init_33 : decode (xMc m_J_init) 33 = .ok (.putfield 30, 3) := by decide +kernel
theorem d_J_init_36 : decode (xMc m_J_init) 36 = .ok (.iconst 0, 1) := by decide +kernel
theorem d_J_init_37 : decode (xMc m_J_init) 37 = .ok (.istore_n 1, 1) := by decide +kernel
theorem d_J_init_38 : decode (xMc m_J_init) 38 = .ok (.iload_n 1, 1) := by decide +kernel
theorem d_J_init_39 : decode (xMc m_J_init) 39 = .ok (.iconst 3, 1) := by decide +kernel
theorem d_J_init_40 : decode (xMc m_J_init) 40 = .ok (.if_icmp .ge 40, 3) := by decide +kernel
theorem d_J_init_43 : decode (xMc m_J_init) 43 = .ok (.aload_n 0, 1) := by decide +kernel
theorem d_J_init_44 : decode (xMc m_J_init) 44 = .ok (.getfield 11, 3) := by decide +kernel
theorem d_J_init_47 : decode (xMc m_J_init) 47 = .ok (.iload_n 1, 1) := by decide +kernel
theorem d_J_init_48 : decode (xMc m_J_init) 48 = .ok (.new 9, 3) := by decide +kernel
theorem d_J_init_51 : decode (xMc m_J_init) 51 = .ok (.dup, 1) := by decide +kernel
theorem d_J_init_52 : decode (xMc m_J_init) 52 = .ok (.sipush 216, 3) := by decide +kernel
theorem d_J_init_55 : decode (xMc m_J_init) 55 = .ok (.invokespecial 33, 3) := by decide +kernel
theorem d_J_init_58 : decode (xMc m_J_init) 58 = .ok (.aastore, 1) := by decide +kernel
theorem d_J_init_59 : decode (xMc m_J_init) 59 = .ok (.aload_n 0, 1) := by decide +kernel
theorem d_J_init_60 : decode (xMc m_J_init) 60 = .ok (.getfield 17, 3) := by decide +kernel
theorem d_J_init_63 : decode (xMc m_J_init) 63 = .ok (.iload_n 1, 1) := by decide +kernel
theorem d_J_init_64 : decode (xMc m_J_init) 64 = .ok (.new 9, 3) := by decide +kernel
theorem d_J_init_67 : decode (xMc m_J_init) 67 = .ok (.dup, 1) := by decide +kernel
theorem d_J_init_68 : decode (xMc m_J_init) 68 = .ok (.bipush 36, 2) := by decide +kernel
theorem d_J_init_70 : decode (xMc m_J_init) 70 = .ok (.invokespecial 33, 3) := by decide +kernel
theorem d_J_init_73 : decode (xMc m_J_init) 73 = .ok (.aastore, 1) := by decide +kernel
theorem d_J_init_74 : decode (xMc m_J_init) 74 = .ok (.iinc 1 1, 3) := by decide +kernel
theorem d_J_init_77 : decode (xMc m_J_init) 77 = .ok (.goto (-39), 3) := by decide +kernel
theorem d_J_init_80 : decode (xMc m_J_init) 80 = .ok (.return_, 1) := by decide +kernel
theorem d_K_init_0 : decode (xMc m_K_init) 0 = .ok (.aload_n 0, 1) := by decide +kernel
theorem d_K_init_1 : decode (xMc m_K_init) 1 = .ok (.invokespecial 3, 3) := by decide +kernel
theorem d_K_init_4 : decode (xMc m_K_init) 4 = .ok (.aload_n 0, 1) := by decide +kernel
theorem d_K_init_5 : decode (xMc m_K_init) 5 = .ok (.iconst 1, 1) := by decide +kernel
theorem d_K_init_6 : decode (xMc m_K_init) 6 = .ok (.putfield 9, 3) := by decide +kernel
theorem d_K_init_9 : decode (xMc m_K_init) 9 = .ok (.aload_n 0, 1) := by decide +kernel
theorem d_K_init_10 : decode (xMc m_K_init) 10 = .ok (.iconst 1, 1) := by decide +kernel
theorem d_K_init_11 : decode (xMc m_K_init) 11 = .ok (.putfield 15, 3) := by decide +kernel
theorem d_K_init_14 : decode (xMc m_K_init) 14 = .ok (.aload_n 0, 1) := by decide +kernel
theorem d_K_init_15 : decode (xMc m_K_init) 15 = .ok (.aconst_null, 1) := by decide +kernel
theorem d_K_init_16 : decode (xMc m_K_init) 16 = .ok (.putfield 19, 3) := by decide +kernel
theorem d_K_init_19 : decode (xMc m_K_init) 19 = .ok (.aload_n 0, 1) := by decide +kernel
theorem d_K_init_20 : decode (xMc m_K_init) 20 = .ok (.iconst 0, 1) := by decide +kernel
theorem d_K_init_21 : decode (xMc m_K_init) 21 = .ok (.putfield 23, 3) := by decide +kernel
theorem d_K_init_24 : decode (xMc m_K_init) 24 = .ok (.aload_n 0, 1) := by decide +kernel
theorem d_K_init_25 : decode (xMc m_K_init) 25 = .ok (.iconst 0, 1) := by decide +kernel
theorem d_K_init_26 : decode (xMc m_K_init) 26 = .ok (.putfield 26, 3) := by decide +kernel
theorem d_K_init_29 : decode (xMc m_K_init) 29 = .ok (.return_, 1) := by decide +kernel
theorem d_C_init_0 : decode (xMc m_C_init) 0 = .ok (.aload_n 0, 1) := by decide +kernel
theorem d_C_init_1 : decode (xMc m_C_init) 1 = .ok (.invokespecial 3, 3) := by decide +kernel
theorem d_C_init_4 : decode (xMc m_C_init) 4 = .ok (.aload_n 0, 1) := by decide +kernel
theorem d_C_init_5 : decode (xMc m_C_init) 5 = .ok (.bipush 6, 2) := by decide +kernel
theorem d_C_init_7 : decode (xMc m_C_init) 7 = .ok (.newarray .int, 2) := by decide +kernel
theorem d_C_init_9 : decode (xMc m_C_init) 9 = .ok (.putfield 9, 3) := by decide +kernel
theorem d_C_init_12 : decode (xMc m_C_init) 12 = .ok (.aload_n 0, 1) := by decide +kernel
theorem d_C_init_13 : decode (xMc m_C_init) 13 = .ok (.iconst 0, 1) := by decide +kernel
theorem d_C_init_14 : decode (xMc m_C_init) 14 = .ok (.putfield 15, 3) := by decide +kernel
theorem d_C_init_17 : decode (xMc m_C_init) 17 = .ok (.return_, 1) := by decide +kernel
theorem d_T_init_0 : decode (xMc m_T_init) 0 = .ok (.aload_n 0, 1) := by decide +kernel
theorem d_T_init_1 : decode (xMc m_T_init) 1 = .ok (.invokespecial 3, 3) := by decide +kernel
theorem d_T_init_4 : decode (xMc m_T_init) 4 = .ok (.aload_n 0, 1) := by decide +kernel
theorem d_T_init_5 : decode (xMc m_T_init) 5 = .ok (.iconst 0, 1) := by decide +kernel
theorem d_T_init_6 : decode (xMc m_T_init) 6 = .ok (.putfield 9, 3) := by decide +kernel
theorem d_T_init_9 : decode (xMc m_T_init) 9 = .ok (.aload_n 0, 1) := by decide +kernel
theorem d_T_init_10 : decode (xMc m_T_init) 10 = .ok (.iconst 0, 1) := by decide +kernel
theorem d_T_init_11 : decode (xMc m_T_init) 11 = .ok (.putfield 15, 3) := by decide +kernel
theorem d_T_init_14 : decode (xMc m_T_init) 14 = .ok (.aload_n 0, 1) := by decide +kernel
theorem d_T_init_15 : decode (xMc m_T_init) 15 = .ok (.iconst (-1), 1) := by decide +kernel
theorem d_T_init_16 : decode (xMc m_T_init) 16 = .ok (.putfield 18, 3) := by decide +kernel
theorem d_T_init_19 : decode (xMc m_T_init) 19 = .ok (.aload_n 0, 1) := by decide +kernel
theorem d_T_init_20 : decode (xMc m_T_init) 20 = .ok (.iload_n 1, 1) := by decide +kernel
theorem d_T_init_21 : decode (xMc m_T_init) 21 = .ok (.putfield 21, 3) := by decide +kernel
theorem d_T_init_24 : decode (xMc m_T_init) 24 = .ok (.aload_n 0, 1) := by decide +kernel
theorem d_T_init_25 : decode (xMc m_T_init) 25 = .ok (.iload_n 2, 1) := by decide +kernel
theorem d_T_init_26 : decode (xMc m_T_init) 26 = .ok (.putfield 25, 3) := by decide +kernel
theorem d_T_init_29 : decode (xMc m_T_init) 29 = .ok (.return_, 1) := by decide +kernel
theorem d_Z_floorMod_0 : decode (xMc m_Z_floorMod) 0 = .ok (.iload_n 0, 1) := by decide +kernel
theorem d_Z_floorMod_1 : decode (xMc m_Z_floorMod) 1 = .ok (.iload_n 1, 1) := by decide +kernel
theorem d_Z_floorMod_2 : decode (xMc m_Z_floorMod) 2 = .ok (.irem, 1) := by decide +kernel
theorem d_Z_floorMod_3 : decode (xMc m_Z_floorMod) 3 = .ok (.istore_n 2, 1) := by decide +kernel
theorem d_Z_floorMod_4 : decode (xMc m_Z_floorMod) 4 = .ok (.iload_n 0, 1) := by decide +kernel
theorem d_Z_floorMod_5 : decode (xMc m_Z_floorMod) 5 = .ok (.iload_n 1, 1) := by decide +kernel
theorem d_Z_floorMod_6 : decode (xMc m_Z_floorMod) 6 = .ok (.ixor, 1) := by decide +kernel
theorem d_Z_floorMod_7 : decode (xMc m_Z_floorMod) 7 = .ok (.ifCond .ge 11, 3) := by decide +kernel
theorem d_Z_floorMod_10 : decode (xMc m_Z_floorMod) 10 = .ok (.iload_n 2, 1) := by decide +kernel
theorem d_Z_floorMod_11 : decode (xMc m_Z_floorMod) 11 = .ok (.ifCond .eq 7, 3) := by decide +kernel
theorem d_Z_floorMod_14 : decode (xMc m_Z_floorMod) 14 = .ok (.iload_n 2, 1) := by decide +kernel
theorem d_Z_floorMod_15 : decode (xMc m_Z_floorMod) 15 = .ok (.iload_n 1, 1) := by decide +kernel
theorem d_Z_floorMod_16 : decode (xMc m_Z_floorMod) 16 = .ok (.iadd, 1) := by decide +kernel
theorem d_Z_floorMod_17 : decode (xMc m_Z_floorMod) 17 = .ok (.ireturn, 1) := by decide +kernel
theorem d_Z_floorMod_18 : decode (xMc m_Z_floorMod) 18 = .ok (.iload_n 2, 1) := by decide +kernel
theorem d_Z_floorMod_19 : decode (xMc m_Z_floorMod) 19 = .ok (.ireturn, 1) := by decide +kernel
theorem d_P_append_0 : decode (xMc m_P_append) 0 = .ok (.aload_n 0, 1) := by decide +kernel
theorem d_P_append_1 : decode (xMc m_P_append) 1 = .ok (.getfield 9, 3) := by decide +kernel
theorem d_P_append_4 : decode (xMc m_P_append) 4 = .ok (.aload_n 0, 1) := by decide +kernel
theorem d_P_append_5 : decode (xMc m_P_append) 5 = .ok (.getfield 15, 3) := by decide +kernel
theorem d_P_append_8 : decode (xMc m_P_append) 8 = .ok (.arraylength, 1) := by decide +kernel
theorem d_P_append_9 : decode (xMc m_P_append) 9 = .ok (.if_icmp .ge 33, 3) := by decide +kernel
theorem d_P_append_12 : decode (xMc m_P_append) 12 = .ok (.aload_n 0, 1) := by decide +kernel
theorem d_P_append_13 : decode (xMc m_P_append) 13 = .ok (.getfield 15, 3) := by decide +kernel
theorem d_P_append_16 : decode (xMc m_P_append) 16 = .ok (.aload_n 0, 1) := by decide +kernel
theorem d_P_append_17 : decode (xMc m_P_append) 17 = .ok (.getfield 9, 3) := by decide +kernel
theorem d_P_append_20 : decode (xMc m_P_append) 20 = .ok (.iload_n 1, 1) := by decide +kernel
theorem d_P_append_21 : decode (xMc m_P_append) 21 = .ok (.iastore, 1) := by decide +kernel
theorem d_P_append_22 : decode (xMc m_P_append) 22 = .ok (.aload_n 0, 1) := by decide +kernel
theorem d_P_append_23 : decode (xMc m_P_append) 23 = .ok (.getfield 19, 3) := by decide +kernel
theorem d_P_append_26 : decode (xMc m_P_append) 26 = .ok (.aload_n 0, 1) := by decide +kernel
theorem d_P_append_27 : decode (xMc m_P_append) 27 = .ok (.getfield 9, 3) := by decide +kernel
theorem d_P_append_30 : decode (xMc m_P_append) 30 = .ok (.iload_n 2, 1) := by decide +kernel
theorem d_P_append_31 : decode (xMc m_P_append) 31 = .ok (.iastore, 1) := by decide +kernel
theorem d_P_append_32 : decode (xMc m_P_append) 32 = .ok (.aload_n 0, 1) := by decide +kernel
theorem d_P_append_33 : decode (xMc m_P_append) 33 = .ok (.dup, 1) := by decide +kernel
theorem d_P_append_34 : decode (xMc m_P_append) 34 = .ok (.getfield 9, 3) := by decide +kernel
theorem d_P_append_37 : decode (xMc m_P_append) 37 = .ok (.iconst 1, 1) := by decide +kernel
theorem d_P_append_38 : decode (xMc m_P_append) 38 = .ok (.iadd, 1) := by decide +kernel
theorem d_P_append_39 : decode (xMc m_P_append) 39 = .ok (.putfield 9, 3) := by decide +kernel
theorem d_P_append_42 : decode (xMc m_P_append) 42 = .ok (.return_, 1) := by decide +kernel
theorem d_Z_abs_0 : decode (xMc m_Z_abs) 0 = .ok (.lload_n 0, 1) := by decide +kernel
theorem d_Z_abs_1 : decode (xMc m_Z_abs) 1 = .ok (.lconst 0, 1) := by decide +kernel
theorem d_Z_abs_2 : decode (xMc m_Z_abs) 2 = .ok (.lcmp, 1) := by decide +kernel
theorem d_Z_abs_3 : decode (xMc m_Z_abs) 3 = .ok (.ifCond .ge 8, 3) := by decide +kernel
theorem d_Z_abs_6 : decode (xMc m_Z_abs) 6 = .ok (.lload_n 0, 1) := by decide +kernel
theorem d_Z_abs_7 : decode (xMc m_Z_abs) 7 = .ok (.lneg, 1) := by decide +kernel
theorem d_Z_abs_8 : decode (xMc m_Z_abs) 8 = .ok (.goto 4, 3) := by decide +kernel
theorem d_Z_abs_11 : decode (xMc m_Z_abs) 11 = .ok (.lload_n 0, 1) := by decide +kernel
theorem d_Z_abs_12 : decode (xMc m_Z_abs) 12 = .ok (.lreturn, 1) := by decide +kernel
theorem d_C_fill_0 : decode (xMc m_C_fill) 0 = .ok (.aload_n 0, 1) := by decide +kernel
theorem d_C_fill_1 : decode (xMc m_C_fill) 1 = .ok (.iload_n 3, 1) := by decide +kernel
theorem d_C_fill_2 : decode (xMc m_C_fill) 2 = .ok (.bipush 6, 2) := by decide +kernel
theorem d_C_fill_4 : decode (xMc m_C_fill) 4 = .ok (.invokestatic 19, 3) := by decide +kernel
theorem d_C_fill_7 : decode (xMc m_C_fill) 7 = .ok (.putfield 15, 3) := by decide +kernel
theorem d_C_fill_10 : decode (xMc m_C_fill) 10 = .ok (.iconst 0, 1) := by decide +kernel
theorem d_C_fill_11 : decode (xMc m_C_fill) 11 = .ok (.istore 5, 2) := by decide +kernel
theorem d_C_fill_13 : decode (xMc m_C_fill) 13 = .ok (.iload 5, 2) := by decide +kernel
theorem d_C_fill_15 : decode (xMc m_C_fill) 15 = .ok (.aload_n 0, 1) := by decide +kernel
theorem d_C_fill_16 : decode (xMc m_C_fill) 16 = .ok (.getfield 15, 3) := by decide +kernel
theorem d_C_fill_19 : decode (xMc m_C_fill) 19 = .ok (.if_icmp .ge 28, 3) := by decide +kernel
theorem d_C_fill_22 : decode (xMc m_C_fill) 22 = .ok (.aload_n 0, 1) := by decide +kernel
theorem d_C_fill_23 : decode (xMc m_C_fill) 23 = .ok (.getfield 9, 3) := by decide +kernel
theorem d_C_fill_26 : decode (xMc m_C_fill) 26 = .ok (.iload 5, 2) := by decide +kernel
theorem d_C_fill_28 : decode (xMc m_C_fill) 28 = .ok (.lload_n 1, 1) := by decide +kernel
theorem d_C_fill_29 : decode (xMc m_C_fill) 29 = .ok (.bipush 8, 2) := by decide +kernel
theorem d_C_fill_31 : decode (xMc m_C_fill) 31 = .ok (.iload 5, 2) := by decide +kernel
theorem d_C_fill_33 : decode (xMc m_C_fill) 33 = .ok (.imul, 1) := by decide +kernel
theorem d_C_fill_34 : decode (xMc m_C_fill) 34 = .ok (.lshr, 1) := by decide +kernel
theorem d_C_fill_35 : decode (xMc m_C_fill) 35 = .ok (.l2i, 1) := by decide +kernel
theorem d_C_fill_36 : decode (xMc m_C_fill) 36 = .ok (.i2b, 1) := by decide +kernel
theorem d_C_fill_37 : decode (xMc m_C_fill) 37 = .ok (.iload 4, 2) := by decide +kernel
theorem d_C_fill_39 : decode (xMc m_C_fill) 39 = .ok (.imul, 1) := by decide +kernel
theorem d_C_fill_40 : decode (xMc m_C_fill) 40 = .ok (.iastore, 1) := by decide +kernel
theorem d_C_fill_41 : decode (xMc m_C_fill) 41 = .ok (.iinc 5 1, 3) := by decide +kernel
theorem d_C_fill_44 : decode (xMc m_C_fill) 44 = .ok (.goto (-31), 3) := by decide +kernel
theorem d_C_fill_47 : decode (xMc m_C_fill) 47 = .ok (.return_, 1) := by decide +kernel
theorem d_Z_min_0 : decode (xMc m_Z_min) 0 = .ok (.iload_n 0, 1) := by decide +kernel
theorem d_Z_min_1 : decode (xMc m_Z_min) 1 = .ok (.iload_n 1, 1) := by decide +kernel
theorem d_Z_min_2 : decode (xMc m_Z_min) 2 = .ok (.if_icmp .gt 7, 3) := by decide +kernel
theorem d_Z_min_5 : decode (xMc m_Z_min) 5 = .ok (.iload_n 0, 1) := by decide +kernel
theorem d_Z_min_6 : decode (xMc m_Z_min) 6 = .ok (.goto 4, 3) := by decide +kernel
theorem d_Z_min_9 : decode (xMc m_Z_min) 9 = .ok (.iload_n 1, 1) := by decide +kernel
theorem d_Z_min_10 : decode (xMc m_Z_min) 10 = .ok (.ireturn, 1) := by decide +kernel
theorem d_K_drop_0 : decode (xMc m_K_drop) 0 = .ok (.aload_n 0, 1) := by decide +kernel
theorem d_K_drop_1 : decode (xMc m_K_drop) 1 = .ok (.aconst_null, 1) := by decide +kernel
theorem d_K_drop_2 : decode (xMc m_K_drop) 2 = .ok (.putfield 19, 3) := by decide +kernel
theorem d_K_drop_5 : decode (xMc m_K_drop) 5 = .ok (.aload_n 0, 1) := by decide +kernel
theorem d_K_drop_6 : decode (xMc m_K_drop) 6 = .ok (.iconst 0, 1) := by decide +kernel
theorem d_K_drop_7 : decode (xMc m_K_drop) 7 = .ok (.putfield 23, 3) := by decide +kernel
theorem d_K_drop_10 : decode (xMc m_K_drop) 10 = .ok (.return_, 1) := by decide +kernel
theorem d_J_prepare_0 : decode (xMc m_J_prepare) 0 = .ok (.aload_n 0, 1) := by decide +kernel
theorem d_J_prepare_1 : decode (xMc m_J_prepare) 1 = .ok (.iload_n 1, 1) := by decide +kernel
theorem d_J_prepare_2 : decode (xMc m_J_prepare) 2 = .ok (.putfield 20, 3) := by decide +kernel
theorem d_J_prepare_5 : decode (xMc m_J_prepare) 5 = .ok (.aload_n 0, 1) := by decide +kernel
theorem d_J_prepare_6 : decode (xMc m_J_prepare) 6 = .ok (.iload_n 2, 1) := by decide +kernel
theorem d_J_prepare_7 : decode (xMc m_J_prepare) 7 = .ok (.putfield 24, 3) := by decide +kernel
theorem d_J_prepare_10 : decode (xMc m_J_prepare) 10 = .ok (.aload_n 0, 1) := by decide +kernel
theorem d_J_prepare_11 : decode (xMc m_J_prepare) 11 = .ok (.iload_n 3, 1) := by decide +kernel
theorem d_J_prepare_12 : decode (xMc m_J_prepare) 12 = .ok (.putfield 30, 3) := by decide +kernel
theorem d_J_prepare_15 : decode (xMc m_J_prepare) 15 = .ok (.iconst 0, 1) := by decide +kernel
theorem d_J_prepare_16 : decode (xMc m_J_prepare) 16 = .ok (.istore 4, 2) := by decide +kernel
theorem d_J_prepare_18 : decode (xMc m_J_prepare) 18 = .ok (.iload 4, 2) := by decide +kernel
theorem d_J_prepare_20 : decode (xMc m_J_prepare) 20 = .ok (.iconst 3, 1) := by decide +kernel
theorem d_J_prepare_21 : decode (xMc m_J_prepare) 21 = .ok (.if_icmp .ge 20, 3) := by decide +kernel
theorem d_J_prepare_24 : decode (xMc m_J_prepare) 24 = .ok (.aload_n 0, 1) := by decide +kernel
theorem d_J_prepare_25 : decode (xMc m_J_prepare) 25 = .ok (.getfield 11, 3) := by decide +kernel
theorem d_J_prepare_28 : decode (xMc m_J_prepare) 28 = .ok (.iload 4, 2) := by decide +kernel
theorem d_J_prepare_30 : decode (xMc m_J_prepare) 30 = .ok (.aaload, 1) := by decide +kernel
theorem d_J_prepare_31 : decode (xMc m_J_prepare) 31 = .ok (.iconst 0, 1) := by decide +kernel
theorem d_J_prepare_32 : decode (xMc m_J_prepare) 32 = .ok (.putfield 36, 3) := by decide +kernel
theorem d_J_prepare_35 : decode (xMc m_J_prepare) 35 = .ok (.iinc 4 1, 3) := by decide +kernel
theorem d_J_prepare_38 : decode (xMc m_J_prepare) 38 = .ok (.goto (-20), 3) := by decide +kernel
theorem d_J_prepare_41 : decode (xMc m_J_prepare) 41 = .ok (.return_, 1) := by decide +kernel
theorem d_J_take_0 : decode (xMc m_J_take) 0 = .ok (.iconst 0, 1) := by decide +kernel
theorem d_J_take_1 : decode (xMc m_J_take) 1 = .ok (.istore_n 2, 1) := by decide +kernel
theorem d_J_take_2 : decode (xMc m_J_take) 2 = .ok (.iload_n 2, 1) := by decide +kernel
theorem d_J_take_3 : decode (xMc m_J_take) 3 = .ok (.aload_n 1, 1) := by decide +kernel
theorem d_J_take_4 : decode (xMc m_J_take) 4 = .ok (.getfield 36, 3) := by decide +kernel
theorem d_J_take_7 : decode (xMc m_J_take) 7 = .ok (.if_icmp .ge 39, 3) := by decide +kernel
theorem d_J_take_10 : decode (xMc m_J_take) 10 = .ok (.aload_n 0, 1) := by decide +kernel
theorem d_J_take_11 : decode (xMc m_J_take) 11 = .ok (.getfield 11, 3) := by decide +kernel
theorem d_J_take_14 : decode (xMc m_J_take) 14 = .ok (.aload_n 0, 1) := by decide +kernel
theorem d_J_take_15 : decode (xMc m_J_take) 15 = .ok (.aload_n 1, 1) := by decide +kernel
theorem d_J_take_16 : decode (xMc m_J_take) 16 = .ok (.getfield 48, 3) := by decide +kernel
theorem d_J_take_19 : decode (xMc m_J_take) 19 = .ok (.iload_n 2, 1) := by decide +kernel
theorem d_J_take_20 : decode (xMc m_J_take) 20 = .ok (.iaload, 1) := by decide +kernel
theorem d_J_take_21 : decode (xMc m_J_take) 21 = .ok (.invokevirtual 52, 3) := by decide +kernel
theorem d_J_take_24 : decode (xMc m_J_take) 24 = .ok (.aaload, 1) := by decide +kernel
theorem d_J_take_25 : decode (xMc m_J_take) 25 = .ok (.aload_n 1, 1) := by decide +kernel
theorem d_J_take_26 : decode (xMc m_J_take) 26 = .ok (.getfield 48, 3) := by decide +kernel
theorem d_J_take_29 : decode (xMc m_J_take) 29 = .ok (.iload_n 2, 1) := by decide +kernel
theorem d_J_take_30 : decode (xMc m_J_take) 30 = .ok (.iaload, 1) := by decide +kernel
theorem d_J_take_31 : decode (xMc m_J_take) 31 = .ok (.aload_n 1, 1) := by decide +kernel
theorem d_J_take_32 : decode (xMc m_J_take) 32 = .ok (.getfield 56, 3) := by decide +kernel
theorem d_J_take_35 : decode (xMc m_J_take) 35 = .ok (.iload_n 2, 1) := by decide +kernel
theorem d_J_take_36 : decode (xMc m_J_take) 36 = .ok (.iaload, 1) := by decide +kernel
theorem d_J_take_37 : decode (xMc m_J_take) 37 = .ok (.invokevirtual 59, 3) := by decide +kernel
theorem d_J_take_40 : decode (xMc m_J_take) 40 = .ok (.iinc 2 1, 3) := by decide +kernel
theorem d_J_take_43 : decode (xMc m_J_take) 43 = .ok (.goto (-41), 3) := by decide +kernel
theorem d_J_take_46 : decode (xMc m_J_take) 46 = .ok (.return_, 1) := by decide +kernel
theorem d_J_partitionOf_0 : decode (xMc m_J_partitionOf) 0 = .ok (.iload_n 1, 1) := by decide +kernel
theorem d_J_partitionOf_1 : decode (xMc m_J_partitionOf) 1 = .ok (.aload_n 0, 1) := by decide +kernel
theorem d_J_partitionOf_2 : decode (xMc m_J_partitionOf) 2 = .ok (.getfield 24, 3) := by decide +kernel
theorem d_J_partitionOf_5 : decode (xMc m_J_partitionOf) 5 = .ok (.iconst 1, 1) := by decide +kernel
theorem d_J_partitionOf_6 : decode (xMc m_J_partitionOf) 6 = .ok (.invokestatic 39, 3) := by decide +kernel
theorem d_J_partitionOf_9 : decode (xMc m_J_partitionOf) 9 = .ok (.invokestatic 45, 3) := by decide +kernel
theorem d_J_partitionOf_12 : decode (xMc m_J_partitionOf) 12 = .ok (.ireturn, 1) := by decide +kernel
theorem d_Z_max_0 : decode (xMc m_Z_max) 0 = .ok (.iload_n 0, 1) := by decide +kernel
theorem d_Z_max_1 : decode (xMc m_Z_max) 1 = .ok (.iload_n 1, 1) := by decide +kernel
theorem d_Z_max_2 : decode (xMc m_Z_max) 2 = .ok (.if_icmp .lt 7, 3) := by decide +kernel
theorem d_Z_max_5 : decode (xMc m_Z_max) 5 = .ok (.iload_n 0, 1) := by decide +kernel
theorem d_Z_max_6 : decode (xMc m_Z_max) 6 = .ok (.goto 4, 3) := by decide +kernel
theorem d_Z_max_9 : decode (xMc m_Z_max) 9 = .ok (.iload_n 1, 1) := by decide +kernel
theorem d_Z_max_10 : decode (xMc m_Z_max) 10 = .ok (.ireturn, 1) := by decide +kernel
theorem d_P_insertByKey_0 : decode (xMc m_P_insertByKey) 0 = .ok (.aload_n 0, 1) := by decide +kernel
theorem d_P_insertByKey_1 : decode (xMc m_P_insertByKey) 1 = .ok (.getfield 9, 3) := by decide +kernel
theorem d_P_insertByKey_4 : decode (xMc m_P_insertByKey) 4 = .ok (.aload_n 0, 1) := by decide +kernel
theorem d_P_insertByKey_5 : decode (xMc m_P_insertByKey) 5 = .ok (.getfield 15, 3) := by decide +kernel
theorem d_P_insertByKey_8 : decode (xMc m_P_insertByKey) 8 = .ok (.arraylength, 1) := by decide +kernel
theorem d_P_insertByKey_9 : decode (xMc m_P_insertByKey) 9 = .ok (.if_icmp .lt 4, 3) := by decide +kernel
theorem d_P_insertByKey_12 : decode (xMc m_P_insertByKey) 12 = .ok (.return_, 1) := by decide +kernel
theorem d_P_insertByKey_13 : decode (xMc m_P_insertByKey) 13 = .ok (.aload_n 0, 1) := by decide +kernel
theorem d_P_insertByKey_14 : decode (xMc m_P_insertByKey) 14 = .ok (.getfield 9, 3) := by decide +kernel
theorem d_P_insertByKey_17 : decode (xMc m_P_insertByKey) 17 = .ok (.istore_n 3, 1) := by decide +kernel
theorem d_P_insertByKey_18 : decode (xMc m_P_insertByKey) 18 = .ok (.iload_n 3, 1) := by decide +kernel
theorem d_P_insertByKey_19 : decode (xMc m_P_insertByKey) 19 = .ok (.ifCond .le 49, 3) := by decide +kernel
theorem d_P_insertByKey_22 : decode (xMc m_P_insertByKey) 22 = .ok (.aload_n 0, 1) := by decide +kernel
theorem d_P_insertByKey_23 : decode (xMc m_P_insertByKey) 23 = .ok (.getfield 15, 3) := by decide +kernel
theorem d_P_insertByKey_26 : decode (xMc m_P_insertByKey) 26 = .ok (.iload_n 3, 1) := by decide +kernel
theorem d_P_insertByKey_27 : decode (xMc m_P_insertByKey) 27 = .ok (.iconst 1, 1) := by decide +kernel
theorem d_P_insertByKey_28 : decode (xMc m_P_insertByKey) 28 = .ok (.isub, 1) := by decide +kernel
theorem d_P_insertByKey_29 : decode (xMc m_P_insertByKey) 29 = .ok (.iaload, 1) := by decide +kernel
theorem d_P_insertByKey_30 : decode (xMc m_P_insertByKey) 30 = .ok (.iload_n 1, 1) := by decide +kernel
theorem d_P_insertByKey_31 : decode (xMc m_P_insertByKey) 31 = .ok (.if_icmp .le 37, 3) := by decide +kernel
theorem d_P_insertByKey_34 : decode (xMc m_P_insertByKey) 34 = .ok (.aload_n 0, 1) := by decide +kernel
theorem d_P_insertByKey_35 : decode (xMc m_P_insertByKey) 35 = .ok (.getfield 15, 3) := by decide +kernel
theorem d_P_insertByKey_38 : decode (xMc m_P_insertByKey) 38 = .ok (.iload_n 3, 1) := by decide +kernel
theorem d_P_insertByKey_39 : decode (xMc m_P_insertByKey) 39 = .ok (.aload_n 0, 1) := by decide +kernel
theorem d_P_insertByKey_40 : decode (xMc m_P_insertByKey) 40 = .ok (.getfield 15, 3) := by decide +kernel
theorem d_P_insertByKey_43 : decode (xMc m_P_insertByKey) 43 = .ok (.iload_n 3, 1) := by decide +kernel
theorem d_P_insertByKey_44 : decode (xMc m_P_insertByKey) 44 = .ok (.iconst 1, 1) := by decide +kernel
theorem d_P_insertByKey_45 : decode (xMc m_P_insertByKey) 45 = .ok (.isub, 1) := by decide +kernel
theorem d_P_insertByKey_46 : decode (xMc m_P_insertByKey) 46 = .ok (.iaload, 1) := by decide +kernel
theorem d_P_insertByKey_47 : decode (xMc m_P_insertByKey) 47 = .ok (.iastore, 1) := by decide +kernel
theorem d_P_insertByKey_48 : decode (xMc m_P_insertByKey) 48 = .ok (.aload_n 0, 1) := by decide +kernel
theorem d_P_insertByKey_49 : decode (xMc m_P_insertByKey) 49 = .ok (.getfield 19, 3) := by decide +kernel
theorem d_P_insertByKey_52 : decode (xMc m_P_insertByKey) 52 = .ok (.iload_n 3, 1) := by decide +kernel
theorem d_P_insertByKey_53 : decode (xMc m_P_insertByKey) 53 = .ok (.aload_n 0, 1) := by decide +kernel
theorem d_P_insertByKey_54 : decode (xMc m_P_insertByKey) 54 = .ok (.getfield 19, 3) := by decide +kernel
theorem d_P_insertByKey_57 : decode (xMc m_P_insertByKey) 57 = .ok (.iload_n 3, 1) := by decide +kernel
theorem d_P_insertByKey_58 : decode (xMc m_P_insertByKey) 58 = .ok (.iconst 1, 1) := by decide +kernel
theorem d_P_insertByKey_59 : decode (xMc m_P_insertByKey) 59 = .ok (.isub, 1) := by decide +kernel
theorem d_P_insertByKey_60 : decode (xMc m_P_insertByKey) 60 = .ok (.iaload, 1) := by decide +kernel
theorem d_P_insertByKey_61 : decode (xMc m_P_insertByKey) 61 = .ok (.iastore, 1) := by decide +kernel
theorem d_P_insertByKey_62 : decode (xMc m_P_insertByKey) 62 = .ok (.iinc 3 (-1), 3) := by decide +kernel
theorem d_P_insertByKey_65 : decode (xMc m_P_insertByKey) 65 = .ok (.goto (-47), 3) := by decide +kernel
theorem d_P_insertByKey_68 : decode (xMc m_P_insertByKey) 68 = .ok (.aload_n 0, 1) := by decide +kernel
theorem d_P_insertByKey_69 : decode (xMc m_P_insertByKey) 69 = .ok (.getfield 15, 3) := by decide +kernel
theorem d_P_insertByKey_72 : decode (xMc m_P_insertByKey) 72 = .ok (.iload_n 3, 1) := by decide +kernel
theorem d_P_insertByKey_73 : decode (xMc m_P_insertByKey) 73 = .ok (.iload_n 1, 1) := by decide +kernel
theorem d_P_insertByKey_74 : decode (xMc m_P_insertByKey) 74 = .ok (.iastore, 1) := by decide +kernel
theorem d_P_insertByKey_75 : decode (xMc m_P_insertByKey) 75 = .ok (.aload_n 0, 1) := by decide +kernel
theorem d_P_insertByKey_76 : decode (xMc m_P_insertByKey) 76 = .ok (.getfield 19, 3) := by decide +kernel
theorem d_P_insertByKey_79 : decode (xMc m_P_insertByKey) 79 = .ok (.iload_n 3, 1) := by decide +kernel
theorem d_P_insertByKey_80 : decode (xMc m_P_insertByKey) 80 = .ok (.iload_n 2, 1) := by decide +kernel
theorem d_P_insertByKey_81 : decode (xMc m_P_insertByKey) 81 = .ok (.iastore, 1) := by decide +kernel
theorem d_P_insertByKey_82 : decode (xMc m_P_insertByKey) 82 = .ok (.aload_n 0, 1) := by decide +kernel
theorem d_P_insertByKey_83 : decode (xMc m_P_insertByKey) 83 = .ok (.dup, 1) := by decide +kernel
theorem d_P_insertByKey_84 : decode (xMc m_P_insertByKey) 84 = .ok (.getfield 9, 3) := by decide +kernel
theorem d_P_insertByKey_87 : decode (xMc m_P_insertByKey) 87 = .ok (.iconst 1, 1) := by decide +kernel
theorem d_P_insertByKey_88 : decode (xMc m_P_insertByKey) 88 = .ok (.iadd, 1) := by decide +kernel
theorem d_P_insertByKey_89 : decode (xMc m_P_insertByKey) 89 = .ok (.putfield 9, 3) := by decide +kernel
theorem d_P_insertByKey_92 : decode (xMc m_P_insertByKey) 92 = .ok (.return_, 1) := by decide +kernel
theorem d_T_renew_0 : decode (xMc m_T_renew) 0 = .ok (.aload_n 0, 1) := by decide +kernel
theorem d_T_renew_1 : decode (xMc m_T_renew) 1 = .ok (.iload_n 1, 1) := by decide +kernel
theorem d_T_renew_2 : decode (xMc m_T_renew) 2 = .ok (.iload_n 2, 1) := by decide +kernel
theorem d_T_renew_3 : decode (xMc m_T_renew) 3 = .ok (.iadd, 1) := by decide +kernel
theorem d_T_renew_4 : decode (xMc m_T_renew) 4 = .ok (.putfield 9, 3) := by decide +kernel
theorem d_T_renew_7 : decode (xMc m_T_renew) 7 = .ok (.aload_n 0, 1) := by decide +kernel
theorem d_T_renew_8 : decode (xMc m_T_renew) 8 = .ok (.iload_n 2, 1) := by decide +kernel
theorem d_T_renew_9 : decode (xMc m_T_renew) 9 = .ok (.putfield 15, 3) := by decide +kernel
theorem d_T_renew_12 : decode (xMc m_T_renew) 12 = .ok (.aload_n 0, 1) := by decide +kernel
theorem d_T_renew_13 : decode (xMc m_T_renew) 13 = .ok (.iconst (-1), 1) := by decide +kernel
theorem d_T_renew_14 : decode (xMc m_T_renew) 14 = .ok (.putfield 18, 3) := by decide +kernel
theorem d_T_renew_17 : decode (xMc m_T_renew) 17 = .ok (.return_, 1) := by decide +kernel
theorem d_T_isDone_0 : decode (xMc m_T_isDone) 0 = .ok (.aload_n 0, 1) := by decide +kernel
theorem d_T_isDone_1 : decode (xMc m_T_isDone) 1 = .ok (.getfield 18, 3) := by decide +kernel
theorem d_T_isDone_4 : decode (xMc m_T_isDone) 4 = .ok (.iconst (-1), 1) := by decide +kernel
theorem d_T_isDone_5 : decode (xMc m_T_isDone) 5 = .ok (.if_icmp .eq 7, 3) := by decide +kernel
theorem d_T_isDone_8 : decode (xMc m_T_isDone) 8 = .ok (.iconst 1, 1) := by decide +kernel
theorem d_T_isDone_9 : decode (xMc m_T_isDone) 9 = .ok (.goto 4, 3) := by decide +kernel
theorem d_T_isDone_12 : decode (xMc m_T_isDone) 12 = .ok (.iconst 0, 1) := by decide +kernel
theorem d_T_isDone_13 : decode (xMc m_T_isDone) 13 = .ok (.ireturn, 1) := by decide +kernel
theorem d_K_take_0 : decode (xMc m_K_take) 0 = .ok (.aload_n 0, 1) := by decide +kernel
theorem d_K_take_1 : decode (xMc m_K_take) 1 = .ok (.aload_n 1, 1) := by decide +kernel
theorem d_K_take_2 : decode (xMc m_K_take) 2 = .ok (.putfield 19, 3) := by decide +kernel
theorem d_K_take_5 : decode (xMc m_K_take) 5 = .ok (.aload_n 0, 1) := by decide +kernel
theorem d_K_take_6 : decode (xMc m_K_take) 6 = .ok (.aload_n 1, 1) := by decide +kernel
theorem d_K_take_7 : decode (xMc m_K_take) 7 = .ok (.getfield 29, 3) := by decide +kernel
theorem d_K_take_10 : decode (xMc m_K_take) 10 = .ok (.putfield 23, 3) := by decide +kernel
theorem d_K_take_13 : decode (xMc m_K_take) 13 = .ok (.return_, 1) := by decide +kernel
theorem d_K_doUnits_0 : decode (xMc m_K_doUnits) 0 = .ok (.aload_n 0, 1) := by decide +kernel
theorem d_K_doUnits_1 : decode (xMc m_K_doUnits) 1 = .ok (.getfield 19, 3) := by decide +kernel
theorem d_K_doUnits_4 : decode (xMc m_K_doUnits) 4 = .ok (.ifnonnull 5, 3) := by decide +kernel
theorem d_K_doUnits_7 : decode (xMc m_K_doUnits) 7 = .ok (.iconst 0, 1) := by decide +kernel
theorem d_K_doUnits_8 : decode (xMc m_K_doUnits) 8 = .ok (.ireturn, 1) := by decide +kernel
theorem d_K_doUnits_9 : decode (xMc m_K_doUnits) 9 = .ok (.aload_n 0, 1) := by decide +kernel
theorem d_K_doUnits_10 : decode (xMc m_K_doUnits) 10 = .ok (.getfield 15, 3) := by decide +kernel
theorem d_K_doUnits_13 : decode (xMc m_K_doUnits) 13 = .ok (.aload_n 0, 1) := by decide +kernel
theorem d_K_doUnits_14 : decode (xMc m_K_doUnits) 14 = .ok (.getfield 23, 3) := by decide +kernel
theorem d_K_doUnits_17 : decode (xMc m_K_doUnits) 17 = .ok (.invokestatic 34, 3) := by decide +kernel
theorem d_K_doUnits_20 : decode (xMc m_K_doUnits) 20 = .ok (.istore_n 1, 1) := by decide +kernel
theorem d_K_doUnits_21 : decode (xMc m_K_doUnits) 21 = .ok (.aload_n 0, 1) := by decide +kernel
theorem d_K_doUnits_22 : decode (xMc m_K_doUnits) 22 = .ok (.dup, 1) := by decide +kernel
theorem d_K_doUnits_23 : decode (xMc m_K_doUnits) 23 = .ok (.getfield 26, 3) := by decide +kernel
theorem d_K_doUnits_26 : decode (xMc m_K_doUnits) 26 = .ok (.iload_n 1, 1) := by decide +kernel
theorem d_K_doUnits_27 : decode (xMc m_K_doUnits) 27 = .ok (.iadd, 1) := by decide +kernel
theorem d_K_doUnits_28 : decode (xMc m_K_doUnits) 28 = .ok (.putfield 26, 3) := by decide +kernel
theorem d_K_doUnits_31 : decode (xMc m_K_doUnits) 31 = .ok (.aload_n 0, 1) := by decide +kernel
theorem d_K_doUnits_32 : decode (xMc m_K_doUnits) 32 = .ok (.dup, 1) := by decide +kernel
theorem d_K_doUnits_33 : decode (xMc m_K_doUnits) 33 = .ok (.getfield 23, 3) := by decide +kernel
theorem d_K_doUnits_36 : decode (xMc m_K_doUnits) 36 = .ok (.iload_n 1, 1) := by decide +kernel
theorem d_K_doUnits_37 : decode (xMc m_K_doUnits) 37 = .ok (.isub, 1) := by decide +kernel
theorem d_K_doUnits_38 : decode (xMc m_K_doUnits) 38 = .ok (.putfield 23, 3) := by decide +kernel
theorem d_K_doUnits_41 : decode (xMc m_K_doUnits) 41 = .ok (.aload_n 0, 1) := by decide +kernel
theorem d_K_doUnits_42 : decode (xMc m_K_doUnits) 42 = .ok (.getfield 23, 3) := by decide +kernel
theorem d_K_doUnits_45 : decode (xMc m_K_doUnits) 45 = .ok (.ifCond .ne 7, 3) := by decide +kernel
theorem d_K_doUnits_48 : decode (xMc m_K_doUnits) 48 = .ok (.iconst 1, 1) := by decide +kernel
theorem d_K_doUnits_49 : decode (xMc m_K_doUnits) 49 = .ok (.goto 4, 3) := by decide +kernel
theorem d_K_doUnits_52 : decode (xMc m_K_doUnits) 52 = .ok (.iconst 0, 1) := by decide +kernel
theorem d_K_doUnits_53 : decode (xMc m_K_doUnits) 53 = .ok (.ireturn, 1) := by decide +kernel
theorem d_J_reduce_0 : decode (xMc m_J_reduce) 0 = .ok (.aload_n 0, 1) := by decide +kernel
theorem d_J_reduce_1 : decode (xMc m_J_reduce) 1 = .ok (.getfield 11, 3) := by decide +kernel
theorem d_J_reduce_4 : decode (xMc m_J_reduce) 4 = .ok (.iload_n 1, 1) := by decide +kernel
theorem d_J_reduce_5 : decode (xMc m_J_reduce) 5 = .ok (.aaload, 1) := by decide +kernel
theorem d_J_reduce_6 : decode (xMc m_J_reduce) 6 = .ok (.astore_n 2, 1) := by decide +kernel
theorem d_J_reduce_7 : decode (xMc m_J_reduce) 7 = .ok (.aload_n 0, 1) := by decide +kernel
theorem d_J_reduce_8 : decode (xMc m_J_reduce) 8 = .ok (.getfield 17, 3) := by decide +kernel
theorem d_J_reduce_11 : decode (xMc m_J_reduce) 11 = .ok (.iload_n 1, 1) := by decide +kernel
theorem d_J_reduce_12 : decode (xMc m_J_reduce) 12 = .ok (.aaload, 1) := by decide +kernel
theorem d_J_reduce_13 : decode (xMc m_J_reduce) 13 = .ok (.astore_n 3, 1) := by decide +kernel
theorem d_J_reduce_14 : decode (xMc m_J_reduce) 14 = .ok (.aload_n 3, 1) := by decide +kernel
theorem d_J_reduce_15 : decode (xMc m_J_reduce) 15 = .ok (.iconst 0, 1) := by decide +kernel
theorem d_J_reduce_16 : decode (xMc m_J_reduce) 16 = .ok (.putfield 36, 3) := by decide +kernel
theorem d_J_reduce_19 : decode (xMc m_J_reduce) 19 = .ok (.iconst 0, 1) := by decide +kernel
theorem d_J_reduce_20 : decode (xMc m_J_reduce) 20 = .ok (.istore 4, 2) := by decide +kernel
theorem d_J_reduce_22 : decode (xMc m_J_reduce) 22 = .ok (.iload 4, 2) := by decide +kernel
theorem d_J_reduce_24 : decode (xMc m_J_reduce) 24 = .ok (.aload_n 2, 1) := by decide +kernel
theorem d_J_reduce_25 : decode (xMc m_J_reduce) 25 = .ok (.getfield 36, 3) := by decide +kernel
theorem d_J_reduce_28 : decode (xMc m_J_reduce) 28 = .ok (.if_icmp .ge 126, 3) := by decide +kernel
theorem d_J_reduce_31 : decode (xMc m_J_reduce) 31 = .ok (.aload_n 2, 1) := by decide +kernel
theorem d_J_reduce_32 : decode (xMc m_J_reduce) 32 = .ok (.getfield 56, 3) := by decide +kernel
theorem d_J_reduce_35 : decode (xMc m_J_reduce) 35 = .ok (.iload 4, 2) := by decide +kernel
theorem d_J_reduce_37 : decode (xMc m_J_reduce) 37 = .ok (.iaload, 1) := by decide +kernel
theorem d_J_reduce_38 : decode (xMc m_J_reduce) 38 = .ok (.istore 5, 2) := by decide +kernel
theorem d_J_reduce_40 : decode (xMc m_J_reduce) 40 = .ok (.iload 5, 2) := by decide +kernel
theorem d_J_reduce_42 : decode (xMc m_J_reduce) 42 = .ok (.aload_n 0, 1) := by decide +kernel
theorem d_J_reduce_43 : decode (xMc m_J_reduce) 43 = .ok (.getfield 30, 3) := by decide +kernel
theorem d_J_reduce_46 : decode (xMc m_J_reduce) 46 = .ok (.if_icmp .ge 6, 3) := by decide +kernel
theorem d_J_reduce_49 : decode (xMc m_J_reduce) 49 = .ok (.goto 99, 3) := by decide +kernel
theorem d_J_reduce_52 : decode (xMc m_J_reduce) 52 = .ok (.aload_n 3, 1) := by decide +kernel
theorem d_J_reduce_53 : decode (xMc m_J_reduce) 53 = .ok (.getfield 36, 3) := by decide +kernel
theorem d_J_reduce_56 : decode (xMc m_J_reduce) 56 = .ok (.iconst 1, 1) := by decide +kernel
theorem d_J_reduce_57 : decode (xMc m_J_reduce) 57 = .ok (.isub, 1) := by decide +kernel
theorem d_J_reduce_58 : decode (xMc m_J_reduce) 58 = .ok (.istore 6, 2) := by decide +kernel
theorem d_J_reduce_60 : decode (xMc m_J_reduce) 60 = .ok (.iload 6, 2) := by decide +kernel
theorem d_J_reduce_62 : decode (xMc m_J_reduce) 62 = .ok (.ifCond .lt 20, 3) := by decide +kernel
theorem d_J_reduce_65 : decode (xMc m_J_reduce) 65 = .ok (.aload_n 3, 1) := by decide +kernel
theorem d_J_reduce_66 : decode (xMc m_J_reduce) 66 = .ok (.getfield 48, 3) := by decide +kernel
theorem d_J_reduce_69 : decode (xMc m_J_reduce) 69 = .ok (.iload 6, 2) := by decide +kernel
theorem d_J_reduce_71 : decode (xMc m_J_reduce) 71 = .ok (.iaload, 1) := by decide +kernel
theorem d_J_reduce_72 : decode (xMc m_J_reduce) 72 = .ok (.aload_n 2, 1) := by decide +kernel
theorem d_J_reduce_73 : decode (xMc m_J_reduce) 73 = .ok (.getfield 48, 3) := by decide +kernel
theorem d_J_reduce_76 : decode (xMc m_J_reduce) 76 = .ok (.iload 4, 2) := by decide +kernel
theorem d_J_reduce_78 : decode (xMc m_J_reduce) 78 = .ok (.iaload, 1) := by decide +kernel
theorem d_J_reduce_79 : decode (xMc m_J_reduce) 79 = .ok (.if_icmp .eq 31, 3) := by decide +kernel
theorem d_J_reduce_82 : decode (xMc m_J_reduce) 82 = .ok (.aload_n 3, 1) := by decide +kernel
theorem d_J_reduce_83 : decode (xMc m_J_reduce) 83 = .ok (.aload_n 2, 1) := by decide +kernel
theorem d_J_reduce_84 : decode (xMc m_J_reduce) 84 = .ok (.getfield 48, 3) := by decide +kernel
theorem d_J_reduce_87 : decode (xMc m_J_reduce) 87 = .ok (.iload 4, 2) := by decide +kernel
theorem d_J_reduce_89 : decode (xMc m_J_reduce) 89 = .ok (.iaload, 1) := by decide +kernel
theorem d_J_reduce_90 : decode (xMc m_J_reduce) 90 = .ok (.aload_n 0, 1) := by decide +kernel
theorem d_J_reduce_91 : decode (xMc m_J_reduce) 91 = .ok (.getfield 20, 3) := by decide +kernel
theorem d_J_reduce_94 : decode (xMc m_J_reduce) 94 = .ok (.iconst 1, 1) := by decide +kernel
theorem d_J_reduce_95 : decode (xMc m_J_reduce) 95 = .ok (.if_icmp .ne 7, 3) := by decide +kernel
theorem d_J_reduce_98 : decode (xMc m_J_reduce) 98 = .ok (.iconst 1, 1) := by decide +kernel
theorem d_J_reduce_99 : decode (xMc m_J_reduce) 99 = .ok (.goto 5, 3) := by decide +kernel
theorem d_J_reduce_102 : decode (xMc m_J_reduce) 102 = .ok (.iload 5, 2) := by decide +kernel
theorem d_J_reduce_104 : decode (xMc m_J_reduce) 104 = .ok (.invokevirtual 63, 3) := by decide +kernel
theorem d_J_reduce_107 : decode (xMc m_J_reduce) 107 = .ok (.goto 41, 3) := by decide +kernel
theorem d_J_reduce_110 : decode (xMc m_J_reduce) 110 = .ok (.aload_n 0, 1) := by decide +kernel
theorem d_J_reduce_111 : decode (xMc m_J_reduce) 111 = .ok (.getfield 20, 3) := by decide +kernel
theorem d_J_reduce_114 : decode (xMc m_J_reduce) 114 = .ok (.iconst 4, 1) := by decide +kernel
theorem d_J_reduce_115 : decode (xMc m_J_reduce) 115 = .ok (.if_icmp .ne 10, 3) := by decide +kernel
theorem d_J_reduce_118 : decode (xMc m_J_reduce) 118 = .ok (.iload 5, 2) := by decide +kernel
theorem d_J_reduce_120 : decode (xMc m_J_reduce) 120 = .ok (.ifCond .ne 5, 3) := by decide +kernel
theorem d_J_reduce_123 : decode (xMc m_J_reduce) 123 = .ok (.iconst 0, 1) := by decide +kernel
theorem d_J_reduce_124 : decode (xMc m_J_reduce) 124 = .ok (.ireturn, 1) := by decide +kernel
theorem d_J_reduce_125 : decode (xMc m_J_reduce) 125 = .ok (.aload_n 3, 1) := by decide +kernel
theorem d_J_reduce_126 : decode (xMc m_J_reduce) 126 = .ok (.getfield 56, 3) := by decide +kernel
theorem d_J_reduce_129 : decode (xMc m_J_reduce) 129 = .ok (.iload 6, 2) := by decide +kernel
theorem d_J_reduce_131 : decode (xMc m_J_reduce) 131 = .ok (.aload_n 0, 1) := by decide +kernel
theorem d_J_reduce_132 : decode (xMc m_J_reduce) 132 = .ok (.getfield 20, 3) := by decide +kernel
theorem d_J_reduce_135 : decode (xMc m_J_reduce) 135 = .ok (.aload_n 3, 1) := by decide +kernel
theorem d_J_reduce_136 : decode (xMc m_J_reduce) 136 = .ok (.getfield 56, 3) := by decide +kernel
theorem d_J_reduce_139 : decode (xMc m_J_reduce) 139 = .ok (.iload 6, 2) := by decide +kernel
theorem d_J_reduce_141 : decode (xMc m_J_reduce) 141 = .ok (.iaload, 1) := by decide +kernel
theorem d_J_reduce_142 : decode (xMc m_J_reduce) 142 = .ok (.iload 5, 2) := by decide +kernel
theorem d_J_reduce_144 : decode (xMc m_J_reduce) 144 = .ok (.invokestatic 66, 3) := by decide +kernel
theorem d_J_reduce_147 : decode (xMc m_J_reduce) 147 = .ok (.iastore, 1) := by decide +kernel
theorem d_J_reduce_148 : decode (xMc m_J_reduce) 148 = .ok (.iinc 4 1, 3) := by decide +kernel
theorem d_J_reduce_151 : decode (xMc m_J_reduce) 151 = .ok (.goto (-129), 3) := by decide +kernel
theorem d_J_reduce_154 : decode (xMc m_J_reduce) 154 = .ok (.iconst 1, 1) := by decide +kernel
theorem d_J_reduce_155 : decode (xMc m_J_reduce) 155 = .ok (.ireturn, 1) := by decide +kernel
theorem d_J_combine_0 : decode (xMc m_J_combine) 0 = .ok (.iload_n 0, 1) := by decide +kernel
theorem d_J_combine_1 : decode (xMc m_J_combine) 1 = .ok (.tableswitch 68 0 4 #[35, 39, 43, 49, 56], 35) := by decide +kernel
theorem d_J_combine_36 : decode (xMc m_J_combine) 36 = .ok (.iload_n 1, 1) := by decide +kernel
theorem d_J_combine_37 : decode (xMc m_J_combine) 37 = .ok (.iload_n 2, 1) := by decide +kernel
theorem d_J_combine_38 : decode (xMc m_J_combine) 38 = .ok (.iadd, 1) := by decide +kernel
theorem d_J_combine_39 : decode (xMc m_J_combine) 39 = .ok (.ireturn, 1) := by decide +kernel
theorem d_J_combine_40 : decode (xMc m_J_combine) 40 = .ok (.iload_n 1, 1) := by decide +kernel
theorem d_J_combine_41 : decode (xMc m_J_combine) 41 = .ok (.iconst 1, 1) := by decide +kernel
theorem d_J_combine_42 : decode (xMc m_J_combine) 42 = .ok (.iadd, 1) := by decide +kernel
theorem d_J_combine_43 : decode (xMc m_J_combine) 43 = .ok (.ireturn, 1) := by decide +kernel
theorem d_J_combine_44 : decode (xMc m_J_combine) 44 = .ok (.iload_n 1, 1) := by decide +kernel
theorem d_J_combine_45 : decode (xMc m_J_combine) 45 = .ok (.iload_n 2, 1) := by decide +kernel
theorem d_J_combine_46 : decode (xMc m_J_combine) 46 = .ok (.invokestatic 39, 3) := by decide +kernel
theorem d_J_combine_49 : decode (xMc m_J_combine) 49 = .ok (.ireturn, 1) := by decide +kernel
theorem d_J_combine_50 : decode (xMc m_J_combine) 50 = .ok (.iload_n 1, 1) := by decide +kernel
theorem d_J_combine_51 : decode (xMc m_J_combine) 51 = .ok (.bipush 31, 2) := by decide +kernel
theorem d_J_combine_53 : decode (xMc m_J_combine) 53 = .ok (.imul, 1) := by decide +kernel
theorem d_J_combine_54 : decode (xMc m_J_combine) 54 = .ok (.iload_n 2, 1) := by decide +kernel
theorem d_J_combine_55 : decode (xMc m_J_combine) 55 = .ok (.iadd, 1) := by decide +kernel
theorem d_J_combine_56 : decode (xMc m_J_combine) 56 = .ok (.ireturn, 1) := by decide +kernel
theorem d_J_combine_57 : decode (xMc m_J_combine) 57 = .ok (.iload_n 2, 1) := by decide +kernel
theorem d_J_combine_58 : decode (xMc m_J_combine) 58 = .ok (.ifCond .ne 7, 3) := by decide +kernel
theorem d_J_combine_61 : decode (xMc m_J_combine) 61 = .ok (.iconst 0, 1) := by decide +kernel
theorem d_J_combine_62 : decode (xMc m_J_combine) 62 = .ok (.goto 6, 3) := by decide +kernel
theorem d_J_combine_65 : decode (xMc m_J_combine) 65 = .ok (.iload_n 1, 1) := by decide +kernel
theorem d_J_combine_66 : decode (xMc m_J_combine) 66 = .ok (.iload_n 2, 1) := by decide +kernel
theorem d_J_combine_67 : decode (xMc m_J_combine) 67 = .ok (.idiv, 1) := by decide +kernel
theorem d_J_combine_68 : decode (xMc m_J_combine) 68 = .ok (.ireturn, 1) := by decide +kernel
theorem d_J_combine_69 : decode (xMc m_J_combine) 69 = .ok (.iload_n 1, 1) := by decide +kernel
theorem d_J_combine_70 : decode (xMc m_J_combine) 70 = .ok (.ireturn, 1) := by decide +kernel
theorem d_P_indexOf_0 : decode (xMc m_P_indexOf) 0 = .ok (.iconst 0, 1) := by decide +kernel
theorem d_P_indexOf_1 : decode (xMc m_P_indexOf) 1 = .ok (.istore_n 2, 1) := by decide +kernel
theorem d_P_indexOf_2 : decode (xMc m_P_indexOf) 2 = .ok (.iload_n 2, 1) := by decide +kernel
theorem d_P_indexOf_3 : decode (xMc m_P_indexOf) 3 = .ok (.aload_n 0, 1) := by decide +kernel
theorem d_P_indexOf_4 : decode (xMc m_P_indexOf) 4 = .ok (.getfield 9, 3) := by decide +kernel
theorem d_P_indexOf_7 : decode (xMc m_P_indexOf) 7 = .ok (.if_icmp .ge 21, 3) := by decide +kernel
theorem d_P_indexOf_10 : decode (xMc m_P_indexOf) 10 = .ok (.aload_n 0, 1) := by decide +kernel
theorem d_P_indexOf_11 : decode (xMc m_P_indexOf) 11 = .ok (.getfield 15, 3) := by decide +kernel
theorem d_P_indexOf_14 : decode (xMc m_P_indexOf) 14 = .ok (.iload_n 2, 1) := by decide +kernel
theorem d_P_indexOf_15 : decode (xMc m_P_indexOf) 15 = .ok (.iaload, 1) := by decide +kernel
theorem d_P_indexOf_16 : decode (xMc m_P_indexOf) 16 = .ok (.iload_n 1, 1) := by decide +kernel
theorem d_P_indexOf_17 : decode (xMc m_P_indexOf) 17 = .ok (.if_icmp .ne 5, 3) := by decide +kernel
theorem d_P_indexOf_20 : decode (xMc m_P_indexOf) 20 = .ok (.iload_n 2, 1) := by decide +kernel
theorem d_P_indexOf_21 : decode (xMc m_P_indexOf) 21 = .ok (.ireturn, 1) := by decide +kernel
theorem d_P_indexOf_22 : decode (xMc m_P_indexOf) 22 = .ok (.iinc 2 1, 3) := by decide +kernel
theorem d_P_indexOf_25 : decode (xMc m_P_indexOf) 25 = .ok (.goto (-23), 3) := by decide +kernel
theorem d_P_indexOf_28 : decode (xMc m_P_indexOf) 28 = .ok (.iconst (-1), 1) := by decide +kernel
theorem d_P_indexOf_29 : decode (xMc m_P_indexOf) 29 = .ok (.ireturn, 1) := by decide +kernel
theorem d_K_taskNumber_0 : decode (xMc m_K_taskNumber) 0 = .ok (.aload_n 0, 1) := by decide +kernel
theorem d_K_taskNumber_1 : decode (xMc m_K_taskNumber) 1 = .ok (.getfield 19, 3) := by decide +kernel
theorem d_K_taskNumber_4 : decode (xMc m_K_taskNumber) 4 = .ok (.ifnonnull 5, 3) := by decide +kernel
theorem d_K_taskNumber_7 : decode (xMc m_K_taskNumber) 7 = .ok (.iconst (-1), 1) := by decide +kernel
theorem d_K_taskNumber_8 : decode (xMc m_K_taskNumber) 8 = .ok (.ireturn, 1) := by decide +kernel
theorem d_K_taskNumber_9 : decode (xMc m_K_taskNumber) 9 = .ok (.aload_n 0, 1) := by decide +kernel
theorem d_K_taskNumber_10 : decode (xMc m_K_taskNumber) 10 = .ok (.getfield 19, 3) := by decide +kernel
theorem d_K_taskNumber_13 : decode (xMc m_K_taskNumber) 13 = .ok (.getfield 40, 3) := by decide +kernel
theorem d_K_taskNumber_16 : decode (xMc m_K_taskNumber) 16 = .ok (.ifCond .eq 13, 3) := by decide +kernel
theorem d_K_taskNumber_19 : decode (xMc m_K_taskNumber) 19 = .ok (.aload_n 0, 1) := by decide +kernel
theorem d_K_taskNumber_20 : decode (xMc m_K_taskNumber) 20 = .ok (.getfield 19, 3) := by decide +kernel
theorem d_K_taskNumber_23 : decode (xMc m_K_taskNumber) 23 = .ok (.getfield 43, 3) := by decide +kernel
theorem d_K_taskNumber_26 : decode (xMc m_K_taskNumber) 26 = .ok (.goto 13, 3) := by decide +kernel
theorem d_K_taskNumber_29 : decode (xMc m_K_taskNumber) 29 = .ok (.bipush 8, 2) := by decide +kernel
theorem d_K_taskNumber_31 : decode (xMc m_K_taskNumber) 31 = .ok (.aload_n 0, 1) := by decide +kernel
theorem d_K_taskNumber_32 : decode (xMc m_K_taskNumber) 32 = .ok (.getfield 19, 3) := by decide +kernel
theorem d_K_taskNumber_35 : decode (xMc m_K_taskNumber) 35 = .ok (.getfield 43, 3) := by decide +kernel
theorem d_K_taskNumber_38 : decode (xMc m_K_taskNumber) 38 = .ok (.iadd, 1) := by decide +kernel
theorem d_K_taskNumber_39 : decode (xMc m_K_taskNumber) 39 = .ok (.ireturn, 1) := by decide +kernel
end
section
/-! Math -/
theorem c_Z_max {l : Launch} {G : xG} {h : xH} (a b : Int32) : xVM l G 0 0 m_Z_max [.int a, .int b] h (fun r h' => r = .inl (some (.int (if a < b then b else a))) ∧ h' = h) := by
  unfold xVM
  refine x_iload_n d_Z_max_0 rfl ?_
  refine x_iload_n d_Z_max_1 rfl ?_
  refine x_icmp_lt (tgt := 9) d_Z_max_2 (by decide) (fun c1 => ?_) (fun c1 => ?_)
  · refine x_iload_n d_Z_max_9 rfl ?_
    exact x_iret d_Z_max_10 rfl rfl ⟨by rw [if_pos c1], rfl⟩
  · refine x_iload_n d_Z_max_5 rfl ?_
    refine x_goto (tgt := 10) d_Z_max_6 (by decide) ?_
    exact x_iret d_Z_max_10 rfl rfl ⟨by rw [if_neg c1], rfl⟩
theorem c_Z_min {l : Launch} {G : xG} {h : xH} (a b : Int32) : xVM l G 0 0 m_Z_min [.int a, .int b] h (fun r h' => r = .inl (some (.int (if b < a then b else a))) ∧ h' = h) := by
  unfold xVM
  refine x_iload_n d_Z_min_0 rfl ?_
  refine x_iload_n d_Z_min_1 rfl ?_
  refine x_icmp_gt (tgt := 9) d_Z_min_2 (by decide) (fun c1 => ?_) (fun c1 => ?_)
  · refine x_iload_n d_Z_min_9 rfl ?_
    exact x_iret d_Z_min_10 rfl rfl ⟨by rw [if_pos c1], rfl⟩
  · refine x_iload_n d_Z_min_5 rfl ?_
    refine x_goto (tgt := 10) d_Z_min_6 (by decide) ?_
    exact x_iret d_Z_min_10 rfl rfl ⟨by rw [if_neg c1], rfl⟩
def xabsL (x : Int64) : Int64 := if 0 ≤ lg_cmp x 0 then x else -x
theorem c_Z_abs {l : Launch} {G : xG} {h : xH} (a : Int64) : xVM l G 0 0 m_Z_abs [.long a] h (fun r h' => r = .inl (some (.long (xabsL a))) ∧ h' = h) := by
  unfold xVM
  refine x_lload_n d_Z_abs_0 rfl ?_
  refine x_lconst (v := 0) d_Z_abs_1 (by decide) ?_
  refine x_lcmp d_Z_abs_2 ?_
  refine x_if_ge (tgt := 11) d_Z_abs_3 (by decide) (fun c1 => ?_) (fun c1 => ?_)
  · refine x_lload_n d_Z_abs_11 rfl ?_
    exact x_lret d_Z_abs_12 rfl ⟨by unfold xabsL; rw [if_pos c1], rfl⟩
  · refine x_lload_n d_Z_abs_6 rfl ?_
    refine x_lneg d_Z_abs_7 ?_
    refine x_goto (tgt := 12) d_Z_abs_8 (by decide) ?_
    exact x_lret d_Z_abs_12 rfl ⟨by unfold xabsL; rw [if_neg c1], rfl⟩
def xfm (x y : Int32) : Int32 := if 0 ≤ x ^^^ y then x - x / y * y else if x - x / y * y = 0 then x - x / y * y else (x - x / y * y) + y
theorem c_Z_floorMod {l : Launch} {G : xG} {h : xH} (a b : Int32) (hb : ¬ b = 0) : xVM l G 0 0 m_Z_floorMod [.int a, .int b] h (fun r h' => r = .inl (some (.int (xfm a b))) ∧ h' = h) := by
  unfold xVM
  refine x_iload_n d_Z_floorMod_0 rfl ?_
  refine x_iload_n d_Z_floorMod_1 rfl ?_
  refine x_irem d_Z_floorMod_2 hb ?_
  refine x_istore_n d_Z_floorMod_3 (by decide) ?_
  refine x_iload_n d_Z_floorMod_4 rfl ?_
  refine x_iload_n d_Z_floorMod_5 rfl ?_
  refine x_ixor d_Z_floorMod_6 ?_
  refine x_if_ge (tgt := 18) d_Z_floorMod_7 (by decide) (fun c1 => ?_) (fun c1 => ?_)
  · refine x_iload_n d_Z_floorMod_18 rfl ?_
    exact x_iret d_Z_floorMod_19 rfl rfl ⟨by unfold xfm; rw [if_pos c1], rfl⟩
  · refine x_iload_n d_Z_floorMod_10 rfl ?_
    refine x_if_eq (tgt := 18) d_Z_floorMod_11 (by decide) (fun c2 => ?_) (fun c2 => ?_)
    · refine x_iload_n d_Z_floorMod_18 rfl ?_
      exact x_iret d_Z_floorMod_19 rfl rfl ⟨by unfold xfm; rw [if_neg c1, if_pos c2], rfl⟩
    · refine x_iload_n d_Z_floorMod_14 rfl ?_
      refine x_iload_n d_Z_floorMod_15 rfl ?_
      refine x_iadd d_Z_floorMod_16 ?_
      exact x_iret d_Z_floorMod_17 rfl rfl ⟨by unfold xfm; rw [if_neg c1, if_neg c2], rfl⟩
/-! Worker -/
theorem c_K_drop {l : Launch} {G : xG} {h : xH} {a : Nat} (hT : xT h a = 6) : xVM l G 0 0 m_K_drop [.ref a] h (fun r h' => r = .inl none ∧ h' = xwI (xwP h a 2 none) a 3 0) := by
  unfold xVM
  refine x_aload_n d_K_drop_0 rfl ?_
  refine x_null d_K_drop_1 ?_
  refine x_putP (x := none) (k := 5) (j := 2) d_K_drop_2 (by assumption) rfl (by decide) wf_K_19 (Or.inl rfl) rfl rfl rfl ?_
  refine x_aload_n d_K_drop_5 rfl ?_
  refine x_iconst (v := 0) d_K_drop_6 (by decide) ?_
  refine x_putI (k := 5) (j := 3) d_K_drop_7 (by assumption) rfl (by decide) wf_K_23 (Or.inl rfl) (by first | rfl | assumption) rfl rfl ?_
  exact x_vret d_K_drop_10 rfl ⟨rfl, rfl⟩
theorem c_K_take {l : Launch} {G : xG} {h : xH} {a t : Nat} (hT : xT h a = 6) (hT2 : xT h t = 5) : xVM l G 0 0 m_K_take [.ref a, .ref t] h (fun r h' => r = .inl none ∧ h' = xwI (xwP h a 2 (some t)) a 3 (xI h t 2)) := by
  unfold xVM
  refine x_aload_n d_K_take_0 rfl ?_
  refine x_aload_n d_K_take_1 rfl ?_
  refine x_putP (x := some t) (k := 5) (j := 2) d_K_take_2 (by assumption) rfl (by decide) wf_K_19 (Or.inl rfl) rfl rfl rfl ?_
  refine x_aload_n d_K_take_5 rfl ?_
  refine x_aload_n d_K_take_6 rfl ?_
  refine x_getI (k := 4) (j := 2) d_K_take_7 (by assumption) rfl (by decide) wf_K_29 rfl ?_
  refine x_putI (k := 5) (j := 3) d_K_take_10 (by assumption) rfl (by decide) wf_K_23 (Or.inl rfl) (by first | rfl | assumption) rfl rfl ?_
  exact x_vret d_K_take_13 rfl ⟨rfl, rfl⟩
/-- doUnits: what a worker's tick does -/
theorem c_K_doUnits0 {l : Launch} {G : xG} {h : xH} {a : Nat} (hT : xT h a = 6) (hp : xP h a 2 = none) : xVM l G 1 21 m_K_doUnits [.ref a] h (fun r h' => r = .inl (some (.int 0)) ∧ h' = h) := by
  unfold xVM
  refine x_aload_n d_K_doUnits_0 rfl ?_
  refine x_getQ (k := 5) (j := 2) d_K_doUnits_1 (by assumption) rfl (by decide) wf_K_19 rfl ?_
  rw [hp]
  refine x_ifnonnullN d_K_doUnits_4 ?_
  refine x_iconst (v := 0) d_K_doUnits_7 (by decide) ?_
  exact x_iret d_K_doUnits_8 rfl rfl ⟨rfl, rfl⟩
def xmin (a b : Int32) : Int32 := if b < a then b else a
theorem c_K_doUnits1 {l : Launch} {G : xG} {h : xH} {a t : Nat} (hT : xT h a = 6) (hp : xP h a 2 = some t) : xVM l G 1 21 m_K_doUnits [.ref a] h
    (fun r h' => r = .inl (some (.int (if xI h a 3 - xmin (xI h a 1) (xI h a 3) = 0 then 1 else 0))) ∧ h' = xwI (xwI h a 4 (xI h a 4 + xmin (xI h a 1) (xI h a 3))) a 3 (xI h a 3 - xmin (xI h a 1) (xI h a 3))) := by
  unfold xVM
  refine x_aload_n d_K_doUnits_0 rfl ?_
  refine x_getR (k := 5) (j := 2) d_K_doUnits_1 (by assumption) rfl (by decide) wf_K_19 rfl (by assumption) ?_
  refine x_ifnonnull (tgt := 9) d_K_doUnits_4 (by decide) ?_
  refine x_aload_n d_K_doUnits_9 rfl ?_
  refine x_getI (k := 5) (j := 1) d_K_doUnits_10 (by assumption) rfl (by decide) wf_K_15 rfl ?_
  refine x_aload_n d_K_doUnits_13 rfl ?_
  refine x_getI (k := 5) (j := 3) d_K_doUnits_14 (by assumption) rfl (by decide) wf_K_23 rfl ?_
  refine x_callS (M' := m_Z_min) (As := [.int (xI h a 1), .int (xI h a 3)]) (st := []) (fr' := 0) (wd' := 0) d_K_doUnits_17 pl_Z_min rfl (Nat.le_of_ble_eq_true rfl) (by decide) (by decide) wc_Z_min wi_Z wl_K_34 ws_Z_min (by decide) np_Z_min (Nat.le_of_ble_eq_true rfl) (fun q hq => by cases hq) (c_Z_min _ _) (fun k a h1 q => by cases q.1) (fun v h1 q => ?_)
  obtain ⟨q1, q2⟩ := q
  cases q1
  rw [q2]
  show xV l G 1 21 m_K_doUnits 20 _ [.int (xmin (xI h a 1) (xI h a 3))] h _
  refine x_istore_n d_K_doUnits_20 (by decide) ?_
  refine x_aload_n d_K_doUnits_21 rfl ?_
  refine x_dup d_K_doUnits_22 rfl ?_
  refine x_getI (k := 5) (j := 4) d_K_doUnits_23 (by assumption) rfl (by decide) wf_K_26 rfl ?_
  refine x_iload_n d_K_doUnits_26 rfl ?_
  refine x_iadd d_K_doUnits_27 ?_
  refine x_putI (k := 5) (j := 4) d_K_doUnits_28 (by assumption) rfl (by decide) wf_K_26 (Or.inl rfl) (by first | rfl | assumption) rfl rfl ?_
  refine x_aload_n d_K_doUnits_31 rfl ?_
  refine x_dup d_K_doUnits_32 rfl ?_
  refine x_getI (k := 5) (j := 3) d_K_doUnits_33 (by assumption) rfl (by decide) wf_K_23 rfl ?_
  refine x_iload_n d_K_doUnits_36 rfl ?_
  refine x_isub d_K_doUnits_37 ?_
  refine x_putI (k := 5) (j := 3) d_K_doUnits_38 (by assumption) rfl (by decide) wf_K_23 (Or.inl rfl) (by first | rfl | assumption) rfl rfl ?_
  refine x_aload_n d_K_doUnits_41 rfl ?_
  refine x_getI (k := 5) (j := 3) d_K_doUnits_42 (by assumption) rfl (by decide) wf_K_23 rfl ?_
  have e1 : ∀ m : Int32, xu (xu (xI h) a 4 (xI h a 4 + m)) a 3 (xu (xI h) a 4 (xI h a 4 + m) a 3 - m) a 3 = xI h a 3 - m := fun m => by rw [xu_s, xu_j _ _ _ _ (by decide)]
  have e2 : ∀ m : Int32, xwI (xwI h a 4 (xI h a 4 + m)) a 3 (xu (xI h) a 4 (xI h a 4 + m) a 3 - m) = xwI (xwI h a 4 (xI h a 4 + m)) a 3 (xI h a 3 - m) := fun m => by rw [xu_j _ _ _ _ (by decide)]
  refine x_if_ne (tgt := 52) d_K_doUnits_45 (by decide) (fun c1 => ?_) (fun c1 => ?_)
  · refine x_iconst (v := 0) d_K_doUnits_52 (by decide) ?_
    refine x_iret d_K_doUnits_53 rfl rfl ⟨?_, e2 _⟩
    rw [if_neg (fun z => c1 ((e1 _).trans z))]
  · refine x_iconst (v := 1) d_K_doUnits_48 (by decide) ?_
    refine x_goto (tgt := 53) d_K_doUnits_49 (by decide) ?_
    refine x_iret d_K_doUnits_53 rfl rfl ⟨?_, e2 _⟩
    rw [if_pos ((e1 _).symm.trans c1)]
/-! Task -/
theorem c_T_isDone {l : Launch} {G : xG} {h : xH} {a : Nat} (hT : xT h a = 5) : xVM l G 0 0 m_T_isDone [.ref a] h (fun r h' => r = .inl (some (.int (if xI h a 4 = -1 then 0 else 1))) ∧ h' = h) := by
  unfold xVM
  refine x_aload_n d_T_isDone_0 rfl ?_
  refine x_getI (k := 4) (j := 4) d_T_isDone_1 (by assumption) rfl (by decide) wf_T_18 rfl ?_
  refine x_iconst (v := (-1)) d_T_isDone_4 (by decide) ?_
  refine x_icmp_eq (tgt := 12) d_T_isDone_5 (by decide) (fun c1 => ?_) (fun c1 => ?_)
  · refine x_iconst (v := 0) d_T_isDone_12 (by decide) ?_
    exact x_iret d_T_isDone_13 rfl rfl ⟨by rw [if_pos c1], rfl⟩
  · refine x_iconst (v := 1) d_T_isDone_8 (by decide) ?_
    refine x_goto (tgt := 13) d_T_isDone_9 (by decide) ?_
    exact x_iret d_T_isDone_13 rfl rfl ⟨by rw [if_neg c1], rfl⟩
theorem c_T_renew {l : Launch} {G : xG} {h : xH} {a : Nat} (u r0 : Int32) (hT : xT h a = 5) : xVM l G 0 0 m_T_renew [.ref a, .int u, .int r0] h (fun r h' => r = .inl none ∧ h' = xwI (xwI (xwI h a 2 (u + r0)) a 3 r0) a 4 (-1)) := by
  unfold xVM
  refine x_aload_n d_T_renew_0 rfl ?_
  refine x_iload_n d_T_renew_1 rfl ?_
  refine x_iload_n d_T_renew_2 rfl ?_
  refine x_iadd d_T_renew_3 ?_
  refine x_putI (k := 4) (j := 2) d_T_renew_4 (by assumption) rfl (by decide) wf_T_9 (Or.inl rfl) (by first | rfl | assumption) rfl rfl ?_
  refine x_aload_n d_T_renew_7 rfl ?_
  refine x_iload_n d_T_renew_8 rfl ?_
  refine x_putI (k := 4) (j := 3) d_T_renew_9 (by assumption) rfl (by decide) wf_T_15 (Or.inl rfl) (by first | rfl | assumption) rfl rfl ?_
  refine x_aload_n d_T_renew_12 rfl ?_
  refine x_iconst (v := (-1)) d_T_renew_13 (by decide) ?_
  refine x_putI (k := 4) (j := 4) d_T_renew_14 (by assumption) rfl (by decide) wf_T_18 (Or.inl rfl) (by first | rfl | assumption) rfl rfl ?_
  exact x_vret d_T_renew_17 rfl ⟨rfl, rfl⟩
end
section
/-! Pairs: a: the object, ka, va: its rows, cap: their length -/
def Prs (h : xH) (a ka va cap : Nat) : Prop := xT h a = 4 ∧ xP h a 0 = some ka ∧ xP h a 1 = some va ∧ xT h ka = 100 ∧ xT h va = 100 ∧ xN h ka = cap ∧ xN h va = cap ∧ a ≠ ka ∧ a ≠ va ∧ ka ≠ va ∧ cap < 2 ^ 31
theorem c_P_append {l : Launch} {G : xG} {h : xH} {a ka va cap n : Nat} (k v : Int32) (hp : Prs h a ka va cap) (hs : xI h a 2 = nI n) (hn : n < cap) : xVM l G 0 0 m_P_append [.ref a, .int k, .int v] h
    (fun r h' => r = .inl none ∧ h' = xwI (xwI (xwI h ka n k) va n v) a 2 (nI (n + 1))) := by
  obtain ⟨pT, pK, pV, pTk, pTv, pNk, pNv, n1, n2, n3, pc⟩ := hp
  unfold xVM
  refine x_aload_n d_P_append_0 rfl ?_
  refine x_getE (k := 3) (j := 2) d_P_append_1 (by assumption) rfl (by decide) wf_P_9 rfl (hs) ?_
  refine x_aload_n d_P_append_4 rfl ?_
  refine x_getR (k := 3) (j := 0) d_P_append_5 (by assumption) rfl (by decide) wf_P_15 rfl (by assumption) ?_
  refine x_alenN (t := 100) d_P_append_8 (by assumption) (by decide) rfl pNk ?_
  refine x_icmp_ge_f 42 d_P_append_9 (by decide) (nI_ge hn (by omega)) ?_
  refine x_aload_n d_P_append_12 rfl ?_
  refine x_getR (k := 3) (j := 0) d_P_append_13 (by assumption) rfl (by decide) wf_P_15 rfl (by assumption) ?_
  refine x_aload_n d_P_append_16 rfl ?_
  refine x_getE (k := 3) (j := 2) d_P_append_17 (by assumption) rfl (by decide) wf_P_9 rfl (hs) ?_
  refine x_iload_n d_P_append_20 rfl ?_
  refine x_iastN d_P_append_21 (by assumption) pNk hn pc ?_
  have e1 : xI (xwI h ka n k) a 2 = nI n := (xu_a _ _ _ _ n1).trans hs
  refine x_aload_n d_P_append_22 rfl ?_
  refine x_getR (k := 3) (j := 1) d_P_append_23 (by assumption) rfl (by decide) wf_P_19 rfl (by assumption) ?_
  refine x_aload_n d_P_append_26 rfl ?_
  refine x_getE (k := 3) (j := 2) d_P_append_27 (by assumption) rfl (by decide) wf_P_9 rfl (e1) ?_
  refine x_iload_n d_P_append_30 rfl ?_
  refine x_iastN d_P_append_31 (by assumption) pNv hn pc ?_
  have e2 : xI (xwI (xwI h ka n k) va n v) a 2 = nI n := (xu_a _ _ _ _ n2).trans e1
  refine x_aload_n d_P_append_32 rfl ?_
  refine x_dup d_P_append_33 rfl ?_
  refine x_getE (k := 3) (j := 2) d_P_append_34 (by assumption) rfl (by decide) wf_P_9 rfl (e2) ?_
  refine x_iconst (v := 1) d_P_append_37 (by decide) ?_
  refine x_iadd d_P_append_38 ?_
  refine x_putI (k := 3) (j := 2) d_P_append_39 (by assumption) rfl (by decide) wf_P_9 (Or.inl rfl) (by first | rfl | assumption) rfl rfl ?_
  refine x_vret d_P_append_42 rfl ⟨rfl, ?_⟩
  rw [nI_1]
/-- the least place of a key -/
def idxOf (f : Nat → Int32) (key : Int32) : Nat → Option Nat
  | 0 => none
  | n + 1 => match idxOf f key n with
    | some j => some j
    | none => if f n = key then some n else none
theorem idxOf_none {f : Nat → Int32} {key : Int32} : ∀ {n : Nat}, idxOf f key n = none ↔ ∀ j, j < n → f j ≠ key
  | 0 => by simp [idxOf]
  | n + 1 => by
    have ih := @idxOf_none f key n
    unfold idxOf
    cases hx : idxOf f key n with
    | some j =>
      simp only [reduceCtorEq, false_iff]
      intro hh
      have : idxOf f key n = none := ih.mpr (fun j hj => hh j (by omega))
      rw [hx] at this
      cases this
    | none =>
      have h1 := ih.mp hx
      by_cases hk : f n = key
      · simp only [hk, if_true, reduceCtorEq, false_iff]
        intro hh
        exact hh n (by omega) hk
      · simp only [hk, if_false, true_iff]
        intro j hj
        rcases Nat.lt_succ_iff_lt_or_eq.mp hj with h2 | h2
        · exact h1 j h2
        · rw [h2]; exact hk
theorem idxOf_some {f : Nat → Int32} {key : Int32} {n i : Nat} (hi : i < n) (h1 : ∀ j, j < i → f j ≠ key) (h2 : f i = key) : idxOf f key n = some i := by
  induction n with
  | zero => omega
  | succ n ih =>
    unfold idxOf
    by_cases h3 : i < n
    · rw [ih h3]
    · have h4 : i = n := by omega
      subst h4
      rw [idxOf_none.mpr h1]
      simp [h2]
theorem c_P_indexOf {l : Launch} {G : xG} {h : xH} {a ka va cap n : Nat} (k : Int32) (hp : Prs h a ka va cap) (hs : xI h a 2 = nI n) (hn : n ≤ cap) : xVM l G 0 0 m_P_indexOf [.ref a, .int k] h
    (fun r h' => r = .inl (some (.int (match idxOf (xI h ka) k n with | some j => nI j | none => -1))) ∧ h' = h) := by
  obtain ⟨pT, pK, pV, pTk, pTv, pNk, pNv, n1, n2, n3, pc⟩ := hp
  have lp : ∀ m i : Nat, i + m = n → (∀ j, j < i → xI h ka j ≠ k) → xV l G 0 0 m_P_indexOf 2 [(2, .int (nI i)), (0, .ref a), (1, .int k)] [] h (fun r h' => r = .inl (some (.int (match idxOf (xI h ka) k n with | some j => nI j | none => -1))) ∧ h' = h) := by
    intro m
    induction m with
    | zero =>
      intro i him hj
      refine x_iload_n d_P_indexOf_2 rfl ?_
      refine x_aload_n d_P_indexOf_3 rfl ?_
      refine x_getE (k := 3) (j := 2) d_P_indexOf_4 (by assumption) rfl (by decide) wf_P_9 rfl (hs) ?_
      refine x_icmp_ge_t (tgt := 28) d_P_indexOf_7 (by decide) (nI_le (by omega) (by omega)) ?_
      refine x_iconst (v := (-1)) d_P_indexOf_28 (by decide) ?_
      refine x_iret d_P_indexOf_29 rfl rfl ⟨?_, rfl⟩
      rw [idxOf_none.mpr (fun j hj9 => hj j (by omega))]
    | succ m ih =>
      intro i him hj
      refine x_iload_n d_P_indexOf_2 rfl ?_
      refine x_aload_n d_P_indexOf_3 rfl ?_
      refine x_getE (k := 3) (j := 2) d_P_indexOf_4 (by assumption) rfl (by decide) wf_P_9 rfl (hs) ?_
      refine x_icmp_ge_f 28 d_P_indexOf_7 (by decide) (nI_ge (by omega) (by omega)) ?_
      refine x_aload_n d_P_indexOf_10 rfl ?_
      refine x_getR (k := 3) (j := 0) d_P_indexOf_11 (by assumption) rfl (by decide) wf_P_15 rfl (by assumption) ?_
      refine x_iload_n d_P_indexOf_14 rfl ?_
      refine x_ialdN d_P_indexOf_15 (by assumption) pNk (by omega) pc rfl ?_
      refine x_iload_n d_P_indexOf_16 rfl ?_
      refine x_icmp_ne (tgt := 22) d_P_indexOf_17 (by decide) (fun c1 => ?_) (fun c1 => ?_)
      · refine x_inc d_P_indexOf_22 rfl (by decide) ?_
        refine x_goto (tgt := 2) d_P_indexOf_25 (by decide) ?_
        rw [nI_1]
        exact ih (i + 1) (by omega) (fun j hj9 => by
          rcases Nat.lt_succ_iff_lt_or_eq.mp hj9 with h2 | h2
          · exact hj j h2
          · rw [h2]; exact c1)
      · refine x_iload_n d_P_indexOf_20 rfl ?_
        refine x_iret d_P_indexOf_21 rfl rfl ⟨?_, rfl⟩
        rw [idxOf_some (by omega) hj c1]
  unfold xVM
  refine x_iconst (v := 0) d_P_indexOf_0 (by decide) ?_
  refine x_istore_n d_P_indexOf_1 (by decide) ?_
  exact lp n 0 (by omega) (fun j hj => absurd hj (Nat.not_lt_zero j))
end
section
theorem d_M_init_0 : decode (xMc m_M_init) 0 = .ok (.aload_n 0, 1) := by decide +kernel
theorem d_M_init_1 : decode (xMc m_M_init) 1 = .ok (.invokespecial 1, 3) := by decide +kernel
theorem d_M_init_4 : decode (xMc m_M_init) 4 = .ok (.aload_n 0, 1) := by decide +kernel
theorem d_M_init_5 : decode (xMc m_M_init) 5 = .ok (.bipush 6, 2) := by decide +kernel
theorem d_M_init_7 : decode (xMc m_M_init) 7 = .ok (.newarray .int, 2) := by decide +kernel
theorem d_M_init_9 : decode (xMc m_M_init) 9 = .ok (.putfield 7, 3) := by decide +kernel
theorem d_M_init_12 : decode (xMc m_M_init) 12 = .ok (.aload_n 0, 1) := by decide +kernel
theorem d_M_init_13 : decode (xMc m_M_init) 13 = .ok (.bipush 36, 2) := by decide +kernel
theorem d_M_init_15 : decode (xMc m_M_init) 15 = .ok (.newarray .int, 2) := by decide +kernel
theorem d_M_init_17 : decode (xMc m_M_init) 17 = .ok (.putfield 13, 3) := by decide +kernel
theorem d_M_init_20 : decode (xMc m_M_init) 20 = .ok (.aload_n 0, 1) := by decide +kernel
theorem d_M_init_21 : decode (xMc m_M_init) 21 = .ok (.iconst 4, 1) := by decide +kernel
theorem d_M_init_22 : decode (xMc m_M_init) 22 = .ok (.newarray .int, 2) := by decide +kernel
theorem d_M_init_24 : decode (xMc m_M_init) 24 = .ok (.dup, 1) := by decide +kernel
theorem d_M_init_25 : decode (xMc m_M_init) 25 = .ok (.iconst 0, 1) := by decide +kernel
theorem d_M_init_26 : decode (xMc m_M_init) 26 = .ok (.iconst 1, 1) := by decide +kernel
theorem d_M_init_27 : decode (xMc m_M_init) 27 = .ok (.iastore, 1) := by decide +kernel
theorem d_M_init_28 : decode (xMc m_M_init) 28 = .ok (.dup, 1) := by decide +kernel
theorem d_M_init_29 : decode (xMc m_M_init) 29 = .ok (.iconst 1, 1) := by decide +kernel
theorem d_M_init_30 : decode (xMc m_M_init) 30 = .ok (.iconst 1, 1) := by decide +kernel
theorem d_M_init_31 : decode (xMc m_M_init) 31 = .ok (.iastore, 1) := by decide +kernel
theorem d_M_init_32 : decode (xMc m_M_init) 32 = .ok (.dup, 1) := by decide +kernel
theorem d_M_init_33 : decode (xMc m_M_init) 33 = .ok (.iconst 2, 1) := by decide +kernel
theorem d_M_init_34 : decode (xMc m_M_init) 34 = .ok (.iconst 1, 1) := by decide +kernel
theorem d_M_init_35 : decode (xMc m_M_init) 35 = .ok (.iastore, 1) := by decide +kernel
theorem d_M_init_36 : decode (xMc m_M_init) 36 = .ok (.dup, 1) := by decide +kernel
theorem d_M_init_37 : decode (xMc m_M_init) 37 = .ok (.iconst 3, 1) := by decide +kernel
theorem d_M_init_38 : decode (xMc m_M_init) 38 = .ok (.iconst 1, 1) := by decide +kernel
theorem d_M_init_39 : decode (xMc m_M_init) 39 = .ok (.iastore, 1) := by decide +kernel
theorem d_M_init_40 : decode (xMc m_M_init) 40 = .ok (.putfield 16, 3) := by decide +kernel
theorem d_M_init_43 : decode (xMc m_M_init) 43 = .ok (.aload_n 0, 1) := by decide +kernel
theorem d_M_init_44 : decode (xMc m_M_init) 44 = .ok (.iconst 4, 1) := by decide +kernel
theorem d_M_init_45 : decode (xMc m_M_init) 45 = .ok (.newarray .int, 2) := by decide +kernel
theorem d_M_init_47 : decode (xMc m_M_init) 47 = .ok (.dup, 1) := by decide +kernel
theorem d_M_init_48 : decode (xMc m_M_init) 48 = .ok (.iconst 0, 1) := by decide +kernel
theorem d_M_init_49 : decode (xMc m_M_init) 49 = .ok (.iconst (-1), 1) := by decide +kernel
theorem d_M_init_50 : decode (xMc m_M_init) 50 = .ok (.iastore, 1) := by decide +kernel
theorem d_M_init_51 : decode (xMc m_M_init) 51 = .ok (.dup, 1) := by decide +kernel
theorem d_M_init_52 : decode (xMc m_M_init) 52 = .ok (.iconst 1, 1) := by decide +kernel
theorem d_M_init_53 : decode (xMc m_M_init) 53 = .ok (.iconst (-1), 1) := by decide +kernel
theorem d_M_init_54 : decode (xMc m_M_init) 54 = .ok (.iastore, 1) := by decide +kernel
theorem d_M_init_55 : decode (xMc m_M_init) 55 = .ok (.dup, 1) := by decide +kernel
theorem d_M_init_56 : decode (xMc m_M_init) 56 = .ok (.iconst 2, 1) := by decide +kernel
theorem d_M_init_57 : decode (xMc m_M_init) 57 = .ok (.iconst (-1), 1) := by decide +kernel
theorem d_M_init_58 : decode (xMc m_M_init) 58 = .ok (.iastore, 1) := by decide +kernel
theorem d_M_init_59 : decode (xMc m_M_init) 59 = .ok (.dup, 1) := by decide +kernel
theorem d_M_init_60 : decode (xMc m_M_init) 60 = .ok (.iconst 3, 1) := by decide +kernel
theorem d_M_init_61 : decode (xMc m_M_init) 61 = .ok (.iconst (-1), 1) := by decide +kernel
theorem d_M_init_62 : decode (xMc m_M_init) 62 = .ok (.iastore, 1) := by decide +kernel
theorem d_M_init_63 : decode (xMc m_M_init) 63 = .ok (.putfield 19, 3) := by decide +kernel
theorem d_M_init_66 : decode (xMc m_M_init) 66 = .ok (.aload_n 0, 1) := by decide +kernel
theorem d_M_init_67 : decode (xMc m_M_init) 67 = .ok (.iconst 4, 1) := by decide +kernel
theorem d_M_init_68 : decode (xMc m_M_init) 68 = .ok (.newarray .int, 2) := by decide +kernel
theorem d_M_init_70 : decode (xMc m_M_init) 70 = .ok (.putfield 22, 3) := by decide +kernel
theorem d_M_init_73 : decode (xMc m_M_init) 73 = .ok (.aload_n 0, 1) := by decide +kernel
theorem d_M_init_74 : decode (xMc m_M_init) 74 = .ok (.iconst 4, 1) := by decide +kernel
theorem d_M_init_75 : decode (xMc m_M_init) 75 = .ok (.newarray .int, 2) := by decide +kernel
theorem d_M_init_77 : decode (xMc m_M_init) 77 = .ok (.putfield 25, 3) := by decide +kernel
theorem d_M_init_80 : decode (xMc m_M_init) 80 = .ok (.aload_n 0, 1) := by decide +kernel
theorem d_M_init_81 : decode (xMc m_M_init) 81 = .ok (.iconst 4, 1) := by decide +kernel
theorem d_M_init_82 : decode (xMc m_M_init) 82 = .ok (.newarray .boolean, 2) := by decide +kernel
theorem d_M_init_84 : decode (xMc m_M_init) 84 = .ok (.dup, 1) := by decide +kernel
theorem d_M_init_85 : decode (xMc m_M_init) 85 = .ok (.iconst 0, 1) := by decide +kernel
theorem d_M_init_86 : decode (xMc m_M_init) 86 = .ok (.iconst 1, 1) := by decide +kernel
theorem d_M_init_87 : decode (xMc m_M_init) 87 = .ok (.bastore, 1) := by decide +kernel
theorem d_M_init_88 : decode (xMc m_M_init) 88 = .ok (.dup, 1) := by decide +kernel
theorem d_M_init_89 : decode (xMc m_M_init) 89 = .ok (.iconst 1, 1) := by decide +kernel
theorem d_M_init_90 : decode (xMc m_M_init) 90 = .ok (.iconst 1, 1) := by decide +kernel
theorem d_M_init_91 : decode (xMc m_M_init) 91 = .ok (.bastore, 1) := by decide +kernel
theorem d_M_init_92 : decode (xMc m_M_init) 92 = .ok (.dup, 1) := by decide +kernel
theorem d_M_init_93 : decode (xMc m_M_init) 93 = .ok (.iconst 2, 1) := by decide +kernel
theorem d_M_init_94 : decode (xMc m_M_init) 94 = .ok (.iconst 1, 1) := by decide +kernel
theorem d_M_init_95 : decode (xMc m_M_init) 95 = .ok (.bastore, 1) := by decide +kernel
theorem d_M_init_96 : decode (xMc m_M_init) 96 = .ok (.dup, 1) := by decide +kernel
theorem d_M_init_97 : decode (xMc m_M_init) 97 = .ok (.iconst 3, 1) := by decide +kernel
theorem d_M_init_98 : decode (xMc m_M_init) 98 = .ok (.iconst 1, 1) := by decide +kernel
theorem d_M_init_99 : decode (xMc m_M_init) 99 = .ok (.bastore, 1) := by decide +kernel
theorem d_M_init_100 : decode (xMc m_M_init) 100 = .ok (.putfield 28, 3) := by decide +kernel
theorem d_M_init_103 : decode (xMc m_M_init) 103 = .ok (.aload_n 0, 1) := by decide +kernel
theorem d_M_init_104 : decode (xMc m_M_init) 104 = .ok (.bipush 11, 2) := by decide +kernel
theorem d_M_init_106 : decode (xMc m_M_init) 106 = .ok (.newarray .boolean, 2) := by decide +kernel
theorem d_M_init_108 : decode (xMc m_M_init) 108 = .ok (.putfield 32, 3) := by decide +kernel
theorem d_M_init_111 : decode (xMc m_M_init) 111 = .ok (.aload_n 0, 1) := by decide +kernel
theorem d_M_init_112 : decode (xMc m_M_init) 112 = .ok (.bipush 11, 2) := by decide +kernel
theorem d_M_init_114 : decode (xMc m_M_init) 114 = .ok (.newarray .int, 2) := by decide +kernel
theorem d_M_init_116 : decode (xMc m_M_init) 116 = .ok (.putfield 35, 3) := by decide +kernel
theorem d_M_init_119 : decode (xMc m_M_init) 119 = .ok (.aload_n 0, 1) := by decide +kernel
theorem d_M_init_120 : decode (xMc m_M_init) 120 = .ok (.sipush 300, 3) := by decide +kernel
theorem d_M_init_123 : decode (xMc m_M_init) 123 = .ok (.newarray .int, 2) := by decide +kernel
theorem d_M_init_125 : decode (xMc m_M_init) 125 = .ok (.putfield 38, 3) := by decide +kernel
theorem d_M_init_128 : decode (xMc m_M_init) 128 = .ok (.aload_n 0, 1) := by decide +kernel
theorem d_M_init_129 : decode (xMc m_M_init) 129 = .ok (.sipush 300, 3) := by decide +kernel
theorem d_M_init_132 : decode (xMc m_M_init) 132 = .ok (.newarray .int, 2) := by decide +kernel
theorem d_M_init_134 : decode (xMc m_M_init) 134 = .ok (.putfield 41, 3) := by decide +kernel
theorem d_M_init_137 : decode (xMc m_M_init) 137 = .ok (.aload_n 0, 1) := by decide +kernel
theorem d_M_init_138 : decode (xMc m_M_init) 138 = .ok (.bipush 6, 2) := by decide +kernel
theorem d_M_init_140 : decode (xMc m_M_init) 140 = .ok (.newarray .int, 2) := by decide +kernel
theorem d_M_init_142 : decode (xMc m_M_init) 142 = .ok (.putfield 44, 3) := by decide +kernel
theorem d_M_init_145 : decode (xMc m_M_init) 145 = .ok (.aload_n 0, 1) := by decide +kernel
theorem d_M_init_146 : decode (xMc m_M_init) 146 = .ok (.ldc 47, 2) := by decide +kernel
theorem d_M_init_148 : decode (xMc m_M_init) 148 = .ok (.putfield 48, 3) := by decide +kernel
theorem d_M_init_151 : decode (xMc m_M_init) 151 = .ok (.aload_n 0, 1) := by decide +kernel
theorem d_M_init_152 : decode (xMc m_M_init) 152 = .ok (.iconst (-1), 1) := by decide +kernel
theorem d_M_init_153 : decode (xMc m_M_init) 153 = .ok (.putfield 52, 3) := by decide +kernel
theorem d_M_init_156 : decode (xMc m_M_init) 156 = .ok (.aload_n 0, 1) := by decide +kernel
theorem d_M_init_157 : decode (xMc m_M_init) 157 = .ok (.sipush 300, 3) := by decide +kernel
theorem d_M_init_160 : decode (xMc m_M_init) 160 = .ok (.newarray .int, 2) := by decide +kernel
theorem d_M_init_162 : decode (xMc m_M_init) 162 = .ok (.putfield 55, 3) := by decide +kernel
theorem d_M_init_165 : decode (xMc m_M_init) 165 = .ok (.aload_n 0, 1) := by decide +kernel
theorem d_M_init_166 : decode (xMc m_M_init) 166 = .ok (.sipush 300, 3) := by decide +kernel
theorem d_M_init_169 : decode (xMc m_M_init) 169 = .ok (.newarray .int, 2) := by decide +kernel
theorem d_M_init_171 : decode (xMc m_M_init) 171 = .ok (.putfield 58, 3) := by decide +kernel
theorem d_M_init_174 : decode (xMc m_M_init) 174 = .ok (.aload_n 0, 1) := by decide +kernel
theorem d_M_init_175 : decode (xMc m_M_init) 175 = .ok (.iconst 3, 1) := by decide +kernel
theorem d_M_init_176 : decode (xMc m_M_init) 176 = .ok (.newarray .int, 2) := by decide +kernel
theorem d_M_init_178 : decode (xMc m_M_init) 178 = .ok (.putfield 61, 3) := by decide +kernel
theorem d_M_init_181 : decode (xMc m_M_init) 181 = .ok (.return_, 1) := by decide +kernel
theorem d_M_thrown_0 : decode (xMc m_M_thrown) 0 = .ok (.aload_n 0, 1) := by decide +kernel
theorem d_M_thrown_1 : decode (xMc m_M_thrown) 1 = .ok (.getfield 64, 3) := by decide +kernel
theorem d_M_thrown_4 : decode (xMc m_M_thrown) 4 = .ok (.ireturn, 1) := by decide +kernel
theorem d_M_chunk_0 : decode (xMc m_M_chunk) 0 = .ok (.aload_n 0, 1) := by decide +kernel
theorem d_M_chunk_1 : decode (xMc m_M_chunk) 1 = .ok (.iload_n 3, 1) := by decide +kernel
theorem d_M_chunk_2 : decode (xMc m_M_chunk) 2 = .ok (.iconst 1, 1) := by decide +kernel
theorem d_M_chunk_3 : decode (xMc m_M_chunk) 3 = .ok (.bipush 6, 2) := by decide +kernel
theorem d_M_chunk_5 : decode (xMc m_M_chunk) 5 = .ok (.invokestatic 67, 3) := by decide +kernel
theorem d_M_chunk_8 : decode (xMc m_M_chunk) 8 = .ok (.ifCond .eq 21, 3) := by decide +kernel
theorem d_M_chunk_11 : decode (xMc m_M_chunk) 11 = .ok (.iload 4, 2) := by decide +kernel
theorem d_M_chunk_13 : decode (xMc m_M_chunk) 13 = .ok (.sipush (-1000), 3) := by decide +kernel
theorem d_M_chunk_16 : decode (xMc m_M_chunk) 16 = .ok (.sipush 1000, 3) := by decide +kernel
theorem d_M_chunk_19 : decode (xMc m_M_chunk) 19 = .ok (.invokestatic 67, 3) := by decide +kernel
theorem d_M_chunk_22 : decode (xMc m_M_chunk) 22 = .ok (.ifCond .eq 7, 3) := by decide +kernel
theorem d_M_chunk_25 : decode (xMc m_M_chunk) 25 = .ok (.iconst 1, 1) := by decide +kernel
theorem d_M_chunk_26 : decode (xMc m_M_chunk) 26 = .ok (.goto 4, 3) := by decide +kernel
theorem d_M_chunk_29 : decode (xMc m_M_chunk) 29 = .ok (.iconst 0, 1) := by decide +kernel
theorem d_M_chunk_30 : decode (xMc m_M_chunk) 30 = .ok (.invokevirtual 71, 3) := by decide +kernel
theorem d_M_chunk_33 : decode (xMc m_M_chunk) 33 = .ok (.ifCond .eq 5, 3) := by decide +kernel
theorem d_M_chunk_36 : decode (xMc m_M_chunk) 36 = .ok (.iconst 0, 1) := by decide +kernel
theorem d_M_chunk_37 : decode (xMc m_M_chunk) 37 = .ok (.ireturn, 1) := by decide +kernel
theorem d_M_chunk_38 : decode (xMc m_M_chunk) 38 = .ok (.aload_n 0, 1) := by decide +kernel
theorem d_M_chunk_39 : decode (xMc m_M_chunk) 39 = .ok (.getfield 75, 3) := by decide +kernel
theorem d_M_chunk_42 : decode (xMc m_M_chunk) 42 = .ok (.ifCond .ne 12, 3) := by decide +kernel
theorem d_M_chunk_45 : decode (xMc m_M_chunk) 45 = .ok (.aload_n 0, 1) := by decide +kernel
theorem d_M_chunk_46 : decode (xMc m_M_chunk) 46 = .ok (.getfield 79, 3) := by decide +kernel
theorem d_M_chunk_49 : decode (xMc m_M_chunk) 49 = .ok (.bipush 6, 2) := by decide +kernel
theorem d_M_chunk_51 : decode (xMc m_M_chunk) 51 = .ok (.if_icmp .ne 9, 3) := by decide +kernel
theorem d_M_chunk_54 : decode (xMc m_M_chunk) 54 = .ok (.aload_n 0, 1) := by decide +kernel
theorem d_M_chunk_55 : decode (xMc m_M_chunk) 55 = .ok (.iconst 2, 1) := by decide +kernel
theorem d_M_chunk_56 : decode (xMc m_M_chunk) 56 = .ok (.invokevirtual 82, 3) := by decide +kernel
theorem d_M_chunk_59 : decode (xMc m_M_chunk) 59 = .ok (.ireturn, 1) := by decide +kernel
theorem d_M_chunk_60 : decode (xMc m_M_chunk) 60 = .ok (.iconst 0, 1) := by decide +kernel
theorem d_M_chunk_61 : decode (xMc m_M_chunk) 61 = .ok (.istore 5, 2) := by decide +kernel
theorem d_M_chunk_63 : decode (xMc m_M_chunk) 63 = .ok (.iload 5, 2) := by decide +kernel
theorem d_M_chunk_65 : decode (xMc m_M_chunk) 65 = .ok (.iload_n 3, 1) := by decide +kernel
theorem d_M_chunk_66 : decode (xMc m_M_chunk) 66 = .ok (.if_icmp .ge 36, 3) := by decide +kernel
theorem d_M_chunk_69 : decode (xMc m_M_chunk) 69 = .ok (.aload_n 0, 1) := by decide +kernel
theorem d_M_chunk_70 : decode (xMc m_M_chunk) 70 = .ok (.getfield 13, 3) := by decide +kernel
theorem d_M_chunk_73 : decode (xMc m_M_chunk) 73 = .ok (.aload_n 0, 1) := by decide +kernel
theorem d_M_chunk_74 : decode (xMc m_M_chunk) 74 = .ok (.getfield 79, 3) := by decide +kernel
theorem d_M_chunk_77 : decode (xMc m_M_chunk) 77 = .ok (.bipush 6, 2) := by decide +kernel
theorem d_M_chunk_79 : decode (xMc m_M_chunk) 79 = .ok (.imul, 1) := by decide +kernel
theorem d_M_chunk_80 : decode (xMc m_M_chunk) 80 = .ok (.iload 5, 2) := by decide +kernel
theorem d_M_chunk_82 : decode (xMc m_M_chunk) 82 = .ok (.iadd, 1) := by decide +kernel
theorem d_M_chunk_83 : decode (xMc m_M_chunk) 83 = .ok (.lload_n 1, 1) := by decide +kernel
theorem d_M_chunk_84 : decode (xMc m_M_chunk) 84 = .ok (.bipush 8, 2) := by decide +kernel
theorem d_M_chunk_86 : decode (xMc m_M_chunk) 86 = .ok (.iload 5, 2) := by decide +kernel
theorem d_M_chunk_88 : decode (xMc m_M_chunk) 88 = .ok (.imul, 1) := by decide +kernel
theorem d_M_chunk_89 : decode (xMc m_M_chunk) 89 = .ok (.lshr, 1) := by decide +kernel
theorem d_M_chunk_90 : decode (xMc m_M_chunk) 90 = .ok (.l2i, 1) := by decide +kernel
theorem d_M_chunk_91 : decode (xMc m_M_chunk) 91 = .ok (.i2b, 1) := by decide +kernel
theorem d_M_chunk_92 : decode (xMc m_M_chunk) 92 = .ok (.iload 4, 2) := by decide +kernel
theorem d_M_chunk_94 : decode (xMc m_M_chunk) 94 = .ok (.imul, 1) := by decide +kernel
theorem d_M_chunk_95 : decode (xMc m_M_chunk) 95 = .ok (.iastore, 1) := by decide +kernel
theorem d_M_chunk_96 : decode (xMc m_M_chunk) 96 = .ok (.iinc 5 1, 3) := by decide +kernel
theorem d_M_chunk_99 : decode (xMc m_M_chunk) 99 = .ok (.goto (-36), 3) := by decide +kernel
theorem d_M_chunk_102 : decode (xMc m_M_chunk) 102 = .ok (.aload_n 0, 1) := by decide +kernel
theorem d_M_chunk_103 : decode (xMc m_M_chunk) 103 = .ok (.getfield 7, 3) := by decide +kernel
theorem d_M_chunk_106 : decode (xMc m_M_chunk) 106 = .ok (.aload_n 0, 1) := by decide +kernel
theorem d_M_chunk_107 : decode (xMc m_M_chunk) 107 = .ok (.getfield 79, 3) := by decide +kernel
theorem d_M_chunk_110 : decode (xMc m_M_chunk) 110 = .ok (.iload_n 3, 1) := by decide +kernel
theorem d_M_chunk_111 : decode (xMc m_M_chunk) 111 = .ok (.iastore, 1) := by decide +kernel
theorem d_M_chunk_112 : decode (xMc m_M_chunk) 112 = .ok (.aload_n 0, 1) := by decide +kernel
theorem d_M_chunk_113 : decode (xMc m_M_chunk) 113 = .ok (.dup, 1) := by decide +kernel
theorem d_M_chunk_114 : decode (xMc m_M_chunk) 114 = .ok (.getfield 79, 3) := by decide +kernel
theorem d_M_chunk_117 : decode (xMc m_M_chunk) 117 = .ok (.iconst 1, 1) := by decide +kernel
theorem d_M_chunk_118 : decode (xMc m_M_chunk) 118 = .ok (.iadd, 1) := by decide +kernel
theorem d_M_chunk_119 : decode (xMc m_M_chunk) 119 = .ok (.putfield 79, 3) := by decide +kernel
theorem d_M_chunk_122 : decode (xMc m_M_chunk) 122 = .ok (.aload_n 0, 1) := by decide +kernel
theorem d_M_chunk_123 : decode (xMc m_M_chunk) 123 = .ok (.getfield 79, 3) := by decide +kernel
theorem d_M_chunk_126 : decode (xMc m_M_chunk) 126 = .ok (.iconst 1, 1) := by decide +kernel
theorem d_M_chunk_127 : decode (xMc m_M_chunk) 127 = .ok (.isub, 1) := by decide +kernel
theorem d_M_chunk_128 : decode (xMc m_M_chunk) 128 = .ok (.ireturn, 1) := by decide +kernel
theorem d_M_in_0 : decode (xMc m_M_in) 0 = .ok (.iload_n 0, 1) := by decide +kernel
theorem d_M_in_1 : decode (xMc m_M_in) 1 = .ok (.iload_n 1, 1) := by decide +kernel
theorem d_M_in_2 : decode (xMc m_M_in) 2 = .ok (.if_icmp .lt 12, 3) := by decide +kernel
theorem d_M_in_5 : decode (xMc m_M_in) 5 = .ok (.iload_n 0, 1) := by decide +kernel
theorem d_M_in_6 : decode (xMc m_M_in) 6 = .ok (.iload_n 2, 1) := by decide +kernel
theorem d_M_in_7 : decode (xMc m_M_in) 7 = .ok (.if_icmp .gt 7, 3) := by decide +kernel
theorem d_M_in_10 : decode (xMc m_M_in) 10 = .ok (.iconst 1, 1) := by decide +kernel
theorem d_M_in_11 : decode (xMc m_M_in) 11 = .ok (.goto 4, 3) := by decide +kernel
theorem d_M_in_14 : decode (xMc m_M_in) 14 = .ok (.iconst 0, 1) := by decide +kernel
theorem d_M_in_15 : decode (xMc m_M_in) 15 = .ok (.ireturn, 1) := by decide +kernel
theorem d_M_bad_0 : decode (xMc m_M_bad) 0 = .ok (.aload_n 0, 1) := by decide +kernel
theorem d_M_bad_1 : decode (xMc m_M_bad) 1 = .ok (.iload_n 1, 1) := by decide +kernel
theorem d_M_bad_2 : decode (xMc m_M_bad) 2 = .ok (.ifCond .eq 7, 3) := by decide +kernel
theorem d_M_bad_5 : decode (xMc m_M_bad) 5 = .ok (.iconst 0, 1) := by decide +kernel
theorem d_M_bad_6 : decode (xMc m_M_bad) 6 = .ok (.goto 4, 3) := by decide +kernel
theorem d_M_bad_9 : decode (xMc m_M_bad) 9 = .ok (.iconst 1, 1) := by decide +kernel
theorem d_M_bad_10 : decode (xMc m_M_bad) 10 = .ok (.putfield 64, 3) := by decide +kernel
theorem d_M_bad_13 : decode (xMc m_M_bad) 13 = .ok (.iload_n 1, 1) := by decide +kernel
theorem d_M_bad_14 : decode (xMc m_M_bad) 14 = .ok (.ifCond .ne 7, 3) := by decide +kernel
theorem d_M_bad_17 : decode (xMc m_M_bad) 17 = .ok (.iconst 1, 1) := by decide +kernel
theorem d_M_bad_18 : decode (xMc m_M_bad) 18 = .ok (.goto 4, 3) := by decide +kernel
theorem d_M_bad_21 : decode (xMc m_M_bad) 21 = .ok (.iconst 0, 1) := by decide +kernel
theorem d_M_bad_22 : decode (xMc m_M_bad) 22 = .ok (.ireturn, 1) := by decide +kernel
theorem d_M_fail_0 : decode (xMc m_M_fail) 0 = .ok (.aload_n 0, 1) := by decide +kernel
theorem d_M_fail_1 : decode (xMc m_M_fail) 1 = .ok (.iload_n 1, 1) := by decide +kernel
theorem d_M_fail_2 : decode (xMc m_M_fail) 2 = .ok (.putfield 64, 3) := by decide +kernel
theorem d_M_fail_5 : decode (xMc m_M_fail) 5 = .ok (.iconst 0, 1) := by decide +kernel
theorem d_M_fail_6 : decode (xMc m_M_fail) 6 = .ok (.ireturn, 1) := by decide +kernel
theorem d_M_worker_0 : decode (xMc m_M_worker) 0 = .ok (.aload_n 0, 1) := by decide +kernel
theorem d_M_worker_1 : decode (xMc m_M_worker) 1 = .ok (.iload_n 1, 1) := by decide +kernel
theorem d_M_worker_2 : decode (xMc m_M_worker) 2 = .ok (.iconst 0, 1) := by decide +kernel
theorem d_M_worker_3 : decode (xMc m_M_worker) 3 = .ok (.iconst 3, 1) := by decide +kernel
theorem d_M_worker_4 : decode (xMc m_M_worker) 4 = .ok (.invokestatic 67, 3) := by decide +kernel
theorem d_M_worker_7 : decode (xMc m_M_worker) 7 = .ok (.invokevirtual 71, 3) := by decide +kernel
theorem d_M_worker_10 : decode (xMc m_M_worker) 10 = .ok (.ifCond .ne 13, 3) := by decide +kernel
theorem d_M_worker_13 : decode (xMc m_M_worker) 13 = .ok (.aload_n 0, 1) := by decide +kernel
theorem d_M_worker_14 : decode (xMc m_M_worker) 14 = .ok (.getfield 28, 3) := by decide +kernel
theorem d_M_worker_17 : decode (xMc m_M_worker) 17 = .ok (.iload_n 1, 1) := by decide +kernel
theorem d_M_worker_18 : decode (xMc m_M_worker) 18 = .ok (.baload, 1) := by decide +kernel
theorem d_M_worker_19 : decode (xMc m_M_worker) 19 = .ok (.iload_n 2, 1) := by decide +kernel
theorem d_M_worker_20 : decode (xMc m_M_worker) 20 = .ok (.if_icmp .ne 4, 3) := by decide +kernel
theorem d_M_worker_23 : decode (xMc m_M_worker) 23 = .ok (.return_, 1) := by decide +kernel
theorem d_M_worker_24 : decode (xMc m_M_worker) 24 = .ok (.aload_n 0, 1) := by decide +kernel
theorem d_M_worker_25 : decode (xMc m_M_worker) 25 = .ok (.getfield 28, 3) := by decide +kernel
theorem d_M_worker_28 : decode (xMc m_M_worker) 28 = .ok (.iload_n 1, 1) := by decide +kernel
theorem d_M_worker_29 : decode (xMc m_M_worker) 29 = .ok (.iload_n 2, 1) := by decide +kernel
theorem d_M_worker_30 : decode (xMc m_M_worker) 30 = .ok (.bastore, 1) := by decide +kernel
theorem d_M_worker_31 : decode (xMc m_M_worker) 31 = .ok (.iload_n 2, 1) := by decide +kernel
theorem d_M_worker_32 : decode (xMc m_M_worker) 32 = .ok (.ifCond .eq 4, 3) := by decide +kernel
theorem d_M_worker_35 : decode (xMc m_M_worker) 35 = .ok (.return_, 1) := by decide +kernel
theorem d_M_worker_36 : decode (xMc m_M_worker) 36 = .ok (.aload_n 0, 1) := by decide +kernel
theorem d_M_worker_37 : decode (xMc m_M_worker) 37 = .ok (.getfield 19, 3) := by decide +kernel
theorem d_M_worker_40 : decode (xMc m_M_worker) 40 = .ok (.iload_n 1, 1) := by decide +kernel
theorem d_M_worker_41 : decode (xMc m_M_worker) 41 = .ok (.iconst (-1), 1) := by decide +kernel
theorem d_M_worker_42 : decode (xMc m_M_worker) 42 = .ok (.iastore, 1) := by decide +kernel
theorem d_M_worker_43 : decode (xMc m_M_worker) 43 = .ok (.aload_n 0, 1) := by decide +kernel
theorem d_M_worker_44 : decode (xMc m_M_worker) 44 = .ok (.getfield 22, 3) := by decide +kernel
theorem d_M_worker_47 : decode (xMc m_M_worker) 47 = .ok (.iload_n 1, 1) := by decide +kernel
theorem d_M_worker_48 : decode (xMc m_M_worker) 48 = .ok (.iconst 0, 1) := by decide +kernel
theorem d_M_worker_49 : decode (xMc m_M_worker) 49 = .ok (.iastore, 1) := by decide +kernel
theorem d_M_worker_50 : decode (xMc m_M_worker) 50 = .ok (.iconst 0, 1) := by decide +kernel
theorem d_M_worker_51 : decode (xMc m_M_worker) 51 = .ok (.istore_n 3, 1) := by decide +kernel
theorem d_M_worker_52 : decode (xMc m_M_worker) 52 = .ok (.iconst 0, 1) := by decide +kernel
theorem d_M_worker_53 : decode (xMc m_M_worker) 53 = .ok (.istore 4, 2) := by decide +kernel
theorem d_M_worker_55 : decode (xMc m_M_worker) 55 = .ok (.iload 4, 2) := by decide +kernel
theorem d_M_worker_57 : decode (xMc m_M_worker) 57 = .ok (.aload_n 0, 1) := by decide +kernel
theorem d_M_worker_58 : decode (xMc m_M_worker) 58 = .ok (.getfield 79, 3) := by decide +kernel
theorem d_M_worker_61 : decode (xMc m_M_worker) 61 = .ok (.if_icmp .ge 60, 3) := by decide +kernel
theorem d_M_worker_64 : decode (xMc m_M_worker) 64 = .ok (.aload_n 0, 1) := by decide +kernel
theorem d_M_worker_65 : decode (xMc m_M_worker) 65 = .ok (.getfield 75, 3) := by decide +kernel
theorem d_M_worker_68 : decode (xMc m_M_worker) 68 = .ok (.ifCond .eq 53, 3) := by decide +kernel
theorem d_M_worker_71 : decode (xMc m_M_worker) 71 = .ok (.aload_n 0, 1) := by decide +kernel
theorem d_M_worker_72 : decode (xMc m_M_worker) 72 = .ok (.getfield 32, 3) := by decide +kernel
theorem d_M_worker_75 : decode (xMc m_M_worker) 75 = .ok (.iload 4, 2) := by decide +kernel
theorem d_M_worker_77 : decode (xMc m_M_worker) 77 = .ok (.baload, 1) := by decide +kernel
theorem d_M_worker_78 : decode (xMc m_M_worker) 78 = .ok (.ifCond .eq 37, 3) := by decide +kernel
theorem d_M_worker_81 : decode (xMc m_M_worker) 81 = .ok (.aload_n 0, 1) := by decide +kernel
theorem d_M_worker_82 : decode (xMc m_M_worker) 82 = .ok (.getfield 35, 3) := by decide +kernel
theorem d_M_worker_85 : decode (xMc m_M_worker) 85 = .ok (.iload 4, 2) := by decide +kernel
theorem d_M_worker_87 : decode (xMc m_M_worker) 87 = .ok (.iaload, 1) := by decide +kernel
theorem d_M_worker_88 : decode (xMc m_M_worker) 88 = .ok (.iload_n 1, 1) := by decide +kernel
theorem d_M_worker_89 : decode (xMc m_M_worker) 89 = .ok (.if_icmp .eq 6, 3) := by decide +kernel
theorem d_M_worker_92 : decode (xMc m_M_worker) 92 = .ok (.goto 23, 3) := by decide +kernel
theorem d_M_worker_95 : decode (xMc m_M_worker) 95 = .ok (.aload_n 0, 1) := by decide +kernel
theorem d_M_worker_96 : decode (xMc m_M_worker) 96 = .ok (.getfield 32, 3) := by decide +kernel
theorem d_M_worker_99 : decode (xMc m_M_worker) 99 = .ok (.iload 4, 2) := by decide +kernel
theorem d_M_worker_101 : decode (xMc m_M_worker) 101 = .ok (.iconst 0, 1) := by decide +kernel
theorem d_M_worker_102 : decode (xMc m_M_worker) 102 = .ok (.bastore, 1) := by decide +kernel
theorem d_M_worker_103 : decode (xMc m_M_worker) 103 = .ok (.aload_n 0, 1) := by decide +kernel
theorem d_M_worker_104 : decode (xMc m_M_worker) 104 = .ok (.dup, 1) := by decide +kernel
theorem d_M_worker_105 : decode (xMc m_M_worker) 105 = .ok (.getfield 118, 3) := by decide +kernel
theorem d_M_worker_108 : decode (xMc m_M_worker) 108 = .ok (.iconst 1, 1) := by decide +kernel
theorem d_M_worker_109 : decode (xMc m_M_worker) 109 = .ok (.iadd, 1) := by decide +kernel
theorem d_M_worker_110 : decode (xMc m_M_worker) 110 = .ok (.putfield 118, 3) := by decide +kernel
theorem d_M_worker_113 : decode (xMc m_M_worker) 113 = .ok (.iconst 1, 1) := by decide +kernel
theorem d_M_worker_114 : decode (xMc m_M_worker) 114 = .ok (.istore_n 3, 1) := by decide +kernel
theorem d_M_worker_115 : decode (xMc m_M_worker) 115 = .ok (.iinc 4 1, 3) := by decide +kernel
theorem d_M_worker_118 : decode (xMc m_M_worker) 118 = .ok (.goto (-63), 3) := by decide +kernel
theorem d_M_worker_121 : decode (xMc m_M_worker) 121 = .ok (.iload_n 3, 1) := by decide +kernel
theorem d_M_worker_122 : decode (xMc m_M_worker) 122 = .ok (.ifCond .eq 8, 3) := by decide +kernel
theorem d_M_worker_125 : decode (xMc m_M_worker) 125 = .ok (.aload_n 0, 1) := by decide +kernel
theorem d_M_worker_126 : decode (xMc m_M_worker) 126 = .ok (.iconst 1, 1) := by decide +kernel
theorem d_M_worker_127 : decode (xMc m_M_worker) 127 = .ok (.invokevirtual 121, 3) := by decide +kernel
theorem d_M_worker_130 : decode (xMc m_M_worker) 130 = .ok (.return_, 1) := by decide +kernel
theorem d_M_giveUp_0 : decode (xMc m_M_giveUp) 0 = .ok (.iconst 0, 1) := by decide +kernel
theorem d_M_giveUp_1 : decode (xMc m_M_giveUp) 1 = .ok (.istore_n 2, 1) := by decide +kernel
theorem d_M_giveUp_2 : decode (xMc m_M_giveUp) 2 = .ok (.iload_n 2, 1) := by decide +kernel
theorem d_M_giveUp_3 : decode (xMc m_M_giveUp) 3 = .ok (.iconst 4, 1) := by decide +kernel
theorem d_M_giveUp_4 : decode (xMc m_M_giveUp) 4 = .ok (.if_icmp .ge 41, 3) := by decide +kernel
theorem d_M_giveUp_7 : decode (xMc m_M_giveUp) 7 = .ok (.iload_n 1, 1) := by decide +kernel
theorem d_M_giveUp_8 : decode (xMc m_M_giveUp) 8 = .ok (.ifCond .eq 17, 3) := by decide +kernel
theorem d_M_giveUp_11 : decode (xMc m_M_giveUp) 11 = .ok (.aload_n 0, 1) := by decide +kernel
theorem d_M_giveUp_12 : decode (xMc m_M_giveUp) 12 = .ok (.getfield 19, 3) := by decide +kernel
theorem d_M_giveUp_15 : decode (xMc m_M_giveUp) 15 = .ok (.iload_n 2, 1) := by decide +kernel
theorem d_M_giveUp_16 : decode (xMc m_M_giveUp) 16 = .ok (.iaload, 1) := by decide +kernel
theorem d_M_giveUp_17 : decode (xMc m_M_giveUp) 17 = .ok (.bipush 8, 2) := by decide +kernel
theorem d_M_giveUp_19 : decode (xMc m_M_giveUp) 19 = .ok (.if_icmp .ge 6, 3) := by decide +kernel
theorem d_M_giveUp_22 : decode (xMc m_M_giveUp) 22 = .ok (.goto 17, 3) := by decide +kernel
theorem d_M_giveUp_25 : decode (xMc m_M_giveUp) 25 = .ok (.aload_n 0, 1) := by decide +kernel
theorem d_M_giveUp_26 : decode (xMc m_M_giveUp) 26 = .ok (.getfield 19, 3) := by decide +kernel
theorem d_M_giveUp_29 : decode (xMc m_M_giveUp) 29 = .ok (.iload_n 2, 1) := by decide +kernel
theorem d_M_giveUp_30 : decode (xMc m_M_giveUp) 30 = .ok (.iconst (-1), 1) := by decide +kernel
theorem d_M_giveUp_31 : decode (xMc m_M_giveUp) 31 = .ok (.iastore, 1) := by decide +kernel
theorem d_M_giveUp_32 : decode (xMc m_M_giveUp) 32 = .ok (.aload_n 0, 1) := by decide +kernel
theorem d_M_giveUp_33 : decode (xMc m_M_giveUp) 33 = .ok (.getfield 22, 3) := by decide +kernel
theorem d_M_giveUp_36 : decode (xMc m_M_giveUp) 36 = .ok (.iload_n 2, 1) := by decide +kernel
theorem d_M_giveUp_37 : decode (xMc m_M_giveUp) 37 = .ok (.iconst 0, 1) := by decide +kernel
theorem d_M_giveUp_38 : decode (xMc m_M_giveUp) 38 = .ok (.iastore, 1) := by decide +kernel
theorem d_M_giveUp_39 : decode (xMc m_M_giveUp) 39 = .ok (.iinc 2 1, 3) := by decide +kernel
theorem d_M_giveUp_42 : decode (xMc m_M_giveUp) 42 = .ok (.goto (-40), 3) := by decide +kernel
theorem d_M_giveUp_45 : decode (xMc m_M_giveUp) 45 = .ok (.return_, 1) := by decide +kernel
theorem d_M_speed_0 : decode (xMc m_M_speed) 0 = .ok (.aload_n 0, 1) := by decide +kernel
theorem d_M_speed_1 : decode (xMc m_M_speed) 1 = .ok (.iload_n 1, 1) := by decide +kernel
theorem d_M_speed_2 : decode (xMc m_M_speed) 2 = .ok (.iconst 0, 1) := by decide +kernel
theorem d_M_speed_3 : decode (xMc m_M_speed) 3 = .ok (.iconst 3, 1) := by decide +kernel
theorem d_M_speed_4 : decode (xMc m_M_speed) 4 = .ok (.invokestatic 67, 3) := by decide +kernel
theorem d_M_speed_7 : decode (xMc m_M_speed) 7 = .ok (.ifCond .eq 16, 3) := by decide +kernel
theorem d_M_speed_10 : decode (xMc m_M_speed) 10 = .ok (.iload_n 2, 1) := by decide +kernel
theorem d_M_speed_11 : decode (xMc m_M_speed) 11 = .ok (.iconst 1, 1) := by decide +kernel
theorem d_M_speed_12 : decode (xMc m_M_speed) 12 = .ok (.iconst 4, 1) := by decide +kernel
theorem d_M_speed_13 : decode (xMc m_M_speed) 13 = .ok (.invokestatic 67, 3) := by decide +kernel
theorem d_M_speed_16 : decode (xMc m_M_speed) 16 = .ok (.ifCond .eq 7, 3) := by decide +kernel
theorem d_M_speed_19 : decode (xMc m_M_speed) 19 = .ok (.iconst 1, 1) := by decide +kernel
theorem d_M_speed_20 : decode (xMc m_M_speed) 20 = .ok (.goto 4, 3) := by decide +kernel
theorem d_M_speed_23 : decode (xMc m_M_speed) 23 = .ok (.iconst 0, 1) := by decide +kernel
theorem d_M_speed_24 : decode (xMc m_M_speed) 24 = .ok (.invokevirtual 71, 3) := by decide +kernel
theorem d_M_speed_27 : decode (xMc m_M_speed) 27 = .ok (.ifCond .eq 4, 3) := by decide +kernel
theorem d_M_speed_30 : decode (xMc m_M_speed) 30 = .ok (.return_, 1) := by decide +kernel
theorem d_M_speed_31 : decode (xMc m_M_speed) 31 = .ok (.aload_n 0, 1) := by decide +kernel
theorem d_M_speed_32 : decode (xMc m_M_speed) 32 = .ok (.getfield 16, 3) := by decide +kernel
theorem d_M_speed_35 : decode (xMc m_M_speed) 35 = .ok (.iload_n 1, 1) := by decide +kernel
theorem d_M_speed_36 : decode (xMc m_M_speed) 36 = .ok (.iload_n 2, 1) := by decide +kernel
theorem d_M_speed_37 : decode (xMc m_M_speed) 37 = .ok (.iastore, 1) := by decide +kernel
theorem d_M_speed_38 : decode (xMc m_M_speed) 38 = .ok (.return_, 1) := by decide +kernel
theorem d_M_filter_0 : decode (xMc m_M_filter) 0 = .ok (.aload_n 0, 1) := by decide +kernel
theorem d_M_filter_1 : decode (xMc m_M_filter) 1 = .ok (.iconst 0, 1) := by decide +kernel
theorem d_M_filter_2 : decode (xMc m_M_filter) 2 = .ok (.putfield 64, 3) := by decide +kernel
theorem d_M_filter_5 : decode (xMc m_M_filter) 5 = .ok (.aload_n 0, 1) := by decide +kernel
theorem d_M_filter_6 : decode (xMc m_M_filter) 6 = .ok (.iload_n 1, 1) := by decide +kernel
theorem d_M_filter_7 : decode (xMc m_M_filter) 7 = .ok (.putfield 48, 3) := by decide +kernel
theorem d_M_filter_10 : decode (xMc m_M_filter) 10 = .ok (.return_, 1) := by decide +kernel
theorem d_M_begin_0 : decode (xMc m_M_begin) 0 = .ok (.aload_n 0, 1) := by decide +kernel
theorem d_M_begin_1 : decode (xMc m_M_begin) 1 = .ok (.iload_n 1, 1) := by decide +kernel
theorem d_M_begin_2 : decode (xMc m_M_begin) 2 = .ok (.iconst 0, 1) := by decide +kernel
theorem d_M_begin_3 : decode (xMc m_M_begin) 3 = .ok (.iconst 4, 1) := by decide +kernel
theorem d_M_begin_4 : decode (xMc m_M_begin) 4 = .ok (.invokestatic 67, 3) := by decide +kernel
theorem d_M_begin_7 : decode (xMc m_M_begin) 7 = .ok (.ifCond .eq 36, 3) := by decide +kernel
theorem d_M_begin_10 : decode (xMc m_M_begin) 10 = .ok (.iload_n 2, 1) := by decide +kernel
theorem d_M_begin_11 : decode (xMc m_M_begin) 11 = .ok (.iconst 0, 1) := by decide +kernel
theorem d_M_begin_12 : decode (xMc m_M_begin) 12 = .ok (.iconst 4, 1) := by decide +kernel
theorem d_M_begin_13 : decode (xMc m_M_begin) 13 = .ok (.invokestatic 67, 3) := by decide +kernel
theorem d_M_begin_16 : decode (xMc m_M_begin) 16 = .ok (.ifCond .eq 27, 3) := by decide +kernel
theorem d_M_begin_19 : decode (xMc m_M_begin) 19 = .ok (.iload_n 3, 1) := by decide +kernel
theorem d_M_begin_20 : decode (xMc m_M_begin) 20 = .ok (.iconst 1, 1) := by decide +kernel
theorem d_M_begin_21 : decode (xMc m_M_begin) 21 = .ok (.iconst 3, 1) := by decide +kernel
theorem d_M_begin_22 : decode (xMc m_M_begin) 22 = .ok (.invokestatic 67, 3) := by decide +kernel
theorem d_M_begin_25 : decode (xMc m_M_begin) 25 = .ok (.ifCond .eq 18, 3) := by decide +kernel
theorem d_M_begin_28 : decode (xMc m_M_begin) 28 = .ok (.iload 4, 2) := by decide +kernel
theorem d_M_begin_30 : decode (xMc m_M_begin) 30 = .ok (.iconst 2, 1) := by decide +kernel
theorem d_M_begin_31 : decode (xMc m_M_begin) 31 = .ok (.bipush 6, 2) := by decide +kernel
theorem d_M_begin_33 : decode (xMc m_M_begin) 33 = .ok (.invokestatic 67, 3) := by decide +kernel
theorem d_M_begin_36 : decode (xMc m_M_begin) 36 = .ok (.ifCond .eq 7, 3) := by decide +kernel
theorem d_M_begin_39 : decode (xMc m_M_begin) 39 = .ok (.iconst 1, 1) := by decide +kernel
theorem d_M_begin_40 : decode (xMc m_M_begin) 40 = .ok (.goto 4, 3) := by decide +kernel
theorem d_M_begin_43 : decode (xMc m_M_begin) 43 = .ok (.iconst 0, 1) := by decide +kernel
theorem d_M_begin_44 : decode (xMc m_M_begin) 44 = .ok (.invokevirtual 71, 3) := by decide +kernel
theorem d_M_begin_47 : decode (xMc m_M_begin) 47 = .ok (.ifCond .eq 5, 3) := by decide +kernel
theorem d_M_begin_50 : decode (xMc m_M_begin) 50 = .ok (.iconst 0, 1) := by decide +kernel
theorem d_M_begin_51 : decode (xMc m_M_begin) 51 = .ok (.ireturn, 1) := by decide +kernel
theorem d_M_begin_52 : decode (xMc m_M_begin) 52 = .ok (.aload_n 0, 1) := by decide +kernel
theorem d_M_begin_53 : decode (xMc m_M_begin) 53 = .ok (.getfield 75, 3) := by decide +kernel
theorem d_M_begin_56 : decode (xMc m_M_begin) 56 = .ok (.ifCond .ne 10, 3) := by decide +kernel
theorem d_M_begin_59 : decode (xMc m_M_begin) 59 = .ok (.aload_n 0, 1) := by decide +kernel
theorem d_M_begin_60 : decode (xMc m_M_begin) 60 = .ok (.getfield 79, 3) := by decide +kernel
theorem d_M_begin_63 : decode (xMc m_M_begin) 63 = .ok (.ifCond .ne 9, 3) := by decide +kernel
theorem d_M_begin_66 : decode (xMc m_M_begin) 66 = .ok (.aload_n 0, 1) := by decide +kernel
theorem d_M_begin_67 : decode (xMc m_M_begin) 67 = .ok (.iconst 2, 1) := by decide +kernel
theorem d_M_begin_68 : decode (xMc m_M_begin) 68 = .ok (.invokevirtual 82, 3) := by decide +kernel
theorem d_M_begin_71 : decode (xMc m_M_begin) 71 = .ok (.ireturn, 1) := by decide +kernel
theorem d_M_begin_72 : decode (xMc m_M_begin) 72 = .ok (.aload_n 0, 1) := by decide +kernel
theorem d_M_begin_73 : decode (xMc m_M_begin) 73 = .ok (.iload_n 1, 1) := by decide +kernel
theorem d_M_begin_74 : decode (xMc m_M_begin) 74 = .ok (.putfield 52, 3) := by decide +kernel
theorem d_M_begin_77 : decode (xMc m_M_begin) 77 = .ok (.aload_n 0, 1) := by decide +kernel
theorem d_M_begin_78 : decode (xMc m_M_begin) 78 = .ok (.iload_n 2, 1) := by decide +kernel
theorem d_M_begin_79 : decode (xMc m_M_begin) 79 = .ok (.putfield 109, 3) := by decide +kernel
theorem d_M_begin_82 : decode (xMc m_M_begin) 82 = .ok (.aload_n 0, 1) := by decide +kernel
theorem d_M_begin_83 : decode (xMc m_M_begin) 83 = .ok (.iload_n 3, 1) := by decide +kernel
theorem d_M_begin_84 : decode (xMc m_M_begin) 84 = .ok (.putfield 103, 3) := by decide +kernel
theorem d_M_begin_87 : decode (xMc m_M_begin) 87 = .ok (.aload_n 0, 1) := by decide +kernel
theorem d_M_begin_88 : decode (xMc m_M_begin) 88 = .ok (.iload 4, 2) := by decide +kernel
theorem d_M_begin_90 : decode (xMc m_M_begin) 90 = .ok (.putfield 125, 3) := by decide +kernel
theorem d_M_begin_93 : decode (xMc m_M_begin) 93 = .ok (.aload_n 0, 1) := by decide +kernel
theorem d_M_begin_94 : decode (xMc m_M_begin) 94 = .ok (.aload_n 0, 1) := by decide +kernel
theorem d_M_begin_95 : decode (xMc m_M_begin) 95 = .ok (.getfield 48, 3) := by decide +kernel
theorem d_M_begin_98 : decode (xMc m_M_begin) 98 = .ok (.putfield 106, 3) := by decide +kernel
theorem d_M_begin_101 : decode (xMc m_M_begin) 101 = .ok (.aload_n 0, 1) := by decide +kernel
theorem d_M_begin_102 : decode (xMc m_M_begin) 102 = .ok (.invokevirtual 128, 3) := by decide +kernel
theorem d_M_begin_105 : decode (xMc m_M_begin) 105 = .ok (.aload_n 0, 1) := by decide +kernel
theorem d_M_begin_106 : decode (xMc m_M_begin) 106 = .ok (.invokevirtual 131, 3) := by decide +kernel
theorem d_M_begin_109 : decode (xMc m_M_begin) 109 = .ok (.iconst 0, 1) := by decide +kernel
theorem d_M_begin_110 : decode (xMc m_M_begin) 110 = .ok (.istore 5, 2) := by decide +kernel
theorem d_M_begin_112 : decode (xMc m_M_begin) 112 = .ok (.iload 5, 2) := by decide +kernel
theorem d_M_begin_114 : decode (xMc m_M_begin) 114 = .ok (.bipush 11, 2) := by decide +kernel
theorem d_M_begin_116 : decode (xMc m_M_begin) 116 = .ok (.if_icmp .ge 17, 3) := by decide +kernel
theorem d_M_begin_119 : decode (xMc m_M_begin) 119 = .ok (.aload_n 0, 1) := by decide +kernel
theorem d_M_begin_120 : decode (xMc m_M_begin) 120 = .ok (.getfield 32, 3) := by decide +kernel
theorem d_M_begin_123 : decode (xMc m_M_begin) 123 = .ok (.iload 5, 2) := by decide +kernel
theorem d_M_begin_125 : decode (xMc m_M_begin) 125 = .ok (.iconst 0, 1) := by decide +kernel
theorem d_M_begin_126 : decode (xMc m_M_begin) 126 = .ok (.bastore, 1) := by decide +kernel
theorem d_M_begin_127 : decode (xMc m_M_begin) 127 = .ok (.iinc 5 1, 3) := by decide +kernel
theorem d_M_begin_130 : decode (xMc m_M_begin) 130 = .ok (.goto (-18), 3) := by decide +kernel
theorem d_M_begin_133 : decode (xMc m_M_begin) 133 = .ok (.aload_n 0, 1) := by decide +kernel
theorem d_M_begin_134 : decode (xMc m_M_begin) 134 = .ok (.iconst 0, 1) := by decide +kernel
theorem d_M_begin_135 : decode (xMc m_M_begin) 135 = .ok (.invokevirtual 121, 3) := by decide +kernel
theorem d_M_begin_138 : decode (xMc m_M_begin) 138 = .ok (.aload_n 0, 1) := by decide +kernel
theorem d_M_begin_139 : decode (xMc m_M_begin) 139 = .ok (.iconst 1, 1) := by decide +kernel
theorem d_M_begin_140 : decode (xMc m_M_begin) 140 = .ok (.putfield 75, 3) := by decide +kernel
theorem d_M_begin_143 : decode (xMc m_M_begin) 143 = .ok (.aload_n 0, 1) := by decide +kernel
theorem d_M_begin_144 : decode (xMc m_M_begin) 144 = .ok (.getfield 79, 3) := by decide +kernel
theorem d_M_begin_147 : decode (xMc m_M_begin) 147 = .ok (.ireturn, 1) := by decide +kernel
theorem d_M_mapAll_0 : decode (xMc m_M_mapAll) 0 = .ok (.aload_n 0, 1) := by decide +kernel
theorem d_M_mapAll_1 : decode (xMc m_M_mapAll) 1 = .ok (.iconst 0, 1) := by decide +kernel
theorem d_M_mapAll_2 : decode (xMc m_M_mapAll) 2 = .ok (.putfield 86, 3) := by decide +kernel
theorem d_M_mapAll_5 : decode (xMc m_M_mapAll) 5 = .ok (.iconst 0, 1) := by decide +kernel
theorem d_M_mapAll_6 : decode (xMc m_M_mapAll) 6 = .ok (.istore_n 1, 1) := by decide +kernel
theorem d_M_mapAll_7 : decode (xMc m_M_mapAll) 7 = .ok (.iload_n 1, 1) := by decide +kernel
theorem d_M_mapAll_8 : decode (xMc m_M_mapAll) 8 = .ok (.aload_n 0, 1) := by decide +kernel
theorem d_M_mapAll_9 : decode (xMc m_M_mapAll) 9 = .ok (.getfield 79, 3) := by decide +kernel
theorem d_M_mapAll_12 : decode (xMc m_M_mapAll) 12 = .ok (.if_icmp .ge 59, 3) := by decide +kernel
theorem d_M_mapAll_15 : decode (xMc m_M_mapAll) 15 = .ok (.aload_n 0, 1) := by decide +kernel
theorem d_M_mapAll_16 : decode (xMc m_M_mapAll) 16 = .ok (.getfield 86, 3) := by decide +kernel
theorem d_M_mapAll_19 : decode (xMc m_M_mapAll) 19 = .ok (.istore_n 2, 1) := by decide +kernel
theorem d_M_mapAll_20 : decode (xMc m_M_mapAll) 20 = .ok (.iconst 0, 1) := by decide +kernel
theorem d_M_mapAll_21 : decode (xMc m_M_mapAll) 21 = .ok (.istore_n 3, 1) := by decide +kernel
theorem d_M_mapAll_22 : decode (xMc m_M_mapAll) 22 = .ok (.iload_n 3, 1) := by decide +kernel
theorem d_M_mapAll_23 : decode (xMc m_M_mapAll) 23 = .ok (.aload_n 0, 1) := by decide +kernel
theorem d_M_mapAll_24 : decode (xMc m_M_mapAll) 24 = .ok (.getfield 7, 3) := by decide +kernel
theorem d_M_mapAll_27 : decode (xMc m_M_mapAll) 27 = .ok (.iload_n 1, 1) := by decide +kernel
theorem d_M_mapAll_28 : decode (xMc m_M_mapAll) 28 = .ok (.iaload, 1) := by decide +kernel
theorem d_M_mapAll_29 : decode (xMc m_M_mapAll) 29 = .ok (.if_icmp .ge 24, 3) := by decide +kernel
theorem d_M_mapAll_32 : decode (xMc m_M_mapAll) 32 = .ok (.aload_n 0, 1) := by decide +kernel
theorem d_M_mapAll_33 : decode (xMc m_M_mapAll) 33 = .ok (.aload_n 0, 1) := by decide +kernel
theorem d_M_mapAll_34 : decode (xMc m_M_mapAll) 34 = .ok (.getfield 13, 3) := by decide +kernel
theorem d_M_mapAll_37 : decode (xMc m_M_mapAll) 37 = .ok (.iload_n 1, 1) := by decide +kernel
theorem d_M_mapAll_38 : decode (xMc m_M_mapAll) 38 = .ok (.bipush 6, 2) := by decide +kernel
theorem d_M_mapAll_40 : decode (xMc m_M_mapAll) 40 = .ok (.imul, 1) := by decide +kernel
theorem d_M_mapAll_41 : decode (xMc m_M_mapAll) 41 = .ok (.iload_n 3, 1) := by decide +kernel
theorem d_M_mapAll_42 : decode (xMc m_M_mapAll) 42 = .ok (.iadd, 1) := by decide +kernel
theorem d_M_mapAll_43 : decode (xMc m_M_mapAll) 43 = .ok (.iaload, 1) := by decide +kernel
theorem d_M_mapAll_44 : decode (xMc m_M_mapAll) 44 = .ok (.invokevirtual 99, 3) := by decide +kernel
theorem d_M_mapAll_47 : decode (xMc m_M_mapAll) 47 = .ok (.iinc 3 1, 3) := by decide +kernel
theorem d_M_mapAll_50 : decode (xMc m_M_mapAll) 50 = .ok (.goto (-28), 3) := by decide +kernel
theorem d_M_mapAll_53 : decode (xMc m_M_mapAll) 53 = .ok (.aload_n 0, 1) := by decide +kernel
theorem d_M_mapAll_54 : decode (xMc m_M_mapAll) 54 = .ok (.getfield 44, 3) := by decide +kernel
theorem d_M_mapAll_57 : decode (xMc m_M_mapAll) 57 = .ok (.iload_n 1, 1) := by decide +kernel
theorem d_M_mapAll_58 : decode (xMc m_M_mapAll) 58 = .ok (.aload_n 0, 1) := by decide +kernel
theorem d_M_mapAll_59 : decode (xMc m_M_mapAll) 59 = .ok (.getfield 86, 3) := by decide +kernel
theorem d_M_mapAll_62 : decode (xMc m_M_mapAll) 62 = .ok (.iload_n 2, 1) := by decide +kernel
theorem d_M_mapAll_63 : decode (xMc m_M_mapAll) 63 = .ok (.isub, 1) := by decide +kernel
theorem d_M_mapAll_64 : decode (xMc m_M_mapAll) 64 = .ok (.iastore, 1) := by decide +kernel
theorem d_M_mapAll_65 : decode (xMc m_M_mapAll) 65 = .ok (.iinc 1 1, 3) := by decide +kernel
theorem d_M_mapAll_68 : decode (xMc m_M_mapAll) 68 = .ok (.goto (-61), 3) := by decide +kernel
theorem d_M_mapAll_71 : decode (xMc m_M_mapAll) 71 = .ok (.return_, 1) := by decide +kernel
theorem d_M_map_0 : decode (xMc m_M_map) 0 = .ok (.iload_n 1, 1) := by decide +kernel
theorem d_M_map_1 : decode (xMc m_M_map) 1 = .ok (.ifCond .ge 9, 3) := by decide +kernel
theorem d_M_map_4 : decode (xMc m_M_map) 4 = .ok (.iload_n 1, 1) := by decide +kernel
theorem d_M_map_5 : decode (xMc m_M_map) 5 = .ok (.i2l, 1) := by decide +kernel
theorem d_M_map_6 : decode (xMc m_M_map) 6 = .ok (.lneg, 1) := by decide +kernel
theorem d_M_map_7 : decode (xMc m_M_map) 7 = .ok (.goto 5, 3) := by decide +kernel
theorem d_M_map_10 : decode (xMc m_M_map) 10 = .ok (.iload_n 1, 1) := by decide +kernel
theorem d_M_map_11 : decode (xMc m_M_map) 11 = .ok (.i2l, 1) := by decide +kernel
theorem d_M_map_12 : decode (xMc m_M_map) 12 = .ok (.lstore_n 2, 1) := by decide +kernel
theorem d_M_map_13 : decode (xMc m_M_map) 13 = .ok (.aload_n 0, 1) := by decide +kernel
theorem d_M_map_14 : decode (xMc m_M_map) 14 = .ok (.getfield 52, 3) := by decide +kernel
theorem d_M_map_17 : decode (xMc m_M_map) 17 = .ok (.tableswitch 100 0 3 #[31, 44, 70, 83], 31) := by decide +kernel
theorem d_M_map_48 : decode (xMc m_M_map) 48 = .ok (.aload_n 0, 1) := by decide +kernel
theorem d_M_map_49 : decode (xMc m_M_map) 49 = .ok (.iload_n 1, 1) := by decide +kernel
theorem d_M_map_50 : decode (xMc m_M_map) 50 = .ok (.iconst 5, 1) := by decide +kernel
theorem d_M_map_51 : decode (xMc m_M_map) 51 = .ok (.invokestatic 89, 3) := by decide +kernel
theorem d_M_map_54 : decode (xMc m_M_map) 54 = .ok (.iconst 1, 1) := by decide +kernel
theorem d_M_map_55 : decode (xMc m_M_map) 55 = .ok (.invokevirtual 93, 3) := by decide +kernel
theorem d_M_map_58 : decode (xMc m_M_map) 58 = .ok (.goto 91, 3) := by decide +kernel
theorem d_M_map_61 : decode (xMc m_M_map) 61 = .ok (.aload_n 0, 1) := by decide +kernel
theorem d_M_map_62 : decode (xMc m_M_map) 62 = .ok (.lload_n 2, 1) := by decide +kernel
theorem d_M_map_63 : decode (xMc m_M_map) 63 = .ok (.ldc2_w 97, 3) := by decide +kernel
theorem d_M_map_66 : decode (xMc m_M_map) 66 = .ok (.lrem, 1) := by decide +kernel
theorem d_M_map_67 : decode (xMc m_M_map) 67 = .ok (.l2i, 1) := by decide +kernel
theorem d_M_map_68 : decode (xMc m_M_map) 68 = .ok (.iconst 1, 1) := by decide +kernel
theorem d_M_map_69 : decode (xMc m_M_map) 69 = .ok (.invokevirtual 93, 3) := by decide +kernel
theorem d_M_map_72 : decode (xMc m_M_map) 72 = .ok (.lload_n 2, 1) := by decide +kernel
theorem d_M_map_73 : decode (xMc m_M_map) 73 = .ok (.ldc2_w 97, 3) := by decide +kernel
theorem d_M_map_76 : decode (xMc m_M_map) 76 = .ok (.ldiv, 1) := by decide +kernel
theorem d_M_map_77 : decode (xMc m_M_map) 77 = .ok (.lstore_n 2, 1) := by decide +kernel
theorem d_M_map_78 : decode (xMc m_M_map) 78 = .ok (.lload_n 2, 1) := by decide +kernel
theorem d_M_map_79 : decode (xMc m_M_map) 79 = .ok (.lconst 0, 1) := by decide +kernel
theorem d_M_map_80 : decode (xMc m_M_map) 80 = .ok (.lcmp, 1) := by decide +kernel
theorem d_M_map_81 : decode (xMc m_M_map) 81 = .ok (.ifCond .gt (-20), 3) := by decide +kernel
theorem d_M_map_84 : decode (xMc m_M_map) 84 = .ok (.goto 65, 3) := by decide +kernel
theorem d_M_map_87 : decode (xMc m_M_map) 87 = .ok (.aload_n 0, 1) := by decide +kernel
theorem d_M_map_88 : decode (xMc m_M_map) 88 = .ok (.iload_n 1, 1) := by decide +kernel
theorem d_M_map_89 : decode (xMc m_M_map) 89 = .ok (.iconst 3, 1) := by decide +kernel
theorem d_M_map_90 : decode (xMc m_M_map) 90 = .ok (.invokestatic 89, 3) := by decide +kernel
theorem d_M_map_93 : decode (xMc m_M_map) 93 = .ok (.iload_n 1, 1) := by decide +kernel
theorem d_M_map_94 : decode (xMc m_M_map) 94 = .ok (.invokevirtual 93, 3) := by decide +kernel
theorem d_M_map_97 : decode (xMc m_M_map) 97 = .ok (.goto 52, 3) := by decide +kernel
theorem d_M_map_100 : decode (xMc m_M_map) 100 = .ok (.iload_n 1, 1) := by decide +kernel
theorem d_M_map_101 : decode (xMc m_M_map) 101 = .ok (.iconst 2, 1) := by decide +kernel
theorem d_M_map_102 : decode (xMc m_M_map) 102 = .ok (.irem, 1) := by decide +kernel
theorem d_M_map_103 : decode (xMc m_M_map) 103 = .ok (.ifCond .ne 46, 3) := by decide +kernel
theorem d_M_map_106 : decode (xMc m_M_map) 106 = .ok (.aload_n 0, 1) := by decide +kernel
theorem d_M_map_107 : decode (xMc m_M_map) 107 = .ok (.iload_n 1, 1) := by decide +kernel
theorem d_M_map_108 : decode (xMc m_M_map) 108 = .ok (.iconst 2, 1) := by decide +kernel
theorem d_M_map_109 : decode (xMc m_M_map) 109 = .ok (.idiv, 1) := by decide +kernel
theorem d_M_map_110 : decode (xMc m_M_map) 110 = .ok (.iload_n 1, 1) := by decide +kernel
theorem d_M_map_111 : decode (xMc m_M_map) 111 = .ok (.invokevirtual 93, 3) := by decide +kernel
theorem d_M_map_114 : decode (xMc m_M_map) 114 = .ok (.goto 35, 3) := by decide +kernel
theorem d_M_map_117 : decode (xMc m_M_map) 117 = .ok (.aload_n 0, 1) := by decide +kernel
theorem d_M_map_118 : decode (xMc m_M_map) 118 = .ok (.iload_n 1, 1) := by decide +kernel
theorem d_M_map_119 : decode (xMc m_M_map) 119 = .ok (.ifCond .ge 7, 3) := by decide +kernel
theorem d_M_map_122 : decode (xMc m_M_map) 122 = .ok (.iconst (-1), 1) := by decide +kernel
theorem d_M_map_123 : decode (xMc m_M_map) 123 = .ok (.goto 12, 3) := by decide +kernel
theorem d_M_map_126 : decode (xMc m_M_map) 126 = .ok (.iload_n 1, 1) := by decide +kernel
theorem d_M_map_127 : decode (xMc m_M_map) 127 = .ok (.ifCond .le 7, 3) := by decide +kernel
theorem d_M_map_130 : decode (xMc m_M_map) 130 = .ok (.iconst 1, 1) := by decide +kernel
theorem d_M_map_131 : decode (xMc m_M_map) 131 = .ok (.goto 4, 3) := by decide +kernel
theorem d_M_map_134 : decode (xMc m_M_map) 134 = .ok (.iconst 0, 1) := by decide +kernel
theorem d_M_map_135 : decode (xMc m_M_map) 135 = .ok (.iload_n 1, 1) := by decide +kernel
theorem d_M_map_136 : decode (xMc m_M_map) 136 = .ok (.invokevirtual 93, 3) := by decide +kernel
theorem d_M_map_139 : decode (xMc m_M_map) 139 = .ok (.iload_n 1, 1) := by decide +kernel
theorem d_M_map_140 : decode (xMc m_M_map) 140 = .ok (.ifCond .eq 9, 3) := by decide +kernel
theorem d_M_map_143 : decode (xMc m_M_map) 143 = .ok (.aload_n 0, 1) := by decide +kernel
theorem d_M_map_144 : decode (xMc m_M_map) 144 = .ok (.iconst 2, 1) := by decide +kernel
theorem d_M_map_145 : decode (xMc m_M_map) 145 = .ok (.iconst 1, 1) := by decide +kernel
theorem d_M_map_146 : decode (xMc m_M_map) 146 = .ok (.invokevirtual 93, 3) := by decide +kernel
theorem d_M_map_149 : decode (xMc m_M_map) 149 = .ok (.return_, 1) := by decide +kernel
theorem d_M_modulo_0 : decode (xMc m_M_modulo) 0 = .ok (.iload_n 0, 1) := by decide +kernel
theorem d_M_modulo_1 : decode (xMc m_M_modulo) 1 = .ok (.iload_n 1, 1) := by decide +kernel
theorem d_M_modulo_2 : decode (xMc m_M_modulo) 2 = .ok (.irem, 1) := by decide +kernel
theorem d_M_modulo_3 : decode (xMc m_M_modulo) 3 = .ok (.iload_n 1, 1) := by decide +kernel
theorem d_M_modulo_4 : decode (xMc m_M_modulo) 4 = .ok (.iadd, 1) := by decide +kernel
theorem d_M_modulo_5 : decode (xMc m_M_modulo) 5 = .ok (.iload_n 1, 1) := by decide +kernel
theorem d_M_modulo_6 : decode (xMc m_M_modulo) 6 = .ok (.irem, 1) := by decide +kernel
theorem d_M_modulo_7 : decode (xMc m_M_modulo) 7 = .ok (.ireturn, 1) := by decide +kernel
theorem d_M_pair_0 : decode (xMc m_M_pair) 0 = .ok (.aload_n 0, 1) := by decide +kernel
theorem d_M_pair_1 : decode (xMc m_M_pair) 1 = .ok (.getfield 38, 3) := by decide +kernel
theorem d_M_pair_4 : decode (xMc m_M_pair) 4 = .ok (.aload_n 0, 1) := by decide +kernel
theorem d_M_pair_5 : decode (xMc m_M_pair) 5 = .ok (.getfield 86, 3) := by decide +kernel
theorem d_M_pair_8 : decode (xMc m_M_pair) 8 = .ok (.iload_n 1, 1) := by decide +kernel
theorem d_M_pair_9 : decode (xMc m_M_pair) 9 = .ok (.iastore, 1) := by decide +kernel
theorem d_M_pair_10 : decode (xMc m_M_pair) 10 = .ok (.aload_n 0, 1) := by decide +kernel
theorem d_M_pair_11 : decode (xMc m_M_pair) 11 = .ok (.getfield 41, 3) := by decide +kernel
theorem d_M_pair_14 : decode (xMc m_M_pair) 14 = .ok (.aload_n 0, 1) := by decide +kernel
theorem d_M_pair_15 : decode (xMc m_M_pair) 15 = .ok (.getfield 86, 3) := by decide +kernel
theorem d_M_pair_18 : decode (xMc m_M_pair) 18 = .ok (.iload_n 2, 1) := by decide +kernel
theorem d_M_pair_19 : decode (xMc m_M_pair) 19 = .ok (.iastore, 1) := by decide +kernel
theorem d_M_pair_20 : decode (xMc m_M_pair) 20 = .ok (.aload_n 0, 1) := by decide +kernel
theorem d_M_pair_21 : decode (xMc m_M_pair) 21 = .ok (.dup, 1) := by decide +kernel
theorem d_M_pair_22 : decode (xMc m_M_pair) 22 = .ok (.getfield 86, 3) := by decide +kernel
theorem d_M_pair_25 : decode (xMc m_M_pair) 25 = .ok (.iconst 1, 1) := by decide +kernel
theorem d_M_pair_26 : decode (xMc m_M_pair) 26 = .ok (.iadd, 1) := by decide +kernel
theorem d_M_pair_27 : decode (xMc m_M_pair) 27 = .ok (.putfield 86, 3) := by decide +kernel
theorem d_M_pair_30 : decode (xMc m_M_pair) 30 = .ok (.return_, 1) := by decide +kernel
theorem d_M_sort_0 : decode (xMc m_M_sort) 0 = .ok (.iconst 1, 1) := by decide +kernel
theorem d_M_sort_1 : decode (xMc m_M_sort) 1 = .ok (.istore_n 1, 1) := by decide +kernel
theorem d_M_sort_2 : decode (xMc m_M_sort) 2 = .ok (.iload_n 1, 1) := by decide +kernel
theorem d_M_sort_3 : decode (xMc m_M_sort) 3 = .ok (.aload_n 0, 1) := by decide +kernel
theorem d_M_sort_4 : decode (xMc m_M_sort) 4 = .ok (.getfield 86, 3) := by decide +kernel
theorem d_M_sort_7 : decode (xMc m_M_sort) 7 = .ok (.if_icmp .ge 98, 3) := by decide +kernel
theorem d_M_sort_10 : decode (xMc m_M_sort) 10 = .ok (.aload_n 0, 1) := by decide +kernel
theorem d_M_sort_11 : decode (xMc m_M_sort) 11 = .ok (.getfield 38, 3) := by decide +kernel
theorem d_M_sort_14 : decode (xMc m_M_sort) 14 = .ok (.iload_n 1, 1) := by decide +kernel
theorem d_M_sort_15 : decode (xMc m_M_sort) 15 = .ok (.iaload, 1) := by decide +kernel
theorem d_M_sort_16 : decode (xMc m_M_sort) 16 = .ok (.istore_n 2, 1) := by decide +kernel
theorem d_M_sort_17 : decode (xMc m_M_sort) 17 = .ok (.aload_n 0, 1) := by decide +kernel
theorem d_M_sort_18 : decode (xMc m_M_sort) 18 = .ok (.getfield 41, 3) := by decide +kernel
theorem d_M_sort_21 : decode (xMc m_M_sort) 21 = .ok (.iload_n 1, 1) := by decide +kernel
theorem d_M_sort_22 : decode (xMc m_M_sort) 22 = .ok (.iaload, 1) := by decide +kernel
theorem d_M_sort_23 : decode (xMc m_M_sort) 23 = .ok (.istore_n 3, 1) := by decide +kernel
theorem d_M_sort_24 : decode (xMc m_M_sort) 24 = .ok (.iload_n 1, 1) := by decide +kernel
theorem d_M_sort_25 : decode (xMc m_M_sort) 25 = .ok (.istore 4, 2) := by decide +kernel
theorem d_M_sort_27 : decode (xMc m_M_sort) 27 = .ok (.iload 4, 2) := by decide +kernel
theorem d_M_sort_29 : decode (xMc m_M_sort) 29 = .ok (.ifCond .le 54, 3) := by decide +kernel
theorem d_M_sort_32 : decode (xMc m_M_sort) 32 = .ok (.aload_n 0, 1) := by decide +kernel
theorem d_M_sort_33 : decode (xMc m_M_sort) 33 = .ok (.getfield 38, 3) := by decide +kernel
theorem d_M_sort_36 : decode (xMc m_M_sort) 36 = .ok (.iload 4, 2) := by decide +kernel
theorem d_M_sort_38 : decode (xMc m_M_sort) 38 = .ok (.iconst 1, 1) := by decide +kernel
theorem d_M_sort_39 : decode (xMc m_M_sort) 39 = .ok (.isub, 1) := by decide +kernel
theorem d_M_sort_40 : decode (xMc m_M_sort) 40 = .ok (.iaload, 1) := by decide +kernel
theorem d_M_sort_41 : decode (xMc m_M_sort) 41 = .ok (.iload_n 2, 1) := by decide +kernel
theorem d_M_sort_42 : decode (xMc m_M_sort) 42 = .ok (.if_icmp .le 41, 3) := by decide +kernel
theorem d_M_sort_45 : decode (xMc m_M_sort) 45 = .ok (.aload_n 0, 1) := by decide +kernel
theorem d_M_sort_46 : decode (xMc m_M_sort) 46 = .ok (.getfield 38, 3) := by decide +kernel
theorem d_M_sort_49 : decode (xMc m_M_sort) 49 = .ok (.iload 4, 2) := by decide +kernel
theorem d_M_sort_51 : decode (xMc m_M_sort) 51 = .ok (.aload_n 0, 1) := by decide +kernel
theorem d_M_sort_52 : decode (xMc m_M_sort) 52 = .ok (.getfield 38, 3) := by decide +kernel
theorem d_M_sort_55 : decode (xMc m_M_sort) 55 = .ok (.iload 4, 2) := by decide +kernel
theorem d_M_sort_57 : decode (xMc m_M_sort) 57 = .ok (.iconst 1, 1) := by decide +kernel
theorem d_M_sort_58 : decode (xMc m_M_sort) 58 = .ok (.isub, 1) := by decide +kernel
theorem d_M_sort_59 : decode (xMc m_M_sort) 59 = .ok (.iaload, 1) := by decide +kernel
theorem d_M_sort_60 : decode (xMc m_M_sort) 60 = .ok (.iastore, 1) := by decide +kernel
theorem d_M_sort_61 : decode (xMc m_M_sort) 61 = .ok (.aload_n 0, 1) := by decide +kernel
theorem d_M_sort_62 : decode (xMc m_M_sort) 62 = .ok (.getfield 41, 3) := by decide +kernel
theorem d_M_sort_65 : decode (xMc m_M_sort) 65 = .ok (.iload 4, 2) := by decide +kernel
theorem d_M_sort_67 : decode (xMc m_M_sort) 67 = .ok (.aload_n 0, 1) := by decide +kernel
theorem d_M_sort_68 : decode (xMc m_M_sort) 68 = .ok (.getfield 41, 3) := by decide +kernel
theorem d_M_sort_71 : decode (xMc m_M_sort) 71 = .ok (.iload 4, 2) := by decide +kernel
theorem d_M_sort_73 : decode (xMc m_M_sort) 73 = .ok (.iconst 1, 1) := by decide +kernel
theorem d_M_sort_74 : decode (xMc m_M_sort) 74 = .ok (.isub, 1) := by decide +kernel
theorem d_M_sort_75 : decode (xMc m_M_sort) 75 = .ok (.iaload, 1) := by decide +kernel
theorem d_M_sort_76 : decode (xMc m_M_sort) 76 = .ok (.iastore, 1) := by decide +kernel
theorem d_M_sort_77 : decode (xMc m_M_sort) 77 = .ok (.iinc 4 (-1), 3) := by decide +kernel
theorem d_M_sort_80 : decode (xMc m_M_sort) 80 = .ok (.goto (-53), 3) := by decide +kernel
theorem d_M_sort_83 : decode (xMc m_M_sort) 83 = .ok (.aload_n 0, 1) := by decide +kernel
theorem d_M_sort_84 : decode (xMc m_M_sort) 84 = .ok (.getfield 38, 3) := by decide +kernel
theorem d_M_sort_87 : decode (xMc m_M_sort) 87 = .ok (.iload 4, 2) := by decide +kernel
theorem d_M_sort_89 : decode (xMc m_M_sort) 89 = .ok (.iload_n 2, 1) := by decide +kernel
theorem d_M_sort_90 : decode (xMc m_M_sort) 90 = .ok (.iastore, 1) := by decide +kernel
theorem d_M_sort_91 : decode (xMc m_M_sort) 91 = .ok (.aload_n 0, 1) := by decide +kernel
theorem d_M_sort_92 : decode (xMc m_M_sort) 92 = .ok (.getfield 41, 3) := by decide +kernel
theorem d_M_sort_95 : decode (xMc m_M_sort) 95 = .ok (.iload 4, 2) := by decide +kernel
theorem d_M_sort_97 : decode (xMc m_M_sort) 97 = .ok (.iload_n 3, 1) := by decide +kernel
theorem d_M_sort_98 : decode (xMc m_M_sort) 98 = .ok (.iastore, 1) := by decide +kernel
theorem d_M_sort_99 : decode (xMc m_M_sort) 99 = .ok (.iinc 1 1, 3) := by decide +kernel
theorem d_M_sort_102 : decode (xMc m_M_sort) 102 = .ok (.goto (-100), 3) := by decide +kernel
theorem d_M_sort_105 : decode (xMc m_M_sort) 105 = .ok (.return_, 1) := by decide +kernel
theorem d_M_run_0 : decode (xMc m_M_run) 0 = .ok (.aload_n 0, 1) := by decide +kernel
theorem d_M_run_1 : decode (xMc m_M_run) 1 = .ok (.iload_n 1, 1) := by decide +kernel
theorem d_M_run_2 : decode (xMc m_M_run) 2 = .ok (.iconst 1, 1) := by decide +kernel
theorem d_M_run_3 : decode (xMc m_M_run) 3 = .ok (.bipush 100, 2) := by decide +kernel
theorem d_M_run_5 : decode (xMc m_M_run) 5 = .ok (.invokestatic 67, 3) := by decide +kernel
theorem d_M_run_8 : decode (xMc m_M_run) 8 = .ok (.invokevirtual 71, 3) := by decide +kernel
theorem d_M_run_11 : decode (xMc m_M_run) 11 = .ok (.ifCond .eq 5, 3) := by decide +kernel
theorem d_M_run_14 : decode (xMc m_M_run) 14 = .ok (.iconst 0, 1) := by decide +kernel
theorem d_M_run_15 : decode (xMc m_M_run) 15 = .ok (.ireturn, 1) := by decide +kernel
theorem d_M_run_16 : decode (xMc m_M_run) 16 = .ok (.aload_n 0, 1) := by decide +kernel
theorem d_M_run_17 : decode (xMc m_M_run) 17 = .ok (.getfield 75, 3) := by decide +kernel
theorem d_M_run_20 : decode (xMc m_M_run) 20 = .ok (.ifCond .ne 9, 3) := by decide +kernel
theorem d_M_run_23 : decode (xMc m_M_run) 23 = .ok (.aload_n 0, 1) := by decide +kernel
theorem d_M_run_24 : decode (xMc m_M_run) 24 = .ok (.iconst 2, 1) := by decide +kernel
theorem d_M_run_25 : decode (xMc m_M_run) 25 = .ok (.invokevirtual 82, 3) := by decide +kernel
theorem d_M_run_28 : decode (xMc m_M_run) 28 = .ok (.ireturn, 1) := by decide +kernel
theorem d_M_run_29 : decode (xMc m_M_run) 29 = .ok (.iconst 0, 1) := by decide +kernel
theorem d_M_run_30 : decode (xMc m_M_run) 30 = .ok (.istore_n 2, 1) := by decide +kernel
theorem d_M_run_31 : decode (xMc m_M_run) 31 = .ok (.iload_n 2, 1) := by decide +kernel
theorem d_M_run_32 : decode (xMc m_M_run) 32 = .ok (.iload_n 1, 1) := by decide +kernel
theorem d_M_run_33 : decode (xMc m_M_run) 33 = .ok (.if_icmp .ge 27, 3) := by decide +kernel
theorem d_M_run_36 : decode (xMc m_M_run) 36 = .ok (.aload_n 0, 1) := by decide +kernel
theorem d_M_run_37 : decode (xMc m_M_run) 37 = .ok (.getfield 75, 3) := by decide +kernel
theorem d_M_run_40 : decode (xMc m_M_run) 40 = .ok (.ifCond .eq 20, 3) := by decide +kernel
theorem d_M_run_43 : decode (xMc m_M_run) 43 = .ok (.aload_n 0, 1) := by decide +kernel
theorem d_M_run_44 : decode (xMc m_M_run) 44 = .ok (.getfield 64, 3) := by decide +kernel
theorem d_M_run_47 : decode (xMc m_M_run) 47 = .ok (.ifCond .ne 13, 3) := by decide +kernel
theorem d_M_run_50 : decode (xMc m_M_run) 50 = .ok (.aload_n 0, 1) := by decide +kernel
theorem d_M_run_51 : decode (xMc m_M_run) 51 = .ok (.invokevirtual 182, 3) := by decide +kernel
theorem d_M_run_54 : decode (xMc m_M_run) 54 = .ok (.iinc 2 1, 3) := by decide +kernel
theorem d_M_run_57 : decode (xMc m_M_run) 57 = .ok (.goto (-26), 3) := by decide +kernel
theorem d_M_run_60 : decode (xMc m_M_run) 60 = .ok (.aload_n 0, 1) := by decide +kernel
theorem d_M_run_61 : decode (xMc m_M_run) 61 = .ok (.getfield 64, 3) := by decide +kernel
theorem d_M_run_64 : decode (xMc m_M_run) 64 = .ok (.ifCond .le 7, 3) := by decide +kernel
theorem d_M_run_67 : decode (xMc m_M_run) 67 = .ok (.iconst 0, 1) := by decide +kernel
theorem d_M_run_68 : decode (xMc m_M_run) 68 = .ok (.goto 4, 3) := by decide +kernel
theorem d_M_run_71 : decode (xMc m_M_run) 71 = .ok (.iload_n 2, 1) := by decide +kernel
theorem d_M_run_72 : decode (xMc m_M_run) 72 = .ok (.ireturn, 1) := by decide +kernel
theorem d_M_tick_0 : decode (xMc m_M_tick) 0 = .ok (.iconst 0, 1) := by decide +kernel
theorem d_M_tick_1 : decode (xMc m_M_tick) 1 = .ok (.istore_n 1, 1) := by decide +kernel
theorem d_M_tick_2 : decode (xMc m_M_tick) 2 = .ok (.aload_n 0, 1) := by decide +kernel
theorem d_M_tick_3 : decode (xMc m_M_tick) 3 = .ok (.dup, 1) := by decide +kernel
theorem d_M_tick_4 : decode (xMc m_M_tick) 4 = .ok (.getfield 170, 3) := by decide +kernel
theorem d_M_tick_7 : decode (xMc m_M_tick) 7 = .ok (.iconst 1, 1) := by decide +kernel
theorem d_M_tick_8 : decode (xMc m_M_tick) 8 = .ok (.iadd, 1) := by decide +kernel
theorem d_M_tick_9 : decode (xMc m_M_tick) 9 = .ok (.putfield 170, 3) := by decide +kernel
theorem d_M_tick_12 : decode (xMc m_M_tick) 12 = .ok (.iconst 0, 1) := by decide +kernel
theorem d_M_tick_13 : decode (xMc m_M_tick) 13 = .ok (.istore_n 2, 1) := by decide +kernel
theorem d_M_tick_14 : decode (xMc m_M_tick) 14 = .ok (.iload_n 2, 1) := by decide +kernel
theorem d_M_tick_15 : decode (xMc m_M_tick) 15 = .ok (.iconst 4, 1) := by decide +kernel
theorem d_M_tick_16 : decode (xMc m_M_tick) 16 = .ok (.if_icmp .ge 124, 3) := by decide +kernel
theorem d_M_tick_19 : decode (xMc m_M_tick) 19 = .ok (.aload_n 0, 1) := by decide +kernel
theorem d_M_tick_20 : decode (xMc m_M_tick) 20 = .ok (.getfield 64, 3) := by decide +kernel
theorem d_M_tick_23 : decode (xMc m_M_tick) 23 = .ok (.ifCond .ne 117, 3) := by decide +kernel
theorem d_M_tick_26 : decode (xMc m_M_tick) 26 = .ok (.aload_n 0, 1) := by decide +kernel
theorem d_M_tick_27 : decode (xMc m_M_tick) 27 = .ok (.getfield 28, 3) := by decide +kernel
theorem d_M_tick_30 : decode (xMc m_M_tick) 30 = .ok (.iload_n 2, 1) := by decide +kernel
theorem d_M_tick_31 : decode (xMc m_M_tick) 31 = .ok (.baload, 1) := by decide +kernel
theorem d_M_tick_32 : decode (xMc m_M_tick) 32 = .ok (.ifCond .ne 6, 3) := by decide +kernel
theorem d_M_tick_35 : decode (xMc m_M_tick) 35 = .ok (.goto 99, 3) := by decide +kernel
theorem d_M_tick_38 : decode (xMc m_M_tick) 38 = .ok (.aload_n 0, 1) := by decide +kernel
theorem d_M_tick_39 : decode (xMc m_M_tick) 39 = .ok (.getfield 19, 3) := by decide +kernel
theorem d_M_tick_42 : decode (xMc m_M_tick) 42 = .ok (.iload_n 2, 1) := by decide +kernel
theorem d_M_tick_43 : decode (xMc m_M_tick) 43 = .ok (.iaload, 1) := by decide +kernel
theorem d_M_tick_44 : decode (xMc m_M_tick) 44 = .ok (.ifCond .ge 8, 3) := by decide +kernel
theorem d_M_tick_47 : decode (xMc m_M_tick) 47 = .ok (.aload_n 0, 1) := by decide +kernel
theorem d_M_tick_48 : decode (xMc m_M_tick) 48 = .ok (.iload_n 2, 1) := by decide +kernel
theorem d_M_tick_49 : decode (xMc m_M_tick) 49 = .ok (.invokevirtual 173, 3) := by decide +kernel
theorem d_M_tick_52 : decode (xMc m_M_tick) 52 = .ok (.aload_n 0, 1) := by decide +kernel
theorem d_M_tick_53 : decode (xMc m_M_tick) 53 = .ok (.getfield 19, 3) := by decide +kernel
theorem d_M_tick_56 : decode (xMc m_M_tick) 56 = .ok (.iload_n 2, 1) := by decide +kernel
theorem d_M_tick_57 : decode (xMc m_M_tick) 57 = .ok (.iaload, 1) := by decide +kernel
theorem d_M_tick_58 : decode (xMc m_M_tick) 58 = .ok (.ifCond .ge 6, 3) := by decide +kernel
theorem d_M_tick_61 : decode (xMc m_M_tick) 61 = .ok (.goto 73, 3) := by decide +kernel
theorem d_M_tick_64 : decode (xMc m_M_tick) 64 = .ok (.aload_n 0, 1) := by decide +kernel
theorem d_M_tick_65 : decode (xMc m_M_tick) 65 = .ok (.getfield 16, 3) := by decide +kernel
theorem d_M_tick_68 : decode (xMc m_M_tick) 68 = .ok (.iload_n 2, 1) := by decide +kernel
theorem d_M_tick_69 : decode (xMc m_M_tick) 69 = .ok (.iaload, 1) := by decide +kernel
theorem d_M_tick_70 : decode (xMc m_M_tick) 70 = .ok (.aload_n 0, 1) := by decide +kernel
theorem d_M_tick_71 : decode (xMc m_M_tick) 71 = .ok (.getfield 22, 3) := by decide +kernel
theorem d_M_tick_74 : decode (xMc m_M_tick) 74 = .ok (.iload_n 2, 1) := by decide +kernel
theorem d_M_tick_75 : decode (xMc m_M_tick) 75 = .ok (.iaload, 1) := by decide +kernel
theorem d_M_tick_76 : decode (xMc m_M_tick) 76 = .ok (.if_icmp .ge 12, 3) := by decide +kernel
theorem d_M_tick_79 : decode (xMc m_M_tick) 79 = .ok (.aload_n 0, 1) := by decide +kernel
theorem d_M_tick_80 : decode (xMc m_M_tick) 80 = .ok (.getfield 16, 3) := by decide +kernel
theorem d_M_tick_83 : decode (xMc m_M_tick) 83 = .ok (.iload_n 2, 1) := by decide +kernel
theorem d_M_tick_84 : decode (xMc m_M_tick) 84 = .ok (.iaload, 1) := by decide +kernel
theorem d_M_tick_85 : decode (xMc m_M_tick) 85 = .ok (.goto 9, 3) := by decide +kernel
theorem d_M_tick_88 : decode (xMc m_M_tick) 88 = .ok (.aload_n 0, 1) := by decide +kernel
theorem d_M_tick_89 : decode (xMc m_M_tick) 89 = .ok (.getfield 22, 3) := by decide +kernel
theorem d_M_tick_92 : decode (xMc m_M_tick) 92 = .ok (.iload_n 2, 1) := by decide +kernel
theorem d_M_tick_93 : decode (xMc m_M_tick) 93 = .ok (.iaload, 1) := by decide +kernel
theorem d_M_tick_94 : decode (xMc m_M_tick) 94 = .ok (.istore_n 3, 1) := by decide +kernel
theorem d_M_tick_95 : decode (xMc m_M_tick) 95 = .ok (.aload_n 0, 1) := by decide +kernel
theorem d_M_tick_96 : decode (xMc m_M_tick) 96 = .ok (.getfield 22, 3) := by decide +kernel
theorem d_M_tick_99 : decode (xMc m_M_tick) 99 = .ok (.iload_n 2, 1) := by decide +kernel
theorem d_M_tick_100 : decode (xMc m_M_tick) 100 = .ok (.dup2, 1) := by decide +kernel
theorem d_M_tick_101 : decode (xMc m_M_tick) 101 = .ok (.iaload, 1) := by decide +kernel
theorem d_M_tick_102 : decode (xMc m_M_tick) 102 = .ok (.iload_n 3, 1) := by decide +kernel
theorem d_M_tick_103 : decode (xMc m_M_tick) 103 = .ok (.isub, 1) := by decide +kernel
theorem d_M_tick_104 : decode (xMc m_M_tick) 104 = .ok (.iastore, 1) := by decide +kernel
theorem d_M_tick_105 : decode (xMc m_M_tick) 105 = .ok (.aload_n 0, 1) := by decide +kernel
theorem d_M_tick_106 : decode (xMc m_M_tick) 106 = .ok (.getfield 25, 3) := by decide +kernel
theorem d_M_tick_109 : decode (xMc m_M_tick) 109 = .ok (.iload_n 2, 1) := by decide +kernel
theorem d_M_tick_110 : decode (xMc m_M_tick) 110 = .ok (.dup2, 1) := by decide +kernel
theorem d_M_tick_111 : decode (xMc m_M_tick) 111 = .ok (.iaload, 1) := by decide +kernel
theorem d_M_tick_112 : decode (xMc m_M_tick) 112 = .ok (.iload_n 3, 1) := by decide +kernel
theorem d_M_tick_113 : decode (xMc m_M_tick) 113 = .ok (.iadd, 1) := by decide +kernel
theorem d_M_tick_114 : decode (xMc m_M_tick) 114 = .ok (.iastore, 1) := by decide +kernel
theorem d_M_tick_115 : decode (xMc m_M_tick) 115 = .ok (.aload_n 0, 1) := by decide +kernel
theorem d_M_tick_116 : decode (xMc m_M_tick) 116 = .ok (.getfield 22, 3) := by decide +kernel
theorem d_M_tick_119 : decode (xMc m_M_tick) 119 = .ok (.iload_n 2, 1) := by decide +kernel
theorem d_M_tick_120 : decode (xMc m_M_tick) 120 = .ok (.iaload, 1) := by decide +kernel
theorem d_M_tick_121 : decode (xMc m_M_tick) 121 = .ok (.ifCond .le 6, 3) := by decide +kernel
theorem d_M_tick_124 : decode (xMc m_M_tick) 124 = .ok (.goto 10, 3) := by decide +kernel
theorem d_M_tick_127 : decode (xMc m_M_tick) 127 = .ok (.iconst 1, 1) := by decide +kernel
theorem d_M_tick_128 : decode (xMc m_M_tick) 128 = .ok (.istore_n 1, 1) := by decide +kernel
theorem d_M_tick_129 : decode (xMc m_M_tick) 129 = .ok (.aload_n 0, 1) := by decide +kernel
theorem d_M_tick_130 : decode (xMc m_M_tick) 130 = .ok (.iload_n 2, 1) := by decide +kernel
theorem d_M_tick_131 : decode (xMc m_M_tick) 131 = .ok (.invokevirtual 176, 3) := by decide +kernel
theorem d_M_tick_134 : decode (xMc m_M_tick) 134 = .ok (.iinc 2 1, 3) := by decide +kernel
theorem d_M_tick_137 : decode (xMc m_M_tick) 137 = .ok (.goto (-123), 3) := by decide +kernel
theorem d_M_tick_140 : decode (xMc m_M_tick) 140 = .ok (.aload_n 0, 1) := by decide +kernel
theorem d_M_tick_141 : decode (xMc m_M_tick) 141 = .ok (.getfield 64, 3) := by decide +kernel
theorem d_M_tick_144 : decode (xMc m_M_tick) 144 = .ok (.ifCond .le 4, 3) := by decide +kernel
theorem d_M_tick_147 : decode (xMc m_M_tick) 147 = .ok (.return_, 1) := by decide +kernel
theorem d_M_tick_148 : decode (xMc m_M_tick) 148 = .ok (.aload_n 0, 1) := by decide +kernel
theorem d_M_tick_149 : decode (xMc m_M_tick) 149 = .ok (.invokevirtual 140, 3) := by decide +kernel
theorem d_M_tick_152 : decode (xMc m_M_tick) 152 = .ok (.istore_n 2, 1) := by decide +kernel
theorem d_M_tick_153 : decode (xMc m_M_tick) 153 = .ok (.iconst 0, 1) := by decide +kernel
theorem d_M_tick_154 : decode (xMc m_M_tick) 154 = .ok (.istore_n 3, 1) := by decide +kernel
theorem d_M_tick_155 : decode (xMc m_M_tick) 155 = .ok (.iload_n 3, 1) := by decide +kernel
theorem d_M_tick_156 : decode (xMc m_M_tick) 156 = .ok (.aload_n 0, 1) := by decide +kernel
theorem d_M_tick_157 : decode (xMc m_M_tick) 157 = .ok (.getfield 103, 3) := by decide +kernel
theorem d_M_tick_160 : decode (xMc m_M_tick) 160 = .ok (.if_icmp .ge 23, 3) := by decide +kernel
theorem d_M_tick_163 : decode (xMc m_M_tick) 163 = .ok (.aload_n 0, 1) := by decide +kernel
theorem d_M_tick_164 : decode (xMc m_M_tick) 164 = .ok (.getfield 32, 3) := by decide +kernel
theorem d_M_tick_167 : decode (xMc m_M_tick) 167 = .ok (.bipush 8, 2) := by decide +kernel
theorem d_M_tick_169 : decode (xMc m_M_tick) 169 = .ok (.iload_n 3, 1) := by decide +kernel
theorem d_M_tick_170 : decode (xMc m_M_tick) 170 = .ok (.iadd, 1) := by decide +kernel
theorem d_M_tick_171 : decode (xMc m_M_tick) 171 = .ok (.baload, 1) := by decide +kernel
theorem d_M_tick_172 : decode (xMc m_M_tick) 172 = .ok (.ifCond .ne 5, 3) := by decide +kernel
theorem d_M_tick_175 : decode (xMc m_M_tick) 175 = .ok (.iconst 0, 1) := by decide +kernel
theorem d_M_tick_176 : decode (xMc m_M_tick) 176 = .ok (.istore_n 2, 1) := by decide +kernel
theorem d_M_tick_177 : decode (xMc m_M_tick) 177 = .ok (.iinc 3 1, 3) := by decide +kernel
theorem d_M_tick_180 : decode (xMc m_M_tick) 180 = .ok (.goto (-25), 3) := by decide +kernel
theorem d_M_tick_183 : decode (xMc m_M_tick) 183 = .ok (.iload_n 2, 1) := by decide +kernel
theorem d_M_tick_184 : decode (xMc m_M_tick) 184 = .ok (.ifCond .eq 8, 3) := by decide +kernel
theorem d_M_tick_187 : decode (xMc m_M_tick) 187 = .ok (.aload_n 0, 1) := by decide +kernel
theorem d_M_tick_188 : decode (xMc m_M_tick) 188 = .ok (.invokevirtual 179, 3) := by decide +kernel
theorem d_M_tick_191 : decode (xMc m_M_tick) 191 = .ok (.return_, 1) := by decide +kernel
theorem d_M_tick_192 : decode (xMc m_M_tick) 192 = .ok (.iconst 0, 1) := by decide +kernel
theorem d_M_tick_193 : decode (xMc m_M_tick) 193 = .ok (.istore_n 3, 1) := by decide +kernel
theorem d_M_tick_194 : decode (xMc m_M_tick) 194 = .ok (.iload_n 3, 1) := by decide +kernel
theorem d_M_tick_195 : decode (xMc m_M_tick) 195 = .ok (.iconst 4, 1) := by decide +kernel
theorem d_M_tick_196 : decode (xMc m_M_tick) 196 = .ok (.if_icmp .ge 20, 3) := by decide +kernel
theorem d_M_tick_199 : decode (xMc m_M_tick) 199 = .ok (.aload_n 0, 1) := by decide +kernel
theorem d_M_tick_200 : decode (xMc m_M_tick) 200 = .ok (.getfield 19, 3) := by decide +kernel
theorem d_M_tick_203 : decode (xMc m_M_tick) 203 = .ok (.iload_n 3, 1) := by decide +kernel
theorem d_M_tick_204 : decode (xMc m_M_tick) 204 = .ok (.iaload, 1) := by decide +kernel
theorem d_M_tick_205 : decode (xMc m_M_tick) 205 = .ok (.ifCond .lt 5, 3) := by decide +kernel
theorem d_M_tick_208 : decode (xMc m_M_tick) 208 = .ok (.iconst 1, 1) := by decide +kernel
theorem d_M_tick_209 : decode (xMc m_M_tick) 209 = .ok (.istore_n 1, 1) := by decide +kernel
theorem d_M_tick_210 : decode (xMc m_M_tick) 210 = .ok (.iinc 3 1, 3) := by decide +kernel
theorem d_M_tick_213 : decode (xMc m_M_tick) 213 = .ok (.goto (-19), 3) := by decide +kernel
theorem d_M_tick_216 : decode (xMc m_M_tick) 216 = .ok (.iload_n 1, 1) := by decide +kernel
theorem d_M_tick_217 : decode (xMc m_M_tick) 217 = .ok (.ifCond .ne 8, 3) := by decide +kernel
theorem d_M_tick_220 : decode (xMc m_M_tick) 220 = .ok (.aload_n 0, 1) := by decide +kernel
theorem d_M_tick_221 : decode (xMc m_M_tick) 221 = .ok (.iconst 2, 1) := by decide +kernel
theorem d_M_tick_222 : decode (xMc m_M_tick) 222 = .ok (.putfield 64, 3) := by decide +kernel
theorem d_M_tick_225 : decode (xMc m_M_tick) 225 = .ok (.return_, 1) := by decide +kernel
theorem d_M_get_0 : decode (xMc m_M_get) 0 = .ok (.aload_n 0, 1) := by decide +kernel
theorem d_M_get_1 : decode (xMc m_M_get) 1 = .ok (.invokevirtual 140, 3) := by decide +kernel
theorem d_M_get_4 : decode (xMc m_M_get) 4 = .ok (.istore_n 2, 1) := by decide +kernel
theorem d_M_get_5 : decode (xMc m_M_get) 5 = .ok (.iload_n 2, 1) := by decide +kernel
theorem d_M_get_6 : decode (xMc m_M_get) 6 = .ok (.ifCond .eq 8, 3) := by decide +kernel
theorem d_M_get_9 : decode (xMc m_M_get) 9 = .ok (.bipush 8, 2) := by decide +kernel
theorem d_M_get_11 : decode (xMc m_M_get) 11 = .ok (.goto 4, 3) := by decide +kernel
theorem d_M_get_14 : decode (xMc m_M_get) 14 = .ok (.iconst 0, 1) := by decide +kernel
theorem d_M_get_15 : decode (xMc m_M_get) 15 = .ok (.istore_n 3, 1) := by decide +kernel
theorem d_M_get_16 : decode (xMc m_M_get) 16 = .ok (.iload_n 2, 1) := by decide +kernel
theorem d_M_get_17 : decode (xMc m_M_get) 17 = .ok (.ifCond .eq 13, 3) := by decide +kernel
theorem d_M_get_20 : decode (xMc m_M_get) 20 = .ok (.bipush 8, 2) := by decide +kernel
theorem d_M_get_22 : decode (xMc m_M_get) 22 = .ok (.aload_n 0, 1) := by decide +kernel
theorem d_M_get_23 : decode (xMc m_M_get) 23 = .ok (.getfield 103, 3) := by decide +kernel
theorem d_M_get_26 : decode (xMc m_M_get) 26 = .ok (.iadd, 1) := by decide +kernel
theorem d_M_get_27 : decode (xMc m_M_get) 27 = .ok (.goto 7, 3) := by decide +kernel
theorem d_M_get_30 : decode (xMc m_M_get) 30 = .ok (.aload_n 0, 1) := by decide +kernel
theorem d_M_get_31 : decode (xMc m_M_get) 31 = .ok (.getfield 79, 3) := by decide +kernel
theorem d_M_get_34 : decode (xMc m_M_get) 34 = .ok (.istore 4, 2) := by decide +kernel
theorem d_M_get_36 : decode (xMc m_M_get) 36 = .ok (.iconst (-1), 1) := by decide +kernel
theorem d_M_get_37 : decode (xMc m_M_get) 37 = .ok (.istore 5, 2) := by decide +kernel
theorem d_M_get_39 : decode (xMc m_M_get) 39 = .ok (.iconst (-1), 1) := by decide +kernel
theorem d_M_get_40 : decode (xMc m_M_get) 40 = .ok (.istore 6, 2) := by decide +kernel
theorem d_M_get_42 : decode (xMc m_M_get) 42 = .ok (.iconst (-1), 1) := by decide +kernel
theorem d_M_get_43 : decode (xMc m_M_get) 43 = .ok (.istore 7, 2) := by decide +kernel
theorem d_M_get_45 : decode (xMc m_M_get) 45 = .ok (.iload_n 3, 1) := by decide +kernel
theorem d_M_get_46 : decode (xMc m_M_get) 46 = .ok (.istore 8, 2) := by decide +kernel
theorem d_M_get_48 : decode (xMc m_M_get) 48 = .ok (.iload 8, 2) := by decide +kernel
theorem d_M_get_50 : decode (xMc m_M_get) 50 = .ok (.iload 4, 2) := by decide +kernel
theorem d_M_get_52 : decode (xMc m_M_get) 52 = .ok (.if_icmp .ge 115, 3) := by decide +kernel
theorem d_M_get_55 : decode (xMc m_M_get) 55 = .ok (.aload_n 0, 1) := by decide +kernel
theorem d_M_get_56 : decode (xMc m_M_get) 56 = .ok (.getfield 32, 3) := by decide +kernel
theorem d_M_get_59 : decode (xMc m_M_get) 59 = .ok (.iload 8, 2) := by decide +kernel
theorem d_M_get_61 : decode (xMc m_M_get) 61 = .ok (.baload, 1) := by decide +kernel
theorem d_M_get_62 : decode (xMc m_M_get) 62 = .ok (.ifCond .ne 99, 3) := by decide +kernel
theorem d_M_get_65 : decode (xMc m_M_get) 65 = .ok (.aload_n 0, 1) := by decide +kernel
theorem d_M_get_66 : decode (xMc m_M_get) 66 = .ok (.iload 8, 2) := by decide +kernel
theorem d_M_get_68 : decode (xMc m_M_get) 68 = .ok (.invokevirtual 144, 3) := by decide +kernel
theorem d_M_get_71 : decode (xMc m_M_get) 71 = .ok (.ifCond .ne 6, 3) := by decide +kernel
theorem d_M_get_74 : decode (xMc m_M_get) 74 = .ok (.goto 87, 3) := by decide +kernel
theorem d_M_get_77 : decode (xMc m_M_get) 77 = .ok (.aload_n 0, 1) := by decide +kernel
theorem d_M_get_78 : decode (xMc m_M_get) 78 = .ok (.iload 8, 2) := by decide +kernel
theorem d_M_get_80 : decode (xMc m_M_get) 80 = .ok (.invokevirtual 148, 3) := by decide +kernel
theorem d_M_get_83 : decode (xMc m_M_get) 83 = .ok (.istore 9, 2) := by decide +kernel
theorem d_M_get_85 : decode (xMc m_M_get) 85 = .ok (.iload 9, 2) := by decide +kernel
theorem d_M_get_87 : decode (xMc m_M_get) 87 = .ok (.ifCond .ne 12, 3) := by decide +kernel
theorem d_M_get_90 : decode (xMc m_M_get) 90 = .ok (.iload 5, 2) := by decide +kernel
theorem d_M_get_92 : decode (xMc m_M_get) 92 = .ok (.ifCond .ge 7, 3) := by decide +kernel
theorem d_M_get_95 : decode (xMc m_M_get) 95 = .ok (.iload 8, 2) := by decide +kernel
theorem d_M_get_97 : decode (xMc m_M_get) 97 = .ok (.istore 5, 2) := by decide +kernel
theorem d_M_get_99 : decode (xMc m_M_get) 99 = .ok (.iload 9, 2) := by decide +kernel
theorem d_M_get_101 : decode (xMc m_M_get) 101 = .ok (.ifCond .ne 30, 3) := by decide +kernel
theorem d_M_get_104 : decode (xMc m_M_get) 104 = .ok (.iload 6, 2) := by decide +kernel
theorem d_M_get_106 : decode (xMc m_M_get) 106 = .ok (.ifCond .ge 25, 3) := by decide +kernel
theorem d_M_get_109 : decode (xMc m_M_get) 109 = .ok (.iload 8, 2) := by decide +kernel
theorem d_M_get_111 : decode (xMc m_M_get) 111 = .ok (.iconst 4, 1) := by decide +kernel
theorem d_M_get_112 : decode (xMc m_M_get) 112 = .ok (.irem, 1) := by decide +kernel
theorem d_M_get_113 : decode (xMc m_M_get) 113 = .ok (.iload_n 1, 1) := by decide +kernel
theorem d_M_get_114 : decode (xMc m_M_get) 114 = .ok (.if_icmp .eq 13, 3) := by decide +kernel
theorem d_M_get_117 : decode (xMc m_M_get) 117 = .ok (.iload 8, 2) := by decide +kernel
theorem d_M_get_119 : decode (xMc m_M_get) 119 = .ok (.iconst 1, 1) := by decide +kernel
theorem d_M_get_120 : decode (xMc m_M_get) 120 = .ok (.iadd, 1) := by decide +kernel
theorem d_M_get_121 : decode (xMc m_M_get) 121 = .ok (.iconst 4, 1) := by decide +kernel
theorem d_M_get_122 : decode (xMc m_M_get) 122 = .ok (.irem, 1) := by decide +kernel
theorem d_M_get_123 : decode (xMc m_M_get) 123 = .ok (.iload_n 1, 1) := by decide +kernel
theorem d_M_get_124 : decode (xMc m_M_get) 124 = .ok (.if_icmp .ne 7, 3) := by decide +kernel
theorem d_M_get_127 : decode (xMc m_M_get) 127 = .ok (.iload 8, 2) := by decide +kernel
theorem d_M_get_129 : decode (xMc m_M_get) 129 = .ok (.istore 6, 2) := by decide +kernel
theorem d_M_get_131 : decode (xMc m_M_get) 131 = .ok (.iload 9, 2) := by decide +kernel
theorem d_M_get_133 : decode (xMc m_M_get) 133 = .ok (.iconst 1, 1) := by decide +kernel
theorem d_M_get_134 : decode (xMc m_M_get) 134 = .ok (.if_icmp .ne 27, 3) := by decide +kernel
theorem d_M_get_137 : decode (xMc m_M_get) 137 = .ok (.iload 7, 2) := by decide +kernel
theorem d_M_get_139 : decode (xMc m_M_get) 139 = .ok (.ifCond .lt 18, 3) := by decide +kernel
theorem d_M_get_142 : decode (xMc m_M_get) 142 = .ok (.aload_n 0, 1) := by decide +kernel
theorem d_M_get_143 : decode (xMc m_M_get) 143 = .ok (.iload 8, 2) := by decide +kernel
theorem d_M_get_145 : decode (xMc m_M_get) 145 = .ok (.invokevirtual 151, 3) := by decide +kernel
theorem d_M_get_148 : decode (xMc m_M_get) 148 = .ok (.aload_n 0, 1) := by decide +kernel
theorem d_M_get_149 : decode (xMc m_M_get) 149 = .ok (.iload 7, 2) := by decide +kernel
theorem d_M_get_151 : decode (xMc m_M_get) 151 = .ok (.invokevirtual 151, 3) := by decide +kernel
theorem d_M_get_154 : decode (xMc m_M_get) 154 = .ok (.if_icmp .le 7, 3) := by decide +kernel
theorem d_M_get_157 : decode (xMc m_M_get) 157 = .ok (.iload 8, 2) := by decide +kernel
theorem d_M_get_159 : decode (xMc m_M_get) 159 = .ok (.istore 7, 2) := by decide +kernel
theorem d_M_get_161 : decode (xMc m_M_get) 161 = .ok (.iinc 8 1, 3) := by decide +kernel
theorem d_M_get_164 : decode (xMc m_M_get) 164 = .ok (.goto (-116), 3) := by decide +kernel
theorem d_M_get_167 : decode (xMc m_M_get) 167 = .ok (.iload 5, 2) := by decide +kernel
theorem d_M_get_169 : decode (xMc m_M_get) 169 = .ok (.ifCond .ge 8, 3) := by decide +kernel
theorem d_M_get_172 : decode (xMc m_M_get) 172 = .ok (.iload 7, 2) := by decide +kernel
theorem d_M_get_174 : decode (xMc m_M_get) 174 = .ok (.goto 19, 3) := by decide +kernel
theorem d_M_get_177 : decode (xMc m_M_get) 177 = .ok (.iload_n 2, 1) := by decide +kernel
theorem d_M_get_178 : decode (xMc m_M_get) 178 = .ok (.ifCond .ne 8, 3) := by decide +kernel
theorem d_M_get_181 : decode (xMc m_M_get) 181 = .ok (.iload 6, 2) := by decide +kernel
theorem d_M_get_183 : decode (xMc m_M_get) 183 = .ok (.ifCond .ge 8, 3) := by decide +kernel
theorem d_M_get_186 : decode (xMc m_M_get) 186 = .ok (.iload 5, 2) := by decide +kernel
theorem d_M_get_188 : decode (xMc m_M_get) 188 = .ok (.goto 5, 3) := by decide +kernel
theorem d_M_get_191 : decode (xMc m_M_get) 191 = .ok (.iload 6, 2) := by decide +kernel
theorem d_M_get_193 : decode (xMc m_M_get) 193 = .ok (.istore 8, 2) := by decide +kernel
theorem d_M_get_195 : decode (xMc m_M_get) 195 = .ok (.iload 8, 2) := by decide +kernel
theorem d_M_get_197 : decode (xMc m_M_get) 197 = .ok (.ifCond .ge 4, 3) := by decide +kernel
theorem d_M_get_200 : decode (xMc m_M_get) 200 = .ok (.return_, 1) := by decide +kernel
theorem d_M_get_201 : decode (xMc m_M_get) 201 = .ok (.iload 5, 2) := by decide +kernel
theorem d_M_get_203 : decode (xMc m_M_get) 203 = .ok (.ifCond .ge 13, 3) := by decide +kernel
theorem d_M_get_206 : decode (xMc m_M_get) 206 = .ok (.aload_n 0, 1) := by decide +kernel
theorem d_M_get_207 : decode (xMc m_M_get) 207 = .ok (.dup, 1) := by decide +kernel
theorem d_M_get_208 : decode (xMc m_M_get) 208 = .ok (.getfield 154, 3) := by decide +kernel
theorem d_M_get_211 : decode (xMc m_M_get) 211 = .ok (.iconst 1, 1) := by decide +kernel
theorem d_M_get_212 : decode (xMc m_M_get) 212 = .ok (.iadd, 1) := by decide +kernel
theorem d_M_get_213 : decode (xMc m_M_get) 213 = .ok (.putfield 154, 3) := by decide +kernel
theorem d_M_get_216 : decode (xMc m_M_get) 216 = .ok (.aload_n 0, 1) := by decide +kernel
theorem d_M_get_217 : decode (xMc m_M_get) 217 = .ok (.getfield 19, 3) := by decide +kernel
theorem d_M_get_220 : decode (xMc m_M_get) 220 = .ok (.iload_n 1, 1) := by decide +kernel
theorem d_M_get_221 : decode (xMc m_M_get) 221 = .ok (.iload 8, 2) := by decide +kernel
theorem d_M_get_223 : decode (xMc m_M_get) 223 = .ok (.iastore, 1) := by decide +kernel
theorem d_M_get_224 : decode (xMc m_M_get) 224 = .ok (.aload_n 0, 1) := by decide +kernel
theorem d_M_get_225 : decode (xMc m_M_get) 225 = .ok (.getfield 22, 3) := by decide +kernel
theorem d_M_get_228 : decode (xMc m_M_get) 228 = .ok (.iload_n 1, 1) := by decide +kernel
theorem d_M_get_229 : decode (xMc m_M_get) 229 = .ok (.aload_n 0, 1) := by decide +kernel
theorem d_M_get_230 : decode (xMc m_M_get) 230 = .ok (.iload 8, 2) := by decide +kernel
theorem d_M_get_232 : decode (xMc m_M_get) 232 = .ok (.invokevirtual 157, 3) := by decide +kernel
theorem d_M_get_235 : decode (xMc m_M_get) 235 = .ok (.iastore, 1) := by decide +kernel
theorem d_M_get_236 : decode (xMc m_M_get) 236 = .ok (.return_, 1) := by decide +kernel
theorem d_M_mapsDone_0 : decode (xMc m_M_mapsDone) 0 = .ok (.iconst 0, 1) := by decide +kernel
theorem d_M_mapsDone_1 : decode (xMc m_M_mapsDone) 1 = .ok (.istore_n 1, 1) := by decide +kernel
theorem d_M_mapsDone_2 : decode (xMc m_M_mapsDone) 2 = .ok (.iload_n 1, 1) := by decide +kernel
theorem d_M_mapsDone_3 : decode (xMc m_M_mapsDone) 3 = .ok (.aload_n 0, 1) := by decide +kernel
theorem d_M_mapsDone_4 : decode (xMc m_M_mapsDone) 4 = .ok (.getfield 79, 3) := by decide +kernel
theorem d_M_mapsDone_7 : decode (xMc m_M_mapsDone) 7 = .ok (.if_icmp .ge 20, 3) := by decide +kernel
theorem d_M_mapsDone_10 : decode (xMc m_M_mapsDone) 10 = .ok (.aload_n 0, 1) := by decide +kernel
theorem d_M_mapsDone_11 : decode (xMc m_M_mapsDone) 11 = .ok (.getfield 32, 3) := by decide +kernel
theorem d_M_mapsDone_14 : decode (xMc m_M_mapsDone) 14 = .ok (.iload_n 1, 1) := by decide +kernel
theorem d_M_mapsDone_15 : decode (xMc m_M_mapsDone) 15 = .ok (.baload, 1) := by decide +kernel
theorem d_M_mapsDone_16 : decode (xMc m_M_mapsDone) 16 = .ok (.ifCond .ne 5, 3) := by decide +kernel
theorem d_M_mapsDone_19 : decode (xMc m_M_mapsDone) 19 = .ok (.iconst 0, 1) := by decide +kernel
theorem d_M_mapsDone_20 : decode (xMc m_M_mapsDone) 20 = .ok (.ireturn, 1) := by decide +kernel
theorem d_M_mapsDone_21 : decode (xMc m_M_mapsDone) 21 = .ok (.iinc 1 1, 3) := by decide +kernel
theorem d_M_mapsDone_24 : decode (xMc m_M_mapsDone) 24 = .ok (.goto (-22), 3) := by decide +kernel
theorem d_M_mapsDone_27 : decode (xMc m_M_mapsDone) 27 = .ok (.iconst 1, 1) := by decide +kernel
theorem d_M_mapsDone_28 : decode (xMc m_M_mapsDone) 28 = .ok (.ireturn, 1) := by decide +kernel
theorem d_M_readable_0 : decode (xMc m_M_readable) 0 = .ok (.iload_n 1, 1) := by decide +kernel
theorem d_M_readable_1 : decode (xMc m_M_readable) 1 = .ok (.bipush 8, 2) := by decide +kernel
theorem d_M_readable_3 : decode (xMc m_M_readable) 3 = .ok (.if_icmp .ge 27, 3) := by decide +kernel
theorem d_M_readable_6 : decode (xMc m_M_readable) 6 = .ok (.aload_n 0, 1) := by decide +kernel
theorem d_M_readable_7 : decode (xMc m_M_readable) 7 = .ok (.getfield 28, 3) := by decide +kernel
theorem d_M_readable_10 : decode (xMc m_M_readable) 10 = .ok (.iload_n 1, 1) := by decide +kernel
theorem d_M_readable_11 : decode (xMc m_M_readable) 11 = .ok (.iconst 4, 1) := by decide +kernel
theorem d_M_readable_12 : decode (xMc m_M_readable) 12 = .ok (.irem, 1) := by decide +kernel
theorem d_M_readable_13 : decode (xMc m_M_readable) 13 = .ok (.baload, 1) := by decide +kernel
theorem d_M_readable_14 : decode (xMc m_M_readable) 14 = .ok (.ifCond .ne 16, 3) := by decide +kernel
theorem d_M_readable_17 : decode (xMc m_M_readable) 17 = .ok (.aload_n 0, 1) := by decide +kernel
theorem d_M_readable_18 : decode (xMc m_M_readable) 18 = .ok (.getfield 28, 3) := by decide +kernel
theorem d_M_readable_21 : decode (xMc m_M_readable) 21 = .ok (.iload_n 1, 1) := by decide +kernel
theorem d_M_readable_22 : decode (xMc m_M_readable) 22 = .ok (.iconst 1, 1) := by decide +kernel
theorem d_M_readable_23 : decode (xMc m_M_readable) 23 = .ok (.iadd, 1) := by decide +kernel
theorem d_M_readable_24 : decode (xMc m_M_readable) 24 = .ok (.iconst 4, 1) := by decide +kernel
theorem d_M_readable_25 : decode (xMc m_M_readable) 25 = .ok (.irem, 1) := by decide +kernel
theorem d_M_readable_26 : decode (xMc m_M_readable) 26 = .ok (.baload, 1) := by decide +kernel
theorem d_M_readable_27 : decode (xMc m_M_readable) 27 = .ok (.ifCond .eq 7, 3) := by decide +kernel
theorem d_M_readable_30 : decode (xMc m_M_readable) 30 = .ok (.iconst 1, 1) := by decide +kernel
theorem d_M_readable_31 : decode (xMc m_M_readable) 31 = .ok (.goto 4, 3) := by decide +kernel
theorem d_M_readable_34 : decode (xMc m_M_readable) 34 = .ok (.iconst 0, 1) := by decide +kernel
theorem d_M_readable_35 : decode (xMc m_M_readable) 35 = .ok (.ireturn, 1) := by decide +kernel
theorem d_M_doing_0 : decode (xMc m_M_doing) 0 = .ok (.iconst 0, 1) := by decide +kernel
theorem d_M_doing_1 : decode (xMc m_M_doing) 1 = .ok (.istore_n 2, 1) := by decide +kernel
theorem d_M_doing_2 : decode (xMc m_M_doing) 2 = .ok (.iconst 0, 1) := by decide +kernel
theorem d_M_doing_3 : decode (xMc m_M_doing) 3 = .ok (.istore_n 3, 1) := by decide +kernel
theorem d_M_doing_4 : decode (xMc m_M_doing) 4 = .ok (.iload_n 3, 1) := by decide +kernel
theorem d_M_doing_5 : decode (xMc m_M_doing) 5 = .ok (.iconst 4, 1) := by decide +kernel
theorem d_M_doing_6 : decode (xMc m_M_doing) 6 = .ok (.if_icmp .ge 22, 3) := by decide +kernel
theorem d_M_doing_9 : decode (xMc m_M_doing) 9 = .ok (.aload_n 0, 1) := by decide +kernel
theorem d_M_doing_10 : decode (xMc m_M_doing) 10 = .ok (.getfield 19, 3) := by decide +kernel
theorem d_M_doing_13 : decode (xMc m_M_doing) 13 = .ok (.iload_n 3, 1) := by decide +kernel
theorem d_M_doing_14 : decode (xMc m_M_doing) 14 = .ok (.iaload, 1) := by decide +kernel
theorem d_M_doing_15 : decode (xMc m_M_doing) 15 = .ok (.iload_n 1, 1) := by decide +kernel
theorem d_M_doing_16 : decode (xMc m_M_doing) 16 = .ok (.if_icmp .ne 6, 3) := by decide +kernel
theorem d_M_doing_19 : decode (xMc m_M_doing) 19 = .ok (.iinc 2 1, 3) := by decide +kernel
theorem d_M_doing_22 : decode (xMc m_M_doing) 22 = .ok (.iinc 3 1, 3) := by decide +kernel
theorem d_M_doing_25 : decode (xMc m_M_doing) 25 = .ok (.goto (-21), 3) := by decide +kernel
theorem d_M_doing_28 : decode (xMc m_M_doing) 28 = .ok (.iload_n 2, 1) := by decide +kernel
theorem d_M_doing_29 : decode (xMc m_M_doing) 29 = .ok (.ireturn, 1) := by decide +kernel
theorem d_M_leftOf_0 : decode (xMc m_M_leftOf) 0 = .ok (.iconst 0, 1) := by decide +kernel
theorem d_M_leftOf_1 : decode (xMc m_M_leftOf) 1 = .ok (.istore_n 2, 1) := by decide +kernel
theorem d_M_leftOf_2 : decode (xMc m_M_leftOf) 2 = .ok (.iload_n 2, 1) := by decide +kernel
theorem d_M_leftOf_3 : decode (xMc m_M_leftOf) 3 = .ok (.iconst 4, 1) := by decide +kernel
theorem d_M_leftOf_4 : decode (xMc m_M_leftOf) 4 = .ok (.if_icmp .ge 26, 3) := by decide +kernel
theorem d_M_leftOf_7 : decode (xMc m_M_leftOf) 7 = .ok (.aload_n 0, 1) := by decide +kernel
theorem d_M_leftOf_8 : decode (xMc m_M_leftOf) 8 = .ok (.getfield 19, 3) := by decide +kernel
theorem d_M_leftOf_11 : decode (xMc m_M_leftOf) 11 = .ok (.iload_n 2, 1) := by decide +kernel
theorem d_M_leftOf_12 : decode (xMc m_M_leftOf) 12 = .ok (.iaload, 1) := by decide +kernel
theorem d_M_leftOf_13 : decode (xMc m_M_leftOf) 13 = .ok (.iload_n 1, 1) := by decide +kernel
theorem d_M_leftOf_14 : decode (xMc m_M_leftOf) 14 = .ok (.if_icmp .ne 10, 3) := by decide +kernel
theorem d_M_leftOf_17 : decode (xMc m_M_leftOf) 17 = .ok (.aload_n 0, 1) := by decide +kernel
theorem d_M_leftOf_18 : decode (xMc m_M_leftOf) 18 = .ok (.getfield 22, 3) := by decide +kernel
theorem d_M_leftOf_21 : decode (xMc m_M_leftOf) 21 = .ok (.iload_n 2, 1) := by decide +kernel
theorem d_M_leftOf_22 : decode (xMc m_M_leftOf) 22 = .ok (.iaload, 1) := by decide +kernel
theorem d_M_leftOf_23 : decode (xMc m_M_leftOf) 23 = .ok (.ireturn, 1) := by decide +kernel
theorem d_M_leftOf_24 : decode (xMc m_M_leftOf) 24 = .ok (.iinc 2 1, 3) := by decide +kernel
theorem d_M_leftOf_27 : decode (xMc m_M_leftOf) 27 = .ok (.goto (-25), 3) := by decide +kernel
theorem d_M_leftOf_30 : decode (xMc m_M_leftOf) 30 = .ok (.iconst 0, 1) := by decide +kernel
theorem d_M_leftOf_31 : decode (xMc m_M_leftOf) 31 = .ok (.ireturn, 1) := by decide +kernel
theorem d_M_needs_0 : decode (xMc m_M_needs) 0 = .ok (.iload_n 1, 1) := by decide +kernel
theorem d_M_needs_1 : decode (xMc m_M_needs) 1 = .ok (.bipush 8, 2) := by decide +kernel
theorem d_M_needs_3 : decode (xMc m_M_needs) 3 = .ok (.if_icmp .ge 20, 3) := by decide +kernel
theorem d_M_needs_6 : decode (xMc m_M_needs) 6 = .ok (.iconst 2, 1) := by decide +kernel
theorem d_M_needs_7 : decode (xMc m_M_needs) 7 = .ok (.aload_n 0, 1) := by decide +kernel
theorem d_M_needs_8 : decode (xMc m_M_needs) 8 = .ok (.getfield 7, 3) := by decide +kernel
theorem d_M_needs_11 : decode (xMc m_M_needs) 11 = .ok (.iload_n 1, 1) := by decide +kernel
theorem d_M_needs_12 : decode (xMc m_M_needs) 12 = .ok (.iaload, 1) := by decide +kernel
theorem d_M_needs_13 : decode (xMc m_M_needs) 13 = .ok (.imul, 1) := by decide +kernel
theorem d_M_needs_14 : decode (xMc m_M_needs) 14 = .ok (.aload_n 0, 1) := by decide +kernel
theorem d_M_needs_15 : decode (xMc m_M_needs) 15 = .ok (.iload_n 1, 1) := by decide +kernel
theorem d_M_needs_16 : decode (xMc m_M_needs) 16 = .ok (.invokevirtual 134, 3) := by decide +kernel
theorem d_M_needs_19 : decode (xMc m_M_needs) 19 = .ok (.iadd, 1) := by decide +kernel
theorem d_M_needs_20 : decode (xMc m_M_needs) 20 = .ok (.goto 13, 3) := by decide +kernel
theorem d_M_needs_23 : decode (xMc m_M_needs) 23 = .ok (.iconst 1, 1) := by decide +kernel
theorem d_M_needs_24 : decode (xMc m_M_needs) 24 = .ok (.aload_n 0, 1) := by decide +kernel
theorem d_M_needs_25 : decode (xMc m_M_needs) 25 = .ok (.iload_n 1, 1) := by decide +kernel
theorem d_M_needs_26 : decode (xMc m_M_needs) 26 = .ok (.bipush 8, 2) := by decide +kernel
theorem d_M_needs_28 : decode (xMc m_M_needs) 28 = .ok (.isub, 1) := by decide +kernel
theorem d_M_needs_29 : decode (xMc m_M_needs) 29 = .ok (.invokevirtual 137, 3) := by decide +kernel
theorem d_M_needs_32 : decode (xMc m_M_needs) 32 = .ok (.iadd, 1) := by decide +kernel
theorem d_M_needs_33 : decode (xMc m_M_needs) 33 = .ok (.ireturn, 1) := by decide +kernel
theorem d_M_runs_0 : decode (xMc m_M_runs) 0 = .ok (.aload_n 0, 1) := by decide +kernel
theorem d_M_runs_1 : decode (xMc m_M_runs) 1 = .ok (.getfield 44, 3) := by decide +kernel
theorem d_M_runs_4 : decode (xMc m_M_runs) 4 = .ok (.iload_n 1, 1) := by decide +kernel
theorem d_M_runs_5 : decode (xMc m_M_runs) 5 = .ok (.iaload, 1) := by decide +kernel
theorem d_M_runs_6 : decode (xMc m_M_runs) 6 = .ok (.aload_n 0, 1) := by decide +kernel
theorem d_M_runs_7 : decode (xMc m_M_runs) 7 = .ok (.getfield 125, 3) := by decide +kernel
theorem d_M_runs_10 : decode (xMc m_M_runs) 10 = .ok (.iadd, 1) := by decide +kernel
theorem d_M_runs_11 : decode (xMc m_M_runs) 11 = .ok (.iconst 1, 1) := by decide +kernel
theorem d_M_runs_12 : decode (xMc m_M_runs) 12 = .ok (.isub, 1) := by decide +kernel
theorem d_M_runs_13 : decode (xMc m_M_runs) 13 = .ok (.aload_n 0, 1) := by decide +kernel
theorem d_M_runs_14 : decode (xMc m_M_runs) 14 = .ok (.getfield 125, 3) := by decide +kernel
theorem d_M_runs_17 : decode (xMc m_M_runs) 17 = .ok (.idiv, 1) := by decide +kernel
theorem d_M_runs_18 : decode (xMc m_M_runs) 18 = .ok (.ireturn, 1) := by decide +kernel
theorem d_M_pairsOf_0 : decode (xMc m_M_pairsOf) 0 = .ok (.iconst 0, 1) := by decide +kernel
theorem d_M_pairsOf_1 : decode (xMc m_M_pairsOf) 1 = .ok (.istore_n 2, 1) := by decide +kernel
theorem d_M_pairsOf_2 : decode (xMc m_M_pairsOf) 2 = .ok (.iconst 0, 1) := by decide +kernel
theorem d_M_pairsOf_3 : decode (xMc m_M_pairsOf) 3 = .ok (.istore_n 3, 1) := by decide +kernel
theorem d_M_pairsOf_4 : decode (xMc m_M_pairsOf) 4 = .ok (.iload_n 3, 1) := by decide +kernel
theorem d_M_pairsOf_5 : decode (xMc m_M_pairsOf) 5 = .ok (.aload_n 0, 1) := by decide +kernel
theorem d_M_pairsOf_6 : decode (xMc m_M_pairsOf) 6 = .ok (.getfield 86, 3) := by decide +kernel
theorem d_M_pairsOf_9 : decode (xMc m_M_pairsOf) 9 = .ok (.if_icmp .ge 29, 3) := by decide +kernel
theorem d_M_pairsOf_12 : decode (xMc m_M_pairsOf) 12 = .ok (.aload_n 0, 1) := by decide +kernel
theorem d_M_pairsOf_13 : decode (xMc m_M_pairsOf) 13 = .ok (.getfield 38, 3) := by decide +kernel
theorem d_M_pairsOf_16 : decode (xMc m_M_pairsOf) 16 = .ok (.iload_n 3, 1) := by decide +kernel
theorem d_M_pairsOf_17 : decode (xMc m_M_pairsOf) 17 = .ok (.iaload, 1) := by decide +kernel
theorem d_M_pairsOf_18 : decode (xMc m_M_pairsOf) 18 = .ok (.aload_n 0, 1) := by decide +kernel
theorem d_M_pairsOf_19 : decode (xMc m_M_pairsOf) 19 = .ok (.getfield 103, 3) := by decide +kernel
theorem d_M_pairsOf_22 : decode (xMc m_M_pairsOf) 22 = .ok (.invokestatic 89, 3) := by decide +kernel
theorem d_M_pairsOf_25 : decode (xMc m_M_pairsOf) 25 = .ok (.iload_n 1, 1) := by decide +kernel
theorem d_M_pairsOf_26 : decode (xMc m_M_pairsOf) 26 = .ok (.if_icmp .ne 6, 3) := by decide +kernel
theorem d_M_pairsOf_29 : decode (xMc m_M_pairsOf) 29 = .ok (.iinc 2 1, 3) := by decide +kernel
theorem d_M_pairsOf_32 : decode (xMc m_M_pairsOf) 32 = .ok (.iinc 3 1, 3) := by decide +kernel
theorem d_M_pairsOf_35 : decode (xMc m_M_pairsOf) 35 = .ok (.goto (-31), 3) := by decide +kernel
theorem d_M_pairsOf_38 : decode (xMc m_M_pairsOf) 38 = .ok (.iload_n 2, 1) := by decide +kernel
theorem d_M_pairsOf_39 : decode (xMc m_M_pairsOf) 39 = .ok (.ireturn, 1) := by decide +kernel
theorem d_M_finish_0 : decode (xMc m_M_finish) 0 = .ok (.aload_n 0, 1) := by decide +kernel
theorem d_M_finish_1 : decode (xMc m_M_finish) 1 = .ok (.getfield 19, 3) := by decide +kernel
theorem d_M_finish_4 : decode (xMc m_M_finish) 4 = .ok (.iload_n 1, 1) := by decide +kernel
theorem d_M_finish_5 : decode (xMc m_M_finish) 5 = .ok (.iaload, 1) := by decide +kernel
theorem d_M_finish_6 : decode (xMc m_M_finish) 6 = .ok (.istore_n 2, 1) := by decide +kernel
theorem d_M_finish_7 : decode (xMc m_M_finish) 7 = .ok (.iconst 0, 1) := by decide +kernel
theorem d_M_finish_8 : decode (xMc m_M_finish) 8 = .ok (.istore_n 3, 1) := by decide +kernel
theorem d_M_finish_9 : decode (xMc m_M_finish) 9 = .ok (.iload_n 3, 1) := by decide +kernel
theorem d_M_finish_10 : decode (xMc m_M_finish) 10 = .ok (.iconst 4, 1) := by decide +kernel
theorem d_M_finish_11 : decode (xMc m_M_finish) 11 = .ok (.if_icmp .ge 36, 3) := by decide +kernel
theorem d_M_finish_14 : decode (xMc m_M_finish) 14 = .ok (.aload_n 0, 1) := by decide +kernel
theorem d_M_finish_15 : decode (xMc m_M_finish) 15 = .ok (.getfield 19, 3) := by decide +kernel
theorem d_M_finish_18 : decode (xMc m_M_finish) 18 = .ok (.iload_n 3, 1) := by decide +kernel
theorem d_M_finish_19 : decode (xMc m_M_finish) 19 = .ok (.iaload, 1) := by decide +kernel
theorem d_M_finish_20 : decode (xMc m_M_finish) 20 = .ok (.iload_n 2, 1) := by decide +kernel
theorem d_M_finish_21 : decode (xMc m_M_finish) 21 = .ok (.if_icmp .eq 6, 3) := by decide +kernel
theorem d_M_finish_24 : decode (xMc m_M_finish) 24 = .ok (.goto 17, 3) := by decide +kernel
theorem d_M_finish_27 : decode (xMc m_M_finish) 27 = .ok (.aload_n 0, 1) := by decide +kernel
theorem d_M_finish_28 : decode (xMc m_M_finish) 28 = .ok (.getfield 19, 3) := by decide +kernel
theorem d_M_finish_31 : decode (xMc m_M_finish) 31 = .ok (.iload_n 3, 1) := by decide +kernel
theorem d_M_finish_32 : decode (xMc m_M_finish) 32 = .ok (.iconst (-1), 1) := by decide +kernel
theorem d_M_finish_33 : decode (xMc m_M_finish) 33 = .ok (.iastore, 1) := by decide +kernel
theorem d_M_finish_34 : decode (xMc m_M_finish) 34 = .ok (.aload_n 0, 1) := by decide +kernel
theorem d_M_finish_35 : decode (xMc m_M_finish) 35 = .ok (.getfield 22, 3) := by decide +kernel
theorem d_M_finish_38 : decode (xMc m_M_finish) 38 = .ok (.iload_n 3, 1) := by decide +kernel
theorem d_M_finish_39 : decode (xMc m_M_finish) 39 = .ok (.iconst 0, 1) := by decide +kernel
theorem d_M_finish_40 : decode (xMc m_M_finish) 40 = .ok (.iastore, 1) := by decide +kernel
theorem d_M_finish_41 : decode (xMc m_M_finish) 41 = .ok (.iinc 3 1, 3) := by decide +kernel
theorem d_M_finish_44 : decode (xMc m_M_finish) 44 = .ok (.goto (-35), 3) := by decide +kernel
theorem d_M_finish_47 : decode (xMc m_M_finish) 47 = .ok (.aload_n 0, 1) := by decide +kernel
theorem d_M_finish_48 : decode (xMc m_M_finish) 48 = .ok (.getfield 32, 3) := by decide +kernel
theorem d_M_finish_51 : decode (xMc m_M_finish) 51 = .ok (.iload_n 2, 1) := by decide +kernel
theorem d_M_finish_52 : decode (xMc m_M_finish) 52 = .ok (.iconst 1, 1) := by decide +kernel
theorem d_M_finish_53 : decode (xMc m_M_finish) 53 = .ok (.bastore, 1) := by decide +kernel
theorem d_M_finish_54 : decode (xMc m_M_finish) 54 = .ok (.aload_n 0, 1) := by decide +kernel
theorem d_M_finish_55 : decode (xMc m_M_finish) 55 = .ok (.getfield 35, 3) := by decide +kernel
theorem d_M_finish_58 : decode (xMc m_M_finish) 58 = .ok (.iload_n 2, 1) := by decide +kernel
theorem d_M_finish_59 : decode (xMc m_M_finish) 59 = .ok (.iload_n 1, 1) := by decide +kernel
theorem d_M_finish_60 : decode (xMc m_M_finish) 60 = .ok (.iastore, 1) := by decide +kernel
theorem d_M_finish_61 : decode (xMc m_M_finish) 61 = .ok (.iload_n 2, 1) := by decide +kernel
theorem d_M_finish_62 : decode (xMc m_M_finish) 62 = .ok (.bipush 8, 2) := by decide +kernel
theorem d_M_finish_64 : decode (xMc m_M_finish) 64 = .ok (.if_icmp .ge 4, 3) := by decide +kernel
theorem d_M_finish_67 : decode (xMc m_M_finish) 67 = .ok (.return_, 1) := by decide +kernel
theorem d_M_finish_68 : decode (xMc m_M_finish) 68 = .ok (.aload_n 0, 1) := by decide +kernel
theorem d_M_finish_69 : decode (xMc m_M_finish) 69 = .ok (.iload_n 2, 1) := by decide +kernel
theorem d_M_finish_70 : decode (xMc m_M_finish) 70 = .ok (.bipush 8, 2) := by decide +kernel
theorem d_M_finish_72 : decode (xMc m_M_finish) 72 = .ok (.isub, 1) := by decide +kernel
theorem d_M_finish_73 : decode (xMc m_M_finish) 73 = .ok (.iconst 0, 1) := by decide +kernel
theorem d_M_finish_74 : decode (xMc m_M_finish) 74 = .ok (.invokevirtual 160, 3) := by decide +kernel
theorem d_M_finish_77 : decode (xMc m_M_finish) 77 = .ok (.ifCond .lt 10, 3) := by decide +kernel
theorem d_M_finish_80 : decode (xMc m_M_finish) 80 = .ok (.aload_n 0, 1) := by decide +kernel
theorem d_M_finish_81 : decode (xMc m_M_finish) 81 = .ok (.getfield 64, 3) := by decide +kernel
theorem d_M_finish_84 : decode (xMc m_M_finish) 84 = .ok (.ifCond .le 13, 3) := by decide +kernel
theorem d_M_finish_87 : decode (xMc m_M_finish) 87 = .ok (.aload_n 0, 1) := by decide +kernel
theorem d_M_finish_88 : decode (xMc m_M_finish) 88 = .ok (.iconst 0, 1) := by decide +kernel
theorem d_M_finish_89 : decode (xMc m_M_finish) 89 = .ok (.putfield 75, 3) := by decide +kernel
theorem d_M_finish_92 : decode (xMc m_M_finish) 92 = .ok (.aload_n 0, 1) := by decide +kernel
theorem d_M_finish_93 : decode (xMc m_M_finish) 93 = .ok (.iconst 0, 1) := by decide +kernel
theorem d_M_finish_94 : decode (xMc m_M_finish) 94 = .ok (.invokevirtual 121, 3) := by decide +kernel
theorem d_M_finish_97 : decode (xMc m_M_finish) 97 = .ok (.return_, 1) := by decide +kernel
theorem d_M_reduce_0 : decode (xMc m_M_reduce) 0 = .ok (.iconst 0, 1) := by decide +kernel
theorem d_M_reduce_1 : decode (xMc m_M_reduce) 1 = .ok (.istore_n 3, 1) := by decide +kernel
theorem d_M_reduce_2 : decode (xMc m_M_reduce) 2 = .ok (.iconst 0, 1) := by decide +kernel
theorem d_M_reduce_3 : decode (xMc m_M_reduce) 3 = .ok (.istore 4, 2) := by decide +kernel
theorem d_M_reduce_5 : decode (xMc m_M_reduce) 5 = .ok (.iload 4, 2) := by decide +kernel
theorem d_M_reduce_7 : decode (xMc m_M_reduce) 7 = .ok (.aload_n 0, 1) := by decide +kernel
theorem d_M_reduce_8 : decode (xMc m_M_reduce) 8 = .ok (.getfield 86, 3) := by decide +kernel
theorem d_M_reduce_11 : decode (xMc m_M_reduce) 11 = .ok (.if_icmp .ge 124, 3) := by decide +kernel
theorem d_M_reduce_14 : decode (xMc m_M_reduce) 14 = .ok (.aload_n 0, 1) := by decide +kernel
theorem d_M_reduce_15 : decode (xMc m_M_reduce) 15 = .ok (.getfield 64, 3) := by decide +kernel
theorem d_M_reduce_18 : decode (xMc m_M_reduce) 18 = .ok (.ifCond .ne 117, 3) := by decide +kernel
theorem d_M_reduce_21 : decode (xMc m_M_reduce) 21 = .ok (.iload 4, 2) := by decide +kernel
theorem d_M_reduce_23 : decode (xMc m_M_reduce) 23 = .ok (.ifCond .le 22, 3) := by decide +kernel
theorem d_M_reduce_26 : decode (xMc m_M_reduce) 26 = .ok (.aload_n 0, 1) := by decide +kernel
theorem d_M_reduce_27 : decode (xMc m_M_reduce) 27 = .ok (.getfield 38, 3) := by decide +kernel
theorem d_M_reduce_30 : decode (xMc m_M_reduce) 30 = .ok (.iload 4, 2) := by decide +kernel
theorem d_M_reduce_32 : decode (xMc m_M_reduce) 32 = .ok (.iconst 1, 1) := by decide +kernel
theorem d_M_reduce_33 : decode (xMc m_M_reduce) 33 = .ok (.isub, 1) := by decide +kernel
theorem d_M_reduce_34 : decode (xMc m_M_reduce) 34 = .ok (.iaload, 1) := by decide +kernel
theorem d_M_reduce_35 : decode (xMc m_M_reduce) 35 = .ok (.aload_n 0, 1) := by decide +kernel
theorem d_M_reduce_36 : decode (xMc m_M_reduce) 36 = .ok (.getfield 38, 3) := by decide +kernel
theorem d_M_reduce_39 : decode (xMc m_M_reduce) 39 = .ok (.iload 4, 2) := by decide +kernel
theorem d_M_reduce_41 : decode (xMc m_M_reduce) 41 = .ok (.iaload, 1) := by decide +kernel
theorem d_M_reduce_42 : decode (xMc m_M_reduce) 42 = .ok (.if_icmp .eq 87, 3) := by decide +kernel
theorem d_M_reduce_45 : decode (xMc m_M_reduce) 45 = .ok (.aload_n 0, 1) := by decide +kernel
theorem d_M_reduce_46 : decode (xMc m_M_reduce) 46 = .ok (.getfield 38, 3) := by decide +kernel
theorem d_M_reduce_49 : decode (xMc m_M_reduce) 49 = .ok (.iload 4, 2) := by decide +kernel
theorem d_M_reduce_51 : decode (xMc m_M_reduce) 51 = .ok (.iaload, 1) := by decide +kernel
theorem d_M_reduce_52 : decode (xMc m_M_reduce) 52 = .ok (.aload_n 0, 1) := by decide +kernel
theorem d_M_reduce_53 : decode (xMc m_M_reduce) 53 = .ok (.getfield 103, 3) := by decide +kernel
theorem d_M_reduce_56 : decode (xMc m_M_reduce) 56 = .ok (.invokestatic 89, 3) := by decide +kernel
theorem d_M_reduce_59 : decode (xMc m_M_reduce) 59 = .ok (.iload_n 1, 1) := by decide +kernel
theorem d_M_reduce_60 : decode (xMc m_M_reduce) 60 = .ok (.if_icmp .eq 6, 3) := by decide +kernel
theorem d_M_reduce_63 : decode (xMc m_M_reduce) 63 = .ok (.goto 66, 3) := by decide +kernel
theorem d_M_reduce_66 : decode (xMc m_M_reduce) 66 = .ok (.aload_n 0, 1) := by decide +kernel
theorem d_M_reduce_67 : decode (xMc m_M_reduce) 67 = .ok (.iload 4, 2) := by decide +kernel
theorem d_M_reduce_69 : decode (xMc m_M_reduce) 69 = .ok (.invokevirtual 115, 3) := by decide +kernel
theorem d_M_reduce_72 : decode (xMc m_M_reduce) 72 = .ok (.istore 5, 2) := by decide +kernel
theorem d_M_reduce_74 : decode (xMc m_M_reduce) 74 = .ok (.aload_n 0, 1) := by decide +kernel
theorem d_M_reduce_75 : decode (xMc m_M_reduce) 75 = .ok (.getfield 112, 3) := by decide +kernel
theorem d_M_reduce_78 : decode (xMc m_M_reduce) 78 = .ok (.ifCond .eq 51, 3) := by decide +kernel
theorem d_M_reduce_81 : decode (xMc m_M_reduce) 81 = .ok (.aload_n 0, 1) := by decide +kernel
theorem d_M_reduce_82 : decode (xMc m_M_reduce) 82 = .ok (.getfield 64, 3) := by decide +kernel
theorem d_M_reduce_85 : decode (xMc m_M_reduce) 85 = .ok (.ifCond .le 6, 3) := by decide +kernel
theorem d_M_reduce_88 : decode (xMc m_M_reduce) 88 = .ok (.goto 41, 3) := by decide +kernel
theorem d_M_reduce_91 : decode (xMc m_M_reduce) 91 = .ok (.iload_n 2, 1) := by decide +kernel
theorem d_M_reduce_92 : decode (xMc m_M_reduce) 92 = .ok (.ifCond .eq 34, 3) := by decide +kernel
theorem d_M_reduce_95 : decode (xMc m_M_reduce) 95 = .ok (.aload_n 0, 1) := by decide +kernel
theorem d_M_reduce_96 : decode (xMc m_M_reduce) 96 = .ok (.getfield 55, 3) := by decide +kernel
theorem d_M_reduce_99 : decode (xMc m_M_reduce) 99 = .ok (.iload_n 1, 1) := by decide +kernel
theorem d_M_reduce_100 : decode (xMc m_M_reduce) 100 = .ok (.bipush 100, 2) := by decide +kernel
theorem d_M_reduce_102 : decode (xMc m_M_reduce) 102 = .ok (.imul, 1) := by decide +kernel
theorem d_M_reduce_103 : decode (xMc m_M_reduce) 103 = .ok (.iload_n 3, 1) := by decide +kernel
theorem d_M_reduce_104 : decode (xMc m_M_reduce) 104 = .ok (.iadd, 1) := by decide +kernel
theorem d_M_reduce_105 : decode (xMc m_M_reduce) 105 = .ok (.aload_n 0, 1) := by decide +kernel
theorem d_M_reduce_106 : decode (xMc m_M_reduce) 106 = .ok (.getfield 38, 3) := by decide +kernel
theorem d_M_reduce_109 : decode (xMc m_M_reduce) 109 = .ok (.iload 4, 2) := by decide +kernel
theorem d_M_reduce_111 : decode (xMc m_M_reduce) 111 = .ok (.iaload, 1) := by decide +kernel
theorem d_M_reduce_112 : decode (xMc m_M_reduce) 112 = .ok (.iastore, 1) := by decide +kernel
theorem d_M_reduce_113 : decode (xMc m_M_reduce) 113 = .ok (.aload_n 0, 1) := by decide +kernel
theorem d_M_reduce_114 : decode (xMc m_M_reduce) 114 = .ok (.getfield 58, 3) := by decide +kernel
theorem d_M_reduce_117 : decode (xMc m_M_reduce) 117 = .ok (.iload_n 1, 1) := by decide +kernel
theorem d_M_reduce_118 : decode (xMc m_M_reduce) 118 = .ok (.bipush 100, 2) := by decide +kernel
theorem d_M_reduce_120 : decode (xMc m_M_reduce) 120 = .ok (.imul, 1) := by decide +kernel
theorem d_M_reduce_121 : decode (xMc m_M_reduce) 121 = .ok (.iload_n 3, 1) := by decide +kernel
theorem d_M_reduce_122 : decode (xMc m_M_reduce) 122 = .ok (.iadd, 1) := by decide +kernel
theorem d_M_reduce_123 : decode (xMc m_M_reduce) 123 = .ok (.iload 5, 2) := by decide +kernel
theorem d_M_reduce_125 : decode (xMc m_M_reduce) 125 = .ok (.iastore, 1) := by decide +kernel
theorem d_M_reduce_126 : decode (xMc m_M_reduce) 126 = .ok (.iinc 3 1, 3) := by decide +kernel
theorem d_M_reduce_129 : decode (xMc m_M_reduce) 129 = .ok (.iinc 4 1, 3) := by decide +kernel
theorem d_M_reduce_132 : decode (xMc m_M_reduce) 132 = .ok (.goto (-127), 3) := by decide +kernel
theorem d_M_reduce_135 : decode (xMc m_M_reduce) 135 = .ok (.iload_n 3, 1) := by decide +kernel
theorem d_M_reduce_136 : decode (xMc m_M_reduce) 136 = .ok (.ireturn, 1) := by decide +kernel
theorem d_M_reduced_0 : decode (xMc m_M_reduced) 0 = .ok (.iconst 0, 1) := by decide +kernel
theorem d_M_reduced_1 : decode (xMc m_M_reduced) 1 = .ok (.istore_n 2, 1) := by decide +kernel
theorem d_M_reduced_2 : decode (xMc m_M_reduced) 2 = .ok (.iconst 0, 1) := by decide +kernel
theorem d_M_reduced_3 : decode (xMc m_M_reduced) 3 = .ok (.istore_n 3, 1) := by decide +kernel
theorem d_M_reduced_4 : decode (xMc m_M_reduced) 4 = .ok (.iload_n 1, 1) := by decide +kernel
theorem d_M_reduced_5 : decode (xMc m_M_reduced) 5 = .ok (.istore 4, 2) := by decide +kernel
theorem d_M_reduced_7 : decode (xMc m_M_reduced) 7 = .ok (.iload 4, 2) := by decide +kernel
theorem d_M_reduced_9 : decode (xMc m_M_reduced) 9 = .ok (.aload_n 0, 1) := by decide +kernel
theorem d_M_reduced_10 : decode (xMc m_M_reduced) 10 = .ok (.getfield 86, 3) := by decide +kernel
theorem d_M_reduced_13 : decode (xMc m_M_reduced) 13 = .ok (.if_icmp .ge 168, 3) := by decide +kernel
theorem d_M_reduced_16 : decode (xMc m_M_reduced) 16 = .ok (.aload_n 0, 1) := by decide +kernel
theorem d_M_reduced_17 : decode (xMc m_M_reduced) 17 = .ok (.getfield 38, 3) := by decide +kernel
theorem d_M_reduced_20 : decode (xMc m_M_reduced) 20 = .ok (.iload 4, 2) := by decide +kernel
theorem d_M_reduced_22 : decode (xMc m_M_reduced) 22 = .ok (.iaload, 1) := by decide +kernel
theorem d_M_reduced_23 : decode (xMc m_M_reduced) 23 = .ok (.aload_n 0, 1) := by decide +kernel
theorem d_M_reduced_24 : decode (xMc m_M_reduced) 24 = .ok (.getfield 38, 3) := by decide +kernel
theorem d_M_reduced_27 : decode (xMc m_M_reduced) 27 = .ok (.iload_n 1, 1) := by decide +kernel
theorem d_M_reduced_28 : decode (xMc m_M_reduced) 28 = .ok (.iaload, 1) := by decide +kernel
theorem d_M_reduced_29 : decode (xMc m_M_reduced) 29 = .ok (.if_icmp .ne 152, 3) := by decide +kernel
theorem d_M_reduced_32 : decode (xMc m_M_reduced) 32 = .ok (.aload_n 0, 1) := by decide +kernel
theorem d_M_reduced_33 : decode (xMc m_M_reduced) 33 = .ok (.getfield 64, 3) := by decide +kernel
theorem d_M_reduced_36 : decode (xMc m_M_reduced) 36 = .ok (.ifCond .ne 145, 3) := by decide +kernel
theorem d_M_reduced_39 : decode (xMc m_M_reduced) 39 = .ok (.aload_n 0, 1) := by decide +kernel
theorem d_M_reduced_40 : decode (xMc m_M_reduced) 40 = .ok (.getfield 41, 3) := by decide +kernel
theorem d_M_reduced_43 : decode (xMc m_M_reduced) 43 = .ok (.iload 4, 2) := by decide +kernel
theorem d_M_reduced_45 : decode (xMc m_M_reduced) 45 = .ok (.iaload, 1) := by decide +kernel
theorem d_M_reduced_46 : decode (xMc m_M_reduced) 46 = .ok (.istore 5, 2) := by decide +kernel
theorem d_M_reduced_48 : decode (xMc m_M_reduced) 48 = .ok (.iload 5, 2) := by decide +kernel
theorem d_M_reduced_50 : decode (xMc m_M_reduced) 50 = .ok (.aload_n 0, 1) := by decide +kernel
theorem d_M_reduced_51 : decode (xMc m_M_reduced) 51 = .ok (.getfield 106, 3) := by decide +kernel
theorem d_M_reduced_54 : decode (xMc m_M_reduced) 54 = .ok (.if_icmp .ge 6, 3) := by decide +kernel
theorem d_M_reduced_57 : decode (xMc m_M_reduced) 57 = .ok (.goto 118, 3) := by decide +kernel
theorem d_M_reduced_60 : decode (xMc m_M_reduced) 60 = .ok (.aload_n 0, 1) := by decide +kernel
theorem d_M_reduced_61 : decode (xMc m_M_reduced) 61 = .ok (.getfield 109, 3) := by decide +kernel
theorem d_M_reduced_64 : decode (xMc m_M_reduced) 64 = .ok (.ifCond .ne 8, 3) := by decide +kernel
theorem d_M_reduced_67 : decode (xMc m_M_reduced) 67 = .ok (.iload_n 2, 1) := by decide +kernel
theorem d_M_reduced_68 : decode (xMc m_M_reduced) 68 = .ok (.iload 5, 2) := by decide +kernel
theorem d_M_reduced_70 : decode (xMc m_M_reduced) 70 = .ok (.iadd, 1) := by decide +kernel
theorem d_M_reduced_71 : decode (xMc m_M_reduced) 71 = .ok (.istore_n 2, 1) := by decide +kernel
theorem d_M_reduced_72 : decode (xMc m_M_reduced) 72 = .ok (.aload_n 0, 1) := by decide +kernel
theorem d_M_reduced_73 : decode (xMc m_M_reduced) 73 = .ok (.getfield 109, 3) := by decide +kernel
theorem d_M_reduced_76 : decode (xMc m_M_reduced) 76 = .ok (.iconst 1, 1) := by decide +kernel
theorem d_M_reduced_77 : decode (xMc m_M_reduced) 77 = .ok (.if_icmp .ne 7, 3) := by decide +kernel
theorem d_M_reduced_80 : decode (xMc m_M_reduced) 80 = .ok (.iload_n 3, 1) := by decide +kernel
theorem d_M_reduced_81 : decode (xMc m_M_reduced) 81 = .ok (.iconst 1, 1) := by decide +kernel
theorem d_M_reduced_82 : decode (xMc m_M_reduced) 82 = .ok (.iadd, 1) := by decide +kernel
theorem d_M_reduced_83 : decode (xMc m_M_reduced) 83 = .ok (.istore_n 2, 1) := by decide +kernel
theorem d_M_reduced_84 : decode (xMc m_M_reduced) 84 = .ok (.aload_n 0, 1) := by decide +kernel
theorem d_M_reduced_85 : decode (xMc m_M_reduced) 85 = .ok (.getfield 109, 3) := by decide +kernel
theorem d_M_reduced_88 : decode (xMc m_M_reduced) 88 = .ok (.iconst 2, 1) := by decide +kernel
theorem d_M_reduced_89 : decode (xMc m_M_reduced) 89 = .ok (.if_icmp .ne 20, 3) := by decide +kernel
theorem d_M_reduced_92 : decode (xMc m_M_reduced) 92 = .ok (.iload_n 3, 1) := by decide +kernel
theorem d_M_reduced_93 : decode (xMc m_M_reduced) 93 = .ok (.ifCond .eq 9, 3) := by decide +kernel
theorem d_M_reduced_96 : decode (xMc m_M_reduced) 96 = .ok (.iload 5, 2) := by decide +kernel
theorem d_M_reduced_98 : decode (xMc m_M_reduced) 98 = .ok (.iload_n 2, 1) := by decide +kernel
theorem d_M_reduced_99 : decode (xMc m_M_reduced) 99 = .ok (.if_icmp .le 8, 3) := by decide +kernel
theorem d_M_reduced_102 : decode (xMc m_M_reduced) 102 = .ok (.iload 5, 2) := by decide +kernel
theorem d_M_reduced_104 : decode (xMc m_M_reduced) 104 = .ok (.goto 4, 3) := by decide +kernel
theorem d_M_reduced_107 : decode (xMc m_M_reduced) 107 = .ok (.iload_n 2, 1) := by decide +kernel
theorem d_M_reduced_108 : decode (xMc m_M_reduced) 108 = .ok (.istore_n 2, 1) := by decide +kernel
theorem d_M_reduced_109 : decode (xMc m_M_reduced) 109 = .ok (.aload_n 0, 1) := by decide +kernel
theorem d_M_reduced_110 : decode (xMc m_M_reduced) 110 = .ok (.getfield 109, 3) := by decide +kernel
theorem d_M_reduced_113 : decode (xMc m_M_reduced) 113 = .ok (.iconst 3, 1) := by decide +kernel
theorem d_M_reduced_114 : decode (xMc m_M_reduced) 114 = .ok (.if_icmp .ne 11, 3) := by decide +kernel
theorem d_M_reduced_117 : decode (xMc m_M_reduced) 117 = .ok (.iload_n 2, 1) := by decide +kernel
theorem d_M_reduced_118 : decode (xMc m_M_reduced) 118 = .ok (.bipush 31, 2) := by decide +kernel
theorem d_M_reduced_120 : decode (xMc m_M_reduced) 120 = .ok (.imul, 1) := by decide +kernel
theorem d_M_reduced_121 : decode (xMc m_M_reduced) 121 = .ok (.iload 5, 2) := by decide +kernel
theorem d_M_reduced_123 : decode (xMc m_M_reduced) 123 = .ok (.iadd, 1) := by decide +kernel
theorem d_M_reduced_124 : decode (xMc m_M_reduced) 124 = .ok (.istore_n 2, 1) := by decide +kernel
theorem d_M_reduced_125 : decode (xMc m_M_reduced) 125 = .ok (.aload_n 0, 1) := by decide +kernel
theorem d_M_reduced_126 : decode (xMc m_M_reduced) 126 = .ok (.getfield 109, 3) := by decide +kernel
theorem d_M_reduced_129 : decode (xMc m_M_reduced) 129 = .ok (.iconst 4, 1) := by decide +kernel
theorem d_M_reduced_130 : decode (xMc m_M_reduced) 130 = .ok (.if_icmp .ne 20, 3) := by decide +kernel
theorem d_M_reduced_133 : decode (xMc m_M_reduced) 133 = .ok (.iload_n 3, 1) := by decide +kernel
theorem d_M_reduced_134 : decode (xMc m_M_reduced) 134 = .ok (.ifCond .le 16, 3) := by decide +kernel
theorem d_M_reduced_137 : decode (xMc m_M_reduced) 137 = .ok (.iload 5, 2) := by decide +kernel
theorem d_M_reduced_139 : decode (xMc m_M_reduced) 139 = .ok (.ifCond .ne 11, 3) := by decide +kernel
theorem d_M_reduced_142 : decode (xMc m_M_reduced) 142 = .ok (.aload_n 0, 1) := by decide +kernel
theorem d_M_reduced_143 : decode (xMc m_M_reduced) 143 = .ok (.iconst 3, 1) := by decide +kernel
theorem d_M_reduced_144 : decode (xMc m_M_reduced) 144 = .ok (.putfield 64, 3) := by decide +kernel
theorem d_M_reduced_147 : decode (xMc m_M_reduced) 147 = .ok (.goto 25, 3) := by decide +kernel
theorem d_M_reduced_150 : decode (xMc m_M_reduced) 150 = .ok (.aload_n 0, 1) := by decide +kernel
theorem d_M_reduced_151 : decode (xMc m_M_reduced) 151 = .ok (.getfield 109, 3) := by decide +kernel
theorem d_M_reduced_154 : decode (xMc m_M_reduced) 154 = .ok (.iconst 4, 1) := by decide +kernel
theorem d_M_reduced_155 : decode (xMc m_M_reduced) 155 = .ok (.if_icmp .ne 17, 3) := by decide +kernel
theorem d_M_reduced_158 : decode (xMc m_M_reduced) 158 = .ok (.iload_n 3, 1) := by decide +kernel
theorem d_M_reduced_159 : decode (xMc m_M_reduced) 159 = .ok (.ifCond .ne 8, 3) := by decide +kernel
theorem d_M_reduced_162 : decode (xMc m_M_reduced) 162 = .ok (.iload 5, 2) := by decide +kernel
theorem d_M_reduced_164 : decode (xMc m_M_reduced) 164 = .ok (.goto 7, 3) := by decide +kernel
theorem d_M_reduced_167 : decode (xMc m_M_reduced) 167 = .ok (.iload_n 2, 1) := by decide +kernel
theorem d_M_reduced_168 : decode (xMc m_M_reduced) 168 = .ok (.iload 5, 2) := by decide +kernel
theorem d_M_reduced_170 : decode (xMc m_M_reduced) 170 = .ok (.idiv, 1) := by decide +kernel
theorem d_M_reduced_171 : decode (xMc m_M_reduced) 171 = .ok (.istore_n 2, 1) := by decide +kernel
theorem d_M_reduced_172 : decode (xMc m_M_reduced) 172 = .ok (.iinc 3 1, 3) := by decide +kernel
theorem d_M_reduced_175 : decode (xMc m_M_reduced) 175 = .ok (.iinc 4 1, 3) := by decide +kernel
theorem d_M_reduced_178 : decode (xMc m_M_reduced) 178 = .ok (.goto (-171), 3) := by decide +kernel
theorem d_M_reduced_181 : decode (xMc m_M_reduced) 181 = .ok (.aload_n 0, 1) := by decide +kernel
theorem d_M_reduced_182 : decode (xMc m_M_reduced) 182 = .ok (.iload_n 3, 1) := by decide +kernel
theorem d_M_reduced_183 : decode (xMc m_M_reduced) 183 = .ok (.ifCond .le 7, 3) := by decide +kernel
theorem d_M_reduced_186 : decode (xMc m_M_reduced) 186 = .ok (.iconst 1, 1) := by decide +kernel
theorem d_M_reduced_187 : decode (xMc m_M_reduced) 187 = .ok (.goto 4, 3) := by decide +kernel
theorem d_M_reduced_190 : decode (xMc m_M_reduced) 190 = .ok (.iconst 0, 1) := by decide +kernel
theorem d_M_reduced_191 : decode (xMc m_M_reduced) 191 = .ok (.putfield 112, 3) := by decide +kernel
theorem d_M_reduced_194 : decode (xMc m_M_reduced) 194 = .ok (.iload_n 2, 1) := by decide +kernel
theorem d_M_reduced_195 : decode (xMc m_M_reduced) 195 = .ok (.ireturn, 1) := by decide +kernel
theorem d_M_end_0 : decode (xMc m_M_end) 0 = .ok (.aload_n 0, 1) := by decide +kernel
theorem d_M_end_1 : decode (xMc m_M_end) 1 = .ok (.iconst 0, 1) := by decide +kernel
theorem d_M_end_2 : decode (xMc m_M_end) 2 = .ok (.putfield 75, 3) := by decide +kernel
theorem d_M_end_5 : decode (xMc m_M_end) 5 = .ok (.aload_n 0, 1) := by decide +kernel
theorem d_M_end_6 : decode (xMc m_M_end) 6 = .ok (.dup, 1) := by decide +kernel
theorem d_M_end_7 : decode (xMc m_M_end) 7 = .ok (.getfield 164, 3) := by decide +kernel
theorem d_M_end_10 : decode (xMc m_M_end) 10 = .ok (.iconst 1, 1) := by decide +kernel
theorem d_M_end_11 : decode (xMc m_M_end) 11 = .ok (.iadd, 1) := by decide +kernel
theorem d_M_end_12 : decode (xMc m_M_end) 12 = .ok (.putfield 164, 3) := by decide +kernel
theorem d_M_end_15 : decode (xMc m_M_end) 15 = .ok (.aload_n 0, 1) := by decide +kernel
theorem d_M_end_16 : decode (xMc m_M_end) 16 = .ok (.aload_n 0, 1) := by decide +kernel
theorem d_M_end_17 : decode (xMc m_M_end) 17 = .ok (.getfield 103, 3) := by decide +kernel
theorem d_M_end_20 : decode (xMc m_M_end) 20 = .ok (.putfield 167, 3) := by decide +kernel
theorem d_M_end_23 : decode (xMc m_M_end) 23 = .ok (.iconst 0, 1) := by decide +kernel
theorem d_M_end_24 : decode (xMc m_M_end) 24 = .ok (.istore_n 1, 1) := by decide +kernel
theorem d_M_end_25 : decode (xMc m_M_end) 25 = .ok (.iload_n 1, 1) := by decide +kernel
theorem d_M_end_26 : decode (xMc m_M_end) 26 = .ok (.aload_n 0, 1) := by decide +kernel
theorem d_M_end_27 : decode (xMc m_M_end) 27 = .ok (.getfield 103, 3) := by decide +kernel
theorem d_M_end_30 : decode (xMc m_M_end) 30 = .ok (.if_icmp .ge 21, 3) := by decide +kernel
theorem d_M_end_33 : decode (xMc m_M_end) 33 = .ok (.aload_n 0, 1) := by decide +kernel
theorem d_M_end_34 : decode (xMc m_M_end) 34 = .ok (.getfield 61, 3) := by decide +kernel
theorem d_M_end_37 : decode (xMc m_M_end) 37 = .ok (.iload_n 1, 1) := by decide +kernel
theorem d_M_end_38 : decode (xMc m_M_end) 38 = .ok (.aload_n 0, 1) := by decide +kernel
theorem d_M_end_39 : decode (xMc m_M_end) 39 = .ok (.iload_n 1, 1) := by decide +kernel
theorem d_M_end_40 : decode (xMc m_M_end) 40 = .ok (.iconst 1, 1) := by decide +kernel
theorem d_M_end_41 : decode (xMc m_M_end) 41 = .ok (.invokevirtual 160, 3) := by decide +kernel
theorem d_M_end_44 : decode (xMc m_M_end) 44 = .ok (.iastore, 1) := by decide +kernel
theorem d_M_end_45 : decode (xMc m_M_end) 45 = .ok (.iinc 1 1, 3) := by decide +kernel
theorem d_M_end_48 : decode (xMc m_M_end) 48 = .ok (.goto (-23), 3) := by decide +kernel
theorem d_M_end_51 : decode (xMc m_M_end) 51 = .ok (.return_, 1) := by decide +kernel
theorem d_M_stop_0 : decode (xMc m_M_stop) 0 = .ok (.aload_n 0, 1) := by decide +kernel
theorem d_M_stop_1 : decode (xMc m_M_stop) 1 = .ok (.aload_n 0, 1) := by decide +kernel
theorem d_M_stop_2 : decode (xMc m_M_stop) 2 = .ok (.getfield 75, 3) := by decide +kernel
theorem d_M_stop_5 : decode (xMc m_M_stop) 5 = .ok (.ifCond .eq 7, 3) := by decide +kernel
theorem d_M_stop_8 : decode (xMc m_M_stop) 8 = .ok (.iconst 0, 1) := by decide +kernel
theorem d_M_stop_9 : decode (xMc m_M_stop) 9 = .ok (.goto 4, 3) := by decide +kernel
theorem d_M_stop_12 : decode (xMc m_M_stop) 12 = .ok (.iconst 1, 1) := by decide +kernel
theorem d_M_stop_13 : decode (xMc m_M_stop) 13 = .ok (.putfield 64, 3) := by decide +kernel
theorem d_M_stop_16 : decode (xMc m_M_stop) 16 = .ok (.aload_n 0, 1) := by decide +kernel
theorem d_M_stop_17 : decode (xMc m_M_stop) 17 = .ok (.getfield 75, 3) := by decide +kernel
theorem d_M_stop_20 : decode (xMc m_M_stop) 20 = .ok (.ifCond .ne 4, 3) := by decide +kernel
theorem d_M_stop_23 : decode (xMc m_M_stop) 23 = .ok (.return_, 1) := by decide +kernel
theorem d_M_stop_24 : decode (xMc m_M_stop) 24 = .ok (.aload_n 0, 1) := by decide +kernel
theorem d_M_stop_25 : decode (xMc m_M_stop) 25 = .ok (.iconst 0, 1) := by decide +kernel
theorem d_M_stop_26 : decode (xMc m_M_stop) 26 = .ok (.putfield 75, 3) := by decide +kernel
theorem d_M_stop_29 : decode (xMc m_M_stop) 29 = .ok (.aload_n 0, 1) := by decide +kernel
theorem d_M_stop_30 : decode (xMc m_M_stop) 30 = .ok (.iconst 0, 1) := by decide +kernel
theorem d_M_stop_31 : decode (xMc m_M_stop) 31 = .ok (.invokevirtual 121, 3) := by decide +kernel
theorem d_M_stop_34 : decode (xMc m_M_stop) 34 = .ok (.return_, 1) := by decide +kernel
theorem d_M_output_0 : decode (xMc m_M_output) 0 = .ok (.aload_n 0, 1) := by decide +kernel
theorem d_M_output_1 : decode (xMc m_M_output) 1 = .ok (.iload_n 1, 1) := by decide +kernel
theorem d_M_output_2 : decode (xMc m_M_output) 2 = .ok (.iconst 0, 1) := by decide +kernel
theorem d_M_output_3 : decode (xMc m_M_output) 3 = .ok (.iconst 2, 1) := by decide +kernel
theorem d_M_output_4 : decode (xMc m_M_output) 4 = .ok (.invokestatic 67, 3) := by decide +kernel
theorem d_M_output_7 : decode (xMc m_M_output) 7 = .ok (.ifCond .eq 16, 3) := by decide +kernel
theorem d_M_output_10 : decode (xMc m_M_output) 10 = .ok (.iload_n 3, 1) := by decide +kernel
theorem d_M_output_11 : decode (xMc m_M_output) 11 = .ok (.iconst 0, 1) := by decide +kernel
theorem d_M_output_12 : decode (xMc m_M_output) 12 = .ok (.iconst 1, 1) := by decide +kernel
theorem d_M_output_13 : decode (xMc m_M_output) 13 = .ok (.invokestatic 67, 3) := by decide +kernel
theorem d_M_output_16 : decode (xMc m_M_output) 16 = .ok (.ifCond .eq 7, 3) := by decide +kernel
theorem d_M_output_19 : decode (xMc m_M_output) 19 = .ok (.iconst 1, 1) := by decide +kernel
theorem d_M_output_20 : decode (xMc m_M_output) 20 = .ok (.goto 4, 3) := by decide +kernel
theorem d_M_output_23 : decode (xMc m_M_output) 23 = .ok (.iconst 0, 1) := by decide +kernel
theorem d_M_output_24 : decode (xMc m_M_output) 24 = .ok (.invokevirtual 71, 3) := by decide +kernel
theorem d_M_output_27 : decode (xMc m_M_output) 27 = .ok (.ifCond .eq 5, 3) := by decide +kernel
theorem d_M_output_30 : decode (xMc m_M_output) 30 = .ok (.iconst 0, 1) := by decide +kernel
theorem d_M_output_31 : decode (xMc m_M_output) 31 = .ok (.ireturn, 1) := by decide +kernel
theorem d_M_output_32 : decode (xMc m_M_output) 32 = .ok (.iload_n 1, 1) := by decide +kernel
theorem d_M_output_33 : decode (xMc m_M_output) 33 = .ok (.aload_n 0, 1) := by decide +kernel
theorem d_M_output_34 : decode (xMc m_M_output) 34 = .ok (.getfield 167, 3) := by decide +kernel
theorem d_M_output_37 : decode (xMc m_M_output) 37 = .ok (.if_icmp .ge 18, 3) := by decide +kernel
theorem d_M_output_40 : decode (xMc m_M_output) 40 = .ok (.iload_n 2, 1) := by decide +kernel
theorem d_M_output_41 : decode (xMc m_M_output) 41 = .ok (.iconst (-1), 1) := by decide +kernel
theorem d_M_output_42 : decode (xMc m_M_output) 42 = .ok (.if_icmp .lt 13, 3) := by decide +kernel
theorem d_M_output_45 : decode (xMc m_M_output) 45 = .ok (.iload_n 2, 1) := by decide +kernel
theorem d_M_output_46 : decode (xMc m_M_output) 46 = .ok (.aload_n 0, 1) := by decide +kernel
theorem d_M_output_47 : decode (xMc m_M_output) 47 = .ok (.getfield 61, 3) := by decide +kernel
theorem d_M_output_50 : decode (xMc m_M_output) 50 = .ok (.iload_n 1, 1) := by decide +kernel
theorem d_M_output_51 : decode (xMc m_M_output) 51 = .ok (.iaload, 1) := by decide +kernel
theorem d_M_output_52 : decode (xMc m_M_output) 52 = .ok (.if_icmp .lt 9, 3) := by decide +kernel
theorem d_M_output_55 : decode (xMc m_M_output) 55 = .ok (.aload_n 0, 1) := by decide +kernel
theorem d_M_output_56 : decode (xMc m_M_output) 56 = .ok (.iconst 2, 1) := by decide +kernel
theorem d_M_output_57 : decode (xMc m_M_output) 57 = .ok (.invokevirtual 82, 3) := by decide +kernel
theorem d_M_output_60 : decode (xMc m_M_output) 60 = .ok (.ireturn, 1) := by decide +kernel
theorem d_M_output_61 : decode (xMc m_M_output) 61 = .ok (.iload_n 2, 1) := by decide +kernel
theorem d_M_output_62 : decode (xMc m_M_output) 62 = .ok (.ifCond .ge 12, 3) := by decide +kernel
theorem d_M_output_65 : decode (xMc m_M_output) 65 = .ok (.aload_n 0, 1) := by decide +kernel
theorem d_M_output_66 : decode (xMc m_M_output) 66 = .ok (.getfield 61, 3) := by decide +kernel
theorem d_M_output_69 : decode (xMc m_M_output) 69 = .ok (.iload_n 1, 1) := by decide +kernel
theorem d_M_output_70 : decode (xMc m_M_output) 70 = .ok (.iaload, 1) := by decide +kernel
theorem d_M_output_71 : decode (xMc m_M_output) 71 = .ok (.goto 32, 3) := by decide +kernel
theorem d_M_output_74 : decode (xMc m_M_output) 74 = .ok (.iload_n 3, 1) := by decide +kernel
theorem d_M_output_75 : decode (xMc m_M_output) 75 = .ok (.ifCond .ne 17, 3) := by decide +kernel
theorem d_M_output_78 : decode (xMc m_M_output) 78 = .ok (.aload_n 0, 1) := by decide +kernel
theorem d_M_output_79 : decode (xMc m_M_output) 79 = .ok (.getfield 55, 3) := by decide +kernel
theorem d_M_output_82 : decode (xMc m_M_output) 82 = .ok (.iload_n 1, 1) := by decide +kernel
theorem d_M_output_83 : decode (xMc m_M_output) 83 = .ok (.bipush 100, 2) := by decide +kernel
theorem d_M_output_85 : decode (xMc m_M_output) 85 = .ok (.imul, 1) := by decide +kernel
theorem d_M_output_86 : decode (xMc m_M_output) 86 = .ok (.iload_n 2, 1) := by decide +kernel
theorem d_M_output_87 : decode (xMc m_M_output) 87 = .ok (.iadd, 1) := by decide +kernel
theorem d_M_output_88 : decode (xMc m_M_output) 88 = .ok (.iaload, 1) := by decide +kernel
theorem d_M_output_89 : decode (xMc m_M_output) 89 = .ok (.goto 14, 3) := by decide +kernel
theorem d_M_output_92 : decode (xMc m_M_output) 92 = .ok (.aload_n 0, 1) := by decide +kernel
theorem d_M_output_93 : decode (xMc m_M_output) 93 = .ok (.getfield 58, 3) := by decide +kernel
theorem d_M_output_96 : decode (xMc m_M_output) 96 = .ok (.iload_n 1, 1) := by decide +kernel
theorem d_M_output_97 : decode (xMc m_M_output) 97 = .ok (.bipush 100, 2) := by decide +kernel
theorem d_M_output_99 : decode (xMc m_M_output) 99 = .ok (.imul, 1) := by decide +kernel
theorem d_M_output_100 : decode (xMc m_M_output) 100 = .ok (.iload_n 2, 1) := by decide +kernel
theorem d_M_output_101 : decode (xMc m_M_output) 101 = .ok (.iadd, 1) := by decide +kernel
theorem d_M_output_102 : decode (xMc m_M_output) 102 = .ok (.iaload, 1) := by decide +kernel
theorem d_M_output_103 : decode (xMc m_M_output) 103 = .ok (.ireturn, 1) := by decide +kernel
theorem d_M_find_0 : decode (xMc m_M_find) 0 = .ok (.aload_n 0, 1) := by decide +kernel
theorem d_M_find_1 : decode (xMc m_M_find) 1 = .ok (.iconst 0, 1) := by decide +kernel
theorem d_M_find_2 : decode (xMc m_M_find) 2 = .ok (.putfield 64, 3) := by decide +kernel
theorem d_M_find_5 : decode (xMc m_M_find) 5 = .ok (.iconst 0, 1) := by decide +kernel
theorem d_M_find_6 : decode (xMc m_M_find) 6 = .ok (.istore_n 2, 1) := by decide +kernel
theorem d_M_find_7 : decode (xMc m_M_find) 7 = .ok (.iload_n 2, 1) := by decide +kernel
theorem d_M_find_8 : decode (xMc m_M_find) 8 = .ok (.aload_n 0, 1) := by decide +kernel
theorem d_M_find_9 : decode (xMc m_M_find) 9 = .ok (.getfield 167, 3) := by decide +kernel
theorem d_M_find_12 : decode (xMc m_M_find) 12 = .ok (.if_icmp .ge 54, 3) := by decide +kernel
theorem d_M_find_15 : decode (xMc m_M_find) 15 = .ok (.iconst 0, 1) := by decide +kernel
theorem d_M_find_16 : decode (xMc m_M_find) 16 = .ok (.istore_n 3, 1) := by decide +kernel
theorem d_M_find_17 : decode (xMc m_M_find) 17 = .ok (.iload_n 3, 1) := by decide +kernel
theorem d_M_find_18 : decode (xMc m_M_find) 18 = .ok (.aload_n 0, 1) := by decide +kernel
theorem d_M_find_19 : decode (xMc m_M_find) 19 = .ok (.getfield 61, 3) := by decide +kernel
theorem d_M_find_22 : decode (xMc m_M_find) 22 = .ok (.iload_n 2, 1) := by decide +kernel
theorem d_M_find_23 : decode (xMc m_M_find) 23 = .ok (.iaload, 1) := by decide +kernel
theorem d_M_find_24 : decode (xMc m_M_find) 24 = .ok (.if_icmp .ge 36, 3) := by decide +kernel
theorem d_M_find_27 : decode (xMc m_M_find) 27 = .ok (.aload_n 0, 1) := by decide +kernel
theorem d_M_find_28 : decode (xMc m_M_find) 28 = .ok (.getfield 55, 3) := by decide +kernel
theorem d_M_find_31 : decode (xMc m_M_find) 31 = .ok (.iload_n 2, 1) := by decide +kernel
theorem d_M_find_32 : decode (xMc m_M_find) 32 = .ok (.bipush 100, 2) := by decide +kernel
theorem d_M_find_34 : decode (xMc m_M_find) 34 = .ok (.imul, 1) := by decide +kernel
theorem d_M_find_35 : decode (xMc m_M_find) 35 = .ok (.iload_n 3, 1) := by decide +kernel
theorem d_M_find_36 : decode (xMc m_M_find) 36 = .ok (.iadd, 1) := by decide +kernel
theorem d_M_find_37 : decode (xMc m_M_find) 37 = .ok (.iaload, 1) := by decide +kernel
theorem d_M_find_38 : decode (xMc m_M_find) 38 = .ok (.iload_n 1, 1) := by decide +kernel
theorem d_M_find_39 : decode (xMc m_M_find) 39 = .ok (.if_icmp .ne 15, 3) := by decide +kernel
theorem d_M_find_42 : decode (xMc m_M_find) 42 = .ok (.aload_n 0, 1) := by decide +kernel
theorem d_M_find_43 : decode (xMc m_M_find) 43 = .ok (.getfield 58, 3) := by decide +kernel
theorem d_M_find_46 : decode (xMc m_M_find) 46 = .ok (.iload_n 2, 1) := by decide +kernel
theorem d_M_find_47 : decode (xMc m_M_find) 47 = .ok (.bipush 100, 2) := by decide +kernel
theorem d_M_find_49 : decode (xMc m_M_find) 49 = .ok (.imul, 1) := by decide +kernel
theorem d_M_find_50 : decode (xMc m_M_find) 50 = .ok (.iload_n 3, 1) := by decide +kernel
theorem d_M_find_51 : decode (xMc m_M_find) 51 = .ok (.iadd, 1) := by decide +kernel
theorem d_M_find_52 : decode (xMc m_M_find) 52 = .ok (.iaload, 1) := by decide +kernel
theorem d_M_find_53 : decode (xMc m_M_find) 53 = .ok (.ireturn, 1) := by decide +kernel
theorem d_M_find_54 : decode (xMc m_M_find) 54 = .ok (.iinc 3 1, 3) := by decide +kernel
theorem d_M_find_57 : decode (xMc m_M_find) 57 = .ok (.goto (-40), 3) := by decide +kernel
theorem d_M_find_60 : decode (xMc m_M_find) 60 = .ok (.iinc 2 1, 3) := by decide +kernel
theorem d_M_find_63 : decode (xMc m_M_find) 63 = .ok (.goto (-56), 3) := by decide +kernel
theorem d_M_find_66 : decode (xMc m_M_find) 66 = .ok (.aload_n 0, 1) := by decide +kernel
theorem d_M_find_67 : decode (xMc m_M_find) 67 = .ok (.iconst 1, 1) := by decide +kernel
theorem d_M_find_68 : decode (xMc m_M_find) 68 = .ok (.invokevirtual 82, 3) := by decide +kernel
theorem d_M_find_71 : decode (xMc m_M_find) 71 = .ok (.ireturn, 1) := by decide +kernel
theorem d_M_task_0 : decode (xMc m_M_task) 0 = .ok (.aload_n 0, 1) := by decide +kernel
theorem d_M_task_1 : decode (xMc m_M_task) 1 = .ok (.iload_n 2, 1) := by decide +kernel
theorem d_M_task_2 : decode (xMc m_M_task) 2 = .ok (.iconst 0, 1) := by decide +kernel
theorem d_M_task_3 : decode (xMc m_M_task) 3 = .ok (.iload_n 1, 1) := by decide +kernel
theorem d_M_task_4 : decode (xMc m_M_task) 4 = .ok (.ifCond .eq 7, 3) := by decide +kernel
theorem d_M_task_7 : decode (xMc m_M_task) 7 = .ok (.iconst 5, 1) := by decide +kernel
theorem d_M_task_8 : decode (xMc m_M_task) 8 = .ok (.goto 4, 3) := by decide +kernel
theorem d_M_task_11 : decode (xMc m_M_task) 11 = .ok (.iconst 2, 1) := by decide +kernel
theorem d_M_task_12 : decode (xMc m_M_task) 12 = .ok (.invokestatic 67, 3) := by decide +kernel
theorem d_M_task_15 : decode (xMc m_M_task) 15 = .ok (.ifCond .eq 16, 3) := by decide +kernel
theorem d_M_task_18 : decode (xMc m_M_task) 18 = .ok (.iload_n 3, 1) := by decide +kernel
theorem d_M_task_19 : decode (xMc m_M_task) 19 = .ok (.iconst 0, 1) := by decide +kernel
theorem d_M_task_20 : decode (xMc m_M_task) 20 = .ok (.iconst 3, 1) := by decide +kernel
theorem d_M_task_21 : decode (xMc m_M_task) 21 = .ok (.invokestatic 67, 3) := by decide +kernel
theorem d_M_task_24 : decode (xMc m_M_task) 24 = .ok (.ifCond .eq 7, 3) := by decide +kernel
theorem d_M_task_27 : decode (xMc m_M_task) 27 = .ok (.iconst 1, 1) := by decide +kernel
theorem d_M_task_28 : decode (xMc m_M_task) 28 = .ok (.goto 4, 3) := by decide +kernel
theorem d_M_task_31 : decode (xMc m_M_task) 31 = .ok (.iconst 0, 1) := by decide +kernel
theorem d_M_task_32 : decode (xMc m_M_task) 32 = .ok (.invokevirtual 71, 3) := by decide +kernel
theorem d_M_task_35 : decode (xMc m_M_task) 35 = .ok (.ifCond .eq 5, 3) := by decide +kernel
theorem d_M_task_38 : decode (xMc m_M_task) 38 = .ok (.iconst 0, 1) := by decide +kernel
theorem d_M_task_39 : decode (xMc m_M_task) 39 = .ok (.ireturn, 1) := by decide +kernel
theorem d_M_task_40 : decode (xMc m_M_task) 40 = .ok (.aload_n 0, 1) := by decide +kernel
theorem d_M_task_41 : decode (xMc m_M_task) 41 = .ok (.getfield 75, 3) := by decide +kernel
theorem d_M_task_44 : decode (xMc m_M_task) 44 = .ok (.ifCond .ne 9, 3) := by decide +kernel
theorem d_M_task_47 : decode (xMc m_M_task) 47 = .ok (.aload_n 0, 1) := by decide +kernel
theorem d_M_task_48 : decode (xMc m_M_task) 48 = .ok (.iconst 3, 1) := by decide +kernel
theorem d_M_task_49 : decode (xMc m_M_task) 49 = .ok (.invokevirtual 82, 3) := by decide +kernel
theorem d_M_task_52 : decode (xMc m_M_task) 52 = .ok (.ireturn, 1) := by decide +kernel
theorem d_M_task_53 : decode (xMc m_M_task) 53 = .ok (.iload_n 2, 1) := by decide +kernel
theorem d_M_task_54 : decode (xMc m_M_task) 54 = .ok (.iload_n 1, 1) := by decide +kernel
theorem d_M_task_55 : decode (xMc m_M_task) 55 = .ok (.ifCond .eq 10, 3) := by decide +kernel
theorem d_M_task_58 : decode (xMc m_M_task) 58 = .ok (.aload_n 0, 1) := by decide +kernel
theorem d_M_task_59 : decode (xMc m_M_task) 59 = .ok (.getfield 79, 3) := by decide +kernel
theorem d_M_task_62 : decode (xMc m_M_task) 62 = .ok (.goto 7, 3) := by decide +kernel
theorem d_M_task_65 : decode (xMc m_M_task) 65 = .ok (.aload_n 0, 1) := by decide +kernel
theorem d_M_task_66 : decode (xMc m_M_task) 66 = .ok (.getfield 103, 3) := by decide +kernel
theorem d_M_task_69 : decode (xMc m_M_task) 69 = .ok (.if_icmp .lt 9, 3) := by decide +kernel
theorem d_M_task_72 : decode (xMc m_M_task) 72 = .ok (.aload_n 0, 1) := by decide +kernel
theorem d_M_task_73 : decode (xMc m_M_task) 73 = .ok (.iconst 2, 1) := by decide +kernel
theorem d_M_task_74 : decode (xMc m_M_task) 74 = .ok (.invokevirtual 82, 3) := by decide +kernel
theorem d_M_task_77 : decode (xMc m_M_task) 77 = .ok (.ireturn, 1) := by decide +kernel
theorem d_M_task_78 : decode (xMc m_M_task) 78 = .ok (.iload_n 1, 1) := by decide +kernel
theorem d_M_task_79 : decode (xMc m_M_task) 79 = .ok (.ifCond .eq 7, 3) := by decide +kernel
theorem d_M_task_82 : decode (xMc m_M_task) 82 = .ok (.iload_n 2, 1) := by decide +kernel
theorem d_M_task_83 : decode (xMc m_M_task) 83 = .ok (.goto 7, 3) := by decide +kernel
theorem d_M_task_86 : decode (xMc m_M_task) 86 = .ok (.iload_n 2, 1) := by decide +kernel
theorem d_M_task_87 : decode (xMc m_M_task) 87 = .ok (.bipush 8, 2) := by decide +kernel
theorem d_M_task_89 : decode (xMc m_M_task) 89 = .ok (.iadd, 1) := by decide +kernel
theorem d_M_task_90 : decode (xMc m_M_task) 90 = .ok (.istore 4, 2) := by decide +kernel
theorem d_M_task_92 : decode (xMc m_M_task) 92 = .ok (.aload_n 0, 1) := by decide +kernel
theorem d_M_task_93 : decode (xMc m_M_task) 93 = .ok (.getfield 32, 3) := by decide +kernel
theorem d_M_task_96 : decode (xMc m_M_task) 96 = .ok (.iload 4, 2) := by decide +kernel
theorem d_M_task_98 : decode (xMc m_M_task) 98 = .ok (.baload, 1) := by decide +kernel
theorem d_M_task_99 : decode (xMc m_M_task) 99 = .ok (.ifCond .eq 13, 3) := by decide +kernel
theorem d_M_task_102 : decode (xMc m_M_task) 102 = .ok (.aload_n 0, 1) := by decide +kernel
theorem d_M_task_103 : decode (xMc m_M_task) 103 = .ok (.getfield 35, 3) := by decide +kernel
theorem d_M_task_106 : decode (xMc m_M_task) 106 = .ok (.iload 4, 2) := by decide +kernel
theorem d_M_task_108 : decode (xMc m_M_task) 108 = .ok (.iaload, 1) := by decide +kernel
theorem d_M_task_109 : decode (xMc m_M_task) 109 = .ok (.goto 4, 3) := by decide +kernel
theorem d_M_task_112 : decode (xMc m_M_task) 112 = .ok (.iconst (-1), 1) := by decide +kernel
theorem d_M_task_113 : decode (xMc m_M_task) 113 = .ok (.istore 5, 2) := by decide +kernel
theorem d_M_task_115 : decode (xMc m_M_task) 115 = .ok (.iconst 3, 1) := by decide +kernel
theorem d_M_task_116 : decode (xMc m_M_task) 116 = .ok (.istore 6, 2) := by decide +kernel
theorem d_M_task_118 : decode (xMc m_M_task) 118 = .ok (.iload 6, 2) := by decide +kernel
theorem d_M_task_120 : decode (xMc m_M_task) 120 = .ok (.ifCond .lt 35, 3) := by decide +kernel
theorem d_M_task_123 : decode (xMc m_M_task) 123 = .ok (.aload_n 0, 1) := by decide +kernel
theorem d_M_task_124 : decode (xMc m_M_task) 124 = .ok (.getfield 32, 3) := by decide +kernel
theorem d_M_task_127 : decode (xMc m_M_task) 127 = .ok (.iload 4, 2) := by decide +kernel
theorem d_M_task_129 : decode (xMc m_M_task) 129 = .ok (.baload, 1) := by decide +kernel
theorem d_M_task_130 : decode (xMc m_M_task) 130 = .ok (.ifCond .ne 25, 3) := by decide +kernel
theorem d_M_task_133 : decode (xMc m_M_task) 133 = .ok (.aload_n 0, 1) := by decide +kernel
theorem d_M_task_134 : decode (xMc m_M_task) 134 = .ok (.getfield 19, 3) := by decide +kernel
theorem d_M_task_137 : decode (xMc m_M_task) 137 = .ok (.iload 6, 2) := by decide +kernel
theorem d_M_task_139 : decode (xMc m_M_task) 139 = .ok (.iaload, 1) := by decide +kernel
theorem d_M_task_140 : decode (xMc m_M_task) 140 = .ok (.iload 4, 2) := by decide +kernel
theorem d_M_task_142 : decode (xMc m_M_task) 142 = .ok (.if_icmp .ne 7, 3) := by decide +kernel
theorem d_M_task_145 : decode (xMc m_M_task) 145 = .ok (.iload 6, 2) := by decide +kernel
theorem d_M_task_147 : decode (xMc m_M_task) 147 = .ok (.istore 5, 2) := by decide +kernel
theorem d_M_task_149 : decode (xMc m_M_task) 149 = .ok (.iinc 6 (-1), 3) := by decide +kernel
theorem d_M_task_152 : decode (xMc m_M_task) 152 = .ok (.goto (-34), 3) := by decide +kernel
theorem d_M_task_155 : decode (xMc m_M_task) 155 = .ok (.iload_n 3, 1) := by decide +kernel
theorem d_M_task_156 : decode (xMc m_M_task) 156 = .ok (.ifCond .ne 28, 3) := by decide +kernel
theorem d_M_task_159 : decode (xMc m_M_task) 159 = .ok (.aload_n 0, 1) := by decide +kernel
theorem d_M_task_160 : decode (xMc m_M_task) 160 = .ok (.getfield 32, 3) := by decide +kernel
theorem d_M_task_163 : decode (xMc m_M_task) 163 = .ok (.iload 4, 2) := by decide +kernel
theorem d_M_task_165 : decode (xMc m_M_task) 165 = .ok (.baload, 1) := by decide +kernel
theorem d_M_task_166 : decode (xMc m_M_task) 166 = .ok (.ifCond .eq 7, 3) := by decide +kernel
theorem d_M_task_169 : decode (xMc m_M_task) 169 = .ok (.iconst 2, 1) := by decide +kernel
theorem d_M_task_170 : decode (xMc m_M_task) 170 = .ok (.goto 13, 3) := by decide +kernel
theorem d_M_task_173 : decode (xMc m_M_task) 173 = .ok (.iload 5, 2) := by decide +kernel
theorem d_M_task_175 : decode (xMc m_M_task) 175 = .ok (.ifCond .lt 7, 3) := by decide +kernel
theorem d_M_task_178 : decode (xMc m_M_task) 178 = .ok (.iconst 1, 1) := by decide +kernel
theorem d_M_task_179 : decode (xMc m_M_task) 179 = .ok (.goto 4, 3) := by decide +kernel
theorem d_M_task_182 : decode (xMc m_M_task) 182 = .ok (.iconst 0, 1) := by decide +kernel
theorem d_M_task_183 : decode (xMc m_M_task) 183 = .ok (.ireturn, 1) := by decide +kernel
theorem d_M_task_184 : decode (xMc m_M_task) 184 = .ok (.iload_n 3, 1) := by decide +kernel
theorem d_M_task_185 : decode (xMc m_M_task) 185 = .ok (.iconst 1, 1) := by decide +kernel
theorem d_M_task_186 : decode (xMc m_M_task) 186 = .ok (.if_icmp .ne 25, 3) := by decide +kernel
theorem d_M_task_189 : decode (xMc m_M_task) 189 = .ok (.iload_n 1, 1) := by decide +kernel
theorem d_M_task_190 : decode (xMc m_M_task) 190 = .ok (.ifCond .ne 10, 3) := by decide +kernel
theorem d_M_task_193 : decode (xMc m_M_task) 193 = .ok (.aload_n 0, 1) := by decide +kernel
theorem d_M_task_194 : decode (xMc m_M_task) 194 = .ok (.invokevirtual 140, 3) := by decide +kernel
theorem d_M_task_197 : decode (xMc m_M_task) 197 = .ok (.ifCond .eq 12, 3) := by decide +kernel
theorem d_M_task_200 : decode (xMc m_M_task) 200 = .ok (.aload_n 0, 1) := by decide +kernel
theorem d_M_task_201 : decode (xMc m_M_task) 201 = .ok (.iload 4, 2) := by decide +kernel
theorem d_M_task_203 : decode (xMc m_M_task) 203 = .ok (.invokevirtual 157, 3) := by decide +kernel
theorem d_M_task_206 : decode (xMc m_M_task) 206 = .ok (.goto 4, 3) := by decide +kernel
theorem d_M_task_209 : decode (xMc m_M_task) 209 = .ok (.iconst 0, 1) := by decide +kernel
theorem d_M_task_210 : decode (xMc m_M_task) 210 = .ok (.ireturn, 1) := by decide +kernel
theorem d_M_task_211 : decode (xMc m_M_task) 211 = .ok (.iload_n 3, 1) := by decide +kernel
theorem d_M_task_212 : decode (xMc m_M_task) 212 = .ok (.iconst 2, 1) := by decide +kernel
theorem d_M_task_213 : decode (xMc m_M_task) 213 = .ok (.if_icmp .ne 19, 3) := by decide +kernel
theorem d_M_task_216 : decode (xMc m_M_task) 216 = .ok (.iload_n 1, 1) := by decide +kernel
theorem d_M_task_217 : decode (xMc m_M_task) 217 = .ok (.ifCond .eq 11, 3) := by decide +kernel
theorem d_M_task_220 : decode (xMc m_M_task) 220 = .ok (.aload_n 0, 1) := by decide +kernel
theorem d_M_task_221 : decode (xMc m_M_task) 221 = .ok (.iload_n 2, 1) := by decide +kernel
theorem d_M_task_222 : decode (xMc m_M_task) 222 = .ok (.invokevirtual 134, 3) := by decide +kernel
theorem d_M_task_225 : decode (xMc m_M_task) 225 = .ok (.goto 9, 3) := by decide +kernel
theorem d_M_task_228 : decode (xMc m_M_task) 228 = .ok (.iconst 0, 1) := by decide +kernel
theorem d_M_task_229 : decode (xMc m_M_task) 229 = .ok (.goto 5, 3) := by decide +kernel
theorem d_M_task_232 : decode (xMc m_M_task) 232 = .ok (.iload 5, 2) := by decide +kernel
theorem d_M_task_234 : decode (xMc m_M_task) 234 = .ok (.ireturn, 1) := by decide +kernel
theorem d_M_ofWorker_0 : decode (xMc m_M_ofWorker) 0 = .ok (.aload_n 0, 1) := by decide +kernel
theorem d_M_ofWorker_1 : decode (xMc m_M_ofWorker) 1 = .ok (.iload_n 1, 1) := by decide +kernel
theorem d_M_ofWorker_2 : decode (xMc m_M_ofWorker) 2 = .ok (.iconst 0, 1) := by decide +kernel
theorem d_M_ofWorker_3 : decode (xMc m_M_ofWorker) 3 = .ok (.iconst 3, 1) := by decide +kernel
theorem d_M_ofWorker_4 : decode (xMc m_M_ofWorker) 4 = .ok (.invokestatic 67, 3) := by decide +kernel
theorem d_M_ofWorker_7 : decode (xMc m_M_ofWorker) 7 = .ok (.ifCond .eq 16, 3) := by decide +kernel
theorem d_M_ofWorker_10 : decode (xMc m_M_ofWorker) 10 = .ok (.iload_n 2, 1) := by decide +kernel
theorem d_M_ofWorker_11 : decode (xMc m_M_ofWorker) 11 = .ok (.iconst 0, 1) := by decide +kernel
theorem d_M_ofWorker_12 : decode (xMc m_M_ofWorker) 12 = .ok (.iconst 3, 1) := by decide +kernel
theorem d_M_ofWorker_13 : decode (xMc m_M_ofWorker) 13 = .ok (.invokestatic 67, 3) := by decide +kernel
theorem d_M_ofWorker_16 : decode (xMc m_M_ofWorker) 16 = .ok (.ifCond .eq 7, 3) := by decide +kernel
theorem d_M_ofWorker_19 : decode (xMc m_M_ofWorker) 19 = .ok (.iconst 1, 1) := by decide +kernel
theorem d_M_ofWorker_20 : decode (xMc m_M_ofWorker) 20 = .ok (.goto 4, 3) := by decide +kernel
theorem d_M_ofWorker_23 : decode (xMc m_M_ofWorker) 23 = .ok (.iconst 0, 1) := by decide +kernel
theorem d_M_ofWorker_24 : decode (xMc m_M_ofWorker) 24 = .ok (.invokevirtual 71, 3) := by decide +kernel
theorem d_M_ofWorker_27 : decode (xMc m_M_ofWorker) 27 = .ok (.ifCond .eq 5, 3) := by decide +kernel
theorem d_M_ofWorker_30 : decode (xMc m_M_ofWorker) 30 = .ok (.iconst 0, 1) := by decide +kernel
theorem d_M_ofWorker_31 : decode (xMc m_M_ofWorker) 31 = .ok (.ireturn, 1) := by decide +kernel
theorem d_M_ofWorker_32 : decode (xMc m_M_ofWorker) 32 = .ok (.iload_n 2, 1) := by decide +kernel
theorem d_M_ofWorker_33 : decode (xMc m_M_ofWorker) 33 = .ok (.ifCond .ne 20, 3) := by decide +kernel
theorem d_M_ofWorker_36 : decode (xMc m_M_ofWorker) 36 = .ok (.aload_n 0, 1) := by decide +kernel
theorem d_M_ofWorker_37 : decode (xMc m_M_ofWorker) 37 = .ok (.getfield 28, 3) := by decide +kernel
theorem d_M_ofWorker_40 : decode (xMc m_M_ofWorker) 40 = .ok (.iload_n 1, 1) := by decide +kernel
theorem d_M_ofWorker_41 : decode (xMc m_M_ofWorker) 41 = .ok (.baload, 1) := by decide +kernel
theorem d_M_ofWorker_42 : decode (xMc m_M_ofWorker) 42 = .ok (.ifCond .eq 7, 3) := by decide +kernel
theorem d_M_ofWorker_45 : decode (xMc m_M_ofWorker) 45 = .ok (.iconst 1, 1) := by decide +kernel
theorem d_M_ofWorker_46 : decode (xMc m_M_ofWorker) 46 = .ok (.goto 41, 3) := by decide +kernel
theorem d_M_ofWorker_49 : decode (xMc m_M_ofWorker) 49 = .ok (.iconst 0, 1) := by decide +kernel
theorem d_M_ofWorker_50 : decode (xMc m_M_ofWorker) 50 = .ok (.goto 37, 3) := by decide +kernel
theorem d_M_ofWorker_53 : decode (xMc m_M_ofWorker) 53 = .ok (.iload_n 2, 1) := by decide +kernel
theorem d_M_ofWorker_54 : decode (xMc m_M_ofWorker) 54 = .ok (.iconst 1, 1) := by decide +kernel
theorem d_M_ofWorker_55 : decode (xMc m_M_ofWorker) 55 = .ok (.if_icmp .ne 12, 3) := by decide +kernel
theorem d_M_ofWorker_58 : decode (xMc m_M_ofWorker) 58 = .ok (.aload_n 0, 1) := by decide +kernel
theorem d_M_ofWorker_59 : decode (xMc m_M_ofWorker) 59 = .ok (.getfield 19, 3) := by decide +kernel
theorem d_M_ofWorker_62 : decode (xMc m_M_ofWorker) 62 = .ok (.iload_n 1, 1) := by decide +kernel
theorem d_M_ofWorker_63 : decode (xMc m_M_ofWorker) 63 = .ok (.iaload, 1) := by decide +kernel
theorem d_M_ofWorker_64 : decode (xMc m_M_ofWorker) 64 = .ok (.goto 23, 3) := by decide +kernel
theorem d_M_ofWorker_67 : decode (xMc m_M_ofWorker) 67 = .ok (.iload_n 2, 1) := by decide +kernel
theorem d_M_ofWorker_68 : decode (xMc m_M_ofWorker) 68 = .ok (.iconst 2, 1) := by decide +kernel
theorem d_M_ofWorker_69 : decode (xMc m_M_ofWorker) 69 = .ok (.if_icmp .ne 12, 3) := by decide +kernel
theorem d_M_ofWorker_72 : decode (xMc m_M_ofWorker) 72 = .ok (.aload_n 0, 1) := by decide +kernel
theorem d_M_ofWorker_73 : decode (xMc m_M_ofWorker) 73 = .ok (.getfield 22, 3) := by decide +kernel
theorem d_M_ofWorker_76 : decode (xMc m_M_ofWorker) 76 = .ok (.iload_n 1, 1) := by decide +kernel
theorem d_M_ofWorker_77 : decode (xMc m_M_ofWorker) 77 = .ok (.iaload, 1) := by decide +kernel
theorem d_M_ofWorker_78 : decode (xMc m_M_ofWorker) 78 = .ok (.goto 9, 3) := by decide +kernel
theorem d_M_ofWorker_81 : decode (xMc m_M_ofWorker) 81 = .ok (.aload_n 0, 1) := by decide +kernel
theorem d_M_ofWorker_82 : decode (xMc m_M_ofWorker) 82 = .ok (.getfield 25, 3) := by decide +kernel
theorem d_M_ofWorker_85 : decode (xMc m_M_ofWorker) 85 = .ok (.iload_n 1, 1) := by decide +kernel
theorem d_M_ofWorker_86 : decode (xMc m_M_ofWorker) 86 = .ok (.iaload, 1) := by decide +kernel
theorem d_M_ofWorker_87 : decode (xMc m_M_ofWorker) 87 = .ok (.ireturn, 1) := by decide +kernel
theorem d_M_count_0 : decode (xMc m_M_count) 0 = .ok (.aload_n 0, 1) := by decide +kernel
theorem d_M_count_1 : decode (xMc m_M_count) 1 = .ok (.iconst 0, 1) := by decide +kernel
theorem d_M_count_2 : decode (xMc m_M_count) 2 = .ok (.putfield 64, 3) := by decide +kernel
theorem d_M_count_5 : decode (xMc m_M_count) 5 = .ok (.iload_n 1, 1) := by decide +kernel
theorem d_M_count_6 : decode (xMc m_M_count) 6 = .ok (.tableswitch 85 0 6 #[42, 47, 60, 65, 70, 75, 80], 42) := by decide +kernel
theorem d_M_count_48 : decode (xMc m_M_count) 48 = .ok (.aload_n 0, 1) := by decide +kernel
theorem d_M_count_49 : decode (xMc m_M_count) 49 = .ok (.getfield 79, 3) := by decide +kernel
theorem d_M_count_52 : decode (xMc m_M_count) 52 = .ok (.ireturn, 1) := by decide +kernel
theorem d_M_count_53 : decode (xMc m_M_count) 53 = .ok (.aload_n 0, 1) := by decide +kernel
theorem d_M_count_54 : decode (xMc m_M_count) 54 = .ok (.getfield 75, 3) := by decide +kernel
theorem d_M_count_57 : decode (xMc m_M_count) 57 = .ok (.ifCond .eq 7, 3) := by decide +kernel
theorem d_M_count_60 : decode (xMc m_M_count) 60 = .ok (.iconst 1, 1) := by decide +kernel
theorem d_M_count_61 : decode (xMc m_M_count) 61 = .ok (.goto 4, 3) := by decide +kernel
theorem d_M_count_64 : decode (xMc m_M_count) 64 = .ok (.iconst 0, 1) := by decide +kernel
theorem d_M_count_65 : decode (xMc m_M_count) 65 = .ok (.ireturn, 1) := by decide +kernel
theorem d_M_count_66 : decode (xMc m_M_count) 66 = .ok (.aload_n 0, 1) := by decide +kernel
theorem d_M_count_67 : decode (xMc m_M_count) 67 = .ok (.getfield 170, 3) := by decide +kernel
theorem d_M_count_70 : decode (xMc m_M_count) 70 = .ok (.ireturn, 1) := by decide +kernel
theorem d_M_count_71 : decode (xMc m_M_count) 71 = .ok (.aload_n 0, 1) := by decide +kernel
theorem d_M_count_72 : decode (xMc m_M_count) 72 = .ok (.getfield 164, 3) := by decide +kernel
theorem d_M_count_75 : decode (xMc m_M_count) 75 = .ok (.ireturn, 1) := by decide +kernel
theorem d_M_count_76 : decode (xMc m_M_count) 76 = .ok (.aload_n 0, 1) := by decide +kernel
theorem d_M_count_77 : decode (xMc m_M_count) 77 = .ok (.getfield 154, 3) := by decide +kernel
theorem d_M_count_80 : decode (xMc m_M_count) 80 = .ok (.ireturn, 1) := by decide +kernel
theorem d_M_count_81 : decode (xMc m_M_count) 81 = .ok (.aload_n 0, 1) := by decide +kernel
theorem d_M_count_82 : decode (xMc m_M_count) 82 = .ok (.getfield 118, 3) := by decide +kernel
theorem d_M_count_85 : decode (xMc m_M_count) 85 = .ok (.ireturn, 1) := by decide +kernel
theorem d_M_count_86 : decode (xMc m_M_count) 86 = .ok (.aload_n 0, 1) := by decide +kernel
theorem d_M_count_87 : decode (xMc m_M_count) 87 = .ok (.getfield 86, 3) := by decide +kernel
theorem d_M_count_90 : decode (xMc m_M_count) 90 = .ok (.ireturn, 1) := by decide +kernel
theorem d_M_count_91 : decode (xMc m_M_count) 91 = .ok (.iconst (-1), 1) := by decide +kernel
theorem d_M_count_92 : decode (xMc m_M_count) 92 = .ok (.ireturn, 1) := by decide +kernel
end
section
/-! THE REFERENCE'S CELLS: y the object, S 0 j its scalars, S k j (k = 1 .. 15) its arrays -/
def mlen : Nat → Nat
  | 1 => 6 | 2 => 36 | 3 => 4 | 4 => 4 | 5 => 4 | 6 => 4 | 7 => 4 | 8 => 11 | 9 => 11 | 10 => 300 | 11 => 300 | 12 => 6 | 13 => 300 | 14 => 300 | 15 => 3 | _ => 0
def mkd : Nat → Nat
  | 7 => 101 | 8 => 101 | _ => 100
def mfi (k : Nat) : Nat := if k ≤ 12 then k - 1 else k + 15
def MSh (h : xH) (y : Nat) : Prop := xT h y = 6 + 1 ∧ ∀ k, (1 ≤ k ∧ k < 16) → xT h (y + k) = mkd k ∧ xN h (y + k) = mlen k ∧ xP h y (mfi k) = some (y + k)
abbrev mset (y : Nat) (S : Nat → Nat → Int32) (h : xH) : xH := (h.1, h.2.1, (fun a j => if y ≤ a ∧ a < y + 16 then S (a - y) j else h.2.2.1 a j), h.2.2.2)
theorem mset_I {y k j : Nat} {S : Nat → Nat → Int32} {h : xH} (hk : k < 16) : xI (mset y S h) (y + k) j = S k j := by
  show (if y ≤ y + k ∧ y + k < y + 16 then S (y + k - y) j else _) = _
  rw [if_pos ⟨by omega, by omega⟩, Nat.add_sub_cancel_left]
theorem mset_w {y k j : Nat} {S : Nat → Nat → Int32} {h : xH} {v : Int32} (hk : k < 16) : xwI (mset y S h) (y + k) j v = mset y (xu S k j v) h := by
  show (h.1, h.2.1, xu _ (y + k) j v, h.2.2.2) = (h.1, h.2.1, _, h.2.2.2)
  congr 3
  funext a i
  show (if a = y + k ∧ i = j then v else if y ≤ a ∧ a < y + 16 then S (a - y) i else _) = if y ≤ a ∧ a < y + 16 then (if a - y = k ∧ i = j then v else S (a - y) i) else _
  by_cases h1 : y ≤ a ∧ a < y + 16
  · rw [if_pos h1, if_pos h1]
    by_cases h2 : a = y + k ∧ i = j
    · rw [if_pos h2, if_pos ⟨by omega, h2.2⟩]
    · rw [if_neg h2, if_neg (by omega)]
  · rw [if_neg h1, if_neg h1, if_neg (by omega)]
theorem nI_mul (a b : Nat) : nI a * nI b = nI (a * b) := by
  unfold nI; rw [Int32.ofNat_mul]
theorem nI_sub {a b : Nat} (h : b ≤ a) : nI a - nI b = nI (a - b) := by
  unfold nI; rw [Int32.ofNat_sub _ _ h]
theorem nI_inj {a b : Nat} (ha : a < 2 ^ 31) (hb : b < 2 ^ 31) : nI a = nI b ↔ a = b := by
  constructor
  · intro q
    have h1 := nI_toInt ha
    rw [q, nI_toInt hb] at h1
    omega
  · intro q; rw [q]
theorem nI_lti {a b : Nat} (ha : a < 2 ^ 31) (hb : b < 2 ^ 31) : nI a < nI b ↔ a < b := by
  rw [Int32.lt_iff_toInt_lt, nI_toInt ha, nI_toInt hb]; omega
theorem nI_lei {a b : Nat} (ha : a < 2 ^ 31) (hb : b < 2 ^ 31) : nI a ≤ nI b ↔ a ≤ b := by
  rw [Int32.le_iff_toInt_le, nI_toInt ha, nI_toInt hb]; omega
theorem nI_div {a b : Nat} (ha : a < 2 ^ 31) (hb : b < 2 ^ 31) : nI a / nI b = nI (a / b) := by
  apply Int32.toInt_inj.mp
  rw [Int32.toInt_div, nI_toInt ha, nI_toInt hb, nI_toInt (Nat.lt_of_le_of_lt (Nat.div_le_self a b) ha)]
  have h1 : (a : Int).tdiv (b : Int) = ((a / b : Nat) : Int) := Int.ofNat_tdiv a b
  rw [h1]
  have h2 : a / b < 2 ^ 31 := Nat.lt_of_le_of_lt (Nat.div_le_self a b) ha
  have h3 : (0 : Int) ≤ ((a / b : Nat) : Int) := Int.natCast_nonneg _
  generalize ((a / b : Nat)) = d at h2 h3
  rw [Int.bmod_eq_of_le_mul_two (by omega) (by omega)]
theorem nI_rem {a b : Nat} (ha : a < 2 ^ 31) (hb : b < 2 ^ 31) : nI a - nI a / nI b * nI b = nI (a % b) := by
  rw [nI_div ha hb, nI_mul, nI_sub (Nat.div_mul_le_self a b)]
  congr 1
  have := Nat.div_add_mod a b
  rw [Nat.mul_comm] at this
  omega
/-- the values of a list of locals, in another list -/
def xinL : List (Nat × Value) → List (Nat × Value) → Prop
  | [], _ => True
  | q :: R, L => xlk L q.1 = some q.2 ∧ xinL R L
theorem xinL_has {L' L : List (Nat × Value)} {ls : Array Slot} {n : Nat} (hl : lv_has ls n L) (h : xinL L' L) : lv_has ls n L' := by
  refine ⟨hl.1, hl.2.1, ?_⟩
  induction L' with
  | nil => intro q hq; cases hq
  | cons a R ih =>
    intro q hq
    rcases List.mem_cons.mp hq with h1 | h1
    · rw [h1]; exact xlk_has hl h.1
    · exact ih h.2 q h1
theorem xV.loc {l : Launch} {G : xG} {fr wd : Nat} {M : xM} {pc : Nat} {L L' : List (Nat × Value)} {st : List Value} {h : xH} {Q : xR → xH → Prop} (k : xV l G fr wd M pc L' st h Q) (hL : xinL L' L) : xV l G fr wd M pc L st h Q := by
  obtain ⟨r, h', q, x1, x2, x⟩ := k
  exact ⟨r, h', q, x1, x2, fun p e R s m args below meth c H locs cells slots ls C hR hl hf h1 h2 h3 h4 => x p e R s m args below meth c H locs cells slots ls C hR (xinL_has hl hL) hf h1 h2 h3 h4⟩
section XMODEL
variable {l : Launch} {G : xG} {fr wd : Nat} {M : xM} {pc : Nat} {L : List (Nat × Value)} {st : List Value} {h0 : xH} {Q : xR → xH → Prop} {y : Nat} {S : Nat → Nat → Int32}
theorem x_incN {h : xH} {i n : Nat} (hd : decode (xMc M) pc = .ok (.iinc i 1, 3)) (hx : xlk L i = some (.int (nI n))) (hn : i < xMl M) (kq : xV l G fr wd M (pc + 3) (xst L i (.int (nI (n + 1)))) st h Q) : xV l G fr wd M pc L st h Q := x_inc hd hx hn (by rw [← nI_succ]; exact kq)
theorem x_zast {h : xH} {t a : Nat} {i x : Int32} (hd : decode (xMc M) pc = .ok (.bastore, 1)) (hT : xT h a = t) (ht : 100 ≤ t ∧ t < 200) (hty : xat t = some .boolean) (hi : vp_in i (xN h a)) (hx0 : narrow .boolean (.int x) = .int x)
    (kq : xV l G fr wd M (pc + 1) L st (xwI h a i.toNatClampNeg x) Q) : xV l G fr wd M pc L (.int x :: .int i :: .ref a :: st) h Q := by
  refine xgoW kq rfl (fun p e R s m args below meth c H locs cells slots ls Qw Cx hR hl kk => ?_)
  have q1 := xarr hR hT ht.1 ht.2 hty
  have hz : xGz G ≤ a := (hR.2.2.2 a (by rw [hT]; omega)).1
  obtain ⟨hx, hb, hml, hr, hlk, hown, hmn, hKn, -⟩ := Cx
  refine W.zast hx hb q1 ((hKn.2.1 t _ hty).1 _ _) (fun q => by cases q) (by rw [arrV_size]; exact hi) rfl rfl hd fun H2 g1 g2 g3 => kk H2 a _ ?_ hz
  rw [hx0] at g1
  exact xarrW (v := .int x) hR hT ht.1 ht.2 hty rfl rfl (fun ty b i hb => xsv_wI_a ty hb) (fun ty b i hb => xsv_wI_j ty hb) (congrArg Value.int (xu_s _ _ _ _)) g1 g2 g3
theorem xm_get {ix j : Nat} {C : vw_C} (hd : decode (xMc M) pc = .ok (.getfield ix, 3)) (hs : MSh h0 y) (hc : xcls[6]? = some C) (hj : j < C.2.2) (hw : Cond.fieldLink (xMn M).cls ix (C.2.1 j).1 (C.2.1 j).2.1 (C.2.1 j).2.2.1 ∈ xTT) (hv : ∀ (h : xH) (a : Nat), xsv (xft 6 j) h a j = .int (xI h a j))
    (kq : xV l G fr wd M (pc + 3) L (.int (S 0 j) :: st) (mset y S h0) Q) : xV l G fr wd M pc L (.ref y :: st) (mset y S h0) Q :=
  x_getE (k := 6) hd hs.1 hc hj hw (hv _ _) (mset_I (k := 0) (by decide)) kq
theorem xm_ref {ix j k : Nat} {C : vw_C} (hd : decode (xMc M) pc = .ok (.getfield ix, 3)) (hs : MSh h0 y) (hk : 1 ≤ k ∧ k < 16) (hm : mfi k = j) (hc : xcls[6]? = some C) (hj : j < C.2.2) (hw : Cond.fieldLink (xMn M).cls ix (C.2.1 j).1 (C.2.1 j).2.1 (C.2.1 j).2.2.1 ∈ xTT) (hv : xsv (xft 6 j) (mset y S h0) y j = va_rf (xP (mset y S h0) y j))
    (kq : xV l G fr wd M (pc + 3) L (.ref (y + k) :: st) (mset y S h0) Q) : xV l G fr wd M pc L (.ref y :: st) (mset y S h0) Q :=
  x_getR (k := 6) (b := y + k) hd hs.1 hc hj hw hv (by rw [← hm]; exact (hs.2 k hk).2.2) kq
theorem xm_put {ix j : Nat} {C : vw_C} {x : Int32} (hd : decode (xMc M) pc = .ok (.putfield ix, 3)) (hs : MSh h0 y) (hc : xcls[6]? = some C) (hj : j < C.2.2) (hw : Cond.fieldLink (xMn M).cls ix (C.2.1 j).1 (C.2.1 j).2.1 (C.2.1 j).2.2.1 ∈ xTT)
    (hfin : (C.2.1 j).2.2.2 = false ∨ ((C.2.1 j).2.2.2 = true ∧ (xMn M).name = "<init>" ∧ (C.2.1 j).1 = (xMn M).cls)) (hn : narrow (xft 6 j) (.int x) = .int x) (hfit : fits (xft 6 j) (.int x) = true) (hv : ∀ (h : xH) (a : Nat), xsv (xft 6 j) h a j = .int (xI h a j))
    (kq : xV l G fr wd M (pc + 3) L st (mset y (xu S 0 j x) h0) Q) : xV l G fr wd M pc L (.int x :: .ref y :: st) (mset y S h0) Q :=
  x_putI (k := 6) hd hs.1 hc hj hw hfin hn hfit (hv _ _) (by have := mset_w (y := y) (k := 0) (j := j) (S := S) (h := h0) (v := x) (by decide); rw [Nat.add_zero] at this; rw [this]; exact kq)
theorem xm_ald {k i : Nat} (hd : decode (xMc M) pc = .ok (.iaload, 1)) (hs : MSh h0 y) (hk : 1 ≤ k ∧ k < 16) (hkd : mkd k = 100) (hi : i < mlen k)
    (kq : xV l G fr wd M (pc + 1) L (.int (S k i) :: st) (mset y S h0) Q) : xV l G fr wd M pc L (.int (nI i) :: .ref (y + k) :: st) (mset y S h0) Q :=
  x_ialdN (cap := mlen k) hd ((hs.2 k hk).1.trans hkd) (hs.2 k hk).2.1 hi (by unfold mlen; split <;> decide) (mset_I hk.2) kq
theorem xm_zld {k i : Nat} (hd : decode (xMc M) pc = .ok (.baload, 1)) (hs : MSh h0 y) (hk : 1 ≤ k ∧ k < 16) (hkd : mkd k = 101) (hi : i < mlen k)
    (kq : xV l G fr wd M (pc + 1) L (.int (S k i) :: st) (mset y S h0) Q) : xV l G fr wd M pc L (.int (nI i) :: .ref (y + k) :: st) (mset y S h0) Q :=
  x_zaldN (cap := mlen k) hd ((hs.2 k hk).1.trans hkd) (hs.2 k hk).2.1 hi (by unfold mlen; split <;> decide) (mset_I hk.2) kq
theorem xm_ast {k i : Nat} {v : Int32} (hd : decode (xMc M) pc = .ok (.iastore, 1)) (hs : MSh h0 y) (hk : 1 ≤ k ∧ k < 16) (hkd : mkd k = 100) (hi : i < mlen k)
    (kq : xV l G fr wd M (pc + 1) L st (mset y (xu S k i v) h0) Q) : xV l G fr wd M pc L (.int v :: .int (nI i) :: .ref (y + k) :: st) (mset y S h0) Q :=
  x_iastN (cap := mlen k) hd ((hs.2 k hk).1.trans hkd) (hs.2 k hk).2.1 hi (by unfold mlen; split <;> decide) (by rw [mset_w hk.2]; exact kq)
theorem xm_zst {k i : Nat} {v : Int32} (hd : decode (xMc M) pc = .ok (.bastore, 1)) (hs : MSh h0 y) (hk : 1 ≤ k ∧ k < 16) (hkd : mkd k = 101) (hi : i < mlen k) (hx0 : narrow .boolean (.int v) = .int v)
    (kq : xV l G fr wd M (pc + 1) L st (mset y (xu S k i v) h0) Q) : xV l G fr wd M pc L (.int v :: .int (nI i) :: .ref (y + k) :: st) (mset y S h0) Q := by
  have hc : mlen k < 2 ^ 31 := by unfold mlen; split <;> decide
  refine x_zast (t := 101) hd ((hs.2 k hk).1.trans hkd) (by decide) rfl (by rw [show xN (mset y S h0) (y + k) = mlen k from (hs.2 k hk).2.1]; exact vp_in_nI hi hc) hx0 ?_
  rw [nI_clamp (Nat.lt_trans hi hc), mset_w hk.2]
  exact kq
end XMODEL
end
section
def bI (p : Prop) [Decidable p] : Int32 := if p then nI 1 else nI 0
theorem bI_t {p : Prop} [Decidable p] (h : p) : bI p = nI 1 := if_pos h
theorem bI_f {p : Prop} [Decidable p] (h : ¬ p) : bI p = nI 0 := if_neg h
theorem bI_0 {p : Prop} [Decidable p] : bI p = 0 ↔ ¬ p := by
  by_cases h : p
  · rw [bI_t h]; exact ⟨fun q => absurd q (by decide), fun q => absurd h q⟩
  · rw [bI_f h]; exact ⟨fun _ => h, fun _ => rfl⟩
theorem bI_nar {p : Prop} [Decidable p] : narrow .boolean (.int (bI p)) = .int (bI p) := by
  by_cases h : p
  · rw [bI_t h]; rfl
  · rw [bI_f h]; rfl
section XM1
variable {l : Launch} {G : xG} {h0 : xH} {y : Nat} {S : Nat → Nat → Int32}
theorem c_M_in {h : xH} (v a b : Int32) : xVM l G 0 0 m_M_in [.int v, .int a, .int b] h (fun r h' => r = .inl (some (.int (bI (a ≤ v ∧ v ≤ b)))) ∧ h' = h) := by
  unfold xVM
  refine x_iload_n d_M_in_0 rfl ?_
  refine x_iload_n d_M_in_1 rfl ?_
  refine x_icmp_lt (tgt := 14) d_M_in_2 (by decide) (fun c1 => ?_) (fun c1 => ?_)
  · refine x_iconst (v := nI 0) d_M_in_14 (by decide) ?_
    refine x_iret d_M_in_15 rfl (by first | rfl | assumption) ?_
    exact ⟨by rw [bI_f (fun q => absurd q.1 (Int32.not_le.mpr c1))], rfl⟩
  · refine x_iload_n d_M_in_5 rfl ?_
    refine x_iload_n d_M_in_6 rfl ?_
    refine x_icmp_gt (tgt := 14) d_M_in_7 (by decide) (fun c2 => ?_) (fun c2 => ?_)
    · refine x_iconst (v := nI 0) d_M_in_14 (by decide) ?_
      refine x_iret d_M_in_15 rfl (by first | rfl | assumption) ?_
      exact ⟨by rw [bI_f (fun q => absurd q.2 (Int32.not_le.mpr c2))], rfl⟩
    · refine x_iconst (v := nI 1) d_M_in_10 (by decide) ?_
      refine x_goto (tgt := 15) d_M_in_11 (by decide) ?_
      refine x_iret d_M_in_15 rfl (by first | rfl | assumption) ?_
      exact ⟨by rw [bI_t ⟨Int32.not_lt.mp c1, Int32.not_lt.mp c2⟩], rfl⟩
theorem c_M_bad (hs : MSh h0 y) (b : Int32) : xVM l G 0 0 m_M_bad [.ref y, .int b] (mset y S h0) (fun r h' => r = .inl (some (.int (bI (b = 0)))) ∧ h' = mset y (xu S 0 14 (bI (b = 0))) h0) := by
  unfold xVM
  refine x_aload_n d_M_bad_0 rfl ?_
  refine x_iload_n d_M_bad_1 rfl ?_
  refine x_if_eq (tgt := 9) d_M_bad_2 (by decide) (fun c1 => ?_) (fun c1 => ?_)
  · refine x_iconst (v := nI 1) d_M_bad_9 (by decide) ?_
    refine xm_put (j := 14) d_M_bad_10 hs rfl (by decide) wf_M_64 (Or.inl rfl) (by first | rfl | assumption) rfl (fun _ _ => rfl) ?_
    refine x_iload_n d_M_bad_13 rfl ?_
    refine x_if_ne_f 21 d_M_bad_14 (by decide) (c1) ?_
    refine x_iconst (v := nI 1) d_M_bad_17 (by decide) ?_
    refine x_goto (tgt := 22) d_M_bad_18 (by decide) ?_
    refine x_iret d_M_bad_22 rfl (by first | rfl | assumption) ?_
    rw [bI_t c1]
    exact ⟨rfl, rfl⟩
  · refine x_iconst (v := nI 0) d_M_bad_5 (by decide) ?_
    refine x_goto (tgt := 10) d_M_bad_6 (by decide) ?_
    refine xm_put (j := 14) d_M_bad_10 hs rfl (by decide) wf_M_64 (Or.inl rfl) (by first | rfl | assumption) rfl (fun _ _ => rfl) ?_
    refine x_iload_n d_M_bad_13 rfl ?_
    refine x_if_ne_t (tgt := 21) d_M_bad_14 (by decide) (c1) ?_
    refine x_iconst (v := nI 0) d_M_bad_21 (by decide) ?_
    refine x_iret d_M_bad_22 rfl (by first | rfl | assumption) ?_
    rw [bI_f c1]
    exact ⟨rfl, rfl⟩
theorem c_M_fail (hs : MSh h0 y) (b : Int32) : xVM l G 0 0 m_M_fail [.ref y, .int b] (mset y S h0) (fun r h' => r = .inl (some (.int (nI 0))) ∧ h' = mset y (xu S 0 14 b) h0) := by
  unfold xVM
  refine x_aload_n d_M_fail_0 rfl ?_
  refine x_iload_n d_M_fail_1 rfl ?_
  refine xm_put (j := 14) d_M_fail_2 hs rfl (by decide) wf_M_64 (Or.inl rfl) (by first | rfl | assumption) rfl (fun _ _ => rfl) ?_
  refine x_iconst (v := nI 0) d_M_fail_5 (by decide) ?_
  refine x_iret d_M_fail_6 rfl (by first | rfl | assumption) ?_
  exact ⟨rfl, rfl⟩
theorem c_M_thrown (hs : MSh h0 y) : xVM l G 0 0 m_M_thrown [.ref y] (mset y S h0) (fun r h' => r = .inl (some (.int (S 0 14))) ∧ h' = mset y S h0) := by
  unfold xVM
  refine x_aload_n d_M_thrown_0 rfl ?_
  refine xm_get (j := 14) d_M_thrown_1 hs rfl (by decide) wf_M_64 (fun _ _ => rfl) ?_
  refine x_iret d_M_thrown_4 rfl (by first | rfl | assumption) ?_
  exact ⟨rfl, rfl⟩
/-- giveUp, of the workers below n -/
def gvS (S : Nat → Nat → Int32) (ro : Int32) (n : Nat) : Nat → Nat → Int32 := fun k j => if (k = 4 ∨ k = 5) ∧ j < n ∧ (ro = 0 ∨ nI 8 ≤ S 4 j) then (if k = 4 then -1 else nI 0) else S k j
theorem gvS_0 (S : Nat → Nat → Int32) (ro : Int32) : gvS S ro 0 = S := by
  funext k j; exact if_neg (by omega)
theorem gvS_4 (S : Nat → Nat → Int32) (ro : Int32) {n j : Nat} (h : n ≤ j) (k : Nat) : gvS S ro n k j = S k j := if_neg (by omega)
theorem gvS_s {S : Nat → Nat → Int32} {ro : Int32} {n : Nat} (h : ro = 0 ∨ nI 8 ≤ S 4 n) : xu (xu (gvS S ro n) 4 n (-1)) 5 n (nI 0) = gvS S ro (n + 1) := by
  funext k j
  by_cases hj : j = n
  · subst hj
    by_cases h4 : k = 4
    · subst h4; simp [xu, gvS, h]
    · by_cases h5 : k = 5
      · subst h5; simp [xu, gvS, h]
      · simp [xu, gvS, h4, h5]
  · simp only [xu, hj, and_false, if_false, gvS]
    have : j < n ↔ j < n + 1 := by omega
    simp only [this]
theorem gvS_n {S : Nat → Nat → Int32} {ro : Int32} {n : Nat} (h : ¬ (ro = 0 ∨ nI 8 ≤ S 4 n)) : gvS S ro n = gvS S ro (n + 1) := by
  funext k j
  by_cases hj : j = n
  · subst hj; simp [gvS, h]
  · have : j < n ↔ j < n + 1 := by omega
    simp only [gvS, this]
theorem c_M_giveUp (hs : MSh h0 y) (ro : Int32) : xVM l G 0 0 m_M_giveUp [.ref y, .int ro] (mset y S h0) (fun r h' => r = .inl none ∧ h' = mset y (gvS S ro 4) h0) := by
  have lp : ∀ m i : Nat, i + m = 4 → xV l G 0 0 m_M_giveUp 2 [(2, .int (nI i)), (0, .ref y), (1, .int ro)] [] (mset y (gvS S ro i) h0) (fun r h' => r = .inl none ∧ h' = mset y (gvS S ro 4) h0) := by
    intro m
    induction m with
    | zero =>
      intro i him
      obtain rfl : i = 4 := by omega
      refine x_iload_n d_M_giveUp_2 rfl ?_
      refine x_iconst (v := nI 4) d_M_giveUp_3 (by decide) ?_
      refine x_icmp_ge_t (tgt := 45) d_M_giveUp_4 (by decide) ((nI_le (by omega) (by omega))) ?_
      refine x_vret d_M_giveUp_45 rfl ?_
      exact ⟨rfl, rfl⟩
    | succ m ih =>
      intro i him
      have hi4 : i < mlen 4 := by show i < 4; omega
      have hi5 : i < mlen 5 := by show i < 4; omega
      refine x_iload_n d_M_giveUp_2 rfl ?_
      refine x_iconst (v := nI 4) d_M_giveUp_3 (by decide) ?_
      refine x_icmp_ge_f 45 d_M_giveUp_4 (by decide) ((nI_ge (by omega) (by omega))) ?_
      refine x_iload_n d_M_giveUp_7 rfl ?_
      refine x_if_eq (tgt := 25) d_M_giveUp_8 (by decide) (fun c1 => ?_) (fun c1 => ?_)
      · refine x_aload_n d_M_giveUp_25 rfl ?_
        refine xm_ref (k := 4) (j := 3) d_M_giveUp_26 hs (by decide) rfl rfl (by decide) wf_M_19 rfl ?_
        refine x_iload_n d_M_giveUp_29 rfl ?_
        refine x_iconst (v := (-1)) d_M_giveUp_30 (by decide) ?_
        refine xm_ast d_M_giveUp_31 hs (by decide) rfl (by first | decide | assumption | omega) ?_
        refine x_aload_n d_M_giveUp_32 rfl ?_
        refine xm_ref (k := 5) (j := 4) d_M_giveUp_33 hs (by decide) rfl rfl (by decide) wf_M_22 rfl ?_
        refine x_iload_n d_M_giveUp_36 rfl ?_
        refine x_iconst (v := nI 0) d_M_giveUp_37 (by decide) ?_
        refine xm_ast d_M_giveUp_38 hs (by decide) rfl (by first | decide | assumption | omega) ?_
        first | refine x_incN d_M_giveUp_39 rfl (by decide) ?_ | refine x_inc d_M_giveUp_39 rfl (by decide) ?_
        refine x_goto (tgt := 2) d_M_giveUp_42 (by decide) ?_
        rw [gvS_s (Or.inl c1)]
        exact ih (i + 1) (by omega)
      · refine x_aload_n d_M_giveUp_11 rfl ?_
        refine xm_ref (k := 4) (j := 3) d_M_giveUp_12 hs (by decide) rfl rfl (by decide) wf_M_19 rfl ?_
        refine x_iload_n d_M_giveUp_15 rfl ?_
        refine xm_ald d_M_giveUp_16 hs (by decide) rfl (by first | decide | assumption | omega) ?_
        refine x_bipush (v := nI 8) d_M_giveUp_17 (by decide) ?_
        rw [gvS_4 S ro (Nat.le_refl i)]
        refine x_icmp_ge (tgt := 25) d_M_giveUp_19 (by decide) (fun c2 => ?_) (fun c2 => ?_)
        · refine x_aload_n d_M_giveUp_25 rfl ?_
          refine xm_ref (k := 4) (j := 3) d_M_giveUp_26 hs (by decide) rfl rfl (by decide) wf_M_19 rfl ?_
          refine x_iload_n d_M_giveUp_29 rfl ?_
          refine x_iconst (v := (-1)) d_M_giveUp_30 (by decide) ?_
          refine xm_ast d_M_giveUp_31 hs (by decide) rfl (by first | decide | assumption | omega) ?_
          refine x_aload_n d_M_giveUp_32 rfl ?_
          refine xm_ref (k := 5) (j := 4) d_M_giveUp_33 hs (by decide) rfl rfl (by decide) wf_M_22 rfl ?_
          refine x_iload_n d_M_giveUp_36 rfl ?_
          refine x_iconst (v := nI 0) d_M_giveUp_37 (by decide) ?_
          refine xm_ast d_M_giveUp_38 hs (by decide) rfl (by first | decide | assumption | omega) ?_
          first | refine x_incN d_M_giveUp_39 rfl (by decide) ?_ | refine x_inc d_M_giveUp_39 rfl (by decide) ?_
          refine x_goto (tgt := 2) d_M_giveUp_42 (by decide) ?_
          rw [gvS_s (Or.inr c2)]
          exact ih (i + 1) (by omega)
        · refine x_goto (tgt := 39) d_M_giveUp_22 (by decide) ?_
          first | refine x_incN d_M_giveUp_39 rfl (by decide) ?_ | refine x_inc d_M_giveUp_39 rfl (by decide) ?_
          refine x_goto (tgt := 2) d_M_giveUp_42 (by decide) ?_
          rw [gvS_n (fun q => q.elim c1 c2)]
          exact ih (i + 1) (by omega)
  unfold xVM
  refine x_iconst (v := nI 0) d_M_giveUp_0 (by decide) ?_
  refine x_istore_n d_M_giveUp_1 (by decide) ?_
  have := lp 4 0 (by omega)
  rw [gvS_0] at this
  exact this
end XM1
end
section
section XM2
variable {l : Launch} {G : xG} {h0 : xH} {y : Nat} {S : Nat → Nat → Int32}
theorem c_M_mapsDone (hs : MSh h0 y) {c : Nat} (hc : S 0 13 = nI c) (hc6 : c ≤ 6) : xVM l G 0 0 m_M_mapsDone [.ref y] (mset y S h0) (fun r h' => r = .inl (some (.int (bI (∀ t, t < c → ¬ S 8 t = 0)))) ∧ h' = mset y S h0) := by
  have lp : ∀ m i : Nat, i + m = c → (∀ t, t < i → ¬ S 8 t = 0) → xV l G 0 0 m_M_mapsDone 2 [(1, .int (nI i)), (0, .ref y)] [] (mset y S h0) (fun r h' => r = .inl (some (.int (bI (∀ t, t < c → ¬ S 8 t = 0)))) ∧ h' = mset y S h0) := by
    intro m
    induction m with
    | zero =>
      intro i him hi
      obtain rfl : i = c := by omega
      refine x_iload_n d_M_mapsDone_2 rfl ?_
      refine x_aload_n d_M_mapsDone_3 rfl ?_
      refine xm_get (j := 13) d_M_mapsDone_4 hs rfl (by decide) wf_M_79 (fun _ _ => rfl) ?_
      rw [hc]
      refine x_icmp_ge_t (tgt := 27) d_M_mapsDone_7 (by decide) ((nI_le (by omega) (by omega))) ?_
      refine x_iconst (v := nI 1) d_M_mapsDone_27 (by decide) ?_
      refine x_iret d_M_mapsDone_28 rfl (by first | rfl | assumption) ?_
      exact ⟨by rw [bI_t hi], rfl⟩
    | succ m ih =>
      intro i him hi
      have hi8 : i < mlen 8 := by show i < 11; omega
      refine x_iload_n d_M_mapsDone_2 rfl ?_
      refine x_aload_n d_M_mapsDone_3 rfl ?_
      refine xm_get (j := 13) d_M_mapsDone_4 hs rfl (by decide) wf_M_79 (fun _ _ => rfl) ?_
      rw [hc]
      refine x_icmp_ge_f 27 d_M_mapsDone_7 (by decide) ((nI_ge (by omega) (by omega))) ?_
      refine x_aload_n d_M_mapsDone_10 rfl ?_
      refine xm_ref (k := 8) (j := 7) d_M_mapsDone_11 hs (by decide) rfl rfl (by decide) wf_M_32 rfl ?_
      refine x_iload_n d_M_mapsDone_14 rfl ?_
      refine xm_zld d_M_mapsDone_15 hs (by decide) rfl (by first | decide | assumption | omega) ?_
      refine x_if_ne (tgt := 21) d_M_mapsDone_16 (by decide) (fun c1 => ?_) (fun c1 => ?_)
      · first | refine x_incN d_M_mapsDone_21 rfl (by decide) ?_ | refine x_inc d_M_mapsDone_21 rfl (by decide) ?_
        refine x_goto (tgt := 2) d_M_mapsDone_24 (by decide) ?_
        exact ih (i + 1) (by omega) (fun t ht => by
          rcases Nat.lt_succ_iff_lt_or_eq.mp ht with h2 | h2
          · exact hi t h2
          · rw [h2]; exact c1)
      · refine x_iconst (v := nI 0) d_M_mapsDone_19 (by decide) ?_
        refine x_iret d_M_mapsDone_20 rfl (by first | rfl | assumption) ?_
        exact ⟨by rw [bI_f (fun q => q i (by omega) c1)], rfl⟩
  unfold xVM
  refine x_iconst (v := nI 0) d_M_mapsDone_0 (by decide) ?_
  refine x_istore_n d_M_mapsDone_1 (by decide) ?_
  exact lp c 0 (by omega) (fun t ht => absurd ht (Nat.not_lt_zero t))
/-- how many of the first n workers do task t -/
def dng (S : Nat → Nat → Int32) (t : Int32) : Nat → Nat
  | 0 => 0
  | n + 1 => dng S t n + (if S 4 n = t then 1 else 0)
theorem c_M_doing (hs : MSh h0 y) (t : Int32) : xVM l G 0 0 m_M_doing [.ref y, .int t] (mset y S h0) (fun r h' => r = .inl (some (.int (nI (dng S t 4)))) ∧ h' = mset y S h0) := by
  have lp : ∀ m i : Nat, i + m = 4 → xV l G 0 0 m_M_doing 4 [(3, .int (nI i)), (2, .int (nI (dng S t i))), (0, .ref y), (1, .int t)] [] (mset y S h0) (fun r h' => r = .inl (some (.int (nI (dng S t 4)))) ∧ h' = mset y S h0) := by
    intro m
    induction m with
    | zero =>
      intro i him
      obtain rfl : i = 4 := by omega
      refine x_iload_n d_M_doing_4 rfl ?_
      refine x_iconst (v := nI 4) d_M_doing_5 (by decide) ?_
      refine x_icmp_ge_t (tgt := 28) d_M_doing_6 (by decide) ((nI_le (by omega) (by omega))) ?_
      refine x_iload_n d_M_doing_28 rfl ?_
      refine x_iret d_M_doing_29 rfl (by first | rfl | assumption) ?_
      exact ⟨rfl, rfl⟩
    | succ m ih =>
      intro i him
      have hi4 : i < mlen 4 := by show i < 4; omega
      have := ih (i + 1) (by omega)
      refine x_iload_n d_M_doing_4 rfl ?_
      refine x_iconst (v := nI 4) d_M_doing_5 (by decide) ?_
      refine x_icmp_ge_f 28 d_M_doing_6 (by decide) ((nI_ge (by omega) (by omega))) ?_
      refine x_aload_n d_M_doing_9 rfl ?_
      refine xm_ref (k := 4) (j := 3) d_M_doing_10 hs (by decide) rfl rfl (by decide) wf_M_19 rfl ?_
      refine x_iload_n d_M_doing_13 rfl ?_
      refine xm_ald d_M_doing_14 hs (by decide) rfl (by first | decide | assumption | omega) ?_
      refine x_iload_n d_M_doing_15 rfl ?_
      refine x_icmp_ne (tgt := 22) d_M_doing_16 (by decide) (fun c1 => ?_) (fun c1 => ?_)
      · first | refine x_incN d_M_doing_22 rfl (by decide) ?_ | refine x_inc d_M_doing_22 rfl (by decide) ?_
        refine x_goto (tgt := 4) d_M_doing_25 (by decide) ?_
        rw [show dng S t (i + 1) = dng S t i by simp [dng, c1]] at this
        exact this
      · first | refine x_incN d_M_doing_19 rfl (by decide) ?_ | refine x_inc d_M_doing_19 rfl (by decide) ?_
        first | refine x_incN d_M_doing_22 rfl (by decide) ?_ | refine x_inc d_M_doing_22 rfl (by decide) ?_
        refine x_goto (tgt := 4) d_M_doing_25 (by decide) ?_
        rw [show dng S t (i + 1) = dng S t i + 1 by simp [dng, c1]] at this
        exact this
  unfold xVM
  refine x_iconst (v := nI 0) d_M_doing_0 (by decide) ?_
  refine x_istore_n d_M_doing_1 (by decide) ?_
  refine x_iconst (v := nI 0) d_M_doing_2 (by decide) ?_
  refine x_istore_n d_M_doing_3 (by decide) ?_
  exact lp 4 0 (by omega)
def lfo (S : Nat → Nat → Int32) (t : Int32) : Int32 := match idxOf (S 4) t 4 with
  | some w => S 5 w
  | none => nI 0
theorem c_M_leftOf (hs : MSh h0 y) (t : Int32) : xVM l G 0 0 m_M_leftOf [.ref y, .int t] (mset y S h0) (fun r h' => r = .inl (some (.int (lfo S t))) ∧ h' = mset y S h0) := by
  have lp : ∀ m i : Nat, i + m = 4 → (∀ j, j < i → S 4 j ≠ t) → xV l G 0 0 m_M_leftOf 2 [(2, .int (nI i)), (0, .ref y), (1, .int t)] [] (mset y S h0) (fun r h' => r = .inl (some (.int (lfo S t))) ∧ h' = mset y S h0) := by
    intro m
    induction m with
    | zero =>
      intro i him hj
      obtain rfl : i = 4 := by omega
      refine x_iload_n d_M_leftOf_2 rfl ?_
      refine x_iconst (v := nI 4) d_M_leftOf_3 (by decide) ?_
      refine x_icmp_ge_t (tgt := 30) d_M_leftOf_4 (by decide) ((nI_le (by omega) (by omega))) ?_
      refine x_iconst (v := nI 0) d_M_leftOf_30 (by decide) ?_
      refine x_iret d_M_leftOf_31 rfl (by first | rfl | assumption) ?_
      exact ⟨by rw [show lfo S t = nI 0 by unfold lfo; rw [idxOf_none.mpr hj]], rfl⟩
    | succ m ih =>
      intro i him hj
      have hi4 : i < mlen 4 := by show i < 4; omega
      have hi5 : i < mlen 5 := by show i < 4; omega
      refine x_iload_n d_M_leftOf_2 rfl ?_
      refine x_iconst (v := nI 4) d_M_leftOf_3 (by decide) ?_
      refine x_icmp_ge_f 30 d_M_leftOf_4 (by decide) ((nI_ge (by omega) (by omega))) ?_
      refine x_aload_n d_M_leftOf_7 rfl ?_
      refine xm_ref (k := 4) (j := 3) d_M_leftOf_8 hs (by decide) rfl rfl (by decide) wf_M_19 rfl ?_
      refine x_iload_n d_M_leftOf_11 rfl ?_
      refine xm_ald d_M_leftOf_12 hs (by decide) rfl (by first | decide | assumption | omega) ?_
      refine x_iload_n d_M_leftOf_13 rfl ?_
      refine x_icmp_ne (tgt := 24) d_M_leftOf_14 (by decide) (fun c1 => ?_) (fun c1 => ?_)
      · first | refine x_incN d_M_leftOf_24 rfl (by decide) ?_ | refine x_inc d_M_leftOf_24 rfl (by decide) ?_
        refine x_goto (tgt := 2) d_M_leftOf_27 (by decide) ?_
        exact ih (i + 1) (by omega) (fun j hj9 => by
          rcases Nat.lt_succ_iff_lt_or_eq.mp hj9 with h2 | h2
          · exact hj j h2
          · rw [h2]; exact c1)
      · refine x_aload_n d_M_leftOf_17 rfl ?_
        refine xm_ref (k := 5) (j := 4) d_M_leftOf_18 hs (by decide) rfl rfl (by decide) wf_M_22 rfl ?_
        refine x_iload_n d_M_leftOf_21 rfl ?_
        refine xm_ald d_M_leftOf_22 hs (by decide) rfl (by first | decide | assumption | omega) ?_
        refine x_iret d_M_leftOf_23 rfl (by first | rfl | assumption) ?_
        exact ⟨by rw [show lfo S t = S 5 i by unfold lfo; rw [idxOf_some (by omega) hj c1]], rfl⟩
  unfold xVM
  refine x_iconst (v := nI 0) d_M_leftOf_0 (by decide) ?_
  refine x_istore_n d_M_leftOf_1 (by decide) ?_
  exact lp 4 0 (by omega) (fun j hj => absurd hj (Nat.not_lt_zero j))
abbrev rdbl (S : Nat → Nat → Int32) (t : Nat) : Prop := 8 ≤ t ∨ ¬ S 7 (t % 4) = 0 ∨ ¬ S 7 ((t + 1) % 4) = 0
theorem c_M_readable (hs : MSh h0 y) {t : Nat} (ht : t < 11) : xVM l G 0 0 m_M_readable [.ref y, .int (nI t)] (mset y S h0) (fun r h' => r = .inl (some (.int (bI (rdbl S t)))) ∧ h' = mset y S h0) := by
  unfold xVM
  have e1 : nI t - nI t / nI 4 * nI 4 = nI (t % 4) := nI_rem (by omega) (by omega)
  have e2 : nI (t + 1) - nI (t + 1) / nI 4 * nI 4 = nI ((t + 1) % 4) := nI_rem (by omega) (by omega)
  have hm1 : t % 4 < mlen 7 := by show t % 4 < 4; omega
  have hm2 : (t + 1) % 4 < mlen 7 := by show (t + 1) % 4 < 4; omega
  refine x_iload_n d_M_readable_0 rfl ?_
  refine x_bipush (v := nI 8) d_M_readable_1 (by decide) ?_
  refine x_icmp_ge (tgt := 30) d_M_readable_3 (by decide) (fun c0 => ?_) (fun c0 => ?_)
  · refine x_iconst (v := nI 1) d_M_readable_30 (by decide) ?_
    refine x_goto (tgt := 35) d_M_readable_31 (by decide) ?_
    refine x_iret d_M_readable_35 rfl (by first | rfl | assumption) ?_
    exact ⟨by rw [bI_t (Or.inl ((nI_leI (by omega) (by omega)).mp c0))], rfl⟩
  · have c0' : ¬ 8 ≤ t := fun q => c0 (nI_le q (by omega))
    refine x_aload_n d_M_readable_6 rfl ?_
    refine xm_ref (k := 7) (j := 6) d_M_readable_7 hs (by decide) rfl rfl (by decide) wf_M_28 rfl ?_
    refine x_iload_n d_M_readable_10 rfl ?_
    refine x_iconst (v := nI 4) d_M_readable_11 (by decide) ?_
    refine x_irem d_M_readable_12 (by first | decide | assumption) ?_
    rw [e1]
    refine xm_zld d_M_readable_13 hs (by decide) rfl (by first | decide | assumption | omega) ?_
    refine x_if_ne (tgt := 30) d_M_readable_14 (by decide) (fun c1 => ?_) (fun c1 => ?_)
    · refine x_iconst (v := nI 1) d_M_readable_30 (by decide) ?_
      refine x_goto (tgt := 35) d_M_readable_31 (by decide) ?_
      refine x_iret d_M_readable_35 rfl (by first | rfl | assumption) ?_
      exact ⟨by rw [bI_t (Or.inr (Or.inl c1))], rfl⟩
    · refine x_aload_n d_M_readable_17 rfl ?_
      refine xm_ref (k := 7) (j := 6) d_M_readable_18 hs (by decide) rfl rfl (by decide) wf_M_28 rfl ?_
      refine x_iload_n d_M_readable_21 rfl ?_
      refine x_iconst (v := nI 1) d_M_readable_22 (by decide) ?_
      refine x_iadd d_M_readable_23 ?_
      refine x_iconst (v := nI 4) d_M_readable_24 (by decide) ?_
      refine x_irem d_M_readable_25 (by first | decide | assumption) ?_
      rw [nI_add, e2]
      refine xm_zld d_M_readable_26 hs (by decide) rfl (by first | decide | assumption | omega) ?_
      refine x_if_eq (tgt := 34) d_M_readable_27 (by decide) (fun c2 => ?_) (fun c2 => ?_)
      · refine x_iconst (v := nI 0) d_M_readable_34 (by decide) ?_
        refine x_iret d_M_readable_35 rfl (by first | rfl | assumption) ?_
        exact ⟨by rw [bI_f (by rintro (q | q | q); exact c0' q; exact q c1; exact q c2)], rfl⟩
      · refine x_iconst (v := nI 1) d_M_readable_30 (by decide) ?_
        refine x_goto (tgt := 35) d_M_readable_31 (by decide) ?_
        refine x_iret d_M_readable_35 rfl (by first | rfl | assumption) ?_
        exact ⟨by rw [bI_t (Or.inr (Or.inr c2))], rfl⟩
def rns (S : Nat → Nat → Int32) (t : Nat) : Int32 := (S 12 t + S 0 20 - nI 1) / S 0 20
theorem c_M_runs (hs : MSh h0 y) {t : Nat} (ht : t < 6) (hb : ¬ S 0 20 = 0) : xVM l G 0 0 m_M_runs [.ref y, .int (nI t)] (mset y S h0) (fun r h' => r = .inl (some (.int (rns S t))) ∧ h' = mset y S h0) := by
  have ht' : t < mlen 12 := ht
  unfold xVM
  refine x_aload_n d_M_runs_0 rfl ?_
  refine xm_ref (k := 12) (j := 11) d_M_runs_1 hs (by decide) rfl rfl (by decide) wf_M_44 rfl ?_
  refine x_iload_n d_M_runs_4 rfl ?_
  refine xm_ald d_M_runs_5 hs (by decide) rfl (by first | decide | assumption | omega) ?_
  refine x_aload_n d_M_runs_6 rfl ?_
  refine xm_get (j := 20) d_M_runs_7 hs rfl (by decide) wf_M_125 (fun _ _ => rfl) ?_
  refine x_iadd d_M_runs_10 ?_
  refine x_iconst (v := nI 1) d_M_runs_11 (by decide) ?_
  refine x_isub d_M_runs_12 ?_
  refine x_aload_n d_M_runs_13 rfl ?_
  refine xm_get (j := 20) d_M_runs_14 hs rfl (by decide) wf_M_125 (fun _ _ => rfl) ?_
  refine x_idiv d_M_runs_17 (by first | decide | assumption) ?_
  refine x_iret d_M_runs_18 rfl (by first | rfl | assumption) ?_
  exact ⟨rfl, rfl⟩
def jrem (x y : Int32) : Int32 := x - x / y * y
def mdl (v n : Int32) : Int32 := jrem (jrem v n + n) n
theorem c_M_modulo {h : xH} (v n : Int32) (hn : ¬ n = 0) : xVM l G 0 0 m_M_modulo [.int v, .int n] h (fun r h' => r = .inl (some (.int (mdl v n))) ∧ h' = h) := by
  unfold xVM
  refine x_iload_n d_M_modulo_0 rfl ?_
  refine x_iload_n d_M_modulo_1 rfl ?_
  refine x_irem d_M_modulo_2 (by first | decide | assumption) ?_
  refine x_iload_n d_M_modulo_3 rfl ?_
  refine x_iadd d_M_modulo_4 ?_
  refine x_iload_n d_M_modulo_5 rfl ?_
  refine x_irem d_M_modulo_6 (by first | decide | assumption) ?_
  refine x_iret d_M_modulo_7 rfl (by first | rfl | assumption) ?_
  exact ⟨rfl, rfl⟩
/-- pairs of partition p among the first n -/
def pof (S : Nat → Nat → Int32) (p : Int32) : Nat → Nat
  | 0 => 0
  | n + 1 => pof S p n + (if mdl (S 10 n) (S 0 19) = p then 1 else 0)
theorem c_M_pairsOf (hs : MSh h0 y) (p : Int32) {np : Nat} (hp : S 0 12 = nI np) (hnp : np ≤ 300) (hr : ¬ S 0 19 = 0) : xVM l G 1 21 m_M_pairsOf [.ref y, .int p] (mset y S h0) (fun r h' => r = .inl (some (.int (nI (pof S p np)))) ∧ h' = mset y S h0) := by
  have lp : ∀ m i : Nat, i + m = np → xV l G 1 21 m_M_pairsOf 4 [(3, .int (nI i)), (2, .int (nI (pof S p i))), (0, .ref y), (1, .int p)] [] (mset y S h0) (fun r h' => r = .inl (some (.int (nI (pof S p np)))) ∧ h' = mset y S h0) := by
    intro m
    induction m with
    | zero =>
      intro i him
      obtain rfl : i = np := by omega
      refine x_iload_n d_M_pairsOf_4 rfl ?_
      refine x_aload_n d_M_pairsOf_5 rfl ?_
      refine xm_get (j := 12) d_M_pairsOf_6 hs rfl (by decide) wf_M_86 (fun _ _ => rfl) ?_
      rw [hp]
      refine x_icmp_ge_t (tgt := 38) d_M_pairsOf_9 (by decide) ((nI_le (by omega) (by omega))) ?_
      refine x_iload_n d_M_pairsOf_38 rfl ?_
      refine x_iret d_M_pairsOf_39 rfl (by first | rfl | assumption) ?_
      exact ⟨rfl, rfl⟩
    | succ m ih =>
      intro i him
      have hi4 : i < mlen 10 := by show i < 300; omega
      have := ih (i + 1) (by omega)
      refine x_iload_n d_M_pairsOf_4 rfl ?_
      refine x_aload_n d_M_pairsOf_5 rfl ?_
      refine xm_get (j := 12) d_M_pairsOf_6 hs rfl (by decide) wf_M_86 (fun _ _ => rfl) ?_
      rw [hp]
      refine x_icmp_ge_f 38 d_M_pairsOf_9 (by decide) ((nI_ge (by omega) (by omega))) ?_
      refine x_aload_n d_M_pairsOf_12 rfl ?_
      refine xm_ref (k := 10) (j := 9) d_M_pairsOf_13 hs (by decide) rfl rfl (by decide) wf_M_38 rfl ?_
      refine x_iload_n d_M_pairsOf_16 rfl ?_
      refine xm_ald d_M_pairsOf_17 hs (by decide) rfl (by first | decide | assumption | omega) ?_
      refine x_aload_n d_M_pairsOf_18 rfl ?_
      refine xm_get (j := 19) d_M_pairsOf_19 hs rfl (by decide) wf_M_103 (fun _ _ => rfl) ?_
      refine x_callS (M' := m_M_modulo) (As := [_, _]) (fr' := 0) (wd' := 0) d_M_pairsOf_22 pl_M_modulo rfl (Nat.le_of_ble_eq_true rfl) (by decide) (by decide) wc_M_modulo wi_M wl_M_89 ws_M_modulo (by decide) np_M_modulo (Nat.le_of_ble_eq_true rfl) (fun q hq => by cases hq) (c_M_modulo _ _ hr) (fun k a h1 q => by cases q.1) (fun v h1 q => ?_)
      obtain ⟨q1, rfl⟩ := q
      cases q1
      refine x_iload_n d_M_pairsOf_25 rfl ?_
      refine x_icmp_ne (tgt := 32) d_M_pairsOf_26 (by decide) (fun c1 => ?_) (fun c1 => ?_)
      · first | refine x_incN d_M_pairsOf_32 rfl (by decide) ?_ | refine x_inc d_M_pairsOf_32 rfl (by decide) ?_
        refine x_goto (tgt := 4) d_M_pairsOf_35 (by decide) ?_
        rw [show pof S p (i + 1) = pof S p i by simp [pof, c1]] at this
        exact this
      · first | refine x_incN d_M_pairsOf_29 rfl (by decide) ?_ | refine x_inc d_M_pairsOf_29 rfl (by decide) ?_
        first | refine x_incN d_M_pairsOf_32 rfl (by decide) ?_ | refine x_inc d_M_pairsOf_32 rfl (by decide) ?_
        refine x_goto (tgt := 4) d_M_pairsOf_35 (by decide) ?_
        rw [show pof S p (i + 1) = pof S p i + 1 by simp [pof, c1]] at this
        exact this
  unfold xVM
  refine x_iconst (v := nI 0) d_M_pairsOf_0 (by decide) ?_
  refine x_istore_n d_M_pairsOf_1 (by decide) ?_
  refine x_iconst (v := nI 0) d_M_pairsOf_2 (by decide) ?_
  refine x_istore_n d_M_pairsOf_3 (by decide) ?_
  exact lp np 0 (by omega)
def nds (S : Nat → Nat → Int32) (np t : Nat) : Int32 := if t < 8 then nI 2 * S 1 t + rns S t else nI 1 + nI (pof S (nI (t - 8)) np)
theorem c_M_needs (hs : MSh h0 y) {t np : Nat} (ht : t < 6 ∨ (8 ≤ t ∧ t < 11)) (hp : S 0 12 = nI np) (hnp : np ≤ 300) (hr : ¬ S 0 19 = 0) (hb : ¬ S 0 20 = 0) : xVM l G 2 44 m_M_needs [.ref y, .int (nI t)] (mset y S h0) (fun r h' => r = .inl (some (.int (nds S np t))) ∧ h' = mset y S h0) := by
  unfold xVM
  rcases ht with ht | ht
  · have ht' : t < mlen 1 := ht
    refine x_iload_n d_M_needs_0 rfl ?_
    refine x_bipush (v := nI 8) d_M_needs_1 (by decide) ?_
    refine x_icmp_ge_f 23 d_M_needs_3 (by decide) ((nI_ge (by omega) (by omega))) ?_
    refine x_iconst (v := nI 2) d_M_needs_6 (by decide) ?_
    refine x_aload_n d_M_needs_7 rfl ?_
    refine xm_ref (k := 1) (j := 0) d_M_needs_8 hs (by decide) rfl rfl (by decide) wf_M_7 rfl ?_
    refine x_iload_n d_M_needs_11 rfl ?_
    refine xm_ald d_M_needs_12 hs (by decide) rfl (by first | decide | assumption | omega) ?_
    refine x_imul d_M_needs_13 ?_
    refine x_aload_n d_M_needs_14 rfl ?_
    refine x_iload_n d_M_needs_15 rfl ?_
    refine x_callV (M' := m_M_runs) (As := [_]) (fr' := 0) (wd' := 0) d_M_needs_16 hs.1 rfl pl_M_runs rfl (Nat.le_of_ble_eq_true rfl) (by decide) (by decide) wc_M_runs wi_M wl_M_134 wm_M_runs we_M_runs (by decide) np_M_runs (Nat.le_of_ble_eq_true rfl) (fun q hq => by cases hq) (c_M_runs hs ht hb) (fun k a h1 q => by cases q.1) (fun v h1 q => ?_)
    obtain ⟨q1, rfl⟩ := q
    cases q1
    refine x_iadd d_M_needs_19 ?_
    refine x_goto (tgt := 33) d_M_needs_20 (by decide) ?_
    refine x_iret d_M_needs_33 rfl (by first | rfl | assumption) ?_
    exact ⟨by rw [show nds S np t = nI 2 * S 1 t + rns S t from if_pos (by omega)], rfl⟩
  · refine x_iload_n d_M_needs_0 rfl ?_
    refine x_bipush (v := nI 8) d_M_needs_1 (by decide) ?_
    refine x_icmp_ge_t (tgt := 23) d_M_needs_3 (by decide) ((nI_le (by omega) (by omega))) ?_
    refine x_iconst (v := nI 1) d_M_needs_23 (by decide) ?_
    refine x_aload_n d_M_needs_24 rfl ?_
    refine x_iload_n d_M_needs_25 rfl ?_
    refine x_bipush (v := nI 8) d_M_needs_26 (by decide) ?_
    refine x_isub d_M_needs_28 ?_
    rw [nI_sub ht.1]
    refine x_callV (M' := m_M_pairsOf) (As := [_]) (fr' := 1) (wd' := 21) d_M_needs_29 hs.1 rfl pl_M_pairsOf rfl (Nat.le_of_ble_eq_true rfl) (by decide) (by decide) wc_M_pairsOf wi_M wl_M_137 wm_M_pairsOf we_M_pairsOf (by decide) np_M_pairsOf (Nat.le_of_ble_eq_true rfl) (fun q hq => by cases hq) (c_M_pairsOf hs _ hp hnp hr) (fun k a h1 q => by cases q.1) (fun v h1 q => ?_)
    obtain ⟨q1, rfl⟩ := q
    cases q1
    refine x_iadd d_M_needs_32 ?_
    refine x_iret d_M_needs_33 rfl (by first | rfl | assumption) ?_
    exact ⟨by rw [show nds S np t = _ from if_neg (by omega)], rfl⟩
end XM2
end
section
def oI : Option Nat → Int32
  | none => -1
  | some t => nI t
/-- the least number below n that has p -/
def lst (p : Nat → Bool) : Nat → Option Nat
  | 0 => none
  | n + 1 => match lst p n with
    | some j => some j
    | none => if p n then some n else none
theorem lst_some {p : Nat → Bool} {n j : Nat} (h : lst p n = some j) : lst p (n + 1) = some j := by simp [lst, h]
theorem lst_hit {p : Nat → Bool} {n : Nat} (h : lst p n = none) (hp : p n = true) : lst p (n + 1) = some n := by simp [lst, h, hp]
theorem lst_miss {p : Nat → Bool} {n : Nat} (hp : p n = false) : lst p (n + 1) = lst p n := by
  cases h : lst p n with
  | none => simp [lst, h, hp]
  | some j => simp [lst, h]
theorem lst_lt {p : Nat → Bool} {n j : Nat} (h : lst p n = some j) : j < n ∧ p j = true := by
  induction n with
  | zero => cases h
  | succ n ih =>
    cases hx : lst p n with
    | some k =>
      rw [lst_some hx] at h
      cases h
      exact ⟨Nat.lt_succ_of_lt (ih hx).1, (ih hx).2⟩
    | none =>
      cases hp : p n with
      | true => rw [lst_hit hx hp] at h; cases h; exact ⟨Nat.lt_succ_self _, hp⟩
      | false => rw [lst_miss hp, hx] at h; cases h
theorem lst_none {p : Nat → Bool} {n : Nat} (h : ∀ t, t < n → p t = false) : lst p n = none := by
  cases hx : lst p n with
  | none => rfl
  | some j => have := (lst_lt hx).2; rw [h j (lst_lt hx).1] at this; cases this
theorem dng_le (S : Nat → Nat → Int32) (t : Int32) : ∀ n, dng S t n ≤ n
  | 0 => Nat.le_refl 0
  | n + 1 => by
    have := dng_le S t n
    unfold dng
    split <;> omega
/-- task t, from fm on, is neither done nor being done, and can be read -/
def frs (S : Nat → Nat → Int32) (fm t : Nat) : Bool := decide (fm ≤ t ∧ S 8 t = 0 ∧ rdbl S t ∧ dng S (nI t) 4 = 0)
def frh (S : Nat → Nat → Int32) (fm w t : Nat) : Bool := frs S fm t && decide (t % 4 = w ∨ (t + 1) % 4 = w)
def btr (S : Nat → Nat → Int32) (o : Option Nat) (t : Nat) : Bool := match o with
  | none => true
  | some s => decide (lfo S (nI s) < lfo S (nI t))
/-- the task for a second time, among those below n -/
def sec (S : Nat → Nat → Int32) (fm : Nat) : Nat → Option Nat
  | 0 => none
  | n + 1 => if fm ≤ n ∧ S 8 n = 0 ∧ rdbl S n ∧ dng S (nI n) 4 = 1 ∧ btr S (sec S fm n) n = true then some n else sec S fm n
theorem sec_lt {S : Nat → Nat → Int32} {fm n j : Nat} (h : sec S fm n = some j) : j < n ∧ fm ≤ j := by
  induction n with
  | zero => cases h
  | succ n ih =>
    unfold sec at h
    split at h
    · rename_i q; cases h; exact ⟨Nat.lt_succ_self _, q.1⟩
    · exact ⟨Nat.lt_succ_of_lt (ih h).1, (ih h).2⟩
theorem sec_none {S : Nat → Nat → Int32} {fm n : Nat} (h : n ≤ fm) : sec S fm n = none := by
  cases hx : sec S fm n with
  | none => rfl
  | some j => have := sec_lt hx; omega
abbrev gL (y w fm to : Nat) (red : Int32) (i : Nat) (f hh s : Int32) : List (Nat × Value) := [(8, .int (nI i)), (7, .int s), (6, .int hh), (5, .int f), (4, .int (nI to)), (3, .int (nI fm)), (2, .int red), (0, .ref y), (1, .int (nI w))]
section XM3
variable {l : Launch} {G : xG} {h0 : xH} {y : Nat} {S : Nat → Nat → Int32}
theorem gt_loop (hs : MSh h0 y) {w fm to : Nat} {red : Int32} (hw : w < 4) (hto : to ≤ 11) {Q : xR → xH → Prop}
    (fin : xV l G 3 65 m_M_get 167 (gL y w fm to red to (oI (lst (frs S fm) to)) (oI (lst (frh S fm w) to)) (oI (sec S fm to))) [] (mset y S h0) Q) :
    ∀ m i : Nat, i + m = to → fm ≤ i → xV l G 3 65 m_M_get 48 (gL y w fm to red i (oI (lst (frs S fm) i)) (oI (lst (frh S fm w) i)) (oI (sec S fm i))) [] (mset y S h0) Q := by
  intro m
  induction m with
  | zero =>
    intro i him hfi
    obtain rfl : i = to := by omega
    refine x_iload d_M_get_48 rfl ?_
    refine x_iload d_M_get_50 rfl ?_
    refine x_icmp_ge_t (tgt := 167) d_M_get_52 (by decide) ((nI_le (by omega) (by omega))) ?_
    exact fin
  | succ m ih =>
    intro i him hfi
    have hi8 : i < mlen 8 := by show i < 11; omega
    have nx := ih (i + 1) (by omega) (by omega)
    have d4 := dng_le S (nI i) 4
    have skip : (S 8 i = 0 → rdbl S i → False) → xV l G 3 65 m_M_get 48 (gL y w fm to red (i + 1) (oI (lst (frs S fm) i)) (oI (lst (frh S fm w) i)) (oI (sec S fm i))) [] (mset y S h0) Q := by
      intro hn
      have e1 : frs S fm i = false := decide_eq_false (fun q => hn q.2.1 q.2.2.1)
      have e2 : frh S fm w i = false := by unfold frh; rw [e1]; rfl
      have e3 : sec S fm (i + 1) = sec S fm i := if_neg (fun q => hn q.2.1 q.2.2.1)
      rw [lst_miss e1, lst_miss e2, e3] at nx
      exact nx
    have sC : S 8 i = 0 → rdbl S i → xV l G 3 65 m_M_get 131 ((9, .int (nI (dng S (nI i) 4))) :: gL y w fm to red i (oI (lst (frs S fm) (i + 1))) (oI (lst (frh S fm w) (i + 1))) (oI (sec S fm i))) [] (mset y S h0) Q := by
      intro a1 a2
      refine x_iload d_M_get_131 rfl ?_
      refine x_iconst (v := nI 1) d_M_get_133 (by decide) ?_
      refine x_icmp_ne (tgt := 161) d_M_get_134 (by decide) (fun d1 => ?_) (fun d1 => ?_)
      · have e3 : sec S fm (i + 1) = sec S fm i := if_neg (fun q => d1 (by rw [q.2.2.2.1]))
        rw [e3] at nx
        first | refine x_incN d_M_get_161 rfl (by decide) ?_ | refine x_inc d_M_get_161 rfl (by decide) ?_
        refine x_goto (tgt := 48) d_M_get_164 (by decide) ?_
        refine xV.loc (nx) (by repeat (first | exact trivial | refine ⟨rfl, ?_⟩))
      · have d1' : dng S (nI i) 4 = 1 := (nI_eq (by omega) (by omega)).mp d1
        refine x_iload d_M_get_137 rfl ?_
        cases hS : sec S fm i with
        | none =>
          have e3 : sec S fm (i + 1) = some i := if_pos ⟨hfi, a1, a2, d1', by rw [hS]; rfl⟩
          rw [e3] at nx
          refine x_if_lt_t (tgt := 157) d_M_get_139 (by decide) ((by decide)) ?_
          refine x_iload d_M_get_157 rfl ?_
          refine x_istore d_M_get_159 (by decide) ?_
          first | refine x_incN d_M_get_161 rfl (by decide) ?_ | refine x_inc d_M_get_161 rfl (by decide) ?_
          refine x_goto (tgt := 48) d_M_get_164 (by decide) ?_
          refine xV.loc (nx) (by repeat (first | exact trivial | refine ⟨rfl, ?_⟩))
        | some s =>
          have hs2 := sec_lt hS
          refine x_if_lt_f 157 d_M_get_139 (by decide) ((nI_pos (by omega))) ?_
          refine x_aload_n d_M_get_142 rfl ?_
          refine x_iload d_M_get_143 rfl ?_
          refine x_callV (M' := m_M_leftOf) (As := [_]) (fr' := 0) (wd' := 0) d_M_get_145 hs.1 rfl pl_M_leftOf rfl (Nat.le_of_ble_eq_true rfl) (by decide) (by decide) wc_M_leftOf wi_M wl_M_151 wm_M_leftOf we_M_leftOf (by decide) np_M_leftOf (Nat.le_of_ble_eq_true rfl) (fun q hq => by cases hq) (c_M_leftOf hs _) (fun k a h1 q => by cases q.1) (fun v h1 q => ?_)
          obtain ⟨q1, rfl⟩ := q
          cases q1
          refine x_aload_n d_M_get_148 rfl ?_
          refine x_iload d_M_get_149 rfl ?_
          refine x_callV (M' := m_M_leftOf) (As := [_]) (fr' := 0) (wd' := 0) d_M_get_151 hs.1 rfl pl_M_leftOf rfl (Nat.le_of_ble_eq_true rfl) (by decide) (by decide) wc_M_leftOf wi_M wl_M_151 wm_M_leftOf we_M_leftOf (by decide) np_M_leftOf (Nat.le_of_ble_eq_true rfl) (fun q hq => by cases hq) (c_M_leftOf hs _) (fun k a h1 q => by cases q.1) (fun v h1 q => ?_)
          obtain ⟨q1, rfl⟩ := q
          cases q1
          refine x_icmp_le (tgt := 161) d_M_get_154 (by decide) (fun d2 => ?_) (fun d2 => ?_)
          · have e3 : sec S fm (i + 1) = sec S fm i := if_neg (fun q => by
              have := q.2.2.2.2
              rw [hS] at this
              exact absurd (of_decide_eq_true this) (Int32.not_lt.mpr d2))
            rw [e3, hS] at nx
            first | refine x_incN d_M_get_161 rfl (by decide) ?_ | refine x_inc d_M_get_161 rfl (by decide) ?_
            refine x_goto (tgt := 48) d_M_get_164 (by decide) ?_
            refine xV.loc (nx) (by repeat (first | exact trivial | refine ⟨rfl, ?_⟩))
          · have e3 : sec S fm (i + 1) = some i := if_pos ⟨hfi, a1, a2, d1', by rw [hS]; exact decide_eq_true (Int32.not_le.mp d2)⟩
            rw [e3] at nx
            refine x_iload d_M_get_157 rfl ?_
            refine x_istore d_M_get_159 (by decide) ?_
            first | refine x_incN d_M_get_161 rfl (by decide) ?_ | refine x_inc d_M_get_161 rfl (by decide) ?_
            refine x_goto (tgt := 48) d_M_get_164 (by decide) ?_
            refine xV.loc (nx) (by repeat (first | exact trivial | refine ⟨rfl, ?_⟩))
    have sB : S 8 i = 0 → rdbl S i → xV l G 3 65 m_M_get 99 ((9, .int (nI (dng S (nI i) 4))) :: gL y w fm to red i (oI (lst (frs S fm) (i + 1))) (oI (lst (frh S fm w) i)) (oI (sec S fm i))) [] (mset y S h0) Q := by
      intro a1 a2
      have sC := sC a1 a2
      refine x_iload d_M_get_99 rfl ?_
      refine x_if_ne (tgt := 131) d_M_get_101 (by decide) (fun d1 => ?_) (fun d1 => ?_)
      · have e1 : frs S fm i = false := decide_eq_false (fun q => d1 (by rw [q.2.2.2]; rfl))
        have e2 : frh S fm w i = false := by unfold frh; rw [e1]; rfl
        rw [lst_miss e2] at sC
        exact sC
      · have d1' : dng S (nI i) 4 = 0 := (nI_eq (by omega) (by omega)).mp d1
        have e1 : frs S fm i = true := decide_eq_true ⟨hfi, a1, a2, d1'⟩
        refine x_iload d_M_get_104 rfl ?_
        cases hH : lst (frh S fm w) i with
        | some j =>
          have hj := lst_lt hH
          rw [lst_some hH] at sC
          refine x_if_ge_t (tgt := 131) d_M_get_106 (by decide) ((nI_pos' (by omega))) ?_
          exact sC
        | none =>
          refine x_if_ge_f 131 d_M_get_106 (by decide) ((by decide)) ?_
          refine x_iload d_M_get_109 rfl ?_
          refine x_iconst (v := nI 4) d_M_get_111 (by decide) ?_
          refine x_irem d_M_get_112 (by first | decide | assumption) ?_
          refine x_iload_n d_M_get_113 rfl ?_
          rw [nI_rem (by omega) (by omega)]
          refine x_icmp_eq (tgt := 127) d_M_get_114 (by decide) (fun d2 => ?_) (fun d2 => ?_)
          · have e2 : frh S fm w i = true := by unfold frh; rw [e1, decide_eq_true (Or.inl ((nI_eq (by omega) (by omega)).mp d2))]; rfl
            rw [lst_hit hH e2] at sC
            refine x_iload d_M_get_127 rfl ?_
            refine x_istore d_M_get_129 (by decide) ?_
            refine xV.loc (sC) (by repeat (first | exact trivial | refine ⟨rfl, ?_⟩))
          · refine x_iload d_M_get_117 rfl ?_
            refine x_iconst (v := nI 1) d_M_get_119 (by decide) ?_
            refine x_iadd d_M_get_120 ?_
            refine x_iconst (v := nI 4) d_M_get_121 (by decide) ?_
            refine x_irem d_M_get_122 (by first | decide | assumption) ?_
            refine x_iload_n d_M_get_123 rfl ?_
            rw [nI_add, nI_rem (by omega) (by omega)]
            refine x_icmp_ne (tgt := 131) d_M_get_124 (by decide) (fun d3 => ?_) (fun d3 => ?_)
            · have e2 : frh S fm w i = false := by
                unfold frh; rw [e1, decide_eq_false]; rfl
                rintro (q | q)
                · exact d2 (by rw [q])
                · exact d3 (by rw [q])
              rw [lst_miss e2, hH] at sC
              exact sC
            · have e2 : frh S fm w i = true := by unfold frh; rw [e1, decide_eq_true (Or.inr ((nI_eq (by omega) (by omega)).mp d3))]; rfl
              rw [lst_hit hH e2] at sC
              refine x_iload d_M_get_127 rfl ?_
              refine x_istore d_M_get_129 (by decide) ?_
              refine xV.loc (sC) (by repeat (first | exact trivial | refine ⟨rfl, ?_⟩))
    refine x_iload d_M_get_48 rfl ?_
    refine x_iload d_M_get_50 rfl ?_
    refine x_icmp_ge_f 167 d_M_get_52 (by decide) ((nI_ge (by omega) (by omega))) ?_
    refine x_aload_n d_M_get_55 rfl ?_
    refine xm_ref (k := 8) (j := 7) d_M_get_56 hs (by decide) rfl rfl (by decide) wf_M_32 rfl ?_
    refine x_iload d_M_get_59 rfl ?_
    refine xm_zld d_M_get_61 hs (by decide) rfl (by first | decide | assumption | omega) ?_
    refine x_if_ne (tgt := 161) d_M_get_62 (by decide) (fun c1 => ?_) (fun c1 => ?_)
    · first | refine x_incN d_M_get_161 rfl (by decide) ?_ | refine x_inc d_M_get_161 rfl (by decide) ?_
      refine x_goto (tgt := 48) d_M_get_164 (by decide) ?_
      refine xV.loc (skip (fun q => absurd q c1)) (by repeat (first | exact trivial | refine ⟨rfl, ?_⟩))
    · refine x_aload_n d_M_get_65 rfl ?_
      refine x_iload d_M_get_66 rfl ?_
      refine x_callV (M' := m_M_readable) (As := [_]) (fr' := 0) (wd' := 0) d_M_get_68 hs.1 rfl pl_M_readable rfl (Nat.le_of_ble_eq_true rfl) (by decide) (by decide) wc_M_readable wi_M wl_M_144 wm_M_readable we_M_readable (by decide) np_M_readable (Nat.le_of_ble_eq_true rfl) (fun q hq => by cases hq) (c_M_readable hs (by omega)) (fun k a h1 q => by cases q.1) (fun v h1 q => ?_)
      obtain ⟨q1, rfl⟩ := q
      cases q1
      refine x_if_ne (tgt := 77) d_M_get_71 (by decide) (fun c2 => ?_) (fun c2 => ?_)
      · have c2' : rdbl S i := Classical.byContradiction (fun q => c2 (bI_0.mpr q))
        have sB := sB c1 c2'
        refine x_aload_n d_M_get_77 rfl ?_
        refine x_iload d_M_get_78 rfl ?_
        refine x_callV (M' := m_M_doing) (As := [_]) (fr' := 0) (wd' := 0) d_M_get_80 hs.1 rfl pl_M_doing rfl (Nat.le_of_ble_eq_true rfl) (by decide) (by decide) wc_M_doing wi_M wl_M_148 wm_M_doing we_M_doing (by decide) np_M_doing (Nat.le_of_ble_eq_true rfl) (fun q hq => by cases hq) (c_M_doing hs _) (fun k a h1 q => by cases q.1) (fun v h1 q => ?_)
        obtain ⟨q1, rfl⟩ := q
        cases q1
        refine x_istore d_M_get_83 (by decide) ?_
        refine x_iload d_M_get_85 rfl ?_
        refine x_if_ne (tgt := 99) d_M_get_87 (by decide) (fun d1 => ?_) (fun d1 => ?_)
        · have e1 : frs S fm i = false := decide_eq_false (fun q => d1 (by rw [q.2.2.2]; rfl))
          rw [lst_miss e1] at sB
          refine xV.loc (sB) (by repeat (first | exact trivial | refine ⟨rfl, ?_⟩))
        · have d1' : dng S (nI i) 4 = 0 := (nI_eq (by omega) (by omega)).mp d1
          have e1 : frs S fm i = true := decide_eq_true ⟨hfi, c1, c2', d1'⟩
          refine x_iload d_M_get_90 rfl ?_
          cases hF : lst (frs S fm) i with
          | some j =>
            have hj := lst_lt hF
            rw [lst_some hF] at sB
            refine x_if_ge_t (tgt := 99) d_M_get_92 (by decide) ((nI_pos' (by omega))) ?_
            refine xV.loc (sB) (by repeat (first | exact trivial | refine ⟨rfl, ?_⟩))
          | none =>
            rw [lst_hit hF e1] at sB
            refine x_if_ge_f 99 d_M_get_92 (by decide) ((by decide)) ?_
            refine x_iload d_M_get_95 rfl ?_
            refine x_istore d_M_get_97 (by decide) ?_
            refine xV.loc (sB) (by repeat (first | exact trivial | refine ⟨rfl, ?_⟩))
      · refine x_goto (tgt := 161) d_M_get_74 (by decide) ?_
        first | refine x_incN d_M_get_161 rfl (by decide) ?_ | refine x_inc d_M_get_161 rfl (by decide) ?_
        refine x_goto (tgt := 48) d_M_get_164 (by decide) ?_
        refine xV.loc (skip (fun _ q => absurd q (bI_0.mp c2))) (by repeat (first | exact trivial | refine ⟨rfl, ?_⟩))
theorem xu_k {α : Type} (S : Nat → Nat → α) {k k' : Nat} (j : Nat) (v : α) (h : k' ≠ k) : xu S k j v k' = S k' := by
  funext i; exact if_neg (fun q => h q.1)
theorem pof_congr {S T : Nat → Nat → Int32} (h10 : S 10 = T 10) (h19 : S 0 19 = T 0 19) (p : Int32) : ∀ n, pof S p n = pof T p n
  | 0 => rfl
  | n + 1 => by unfold pof; rw [pof_congr h10 h19 p n, h10, h19]
theorem nds_congr {S T : Nat → Nat → Int32} (h1 : S 1 = T 1) (h12 : S 12 = T 12) (h10 : S 10 = T 10) (h20 : S 0 20 = T 0 20) (h19 : S 0 19 = T 0 19) (np t : Nat) : nds S np t = nds T np t := by
  unfold nds rns; rw [pof_congr h10 h19, h1, h12, h20]
def gch (md : Bool) (F H C : Option Nat) : Option Nat := match F with
  | none => C
  | some f => if md then some f else match H with
    | none => some f
    | some h => some h
def gput (S : Nat → Nat → Int32) (np w : Nat) (F : Option Nat) : Option Nat → (Nat → Nat → Int32)
  | none => S
  | some t => xu (xu (if F = none then xu S 0 23 (S 0 23 + nI 1) else S) 4 w (nI t)) 5 w (nds S np t)
abbrev tok (t : Nat) : Prop := t < 6 ∨ (8 ≤ t ∧ t < 11)
theorem gt_end (hs : MSh h0 y) {w fm to np : Nat} {md : Bool} (hw : w < 4) {F H C : Option Nat} (okF : ∀ j, F = some j → tok j) (okH : ∀ j, H = some j → tok j) (okC : ∀ j, C = some j → tok j) (hp : S 0 12 = nI np) (hnp : np ≤ 300) (hr : ¬ S 0 19 = 0) (hb : ¬ S 0 20 = 0) :
    xV l G 3 65 m_M_get 167 (gL y w fm to (bI (md = true)) to (oI F) (oI H) (oI C)) [] (mset y S h0) (fun r h' => r = .inl none ∧ h' = mset y (gput S np w F (gch md F H C)) h0) := by
  have hw4 : w < mlen 4 := hw
  have hw5 : w < mlen 5 := hw
  have tl : ∀ t, tok t → xV l G 3 65 m_M_get 201 (gL y w fm to (bI (md = true)) t (oI F) (oI H) (oI C)) [] (mset y S h0) (fun r h' => r = .inl none ∧ h' = mset y (gput S np w F (some t)) h0) := by
    intro t ht
    cases hF : F with
    | none =>
      refine x_iload d_M_get_201 rfl ?_
      refine x_if_ge_f 216 d_M_get_203 (by decide) ((by decide)) ?_
      refine x_aload_n d_M_get_206 rfl ?_
      refine x_dup d_M_get_207 rfl ?_
      refine xm_get (j := 23) d_M_get_208 hs rfl (by decide) wf_M_154 (fun _ _ => rfl) ?_
      refine x_iconst (v := nI 1) d_M_get_211 (by decide) ?_
      refine x_iadd d_M_get_212 ?_
      refine xm_put (j := 23) d_M_get_213 hs rfl (by decide) wf_M_154 (Or.inl rfl) (by first | rfl | assumption) rfl (fun _ _ => rfl) ?_
      refine x_aload_n d_M_get_216 rfl ?_
      refine xm_ref (k := 4) (j := 3) d_M_get_217 hs (by decide) rfl rfl (by decide) wf_M_19 rfl ?_
      refine x_iload_n d_M_get_220 rfl ?_
      refine x_iload d_M_get_221 rfl ?_
      refine xm_ast d_M_get_223 hs (by decide) rfl (by first | decide | assumption | omega) ?_
      refine x_aload_n d_M_get_224 rfl ?_
      refine xm_ref (k := 5) (j := 4) d_M_get_225 hs (by decide) rfl rfl (by decide) wf_M_22 rfl ?_
      refine x_iload_n d_M_get_228 rfl ?_
      refine x_aload_n d_M_get_229 rfl ?_
      refine x_iload d_M_get_230 rfl ?_
      refine x_callV (M' := m_M_needs) (As := [_]) (fr' := 2) (wd' := 44) d_M_get_232 hs.1 rfl pl_M_needs rfl (Nat.le_of_ble_eq_true rfl) (by decide) (by decide) wc_M_needs wi_M wl_M_157 wm_M_needs we_M_needs (by decide) np_M_needs (Nat.le_of_ble_eq_true rfl) (fun q hq => by cases hq) (c_M_needs hs ht ((if_neg (by omega)).trans ((if_neg (by omega)).trans hp)) hnp (by rw [xu_k _ _ _ (by decide), xu_j _ _ _ _ (by decide)]; exact hr) (by rw [xu_k _ _ _ (by decide), xu_j _ _ _ _ (by decide)]; exact hb)) (fun k a h1 q => by cases q.1) (fun v h1 q => ?_)
      obtain ⟨q1, rfl⟩ := q
      cases q1
      refine xm_ast d_M_get_235 hs (by decide) rfl (by first | decide | assumption | omega) ?_
      refine x_vret d_M_get_236 rfl ?_
      refine ⟨rfl, ?_⟩
      rw [nds_congr (T := S) (by rw [xu_k _ _ _ (by decide), xu_k _ _ _ (by decide)]) (by rw [xu_k _ _ _ (by decide), xu_k _ _ _ (by decide)]) (by rw [xu_k _ _ _ (by decide), xu_k _ _ _ (by decide)]) (by rw [xu_k _ _ _ (by decide), xu_j _ _ _ _ (by decide)]) (by rw [xu_k _ _ _ (by decide), xu_j _ _ _ _ (by decide)])]
      rfl
    | some f =>
      have := okF f hF
      refine x_iload d_M_get_201 rfl ?_
      refine x_if_ge_t (tgt := 216) d_M_get_203 (by decide) ((nI_pos' (by omega))) ?_
      refine x_aload_n d_M_get_216 rfl ?_
      refine xm_ref (k := 4) (j := 3) d_M_get_217 hs (by decide) rfl rfl (by decide) wf_M_19 rfl ?_
      refine x_iload_n d_M_get_220 rfl ?_
      refine x_iload d_M_get_221 rfl ?_
      refine xm_ast d_M_get_223 hs (by decide) rfl (by first | decide | assumption | omega) ?_
      refine x_aload_n d_M_get_224 rfl ?_
      refine xm_ref (k := 5) (j := 4) d_M_get_225 hs (by decide) rfl rfl (by decide) wf_M_22 rfl ?_
      refine x_iload_n d_M_get_228 rfl ?_
      refine x_aload_n d_M_get_229 rfl ?_
      refine x_iload d_M_get_230 rfl ?_
      refine x_callV (M' := m_M_needs) (As := [_]) (fr' := 2) (wd' := 44) d_M_get_232 hs.1 rfl pl_M_needs rfl (Nat.le_of_ble_eq_true rfl) (by decide) (by decide) wc_M_needs wi_M wl_M_157 wm_M_needs we_M_needs (by decide) np_M_needs (Nat.le_of_ble_eq_true rfl) (fun q hq => by cases hq) (c_M_needs hs ht ((if_neg (by omega)).trans hp) hnp (by rw [xu_k _ _ _ (by decide)]; exact hr) (by rw [xu_k _ _ _ (by decide)]; exact hb)) (fun k a h1 q => by cases q.1) (fun v h1 q => ?_)
      obtain ⟨q1, rfl⟩ := q
      cases q1
      refine xm_ast d_M_get_235 hs (by decide) rfl (by first | decide | assumption | omega) ?_
      refine x_vret d_M_get_236 rfl ?_
      refine ⟨rfl, ?_⟩
      rw [nds_congr (T := S) (by rw [xu_k _ _ _ (by decide)]) (by rw [xu_k _ _ _ (by decide)]) (by rw [xu_k _ _ _ (by decide)]) (by rw [xu_k _ _ _ (by decide)]) (by rw [xu_k _ _ _ (by decide)])]
      rfl
  have tl2 : ∀ o : Option Nat, (∀ j, o = some j → tok j) → xV l G 3 65 m_M_get 195 ((8, .int (oI o)) :: (gL y w fm to (bI (md = true)) 0 (oI F) (oI H) (oI C)).tail) [] (mset y S h0) (fun r h' => r = .inl none ∧ h' = mset y (gput S np w F o) h0) := by
    intro o ho
    cases o with
    | none =>
      refine x_iload d_M_get_195 rfl ?_
      refine x_if_ge_f 201 d_M_get_197 (by decide) ((by decide)) ?_
      refine x_vret d_M_get_200 rfl ?_
      exact ⟨rfl, rfl⟩
    | some t =>
      have ht := ho t rfl
      refine x_iload d_M_get_195 rfl ?_
      refine x_if_ge_t (tgt := 201) d_M_get_197 (by decide) ((nI_pos' (by omega))) ?_
      exact tl t ht
  cases F with
  | none =>
    have := tl2 C okC
    refine x_iload d_M_get_167 rfl ?_
    refine x_if_ge_f 177 d_M_get_169 (by decide) ((by decide)) ?_
    refine x_iload d_M_get_172 rfl ?_
    refine x_goto (tgt := 193) d_M_get_174 (by decide) ?_
    refine x_istore d_M_get_193 (by decide) ?_
    refine xV.loc (this) (by repeat (first | exact trivial | refine ⟨rfl, ?_⟩))
  | some f =>
    have := okF f rfl
    refine x_iload d_M_get_167 rfl ?_
    refine x_if_ge_t (tgt := 177) d_M_get_169 (by decide) ((nI_pos' (by omega))) ?_
    refine x_iload_n d_M_get_177 rfl ?_
    cases md with
    | true =>
      have := tl2 (some f) okF
      refine x_if_ne_t (tgt := 186) d_M_get_178 (by decide) ((by decide)) ?_
      refine x_iload d_M_get_186 rfl ?_
      refine x_goto (tgt := 193) d_M_get_188 (by decide) ?_
      refine x_istore d_M_get_193 (by decide) ?_
      refine xV.loc (this) (by repeat (first | exact trivial | refine ⟨rfl, ?_⟩))
    | false =>
      refine x_if_ne_f 186 d_M_get_178 (by decide) ((by decide)) ?_
      refine x_iload d_M_get_181 rfl ?_
      cases H with
      | none =>
        have := tl2 (some f) okF
        refine x_if_ge_f 191 d_M_get_183 (by decide) ((by decide)) ?_
        refine x_iload d_M_get_186 rfl ?_
        refine x_goto (tgt := 193) d_M_get_188 (by decide) ?_
        refine x_istore d_M_get_193 (by decide) ?_
        refine xV.loc (this) (by repeat (first | exact trivial | refine ⟨rfl, ?_⟩))
      | some hh =>
        have := okH hh rfl
        have := tl2 (some hh) okH
        refine x_if_ge_t (tgt := 191) d_M_get_183 (by decide) ((nI_pos' (by omega))) ?_
        refine x_iload d_M_get_191 rfl ?_
        refine x_istore d_M_get_193 (by decide) ?_
        refine xV.loc (this) (by repeat (first | exact trivial | refine ⟨rfl, ?_⟩))
def mdn (S : Nat → Nat → Int32) (c : Nat) : Bool := decide (∀ t, t < c → ¬ S 8 t = 0)
/-- get, for worker w -/
def gtS (S : Nat → Nat → Int32) (c r np w : Nat) : Nat → Nat → Int32 :=
  let md := mdn S c
  let fm := if md then 8 else 0
  let to := if md then 8 + r else c
  gput S np w (lst (frs S fm) to) (gch md (lst (frs S fm) to) (lst (frh S fm w) to) (sec S fm to))
theorem c_M_get (hs : MSh h0 y) {w c r np : Nat} (hw : w < 4) (hc : S 0 13 = nI c) (hc6 : c ≤ 6) (hr : S 0 19 = nI r) (hr1 : 1 ≤ r) (hr3 : r ≤ 3) (hp : S 0 12 = nI np) (hnp : np ≤ 300) (hb : ¬ S 0 20 = 0) :
    xVM l G 3 65 m_M_get [.ref y, .int (nI w)] (mset y S h0) (fun q h' => q = .inl none ∧ h' = mset y (gtS S c r np w) h0) := by
  have hr0 : ¬ S 0 19 = 0 := by rw [hr]; exact nI_ne0 hr1 (by omega)
  unfold xVM
  refine x_aload_n d_M_get_0 rfl ?_
  refine x_callV (M' := m_M_mapsDone) (As := []) (fr' := 0) (wd' := 0) d_M_get_1 hs.1 rfl pl_M_mapsDone rfl (Nat.le_of_ble_eq_true rfl) (by decide) (by decide) wc_M_mapsDone wi_M wl_M_140 wm_M_mapsDone we_M_mapsDone (by decide) np_M_mapsDone (Nat.le_of_ble_eq_true rfl) (fun q hq => by cases hq) (c_M_mapsDone hs hc hc6) (fun k a h1 q => by cases q.1) (fun v h1 q => ?_)
  obtain ⟨q1, rfl⟩ := q
  cases q1
  refine x_istore_n d_M_get_4 (by decide) ?_
  refine x_iload_n d_M_get_5 rfl ?_
  by_cases md : ∀ t, t < c → ¬ S 8 t = 0
  · have e1 : mdn S c = true := decide_eq_true md
    have e2 : gtS S c r np w = gput S np w (lst (frs S 8) (8 + r)) (gch true (lst (frs S 8) (8 + r)) (lst (frh S 8 w) (8 + r)) (sec S 8 (8 + r))) := by unfold gtS; rw [e1]; rfl
    rw [e2, bI_t md]
    refine x_if_eq_f 14 d_M_get_6 (by decide) ((by decide)) ?_
    refine x_bipush (v := nI 8) d_M_get_9 (by decide) ?_
    refine x_goto (tgt := 15) d_M_get_11 (by decide) ?_
    refine x_istore_n d_M_get_15 (by decide) ?_
    refine x_iload_n d_M_get_16 rfl ?_
    refine x_if_eq_f 30 d_M_get_17 (by decide) ((by decide)) ?_
    refine x_bipush (v := nI 8) d_M_get_20 (by decide) ?_
    refine x_aload_n d_M_get_22 rfl ?_
    refine xm_get (j := 19) d_M_get_23 hs rfl (by decide) wf_M_103 (fun _ _ => rfl) ?_
    refine x_iadd d_M_get_26 ?_
    refine x_goto (tgt := 34) d_M_get_27 (by decide) ?_
    refine x_istore d_M_get_34 (by decide) ?_
    refine x_iconst (v := (-1)) d_M_get_36 (by decide) ?_
    refine x_istore d_M_get_37 (by decide) ?_
    refine x_iconst (v := (-1)) d_M_get_39 (by decide) ?_
    refine x_istore d_M_get_40 (by decide) ?_
    refine x_iconst (v := (-1)) d_M_get_42 (by decide) ?_
    refine x_istore d_M_get_43 (by decide) ?_
    refine x_iload_n d_M_get_45 rfl ?_
    refine x_istore d_M_get_46 (by decide) ?_
    rw [hr, nI_add]
    have o1 : ∀ j, lst (frs S 8) (8 + r) = some j → tok j := fun j hj => by
      have h1 := lst_lt hj
      have h2 := of_decide_eq_true h1.2
      omega
    have o2 : ∀ j, lst (frh S 8 w) (8 + r) = some j → tok j := fun j hj => by
      have h1 := lst_lt hj
      have h2 := of_decide_eq_true (Bool.and_eq_true_iff.mp h1.2).1
      omega
    have o3 : ∀ j, sec S 8 (8 + r) = some j → tok j := fun j hj => by
      have h1 := sec_lt hj
      omega
    have lp := gt_loop (l := l) (G := G) hs hw (red := nI 1) (by omega) (gt_end hs (md := true) hw o1 o2 o3 hp hnp hr0 hb) r 8 (by omega) (Nat.le_refl 8)
    rw [lst_none (p := frs S 8) (fun t ht => decide_eq_false (fun q => by omega)), lst_none (p := frh S 8 w) (fun t ht => by unfold frh; rw [show frs S 8 t = false from decide_eq_false (fun q => by omega)]; rfl), sec_none (Nat.le_refl 8)] at lp
    refine xV.loc (lp) (by repeat (first | exact trivial | refine ⟨rfl, ?_⟩))
  · have e1 : mdn S c = false := decide_eq_false md
    have e2 : gtS S c r np w = gput S np w (lst (frs S 0) c) (gch false (lst (frs S 0) c) (lst (frh S 0 w) c) (sec S 0 c)) := by unfold gtS; rw [e1]; rfl
    rw [e2, bI_f md]
    refine x_if_eq_t (tgt := 14) d_M_get_6 (by decide) ((by decide)) ?_
    refine x_iconst (v := nI 0) d_M_get_14 (by decide) ?_
    refine x_istore_n d_M_get_15 (by decide) ?_
    refine x_iload_n d_M_get_16 rfl ?_
    refine x_if_eq_t (tgt := 30) d_M_get_17 (by decide) ((by decide)) ?_
    refine x_aload_n d_M_get_30 rfl ?_
    refine xm_get (j := 13) d_M_get_31 hs rfl (by decide) wf_M_79 (fun _ _ => rfl) ?_
    refine x_istore d_M_get_34 (by decide) ?_
    refine x_iconst (v := (-1)) d_M_get_36 (by decide) ?_
    refine x_istore d_M_get_37 (by decide) ?_
    refine x_iconst (v := (-1)) d_M_get_39 (by decide) ?_
    refine x_istore d_M_get_40 (by decide) ?_
    refine x_iconst (v := (-1)) d_M_get_42 (by decide) ?_
    refine x_istore d_M_get_43 (by decide) ?_
    refine x_iload_n d_M_get_45 rfl ?_
    refine x_istore d_M_get_46 (by decide) ?_
    rw [hc]
    have o1 : ∀ j, lst (frs S 0) c = some j → tok j := fun j hj => by
      have h1 := lst_lt hj
      omega
    have o2 : ∀ j, lst (frh S 0 w) c = some j → tok j := fun j hj => by
      have h1 := lst_lt hj
      omega
    have o3 : ∀ j, sec S 0 c = some j → tok j := fun j hj => by
      have h1 := sec_lt hj
      omega
    have lp := gt_loop (l := l) (G := G) hs hw (red := nI 0) (by omega) (gt_end hs (md := false) hw o1 o2 o3 hp hnp hr0 hb) c 0 (by omega) (Nat.le_refl 0)
    refine xV.loc (lp) (by repeat (first | exact trivial | refine ⟨rfl, ?_⟩))
end XM3
end
section
/-! the pairs: S with the list q in its rows -/
abbrev KV : Type := Int32 × Int32
def plS (S : Nat → Nat → Int32) (q : List KV) : Nat → Nat → Int32 := fun k j =>
  if k = 10 then ((q[j]?).map (fun x => x.1)).getD (S k j) else if k = 11 then ((q[j]?).map (fun x => x.2)).getD (S k j) else if k = 0 ∧ j = 12 then nI q.length else S k j
theorem plS_k {S : Nat → Nat → Int32} {q : List KV} {k : Nat} (h1 : k ≠ 10) (h2 : k ≠ 11) (h3 : k ≠ 0) : plS S q k = S k := by
  funext j; simp [plS, h1, h2, h3]
theorem plS_0 {S : Nat → Nat → Int32} {q : List KV} {j : Nat} (h : j ≠ 12) : plS S q 0 j = S 0 j := by simp [plS, h]
theorem plS_n {S : Nat → Nat → Int32} {q : List KV} : plS S q 0 12 = nI q.length := by simp [plS]
theorem plS_key {S : Nat → Nat → Int32} {A B : List KV} {x : KV} : plS S (A ++ x :: B) 10 A.length = x.1 := by simp [plS]
theorem plS_val {S : Nat → Nat → Int32} {A B : List KV} {x : KV} : plS S (A ++ x :: B) 11 A.length = x.2 := by simp [plS]
theorem plS_nil {S : Nat → Nat → Int32} : xu S 0 12 (nI 0) = plS S [] := by
  funext k j
  by_cases h : k = 0 ∧ j = 12
  · obtain ⟨rfl, rfl⟩ := h; simp [xu, plS]
  · simp only [xu, if_neg h, plS, List.getElem?_nil, Option.map_none, Option.getD_none]; simp
theorem mid_ne {A B : List KV} (x x' : KV) {j : Nat} (h : j ≠ A.length) : (A ++ x :: B)[j]? = (A ++ x' :: B)[j]? := by
  rw [List.getElem?_append, List.getElem?_append]
  split
  · rfl
  · have : ∃ m, j - A.length = m + 1 := ⟨j - A.length - 1, by omega⟩
    obtain ⟨m, hm⟩ := this
    rw [hm, List.getElem?_cons_succ, List.getElem?_cons_succ]
theorem plS_wk {S : Nat → Nat → Int32} {A B : List KV} {x : KV} {v : Int32} : xu (plS S (A ++ x :: B)) 10 A.length v = plS S (A ++ (v, x.2) :: B) := by
  funext k j
  by_cases hj : j = A.length
  · subst hj
    by_cases hk : k = 10
    · subst hk; simp [xu, plS]
    · by_cases hk2 : k = 11
      · subst hk2; simp [xu, plS]
      · simp [xu, plS, hk, hk2]
  · have e := mid_ne (B := B) x (v, x.2) hj
    simp only [xu, hj, and_false, if_false, plS, e, List.length_append, List.length_cons]
theorem plS_wv {S : Nat → Nat → Int32} {A B : List KV} {x : KV} {v : Int32} : xu (plS S (A ++ x :: B)) 11 A.length v = plS S (A ++ (x.1, v) :: B) := by
  funext k j
  by_cases hj : j = A.length
  · subst hj
    by_cases hk : k = 10
    · subst hk; simp [xu, plS]
    · by_cases hk2 : k = 11
      · subst hk2; simp [xu, plS]
      · simp [xu, plS, hk, hk2]
  · have e := mid_ne (B := B) x (x.1, v) hj
    simp only [xu, hj, and_false, if_false, plS, e, List.length_append, List.length_cons]
theorem plS_psh {S : Nat → Nat → Int32} {q : List KV} {a b : Int32} : xu (xu (xu (plS S q) 10 q.length a) 11 q.length b) 0 12 (nI (q.length + 1)) = plS S (q ++ [(a, b)]) := by
  funext k j
  by_cases hk : k = 10
  · subst hk
    by_cases hj : j = q.length
    · subst hj; simp [xu, plS]
    · have e : (q ++ [(a, b)])[j]? = q[j]? := by
        rw [List.getElem?_append]; split
        · rfl
        · rw [List.getElem?_eq_none (l := [(a, b)]) (by simp; omega), List.getElem?_eq_none (by omega)]
      simp [xu, plS, hj, e]
  · by_cases hk2 : k = 11
    · subst hk2
      by_cases hj : j = q.length
      · subst hj; simp [xu, plS]
      · have e : (q ++ [(a, b)])[j]? = q[j]? := by
          rw [List.getElem?_append]; split
          · rfl
          · rw [List.getElem?_eq_none (l := [(a, b)]) (by simp; omega), List.getElem?_eq_none (by omega)]
        simp [xu, plS, hj, e]
    · by_cases h3 : k = 0 ∧ j = 12
      · obtain ⟨rfl, rfl⟩ := h3; simp [xu, plS]
      · simp [xu, plS, hk, hk2, h3]
theorem plS_wo {S : Nat → Nat → Int32} {q : List KV} {k j : Nat} {v : Int32} (h1 : k ≠ 10) (h2 : k ≠ 11) (h3 : ¬ (k = 0 ∧ j = 12)) : xu (plS S q) k j v = plS (xu S k j v) q := by
  funext a b
  by_cases h : a = k ∧ b = j
  · obtain ⟨rfl, rfl⟩ := h; simp [xu, plS, h1, h2, h3]
  · simp only [xu, plS, h, if_false]
def dg : Nat → Nat → List KV
  | 0, _ => []
  | f + 1, n => (nI (n % 10), nI 1) :: (if n / 10 = 0 then [] else dg f (n / 10))
theorem dg_len : ∀ f n, (dg f n).length ≤ f
  | 0, _ => Nat.le_refl 0
  | f + 1, n => by
    unfold dg
    split
    · simp
    · have := dg_len f (n / 10); simp; omega
/-- what a mapper gives for a number -/
def mpL (m v : Int32) : List KV :=
  if m = nI 0 then [(mdl v (nI 5), nI 1)] else if m = nI 1 then dg 6 v.toInt.natAbs else if m = nI 2 then [(mdl v (nI 3), v)] else if m = nI 3 then (if jrem v (nI 2) = 0 then [(v / nI 2, v)] else [])
  else (if v < 0 then -1 else if 0 < v then nI 1 else nI 0, v) :: (if v = 0 then [] else [(nI 2, nI 1)])
theorem mpL_len (m v : Int32) : (mpL m v).length ≤ 6 := by
  unfold mpL
  split
  · simp
  · split
    · exact dg_len _ _
    · split
      · simp
      · split
        · split <;> simp
        · by_cases hv : v = 0 <;> simp [hv]
theorem lN_div {a b : Nat} (ha : a < 2 ^ 31) (hb : b < 2 ^ 31) : lN a / lN b = lN (a / b) := by
  apply Int64.toInt_inj.mp
  have h2 : a / b < 2 ^ 31 := Nat.lt_of_le_of_lt (Nat.div_le_self a b) ha
  rw [Int64.toInt_div, lN_toInt ha, lN_toInt hb, lN_toInt h2]
  have h1 : (a : Int).tdiv (b : Int) = ((a / b : Nat) : Int) := Int.ofNat_tdiv a b
  rw [h1]
  have h3 : (0 : Int) ≤ ((a / b : Nat) : Int) := Int.natCast_nonneg _
  generalize ((a / b : Nat)) = d at h2 h3
  rw [Int.bmod_eq_of_le_mul_two (by omega) (by omega)]
theorem lN_rem {a b : Nat} (ha : a < 2 ^ 31) (hb : b < 2 ^ 31) : lN a - lN a / lN b * lN b = lN (a % b) := by
  rw [lN_div ha hb, lN_mul, lN_sub (Nat.div_mul_le_self a b)]
  congr 1
  have := Nat.div_add_mod a b
  rw [Nat.mul_comm] at this
  omega
theorem absL {v : Int32} (hv : v.toInt.natAbs < 10 ^ 6) : (if v < 0 then -v.toInt64 else v.toInt64) = lN v.toInt.natAbs := by
  apply Int64.toInt_inj.mp
  rw [lN_toInt (by omega)]
  by_cases h : v < 0
  · rw [if_pos h, Int64.toInt_neg, Int32.toInt_toInt64]
    rw [Int32.lt_iff_toInt_lt, Int32.toInt_zero] at h
    rw [Int.bmod_eq_of_le_mul_two (by omega) (by omega)]
    omega
  · rw [if_neg h, Int32.toInt_toInt64]
    rw [Int32.lt_iff_toInt_lt, Int32.toInt_zero] at h
    omega
theorem cmp_pos {n : Nat} (h : 0 < n) (h2 : n < 2 ^ 31) : 0 < lg_cmp (lN n) 0 := by
  have h3 : 0 < lN n := by
    rw [show (0 : Int64) = lN 0 from rfl, lN_lt (by omega) h2]; omega
  unfold lg_cmp
  simp [h3]
theorem toInt_ne {x : Int32} {k : Nat} (hk : k < 2 ^ 31) (h : ¬ x = nI k) : x.toInt ≠ (k : Int) := fun q => h (Int32.toInt_inj.mp (q.trans (nI_toInt hk).symm))
section XM4
variable {l : Launch} {G : xG} {h0 : xH} {y : Nat} {S : Nat → Nat → Int32}
theorem c_M_pair (hs : MSh h0 y) {q : List KV} (a b : Int32) (hq : q.length < 300) : xVM l G 0 0 m_M_pair [.ref y, .int a, .int b] (mset y (plS S q) h0) (fun r h' => r = .inl none ∧ h' = mset y (plS S (q ++ [(a, b)])) h0) := by
  have h10 : q.length < mlen 10 := hq
  have h11 : q.length < mlen 11 := hq
  unfold xVM
  refine x_aload_n d_M_pair_0 rfl ?_
  refine xm_ref (k := 10) (j := 9) d_M_pair_1 hs (by decide) rfl rfl (by decide) wf_M_38 rfl ?_
  refine x_aload_n d_M_pair_4 rfl ?_
  refine xm_get (j := 12) d_M_pair_5 hs rfl (by decide) wf_M_86 (fun _ _ => rfl) ?_
  rw [plS_n]
  refine x_iload_n d_M_pair_8 rfl ?_
  refine xm_ast d_M_pair_9 hs (by decide) rfl (by first | decide | assumption | omega) ?_
  refine x_aload_n d_M_pair_10 rfl ?_
  refine xm_ref (k := 11) (j := 10) d_M_pair_11 hs (by decide) rfl rfl (by decide) wf_M_41 rfl ?_
  refine x_aload_n d_M_pair_14 rfl ?_
  refine xm_get (j := 12) d_M_pair_15 hs rfl (by decide) wf_M_86 (fun _ _ => rfl) ?_
  rw [xu_k _ _ _ (by decide), plS_n]
  refine x_iload_n d_M_pair_18 rfl ?_
  refine xm_ast d_M_pair_19 hs (by decide) rfl (by first | decide | assumption | omega) ?_
  refine x_aload_n d_M_pair_20 rfl ?_
  refine x_dup d_M_pair_21 rfl ?_
  refine xm_get (j := 12) d_M_pair_22 hs rfl (by decide) wf_M_86 (fun _ _ => rfl) ?_
  rw [xu_k _ _ _ (by decide), xu_k _ _ _ (by decide), plS_n]
  refine x_iconst (v := nI 1) d_M_pair_25 (by decide) ?_
  refine x_iadd d_M_pair_26 ?_
  rw [nI_add]
  refine xm_put (j := 12) d_M_pair_27 hs rfl (by decide) wf_M_86 (Or.inl rfl) (by first | rfl | assumption) rfl (fun _ _ => rfl) ?_
  refine x_vret d_M_pair_30 rfl ?_
  exact ⟨rfl, by rw [plS_psh]⟩
theorem mp_dg (hs : MSh h0 y) {v : Int32} : ∀ f n : Nat, n < 10 ^ (f + 1) → n < 10 ^ 6 → ∀ q : List KV, q.length + (f + 1) ≤ 300 → xV l G 1 22 m_M_map 61 [(2, .long (lN n)), (0, .ref y), (1, .int v)] [] (mset y (plS S q) h0) (fun r h' => r = .inl none ∧ h' = mset y (plS S (q ++ dg (f + 1) n)) h0) := by
  intro f
  induction f with
  | zero =>
    intro n hn hn6 q hq
    refine x_aload_n d_M_map_61 rfl ?_
    refine x_lload_n d_M_map_62 rfl ?_
    refine x_ldc2 (v := (10)) d_M_map_63 wv_M_97 ?_
    rw [show (10 : Int64) = lN 10 from rfl]
    refine x_lrem d_M_map_66 (by decide) ?_
    rw [lN_rem (by omega) (by omega)]
    refine x_l2i d_M_map_67 ?_
    rw [lN_i]
    refine x_iconst (v := nI 1) d_M_map_68 (by decide) ?_
    refine x_callV (M' := m_M_pair) (As := [_, _]) (fr' := 0) (wd' := 0) d_M_map_69 hs.1 rfl pl_M_pair rfl (Nat.le_of_ble_eq_true rfl) (by decide) (by decide) wc_M_pair wi_M wl_M_93 wm_M_pair we_M_pair (by decide) np_M_pair (Nat.le_of_ble_eq_true rfl) (fun q hq => by cases hq) (c_M_pair hs _ _ (by omega)) (fun k a h1 q => by cases q.1) (fun v h1 q => ?_)
    obtain ⟨q1, rfl⟩ := q
    cases q1
    refine x_lload_n d_M_map_72 rfl ?_
    refine x_ldc2 (v := (10)) d_M_map_73 wv_M_97 ?_
    rw [show (10 : Int64) = lN 10 from rfl]
    refine x_ldiv d_M_map_76 (by decide) ?_
    rw [lN_div (by omega) (by omega)]
    refine x_lstore_n d_M_map_77 (by decide) ?_
    refine x_lload_n d_M_map_78 rfl ?_
    refine x_lconst (v := 0) d_M_map_79 (by decide) ?_
    refine x_lcmp d_M_map_80 ?_
    refine x_if_gt_f 61 d_M_map_81 (by decide) ((by rw [show n / 10 = 0 by omega]; decide)) ?_
    refine x_goto (tgt := 149) d_M_map_84 (by decide) ?_
    refine x_vret d_M_map_149 rfl ?_
    refine ⟨rfl, ?_⟩
    rw [show dg (0 + 1) n = [(nI (n % 10), nI 1)] by unfold dg; rw [if_pos (by omega)]]
  | succ f ih =>
    intro n hn hn6 q hq
    refine x_aload_n d_M_map_61 rfl ?_
    refine x_lload_n d_M_map_62 rfl ?_
    refine x_ldc2 (v := (10)) d_M_map_63 wv_M_97 ?_
    rw [show (10 : Int64) = lN 10 from rfl]
    refine x_lrem d_M_map_66 (by decide) ?_
    rw [lN_rem (by omega) (by omega)]
    refine x_l2i d_M_map_67 ?_
    rw [lN_i]
    refine x_iconst (v := nI 1) d_M_map_68 (by decide) ?_
    refine x_callV (M' := m_M_pair) (As := [_, _]) (fr' := 0) (wd' := 0) d_M_map_69 hs.1 rfl pl_M_pair rfl (Nat.le_of_ble_eq_true rfl) (by decide) (by decide) wc_M_pair wi_M wl_M_93 wm_M_pair we_M_pair (by decide) np_M_pair (Nat.le_of_ble_eq_true rfl) (fun q hq => by cases hq) (c_M_pair hs _ _ (by omega)) (fun k a h1 q => by cases q.1) (fun v h1 q => ?_)
    obtain ⟨q1, rfl⟩ := q
    cases q1
    refine x_lload_n d_M_map_72 rfl ?_
    refine x_ldc2 (v := (10)) d_M_map_73 wv_M_97 ?_
    rw [show (10 : Int64) = lN 10 from rfl]
    refine x_ldiv d_M_map_76 (by decide) ?_
    rw [lN_div (by omega) (by omega)]
    refine x_lstore_n d_M_map_77 (by decide) ?_
    refine x_lload_n d_M_map_78 rfl ?_
    refine x_lconst (v := 0) d_M_map_79 (by decide) ?_
    refine x_lcmp d_M_map_80 ?_
    by_cases hz : n / 10 = 0
    · refine x_if_gt_f 61 d_M_map_81 (by decide) ((by rw [hz]; decide)) ?_
      refine x_goto (tgt := 149) d_M_map_84 (by decide) ?_
      refine x_vret d_M_map_149 rfl ?_
      refine ⟨rfl, ?_⟩
      rw [show dg (f + 1 + 1) n = [(nI (n % 10), nI 1)] by unfold dg; rw [if_pos hz]]
    · have e : dg (f + 1 + 1) n = (nI (n % 10), nI 1) :: dg (f + 1) (n / 10) := by rw [dg, if_neg hz]
      have := ih (n / 10) (by rw [Nat.pow_succ] at hn; omega) (by omega) (q ++ [(nI (n % 10), nI 1)]) (by simp; omega)
      rw [List.append_assoc, List.singleton_append, ← e] at this
      refine x_if_gt_t (tgt := 61) d_M_map_81 (by decide) ((cmp_pos (by omega) (by omega))) ?_
      exact this
theorem c_M_map (hs : MSh h0 y) {q : List KV} (v : Int32) (hv : v.toInt.natAbs < 10 ^ 6) (hq : q.length + 6 ≤ 300) : xVM l G 1 22 m_M_map [.ref y, .int v] (mset y (plS S q) h0) (fun r h' => r = .inl none ∧ h' = mset y (plS S (q ++ mpL (S 0 17) v)) h0) := by
  have tail : ∀ (x : Int32) (d : Int64), xV l G 1 22 m_M_map 135 [(2, .long d), (0, .ref y), (1, .int v)] [.int x, .ref y] (mset y (plS S q) h0) (fun r h' => r = .inl none ∧ h' = mset y (plS S (q ++ (x, v) :: (if v = 0 then [] else [(nI 2, nI 1)]))) h0) := by
    intro x d
    refine x_iload_n d_M_map_135 rfl ?_
    refine x_callV (M' := m_M_pair) (As := [_, _]) (fr' := 0) (wd' := 0) d_M_map_136 hs.1 rfl pl_M_pair rfl (Nat.le_of_ble_eq_true rfl) (by decide) (by decide) wc_M_pair wi_M wl_M_93 wm_M_pair we_M_pair (by decide) np_M_pair (Nat.le_of_ble_eq_true rfl) (fun q hq => by cases hq) (c_M_pair hs _ _ (by omega)) (fun k a h1 q => by cases q.1) (fun v h1 q => ?_)
    obtain ⟨q1, rfl⟩ := q
    cases q1
    refine x_iload_n d_M_map_139 rfl ?_
    refine x_if_eq (tgt := 149) d_M_map_140 (by decide) (fun c1 => ?_) (fun c1 => ?_)
    · skip
      refine x_vret d_M_map_149 rfl ?_
      exact ⟨rfl, by rw [if_pos c1]⟩
    · refine x_aload_n d_M_map_143 rfl ?_
      refine x_iconst (v := nI 2) d_M_map_144 (by decide) ?_
      refine x_iconst (v := nI 1) d_M_map_145 (by decide) ?_
      refine x_callV (M' := m_M_pair) (As := [_, _]) (fr' := 0) (wd' := 0) d_M_map_146 hs.1 rfl pl_M_pair rfl (Nat.le_of_ble_eq_true rfl) (by decide) (by decide) wc_M_pair wi_M wl_M_93 wm_M_pair we_M_pair (by decide) np_M_pair (Nat.le_of_ble_eq_true rfl) (fun q hq => by cases hq) (c_M_pair hs _ _ (by simp; omega)) (fun k a h1 q => by cases q.1) (fun v h1 q => ?_)
      obtain ⟨q1, rfl⟩ := q
      cases q1
      refine x_vret d_M_map_149 rfl ?_
      exact ⟨rfl, by rw [if_neg c1, List.append_assoc]; rfl⟩
  have main : xV l G 1 22 m_M_map 13 [(2, .long (lN v.toInt.natAbs)), (0, .ref y), (1, .int v)] [] (mset y (plS S q) h0) (fun r h' => r = .inl none ∧ h' = mset y (plS S (q ++ mpL (S 0 17) v)) h0) := by
    refine x_aload_n d_M_map_13 rfl ?_
    refine xm_get (j := 17) d_M_map_14 hs rfl (by decide) wf_M_52 (fun _ _ => rfl) ?_
    rw [plS_0 (by decide)]
    by_cases m0 : S 0 17 = nI 0
    · rw [m0]
      refine x_swIn (tgt := 48) d_M_map_17 (by decide) (by decide) rfl (by decide) ?_
      refine x_aload_n d_M_map_48 rfl ?_
      refine x_iload_n d_M_map_49 rfl ?_
      refine x_iconst (v := nI 5) d_M_map_50 (by decide) ?_
      refine x_callS (M' := m_M_modulo) (As := [_, _]) (fr' := 0) (wd' := 0) d_M_map_51 pl_M_modulo rfl (Nat.le_of_ble_eq_true rfl) (by decide) (by decide) wc_M_modulo wi_M wl_M_89 ws_M_modulo (by decide) np_M_modulo (Nat.le_of_ble_eq_true rfl) (fun q hq => by cases hq) (c_M_modulo _ _ (by decide)) (fun k a h1 q => by cases q.1) (fun v h1 q => ?_)
      obtain ⟨q1, rfl⟩ := q
      cases q1
      refine x_iconst (v := nI 1) d_M_map_54 (by decide) ?_
      refine x_callV (M' := m_M_pair) (As := [_, _]) (fr' := 0) (wd' := 0) d_M_map_55 hs.1 rfl pl_M_pair rfl (Nat.le_of_ble_eq_true rfl) (by decide) (by decide) wc_M_pair wi_M wl_M_93 wm_M_pair we_M_pair (by decide) np_M_pair (Nat.le_of_ble_eq_true rfl) (fun q hq => by cases hq) (c_M_pair hs _ _ (by omega)) (fun k a h1 q => by cases q.1) (fun v h1 q => ?_)
      obtain ⟨q1, rfl⟩ := q
      cases q1
      refine x_goto (tgt := 149) d_M_map_58 (by decide) ?_
      refine x_vret d_M_map_149 rfl ?_
      exact ⟨rfl, rfl⟩
    by_cases m1 : S 0 17 = nI 1
    · rw [m1]
      refine x_swIn (tgt := 61) d_M_map_17 (by decide) (by decide) rfl (by decide) ?_
      exact mp_dg hs 5 _ hv hv q hq
    by_cases m2 : S 0 17 = nI 2
    · rw [m2]
      refine x_swIn (tgt := 87) d_M_map_17 (by decide) (by decide) rfl (by decide) ?_
      refine x_aload_n d_M_map_87 rfl ?_
      refine x_iload_n d_M_map_88 rfl ?_
      refine x_iconst (v := nI 3) d_M_map_89 (by decide) ?_
      refine x_callS (M' := m_M_modulo) (As := [_, _]) (fr' := 0) (wd' := 0) d_M_map_90 pl_M_modulo rfl (Nat.le_of_ble_eq_true rfl) (by decide) (by decide) wc_M_modulo wi_M wl_M_89 ws_M_modulo (by decide) np_M_modulo (Nat.le_of_ble_eq_true rfl) (fun q hq => by cases hq) (c_M_modulo _ _ (by decide)) (fun k a h1 q => by cases q.1) (fun v h1 q => ?_)
      obtain ⟨q1, rfl⟩ := q
      cases q1
      refine x_iload_n d_M_map_93 rfl ?_
      refine x_callV (M' := m_M_pair) (As := [_, _]) (fr' := 0) (wd' := 0) d_M_map_94 hs.1 rfl pl_M_pair rfl (Nat.le_of_ble_eq_true rfl) (by decide) (by decide) wc_M_pair wi_M wl_M_93 wm_M_pair we_M_pair (by decide) np_M_pair (Nat.le_of_ble_eq_true rfl) (fun q hq => by cases hq) (c_M_pair hs _ _ (by omega)) (fun k a h1 q => by cases q.1) (fun v h1 q => ?_)
      obtain ⟨q1, rfl⟩ := q
      cases q1
      refine x_goto (tgt := 149) d_M_map_97 (by decide) ?_
      refine x_vret d_M_map_149 rfl ?_
      exact ⟨rfl, rfl⟩
    by_cases m3 : S 0 17 = nI 3
    · rw [m3]
      refine x_swIn (tgt := 100) d_M_map_17 (by decide) (by decide) rfl (by decide) ?_
      refine x_iload_n d_M_map_100 rfl ?_
      refine x_iconst (v := nI 2) d_M_map_101 (by decide) ?_
      refine x_irem d_M_map_102 (by first | decide | assumption) ?_
      refine x_if_ne (tgt := 149) d_M_map_103 (by decide) (fun c1 => ?_) (fun c1 => ?_)
      · skip
        refine x_vret d_M_map_149 rfl ?_
        exact ⟨rfl, by rw [show mpL (nI 3) v = [] by unfold mpL; rw [if_neg (by decide), if_neg (by decide), if_neg (by decide), if_pos rfl, if_neg (show ¬ jrem v (nI 2) = 0 from c1)], List.append_nil]⟩
      · refine x_aload_n d_M_map_106 rfl ?_
        refine x_iload_n d_M_map_107 rfl ?_
        refine x_iconst (v := nI 2) d_M_map_108 (by decide) ?_
        refine x_idiv d_M_map_109 (by first | decide | assumption) ?_
        refine x_iload_n d_M_map_110 rfl ?_
        refine x_callV (M' := m_M_pair) (As := [_, _]) (fr' := 0) (wd' := 0) d_M_map_111 hs.1 rfl pl_M_pair rfl (Nat.le_of_ble_eq_true rfl) (by decide) (by decide) wc_M_pair wi_M wl_M_93 wm_M_pair we_M_pair (by decide) np_M_pair (Nat.le_of_ble_eq_true rfl) (fun q hq => by cases hq) (c_M_pair hs _ _ (by omega)) (fun k a h1 q => by cases q.1) (fun v h1 q => ?_)
        obtain ⟨q1, rfl⟩ := q
        cases q1
        refine x_goto (tgt := 149) d_M_map_114 (by decide) ?_
        refine x_vret d_M_map_149 rfl ?_
        exact ⟨rfl, by rw [show mpL (nI 3) v = [(v / nI 2, v)] by unfold mpL; rw [if_neg (by decide), if_neg (by decide), if_neg (by decide), if_pos rfl, if_pos (show jrem v (nI 2) = 0 from c1)]]⟩
    · have e : mpL (S 0 17) v = (if v < 0 then -1 else if 0 < v then nI 1 else nI 0, v) :: (if v = 0 then [] else [(nI 2, nI 1)]) := by unfold mpL; rw [if_neg m0, if_neg m1, if_neg m2, if_neg m3]
      rw [e]
      have t0 := toInt_ne (by omega) m0
      have t1 := toInt_ne (by omega) m1
      have t2 := toInt_ne (by omega) m2
      have t3 := toInt_ne (by omega) m3
      refine x_swOut (tgt := 117) d_M_map_17 (by omega) (by decide) ?_
      refine x_aload_n d_M_map_117 rfl ?_
      refine x_iload_n d_M_map_118 rfl ?_
      refine x_if_ge (tgt := 126) d_M_map_119 (by decide) (fun c1 => ?_) (fun c1 => ?_)
      · have c1' : ¬ v < 0 := Int32.not_lt.mpr c1
        refine x_iload_n d_M_map_126 rfl ?_
        refine x_if_le (tgt := 134) d_M_map_127 (by decide) (fun c2 => ?_) (fun c2 => ?_)
        · have c2' : ¬ 0 < v := Int32.not_lt.mpr c2
          have := tail (nI 0) (lN v.toInt.natAbs)
          rw [if_neg c1', if_neg c2']
          refine x_iconst (v := nI 0) d_M_map_134 (by decide) ?_
          exact this
        · have c2' : 0 < v := Int32.not_le.mp c2
          have := tail (nI 1) (lN v.toInt.natAbs)
          rw [if_neg c1', if_pos c2']
          refine x_iconst (v := nI 1) d_M_map_130 (by decide) ?_
          refine x_goto (tgt := 135) d_M_map_131 (by decide) ?_
          exact this
      · have c1' : v < 0 := Int32.not_le.mp c1
        have := tail (-1) (lN v.toInt.natAbs)
        rw [if_pos c1']
        refine x_iconst (v := (-1)) d_M_map_122 (by decide) ?_
        refine x_goto (tgt := 135) d_M_map_123 (by decide) ?_
        exact this
  have ab := absL hv
  unfold xVM
  refine x_iload_n d_M_map_0 rfl ?_
  refine x_if_ge (tgt := 10) d_M_map_1 (by decide) (fun c1 => ?_) (fun c1 => ?_)
  · rw [if_neg (Int32.not_lt.mpr c1)] at ab
    refine x_iload_n d_M_map_10 rfl ?_
    refine x_i2l d_M_map_11 ?_
    refine x_lstore_n d_M_map_12 (by decide) ?_
    rw [ab]
    exact main
  · rw [if_pos (Int32.not_le.mp c1)] at ab
    refine x_iload_n d_M_map_4 rfl ?_
    refine x_i2l d_M_map_5 ?_
    refine x_lneg d_M_map_6 ?_
    refine x_goto (tgt := 12) d_M_map_7 (by decide) ?_
    refine x_lstore_n d_M_map_12 (by decide) ?_
    rw [ab]
    exact main
end XM4
end
section
/-- the pairs of the first n numbers of chunk c -/
def cL (S : Nat → Nat → Int32) (c : Nat) : Nat → List KV
  | 0 => []
  | n + 1 => cL S c n ++ mpL (S 0 17) (S 2 (c * 6 + n))
def aL (S : Nat → Nat → Int32) (sz : Nat → Nat) : Nat → List KV
  | 0 => []
  | c + 1 => aL S sz c ++ cL S c (sz c)
def pcS (S : Nat → Nat → Int32) (sz : Nat → Nat) (n : Nat) : Nat → Nat → Int32 := fun k j => if k = 12 ∧ j < n then nI (cL S j (sz j)).length else S k j
theorem cL_len (S : Nat → Nat → Int32) (c : Nat) : ∀ n, (cL S c n).length ≤ 6 * n
  | 0 => Nat.le_refl 0
  | n + 1 => by
    have h1 := cL_len S c n
    have h2 := mpL_len (S 0 17) (S 2 (c * 6 + n))
    unfold cL
    rw [List.length_append]
    omega
theorem aL_len (S : Nat → Nat → Int32) {sz : Nat → Nat} : ∀ c, (∀ t, t < c → sz t ≤ 6) → (aL S sz c).length ≤ 36 * c
  | 0, _ => Nat.le_refl 0
  | c + 1, h => by
    have h1 := aL_len S c (fun t ht => h t (by omega))
    have h2 := cL_len S c (sz c)
    have h3 := h c (by omega)
    unfold aL
    rw [List.length_append]
    omega
theorem pcS_k {S : Nat → Nat → Int32} {sz : Nat → Nat} {n k : Nat} (h : k ≠ 12) : pcS S sz n k = S k := by
  funext j; simp [pcS, h]
theorem pcS_0 (S : Nat → Nat → Int32) (sz : Nat → Nat) : pcS S sz 0 = S := by
  funext k j; simp [pcS]
theorem pcS_s (S : Nat → Nat → Int32) (sz : Nat → Nat) (n : Nat) : xu (pcS S sz n) 12 n (nI (cL S n (sz n)).length) = pcS S sz (n + 1) := by
  funext k j
  by_cases h : k = 12 ∧ j = n
  · obtain ⟨rfl, rfl⟩ := h; simp [xu, pcS]
  · have : (k = 12 ∧ j < n) ↔ (k = 12 ∧ j < n + 1) := by omega
    simp only [xu, if_neg h, pcS, this]
section XM5
variable {l : Launch} {G : xG} {h0 : xH} {y : Nat} {S : Nat → Nat → Int32}
theorem c_M_mapAll (hs : MSh h0 y) {c : Nat} {sz : Nat → Nat} (hc : S 0 13 = nI c) (hc6 : c ≤ 6) (hz : ∀ t, t < c → S 1 t = nI (sz t) ∧ sz t ≤ 6) (hv : ∀ t i, t < c → i < sz t → (S 2 (t * 6 + i)).toInt.natAbs < 10 ^ 6) :
    xVM l G 2 45 m_M_mapAll [.ref y] (mset y S h0) (fun r h' => r = .inl none ∧ h' = mset y (plS (pcS S sz c) (aL S sz c)) h0) := by
  have lp : ∀ m i : Nat, i + m = c → xV l G 2 45 m_M_mapAll 7 [(1, .int (nI i)), (0, .ref y)] [] (mset y (plS (pcS S sz i) (aL S sz i)) h0) (fun r h' => r = .inl none ∧ h' = mset y (plS (pcS S sz c) (aL S sz c)) h0) := by
    intro m
    induction m with
    | zero =>
      intro i him
      obtain rfl : i = c := by omega
      refine x_iload_n d_M_mapAll_7 rfl ?_
      refine x_aload_n d_M_mapAll_8 rfl ?_
      refine xm_get (j := 13) d_M_mapAll_9 hs rfl (by decide) wf_M_79 (fun _ _ => rfl) ?_
      rw [plS_0 (by decide), pcS_k (by decide), hc]
      refine x_icmp_ge_t (tgt := 71) d_M_mapAll_12 (by decide) ((nI_le (by omega) (by omega))) ?_
      refine x_vret d_M_mapAll_71 rfl ?_
      exact ⟨rfl, rfl⟩
    | succ m ih =>
      intro i him
      obtain ⟨z1, z2⟩ := hz i (by omega)
      have nx := ih (i + 1) (by omega)
      have al := aL_len S (sz := sz) i (fun t ht => (hz t (by omega)).2)
      have hi1 : i < mlen 1 := by show i < 6; omega
      have hi12 : i < mlen 12 := by show i < 6; omega
      have inn : ∀ m2 j : Nat, j + m2 = sz i → xV l G 2 45 m_M_mapAll 22 [(3, .int (nI j)), (2, .int (nI (aL S sz i).length)), (1, .int (nI i)), (0, .ref y)] [] (mset y (plS (pcS S sz i) (aL S sz i ++ cL S i j)) h0) (fun r h' => r = .inl none ∧ h' = mset y (plS (pcS S sz c) (aL S sz c)) h0) := by
        intro m2
        induction m2 with
        | zero =>
          intro j hj
          obtain rfl : j = sz i := by omega
          refine x_iload_n d_M_mapAll_22 rfl ?_
          refine x_aload_n d_M_mapAll_23 rfl ?_
          refine xm_ref (k := 1) (j := 0) d_M_mapAll_24 hs (by decide) rfl rfl (by decide) wf_M_7 rfl ?_
          refine x_iload_n d_M_mapAll_27 rfl ?_
          refine xm_ald d_M_mapAll_28 hs (by decide) rfl (by first | decide | assumption | omega) ?_
          rw [plS_k (by decide) (by decide) (by decide), pcS_k (by decide), z1]
          refine x_icmp_ge_t (tgt := 53) d_M_mapAll_29 (by decide) ((nI_le (by omega) (by omega))) ?_
          refine x_aload_n d_M_mapAll_53 rfl ?_
          refine xm_ref (k := 12) (j := 11) d_M_mapAll_54 hs (by decide) rfl rfl (by decide) wf_M_44 rfl ?_
          refine x_iload_n d_M_mapAll_57 rfl ?_
          refine x_aload_n d_M_mapAll_58 rfl ?_
          refine xm_get (j := 12) d_M_mapAll_59 hs rfl (by decide) wf_M_86 (fun _ _ => rfl) ?_
          refine x_iload_n d_M_mapAll_62 rfl ?_
          refine x_isub d_M_mapAll_63 ?_
          rw [plS_n, List.length_append, nI_sub (by omega), Nat.add_sub_cancel_left]
          refine xm_ast d_M_mapAll_64 hs (by decide) rfl (by first | decide | assumption | omega) ?_
          first | refine x_incN d_M_mapAll_65 rfl (by decide) ?_ | refine x_inc d_M_mapAll_65 rfl (by decide) ?_
          refine x_goto (tgt := 7) d_M_mapAll_68 (by decide) ?_
          rw [plS_wo (by decide) (by decide) (by omega), pcS_s]
          refine xV.loc (nx) (by repeat (first | exact trivial | refine ⟨rfl, ?_⟩))
        | succ m2 ih2 =>
          intro j hj
          have nx2 := ih2 (j + 1) (by omega)
          have cl := cL_len S i j
          have hx : i * 6 + j < mlen 2 := by show i * 6 + j < 36; omega
          refine x_iload_n d_M_mapAll_22 rfl ?_
          refine x_aload_n d_M_mapAll_23 rfl ?_
          refine xm_ref (k := 1) (j := 0) d_M_mapAll_24 hs (by decide) rfl rfl (by decide) wf_M_7 rfl ?_
          refine x_iload_n d_M_mapAll_27 rfl ?_
          refine xm_ald d_M_mapAll_28 hs (by decide) rfl (by first | decide | assumption | omega) ?_
          rw [plS_k (by decide) (by decide) (by decide), pcS_k (by decide), z1]
          refine x_icmp_ge_f 53 d_M_mapAll_29 (by decide) ((nI_ge (by omega) (by omega))) ?_
          refine x_aload_n d_M_mapAll_32 rfl ?_
          refine x_aload_n d_M_mapAll_33 rfl ?_
          refine xm_ref (k := 2) (j := 1) d_M_mapAll_34 hs (by decide) rfl rfl (by decide) wf_M_13 rfl ?_
          refine x_iload_n d_M_mapAll_37 rfl ?_
          refine x_bipush (v := nI 6) d_M_mapAll_38 (by decide) ?_
          refine x_imul d_M_mapAll_40 ?_
          refine x_iload_n d_M_mapAll_41 rfl ?_
          refine x_iadd d_M_mapAll_42 ?_
          rw [nI_mul, nI_add]
          refine xm_ald d_M_mapAll_43 hs (by decide) rfl (by first | decide | assumption | omega) ?_
          rw [plS_k (by decide) (by decide) (by decide), pcS_k (by decide)]
          refine x_callV (M' := m_M_map) (As := [_]) (fr' := 1) (wd' := 22) d_M_mapAll_44 hs.1 rfl pl_M_map rfl (Nat.le_of_ble_eq_true rfl) (by decide) (by decide) wc_M_map wi_M wl_M_99 wm_M_map we_M_map (by decide) np_M_map (Nat.le_of_ble_eq_true rfl) (fun q hq => by cases hq) (c_M_map hs _ (hv i j (by omega) (by omega)) (by rw [List.length_append]; omega)) (fun k a h1 q => by cases q.1) (fun v h1 q => ?_)
          obtain ⟨q1, rfl⟩ := q
          cases q1
          first | refine x_incN d_M_mapAll_47 rfl (by decide) ?_ | refine x_inc d_M_mapAll_47 rfl (by decide) ?_
          refine x_goto (tgt := 22) d_M_mapAll_50 (by decide) ?_
          rw [pcS_k (by decide), List.append_assoc]
          refine xV.loc (nx2) (by repeat (first | exact trivial | refine ⟨rfl, ?_⟩))
      refine x_iload_n d_M_mapAll_7 rfl ?_
      refine x_aload_n d_M_mapAll_8 rfl ?_
      refine xm_get (j := 13) d_M_mapAll_9 hs rfl (by decide) wf_M_79 (fun _ _ => rfl) ?_
      rw [plS_0 (by decide), pcS_k (by decide), hc]
      refine x_icmp_ge_f 71 d_M_mapAll_12 (by decide) ((nI_ge (by omega) (by omega))) ?_
      refine x_aload_n d_M_mapAll_15 rfl ?_
      refine xm_get (j := 12) d_M_mapAll_16 hs rfl (by decide) wf_M_86 (fun _ _ => rfl) ?_
      rw [plS_n]
      refine x_istore_n d_M_mapAll_19 (by decide) ?_
      refine x_iconst (v := nI 0) d_M_mapAll_20 (by decide) ?_
      refine x_istore_n d_M_mapAll_21 (by decide) ?_
      have := inn (sz i) 0 (by omega)
      rw [show cL S i 0 = [] from rfl, List.append_nil] at this
      refine xV.loc (this) (by repeat (first | exact trivial | refine ⟨rfl, ?_⟩))
  unfold xVM
  refine x_aload_n d_M_mapAll_0 rfl ?_
  refine x_iconst (v := nI 0) d_M_mapAll_1 (by decide) ?_
  refine xm_put (j := 12) d_M_mapAll_2 hs rfl (by decide) wf_M_86 (Or.inl rfl) (by first | rfl | assumption) rfl (fun _ _ => rfl) ?_
  refine x_iconst (v := nI 0) d_M_mapAll_5 (by decide) ?_
  refine x_istore_n d_M_mapAll_6 (by decide) ?_
  rw [plS_nil]
  have := lp c 0 (by omega)
  rw [pcS_0] at this
  refine xV.loc (this) (by repeat (first | exact trivial | refine ⟨rfl, ?_⟩))
/-- put behind those whose key is not greater, from the back -/
def insRev (x : KV) : List KV → List KV
  | [] => [x]
  | a :: r => if x.1 < a.1 then a :: insRev x r else x :: a :: r
def insB (x : KV) (q : List KV) : List KV := (insRev x q.reverse).reverse
theorem insB_nil (x : KV) : insB x [] = [x] := rfl
theorem insB_gt {x a : KV} {A : List KV} (h : x.1 < a.1) : insB x (A ++ [a]) = insB x A ++ [a] := by simp [insB, insRev, h]
theorem insB_le {x a : KV} {A : List KV} (h : ¬ x.1 < a.1) : insB x (A ++ [a]) = A ++ [a] ++ [x] := by simp [insB, insRev, h]
theorem insRev_len (x : KV) : ∀ q, (insRev x q).length = q.length + 1
  | [] => rfl
  | a :: r => by
    unfold insRev
    split
    · rw [List.length_cons, insRev_len x r, List.length_cons]
    · rfl
theorem insB_len (x : KV) (q : List KV) : (insB x q).length = q.length + 1 := by simp [insB, insRev_len]
def isort (q : List KV) : List KV := q.foldl (fun acc x => insB x acc) []
theorem isort_s (q : List KV) (x : KV) : isort (q ++ [x]) = insB x (isort q) := by simp [isort, List.foldl_append]
theorem foldIns_len : ∀ (q acc : List KV), (q.foldl (fun acc x => insB x acc) acc).length = acc.length + q.length
  | [], acc => rfl
  | x :: q, acc => by
    rw [List.foldl_cons, foldIns_len q, insB_len, List.length_cons]; omega
theorem isort_len (q : List KV) : (isort q).length = q.length := by unfold isort; rw [foldIns_len]; simp
theorem lastOf {A : List KV} {n : Nat} (h : A.length = n + 1) : ∃ A' a, A = A' ++ [a] ∧ A'.length = n := by
  have hne : A ≠ [] := by intro q; rw [q] at h; cases h
  exact ⟨A.dropLast, A.getLast hne, (List.dropLast_concat_getLast hne).symm, by rw [List.length_dropLast]; omega⟩
theorem x_decN {fr wd : Nat} {M : xM} {pc : Nat} {L : List (Nat × Value)} {st : List Value} {h : xH} {Q : xR → xH → Prop} {i n : Nat} (hd : decode (xMc M) pc = .ok (.iinc i (-1), 3)) (hx : xlk L i = some (.int (nI (n + 1)))) (hn : i < xMl M) (kq : xV l G fr wd M (pc + 3) (xst L i (.int (nI n))) st h Q) : xV l G fr wd M pc L st h Q :=
  x_iinc hd hx rfl hn (by rw [show nI (n + 1) + Int32.ofInt (-1) = nI n from by rw [show Int32.ofInt (-1) = -1 by decide, ← Int32.sub_eq_add_neg]; exact nI_pred n]; exact kq)
theorem st_in (hs : MSh h0 y) {k v : Int32} {i : Nat} {R : List KV} {Q : xR → xH → Prop} (hi : i < 300) (q0 : List KV)
    (nx : xV l G 0 0 m_M_sort 2 [(1, .int (nI (i + 1))), (0, .ref y)] [] (mset y (plS S (insB (k, v) q0 ++ R)) h0) Q) :
    ∀ (j : Nat) (A B : List KV) (x : KV), A.length = j → j ≤ i → insB (k, v) A ++ B = insB (k, v) q0 → xV l G 0 0 m_M_sort 27 [(4, .int (nI j)), (3, .int v), (2, .int k), (1, .int (nI i)), (0, .ref y)] [] (mset y (plS S (A ++ x :: (B ++ R))) h0) Q := by
  intro j
  induction j with
  | zero =>
    intro A B x hA hj hB
    obtain rfl : A = [] := List.eq_nil_of_length_eq_zero hA
    rw [insB_nil] at hB
    have h10 : 0 < mlen 10 := by decide
    have h11 : 0 < mlen 11 := by decide
    refine x_iload d_M_sort_27 rfl ?_
    refine x_if_le_t (tgt := 83) d_M_sort_29 (by decide) ((by decide)) ?_
    refine x_aload_n d_M_sort_83 rfl ?_
    refine xm_ref (k := 10) (j := 9) d_M_sort_84 hs (by decide) rfl rfl (by decide) wf_M_38 rfl ?_
    refine x_iload d_M_sort_87 rfl ?_
    refine x_iload_n d_M_sort_89 rfl ?_
    refine xm_ast d_M_sort_90 hs (by decide) rfl (by first | decide | assumption | omega) ?_
    refine x_aload_n d_M_sort_91 rfl ?_
    refine xm_ref (k := 11) (j := 10) d_M_sort_92 hs (by decide) rfl rfl (by decide) wf_M_41 rfl ?_
    refine x_iload d_M_sort_95 rfl ?_
    refine x_iload_n d_M_sort_97 rfl ?_
    refine xm_ast d_M_sort_98 hs (by decide) rfl (by first | decide | assumption | omega) ?_
    first | refine x_incN d_M_sort_99 rfl (by decide) ?_ | refine x_inc d_M_sort_99 rfl (by decide) ?_
    refine x_goto (tgt := 2) d_M_sort_102 (by decide) ?_
    rw [show xu (plS S ([] ++ x :: (B ++ R))) 10 0 k = plS S ([] ++ (k, x.2) :: (B ++ R)) from plS_wk, show xu (plS S ([] ++ (k, x.2) :: (B ++ R))) 11 0 v = plS S ([] ++ (k, v) :: (B ++ R)) from plS_wv]
    rw [show ([] ++ (k, v) :: (B ++ R) : List KV) = [(k, v)] ++ B ++ R from rfl, hB]
    refine xV.loc (nx) (by repeat (first | exact trivial | refine ⟨rfl, ?_⟩))
  | succ j ih =>
    intro A B x hA hj hB
    obtain ⟨A', a, rfl, hA'⟩ := lastOf hA
    have h10 : j + 1 < mlen 10 := by show j + 1 < 300; omega
    have h11 : j + 1 < mlen 11 := by show j + 1 < 300; omega
    have k10 : j < mlen 10 := by show j < 300; omega
    have k11 : j < mlen 11 := by show j < 300; omega
    have e0 : A' ++ [a] ++ x :: (B ++ R) = A' ++ a :: x :: (B ++ R) := by simp
    refine x_iload d_M_sort_27 rfl ?_
    refine x_if_le_f 83 d_M_sort_29 (by decide) ((nI_nle (by omega) (by omega))) ?_
    refine x_aload_n d_M_sort_32 rfl ?_
    refine xm_ref (k := 10) (j := 9) d_M_sort_33 hs (by decide) rfl rfl (by decide) wf_M_38 rfl ?_
    refine x_iload d_M_sort_36 rfl ?_
    refine x_iconst (v := nI 1) d_M_sort_38 (by decide) ?_
    refine x_isub d_M_sort_39 ?_
    rw [nI_sub (by omega), Nat.add_sub_cancel]
    refine xm_ald d_M_sort_40 hs (by decide) rfl (by first | decide | assumption | omega) ?_
    refine x_iload_n d_M_sort_41 rfl ?_
    have ek : plS S (A' ++ [a] ++ x :: (B ++ R)) 10 j = a.1 := by rw [e0, ← hA']; exact plS_key
    have ev : plS S (A' ++ [a] ++ (a.1, x.2) :: (B ++ R)) 11 j = a.2 := by
      rw [show A' ++ [a] ++ (a.1, x.2) :: (B ++ R) = A' ++ a :: (a.1, x.2) :: (B ++ R) by simp, ← hA']; exact plS_val
    rw [ek]
    refine x_icmp_le (tgt := 83) d_M_sort_42 (by decide) (fun c1 => ?_) (fun c1 => ?_)
    · have c1' : ¬ (k, v).1 < a.1 := Int32.not_lt.mpr c1
      rw [insB_le c1'] at hB
      refine x_aload_n d_M_sort_83 rfl ?_
      refine xm_ref (k := 10) (j := 9) d_M_sort_84 hs (by decide) rfl rfl (by decide) wf_M_38 rfl ?_
      refine x_iload d_M_sort_87 rfl ?_
      refine x_iload_n d_M_sort_89 rfl ?_
      refine xm_ast d_M_sort_90 hs (by decide) rfl (by first | decide | assumption | omega) ?_
      refine x_aload_n d_M_sort_91 rfl ?_
      refine xm_ref (k := 11) (j := 10) d_M_sort_92 hs (by decide) rfl rfl (by decide) wf_M_41 rfl ?_
      refine x_iload d_M_sort_95 rfl ?_
      refine x_iload_n d_M_sort_97 rfl ?_
      refine xm_ast d_M_sort_98 hs (by decide) rfl (by first | decide | assumption | omega) ?_
      first | refine x_incN d_M_sort_99 rfl (by decide) ?_ | refine x_inc d_M_sort_99 rfl (by decide) ?_
      refine x_goto (tgt := 2) d_M_sort_102 (by decide) ?_
      rw [show xu (plS S (A' ++ [a] ++ x :: (B ++ R))) 10 (j + 1) k = plS S (A' ++ [a] ++ (k, x.2) :: (B ++ R)) by rw [← hA]; exact plS_wk, show xu (plS S (A' ++ [a] ++ (k, x.2) :: (B ++ R))) 11 (j + 1) v = plS S (A' ++ [a] ++ (k, v) :: (B ++ R)) by rw [← hA]; exact plS_wv]
      rw [show A' ++ [a] ++ (k, v) :: (B ++ R) = A' ++ [a] ++ [(k, v)] ++ B ++ R by simp, hB]
      refine xV.loc (nx) (by repeat (first | exact trivial | refine ⟨rfl, ?_⟩))
    · have c1' : (k, v).1 < a.1 := Int32.not_le.mp c1
      rw [insB_gt c1', List.append_assoc, List.singleton_append] at hB
      have nx2 := ih A' (a :: B) a hA' (by omega) hB
      refine x_aload_n d_M_sort_45 rfl ?_
      refine xm_ref (k := 10) (j := 9) d_M_sort_46 hs (by decide) rfl rfl (by decide) wf_M_38 rfl ?_
      refine x_iload d_M_sort_49 rfl ?_
      refine x_aload_n d_M_sort_51 rfl ?_
      refine xm_ref (k := 10) (j := 9) d_M_sort_52 hs (by decide) rfl rfl (by decide) wf_M_38 rfl ?_
      refine x_iload d_M_sort_55 rfl ?_
      refine x_iconst (v := nI 1) d_M_sort_57 (by decide) ?_
      refine x_isub d_M_sort_58 ?_
      rw [nI_sub (by omega), Nat.add_sub_cancel]
      refine xm_ald d_M_sort_59 hs (by decide) rfl (by first | decide | assumption | omega) ?_
      refine xm_ast d_M_sort_60 hs (by decide) rfl (by first | decide | assumption | omega) ?_
      refine x_aload_n d_M_sort_61 rfl ?_
      refine xm_ref (k := 11) (j := 10) d_M_sort_62 hs (by decide) rfl rfl (by decide) wf_M_41 rfl ?_
      refine x_iload d_M_sort_65 rfl ?_
      refine x_aload_n d_M_sort_67 rfl ?_
      refine xm_ref (k := 11) (j := 10) d_M_sort_68 hs (by decide) rfl rfl (by decide) wf_M_41 rfl ?_
      refine x_iload d_M_sort_71 rfl ?_
      refine x_iconst (v := nI 1) d_M_sort_73 (by decide) ?_
      refine x_isub d_M_sort_74 ?_
      rw [nI_sub (by omega), Nat.add_sub_cancel, ek, show xu (plS S (A' ++ [a] ++ x :: (B ++ R))) 10 (j + 1) a.1 = plS S (A' ++ [a] ++ (a.1, x.2) :: (B ++ R)) by rw [← hA]; exact plS_wk]
      refine xm_ald d_M_sort_75 hs (by decide) rfl (by first | decide | assumption | omega) ?_
      rw [ev]
      refine xm_ast d_M_sort_76 hs (by decide) rfl (by first | decide | assumption | omega) ?_
      refine x_decN d_M_sort_77 rfl (by decide) ?_
      refine x_goto (tgt := 27) d_M_sort_80 (by decide) ?_
      rw [show xu (plS S (A' ++ [a] ++ (a.1, x.2) :: (B ++ R))) 11 (j + 1) a.2 = plS S (A' ++ [a] ++ (a.1, a.2) :: (B ++ R)) by rw [← hA]; exact plS_wv]
      rw [show A' ++ [a] ++ (a.1, a.2) :: (B ++ R) = A' ++ a :: (a :: B ++ R) by simp]
      refine xV.loc (nx2) (by repeat (first | exact trivial | refine ⟨rfl, ?_⟩))
theorem c_M_sort (hs : MSh h0 y) {q : List KV} (hq : q.length ≤ 300) : xVM l G 0 0 m_M_sort [.ref y] (mset y (plS S q) h0) (fun r h' => r = .inl none ∧ h' = mset y (plS S (isort q)) h0) := by
  have lp : ∀ m i : Nat, i + m = q.length + 1 → 1 ≤ i → xV l G 0 0 m_M_sort 2 [(1, .int (nI i)), (0, .ref y)] [] (mset y (plS S (isort (q.take i) ++ q.drop i)) h0) (fun r h' => r = .inl none ∧ h' = mset y (plS S (isort q)) h0) := by
    intro m
    induction m with
    | zero =>
      intro i him h1
      refine x_iload_n d_M_sort_2 rfl ?_
      refine x_aload_n d_M_sort_3 rfl ?_
      refine xm_get (j := 12) d_M_sort_4 hs rfl (by decide) wf_M_86 (fun _ _ => rfl) ?_
      rw [plS_n, List.length_append, isort_len, List.length_take, List.length_drop]
      refine x_icmp_ge_t (tgt := 105) d_M_sort_7 (by decide) ((nI_le (by omega) (by omega))) ?_
      refine x_vret d_M_sort_105 rfl ?_
      exact ⟨rfl, by rw [List.take_of_length_le (by omega), List.drop_of_length_le (by omega), List.append_nil]⟩
    | succ m ih =>
      intro i him h1
      have len : (isort (q.take i) ++ q.drop i).length = q.length := by rw [List.length_append, isort_len, List.length_take, List.length_drop]; omega
      by_cases hi : i = q.length
      · refine x_iload_n d_M_sort_2 rfl ?_
        refine x_aload_n d_M_sort_3 rfl ?_
        refine xm_get (j := 12) d_M_sort_4 hs rfl (by decide) wf_M_86 (fun _ _ => rfl) ?_
        rw [plS_n, len]
        refine x_icmp_ge_t (tgt := 105) d_M_sort_7 (by decide) ((nI_le (by omega) (by omega))) ?_
        refine x_vret d_M_sort_105 rfl ?_
        exact ⟨rfl, by rw [List.take_of_length_le (by omega), List.drop_of_length_le (by omega), List.append_nil]⟩
      · have hil : i < q.length := by omega
        have hA : (isort (q.take i)).length = i := by rw [isort_len, List.length_take]; omega
        have ed : q.drop i = q[i] :: q.drop (i + 1) := List.drop_eq_getElem_cons hil
        have nx := ih (i + 1) (by omega) (by omega)
        rw [List.take_succ_eq_append_getElem hil, isort_s] at nx
        have h10 : i < mlen 10 := by show i < 300; omega
        have h11 : i < mlen 11 := by show i < 300; omega
        have ek : plS S (isort (q.take i) ++ q.drop i) 10 i = (q[i]).1 := by
          have := plS_key (S := S) (A := isort (q.take i)) (B := q.drop (i + 1)) (x := q[i])
          rw [hA, ← ed] at this; exact this
        have ev : plS S (isort (q.take i) ++ q.drop i) 11 i = (q[i]).2 := by
          have := plS_val (S := S) (A := isort (q.take i)) (B := q.drop (i + 1)) (x := q[i])
          rw [hA, ← ed] at this; exact this
        have inn := st_in (l := l) (G := G) (S := S) hs (k := (q[i]).1) (v := (q[i]).2) (i := i) (R := q.drop (i + 1)) (by omega) (isort (q.take i)) nx i (isort (q.take i)) [] (q[i]) hA (Nat.le_refl i) (List.append_nil _)
        rw [List.nil_append, ← ed] at inn
        refine x_iload_n d_M_sort_2 rfl ?_
        refine x_aload_n d_M_sort_3 rfl ?_
        refine xm_get (j := 12) d_M_sort_4 hs rfl (by decide) wf_M_86 (fun _ _ => rfl) ?_
        rw [plS_n, len]
        refine x_icmp_ge_f 105 d_M_sort_7 (by decide) ((nI_ge (by omega) (by omega))) ?_
        refine x_aload_n d_M_sort_10 rfl ?_
        refine xm_ref (k := 10) (j := 9) d_M_sort_11 hs (by decide) rfl rfl (by decide) wf_M_38 rfl ?_
        refine x_iload_n d_M_sort_14 rfl ?_
        refine xm_ald d_M_sort_15 hs (by decide) rfl (by first | decide | assumption | omega) ?_
        rw [ek]
        refine x_istore_n d_M_sort_16 (by decide) ?_
        refine x_aload_n d_M_sort_17 rfl ?_
        refine xm_ref (k := 11) (j := 10) d_M_sort_18 hs (by decide) rfl rfl (by decide) wf_M_41 rfl ?_
        refine x_iload_n d_M_sort_21 rfl ?_
        refine xm_ald d_M_sort_22 hs (by decide) rfl (by first | decide | assumption | omega) ?_
        rw [ev]
        refine x_istore_n d_M_sort_23 (by decide) ?_
        refine x_iload_n d_M_sort_24 rfl ?_
        refine x_istore d_M_sort_25 (by decide) ?_
        refine xV.loc (inn) (by repeat (first | exact trivial | refine ⟨rfl, ?_⟩))
  unfold xVM
  refine x_iconst (v := nI 1) d_M_sort_0 (by decide) ?_
  refine x_istore_n d_M_sort_1 (by decide) ?_
  have := lp q.length 1 (by omega) (Nat.le_refl 1)
  rw [show isort (q.take 1) ++ q.drop 1 = q by cases q <;> rfl] at this
  refine xV.loc (this) (by repeat (first | exact trivial | refine ⟨rfl, ?_⟩))
end XM5
end
section
/-- one value more -/
def cmb (red x : Int32) (n : Nat) (v : Int32) : Int32 :=
  if red = nI 0 then x + v else if red = nI 1 then nI n + nI 1 else if red = nI 2 then (if n = 0 ∨ x < v then v else x) else if red = nI 3 then x * nI 31 + v else if red = nI 4 then (if n = 0 then v else x / v) else x
/-- the values of key k from place j on: what they are reduced to, how many, whether the reducer fails -/
def rd (S : Nat → Nat → Int32) (k : Int32) : Nat → Nat → Int32 → Nat → Int32 × Nat × Bool
  | 0, _, x, n => (x, n, false)
  | m + 1, j, x, n => if S 10 j = k then (if S 11 j < S 0 16 then rd S k m (j + 1) x n else if S 0 18 = nI 4 ∧ 0 < n ∧ S 11 j = 0 then (x, n + 1, true) else rd S k m (j + 1) (cmb (S 0 18) x n (S 11 j)) (n + 1)) else (x, n, false)
theorem rd_congr {S T : Nat → Nat → Int32} (h10 : S 10 = T 10) (h11 : S 11 = T 11) (h16 : S 0 16 = T 0 16) (h18 : S 0 18 = T 0 18) (k : Int32) : ∀ m j x n, rd S k m j x n = rd T k m j x n
  | 0, _, _, _ => rfl
  | m + 1, j, x, n => by
    unfold rd
    rw [h10, h11, h16, h18, rd_congr h10 h11 h16 h18 k m, rd_congr h10 h11 h16 h18 k m]
def rdT (S : Nat → Nat → Int32) (o : Int32 × Nat × Bool) : Nat → Nat → Int32 := xu (if o.2.2 = true then xu S 0 14 (nI 3) else S) 0 27 (bI (0 < o.2.1))
section XM6
variable {l : Launch} {G : xG} {h0 : xH} {y : Nat} {S : Nat → Nat → Int32}
theorem rd_fin (hs : MSh h0 y) {T : Nat → Nat → Int32} {x : Int32} {n : Nat} (hn : n < 2 ^ 31) : xV l G 0 0 m_M_reduced 181 [(3, .int (nI n)), (2, .int x), (0, .ref y)] [] (mset y T h0) (fun r h' => r = .inl (some (.int x)) ∧ h' = mset y (xu T 0 27 (bI (0 < n))) h0) := by
  by_cases h : 0 < n
  · refine x_aload_n d_M_reduced_181 rfl ?_
    refine x_iload_n d_M_reduced_182 rfl ?_
    refine x_if_le_f 190 d_M_reduced_183 (by decide) ((nI_nle h hn)) ?_
    refine x_iconst (v := nI 1) d_M_reduced_186 (by decide) ?_
    refine x_goto (tgt := 191) d_M_reduced_187 (by decide) ?_
    refine xm_put (j := 27) d_M_reduced_191 hs rfl (by decide) wf_M_112 (Or.inl rfl) (by first | rfl | assumption) rfl (fun _ _ => rfl) ?_
    refine x_iload_n d_M_reduced_194 rfl ?_
    refine x_iret d_M_reduced_195 rfl (by first | rfl | assumption) ?_
    exact ⟨rfl, by rw [bI_t h]⟩
  · refine x_aload_n d_M_reduced_181 rfl ?_
    refine x_iload_n d_M_reduced_182 rfl ?_
    refine x_if_le_t (tgt := 190) d_M_reduced_183 (by decide) ((by rw [show n = 0 by omega]; decide)) ?_
    refine x_iconst (v := nI 0) d_M_reduced_190 (by decide) ?_
    refine xm_put (j := 27) d_M_reduced_191 hs rfl (by decide) wf_M_112 (Or.inl rfl) (by first | rfl | assumption) rfl (fun _ _ => rfl) ?_
    refine x_iload_n d_M_reduced_194 rfl ?_
    refine x_iret d_M_reduced_195 rfl (by first | rfl | assumption) ?_
    exact ⟨rfl, by rw [bI_f h]⟩
theorem rd_loop (hs : MSh h0 y) {np fm : Nat} (hp : S 0 12 = nI np) (hnp : np ≤ 300) (ht : S 0 14 = 0) (hfm : fm < np) :
    ∀ (m j : Nat) (x : Int32) (n : Nat), j + m = np → n ≤ j → xV l G 0 0 m_M_reduced 7 [(4, .int (nI j)), (3, .int (nI n)), (2, .int x), (0, .ref y), (1, .int (nI fm))] [] (mset y S h0) (fun r h' => r = .inl (some (.int (rd S (S 10 fm) m j x n).1)) ∧ h' = mset y (rdT S (rd S (S 10 fm) m j x n)) h0) := by
  have f10 : fm < mlen 10 := by show fm < 300; omega
  intro m
  induction m with
  | zero =>
    intro j x n hj hn
    have fin := rd_fin (l := l) (G := G) hs (T := S) (x := x) (n := n) (by omega)
    refine x_iload d_M_reduced_7 rfl ?_
    refine x_aload_n d_M_reduced_9 rfl ?_
    refine xm_get (j := 12) d_M_reduced_10 hs rfl (by decide) wf_M_86 (fun _ _ => rfl) ?_
    rw [hp]
    refine x_icmp_ge_t (tgt := 181) d_M_reduced_13 (by decide) ((nI_le (by omega) (by omega))) ?_
    refine xV.loc (fin) (by repeat (first | exact trivial | refine ⟨rfl, ?_⟩))
  | succ m ih =>
    intro j x n hj hn
    have hj10 : j < mlen 10 := by show j < 300; omega
    have hj11 : j < mlen 11 := by show j < 300; omega
    have hj10' : j + 1 < np → j + 1 < mlen 10 := by intro q; show j + 1 < 300; omega
    refine x_iload d_M_reduced_7 rfl ?_
    refine x_aload_n d_M_reduced_9 rfl ?_
    refine xm_get (j := 12) d_M_reduced_10 hs rfl (by decide) wf_M_86 (fun _ _ => rfl) ?_
    rw [hp]
    refine x_icmp_ge_f 181 d_M_reduced_13 (by decide) ((nI_ge (by omega) (by omega))) ?_
    refine x_aload_n d_M_reduced_16 rfl ?_
    refine xm_ref (k := 10) (j := 9) d_M_reduced_17 hs (by decide) rfl rfl (by decide) wf_M_38 rfl ?_
    refine x_iload d_M_reduced_20 rfl ?_
    refine xm_ald d_M_reduced_22 hs (by decide) rfl (by first | decide | assumption | omega) ?_
    refine x_aload_n d_M_reduced_23 rfl ?_
    refine xm_ref (k := 10) (j := 9) d_M_reduced_24 hs (by decide) rfl rfl (by decide) wf_M_38 rfl ?_
    refine x_iload_n d_M_reduced_27 rfl ?_
    refine xm_ald d_M_reduced_28 hs (by decide) rfl (by first | decide | assumption | omega) ?_
    refine x_icmp_ne (tgt := 181) d_M_reduced_29 (by decide) (fun c1 => ?_) (fun c1 => ?_)
    · have fin := rd_fin (l := l) (G := G) hs (T := S) (x := x) (n := n) (by omega)
      rw [show rd S (S 10 fm) (m + 1) j x n = (x, n, false) from if_neg c1]
      refine xV.loc (fin) (by repeat (first | exact trivial | refine ⟨rfl, ?_⟩))
    · refine x_aload_n d_M_reduced_32 rfl ?_
      refine xm_get (j := 14) d_M_reduced_33 hs rfl (by decide) wf_M_64 (fun _ _ => rfl) ?_
      refine x_if_ne_f 181 d_M_reduced_36 (by decide) (ht) ?_
      refine x_aload_n d_M_reduced_39 rfl ?_
      refine xm_ref (k := 11) (j := 10) d_M_reduced_40 hs (by decide) rfl rfl (by decide) wf_M_41 rfl ?_
      refine x_iload d_M_reduced_43 rfl ?_
      refine xm_ald d_M_reduced_45 hs (by decide) rfl (by first | decide | assumption | omega) ?_
      refine x_istore d_M_reduced_46 (by decide) ?_
      refine x_iload d_M_reduced_48 rfl ?_
      refine x_aload_n d_M_reduced_50 rfl ?_
      refine xm_get (j := 16) d_M_reduced_51 hs rfl (by decide) wf_M_106 (fun _ _ => rfl) ?_
      refine x_icmp_ge (tgt := 60) d_M_reduced_54 (by decide) (fun c2 => ?_) (fun c2 => ?_)
      · have c2' : ¬ S 11 j < S 0 16 := Int32.not_lt.mpr c2
        have e1 : rd S (S 10 fm) (m + 1) j x n = if S 0 18 = nI 4 ∧ 0 < n ∧ S 11 j = 0 then (x, n + 1, true) else rd S (S 10 fm) m (j + 1) (cmb (S 0 18) x n (S 11 j)) (n + 1) := by
          rw [rd, if_pos c1, if_neg c2']
        rw [e1]
        have go : ∀ x', x' = cmb (S 0 18) x n (S 11 j) → ¬ (S 0 18 = nI 4 ∧ 0 < n ∧ S 11 j = 0) → xV l G 0 0 m_M_reduced 172 [(5, .int (S 11 j)), (4, .int (nI j)), (3, .int (nI n)), (2, .int x'), (0, .ref y), (1, .int (nI fm))] [] (mset y S h0) (fun r h' => r = .inl (some (.int (if S 0 18 = nI 4 ∧ 0 < n ∧ S 11 j = 0 then (x, n + 1, true) else rd S (S 10 fm) m (j + 1) (cmb (S 0 18) x n (S 11 j)) (n + 1)).1)) ∧ h' = mset y (rdT S (if S 0 18 = nI 4 ∧ 0 < n ∧ S 11 j = 0 then (x, n + 1, true) else rd S (S 10 fm) m (j + 1) (cmb (S 0 18) x n (S 11 j)) (n + 1))) h0) := by
          intro x' hx' hf
          rw [if_neg hf, ← hx']
          have nx := ih (j + 1) x' (n + 1) (by omega) (by omega)
          first | refine x_incN d_M_reduced_172 rfl (by decide) ?_ | refine x_inc d_M_reduced_172 rfl (by decide) ?_
          first | refine x_incN d_M_reduced_175 rfl (by decide) ?_ | refine x_inc d_M_reduced_175 rfl (by decide) ?_
          refine x_goto (tgt := 7) d_M_reduced_178 (by decide) ?_
          refine xV.loc (nx) (by repeat (first | exact trivial | refine ⟨rfl, ?_⟩))
        refine x_aload_n d_M_reduced_60 rfl ?_
        refine xm_get (j := 18) d_M_reduced_61 hs rfl (by decide) wf_M_109 (fun _ _ => rfl) ?_
        by_cases r0 : S 0 18 = nI 0
        · have go := go (x + S 11 j) (by unfold cmb; rw [if_pos r0]) (fun q => by rw [r0] at q; exact absurd q.1 (by decide))
          refine x_if_ne_f 72 d_M_reduced_64 (by decide) ((r0)) ?_
          refine x_iload_n d_M_reduced_67 rfl ?_
          refine x_iload d_M_reduced_68 rfl ?_
          refine x_iadd d_M_reduced_70 ?_
          refine x_istore_n d_M_reduced_71 (by decide) ?_
          refine x_aload_n d_M_reduced_72 rfl ?_
          refine xm_get (j := 18) d_M_reduced_73 hs rfl (by decide) wf_M_109 (fun _ _ => rfl) ?_
          refine x_iconst (v := nI 1) d_M_reduced_76 (by decide) ?_
          refine x_icmp_ne_t (tgt := 84) d_M_reduced_77 (by decide) ((by rw [r0]; decide)) ?_
          refine x_aload_n d_M_reduced_84 rfl ?_
          refine xm_get (j := 18) d_M_reduced_85 hs rfl (by decide) wf_M_109 (fun _ _ => rfl) ?_
          refine x_iconst (v := nI 2) d_M_reduced_88 (by decide) ?_
          refine x_icmp_ne_t (tgt := 109) d_M_reduced_89 (by decide) ((by rw [r0]; decide)) ?_
          refine x_aload_n d_M_reduced_109 rfl ?_
          refine xm_get (j := 18) d_M_reduced_110 hs rfl (by decide) wf_M_109 (fun _ _ => rfl) ?_
          refine x_iconst (v := nI 3) d_M_reduced_113 (by decide) ?_
          refine x_icmp_ne_t (tgt := 125) d_M_reduced_114 (by decide) ((by rw [r0]; decide)) ?_
          refine x_aload_n d_M_reduced_125 rfl ?_
          refine xm_get (j := 18) d_M_reduced_126 hs rfl (by decide) wf_M_109 (fun _ _ => rfl) ?_
          refine x_iconst (v := nI 4) d_M_reduced_129 (by decide) ?_
          refine x_icmp_ne_t (tgt := 150) d_M_reduced_130 (by decide) ((by rw [r0]; decide)) ?_
          refine x_aload_n d_M_reduced_150 rfl ?_
          refine xm_get (j := 18) d_M_reduced_151 hs rfl (by decide) wf_M_109 (fun _ _ => rfl) ?_
          refine x_iconst (v := nI 4) d_M_reduced_154 (by decide) ?_
          refine x_icmp_ne_t (tgt := 172) d_M_reduced_155 (by decide) ((by rw [r0]; decide)) ?_
          refine xV.loc (go) (by repeat (first | exact trivial | refine ⟨rfl, ?_⟩))
        by_cases r1 : S 0 18 = nI 1
        · have go := go (nI n + nI 1) (by unfold cmb; rw [if_neg r0, if_pos r1]) (fun q => by rw [r1] at q; exact absurd q.1 (by decide))
          refine x_if_ne_t (tgt := 72) d_M_reduced_64 (by decide) ((r0)) ?_
          refine x_aload_n d_M_reduced_72 rfl ?_
          refine xm_get (j := 18) d_M_reduced_73 hs rfl (by decide) wf_M_109 (fun _ _ => rfl) ?_
          refine x_iconst (v := nI 1) d_M_reduced_76 (by decide) ?_
          refine x_icmp_ne_f 84 d_M_reduced_77 (by decide) ((r1)) ?_
          refine x_iload_n d_M_reduced_80 rfl ?_
          refine x_iconst (v := nI 1) d_M_reduced_81 (by decide) ?_
          refine x_iadd d_M_reduced_82 ?_
          refine x_istore_n d_M_reduced_83 (by decide) ?_
          refine x_aload_n d_M_reduced_84 rfl ?_
          refine xm_get (j := 18) d_M_reduced_85 hs rfl (by decide) wf_M_109 (fun _ _ => rfl) ?_
          refine x_iconst (v := nI 2) d_M_reduced_88 (by decide) ?_
          refine x_icmp_ne_t (tgt := 109) d_M_reduced_89 (by decide) ((by rw [r1]; decide)) ?_
          refine x_aload_n d_M_reduced_109 rfl ?_
          refine xm_get (j := 18) d_M_reduced_110 hs rfl (by decide) wf_M_109 (fun _ _ => rfl) ?_
          refine x_iconst (v := nI 3) d_M_reduced_113 (by decide) ?_
          refine x_icmp_ne_t (tgt := 125) d_M_reduced_114 (by decide) ((by rw [r1]; decide)) ?_
          refine x_aload_n d_M_reduced_125 rfl ?_
          refine xm_get (j := 18) d_M_reduced_126 hs rfl (by decide) wf_M_109 (fun _ _ => rfl) ?_
          refine x_iconst (v := nI 4) d_M_reduced_129 (by decide) ?_
          refine x_icmp_ne_t (tgt := 150) d_M_reduced_130 (by decide) ((by rw [r1]; decide)) ?_
          refine x_aload_n d_M_reduced_150 rfl ?_
          refine xm_get (j := 18) d_M_reduced_151 hs rfl (by decide) wf_M_109 (fun _ _ => rfl) ?_
          refine x_iconst (v := nI 4) d_M_reduced_154 (by decide) ?_
          refine x_icmp_ne_t (tgt := 172) d_M_reduced_155 (by decide) ((by rw [r1]; decide)) ?_
          refine xV.loc (go) (by repeat (first | exact trivial | refine ⟨rfl, ?_⟩))
        by_cases r2 : S 0 18 = nI 2
        · have go2 := go (if n = 0 ∨ x < S 11 j then S 11 j else x) (by unfold cmb; rw [if_neg r0, if_neg r1, if_pos r2]) (fun q => by rw [r2] at q; exact absurd q.1 (by decide))
          refine x_if_ne_t (tgt := 72) d_M_reduced_64 (by decide) ((r0)) ?_
          refine x_aload_n d_M_reduced_72 rfl ?_
          refine xm_get (j := 18) d_M_reduced_73 hs rfl (by decide) wf_M_109 (fun _ _ => rfl) ?_
          refine x_iconst (v := nI 1) d_M_reduced_76 (by decide) ?_
          refine x_icmp_ne_t (tgt := 84) d_M_reduced_77 (by decide) ((r1)) ?_
          refine x_aload_n d_M_reduced_84 rfl ?_
          refine xm_get (j := 18) d_M_reduced_85 hs rfl (by decide) wf_M_109 (fun _ _ => rfl) ?_
          refine x_iconst (v := nI 2) d_M_reduced_88 (by decide) ?_
          refine x_icmp_ne_f 109 d_M_reduced_89 (by decide) ((r2)) ?_
          refine x_iload_n d_M_reduced_92 rfl ?_
          by_cases n0 : n = 0
          · rw [if_pos (Or.inl n0)] at go2
            refine x_if_eq_t (tgt := 102) d_M_reduced_93 (by decide) ((by rw [n0]; rfl)) ?_
            refine x_iload d_M_reduced_102 rfl ?_
            refine x_goto (tgt := 108) d_M_reduced_104 (by decide) ?_
            refine x_istore_n d_M_reduced_108 (by decide) ?_
            refine x_aload_n d_M_reduced_109 rfl ?_
            refine xm_get (j := 18) d_M_reduced_110 hs rfl (by decide) wf_M_109 (fun _ _ => rfl) ?_
            refine x_iconst (v := nI 3) d_M_reduced_113 (by decide) ?_
            refine x_icmp_ne_t (tgt := 125) d_M_reduced_114 (by decide) ((by rw [r2]; decide)) ?_
            refine x_aload_n d_M_reduced_125 rfl ?_
            refine xm_get (j := 18) d_M_reduced_126 hs rfl (by decide) wf_M_109 (fun _ _ => rfl) ?_
            refine x_iconst (v := nI 4) d_M_reduced_129 (by decide) ?_
            refine x_icmp_ne_t (tgt := 150) d_M_reduced_130 (by decide) ((by rw [r2]; decide)) ?_
            refine x_aload_n d_M_reduced_150 rfl ?_
            refine xm_get (j := 18) d_M_reduced_151 hs rfl (by decide) wf_M_109 (fun _ _ => rfl) ?_
            refine x_iconst (v := nI 4) d_M_reduced_154 (by decide) ?_
            refine x_icmp_ne_t (tgt := 172) d_M_reduced_155 (by decide) ((by rw [r2]; decide)) ?_
            refine xV.loc (go2) (by repeat (first | exact trivial | refine ⟨rfl, ?_⟩))
          · skip
            refine x_if_eq_f 102 d_M_reduced_93 (by decide) ((nI_ne0 (by omega) (by omega))) ?_
            refine x_iload d_M_reduced_96 rfl ?_
            refine x_iload_n d_M_reduced_98 rfl ?_
            refine x_icmp_le (tgt := 107) d_M_reduced_99 (by decide) (fun c3 => ?_) (fun c3 => ?_)
            · rw [if_neg (by rintro (q | q); exact n0 q; exact absurd q (Int32.not_lt.mpr c3))] at go2
              refine x_iload_n d_M_reduced_107 rfl ?_
              refine x_istore_n d_M_reduced_108 (by decide) ?_
              refine x_aload_n d_M_reduced_109 rfl ?_
              refine xm_get (j := 18) d_M_reduced_110 hs rfl (by decide) wf_M_109 (fun _ _ => rfl) ?_
              refine x_iconst (v := nI 3) d_M_reduced_113 (by decide) ?_
              refine x_icmp_ne_t (tgt := 125) d_M_reduced_114 (by decide) ((by rw [r2]; decide)) ?_
              refine x_aload_n d_M_reduced_125 rfl ?_
              refine xm_get (j := 18) d_M_reduced_126 hs rfl (by decide) wf_M_109 (fun _ _ => rfl) ?_
              refine x_iconst (v := nI 4) d_M_reduced_129 (by decide) ?_
              refine x_icmp_ne_t (tgt := 150) d_M_reduced_130 (by decide) ((by rw [r2]; decide)) ?_
              refine x_aload_n d_M_reduced_150 rfl ?_
              refine xm_get (j := 18) d_M_reduced_151 hs rfl (by decide) wf_M_109 (fun _ _ => rfl) ?_
              refine x_iconst (v := nI 4) d_M_reduced_154 (by decide) ?_
              refine x_icmp_ne_t (tgt := 172) d_M_reduced_155 (by decide) ((by rw [r2]; decide)) ?_
              refine xV.loc (go2) (by repeat (first | exact trivial | refine ⟨rfl, ?_⟩))
            · rw [if_pos (Or.inr (Int32.not_le.mp c3))] at go2
              refine x_iload d_M_reduced_102 rfl ?_
              refine x_goto (tgt := 108) d_M_reduced_104 (by decide) ?_
              refine x_istore_n d_M_reduced_108 (by decide) ?_
              refine x_aload_n d_M_reduced_109 rfl ?_
              refine xm_get (j := 18) d_M_reduced_110 hs rfl (by decide) wf_M_109 (fun _ _ => rfl) ?_
              refine x_iconst (v := nI 3) d_M_reduced_113 (by decide) ?_
              refine x_icmp_ne_t (tgt := 125) d_M_reduced_114 (by decide) ((by rw [r2]; decide)) ?_
              refine x_aload_n d_M_reduced_125 rfl ?_
              refine xm_get (j := 18) d_M_reduced_126 hs rfl (by decide) wf_M_109 (fun _ _ => rfl) ?_
              refine x_iconst (v := nI 4) d_M_reduced_129 (by decide) ?_
              refine x_icmp_ne_t (tgt := 150) d_M_reduced_130 (by decide) ((by rw [r2]; decide)) ?_
              refine x_aload_n d_M_reduced_150 rfl ?_
              refine xm_get (j := 18) d_M_reduced_151 hs rfl (by decide) wf_M_109 (fun _ _ => rfl) ?_
              refine x_iconst (v := nI 4) d_M_reduced_154 (by decide) ?_
              refine x_icmp_ne_t (tgt := 172) d_M_reduced_155 (by decide) ((by rw [r2]; decide)) ?_
              refine xV.loc (go2) (by repeat (first | exact trivial | refine ⟨rfl, ?_⟩))
        by_cases r3 : S 0 18 = nI 3
        · have go2 := go (x * nI 31 + S 11 j) (by unfold cmb; rw [if_neg r0, if_neg r1, if_neg r2, if_pos r3]) (fun q => by rw [r3] at q; exact absurd q.1 (by decide))
          refine x_if_ne_t (tgt := 72) d_M_reduced_64 (by decide) ((r0)) ?_
          refine x_aload_n d_M_reduced_72 rfl ?_
          refine xm_get (j := 18) d_M_reduced_73 hs rfl (by decide) wf_M_109 (fun _ _ => rfl) ?_
          refine x_iconst (v := nI 1) d_M_reduced_76 (by decide) ?_
          refine x_icmp_ne_t (tgt := 84) d_M_reduced_77 (by decide) ((r1)) ?_
          refine x_aload_n d_M_reduced_84 rfl ?_
          refine xm_get (j := 18) d_M_reduced_85 hs rfl (by decide) wf_M_109 (fun _ _ => rfl) ?_
          refine x_iconst (v := nI 2) d_M_reduced_88 (by decide) ?_
          refine x_icmp_ne_t (tgt := 109) d_M_reduced_89 (by decide) ((r2)) ?_
          refine x_aload_n d_M_reduced_109 rfl ?_
          refine xm_get (j := 18) d_M_reduced_110 hs rfl (by decide) wf_M_109 (fun _ _ => rfl) ?_
          refine x_iconst (v := nI 3) d_M_reduced_113 (by decide) ?_
          refine x_icmp_ne_f 125 d_M_reduced_114 (by decide) ((r3)) ?_
          refine x_iload_n d_M_reduced_117 rfl ?_
          refine x_bipush (v := nI 31) d_M_reduced_118 (by decide) ?_
          refine x_imul d_M_reduced_120 ?_
          refine x_iload d_M_reduced_121 rfl ?_
          refine x_iadd d_M_reduced_123 ?_
          refine x_istore_n d_M_reduced_124 (by decide) ?_
          refine x_aload_n d_M_reduced_125 rfl ?_
          refine xm_get (j := 18) d_M_reduced_126 hs rfl (by decide) wf_M_109 (fun _ _ => rfl) ?_
          refine x_iconst (v := nI 4) d_M_reduced_129 (by decide) ?_
          refine x_icmp_ne_t (tgt := 150) d_M_reduced_130 (by decide) ((by rw [r3]; decide)) ?_
          refine x_aload_n d_M_reduced_150 rfl ?_
          refine xm_get (j := 18) d_M_reduced_151 hs rfl (by decide) wf_M_109 (fun _ _ => rfl) ?_
          refine x_iconst (v := nI 4) d_M_reduced_154 (by decide) ?_
          refine x_icmp_ne_t (tgt := 172) d_M_reduced_155 (by decide) ((by rw [r3]; decide)) ?_
          refine xV.loc (go2) (by repeat (first | exact trivial | refine ⟨rfl, ?_⟩))
        by_cases r4 : S 0 18 = nI 4
        · skip
          refine x_if_ne_t (tgt := 72) d_M_reduced_64 (by decide) ((r0)) ?_
          refine x_aload_n d_M_reduced_72 rfl ?_
          refine xm_get (j := 18) d_M_reduced_73 hs rfl (by decide) wf_M_109 (fun _ _ => rfl) ?_
          refine x_iconst (v := nI 1) d_M_reduced_76 (by decide) ?_
          refine x_icmp_ne_t (tgt := 84) d_M_reduced_77 (by decide) ((r1)) ?_
          refine x_aload_n d_M_reduced_84 rfl ?_
          refine xm_get (j := 18) d_M_reduced_85 hs rfl (by decide) wf_M_109 (fun _ _ => rfl) ?_
          refine x_iconst (v := nI 2) d_M_reduced_88 (by decide) ?_
          refine x_icmp_ne_t (tgt := 109) d_M_reduced_89 (by decide) ((r2)) ?_
          refine x_aload_n d_M_reduced_109 rfl ?_
          refine xm_get (j := 18) d_M_reduced_110 hs rfl (by decide) wf_M_109 (fun _ _ => rfl) ?_
          refine x_iconst (v := nI 3) d_M_reduced_113 (by decide) ?_
          refine x_icmp_ne_t (tgt := 125) d_M_reduced_114 (by decide) ((r3)) ?_
          refine x_aload_n d_M_reduced_125 rfl ?_
          refine xm_get (j := 18) d_M_reduced_126 hs rfl (by decide) wf_M_109 (fun _ _ => rfl) ?_
          refine x_iconst (v := nI 4) d_M_reduced_129 (by decide) ?_
          refine x_icmp_ne_f 150 d_M_reduced_130 (by decide) ((r4)) ?_
          refine x_iload_n d_M_reduced_133 rfl ?_
          by_cases n0 : n = 0
          · have go2 := go (S 11 j) (by unfold cmb; rw [if_neg r0, if_neg r1, if_neg r2, if_neg r3, if_pos r4, if_pos n0]) (fun q => by omega)
            refine x_if_le_t (tgt := 150) d_M_reduced_134 (by decide) ((by rw [n0]; decide)) ?_
            refine x_aload_n d_M_reduced_150 rfl ?_
            refine xm_get (j := 18) d_M_reduced_151 hs rfl (by decide) wf_M_109 (fun _ _ => rfl) ?_
            refine x_iconst (v := nI 4) d_M_reduced_154 (by decide) ?_
            refine x_icmp_ne_f 172 d_M_reduced_155 (by decide) ((r4)) ?_
            refine x_iload_n d_M_reduced_158 rfl ?_
            refine x_if_ne_f 167 d_M_reduced_159 (by decide) ((by rw [n0]; rfl)) ?_
            refine x_iload d_M_reduced_162 rfl ?_
            refine x_goto (tgt := 171) d_M_reduced_164 (by decide) ?_
            refine x_istore_n d_M_reduced_171 (by decide) ?_
            refine xV.loc (go2) (by repeat (first | exact trivial | refine ⟨rfl, ?_⟩))
          · skip
            refine x_if_le_f 150 d_M_reduced_134 (by decide) ((nI_nle (by omega) (by omega))) ?_
            refine x_iload d_M_reduced_137 rfl ?_
            refine x_if_ne (tgt := 150) d_M_reduced_139 (by decide) (fun c3 => ?_) (fun c3 => ?_)
            · have go2 := go (x / S 11 j) (by unfold cmb; rw [if_neg r0, if_neg r1, if_neg r2, if_neg r3, if_pos r4, if_neg n0]) (fun q => c3 q.2.2)
              refine x_aload_n d_M_reduced_150 rfl ?_
              refine xm_get (j := 18) d_M_reduced_151 hs rfl (by decide) wf_M_109 (fun _ _ => rfl) ?_
              refine x_iconst (v := nI 4) d_M_reduced_154 (by decide) ?_
              refine x_icmp_ne_f 172 d_M_reduced_155 (by decide) ((r4)) ?_
              refine x_iload_n d_M_reduced_158 rfl ?_
              refine x_if_ne_t (tgt := 167) d_M_reduced_159 (by decide) ((nI_ne0 (by omega) (by omega))) ?_
              refine x_iload_n d_M_reduced_167 rfl ?_
              refine x_iload d_M_reduced_168 rfl ?_
              refine x_idiv d_M_reduced_170 (by first | decide | assumption) ?_
              refine x_istore_n d_M_reduced_171 (by decide) ?_
              refine xV.loc (go2) (by repeat (first | exact trivial | refine ⟨rfl, ?_⟩))
            · rw [if_pos ⟨r4, by omega, c3⟩]
              have fin := rd_fin (l := l) (G := G) hs (T := xu S 0 14 (nI 3)) (x := x) (n := n + 1) (by omega)
              refine x_aload_n d_M_reduced_142 rfl ?_
              refine x_iconst (v := nI 3) d_M_reduced_143 (by decide) ?_
              refine xm_put (j := 14) d_M_reduced_144 hs rfl (by decide) wf_M_64 (Or.inl rfl) (by first | rfl | assumption) rfl (fun _ _ => rfl) ?_
              refine x_goto (tgt := 172) d_M_reduced_147 (by decide) ?_
              first | refine x_incN d_M_reduced_172 rfl (by decide) ?_ | refine x_inc d_M_reduced_172 rfl (by decide) ?_
              first | refine x_incN d_M_reduced_175 rfl (by decide) ?_ | refine x_inc d_M_reduced_175 rfl (by decide) ?_
              refine x_goto (tgt := 7) d_M_reduced_178 (by decide) ?_
              have e12 : xu S 0 14 (nI 3) 0 12 = nI np := (xu_j _ _ _ _ (by decide)).trans hp
              refine x_iload d_M_reduced_7 rfl ?_
              refine x_aload_n d_M_reduced_9 rfl ?_
              refine xm_get (j := 12) d_M_reduced_10 hs rfl (by decide) wf_M_86 (fun _ _ => rfl) ?_
              rw [e12]
              by_cases hl : j + 1 < np
              · have := hj10' hl
                refine x_icmp_ge_f 181 d_M_reduced_13 (by decide) ((nI_ge (by omega) (by omega))) ?_
                refine x_aload_n d_M_reduced_16 rfl ?_
                refine xm_ref (k := 10) (j := 9) d_M_reduced_17 hs (by decide) rfl rfl (by decide) wf_M_38 rfl ?_
                refine x_iload d_M_reduced_20 rfl ?_
                refine xm_ald d_M_reduced_22 hs (by decide) rfl (by first | decide | assumption | omega) ?_
                refine x_aload_n d_M_reduced_23 rfl ?_
                refine xm_ref (k := 10) (j := 9) d_M_reduced_24 hs (by decide) rfl rfl (by decide) wf_M_38 rfl ?_
                refine x_iload_n d_M_reduced_27 rfl ?_
                refine xm_ald d_M_reduced_28 hs (by decide) rfl (by first | decide | assumption | omega) ?_
                refine x_icmp_ne (tgt := 181) d_M_reduced_29 (by decide) (fun c4 => ?_) (fun c4 => ?_)
                · skip
                  refine xV.loc (fin) (by repeat (first | exact trivial | refine ⟨rfl, ?_⟩))
                · refine x_aload_n d_M_reduced_32 rfl ?_
                  refine xm_get (j := 14) d_M_reduced_33 hs rfl (by decide) wf_M_64 (fun _ _ => rfl) ?_
                  rw [xu_s]
                  refine x_if_ne_t (tgt := 181) d_M_reduced_36 (by decide) ((by decide)) ?_
                  refine xV.loc (fin) (by repeat (first | exact trivial | refine ⟨rfl, ?_⟩))
              · skip
                refine x_icmp_ge_t (tgt := 181) d_M_reduced_13 (by decide) ((nI_le (by omega) (by omega))) ?_
                refine xV.loc (fin) (by repeat (first | exact trivial | refine ⟨rfl, ?_⟩))
        · have go2 := go x (by unfold cmb; rw [if_neg r0, if_neg r1, if_neg r2, if_neg r3, if_neg r4]) (fun q => r4 q.1)
          refine x_if_ne_t (tgt := 72) d_M_reduced_64 (by decide) ((r0)) ?_
          refine x_aload_n d_M_reduced_72 rfl ?_
          refine xm_get (j := 18) d_M_reduced_73 hs rfl (by decide) wf_M_109 (fun _ _ => rfl) ?_
          refine x_iconst (v := nI 1) d_M_reduced_76 (by decide) ?_
          refine x_icmp_ne_t (tgt := 84) d_M_reduced_77 (by decide) ((r1)) ?_
          refine x_aload_n d_M_reduced_84 rfl ?_
          refine xm_get (j := 18) d_M_reduced_85 hs rfl (by decide) wf_M_109 (fun _ _ => rfl) ?_
          refine x_iconst (v := nI 2) d_M_reduced_88 (by decide) ?_
          refine x_icmp_ne_t (tgt := 109) d_M_reduced_89 (by decide) ((r2)) ?_
          refine x_aload_n d_M_reduced_109 rfl ?_
          refine xm_get (j := 18) d_M_reduced_110 hs rfl (by decide) wf_M_109 (fun _ _ => rfl) ?_
          refine x_iconst (v := nI 3) d_M_reduced_113 (by decide) ?_
          refine x_icmp_ne_t (tgt := 125) d_M_reduced_114 (by decide) ((r3)) ?_
          refine x_aload_n d_M_reduced_125 rfl ?_
          refine xm_get (j := 18) d_M_reduced_126 hs rfl (by decide) wf_M_109 (fun _ _ => rfl) ?_
          refine x_iconst (v := nI 4) d_M_reduced_129 (by decide) ?_
          refine x_icmp_ne_t (tgt := 150) d_M_reduced_130 (by decide) ((r4)) ?_
          refine x_aload_n d_M_reduced_150 rfl ?_
          refine xm_get (j := 18) d_M_reduced_151 hs rfl (by decide) wf_M_109 (fun _ _ => rfl) ?_
          refine x_iconst (v := nI 4) d_M_reduced_154 (by decide) ?_
          refine x_icmp_ne_t (tgt := 172) d_M_reduced_155 (by decide) ((r4)) ?_
          refine xV.loc (go2) (by repeat (first | exact trivial | refine ⟨rfl, ?_⟩))
      · have c2' : S 11 j < S 0 16 := Int32.not_le.mp c2
        have nx := ih (j + 1) x n (by omega) (by omega)
        rw [show rd S (S 10 fm) (m + 1) j x n = rd S (S 10 fm) m (j + 1) x n by rw [rd, if_pos c1, if_pos c2']]
        refine x_goto (tgt := 175) d_M_reduced_57 (by decide) ?_
        first | refine x_incN d_M_reduced_175 rfl (by decide) ?_ | refine x_inc d_M_reduced_175 rfl (by decide) ?_
        refine x_goto (tgt := 7) d_M_reduced_178 (by decide) ?_
        refine xV.loc (nx) (by repeat (first | exact trivial | refine ⟨rfl, ?_⟩))
theorem c_M_reduced (hs : MSh h0 y) {np fm : Nat} (hp : S 0 12 = nI np) (hnp : np ≤ 300) (ht : S 0 14 = 0) (hfm : fm < np) :
    xVM l G 0 0 m_M_reduced [.ref y, .int (nI fm)] (mset y S h0) (fun r h' => r = .inl (some (.int (rd S (S 10 fm) (np - fm) fm (nI 0) 0).1)) ∧ h' = mset y (rdT S (rd S (S 10 fm) (np - fm) fm (nI 0) 0)) h0) := by
  have := rd_loop (l := l) (G := G) hs hp hnp ht hfm (np - fm) fm (nI 0) 0 (by omega) (by omega)
  unfold xVM
  refine x_iconst (v := nI 0) d_M_reduced_0 (by decide) ?_
  refine x_istore_n d_M_reduced_1 (by decide) ?_
  refine x_iconst (v := nI 0) d_M_reduced_2 (by decide) ?_
  refine x_istore_n d_M_reduced_3 (by decide) ?_
  refine x_iload_n d_M_reduced_4 rfl ?_
  refine x_istore d_M_reduced_5 (by decide) ?_
  refine xV.loc (this) (by repeat (first | exact trivial | refine ⟨rfl, ?_⟩))
end XM6
end
section
/-- place i begins no key of partition p -/
abbrev skp (S : Nat → Nat → Int32) (p : Int32) (i : Nat) : Prop := (0 < i ∧ S 10 (i - 1) = S 10 i) ∨ ¬ mdl (S 10 i) (S 0 19) = p
/-- reduce, over the first i places: the cells, and how many keys came out -/
def rcS (S : Nat → Nat → Int32) (np : Nat) (put : Int32) (pn : Nat) : Nat → (Nat → Nat → Int32) × Nat
  | 0 => (S, 0)
  | i + 1 => if ¬ (rcS S np put pn i).1 0 14 = 0 ∨ skp S (nI pn) i then rcS S np put pn i else
      if (rd S (S 10 i) (np - i) i (nI 0) 0).2.1 = 0 ∨ (rd S (S 10 i) (np - i) i (nI 0) 0).2.2 = true then (rdT (rcS S np put pn i).1 (rd S (S 10 i) (np - i) i (nI 0) 0), (rcS S np put pn i).2)
      else (if put = 0 then rdT (rcS S np put pn i).1 (rd S (S 10 i) (np - i) i (nI 0) 0) else xu (xu (rdT (rcS S np put pn i).1 (rd S (S 10 i) (np - i) i (nI 0) 0)) 13 (pn * 100 + (rcS S np put pn i).2) (S 10 i)) 14 (pn * 100 + (rcS S np put pn i).2) (rd S (S 10 i) (np - i) i (nI 0) 0).1, (rcS S np put pn i).2 + 1)
theorem rdT_keep {S : Nat → Nat → Int32} {o : Int32 × Nat × Bool} {k j : Nat} (h : ¬ (k = 0 ∧ (j = 14 ∨ j = 27))) : rdT S o k j = S k j := by
  unfold rdT
  rw [show xu (if o.2.2 = true then xu S 0 14 (nI 3) else S) 0 27 (bI (0 < o.2.1)) k j = (if o.2.2 = true then xu S 0 14 (nI 3) else S) k j from if_neg (by omega)]
  split
  · exact if_neg (by omega)
  · rfl
theorem rcS_keep {S : Nat → Nat → Int32} {np : Nat} {put : Int32} {pn k j : Nat} (h1 : k ≠ 13) (h2 : k ≠ 14) (h : ¬ (k = 0 ∧ (j = 14 ∨ j = 27))) : ∀ i, (rcS S np put pn i).1 k j = S k j
  | 0 => rfl
  | i + 1 => by
    have ih := rcS_keep (S := S) (np := np) (put := put) (pn := pn) h1 h2 h i
    unfold rcS
    split
    · exact ih
    · split
      · exact (rdT_keep h).trans ih
      · show (if put = 0 then _ else _ : Nat → Nat → Int32) k j = _
        split
        · exact (rdT_keep h).trans ih
        · rw [xu_k _ _ _ h2, xu_k _ _ _ h1]
          exact (rdT_keep h).trans ih
theorem rcS_put {S : Nat → Nat → Int32} {np pn : Nat} : ∀ i k j, k = 13 ∨ k = 14 → (rcS S np (nI 0) pn i).1 k j = S k j
  | 0, _, _, _ => rfl
  | i + 1, k, j, h => by
    have ih := rcS_put (S := S) (np := np) (pn := pn) i k j h
    unfold rcS
    split
    · exact ih
    · split
      · exact (rdT_keep (by omega)).trans ih
      · simp only [if_pos nI_0]
        exact (rdT_keep (by omega)).trans ih
theorem rcS_stop {S : Nat → Nat → Int32} {np : Nat} {put : Int32} {pn i : Nat} (h : ¬ (rcS S np put pn i).1 0 14 = 0) : ∀ m, rcS S np put pn (i + m) = rcS S np put pn i
  | 0 => rfl
  | m + 1 => by
    have ih := rcS_stop h m
    rw [show i + (m + 1) = (i + m) + 1 from rfl, rcS, ih, if_pos (Or.inl h)]
section XM7
variable {l : Launch} {G : xG} {h0 : xH} {y : Nat} {S : Nat → Nat → Int32}
theorem c_M_reduce (hs : MSh h0 y) {np r pn : Nat} {put : Int32} (hpn : pn < 3) (hp : S 0 12 = nI np) (hnp : np ≤ 300) (hr : S 0 19 = nI r) (hr1 : 1 ≤ r) (hr3 : r ≤ 3) (hbd : ¬ put = 0 → ∀ i, i ≤ np → (rcS S np put pn i).2 ≤ 100) :
    xVM l G 1 25 m_M_reduce [.ref y, .int (nI pn), .int put] (mset y S h0) (fun q h' => q = .inl (some (.int (nI (rcS S np put pn np).2))) ∧ h' = mset y (rcS S np put pn np).1 h0) := by
  have cn : ∀ i, (rcS S np put pn i).2 ≤ i := by
    intro i
    induction i with
    | zero => exact Nat.le_refl 0
    | succ i ih =>
      unfold rcS
      split
      · omega
      · split
        · show (rcS S np put pn i).2 ≤ i + 1; omega
        · show (rcS S np put pn i).2 + 1 ≤ i + 1; omega
  have hr0 : ¬ nI r = 0 := nI_ne0 hr1 (by omega)
  have lp : ∀ m i : Nat, i + m = np → xV l G 1 25 m_M_reduce 5 [(4, .int (nI i)), (3, .int (nI (rcS S np put pn i).2)), (0, .ref y), (1, .int (nI pn)), (2, .int put)] [] (mset y (rcS S np put pn i).1 h0) (fun q h' => q = .inl (some (.int (nI (rcS S np put pn np).2))) ∧ h' = mset y (rcS S np put pn np).1 h0) := by
    intro m
    induction m with
    | zero =>
      intro i him
      obtain rfl : i = np := by omega
      refine x_iload d_M_reduce_5 rfl ?_
      refine x_aload_n d_M_reduce_7 rfl ?_
      refine xm_get (j := 12) d_M_reduce_8 hs rfl (by decide) wf_M_86 (fun _ _ => rfl) ?_
      rw [rcS_keep (by decide) (by decide) (by decide), hp]
      refine x_icmp_ge_t (tgt := 135) d_M_reduce_11 (by decide) ((nI_le (by omega) (by omega))) ?_
      refine x_iload_n d_M_reduce_135 rfl ?_
      refine x_iret d_M_reduce_136 rfl (by first | rfl | assumption) ?_
      exact ⟨rfl, rfl⟩
    | succ m ih =>
      intro i him
      have nx := ih (i + 1) (by omega)
      have h10 : i < mlen 10 := by show i < 300; omega
      refine x_iload d_M_reduce_5 rfl ?_
      refine x_aload_n d_M_reduce_7 rfl ?_
      refine xm_get (j := 12) d_M_reduce_8 hs rfl (by decide) wf_M_86 (fun _ _ => rfl) ?_
      rw [rcS_keep (by decide) (by decide) (by decide), hp]
      refine x_icmp_ge_f 135 d_M_reduce_11 (by decide) ((nI_ge (by omega) (by omega))) ?_
      refine x_aload_n d_M_reduce_14 rfl ?_
      refine xm_get (j := 14) d_M_reduce_15 hs rfl (by decide) wf_M_64 (fun _ _ => rfl) ?_
      refine x_if_ne (tgt := 135) d_M_reduce_18 (by decide) (fun c1 => ?_) (fun c1 => ?_)
      · have e := rcS_stop c1 (m + 1)
        rw [him] at e
        refine x_iload_n d_M_reduce_135 rfl ?_
        refine x_iret d_M_reduce_136 rfl (by first | rfl | assumption) ?_
        rw [e]
        exact ⟨rfl, rfl⟩
      · have skip : skp S (nI pn) i → xV l G 1 25 m_M_reduce 5 [(4, .int (nI (i + 1))), (3, .int (nI (rcS S np put pn i).2)), (0, .ref y), (1, .int (nI pn)), (2, .int put)] [] (mset y (rcS S np put pn i).1 h0) (fun q h' => q = .inl (some (.int (nI (rcS S np put pn np).2))) ∧ h' = mset y (rcS S np put pn np).1 h0) := by
          intro hsk
          rw [show rcS S np put pn (i + 1) = rcS S np put pn i by rw [rcS, if_pos (Or.inr hsk)]] at nx
          exact nx
        have k10 : (rcS S np put pn i).1 10 = S 10 := funext (fun j => rcS_keep (by decide) (by decide) (by omega) i)
        have k11 : (rcS S np put pn i).1 11 = S 11 := funext (fun j => rcS_keep (by decide) (by decide) (by omega) i)
        have k19 : (rcS S np put pn i).1 0 19 = nI r := (rcS_keep (by decide) (by decide) (by decide) i).trans hr
        have body : ¬ (0 < i ∧ S 10 (i - 1) = S 10 i) → xV l G 1 25 m_M_reduce 45 [(4, .int (nI i)), (3, .int (nI (rcS S np put pn i).2)), (0, .ref y), (1, .int (nI pn)), (2, .int put)] [] (mset y (rcS S np put pn i).1 h0) (fun q h' => q = .inl (some (.int (nI (rcS S np put pn np).2))) ∧ h' = mset y (rcS S np put pn np).1 h0) := by
          intro hb
          refine x_aload_n d_M_reduce_45 rfl ?_
          refine xm_ref (k := 10) (j := 9) d_M_reduce_46 hs (by decide) rfl rfl (by decide) wf_M_38 rfl ?_
          refine x_iload d_M_reduce_49 rfl ?_
          refine xm_ald d_M_reduce_51 hs (by decide) rfl (by first | decide | assumption | omega) ?_
          refine x_aload_n d_M_reduce_52 rfl ?_
          refine xm_get (j := 19) d_M_reduce_53 hs rfl (by decide) wf_M_103 (fun _ _ => rfl) ?_
          rw [k19, k10]
          refine x_callS (M' := m_M_modulo) (As := [_, _]) (fr' := 0) (wd' := 0) d_M_reduce_56 pl_M_modulo rfl (Nat.le_of_ble_eq_true rfl) (by decide) (by decide) wc_M_modulo wi_M wl_M_89 ws_M_modulo (by decide) np_M_modulo (Nat.le_of_ble_eq_true rfl) (fun q hq => by cases hq) (c_M_modulo _ _ hr0) (fun k a h1 q => by cases q.1) (fun v h1 q => ?_)
          obtain ⟨q1, rfl⟩ := q
          cases q1
          refine x_iload_n d_M_reduce_59 rfl ?_
          refine x_icmp_eq (tgt := 66) d_M_reduce_60 (by decide) (fun c2 => ?_) (fun c2 => ?_)
          · have hns : ¬ skp S (nI pn) i := by
              rintro (q | q)
              · exact hb q
              · exact q (by rw [hr]; exact c2)
            have en : ¬ (¬ (rcS S np put pn i).1 0 14 = 0 ∨ skp S (nI pn) i) := by
              rintro (q | q)
              · exact q c1
              · exact hns q
            have er : rd (rcS S np put pn i).1 ((rcS S np put pn i).1 10 i) (np - i) i (nI 0) 0 = rd S (S 10 i) (np - i) i (nI 0) 0 := by
              rw [k10]
              exact rd_congr k10 k11 (rcS_keep (by decide) (by decide) (by decide) i) (rcS_keep (by decide) (by decide) (by decide) i) _ _ _ _ _
            rw [rcS, if_neg en] at nx
            have hb1 := hbd
            refine x_aload_n d_M_reduce_66 rfl ?_
            refine x_iload d_M_reduce_67 rfl ?_
            refine x_callV (M' := m_M_reduced) (As := [_]) (fr' := 0) (wd' := 0) d_M_reduce_69 hs.1 rfl pl_M_reduced rfl (Nat.le_of_ble_eq_true rfl) (by decide) (by decide) wc_M_reduced wi_M wl_M_115 wm_M_reduced we_M_reduced (by decide) np_M_reduced (Nat.le_of_ble_eq_true rfl) (fun q hq => by cases hq) (c_M_reduced hs ((rcS_keep (by decide) (by decide) (by decide) i).trans hp) hnp c1 (by omega)) (fun k a h1 q => by cases q.1) (fun v h1 q => ?_)
            obtain ⟨q1, rfl⟩ := q
            cases q1
            refine x_istore d_M_reduce_72 (by decide) ?_
            refine x_aload_n d_M_reduce_74 rfl ?_
            refine xm_get (j := 27) d_M_reduce_75 hs rfl (by decide) wf_M_112 (fun _ _ => rfl) ?_
            rw [er]
            rw [show rdT (rcS S np put pn i).1 (rd S (S 10 i) (np - i) i (nI 0) 0) 0 27 = bI (0 < (rd S (S 10 i) (np - i) i (nI 0) 0).2.1) by unfold rdT; exact xu_s _ _ _ _]
            have hb2 : ¬ put = 0 → ¬ ((rd S (S 10 i) (np - i) i (nI 0) 0).2.1 = 0 ∨ (rd S (S 10 i) (np - i) i (nI 0) 0).2.2 = true) → (rcS S np put pn i).2 < 100 := by
              intro hp0 hn0
              have := hbd hp0 (i + 1) (by omega)
              rw [rcS, if_neg en, if_neg hn0] at this
              exact this
            have hcn := cn i
            generalize (rd S (S 10 i) (np - i) i (nI 0) 0) = e at nx hb2 ⊢
            obtain ⟨x, n, f⟩ := e
            simp only at nx hb2 ⊢
            by_cases n0 : n = 0
            · rw [if_pos (Or.inl n0)] at nx
              refine x_if_eq_t (tgt := 129) d_M_reduce_78 (by decide) ((by rw [bI_f (by omega)]; rfl)) ?_
              first | refine x_incN d_M_reduce_129 rfl (by decide) ?_ | refine x_inc d_M_reduce_129 rfl (by decide) ?_
              refine x_goto (tgt := 5) d_M_reduce_132 (by decide) ?_
              refine xV.loc (nx) (by repeat (first | exact trivial | refine ⟨rfl, ?_⟩))
            · skip
              refine x_if_eq_f 129 d_M_reduce_78 (by decide) ((by rw [bI_t (by omega)]; decide)) ?_
              refine x_aload_n d_M_reduce_81 rfl ?_
              refine xm_get (j := 14) d_M_reduce_82 hs rfl (by decide) wf_M_64 (fun _ _ => rfl) ?_
              cases f with
              | true =>
                rw [if_pos (Or.inr rfl)] at nx
                refine x_if_le_f 91 d_M_reduce_85 (by decide) ((by rw [show rdT (rcS S np put pn i).1 (x, n, true) 0 14 = nI 3 from rfl]; decide)) ?_
                refine x_goto (tgt := 129) d_M_reduce_88 (by decide) ?_
                first | refine x_incN d_M_reduce_129 rfl (by decide) ?_ | refine x_inc d_M_reduce_129 rfl (by decide) ?_
                refine x_goto (tgt := 5) d_M_reduce_132 (by decide) ?_
                refine xV.loc (nx) (by repeat (first | exact trivial | refine ⟨rfl, ?_⟩))
              | false =>
                rw [if_neg (by rintro (q | q); exact n0 q; cases q)] at nx
                refine x_if_le_t (tgt := 91) d_M_reduce_85 (by decide) ((by rw [show rdT (rcS S np put pn i).1 (x, n, false) 0 14 = (rcS S np put pn i).1 0 14 from rfl, c1]; decide)) ?_
                refine x_iload_n d_M_reduce_91 rfl ?_
                by_cases p0 : put = 0
                · rw [if_pos p0] at nx
                  refine x_if_eq_t (tgt := 126) d_M_reduce_92 (by decide) (p0) ?_
                  first | refine x_incN d_M_reduce_126 rfl (by decide) ?_ | refine x_inc d_M_reduce_126 rfl (by decide) ?_
                  first | refine x_incN d_M_reduce_129 rfl (by decide) ?_ | refine x_inc d_M_reduce_129 rfl (by decide) ?_
                  refine x_goto (tgt := 5) d_M_reduce_132 (by decide) ?_
                  refine xV.loc (nx) (by repeat (first | exact trivial | refine ⟨rfl, ?_⟩))
                · rw [if_neg p0] at nx
                  have b100 := hb2 p0 (by rintro (q | q); exact n0 q; cases q)
                  have h13 : pn * 100 + (rcS S np put pn i).2 < mlen 13 := by show pn * 100 + _ < 300; omega
                  have h14 : pn * 100 + (rcS S np put pn i).2 < mlen 14 := by show pn * 100 + _ < 300; omega
                  refine x_if_eq_f 126 d_M_reduce_92 (by decide) (p0) ?_
                  refine x_aload_n d_M_reduce_95 rfl ?_
                  refine xm_ref (k := 13) (j := 28) d_M_reduce_96 hs (by decide) rfl rfl (by decide) wf_M_55 rfl ?_
                  refine x_iload_n d_M_reduce_99 rfl ?_
                  refine x_bipush (v := nI 100) d_M_reduce_100 (by decide) ?_
                  refine x_imul d_M_reduce_102 ?_
                  refine x_iload_n d_M_reduce_103 rfl ?_
                  refine x_iadd d_M_reduce_104 ?_
                  rw [nI_mul, nI_add]
                  refine x_aload_n d_M_reduce_105 rfl ?_
                  refine xm_ref (k := 10) (j := 9) d_M_reduce_106 hs (by decide) rfl rfl (by decide) wf_M_38 rfl ?_
                  refine x_iload d_M_reduce_109 rfl ?_
                  refine xm_ald d_M_reduce_111 hs (by decide) rfl (by first | decide | assumption | omega) ?_
                  rw [show rdT (rcS S np put pn i).1 (x, n, false) 10 i = S 10 i by rw [rdT_keep (by omega), k10]]
                  refine xm_ast d_M_reduce_112 hs (by decide) rfl (by first | decide | assumption | omega) ?_
                  refine x_aload_n d_M_reduce_113 rfl ?_
                  refine xm_ref (k := 14) (j := 29) d_M_reduce_114 hs (by decide) rfl rfl (by decide) wf_M_58 rfl ?_
                  refine x_iload_n d_M_reduce_117 rfl ?_
                  refine x_bipush (v := nI 100) d_M_reduce_118 (by decide) ?_
                  refine x_imul d_M_reduce_120 ?_
                  refine x_iload_n d_M_reduce_121 rfl ?_
                  refine x_iadd d_M_reduce_122 ?_
                  rw [nI_mul, nI_add]
                  refine x_iload d_M_reduce_123 rfl ?_
                  refine xm_ast d_M_reduce_125 hs (by decide) rfl (by first | decide | assumption | omega) ?_
                  first | refine x_incN d_M_reduce_126 rfl (by decide) ?_ | refine x_inc d_M_reduce_126 rfl (by decide) ?_
                  first | refine x_incN d_M_reduce_129 rfl (by decide) ?_ | refine x_inc d_M_reduce_129 rfl (by decide) ?_
                  refine x_goto (tgt := 5) d_M_reduce_132 (by decide) ?_
                  refine xV.loc (nx) (by repeat (first | exact trivial | refine ⟨rfl, ?_⟩))
          · refine x_goto (tgt := 129) d_M_reduce_63 (by decide) ?_
            first | refine x_incN d_M_reduce_129 rfl (by decide) ?_ | refine x_inc d_M_reduce_129 rfl (by decide) ?_
            refine x_goto (tgt := 5) d_M_reduce_132 (by decide) ?_
            refine xV.loc (skip (Or.inr (by rw [hr]; exact c2))) (by repeat (first | exact trivial | refine ⟨rfl, ?_⟩))
        refine x_iload d_M_reduce_21 rfl ?_
        by_cases i0 : i = 0
        · have b := body (by omega)
          refine x_if_le_t (tgt := 45) d_M_reduce_23 (by decide) ((by rw [i0]; decide)) ?_
          exact b
        · have hi1 : i - 1 < mlen 10 := by show i - 1 < 300; omega
          refine x_if_le_f 45 d_M_reduce_23 (by decide) ((nI_nle (by omega) (by omega))) ?_
          refine x_aload_n d_M_reduce_26 rfl ?_
          refine xm_ref (k := 10) (j := 9) d_M_reduce_27 hs (by decide) rfl rfl (by decide) wf_M_38 rfl ?_
          refine x_iload d_M_reduce_30 rfl ?_
          refine x_iconst (v := nI 1) d_M_reduce_32 (by decide) ?_
          refine x_isub d_M_reduce_33 ?_
          rw [nI_sub (by omega)]
          refine xm_ald d_M_reduce_34 hs (by decide) rfl (by first | decide | assumption | omega) ?_
          refine x_aload_n d_M_reduce_35 rfl ?_
          refine xm_ref (k := 10) (j := 9) d_M_reduce_36 hs (by decide) rfl rfl (by decide) wf_M_38 rfl ?_
          refine x_iload d_M_reduce_39 rfl ?_
          refine xm_ald d_M_reduce_41 hs (by decide) rfl (by first | decide | assumption | omega) ?_
          rw [k10]
          refine x_icmp_eq (tgt := 129) d_M_reduce_42 (by decide) (fun c3 => ?_) (fun c3 => ?_)
          · first | refine x_incN d_M_reduce_129 rfl (by decide) ?_ | refine x_inc d_M_reduce_129 rfl (by decide) ?_
            refine x_goto (tgt := 5) d_M_reduce_132 (by decide) ?_
            refine xV.loc (skip (Or.inl ⟨by omega, c3⟩)) (by repeat (first | exact trivial | refine ⟨rfl, ?_⟩))
          · have b := body (fun q => c3 q.2)
            exact b
  unfold xVM
  refine x_iconst (v := nI 0) d_M_reduce_0 (by decide) ?_
  refine x_istore_n d_M_reduce_1 (by decide) ?_
  refine x_iconst (v := nI 0) d_M_reduce_2 (by decide) ?_
  refine x_istore d_M_reduce_3 (by decide) ?_
  have := lp np 0 (by omega)
  refine xV.loc (this) (by repeat (first | exact trivial | refine ⟨rfl, ?_⟩))
end XM7
end
section
/-- how many keys of partition p begin among the first places -/
def gs (S : Nat → Nat → Int32) (p : Nat) : Nat → Nat
  | 0 => 0
  | i + 1 => gs S p i + (if skp S (nI p) i then 0 else 1)
theorem gs_congr {S T : Nat → Nat → Int32} (h10 : S 10 = T 10) (h19 : S 0 19 = T 0 19) (p : Nat) : ∀ i, gs S p i = gs T p i
  | 0 => rfl
  | i + 1 => by
    have e : skp S (nI p) i ↔ skp T (nI p) i := by unfold skp; rw [h10, h19]
    unfold gs; rw [gs_congr h10 h19 p i]
    by_cases h : skp S (nI p) i
    · rw [if_pos h, if_pos (e.mp h)]
    · rw [if_neg h, if_neg (fun q => h (e.mpr q))]
theorem gs_mono (S : Nat → Nat → Int32) (p : Nat) {i : Nat} : ∀ {n : Nat}, i ≤ n → gs S p i ≤ gs S p n
  | 0, h => by rw [Nat.le_zero.mp h]; exact Nat.le_refl _
  | n + 1, h => by
    rcases Nat.lt_or_eq_of_le h with h1 | h1
    · have := gs_mono S p (Nat.lt_succ_iff.mp h1)
      have e : gs S p (n + 1) = gs S p n + (if skp S (nI p) n then 0 else 1) := rfl
      rw [e]; omega
    · rw [h1]; exact Nat.le_refl _
theorem gs_le (S : Nat → Nat → Int32) (p : Nat) : ∀ i, gs S p i ≤ i
  | 0 => Nat.le_refl 0
  | i + 1 => by
    have := gs_le S p i
    unfold gs; split <;> omega
theorem rcS_gs (S : Nat → Nat → Int32) (np : Nat) (put : Int32) (pn : Nat) : ∀ i, (rcS S np put pn i).2 ≤ gs S pn i
  | 0 => Nat.le_refl 0
  | i + 1 => by
    have ih := rcS_gs S np put pn i
    unfold rcS gs
    split
    · omega
    · rename_i h
      rw [if_neg (fun q => h (Or.inr q))]
      split
      · show (rcS S np put pn i).2 ≤ _; omega
      · show (rcS S np put pn i).2 + 1 ≤ _; omega
def TI (S : Nat → Nat → Int32) (c r np : Nat) : Prop := S 0 13 = nI c ∧ c ≤ 6 ∧ S 0 19 = nI r ∧ 1 ≤ r ∧ r ≤ 3 ∧ S 0 12 = nI np ∧ np ≤ 300 ∧ ¬ S 0 20 = 0 ∧ (∀ w, w < 4 → S 4 w = -1 ∨ ∃ t, S 4 w = nI t ∧ (t < c ∨ (8 ≤ t ∧ t < 8 + r))) ∧ (∀ p, gs S p np ≤ 100)
theorem TI.keep {S T : Nat → Nat → Int32} {c r np : Nat} (h : TI S c r np) (h10 : T 10 = S 10) (h12 : T 0 12 = S 0 12) (h13 : T 0 13 = S 0 13) (h19 : T 0 19 = S 0 19) (h20 : T 0 20 = S 0 20) (ht : ∀ w, w < 4 → T 4 w = -1 ∨ T 4 w = S 4 w ∨ ∃ t, T 4 w = nI t ∧ (t < c ∨ (8 ≤ t ∧ t < 8 + r))) : TI T c r np := by
  obtain ⟨a1, a2, a3, a4, a5, a6, a7, a8, a9, a10⟩ := h
  refine ⟨h13.trans a1, a2, h19.trans a3, a4, a5, h12.trans a6, a7, by rw [h20]; exact a8, fun w hw => ?_, fun p => by rw [gs_congr h10 h19]; exact a10 p⟩
  rcases ht w hw with q | q | q
  · exact Or.inl q
  · rw [q]; exact a9 w hw
  · exact Or.inr q
def drS (S : Nat → Nat → Int32) (t : Int32) (n : Nat) : Nat → Nat → Int32 := fun k j => if (k = 4 ∨ k = 5) ∧ j < n ∧ S 4 j = t then (if k = 4 then -1 else nI 0) else S k j
theorem drS_0 (S : Nat → Nat → Int32) (t : Int32) : drS S t 0 = S := by
  funext k j; exact if_neg (by omega)
theorem drS_4 (S : Nat → Nat → Int32) (t : Int32) {n j : Nat} (h : n ≤ j) (k : Nat) : drS S t n k j = S k j := if_neg (by omega)
theorem drS_k (S : Nat → Nat → Int32) (t : Int32) (n : Nat) {k : Nat} (h4 : k ≠ 4) (h5 : k ≠ 5) : drS S t n k = S k := by
  funext j; exact if_neg (by omega)
theorem drS_s {S : Nat → Nat → Int32} {t : Int32} {n : Nat} (h : S 4 n = t) : xu (xu (drS S t n) 4 n (-1)) 5 n (nI 0) = drS S t (n + 1) := by
  funext k j
  by_cases hj : j = n
  · subst hj
    by_cases h4 : k = 4
    · subst h4; simp [xu, drS, h]
    · by_cases h5 : k = 5
      · subst h5; simp [xu, drS, h]
      · simp [xu, drS, h4, h5]
  · simp only [xu, hj, and_false, if_false, drS]
    have : j < n ↔ j < n + 1 := by omega
    simp only [this]
theorem drS_n {S : Nat → Nat → Int32} {t : Int32} {n : Nat} (h : ¬ S 4 n = t) : drS S t n = drS S t (n + 1) := by
  funext k j
  by_cases hj : j = n
  · subst hj; simp [drS, h]
  · have : j < n ↔ j < n + 1 := by omega
    simp only [drS, this]
def fn1 (S : Nat → Nat → Int32) (w tn : Nat) : Nat → Nat → Int32 := xu (xu (drS S (nI tn) 4) 8 tn (nI 1)) 9 tn (nI w)
def fnS (S : Nat → Nat → Int32) (np w tn : Nat) : Nat → Nat → Int32 :=
  if tn < 8 then fn1 S w tn else if (rcS (fn1 S w tn) np (nI 0) (tn - 8) np).1 0 14 ≤ 0 then (rcS (fn1 S w tn) np (nI 0) (tn - 8) np).1 else gvS (xu (rcS (fn1 S w tn) np (nI 0) (tn - 8) np).1 0 26 (nI 0)) (nI 0) 4
section XM8
variable {l : Launch} {G : xG} {h0 : xH} {y : Nat} {S : Nat → Nat → Int32}
theorem c_M_finish (hs : MSh h0 y) {w tn np r : Nat} (hw : w < 4) (ht : S 4 w = nI tn) (htk : tok tn) (hp : S 0 12 = nI np) (hnp : np ≤ 300) (hr : S 0 19 = nI r) (hr1 : 1 ≤ r) (hr3 : r ≤ 3) :
    xVM l G 2 50 m_M_finish [.ref y, .int (nI w)] (mset y S h0) (fun q h' => q = .inl none ∧ h' = mset y (fnS S np w tn) h0) := by
  have hw4 : w < mlen 4 := hw
  have ht8 : tn < mlen 8 := by show tn < 11; omega
  have ht9 : tn < mlen 9 := by show tn < 11; omega
  have lp : ∀ m i : Nat, i + m = 4 → xV l G 2 50 m_M_finish 9 [(3, .int (nI i)), (2, .int (nI tn)), (0, .ref y), (1, .int (nI w))] [] (mset y (drS S (nI tn) i) h0) (fun q h' => q = .inl none ∧ h' = mset y (fnS S np w tn) h0) := by
    intro m
    induction m with
    | zero =>
      intro i him
      obtain rfl : i = 4 := by omega
      refine x_iload_n d_M_finish_9 rfl ?_
      refine x_iconst (v := nI 4) d_M_finish_10 (by decide) ?_
      refine x_icmp_ge_t (tgt := 47) d_M_finish_11 (by decide) ((nI_le (by omega) (by omega))) ?_
      refine x_aload_n d_M_finish_47 rfl ?_
      refine xm_ref (k := 8) (j := 7) d_M_finish_48 hs (by decide) rfl rfl (by decide) wf_M_32 rfl ?_
      refine x_iload_n d_M_finish_51 rfl ?_
      refine x_iconst (v := nI 1) d_M_finish_52 (by decide) ?_
      refine xm_zst d_M_finish_53 hs (by decide) rfl (by first | decide | assumption | omega) (by first | rfl | assumption) ?_
      refine x_aload_n d_M_finish_54 rfl ?_
      refine xm_ref (k := 9) (j := 8) d_M_finish_55 hs (by decide) rfl rfl (by decide) wf_M_35 rfl ?_
      refine x_iload_n d_M_finish_58 rfl ?_
      refine x_iload_n d_M_finish_59 rfl ?_
      refine xm_ast d_M_finish_60 hs (by decide) rfl (by first | decide | assumption | omega) ?_
      refine x_iload_n d_M_finish_61 rfl ?_
      refine x_bipush (v := nI 8) d_M_finish_62 (by decide) ?_
      rw [show xu (xu (drS S (nI tn) 4) 8 tn (nI 1)) 9 tn (nI w) = fn1 S w tn from rfl]
      have kk : ∀ j, fn1 S w tn 0 j = S 0 j := by
        intro j
        show xu (xu (drS S (nI tn) 4) 8 tn (nI 1)) 9 tn (nI w) 0 j = _
        rw [xu_k _ _ _ (by decide), xu_k _ _ _ (by decide), drS_k _ _ _ (by decide) (by decide)]
      by_cases h8 : tn < 8
      · skip
        refine x_icmp_ge_f 68 d_M_finish_64 (by decide) ((nI_ge h8 (by omega))) ?_
        refine x_vret d_M_finish_67 rfl ?_
        exact ⟨rfl, by unfold fnS; rw [if_pos h8]⟩
      · skip
        refine x_icmp_ge_t (tgt := 68) d_M_finish_64 (by decide) ((nI_le (by omega) (by omega))) ?_
        refine x_aload_n d_M_finish_68 rfl ?_
        refine x_iload_n d_M_finish_69 rfl ?_
        refine x_bipush (v := nI 8) d_M_finish_70 (by decide) ?_
        refine x_isub d_M_finish_72 ?_
        refine x_iconst (v := nI 0) d_M_finish_73 (by decide) ?_
        rw [nI_sub (by omega)]
        refine x_callV (M' := m_M_reduce) (As := [_, _]) (fr' := 1) (wd' := 25) d_M_finish_74 hs.1 rfl pl_M_reduce rfl (Nat.le_of_ble_eq_true rfl) (by decide) (by decide) wc_M_reduce wi_M wl_M_160 wm_M_reduce we_M_reduce (by decide) np_M_reduce (Nat.le_of_ble_eq_true rfl) (fun q hq => by cases hq) (c_M_reduce hs (by omega) ((kk 12).trans hp) hnp ((kk 19).trans hr) hr1 hr3 (fun q => absurd nI_0 q)) (fun k a h1 q => by cases q.1) (fun v h1 q => ?_)
        obtain ⟨q1, rfl⟩ := q
        cases q1
        refine x_if_lt_f 87 d_M_finish_77 (by decide) ((nI_pos (by have := rcS_gs (fn1 S w tn) np (nI 0) (tn - 8) np; have g : ∀ i, gs (fn1 S w tn) (tn - 8) i ≤ i := gs_le _ _; have := g np; omega))) ?_
        refine x_aload_n d_M_finish_80 rfl ?_
        refine xm_get (j := 14) d_M_finish_81 hs rfl (by decide) wf_M_64 (fun _ _ => rfl) ?_
        refine x_if_le (tgt := 97) d_M_finish_84 (by decide) (fun c1 => ?_) (fun c1 => ?_)
        · skip
          refine x_vret d_M_finish_97 rfl ?_
          exact ⟨rfl, by unfold fnS; rw [if_neg h8, if_pos c1]⟩
        · refine x_aload_n d_M_finish_87 rfl ?_
          refine x_iconst (v := nI 0) d_M_finish_88 (by decide) ?_
          refine xm_put (j := 26) d_M_finish_89 hs rfl (by decide) wf_M_75 (Or.inl rfl) (by first | rfl | assumption) rfl (fun _ _ => rfl) ?_
          refine x_aload_n d_M_finish_92 rfl ?_
          refine x_iconst (v := nI 0) d_M_finish_93 (by decide) ?_
          refine x_callV (M' := m_M_giveUp) (As := [_]) (fr' := 0) (wd' := 0) d_M_finish_94 hs.1 rfl pl_M_giveUp rfl (Nat.le_of_ble_eq_true rfl) (by decide) (by decide) wc_M_giveUp wi_M wl_M_121 wm_M_giveUp we_M_giveUp (by decide) np_M_giveUp (Nat.le_of_ble_eq_true rfl) (fun q hq => by cases hq) (c_M_giveUp hs _) (fun k a h1 q => by cases q.1) (fun v h1 q => ?_)
          obtain ⟨q1, rfl⟩ := q
          cases q1
          refine x_vret d_M_finish_97 rfl ?_
          exact ⟨rfl, by unfold fnS; rw [if_neg h8, if_neg c1]⟩
    | succ m ih =>
      intro i him
      have hi4 : i < mlen 4 := by show i < 4; omega
      have hi5 : i < mlen 5 := by show i < 4; omega
      have nx := ih (i + 1) (by omega)
      refine x_iload_n d_M_finish_9 rfl ?_
      refine x_iconst (v := nI 4) d_M_finish_10 (by decide) ?_
      refine x_icmp_ge_f 47 d_M_finish_11 (by decide) ((nI_ge (by omega) (by omega))) ?_
      refine x_aload_n d_M_finish_14 rfl ?_
      refine xm_ref (k := 4) (j := 3) d_M_finish_15 hs (by decide) rfl rfl (by decide) wf_M_19 rfl ?_
      refine x_iload_n d_M_finish_18 rfl ?_
      refine xm_ald d_M_finish_19 hs (by decide) rfl (by first | decide | assumption | omega) ?_
      refine x_iload_n d_M_finish_20 rfl ?_
      rw [drS_4 S (nI tn) (Nat.le_refl i)]
      refine x_icmp_eq (tgt := 27) d_M_finish_21 (by decide) (fun c1 => ?_) (fun c1 => ?_)
      · refine x_aload_n d_M_finish_27 rfl ?_
        refine xm_ref (k := 4) (j := 3) d_M_finish_28 hs (by decide) rfl rfl (by decide) wf_M_19 rfl ?_
        refine x_iload_n d_M_finish_31 rfl ?_
        refine x_iconst (v := (-1)) d_M_finish_32 (by decide) ?_
        refine xm_ast d_M_finish_33 hs (by decide) rfl (by first | decide | assumption | omega) ?_
        refine x_aload_n d_M_finish_34 rfl ?_
        refine xm_ref (k := 5) (j := 4) d_M_finish_35 hs (by decide) rfl rfl (by decide) wf_M_22 rfl ?_
        refine x_iload_n d_M_finish_38 rfl ?_
        refine x_iconst (v := nI 0) d_M_finish_39 (by decide) ?_
        refine xm_ast d_M_finish_40 hs (by decide) rfl (by first | decide | assumption | omega) ?_
        first | refine x_incN d_M_finish_41 rfl (by decide) ?_ | refine x_inc d_M_finish_41 rfl (by decide) ?_
        refine x_goto (tgt := 9) d_M_finish_44 (by decide) ?_
        rw [drS_s c1]
        refine xV.loc (nx) (by repeat (first | exact trivial | refine ⟨rfl, ?_⟩))
      · refine x_goto (tgt := 41) d_M_finish_24 (by decide) ?_
        first | refine x_incN d_M_finish_41 rfl (by decide) ?_ | refine x_inc d_M_finish_41 rfl (by decide) ?_
        refine x_goto (tgt := 9) d_M_finish_44 (by decide) ?_
        rw [drS_n c1]
        refine xV.loc (nx) (by repeat (first | exact trivial | refine ⟨rfl, ?_⟩))
  unfold xVM
  refine x_aload_n d_M_finish_0 rfl ?_
  refine xm_ref (k := 4) (j := 3) d_M_finish_1 hs (by decide) rfl rfl (by decide) wf_M_19 rfl ?_
  refine x_iload_n d_M_finish_4 rfl ?_
  refine xm_ald d_M_finish_5 hs (by decide) rfl (by first | decide | assumption | omega) ?_
  rw [ht]
  refine x_istore_n d_M_finish_6 (by decide) ?_
  refine x_iconst (v := nI 0) d_M_finish_7 (by decide) ?_
  refine x_istore_n d_M_finish_8 (by decide) ?_
  have := lp 4 0 (by omega)
  rw [drS_0] at this
  refine xV.loc (this) (by repeat (first | exact trivial | refine ⟨rfl, ?_⟩))
def enL (T : Nat → Nat → Int32) (np : Nat) : Nat → (Nat → Nat → Int32)
  | 0 => T
  | p + 1 => xu (rcS (enL T np p) np (nI 1) p np).1 15 p (nI (rcS (enL T np p) np (nI 1) p np).2)
def en0 (S : Nat → Nat → Int32) : Nat → Nat → Int32 := xu (xu (xu S 0 26 (nI 0)) 0 22 (S 0 22 + nI 1)) 0 25 (S 0 19)
theorem enL_keep {T : Nat → Nat → Int32} {np k j : Nat} (h1 : k ≠ 13) (h2 : k ≠ 14) (h3 : k ≠ 15) (h : ¬ (k = 0 ∧ (j = 14 ∨ j = 27))) : ∀ p, enL T np p k j = T k j
  | 0 => rfl
  | p + 1 => by
    unfold enL
    rw [xu_k _ _ _ h3]
    exact (rcS_keep h1 h2 h np).trans (enL_keep h1 h2 h3 h p)
theorem c_M_end (hs : MSh h0 y) {c r np : Nat} (hT : TI S c r np) : xVM l G 2 50 m_M_end [.ref y] (mset y S h0) (fun q h' => q = .inl none ∧ h' = mset y (enL (en0 S) np r) h0) := by
  obtain ⟨hc, hc6, hr, hr1, hr3, hp, hnp, hb, htk, hgs⟩ := hT
  have k10 : en0 S 10 = S 10 := by unfold en0; rw [xu_k _ _ _ (by decide), xu_k _ _ _ (by decide), xu_k _ _ _ (by decide)]
  have k12 : en0 S 0 12 = S 0 12 := by unfold en0; rw [xu_j _ _ _ _ (by decide), xu_j _ _ _ _ (by decide), xu_j _ _ _ _ (by decide)]
  have k19 : en0 S 0 19 = S 0 19 := by unfold en0; rw [xu_j _ _ _ _ (by decide), xu_j _ _ _ _ (by decide), xu_j _ _ _ _ (by decide)]
  have lp : ∀ m i : Nat, i + m = r → xV l G 2 50 m_M_end 25 [(1, .int (nI i)), (0, .ref y)] [] (mset y (enL (en0 S) np i) h0) (fun q h' => q = .inl none ∧ h' = mset y (enL (en0 S) np r) h0) := by
    intro m
    induction m with
    | zero =>
      intro i him
      obtain rfl : i = r := by omega
      refine x_iload_n d_M_end_25 rfl ?_
      refine x_aload_n d_M_end_26 rfl ?_
      refine xm_get (j := 19) d_M_end_27 hs rfl (by decide) wf_M_103 (fun _ _ => rfl) ?_
      rw [enL_keep (by decide) (by decide) (by decide) (by decide), k19, hr]
      refine x_icmp_ge_t (tgt := 51) d_M_end_30 (by decide) ((nI_le (by omega) (by omega))) ?_
      refine x_vret d_M_end_51 rfl ?_
      exact ⟨rfl, rfl⟩
    | succ m ih =>
      intro i him
      have h15 : i < mlen 15 := by show i < 3; omega
      have nx := ih (i + 1) (by omega)
      have e10 : enL (en0 S) np i 10 = S 10 := by rw [← k10]; exact funext (fun j => enL_keep (by decide) (by decide) (by decide) (by omega) i)
      have e12 : enL (en0 S) np i 0 12 = nI np := (enL_keep (by decide) (by decide) (by decide) (by decide) i).trans (k12.trans hp)
      have e19 : enL (en0 S) np i 0 19 = S 0 19 := (enL_keep (by decide) (by decide) (by decide) (by decide) i).trans k19
      refine x_iload_n d_M_end_25 rfl ?_
      refine x_aload_n d_M_end_26 rfl ?_
      refine xm_get (j := 19) d_M_end_27 hs rfl (by decide) wf_M_103 (fun _ _ => rfl) ?_
      rw [e19, hr]
      refine x_icmp_ge_f 51 d_M_end_30 (by decide) ((nI_ge (by omega) (by omega))) ?_
      refine x_aload_n d_M_end_33 rfl ?_
      refine xm_ref (k := 15) (j := 30) d_M_end_34 hs (by decide) rfl rfl (by decide) wf_M_61 rfl ?_
      refine x_iload_n d_M_end_37 rfl ?_
      refine x_aload_n d_M_end_38 rfl ?_
      refine x_iload_n d_M_end_39 rfl ?_
      refine x_iconst (v := nI 1) d_M_end_40 (by decide) ?_
      refine x_callV (M' := m_M_reduce) (As := [_, _]) (fr' := 1) (wd' := 25) d_M_end_41 hs.1 rfl pl_M_reduce rfl (Nat.le_of_ble_eq_true rfl) (by decide) (by decide) wc_M_reduce wi_M wl_M_160 wm_M_reduce we_M_reduce (by decide) np_M_reduce (Nat.le_of_ble_eq_true rfl) (fun q hq => by cases hq) (c_M_reduce hs (by omega) e12 hnp (e19.trans hr) hr1 hr3 (fun _ j hj => by have h1 := rcS_gs (enL (en0 S) np i) np (nI 1) i j; have h2 := gs_mono (enL (en0 S) np i) i hj; rw [gs_congr e10 e19 i np] at h2; have h3 := hgs i; omega)) (fun k a h1 q => by cases q.1) (fun v h1 q => ?_)
      obtain ⟨q1, rfl⟩ := q
      cases q1
      refine xm_ast d_M_end_44 hs (by decide) rfl (by first | decide | assumption | omega) ?_
      first | refine x_incN d_M_end_45 rfl (by decide) ?_ | refine x_inc d_M_end_45 rfl (by decide) ?_
      refine x_goto (tgt := 25) d_M_end_48 (by decide) ?_
      refine xV.loc (nx) (by repeat (first | exact trivial | refine ⟨rfl, ?_⟩))
  unfold xVM
  refine x_aload_n d_M_end_0 rfl ?_
  refine x_iconst (v := nI 0) d_M_end_1 (by decide) ?_
  refine xm_put (j := 26) d_M_end_2 hs rfl (by decide) wf_M_75 (Or.inl rfl) (by first | rfl | assumption) rfl (fun _ _ => rfl) ?_
  refine x_aload_n d_M_end_5 rfl ?_
  refine x_dup d_M_end_6 rfl ?_
  refine xm_get (j := 22) d_M_end_7 hs rfl (by decide) wf_M_164 (fun _ _ => rfl) ?_
  refine x_iconst (v := nI 1) d_M_end_10 (by decide) ?_
  refine x_iadd d_M_end_11 ?_
  refine xm_put (j := 22) d_M_end_12 hs rfl (by decide) wf_M_164 (Or.inl rfl) (by first | rfl | assumption) rfl (fun _ _ => rfl) ?_
  rw [show xu S 0 26 (nI 0) 0 22 = S 0 22 from xu_j _ _ _ _ (by decide)]
  refine x_aload_n d_M_end_15 rfl ?_
  refine x_aload_n d_M_end_16 rfl ?_
  refine xm_get (j := 19) d_M_end_17 hs rfl (by decide) wf_M_103 (fun _ _ => rfl) ?_
  rw [show xu (xu S 0 26 (nI 0)) 0 22 (S 0 22 + nI 1) 0 19 = S 0 19 by rw [xu_j _ _ _ _ (by decide), xu_j _ _ _ _ (by decide)]]
  refine xm_put (j := 25) d_M_end_20 hs rfl (by decide) wf_M_167 (Or.inl rfl) (by first | rfl | assumption) rfl (fun _ _ => rfl) ?_
  refine x_iconst (v := nI 0) d_M_end_23 (by decide) ?_
  refine x_istore_n d_M_end_24 (by decide) ?_
  have := lp r 0 (by omega)
  refine xV.loc (this) (by repeat (first | exact trivial | refine ⟨rfl, ?_⟩))
end XM8
end
section
/-- a worker's part of a tick, once it has its task -/
def wkN (U : Nat → Nat → Int32) (w : Nat) : Int32 := if U 5 w ≤ U 3 w then U 5 w else U 3 w
def wkU (U : Nat → Nat → Int32) (w : Nat) : Nat → Nat → Int32 := xu (xu U 5 w (U 5 w - wkN U w)) 6 w (U 6 w + wkN U w)
def wk2 (U : Nat → Nat → Int32) (np w : Nat) (sm : Bool) : (Nat → Nat → Int32) × Bool :=
  if U 4 w < 0 then (U, sm) else if 0 < U 5 w - wkN U w then (wkU U w, sm) else (fnS (wkU U w) np w (U 4 w).toNatClampNeg, true)
def wk1 (S : Nat → Nat → Int32) (c r np w : Nat) (sm : Bool) : (Nat → Nat → Int32) × Bool :=
  if S 7 w = 0 then (S, sm) else wk2 (if S 4 w < 0 then gtS S c r np w else S) np w sm
def tkL (S : Nat → Nat → Int32) (c r np : Nat) : Nat → (Nat → Nat → Int32) × Bool
  | 0 => (xu S 0 21 (S 0 21 + nI 1), false)
  | w + 1 => if ¬ (tkL S c r np w).1 0 14 = 0 then tkL S c r np w else wk1 (tkL S c r np w).1 c r np w (tkL S c r np w).2
theorem tkL_stop {S : Nat → Nat → Int32} {c r np w : Nat} (h : ¬ (tkL S c r np w).1 0 14 = 0) : ∀ m, tkL S c r np (w + m) = tkL S c r np w
  | 0 => rfl
  | m + 1 => by
    have ih := tkL_stop h m
    rw [show w + (m + 1) = (w + m) + 1 from rfl, tkL, ih, if_pos h]
/-- no one of the first workers has a task -/
def idl (S : Nat → Nat → Int32) : Nat → Bool
  | 0 => true
  | n + 1 => idl S n && decide (S 4 n < 0)
def tkE (o : (Nat → Nat → Int32) × Bool) (c r np : Nat) : Nat → Nat → Int32 :=
  if ¬ o.1 0 14 ≤ 0 then o.1 else if (∀ t, t < c → ¬ o.1 8 t = 0) ∧ (∀ q, q < r → ¬ o.1 8 (8 + q) = 0) then enL (en0 o.1) np r
  else if o.2 = true ∨ idl o.1 4 = false then o.1 else xu o.1 0 14 (nI 2)
def tkS (S : Nat → Nat → Int32) (c r np : Nat) : Nat → Nat → Int32 := tkE (tkL S c r np 4) c r np
/-! the tick keeps what it needs -/
theorem gch_rng {S : Nat → Nat → Int32} {md : Bool} {fm to w t : Nat} (h : gch md (lst (frs S fm) to) (lst (frh S fm w) to) (sec S fm to) = some t) : fm ≤ t ∧ t < to := by
  have a1 : ∀ j, lst (frs S fm) to = some j → fm ≤ j ∧ j < to := fun j hj => by
    have h1 := lst_lt hj
    have h2 := of_decide_eq_true h1.2
    omega
  have a2 : ∀ j, lst (frh S fm w) to = some j → fm ≤ j ∧ j < to := fun j hj => by
    have h1 := lst_lt hj
    have h2 := of_decide_eq_true (Bool.and_eq_true_iff.mp h1.2).1
    omega
  have a3 : ∀ j, sec S fm to = some j → fm ≤ j ∧ j < to := fun j hj => by
    have h1 := sec_lt hj
    omega
  cases hF : lst (frs S fm) to with
  | none => rw [hF] at h; exact a3 t h
  | some f =>
    rw [hF] at h
    cases md with
    | true => obtain rfl : f = t := Option.some.inj h; exact a1 f hF
    | false =>
      cases hH : lst (frh S fm w) to with
      | none => rw [hH] at h; obtain rfl : f = t := Option.some.inj h; exact a1 f hF
      | some g => rw [hH] at h; obtain rfl : g = t := Option.some.inj h; exact a2 g hH
theorem gtS_case (S : Nat → Nat → Int32) (c r np w : Nat) : gtS S c r np w = S ∨ ∃ (t : Nat) (T : Nat → Nat → Int32), (t < c ∨ (8 ≤ t ∧ t < 8 + r)) ∧ gtS S c r np w = xu (xu T 4 w (nI t)) 5 w (nds S np t) ∧ (T = S ∨ T = xu S 0 23 (S 0 23 + nI 1)) := by
  cases hm : mdn S c with
  | true =>
    have e2 : gtS S c r np w = gput S np w (lst (frs S 8) (8 + r)) (gch true (lst (frs S 8) (8 + r)) (lst (frh S 8 w) (8 + r)) (sec S 8 (8 + r))) := by unfold gtS; rw [hm]; rfl
    rw [e2]
    cases hg : gch true (lst (frs S 8) (8 + r)) (lst (frh S 8 w) (8 + r)) (sec S 8 (8 + r)) with
    | none => exact Or.inl rfl
    | some t =>
      refine Or.inr ⟨t, _, Or.inr (gch_rng hg), rfl, ?_⟩
      by_cases hn : lst (frs S 8) (8 + r) = none
      · rw [if_pos hn]; exact Or.inr rfl
      · rw [if_neg hn]; exact Or.inl rfl
  | false =>
    have e2 : gtS S c r np w = gput S np w (lst (frs S 0) c) (gch false (lst (frs S 0) c) (lst (frh S 0 w) c) (sec S 0 c)) := by unfold gtS; rw [hm]; rfl
    rw [e2]
    cases hg : gch false (lst (frs S 0) c) (lst (frh S 0 w) c) (sec S 0 c) with
    | none => exact Or.inl rfl
    | some t =>
      refine Or.inr ⟨t, _, Or.inl (gch_rng hg).2, rfl, ?_⟩
      by_cases hn : lst (frs S 0) c = none
      · rw [if_pos hn]; exact Or.inr rfl
      · rw [if_neg hn]; exact Or.inl rfl
theorem TI.get {S : Nat → Nat → Int32} {c r np w : Nat} (h : TI S c r np) : TI (gtS S c r np w) c r np := by
  rcases gtS_case S c r np w with e | ⟨t, T, ht, e, hT⟩
  · rw [e]; exact h
  · rw [e]
    have hT10 : T 10 = S 10 := by rcases hT with q | q <;> rw [q]; exact xu_k _ _ _ (by decide)
    have hT0 : ∀ j, j ≠ 23 → T 0 j = S 0 j := by intro j hj; rcases hT with q | q <;> rw [q]; exact xu_j _ _ _ _ hj
    have hT4 : T 4 = S 4 := by rcases hT with q | q <;> rw [q]; exact xu_k _ _ _ (by decide)
    refine h.keep (by rw [xu_k _ _ _ (by decide), xu_k _ _ _ (by decide), hT10]) (by rw [xu_k _ _ _ (by decide), xu_k _ _ _ (by decide), hT0 _ (by decide)]) (by rw [xu_k _ _ _ (by decide), xu_k _ _ _ (by decide), hT0 _ (by decide)]) (by rw [xu_k _ _ _ (by decide), xu_k _ _ _ (by decide), hT0 _ (by decide)]) (by rw [xu_k _ _ _ (by decide), xu_k _ _ _ (by decide), hT0 _ (by decide)]) (fun v hv => ?_)
    rw [xu_k _ _ _ (by decide)]
    by_cases hvw : v = w
    · rw [hvw, xu_s]; exact Or.inr (Or.inr ⟨t, rfl, ht⟩)
    · rw [xu_j _ _ _ _ hvw, hT4]; exact Or.inr (Or.inl rfl)
theorem wkU_k {S : Nat → Nat → Int32} {w k : Nat} (h5 : k ≠ 5) (h6 : k ≠ 6) : wkU S w k = S k := by
  unfold wkU; rw [xu_k _ _ _ h6, xu_k _ _ _ h5]
theorem TI.unit {S : Nat → Nat → Int32} {c r np w : Nat} (h : TI S c r np) : TI (wkU S w) c r np :=
  h.keep (wkU_k (by decide) (by decide)) (by rw [wkU_k (by decide) (by decide)]) (by rw [wkU_k (by decide) (by decide)]) (by rw [wkU_k (by decide) (by decide)]) (by rw [wkU_k (by decide) (by decide)]) (fun v _ => Or.inr (Or.inl (by rw [wkU_k (by decide) (by decide)])))
theorem gvS_k (S : Nat → Nat → Int32) (ro : Int32) (n : Nat) {k : Nat} (h4 : k ≠ 4) (h5 : k ≠ 5) : gvS S ro n k = S k := by
  funext j; exact if_neg (by omega)
theorem gvS_t (S : Nat → Nat → Int32) (ro : Int32) (n j : Nat) : gvS S ro n 4 j = -1 ∨ gvS S ro n 4 j = S 4 j := by
  unfold gvS; split
  · exact Or.inl (if_pos rfl)
  · exact Or.inr rfl
theorem drS_t (S : Nat → Nat → Int32) (t : Int32) (n j : Nat) : drS S t n 4 j = -1 ∨ drS S t n 4 j = S 4 j := by
  unfold drS; split
  · exact Or.inl (if_pos rfl)
  · exact Or.inr rfl
theorem fn1_k {S : Nat → Nat → Int32} {w tn k : Nat} (h4 : k ≠ 4) (h5 : k ≠ 5) (h8 : k ≠ 8) (h9 : k ≠ 9) : fn1 S w tn k = S k := by
  unfold fn1; rw [xu_k _ _ _ h9, xu_k _ _ _ h8, drS_k _ _ _ h4 h5]
theorem fn1_t (S : Nat → Nat → Int32) (w tn j : Nat) : fn1 S w tn 4 j = -1 ∨ fn1 S w tn 4 j = S 4 j := by
  unfold fn1; rw [xu_k _ _ _ (by decide), xu_k _ _ _ (by decide)]; exact drS_t _ _ _ _
theorem rcS_k {S : Nat → Nat → Int32} {np : Nat} {put : Int32} {pn i k : Nat} (h1 : k ≠ 13) (h2 : k ≠ 14) (h3 : k ≠ 0) : (rcS S np put pn i).1 k = S k := funext (fun j => rcS_keep h1 h2 (by omega) i)
theorem TI.fin {S : Nat → Nat → Int32} {c r np w tn : Nat} (h : TI S c r np) : TI (fnS S np w tn) c r np := by
  have h1 : TI (fn1 S w tn) c r np := h.keep (fn1_k (by decide) (by decide) (by decide) (by decide)) (by rw [fn1_k (by decide) (by decide) (by decide) (by decide)]) (by rw [fn1_k (by decide) (by decide) (by decide) (by decide)]) (by rw [fn1_k (by decide) (by decide) (by decide) (by decide)]) (by rw [fn1_k (by decide) (by decide) (by decide) (by decide)]) (fun v _ => (fn1_t S w tn v).imp id Or.inl)
  have h2 : TI (rcS (fn1 S w tn) np (nI 0) (tn - 8) np).1 c r np := h1.keep (rcS_k (by decide) (by decide) (by decide)) (rcS_keep (by decide) (by decide) (by decide) _) (rcS_keep (by decide) (by decide) (by decide) _) (rcS_keep (by decide) (by decide) (by decide) _) (rcS_keep (by decide) (by decide) (by decide) _) (fun v _ => Or.inr (Or.inl (by rw [rcS_k (by decide) (by decide) (by decide)])))
  unfold fnS
  split
  · exact h1
  · split
    · exact h2
    · refine h2.keep ?_ ?_ ?_ ?_ ?_ (fun v _ => ?_)
      · rw [gvS_k _ _ _ (by decide) (by decide), xu_k _ _ _ (by decide)]
      · rw [gvS_k _ _ _ (by decide) (by decide), xu_j _ _ _ _ (by decide)]
      · rw [gvS_k _ _ _ (by decide) (by decide), xu_j _ _ _ _ (by decide)]
      · rw [gvS_k _ _ _ (by decide) (by decide), xu_j _ _ _ _ (by decide)]
      · rw [gvS_k _ _ _ (by decide) (by decide), xu_j _ _ _ _ (by decide)]
      · rcases gvS_t (xu (rcS (fn1 S w tn) np (nI 0) (tn - 8) np).1 0 26 (nI 0)) (nI 0) 4 v with q | q
        · exact Or.inl q
        · rw [q, xu_k _ _ _ (by decide)]; exact Or.inr (Or.inl rfl)
theorem TI.wb {U : Nat → Nat → Int32} {c r np w : Nat} {sm : Bool} (h : TI U c r np) : TI (wk2 U np w sm).1 c r np := by
  unfold wk2
  split
  · exact h
  · split
    · exact h.unit
    · exact h.unit.fin
theorem TI.wa {S : Nat → Nat → Int32} {c r np w : Nat} {sm : Bool} (h : TI S c r np) : TI (wk1 S c r np w sm).1 c r np := by
  unfold wk1
  split
  · exact h
  · split
    · exact h.get.wb
    · exact h.wb
theorem TI.keepL {S : Nat → Nat → Int32} {c r np : Nat} (h : TI S c r np) : ∀ w, TI (tkL S c r np w).1 c r np
  | 0 => TI.keep (T := xu S 0 21 (S 0 21 + nI 1)) h (xu_k _ _ _ (by decide)) (xu_j _ _ _ _ (by decide)) (xu_j _ _ _ _ (by decide)) (xu_j _ _ _ _ (by decide)) (xu_j _ _ _ _ (by decide)) (fun v _ => Or.inr (Or.inl (by show xu S 0 21 _ 4 v = _; rw [xu_k _ _ _ (by decide)])))
  | w + 1 => by
    have ih := TI.keepL h w
    rw [show tkL S c r np (w + 1) = if ¬ (tkL S c r np w).1 0 14 = 0 then tkL S c r np w else wk1 (tkL S c r np w).1 c r np w (tkL S c r np w).2 from rfl]
    split
    · exact ih
    · exact ih.wa
theorem TI.tick {S : Nat → Nat → Int32} {c r np : Nat} (h : TI S c r np) : TI (tkS S c r np) c r np := by
  have h4 := TI.keepL h 4
  unfold tkS
  generalize tkL S c r np 4 = o at h4
  unfold tkE
  split
  · exact h4
  · split
    · have e0 : ∀ k, k ≠ 0 → en0 o.1 k = o.1 k := by intro k hk; unfold en0; rw [xu_k _ _ _ hk, xu_k _ _ _ hk, xu_k _ _ _ hk]
      have e1 : ∀ j, j ≠ 26 → j ≠ 22 → j ≠ 25 → en0 o.1 0 j = o.1 0 j := by intro j a b d; unfold en0; rw [xu_j _ _ _ _ d, xu_j _ _ _ _ b, xu_j _ _ _ _ a]
      exact h4.keep (funext (fun j => (enL_keep (by decide) (by decide) (by decide) (by omega) r).trans (by rw [e0 _ (by decide)]))) ((enL_keep (by decide) (by decide) (by decide) (by decide) r).trans (e1 _ (by decide) (by decide) (by decide))) ((enL_keep (by decide) (by decide) (by decide) (by decide) r).trans (e1 _ (by decide) (by decide) (by decide))) ((enL_keep (by decide) (by decide) (by decide) (by decide) r).trans (e1 _ (by decide) (by decide) (by decide))) ((enL_keep (by decide) (by decide) (by decide) (by decide) r).trans (e1 _ (by decide) (by decide) (by decide))) (fun v _ => Or.inr (Or.inl ((enL_keep (by decide) (by decide) (by decide) (by omega) r).trans (by rw [e0 _ (by decide)]))))
    · split
      · exact h4
      · exact h4.keep (xu_k _ _ _ (by decide)) (xu_j _ _ _ _ (by decide)) (xu_j _ _ _ _ (by decide)) (xu_j _ _ _ _ (by decide)) (xu_j _ _ _ _ (by decide)) (fun v _ => Or.inr (Or.inl (by rw [xu_k _ _ _ (by decide)])))
end
section
section XM10
variable {l : Launch} {G : xG} {h0 : xH} {y : Nat} {S : Nat → Nat → Int32}
theorem tk_fin (hs : MSh h0 y) {o : (Nat → Nat → Int32) × Bool} {c r np : Nat} (hT : TI o.1 c r np) : xV l G 4 94 m_M_tick 140 [(1, .int (bI (o.2 = true))), (0, .ref y)] [] (mset y o.1 h0) (fun q h' => q = .inl none ∧ h' = mset y (tkE o c r np) h0) := by
  obtain ⟨hc, hc6, hr, hr1, hr3, hp, hnp, hb, htk, hgs⟩ := hT
  refine x_aload_n d_M_tick_140 rfl ?_
  refine xm_get (j := 14) d_M_tick_141 hs rfl (by decide) wf_M_64 (fun _ _ => rfl) ?_
  refine x_if_le (tgt := 148) d_M_tick_144 (by decide) (fun c1 => ?_) (fun c1 => ?_)
  · refine x_aload_n d_M_tick_148 rfl ?_
    refine x_callV (M' := m_M_mapsDone) (As := []) (fr' := 0) (wd' := 0) d_M_tick_149 hs.1 rfl pl_M_mapsDone rfl (Nat.le_of_ble_eq_true rfl) (by decide) (by decide) wc_M_mapsDone wi_M wl_M_140 wm_M_mapsDone we_M_mapsDone (by decide) np_M_mapsDone (Nat.le_of_ble_eq_true rfl) (fun q hq => by cases hq) (c_M_mapsDone hs hc hc6) (fun k a h1 q => by cases q.1) (fun v h1 q => ?_)
    obtain ⟨q1, rfl⟩ := q
    cases q1
    refine x_istore_n d_M_tick_152 (by decide) ?_
    refine x_iconst (v := nI 0) d_M_tick_153 (by decide) ?_
    refine x_istore_n d_M_tick_154 (by decide) ?_
    have e0 : ¬ ¬ o.1 0 14 ≤ 0 := fun q => q c1
    have lp : ∀ m i : Nat, i + m = r → xV l G 4 94 m_M_tick 155 [(3, .int (nI i)), (2, .int (bI ((∀ t, t < c → ¬ o.1 8 t = 0) ∧ (∀ q, q < i → ¬ o.1 8 (8 + q) = 0)))), (1, .int (bI (o.2 = true))), (0, .ref y)] [] (mset y o.1 h0) (fun q h' => q = .inl none ∧ h' = mset y (tkE o c r np) h0) := by
      intro m
      induction m with
      | zero =>
        intro i him
        obtain rfl : i = r := by omega
        refine x_iload_n d_M_tick_155 rfl ?_
        refine x_aload_n d_M_tick_156 rfl ?_
        refine xm_get (j := 19) d_M_tick_157 hs rfl (by decide) wf_M_103 (fun _ _ => rfl) ?_
        rw [hr]
        refine x_icmp_ge_t (tgt := 183) d_M_tick_160 (by decide) ((nI_le (by omega) (by omega))) ?_
        refine x_iload_n d_M_tick_183 rfl ?_
        by_cases al : (∀ t, t < c → ¬ o.1 8 t = 0) ∧ (∀ q, q < i → ¬ o.1 8 (8 + q) = 0)
        · rw [bI_t al]
          refine x_if_eq_f 192 d_M_tick_184 (by decide) ((by decide)) ?_
          refine x_aload_n d_M_tick_187 rfl ?_
          refine x_callV (M' := m_M_end) (As := []) (fr' := 2) (wd' := 50) d_M_tick_188 hs.1 rfl pl_M_end rfl (Nat.le_of_ble_eq_true rfl) (by decide) (by decide) wc_M_end wi_M wl_M_179 wm_M_end we_M_end (by decide) np_M_end (Nat.le_of_ble_eq_true rfl) (fun q hq => by cases hq) (c_M_end hs ⟨hc, hc6, hr, hr1, hr3, hp, hnp, hb, htk, hgs⟩) (fun k a h1 q => by cases q.1) (fun v h1 q => ?_)
          obtain ⟨q1, rfl⟩ := q
          cases q1
          refine x_vret d_M_tick_191 rfl ?_
          exact ⟨rfl, by unfold tkE; rw [if_neg e0, if_pos al]⟩
        · rw [bI_f al]
          have e1 : tkE o c i np = if o.2 = true ∨ idl o.1 4 = false then o.1 else xu o.1 0 14 (nI 2) := by unfold tkE; rw [if_neg e0, if_neg al]
          rw [e1]
          have lw : ∀ m2 v : Nat, v + m2 = 4 → xV l G 4 94 m_M_tick 194 [(3, .int (nI v)), (1, .int (bI (o.2 = true ∨ idl o.1 v = false))), (0, .ref y)] [] (mset y o.1 h0) (fun q h' => q = .inl none ∧ h' = mset y (if o.2 = true ∨ idl o.1 4 = false then o.1 else xu o.1 0 14 (nI 2)) h0) := by
            intro m2
            induction m2 with
            | zero =>
              intro v hv
              obtain rfl : v = 4 := by omega
              refine x_iload_n d_M_tick_194 rfl ?_
              refine x_iconst (v := nI 4) d_M_tick_195 (by decide) ?_
              refine x_icmp_ge_t (tgt := 216) d_M_tick_196 (by decide) ((nI_le (by omega) (by omega))) ?_
              refine x_iload_n d_M_tick_216 rfl ?_
              by_cases cc : o.2 = true ∨ idl o.1 4 = false
              · rw [bI_t cc, if_pos cc]
                refine x_if_ne_t (tgt := 225) d_M_tick_217 (by decide) ((by decide)) ?_
                refine x_vret d_M_tick_225 rfl ?_
                exact ⟨rfl, rfl⟩
              · rw [bI_f cc, if_neg cc]
                refine x_if_ne_f 225 d_M_tick_217 (by decide) ((by decide)) ?_
                refine x_aload_n d_M_tick_220 rfl ?_
                refine x_iconst (v := nI 2) d_M_tick_221 (by decide) ?_
                refine xm_put (j := 14) d_M_tick_222 hs rfl (by decide) wf_M_64 (Or.inl rfl) (by first | rfl | assumption) rfl (fun _ _ => rfl) ?_
                refine x_vret d_M_tick_225 rfl ?_
                exact ⟨rfl, rfl⟩
            | succ m2 ih2 =>
              intro v hv
              have hv4 : v < mlen 4 := by show v < 4; omega
              have nx := ih2 (v + 1) (by omega)
              refine x_iload_n d_M_tick_194 rfl ?_
              refine x_iconst (v := nI 4) d_M_tick_195 (by decide) ?_
              refine x_icmp_ge_f 216 d_M_tick_196 (by decide) ((nI_ge (by omega) (by omega))) ?_
              refine x_aload_n d_M_tick_199 rfl ?_
              refine xm_ref (k := 4) (j := 3) d_M_tick_200 hs (by decide) rfl rfl (by decide) wf_M_19 rfl ?_
              refine x_iload_n d_M_tick_203 rfl ?_
              refine xm_ald d_M_tick_204 hs (by decide) rfl (by first | decide | assumption | omega) ?_
              refine x_if_lt (tgt := 210) d_M_tick_205 (by decide) (fun c2 => ?_) (fun c2 => ?_)
              · have e2 : idl o.1 (v + 1) = idl o.1 v := by unfold idl; rw [decide_eq_true c2, Bool.and_true]; cases v <;> rfl
                rw [e2] at nx
                first | refine x_incN d_M_tick_210 rfl (by decide) ?_ | refine x_inc d_M_tick_210 rfl (by decide) ?_
                refine x_goto (tgt := 194) d_M_tick_213 (by decide) ?_
                refine xV.loc (nx) (by repeat (first | exact trivial | refine ⟨rfl, ?_⟩))
              · have e2 : idl o.1 (v + 1) = false := by rw [idl, decide_eq_false c2, Bool.and_false]
                rw [bI_t (Or.inr e2)] at nx
                refine x_iconst (v := nI 1) d_M_tick_208 (by decide) ?_
                refine x_istore_n d_M_tick_209 (by decide) ?_
                first | refine x_incN d_M_tick_210 rfl (by decide) ?_ | refine x_inc d_M_tick_210 rfl (by decide) ?_
                refine x_goto (tgt := 194) d_M_tick_213 (by decide) ?_
                refine xV.loc (nx) (by repeat (first | exact trivial | refine ⟨rfl, ?_⟩))
          refine x_if_eq_t (tgt := 192) d_M_tick_184 (by decide) ((by decide)) ?_
          refine x_iconst (v := nI 0) d_M_tick_192 (by decide) ?_
          refine x_istore_n d_M_tick_193 (by decide) ?_
          have := lw 4 0 (by omega)
          rw [show bI (o.2 = true ∨ idl o.1 0 = false) = bI (o.2 = true) by
            by_cases q : o.2 = true
            · rw [bI_t q, bI_t (Or.inl q)]
            · rw [bI_f q, bI_f (by rintro (z | z); exact q z; cases z)]] at this
          refine xV.loc (this) (by repeat (first | exact trivial | refine ⟨rfl, ?_⟩))
      | succ m ih =>
        intro i him
        have h8 : 8 + i < mlen 8 := by show 8 + i < 11; omega
        have nx := ih (i + 1) (by omega)
        refine x_iload_n d_M_tick_155 rfl ?_
        refine x_aload_n d_M_tick_156 rfl ?_
        refine xm_get (j := 19) d_M_tick_157 hs rfl (by decide) wf_M_103 (fun _ _ => rfl) ?_
        rw [hr]
        refine x_icmp_ge_f 183 d_M_tick_160 (by decide) ((nI_ge (by omega) (by omega))) ?_
        refine x_aload_n d_M_tick_163 rfl ?_
        refine xm_ref (k := 8) (j := 7) d_M_tick_164 hs (by decide) rfl rfl (by decide) wf_M_32 rfl ?_
        refine x_bipush (v := nI 8) d_M_tick_167 (by decide) ?_
        refine x_iload_n d_M_tick_169 rfl ?_
        refine x_iadd d_M_tick_170 ?_
        rw [nI_add]
        refine xm_zld d_M_tick_171 hs (by decide) rfl (by first | decide | assumption | omega) ?_
        refine x_if_ne (tgt := 177) d_M_tick_172 (by decide) (fun c2 => ?_) (fun c2 => ?_)
        · have e : bI ((∀ t, t < c → ¬ o.1 8 t = 0) ∧ (∀ q, q < i + 1 → ¬ o.1 8 (8 + q) = 0)) = bI ((∀ t, t < c → ¬ o.1 8 t = 0) ∧ (∀ q, q < i → ¬ o.1 8 (8 + q) = 0)) := by
            by_cases z : (∀ t, t < c → ¬ o.1 8 t = 0) ∧ (∀ q, q < i → ¬ o.1 8 (8 + q) = 0)
            · rw [bI_t z, bI_t ⟨z.1, fun q hq => by
                rcases Nat.lt_succ_iff_lt_or_eq.mp hq with h2 | h2
                · exact z.2 q h2
                · rw [h2]; exact c2⟩]
            · rw [bI_f z, bI_f (fun q => z ⟨q.1, fun j hj => q.2 j (by omega)⟩)]
          rw [e] at nx
          first | refine x_incN d_M_tick_177 rfl (by decide) ?_ | refine x_inc d_M_tick_177 rfl (by decide) ?_
          refine x_goto (tgt := 155) d_M_tick_180 (by decide) ?_
          refine xV.loc (nx) (by repeat (first | exact trivial | refine ⟨rfl, ?_⟩))
        · rw [bI_f (fun q => q.2 i (by omega) c2)] at nx
          refine x_iconst (v := nI 0) d_M_tick_175 (by decide) ?_
          refine x_istore_n d_M_tick_176 (by decide) ?_
          first | refine x_incN d_M_tick_177 rfl (by decide) ?_ | refine x_inc d_M_tick_177 rfl (by decide) ?_
          refine x_goto (tgt := 155) d_M_tick_180 (by decide) ?_
          refine xV.loc (nx) (by repeat (first | exact trivial | refine ⟨rfl, ?_⟩))
    have ez : ∀ i, i = 0 → bI ((∀ t, t < c → ¬ o.1 8 t = 0) ∧ (∀ q, q < i → ¬ o.1 8 (8 + q) = 0)) = bI (∀ t, t < c → ¬ o.1 8 t = 0) := by
      intro i hi
      by_cases z : ∀ t, t < c → ¬ o.1 8 t = 0
      · rw [bI_t z, bI_t ⟨z, fun q hq => by omega⟩]
      · rw [bI_f z, bI_f (fun q => z q.1)]
    have := lp r 0 (by omega)
    rw [ez 0 rfl] at this
    refine xV.loc (this) (by repeat (first | exact trivial | refine ⟨rfl, ?_⟩))
  · skip
    refine x_vret d_M_tick_147 rfl ?_
    exact ⟨rfl, by unfold tkE; rw [if_pos c1]⟩
theorem c_M_tick (hs : MSh h0 y) {c r np : Nat} (hT : TI S c r np) : xVM l G 4 94 m_M_tick [.ref y] (mset y S h0) (fun q h' => q = .inl none ∧ h' = mset y (tkS S c r np) h0) := by
  have lp : ∀ m w : Nat, w + m = 4 → xV l G 4 94 m_M_tick 14 [(2, .int (nI w)), (1, .int (bI ((tkL S c r np w).2 = true))), (0, .ref y)] [] (mset y (tkL S c r np w).1 h0) (fun q h' => q = .inl none ∧ h' = mset y (tkS S c r np) h0) := by
    intro m
    induction m with
    | zero =>
      intro w hw
      obtain rfl : w = 4 := by omega
      have fin := tk_fin (l := l) (G := G) hs (TI.keepL hT 4)
      rw [← show tkS S c r np = tkE (tkL S c r np 4) c r np from rfl] at fin
      refine x_iload_n d_M_tick_14 rfl ?_
      refine x_iconst (v := nI 4) d_M_tick_15 (by decide) ?_
      refine x_icmp_ge_t (tgt := 140) d_M_tick_16 (by decide) ((nI_le (by omega) (by omega))) ?_
      refine xV.loc (fin) (by repeat (first | exact trivial | refine ⟨rfl, ?_⟩))
    | succ m ih =>
      intro w hw
      have nx := ih (w + 1) (by omega)
      have hTw := TI.keepL hT w
      refine x_iload_n d_M_tick_14 rfl ?_
      refine x_iconst (v := nI 4) d_M_tick_15 (by decide) ?_
      refine x_icmp_ge_f 140 d_M_tick_16 (by decide) ((nI_ge (by omega) (by omega))) ?_
      refine x_aload_n d_M_tick_19 rfl ?_
      refine xm_get (j := 14) d_M_tick_20 hs rfl (by decide) wf_M_64 (fun _ _ => rfl) ?_
      refine x_if_ne (tgt := 140) d_M_tick_23 (by decide) (fun c1 => ?_) (fun c1 => ?_)
      · have fin := tk_fin (l := l) (G := G) hs (TI.keepL hT 4)
        have e := tkL_stop c1 (m + 1)
        rw [hw] at e
        rw [e] at fin
        rw [show tkS S c r np = tkE (tkL S c r np w) c r np by unfold tkS; rw [e]]
        refine xV.loc (fin) (by repeat (first | exact trivial | refine ⟨rfl, ?_⟩))
      · rw [tkL, if_neg (fun q => q c1)] at nx
        generalize hN : tkL S c r np w = o at nx hTw c1 ⊢
        obtain ⟨T, sm⟩ := o
        simp only at nx hTw c1 ⊢
        have w3 : w < mlen 3 := by show w < 4; omega
        have w4 : w < mlen 4 := by show w < 4; omega
        have w5 : w < mlen 5 := by show w < 4; omega
        have w6 : w < mlen 6 := by show w < 4; omega
        have w7 : w < mlen 7 := by show w < 4; omega
        have seg : ∀ U : Nat → Nat → Int32, TI U c r np → wk1 T c r np w sm = wk2 U np w sm → xV l G 4 94 m_M_tick 52 [(2, .int (nI w)), (1, .int (bI (sm = true))), (0, .ref y)] [] (mset y U h0) (fun q h' => q = .inl none ∧ h' = mset y (tkS S c r np) h0) := by
          intro U hU hw1
          rw [hw1] at nx
          by_cases u0 : U 4 w < 0
          · rw [show wk2 U np w sm = (U, sm) from if_pos u0] at nx
            dsimp only at nx
            refine x_aload_n d_M_tick_52 rfl ?_
            refine xm_ref (k := 4) (j := 3) d_M_tick_53 hs (by decide) rfl rfl (by decide) wf_M_19 rfl ?_
            refine x_iload_n d_M_tick_56 rfl ?_
            refine xm_ald d_M_tick_57 hs (by decide) rfl (by first | decide | assumption | omega) ?_
            refine x_if_ge_f 64 d_M_tick_58 (by decide) ((Int32.not_le.mpr u0)) ?_
            refine x_goto (tgt := 134) d_M_tick_61 (by decide) ?_
            first | refine x_incN d_M_tick_134 rfl (by decide) ?_ | refine x_inc d_M_tick_134 rfl (by decide) ?_
            refine x_goto (tgt := 14) d_M_tick_137 (by decide) ?_
            refine xV.loc (nx) (by repeat (first | exact trivial | refine ⟨rfl, ?_⟩))
          · have s94 : xV l G 4 94 m_M_tick 94 [(2, .int (nI w)), (1, .int (bI (sm = true))), (0, .ref y)] [.int (wkN U w)] (mset y U h0) (fun q h' => q = .inl none ∧ h' = mset y (tkS S c r np) h0) := by
              refine x_istore_n d_M_tick_94 (by decide) ?_
              refine x_aload_n d_M_tick_95 rfl ?_
              refine xm_ref (k := 5) (j := 4) d_M_tick_96 hs (by decide) rfl rfl (by decide) wf_M_22 rfl ?_
              refine x_iload_n d_M_tick_99 rfl ?_
              refine x_dup2 d_M_tick_100 rfl rfl ?_
              refine xm_ald d_M_tick_101 hs (by decide) rfl (by first | decide | assumption | omega) ?_
              refine x_iload_n d_M_tick_102 rfl ?_
              refine x_isub d_M_tick_103 ?_
              refine xm_ast d_M_tick_104 hs (by decide) rfl (by first | decide | assumption | omega) ?_
              refine x_aload_n d_M_tick_105 rfl ?_
              refine xm_ref (k := 6) (j := 5) d_M_tick_106 hs (by decide) rfl rfl (by decide) wf_M_25 rfl ?_
              refine x_iload_n d_M_tick_109 rfl ?_
              refine x_dup2 d_M_tick_110 rfl rfl ?_
              refine xm_ald d_M_tick_111 hs (by decide) rfl (by first | decide | assumption | omega) ?_
              rw [show xu U 5 w (U 5 w - wkN U w) 6 w = U 6 w by rw [xu_k _ _ _ (by decide)]]
              refine x_iload_n d_M_tick_112 rfl ?_
              refine x_iadd d_M_tick_113 ?_
              refine xm_ast d_M_tick_114 hs (by decide) rfl (by first | decide | assumption | omega) ?_
              rw [show xu (xu U 5 w (U 5 w - wkN U w)) 6 w (U 6 w + wkN U w) = wkU U w from rfl]
              refine x_aload_n d_M_tick_115 rfl ?_
              refine xm_ref (k := 5) (j := 4) d_M_tick_116 hs (by decide) rfl rfl (by decide) wf_M_22 rfl ?_
              refine x_iload_n d_M_tick_119 rfl ?_
              refine xm_ald d_M_tick_120 hs (by decide) rfl (by first | decide | assumption | omega) ?_
              rw [show wkU U w 5 w = U 5 w - wkN U w by unfold wkU; rw [xu_k _ _ _ (by decide), xu_s]]
              by_cases p0 : 0 < U 5 w - wkN U w
              · rw [show wk2 U np w sm = (wkU U w, sm) by unfold wk2; rw [if_neg u0, if_pos p0]] at nx
                dsimp only at nx
                refine x_if_le_f 127 d_M_tick_121 (by decide) ((Int32.not_le.mpr p0)) ?_
                refine x_goto (tgt := 134) d_M_tick_124 (by decide) ?_
                first | refine x_incN d_M_tick_134 rfl (by decide) ?_ | refine x_inc d_M_tick_134 rfl (by decide) ?_
                refine x_goto (tgt := 14) d_M_tick_137 (by decide) ?_
                refine xV.loc (nx) (by repeat (first | exact trivial | refine ⟨rfl, ?_⟩))
              · rw [show wk2 U np w sm = (fnS (wkU U w) np w (U 4 w).toNatClampNeg, true) by unfold wk2; rw [if_neg u0, if_neg p0]] at nx
                dsimp only at nx
                rw [bI_t rfl] at nx
                obtain ⟨hc, hc6, hr, hr1, hr3, hp, hnp, hb, htk, hgs⟩ := hU
                have hu4 : ∃ t, U 4 w = nI t ∧ (t < c ∨ (8 ≤ t ∧ t < 8 + r)) := by
                  rcases htk w (by omega) with q | q
                  · rw [q] at u0; exact absurd (by decide) u0
                  · exact q
                obtain ⟨t, ht, htr⟩ := hu4
                have hcl : (U 4 w).toNatClampNeg = t := by rw [ht]; exact nI_clamp (by omega)
                rw [hcl] at nx
                refine x_if_le_t (tgt := 127) d_M_tick_121 (by decide) ((Int32.not_lt.mp p0)) ?_
                refine x_iconst (v := nI 1) d_M_tick_127 (by decide) ?_
                refine x_istore_n d_M_tick_128 (by decide) ?_
                refine x_aload_n d_M_tick_129 rfl ?_
                refine x_iload_n d_M_tick_130 rfl ?_
                refine x_callV (M' := m_M_finish) (As := [_]) (fr' := 2) (wd' := 50) d_M_tick_131 hs.1 rfl pl_M_finish rfl (Nat.le_of_ble_eq_true rfl) (by decide) (by decide) wc_M_finish wi_M wl_M_176 wm_M_finish we_M_finish (by decide) np_M_finish (Nat.le_of_ble_eq_true rfl) (fun q hq => by cases hq) (c_M_finish hs (by omega) (by rw [wkU_k (by decide) (by decide)]; exact ht) (by omega) (by rw [wkU_k (by decide) (by decide)]; exact hp) hnp (by rw [wkU_k (by decide) (by decide)]; exact hr) hr1 hr3) (fun k a h1 q => by cases q.1) (fun v h1 q => ?_)
                obtain ⟨q1, rfl⟩ := q
                cases q1
                first | refine x_incN d_M_tick_134 rfl (by decide) ?_ | refine x_inc d_M_tick_134 rfl (by decide) ?_
                refine x_goto (tgt := 14) d_M_tick_137 (by decide) ?_
                refine xV.loc (nx) (by repeat (first | exact trivial | refine ⟨rfl, ?_⟩))
            refine x_aload_n d_M_tick_52 rfl ?_
            refine xm_ref (k := 4) (j := 3) d_M_tick_53 hs (by decide) rfl rfl (by decide) wf_M_19 rfl ?_
            refine x_iload_n d_M_tick_56 rfl ?_
            refine xm_ald d_M_tick_57 hs (by decide) rfl (by first | decide | assumption | omega) ?_
            refine x_if_ge_t (tgt := 64) d_M_tick_58 (by decide) ((Int32.not_lt.mp u0)) ?_
            refine x_aload_n d_M_tick_64 rfl ?_
            refine xm_ref (k := 3) (j := 2) d_M_tick_65 hs (by decide) rfl rfl (by decide) wf_M_16 rfl ?_
            refine x_iload_n d_M_tick_68 rfl ?_
            refine xm_ald d_M_tick_69 hs (by decide) rfl (by first | decide | assumption | omega) ?_
            refine x_aload_n d_M_tick_70 rfl ?_
            refine xm_ref (k := 5) (j := 4) d_M_tick_71 hs (by decide) rfl rfl (by decide) wf_M_22 rfl ?_
            refine x_iload_n d_M_tick_74 rfl ?_
            refine xm_ald d_M_tick_75 hs (by decide) rfl (by first | decide | assumption | omega) ?_
            refine x_icmp_ge (tgt := 88) d_M_tick_76 (by decide) (fun c5 => ?_) (fun c5 => ?_)
            · rw [show wkN U w = U 5 w from if_pos c5] at s94
              refine x_aload_n d_M_tick_88 rfl ?_
              refine xm_ref (k := 5) (j := 4) d_M_tick_89 hs (by decide) rfl rfl (by decide) wf_M_22 rfl ?_
              refine x_iload_n d_M_tick_92 rfl ?_
              refine xm_ald d_M_tick_93 hs (by decide) rfl (by first | decide | assumption | omega) ?_
              refine xV.loc (s94) (by repeat (first | exact trivial | refine ⟨rfl, ?_⟩))
            · rw [show wkN U w = U 3 w from if_neg c5] at s94
              refine x_aload_n d_M_tick_79 rfl ?_
              refine xm_ref (k := 3) (j := 2) d_M_tick_80 hs (by decide) rfl rfl (by decide) wf_M_16 rfl ?_
              refine x_iload_n d_M_tick_83 rfl ?_
              refine xm_ald d_M_tick_84 hs (by decide) rfl (by first | decide | assumption | omega) ?_
              refine x_goto (tgt := 94) d_M_tick_85 (by decide) ?_
              refine xV.loc (s94) (by repeat (first | exact trivial | refine ⟨rfl, ?_⟩))
        refine x_aload_n d_M_tick_26 rfl ?_
        refine xm_ref (k := 7) (j := 6) d_M_tick_27 hs (by decide) rfl rfl (by decide) wf_M_28 rfl ?_
        refine x_iload_n d_M_tick_30 rfl ?_
        refine xm_zld d_M_tick_31 hs (by decide) rfl (by first | decide | assumption | omega) ?_
        refine x_if_ne (tgt := 38) d_M_tick_32 (by decide) (fun c2 => ?_) (fun c2 => ?_)
        · refine x_aload_n d_M_tick_38 rfl ?_
          refine xm_ref (k := 4) (j := 3) d_M_tick_39 hs (by decide) rfl rfl (by decide) wf_M_19 rfl ?_
          refine x_iload_n d_M_tick_42 rfl ?_
          refine xm_ald d_M_tick_43 hs (by decide) rfl (by first | decide | assumption | omega) ?_
          refine x_if_ge (tgt := 52) d_M_tick_44 (by decide) (fun c3 => ?_) (fun c3 => ?_)
          · have sg := seg T hTw (by unfold wk1; rw [if_neg c2, if_neg (Int32.not_lt.mpr c3)])
            refine xV.loc (sg) (by repeat (first | exact trivial | refine ⟨rfl, ?_⟩))
          · have sg := seg (gtS T c r np w) hTw.get (by unfold wk1; rw [if_neg c2, if_pos (Int32.not_le.mp c3)])
            obtain ⟨hc, hc6, hr, hr1, hr3, hp, hnp, hb, htk, hgs⟩ := hTw
            refine x_aload_n d_M_tick_47 rfl ?_
            refine x_iload_n d_M_tick_48 rfl ?_
            refine x_callV (M' := m_M_get) (As := [_]) (fr' := 3) (wd' := 65) d_M_tick_49 hs.1 rfl pl_M_get rfl (Nat.le_of_ble_eq_true rfl) (by decide) (by decide) wc_M_get wi_M wl_M_173 wm_M_get we_M_get (by decide) np_M_get (Nat.le_of_ble_eq_true rfl) (fun q hq => by cases hq) (c_M_get hs (by omega) hc hc6 hr hr1 hr3 hp hnp hb) (fun k a h1 q => by cases q.1) (fun v h1 q => ?_)
            obtain ⟨q1, rfl⟩ := q
            cases q1
            refine xV.loc (sg) (by repeat (first | exact trivial | refine ⟨rfl, ?_⟩))
        · rw [show wk1 T c r np w sm = (T, sm) from if_pos c2] at nx
          dsimp only at nx
          refine x_goto (tgt := 134) d_M_tick_35 (by decide) ?_
          first | refine x_incN d_M_tick_134 rfl (by decide) ?_ | refine x_inc d_M_tick_134 rfl (by decide) ?_
          refine x_goto (tgt := 14) d_M_tick_137 (by decide) ?_
          refine xV.loc (nx) (by repeat (first | exact trivial | refine ⟨rfl, ?_⟩))
  unfold xVM
  refine x_iconst (v := nI 0) d_M_tick_0 (by decide) ?_
  refine x_istore_n d_M_tick_1 (by decide) ?_
  refine x_aload_n d_M_tick_2 rfl ?_
  refine x_dup d_M_tick_3 rfl ?_
  refine xm_get (j := 21) d_M_tick_4 hs rfl (by decide) wf_M_170 (fun _ _ => rfl) ?_
  refine x_iconst (v := nI 1) d_M_tick_7 (by decide) ?_
  refine x_iadd d_M_tick_8 ?_
  refine xm_put (j := 21) d_M_tick_9 hs rfl (by decide) wf_M_170 (Or.inl rfl) (by first | rfl | assumption) rfl (fun _ _ => rfl) ?_
  refine x_iconst (v := nI 0) d_M_tick_12 (by decide) ?_
  refine x_istore_n d_M_tick_13 (by decide) ?_
  have := lp 4 0 (by omega)
  rw [show tkL S c r np 0 = (xu S 0 21 (S 0 21 + nI 1), false) from rfl, bI_f (fun q => Bool.false_ne_true q)] at this
  dsimp only at this
  refine xV.loc (this) (by repeat (first | exact trivial | refine ⟨rfl, ?_⟩))
/-- the ticks of a run -/
def rnL (S : Nat → Nat → Int32) (c r np : Nat) : Nat → (Nat → Nat → Int32) × Nat
  | 0 => (S, 0)
  | n + 1 => if (rnL S c r np n).1 0 26 = 0 ∨ ¬ (rnL S c r np n).1 0 14 = 0 then rnL S c r np n else (tkS (rnL S c r np n).1 c r np, (rnL S c r np n).2 + 1)
theorem TI.run {S : Nat → Nat → Int32} {c r np : Nat} (h : TI S c r np) : ∀ n, TI (rnL S c r np n).1 c r np
  | 0 => h
  | n + 1 => by
    have ih := TI.run h n
    rw [rnL]
    split
    · exact ih
    · dsimp only
      exact ih.tick
theorem rnL_stop {S : Nat → Nat → Int32} {c r np n : Nat} (h : (rnL S c r np n).1 0 26 = 0 ∨ ¬ (rnL S c r np n).1 0 14 = 0) : ∀ m, rnL S c r np (n + m) = rnL S c r np n
  | 0 => rfl
  | m + 1 => by
    have ih := rnL_stop h m
    rw [show n + (m + 1) = (n + m) + 1 from rfl, rnL, ih, if_pos h]
end XM10
end
section
/-- in range -/
abbrev rng (v : Int32) (a b : Nat) : Prop := nI a ≤ v ∧ v ≤ nI b
theorem rng_of {v : Int32} {a b : Nat} (ha : a < 2 ^ 31) (hb : b < 2 ^ 31) (h : rng v a b) : ∃ n, v = nI n ∧ a ≤ n ∧ n ≤ b := by
  have h0 : ¬ v < 0 := by
    have := h.1
    rw [Int32.le_iff_toInt_le, nI_toInt ha] at this
    rw [Int32.lt_iff_toInt_lt, Int32.toInt_zero]; omega
  obtain ⟨n, hn, rfl⟩ := nI_of2 (nI_toInt hb) h0 h.2
  exact ⟨n, rfl, (nI_leI ha (by omega)).mp h.1, hn⟩
section XM11
variable {l : Launch} {G : xG} {h0 : xH} {y : Nat} {S : Nat → Nat → Int32}
def spS (S : Nat → Nat → Int32) (w s : Int32) : Nat → Nat → Int32 := if rng w 0 3 ∧ rng s 1 4 then xu (xu S 0 14 (nI 0)) 3 w.toNatClampNeg s else xu S 0 14 (nI 1)
theorem c_M_speed (hs : MSh h0 y) (w s : Int32) : xVM l G 1 22 m_M_speed [.ref y, .int w, .int s] (mset y S h0) (fun r h' => r = .inl none ∧ h' = mset y (spS S w s) h0) := by
  unfold xVM
  refine x_aload_n d_M_speed_0 rfl ?_
  refine x_iload_n d_M_speed_1 rfl ?_
  refine x_iconst (v := nI 0) d_M_speed_2 (by decide) ?_
  refine x_iconst (v := nI 3) d_M_speed_3 (by decide) ?_
  refine x_callS (M' := m_M_in) (As := [_, _, _]) (fr' := 0) (wd' := 0) d_M_speed_4 pl_M_in rfl (Nat.le_of_ble_eq_true rfl) (by decide) (by decide) wc_M_in wi_M wl_M_67 ws_M_in (by decide) np_M_in (Nat.le_of_ble_eq_true rfl) (fun q hq => by cases hq) (c_M_in _ _ _) (fun k a h1 q => by cases q.1) (fun v h1 q => ?_)
  obtain ⟨q1, rfl⟩ := q
  cases q1
  by_cases h1 : rng w 0 3
  · rw [bI_t h1]
    refine x_if_eq_f 23 d_M_speed_7 (by decide) ((by decide)) ?_
    refine x_iload_n d_M_speed_10 rfl ?_
    refine x_iconst (v := nI 1) d_M_speed_11 (by decide) ?_
    refine x_iconst (v := nI 4) d_M_speed_12 (by decide) ?_
    refine x_callS (M' := m_M_in) (As := [_, _, _]) (fr' := 0) (wd' := 0) d_M_speed_13 pl_M_in rfl (Nat.le_of_ble_eq_true rfl) (by decide) (by decide) wc_M_in wi_M wl_M_67 ws_M_in (by decide) np_M_in (Nat.le_of_ble_eq_true rfl) (fun q hq => by cases hq) (c_M_in _ _ _) (fun k a h1 q => by cases q.1) (fun v h1 q => ?_)
    obtain ⟨q1, rfl⟩ := q
    cases q1
    by_cases h2 : rng s 1 4
    · obtain ⟨n, rfl, -, hn⟩ := rng_of (by decide) (by decide) h1
      have n3 : n < mlen 3 := by show n < 4; omega
      rw [bI_t h2]
      refine x_if_eq_f 23 d_M_speed_16 (by decide) ((by decide)) ?_
      refine x_iconst (v := nI 1) d_M_speed_19 (by decide) ?_
      refine x_goto (tgt := 24) d_M_speed_20 (by decide) ?_
      refine x_callV (M' := m_M_bad) (As := [_]) (fr' := 0) (wd' := 0) d_M_speed_24 hs.1 rfl pl_M_bad rfl (Nat.le_of_ble_eq_true rfl) (by decide) (by decide) wc_M_bad wi_M wl_M_71 wm_M_bad we_M_bad (by decide) np_M_bad (Nat.le_of_ble_eq_true rfl) (fun q hq => by cases hq) (c_M_bad hs _) (fun k a h1 q => by cases q.1) (fun v h1 q => ?_)
      obtain ⟨q1, rfl⟩ := q
      cases q1
      rw [bI_f (by decide)]
      refine x_if_eq_t (tgt := 31) d_M_speed_27 (by decide) ((by decide)) ?_
      refine x_aload_n d_M_speed_31 rfl ?_
      refine xm_ref (k := 3) (j := 2) d_M_speed_32 hs (by decide) rfl rfl (by decide) wf_M_16 rfl ?_
      refine x_iload_n d_M_speed_35 rfl ?_
      refine x_iload_n d_M_speed_36 rfl ?_
      refine xm_ast d_M_speed_37 hs (by decide) rfl (by first | decide | assumption | omega) ?_
      refine x_vret d_M_speed_38 rfl ?_
      exact ⟨rfl, by unfold spS; rw [if_pos ⟨h1, h2⟩, nI_clamp (by omega)]⟩
    · rw [bI_f h2]
      refine x_if_eq_t (tgt := 23) d_M_speed_16 (by decide) ((by decide)) ?_
      refine x_iconst (v := nI 0) d_M_speed_23 (by decide) ?_
      refine x_callV (M' := m_M_bad) (As := [_]) (fr' := 0) (wd' := 0) d_M_speed_24 hs.1 rfl pl_M_bad rfl (Nat.le_of_ble_eq_true rfl) (by decide) (by decide) wc_M_bad wi_M wl_M_71 wm_M_bad we_M_bad (by decide) np_M_bad (Nat.le_of_ble_eq_true rfl) (fun q hq => by cases hq) (c_M_bad hs _) (fun k a h1 q => by cases q.1) (fun v h1 q => ?_)
      obtain ⟨q1, rfl⟩ := q
      cases q1
      rw [bI_t nI_0]
      refine x_if_eq_f 31 d_M_speed_27 (by decide) ((by decide)) ?_
      refine x_vret d_M_speed_30 rfl ?_
      exact ⟨rfl, by unfold spS; rw [if_neg (fun q => h2 q.2)]⟩
  · rw [bI_f h1]
    refine x_if_eq_t (tgt := 23) d_M_speed_7 (by decide) ((by decide)) ?_
    refine x_iconst (v := nI 0) d_M_speed_23 (by decide) ?_
    refine x_callV (M' := m_M_bad) (As := [_]) (fr' := 0) (wd' := 0) d_M_speed_24 hs.1 rfl pl_M_bad rfl (Nat.le_of_ble_eq_true rfl) (by decide) (by decide) wc_M_bad wi_M wl_M_71 wm_M_bad we_M_bad (by decide) np_M_bad (Nat.le_of_ble_eq_true rfl) (fun q hq => by cases hq) (c_M_bad hs _) (fun k a h1 q => by cases q.1) (fun v h1 q => ?_)
    obtain ⟨q1, rfl⟩ := q
    cases q1
    rw [bI_t nI_0]
    refine x_if_eq_f 31 d_M_speed_27 (by decide) ((by decide)) ?_
    refine x_vret d_M_speed_30 rfl ?_
    exact ⟨rfl, by unfold spS; rw [if_neg (fun q => h1 q.1)]⟩
theorem c_M_filter (hs : MSh h0 y) (v : Int32) : xVM l G 0 0 m_M_filter [.ref y, .int v] (mset y S h0) (fun r h' => r = .inl none ∧ h' = mset y (xu (xu S 0 14 (nI 0)) 0 15 v) h0) := by
  unfold xVM
  refine x_aload_n d_M_filter_0 rfl ?_
  refine x_iconst (v := nI 0) d_M_filter_1 (by decide) ?_
  refine xm_put (j := 14) d_M_filter_2 hs rfl (by decide) wf_M_64 (Or.inl rfl) (by first | rfl | assumption) rfl (fun _ _ => rfl) ?_
  refine x_aload_n d_M_filter_5 rfl ?_
  refine x_iload_n d_M_filter_6 rfl ?_
  refine xm_put (j := 15) d_M_filter_7 hs rfl (by decide) wf_M_48 (Or.inl rfl) (by first | rfl | assumption) rfl (fun _ _ => rfl) ?_
  refine x_vret d_M_filter_10 rfl ?_
  exact ⟨rfl, rfl⟩
def stS (S : Nat → Nat → Int32) : Nat → Nat → Int32 := if S 0 26 = 0 then xu S 0 14 (nI 1) else gvS (xu (xu S 0 14 (nI 0)) 0 26 (nI 0)) (nI 0) 4
theorem c_M_stop (hs : MSh h0 y) : xVM l G 1 22 m_M_stop [.ref y] (mset y S h0) (fun r h' => r = .inl none ∧ h' = mset y (stS S) h0) := by
  unfold xVM
  refine x_aload_n d_M_stop_0 rfl ?_
  refine x_aload_n d_M_stop_1 rfl ?_
  refine xm_get (j := 26) d_M_stop_2 hs rfl (by decide) wf_M_75 (fun _ _ => rfl) ?_
  refine x_if_eq (tgt := 12) d_M_stop_5 (by decide) (fun c1 => ?_) (fun c1 => ?_)
  · refine x_iconst (v := nI 1) d_M_stop_12 (by decide) ?_
    refine xm_put (j := 14) d_M_stop_13 hs rfl (by decide) wf_M_64 (Or.inl rfl) (by first | rfl | assumption) rfl (fun _ _ => rfl) ?_
    refine x_aload_n d_M_stop_16 rfl ?_
    refine xm_get (j := 26) d_M_stop_17 hs rfl (by decide) wf_M_75 (fun _ _ => rfl) ?_
    rw [show xu S 0 14 (nI 1) 0 26 = S 0 26 from xu_j _ _ _ _ (by decide)]
    refine x_if_ne_f 24 d_M_stop_20 (by decide) (c1) ?_
    refine x_vret d_M_stop_23 rfl ?_
    exact ⟨rfl, by unfold stS; rw [if_pos c1]⟩
  · refine x_iconst (v := nI 0) d_M_stop_8 (by decide) ?_
    refine x_goto (tgt := 13) d_M_stop_9 (by decide) ?_
    refine xm_put (j := 14) d_M_stop_13 hs rfl (by decide) wf_M_64 (Or.inl rfl) (by first | rfl | assumption) rfl (fun _ _ => rfl) ?_
    refine x_aload_n d_M_stop_16 rfl ?_
    refine xm_get (j := 26) d_M_stop_17 hs rfl (by decide) wf_M_75 (fun _ _ => rfl) ?_
    rw [show xu S 0 14 (nI 0) 0 26 = S 0 26 from xu_j _ _ _ _ (by decide)]
    refine x_if_ne_t (tgt := 24) d_M_stop_20 (by decide) (c1) ?_
    refine x_aload_n d_M_stop_24 rfl ?_
    refine x_iconst (v := nI 0) d_M_stop_25 (by decide) ?_
    refine xm_put (j := 26) d_M_stop_26 hs rfl (by decide) wf_M_75 (Or.inl rfl) (by first | rfl | assumption) rfl (fun _ _ => rfl) ?_
    refine x_aload_n d_M_stop_29 rfl ?_
    refine x_iconst (v := nI 0) d_M_stop_30 (by decide) ?_
    refine x_callV (M' := m_M_giveUp) (As := [_]) (fr' := 0) (wd' := 0) d_M_stop_31 hs.1 rfl pl_M_giveUp rfl (Nat.le_of_ble_eq_true rfl) (by decide) (by decide) wc_M_giveUp wi_M wl_M_121 wm_M_giveUp we_M_giveUp (by decide) np_M_giveUp (Nat.le_of_ble_eq_true rfl) (fun q hq => by cases hq) (c_M_giveUp hs _) (fun k a h1 q => by cases q.1) (fun v h1 q => ?_)
    obtain ⟨q1, rfl⟩ := q
    cases q1
    refine x_vret d_M_stop_34 rfl ?_
    exact ⟨rfl, by unfold stS; rw [if_neg c1]⟩
def rnS (S : Nat → Nat → Int32) (c r np : Nat) (n : Int32) : (Nat → Nat → Int32) × Int32 :=
  if rng n 1 100 then (if S 0 26 = 0 then (xu (xu S 0 14 (nI 0)) 0 14 (nI 2), nI 0) else ((rnL (xu S 0 14 (nI 0)) c r np n.toNatClampNeg).1, if (rnL (xu S 0 14 (nI 0)) c r np n.toNatClampNeg).1 0 14 ≤ 0 then nI (rnL (xu S 0 14 (nI 0)) c r np n.toNatClampNeg).2 else nI 0)) else (xu S 0 14 (nI 1), nI 0)
theorem c_M_run (hs : MSh h0 y) {c r np : Nat} (n : Int32) (hT : ¬ S 0 26 = 0 → TI S c r np) : xVM l G 5 117 m_M_run [.ref y, .int n] (mset y S h0) (fun q h' => q = .inl (some (.int (rnS S c r np n).2)) ∧ h' = mset y (rnS S c r np n).1 h0) := by
  unfold xVM
  refine x_aload_n d_M_run_0 rfl ?_
  refine x_iload_n d_M_run_1 rfl ?_
  refine x_iconst (v := nI 1) d_M_run_2 (by decide) ?_
  refine x_bipush (v := nI 100) d_M_run_3 (by decide) ?_
  refine x_callS (M' := m_M_in) (As := [_, _, _]) (fr' := 0) (wd' := 0) d_M_run_5 pl_M_in rfl (Nat.le_of_ble_eq_true rfl) (by decide) (by decide) wc_M_in wi_M wl_M_67 ws_M_in (by decide) np_M_in (Nat.le_of_ble_eq_true rfl) (fun q hq => by cases hq) (c_M_in _ _ _) (fun k a h1 q => by cases q.1) (fun v h1 q => ?_)
  obtain ⟨q1, rfl⟩ := q
  cases q1
  by_cases h1 : rng n 1 100
  · rw [bI_t h1]
    refine x_callV (M' := m_M_bad) (As := [_]) (fr' := 0) (wd' := 0) d_M_run_8 hs.1 rfl pl_M_bad rfl (Nat.le_of_ble_eq_true rfl) (by decide) (by decide) wc_M_bad wi_M wl_M_71 wm_M_bad we_M_bad (by decide) np_M_bad (Nat.le_of_ble_eq_true rfl) (fun q hq => by cases hq) (c_M_bad hs _) (fun k a h1 q => by cases q.1) (fun v h1 q => ?_)
    obtain ⟨q1, rfl⟩ := q
    cases q1
    rw [bI_f (by decide)]
    refine x_if_eq_t (tgt := 16) d_M_run_11 (by decide) ((by decide)) ?_
    refine x_aload_n d_M_run_16 rfl ?_
    refine xm_get (j := 26) d_M_run_17 hs rfl (by decide) wf_M_75 (fun _ _ => rfl) ?_
    rw [show xu S 0 14 (nI 0) 0 26 = S 0 26 from xu_j _ _ _ _ (by decide)]
    by_cases j0 : S 0 26 = 0
    · skip
      refine x_if_ne_f 29 d_M_run_20 (by decide) (j0) ?_
      refine x_aload_n d_M_run_23 rfl ?_
      refine x_iconst (v := nI 2) d_M_run_24 (by decide) ?_
      refine x_callV (M' := m_M_fail) (As := [_]) (fr' := 0) (wd' := 0) d_M_run_25 hs.1 rfl pl_M_fail rfl (Nat.le_of_ble_eq_true rfl) (by decide) (by decide) wc_M_fail wi_M wl_M_82 wm_M_fail we_M_fail (by decide) np_M_fail (Nat.le_of_ble_eq_true rfl) (fun q hq => by cases hq) (c_M_fail hs _) (fun k a h1 q => by cases q.1) (fun v h1 q => ?_)
      obtain ⟨q1, rfl⟩ := q
      cases q1
      refine x_iret d_M_run_28 rfl (by first | rfl | assumption) ?_
      rw [show rnS S c r np n = (xu (xu S 0 14 (nI 0)) 0 14 (nI 2), nI 0) by unfold rnS; rw [if_pos h1, if_pos j0]]
      exact ⟨rfl, rfl⟩
    · have hT1 : TI (xu S 0 14 (nI 0)) c r np := (hT j0).keep (xu_k _ _ _ (by decide)) (xu_j _ _ _ _ (by decide)) (xu_j _ _ _ _ (by decide)) (xu_j _ _ _ _ (by decide)) (xu_j _ _ _ _ (by decide)) (fun v _ => Or.inr (Or.inl (by rw [xu_k _ _ _ (by decide)])))
      have e : rnS S c r np n = ((rnL (xu S 0 14 (nI 0)) c r np n.toNatClampNeg).1, if (rnL (xu S 0 14 (nI 0)) c r np n.toNatClampNeg).1 0 14 ≤ 0 then nI (rnL (xu S 0 14 (nI 0)) c r np n.toNatClampNeg).2 else nI 0) := by unfold rnS; rw [if_pos h1, if_neg j0]
      rw [e]
      obtain ⟨N, rfl, hN1, hN⟩ := rng_of (by decide) (by decide) h1
      rw [nI_clamp (by omega)]
      generalize xu S 0 14 (nI 0) = T at hT1
      have fin : ∀ k : Nat, k < 2 ^ 31 → xV l G 5 117 m_M_run 60 [(2, .int (nI k)), (0, .ref y), (1, .int (nI N))] [] (mset y (rnL T c r np N).1 h0) (fun q h' => q = .inl (some (.int (if (rnL T c r np N).1 0 14 ≤ 0 then nI k else nI 0))) ∧ h' = mset y (rnL T c r np N).1 h0) := by
        intro k hk
        refine x_aload_n d_M_run_60 rfl ?_
        refine xm_get (j := 14) d_M_run_61 hs rfl (by decide) wf_M_64 (fun _ _ => rfl) ?_
        refine x_if_le (tgt := 71) d_M_run_64 (by decide) (fun c9 => ?_) (fun c9 => ?_)
        · refine x_iload_n d_M_run_71 rfl ?_
          refine x_iret d_M_run_72 rfl (by first | rfl | assumption) ?_
          exact ⟨by rw [if_pos c9], rfl⟩
        · refine x_iconst (v := nI 0) d_M_run_67 (by decide) ?_
          refine x_goto (tgt := 72) d_M_run_68 (by decide) ?_
          refine x_iret d_M_run_72 rfl (by first | rfl | assumption) ?_
          exact ⟨by rw [if_neg c9], rfl⟩
      have lp : ∀ m k : Nat, k + m = N → (rnL T c r np k).2 = k → xV l G 5 117 m_M_run 31 [(2, .int (nI k)), (0, .ref y), (1, .int (nI N))] [] (mset y (rnL T c r np k).1 h0) (fun q h' => q = .inl (some (.int (if (rnL T c r np N).1 0 14 ≤ 0 then nI (rnL T c r np N).2 else nI 0))) ∧ h' = mset y (rnL T c r np N).1 h0) := by
        intro m
        induction m with
        | zero =>
          intro k hk he
          obtain rfl : k = N := by omega
          have f := fin k (by omega)
          rw [he]
          refine x_iload_n d_M_run_31 rfl ?_
          refine x_iload_n d_M_run_32 rfl ?_
          refine x_icmp_ge_t (tgt := 60) d_M_run_33 (by decide) ((nI_le (by omega) (by omega))) ?_
          exact f
        | succ m ih =>
          intro k hk he
          refine x_iload_n d_M_run_31 rfl ?_
          refine x_iload_n d_M_run_32 rfl ?_
          refine x_icmp_ge_f 60 d_M_run_33 (by decide) ((nI_ge (by omega) (by omega))) ?_
          refine x_aload_n d_M_run_36 rfl ?_
          refine xm_get (j := 26) d_M_run_37 hs rfl (by decide) wf_M_75 (fun _ _ => rfl) ?_
          by_cases j1 : (rnL T c r np k).1 0 26 = 0
          · have st := rnL_stop (Or.inl j1) (m + 1)
            rw [hk] at st
            have f := fin k (by omega)
            rw [st] at f ⊢
            rw [he]
            refine x_if_eq_t (tgt := 60) d_M_run_40 (by decide) (j1) ?_
            exact f
          · skip
            refine x_if_eq_f 60 d_M_run_40 (by decide) (j1) ?_
            refine x_aload_n d_M_run_43 rfl ?_
            refine xm_get (j := 14) d_M_run_44 hs rfl (by decide) wf_M_64 (fun _ _ => rfl) ?_
            by_cases t1 : (rnL T c r np k).1 0 14 = 0
            · have nx := ih (k + 1) (by omega) (by rw [rnL, if_neg (by rintro (q | q); exact j1 q; exact q t1)]; show (rnL T c r np k).2 + 1 = k + 1; rw [he])
              rw [rnL, if_neg (by rintro (q | q); exact j1 q; exact q t1)] at nx
              dsimp only at nx
              refine x_if_ne_f 60 d_M_run_47 (by decide) (t1) ?_
              refine x_aload_n d_M_run_50 rfl ?_
              refine x_callV (M' := m_M_tick) (As := []) (fr' := 4) (wd' := 94) d_M_run_51 hs.1 rfl pl_M_tick rfl (Nat.le_of_ble_eq_true rfl) (by decide) (by decide) wc_M_tick wi_M wl_M_182 wm_M_tick we_M_tick (by decide) np_M_tick (Nat.le_of_ble_eq_true rfl) (fun q hq => by cases hq) (c_M_tick hs (hT1.run k)) (fun k a h1 q => by cases q.1) (fun v h1 q => ?_)
              obtain ⟨q1, rfl⟩ := q
              cases q1
              first | refine x_incN d_M_run_54 rfl (by decide) ?_ | refine x_inc d_M_run_54 rfl (by decide) ?_
              refine x_goto (tgt := 31) d_M_run_57 (by decide) ?_
              refine xV.loc (nx) (by repeat (first | exact trivial | refine ⟨rfl, ?_⟩))
            · have st := rnL_stop (Or.inr t1) (m + 1)
              rw [hk] at st
              have f := fin k (by omega)
              rw [st] at f ⊢
              rw [he]
              refine x_if_ne_t (tgt := 60) d_M_run_47 (by decide) (t1) ?_
              exact f
      have this := lp N 0 (by omega) rfl
      rw [show rnL T c r np 0 = (T, 0) from rfl] at this
      refine x_if_ne_t (tgt := 29) d_M_run_20 (by decide) (j0) ?_
      refine x_iconst (v := nI 0) d_M_run_29 (by decide) ?_
      refine x_istore_n d_M_run_30 (by decide) ?_
      refine xV.loc (this) (by repeat (first | exact trivial | refine ⟨rfl, ?_⟩))
  · rw [bI_f h1]
    refine x_callV (M' := m_M_bad) (As := [_]) (fr' := 0) (wd' := 0) d_M_run_8 hs.1 rfl pl_M_bad rfl (Nat.le_of_ble_eq_true rfl) (by decide) (by decide) wc_M_bad wi_M wl_M_71 wm_M_bad we_M_bad (by decide) np_M_bad (Nat.le_of_ble_eq_true rfl) (fun q hq => by cases hq) (c_M_bad hs _) (fun k a h1 q => by cases q.1) (fun v h1 q => ?_)
    obtain ⟨q1, rfl⟩ := q
    cases q1
    rw [bI_t nI_0]
    refine x_if_eq_f 16 d_M_run_11 (by decide) ((by decide)) ?_
    refine x_iconst (v := nI 0) d_M_run_14 (by decide) ?_
    refine x_iret d_M_run_15 rfl (by first | rfl | assumption) ?_
    rw [show rnS S c r np n = (xu S 0 14 (nI 1), nI 0) by unfold rnS; rw [if_neg h1]]
    exact ⟨rfl, rfl⟩
def ctV (S : Nat → Nat → Int32) (w : Int32) : Int32 := if w = nI 0 then S 0 13 else if w = nI 1 then bI (¬ S 0 26 = 0) else if w = nI 2 then S 0 21 else if w = nI 3 then S 0 22 else if w = nI 4 then S 0 23 else if w = nI 5 then S 0 24 else if w = nI 6 then S 0 12 else -1
theorem c_M_count (hs : MSh h0 y) (w : Int32) : xVM l G 0 0 m_M_count [.ref y, .int w] (mset y S h0) (fun r h' => r = .inl (some (.int (ctV S w))) ∧ h' = mset y (xu S 0 14 (nI 0)) h0) := by
  unfold xVM
  refine x_aload_n d_M_count_0 rfl ?_
  refine x_iconst (v := nI 0) d_M_count_1 (by decide) ?_
  refine xm_put (j := 14) d_M_count_2 hs rfl (by decide) wf_M_64 (Or.inl rfl) (by first | rfl | assumption) rfl (fun _ _ => rfl) ?_
  refine x_iload_n d_M_count_5 rfl ?_
  by_cases m0 : w = nI 0
  · subst m0
    refine x_swIn (tgt := 48) d_M_count_6 (by decide) (by decide) rfl (by decide) ?_
    refine x_aload_n d_M_count_48 rfl ?_
    refine xm_get (j := 13) d_M_count_49 hs rfl (by decide) wf_M_79 (fun _ _ => rfl) ?_
    refine x_iret d_M_count_52 rfl (by first | rfl | assumption) ?_
    exact ⟨by rw [xu_j _ _ _ _ (by decide)]; rfl, rfl⟩
  by_cases m1 : w = nI 1
  · subst m1
    refine x_swIn (tgt := 53) d_M_count_6 (by decide) (by decide) rfl (by decide) ?_
    refine x_aload_n d_M_count_53 rfl ?_
    refine xm_get (j := 26) d_M_count_54 hs rfl (by decide) wf_M_75 (fun _ _ => rfl) ?_
    rw [xu_j _ _ _ _ (by decide)]
    refine x_if_eq (tgt := 64) d_M_count_57 (by decide) (fun c1 => ?_) (fun c1 => ?_)
    · refine x_iconst (v := nI 0) d_M_count_64 (by decide) ?_
      refine x_iret d_M_count_65 rfl (by first | rfl | assumption) ?_
      exact ⟨by rw [show ctV S (nI 1) = bI (¬ S 0 26 = 0) from rfl, bI_f (fun q => q c1)], rfl⟩
    · refine x_iconst (v := nI 1) d_M_count_60 (by decide) ?_
      refine x_goto (tgt := 65) d_M_count_61 (by decide) ?_
      refine x_iret d_M_count_65 rfl (by first | rfl | assumption) ?_
      exact ⟨by rw [show ctV S (nI 1) = bI (¬ S 0 26 = 0) from rfl, bI_t c1], rfl⟩
  by_cases m2 : w = nI 2
  · subst m2
    refine x_swIn (tgt := 66) d_M_count_6 (by decide) (by decide) rfl (by decide) ?_
    refine x_aload_n d_M_count_66 rfl ?_
    refine xm_get (j := 21) d_M_count_67 hs rfl (by decide) wf_M_170 (fun _ _ => rfl) ?_
    refine x_iret d_M_count_70 rfl (by first | rfl | assumption) ?_
    exact ⟨by rw [xu_j _ _ _ _ (by decide)]; rfl, rfl⟩
  by_cases m3 : w = nI 3
  · subst m3
    refine x_swIn (tgt := 71) d_M_count_6 (by decide) (by decide) rfl (by decide) ?_
    refine x_aload_n d_M_count_71 rfl ?_
    refine xm_get (j := 22) d_M_count_72 hs rfl (by decide) wf_M_164 (fun _ _ => rfl) ?_
    refine x_iret d_M_count_75 rfl (by first | rfl | assumption) ?_
    exact ⟨by rw [xu_j _ _ _ _ (by decide)]; rfl, rfl⟩
  by_cases m4 : w = nI 4
  · subst m4
    refine x_swIn (tgt := 76) d_M_count_6 (by decide) (by decide) rfl (by decide) ?_
    refine x_aload_n d_M_count_76 rfl ?_
    refine xm_get (j := 23) d_M_count_77 hs rfl (by decide) wf_M_154 (fun _ _ => rfl) ?_
    refine x_iret d_M_count_80 rfl (by first | rfl | assumption) ?_
    exact ⟨by rw [xu_j _ _ _ _ (by decide)]; rfl, rfl⟩
  by_cases m5 : w = nI 5
  · subst m5
    refine x_swIn (tgt := 81) d_M_count_6 (by decide) (by decide) rfl (by decide) ?_
    refine x_aload_n d_M_count_81 rfl ?_
    refine xm_get (j := 24) d_M_count_82 hs rfl (by decide) wf_M_118 (fun _ _ => rfl) ?_
    refine x_iret d_M_count_85 rfl (by first | rfl | assumption) ?_
    exact ⟨by rw [xu_j _ _ _ _ (by decide)]; rfl, rfl⟩
  by_cases m6 : w = nI 6
  · subst m6
    refine x_swIn (tgt := 86) d_M_count_6 (by decide) (by decide) rfl (by decide) ?_
    refine x_aload_n d_M_count_86 rfl ?_
    refine xm_get (j := 12) d_M_count_87 hs rfl (by decide) wf_M_86 (fun _ _ => rfl) ?_
    refine x_iret d_M_count_90 rfl (by first | rfl | assumption) ?_
    exact ⟨by rw [xu_j _ _ _ _ (by decide)]; rfl, rfl⟩
  · have t0 := toInt_ne (by omega) m0
    have t1 := toInt_ne (by omega) m1
    have t2 := toInt_ne (by omega) m2
    have t3 := toInt_ne (by omega) m3
    have t4 := toInt_ne (by omega) m4
    have t5 := toInt_ne (by omega) m5
    have t6 := toInt_ne (by omega) m6
    refine x_swOut (tgt := 91) d_M_count_6 (by omega) (by decide) ?_
    refine x_iconst (v := (-1)) d_M_count_91 (by decide) ?_
    refine x_iret d_M_count_92 rfl (by first | rfl | assumption) ?_
    exact ⟨by rw [show ctV S w = -1 by unfold ctV; rw [if_neg m0, if_neg m1, if_neg m2, if_neg m3, if_neg m4, if_neg m5, if_neg m6]], rfl⟩
def owV (S : Nat → Nat → Int32) (w what : Int32) : Int32 := if rng w 0 3 ∧ rng what 0 3 then (if what = 0 then bI (¬ S 7 w.toNatClampNeg = 0) else if what = nI 1 then S 4 w.toNatClampNeg else if what = nI 2 then S 5 w.toNatClampNeg else S 6 w.toNatClampNeg) else nI 0
theorem c_M_ofWorker (hs : MSh h0 y) (w s : Int32) : xVM l G 1 22 m_M_ofWorker [.ref y, .int w, .int s] (mset y S h0) (fun r h' => r = .inl (some (.int (owV S w s))) ∧ h' = mset y (xu S 0 14 (bI (¬ (rng w 0 3 ∧ rng s 0 3)))) h0) := by
  unfold xVM
  refine x_aload_n d_M_ofWorker_0 rfl ?_
  refine x_iload_n d_M_ofWorker_1 rfl ?_
  refine x_iconst (v := nI 0) d_M_ofWorker_2 (by decide) ?_
  refine x_iconst (v := nI 3) d_M_ofWorker_3 (by decide) ?_
  refine x_callS (M' := m_M_in) (As := [_, _, _]) (fr' := 0) (wd' := 0) d_M_ofWorker_4 pl_M_in rfl (Nat.le_of_ble_eq_true rfl) (by decide) (by decide) wc_M_in wi_M wl_M_67 ws_M_in (by decide) np_M_in (Nat.le_of_ble_eq_true rfl) (fun q hq => by cases hq) (c_M_in _ _ _) (fun k a h1 q => by cases q.1) (fun v h1 q => ?_)
  obtain ⟨q1, rfl⟩ := q
  cases q1
  by_cases h1 : rng w 0 3
  · rw [bI_t h1]
    refine x_if_eq_f 23 d_M_ofWorker_7 (by decide) ((by decide)) ?_
    refine x_iload_n d_M_ofWorker_10 rfl ?_
    refine x_iconst (v := nI 0) d_M_ofWorker_11 (by decide) ?_
    refine x_iconst (v := nI 3) d_M_ofWorker_12 (by decide) ?_
    refine x_callS (M' := m_M_in) (As := [_, _, _]) (fr' := 0) (wd' := 0) d_M_ofWorker_13 pl_M_in rfl (Nat.le_of_ble_eq_true rfl) (by decide) (by decide) wc_M_in wi_M wl_M_67 ws_M_in (by decide) np_M_in (Nat.le_of_ble_eq_true rfl) (fun q hq => by cases hq) (c_M_in _ _ _) (fun k a h1 q => by cases q.1) (fun v h1 q => ?_)
    obtain ⟨q1, rfl⟩ := q
    cases q1
    by_cases h2 : rng s 0 3
    · obtain ⟨n, rfl, -, hn⟩ := rng_of (by decide) (by decide) h1
      have n4 : n < mlen 4 := by show n < 4; omega
      have n5 : n < mlen 5 := by show n < 4; omega
      have n6 : n < mlen 6 := by show n < 4; omega
      have n7 : n < mlen 7 := by show n < 4; omega
      have e : owV S (nI n) s = if s = 0 then bI (¬ S 7 n = 0) else if s = nI 1 then S 4 n else if s = nI 2 then S 5 n else S 6 n := by unfold owV; rw [if_pos ⟨h1, h2⟩, nI_clamp (by omega)]
      rw [e, bI_t h2, bI_f (p := ¬ (rng (nI n) 0 3 ∧ rng s 0 3)) (fun q => q ⟨h1, h2⟩)]
      refine x_if_eq_f 23 d_M_ofWorker_16 (by decide) ((by decide)) ?_
      refine x_iconst (v := nI 1) d_M_ofWorker_19 (by decide) ?_
      refine x_goto (tgt := 24) d_M_ofWorker_20 (by decide) ?_
      refine x_callV (M' := m_M_bad) (As := [_]) (fr' := 0) (wd' := 0) d_M_ofWorker_24 hs.1 rfl pl_M_bad rfl (Nat.le_of_ble_eq_true rfl) (by decide) (by decide) wc_M_bad wi_M wl_M_71 wm_M_bad we_M_bad (by decide) np_M_bad (Nat.le_of_ble_eq_true rfl) (fun q hq => by cases hq) (c_M_bad hs _) (fun k a h1 q => by cases q.1) (fun v h1 q => ?_)
      obtain ⟨q1, rfl⟩ := q
      cases q1
      rw [bI_f (by decide)]
      refine x_if_eq_t (tgt := 32) d_M_ofWorker_27 (by decide) ((by decide)) ?_
      refine x_iload_n d_M_ofWorker_32 rfl ?_
      by_cases s0 : s = 0
      · rw [if_pos s0]
        refine x_if_ne_f 53 d_M_ofWorker_33 (by decide) (s0) ?_
        refine x_aload_n d_M_ofWorker_36 rfl ?_
        refine xm_ref (k := 7) (j := 6) d_M_ofWorker_37 hs (by decide) rfl rfl (by decide) wf_M_28 rfl ?_
        refine x_iload_n d_M_ofWorker_40 rfl ?_
        refine xm_zld d_M_ofWorker_41 hs (by decide) rfl (by first | decide | assumption | omega) ?_
        rw [xu_k _ _ _ (by decide)]
        refine x_if_eq (tgt := 49) d_M_ofWorker_42 (by decide) (fun c1 => ?_) (fun c1 => ?_)
        · refine x_iconst (v := nI 0) d_M_ofWorker_49 (by decide) ?_
          refine x_goto (tgt := 87) d_M_ofWorker_50 (by decide) ?_
          refine x_iret d_M_ofWorker_87 rfl (by first | rfl | assumption) ?_
          exact ⟨by rw [bI_f (fun q => q c1)], rfl⟩
        · refine x_iconst (v := nI 1) d_M_ofWorker_45 (by decide) ?_
          refine x_goto (tgt := 87) d_M_ofWorker_46 (by decide) ?_
          refine x_iret d_M_ofWorker_87 rfl (by first | rfl | assumption) ?_
          exact ⟨by rw [bI_t c1], rfl⟩
      · rw [if_neg s0]
        refine x_if_ne_t (tgt := 53) d_M_ofWorker_33 (by decide) (s0) ?_
        refine x_iload_n d_M_ofWorker_53 rfl ?_
        refine x_iconst (v := nI 1) d_M_ofWorker_54 (by decide) ?_
        by_cases s1 : s = nI 1
        · rw [if_pos s1]
          refine x_icmp_ne_f 67 d_M_ofWorker_55 (by decide) (s1) ?_
          refine x_aload_n d_M_ofWorker_58 rfl ?_
          refine xm_ref (k := 4) (j := 3) d_M_ofWorker_59 hs (by decide) rfl rfl (by decide) wf_M_19 rfl ?_
          refine x_iload_n d_M_ofWorker_62 rfl ?_
          refine xm_ald d_M_ofWorker_63 hs (by decide) rfl (by first | decide | assumption | omega) ?_
          refine x_goto (tgt := 87) d_M_ofWorker_64 (by decide) ?_
          refine x_iret d_M_ofWorker_87 rfl (by first | rfl | assumption) ?_
          exact ⟨by rw [xu_k _ _ _ (by decide)], rfl⟩
        · rw [if_neg s1]
          refine x_icmp_ne_t (tgt := 67) d_M_ofWorker_55 (by decide) (s1) ?_
          refine x_iload_n d_M_ofWorker_67 rfl ?_
          refine x_iconst (v := nI 2) d_M_ofWorker_68 (by decide) ?_
          by_cases s2 : s = nI 2
          · rw [if_pos s2]
            refine x_icmp_ne_f 81 d_M_ofWorker_69 (by decide) (s2) ?_
            refine x_aload_n d_M_ofWorker_72 rfl ?_
            refine xm_ref (k := 5) (j := 4) d_M_ofWorker_73 hs (by decide) rfl rfl (by decide) wf_M_22 rfl ?_
            refine x_iload_n d_M_ofWorker_76 rfl ?_
            refine xm_ald d_M_ofWorker_77 hs (by decide) rfl (by first | decide | assumption | omega) ?_
            refine x_goto (tgt := 87) d_M_ofWorker_78 (by decide) ?_
            refine x_iret d_M_ofWorker_87 rfl (by first | rfl | assumption) ?_
            exact ⟨by rw [xu_k _ _ _ (by decide)], rfl⟩
          · rw [if_neg s2]
            refine x_icmp_ne_t (tgt := 81) d_M_ofWorker_69 (by decide) (s2) ?_
            refine x_aload_n d_M_ofWorker_81 rfl ?_
            refine xm_ref (k := 6) (j := 5) d_M_ofWorker_82 hs (by decide) rfl rfl (by decide) wf_M_25 rfl ?_
            refine x_iload_n d_M_ofWorker_85 rfl ?_
            refine xm_ald d_M_ofWorker_86 hs (by decide) rfl (by first | decide | assumption | omega) ?_
            refine x_iret d_M_ofWorker_87 rfl (by first | rfl | assumption) ?_
            exact ⟨by rw [xu_k _ _ _ (by decide)], rfl⟩
    · rw [bI_f h2]
      refine x_if_eq_t (tgt := 23) d_M_ofWorker_16 (by decide) ((by decide)) ?_
      refine x_iconst (v := nI 0) d_M_ofWorker_23 (by decide) ?_
      refine x_callV (M' := m_M_bad) (As := [_]) (fr' := 0) (wd' := 0) d_M_ofWorker_24 hs.1 rfl pl_M_bad rfl (Nat.le_of_ble_eq_true rfl) (by decide) (by decide) wc_M_bad wi_M wl_M_71 wm_M_bad we_M_bad (by decide) np_M_bad (Nat.le_of_ble_eq_true rfl) (fun q hq => by cases hq) (c_M_bad hs _) (fun k a h1 q => by cases q.1) (fun v h1 q => ?_)
      obtain ⟨q1, rfl⟩ := q
      cases q1
      rw [bI_t nI_0]
      refine x_if_eq_f 32 d_M_ofWorker_27 (by decide) ((by decide)) ?_
      refine x_iconst (v := nI 0) d_M_ofWorker_30 (by decide) ?_
      refine x_iret d_M_ofWorker_31 rfl (by first | rfl | assumption) ?_
      exact ⟨by rw [show owV S w s = nI 0 from if_neg (fun q => h2 q.2)], by rw [bI_t (p := ¬ (rng w 0 3 ∧ rng s 0 3)) (fun q => h2 q.2)]⟩
  · rw [bI_f h1]
    refine x_if_eq_t (tgt := 23) d_M_ofWorker_7 (by decide) ((by decide)) ?_
    refine x_iconst (v := nI 0) d_M_ofWorker_23 (by decide) ?_
    refine x_callV (M' := m_M_bad) (As := [_]) (fr' := 0) (wd' := 0) d_M_ofWorker_24 hs.1 rfl pl_M_bad rfl (Nat.le_of_ble_eq_true rfl) (by decide) (by decide) wc_M_bad wi_M wl_M_71 wm_M_bad we_M_bad (by decide) np_M_bad (Nat.le_of_ble_eq_true rfl) (fun q hq => by cases hq) (c_M_bad hs _) (fun k a h1 q => by cases q.1) (fun v h1 q => ?_)
    obtain ⟨q1, rfl⟩ := q
    cases q1
    rw [bI_t nI_0]
    refine x_if_eq_f 32 d_M_ofWorker_27 (by decide) ((by decide)) ?_
    refine x_iconst (v := nI 0) d_M_ofWorker_30 (by decide) ?_
    refine x_iret d_M_ofWorker_31 rfl (by first | rfl | assumption) ?_
    exact ⟨by rw [show owV S w s = nI 0 from if_neg (fun q => h1 q.1)], by rw [bI_t (p := ¬ (rng w 0 3 ∧ rng s 0 3)) (fun q => h1 q.1)]⟩
end XM11
end
section
/-- map tasks done by w come to be not done -/
def loL (V : Nat → Nat → Int32) (w : Int32) : Nat → (Nat → Nat → Int32) × Bool
  | 0 => (V, false)
  | t + 1 => if (loL V w t).1 8 t = 0 ∨ ¬ (loL V w t).1 9 t = w then loL V w t else (xu (xu (loL V w t).1 8 t (nI 0)) 0 24 ((loL V w t).1 0 24 + nI 1), true)
theorem loL_keep {V : Nat → Nat → Int32} {w : Int32} {k j : Nat} (h8 : k ≠ 8) (h : ¬ (k = 0 ∧ j = 24)) : ∀ t, (loL V w t).1 k j = V k j
  | 0 => rfl
  | t + 1 => by
    have ih := loL_keep (V := V) (w := w) h8 h t
    rw [loL]
    split
    · exact ih
    · show xu (xu (loL V w t).1 8 t (nI 0)) 0 24 _ k j = _
      rw [show xu (xu (loL V w t).1 8 t (nI 0)) 0 24 ((loL V w t).1 0 24 + nI 1) k j = xu (loL V w t).1 8 t (nI 0) k j from if_neg h, xu_k _ _ _ h8]
      exact ih
def wo1 (S : Nat → Nat → Int32) (n : Nat) (up : Int32) : Nat → Nat → Int32 := xu (xu (xu (xu S 0 14 (nI 0)) 7 n up) 4 n (-1)) 5 n (nI 0)
def woS (S : Nat → Nat → Int32) (w up : Int32) (c : Nat) : Nat → Nat → Int32 :=
  if rng w 0 3 then (if S 7 w.toNatClampNeg = up then xu S 0 14 (nI 0) else if up = 0 then (if S 0 26 = 0 then wo1 S w.toNatClampNeg up else if (loL (wo1 S w.toNatClampNeg up) w c).2 = true then gvS (loL (wo1 S w.toNatClampNeg up) w c).1 (nI 1) 4 else (loL (wo1 S w.toNatClampNeg up) w c).1) else xu (xu S 0 14 (nI 0)) 7 w.toNatClampNeg up) else xu S 0 14 (nI 1)
section XM12
variable {l : Launch} {G : xG} {h0 : xH} {y : Nat} {S : Nat → Nat → Int32}
theorem c_M_worker (hs : MSh h0 y) (w up : Int32) {c : Nat} (hc : S 0 13 = nI c) (hc6 : c ≤ 6) (hup : narrow .boolean (.int up) = .int up) : xVM l G 1 22 m_M_worker [.ref y, .int w, .int up] (mset y S h0) (fun r h' => r = .inl none ∧ h' = mset y (woS S w up c) h0) := by
  unfold xVM
  refine x_aload_n d_M_worker_0 rfl ?_
  refine x_iload_n d_M_worker_1 rfl ?_
  refine x_iconst (v := nI 0) d_M_worker_2 (by decide) ?_
  refine x_iconst (v := nI 3) d_M_worker_3 (by decide) ?_
  refine x_callS (M' := m_M_in) (As := [_, _, _]) (fr' := 0) (wd' := 0) d_M_worker_4 pl_M_in rfl (Nat.le_of_ble_eq_true rfl) (by decide) (by decide) wc_M_in wi_M wl_M_67 ws_M_in (by decide) np_M_in (Nat.le_of_ble_eq_true rfl) (fun q hq => by cases hq) (c_M_in _ _ _) (fun k a h1 q => by cases q.1) (fun v h1 q => ?_)
  obtain ⟨q1, rfl⟩ := q
  cases q1
  by_cases h1 : rng w 0 3
  · obtain ⟨n, rfl, -, hn⟩ := rng_of (by decide) (by decide) h1
    have n4 : n < mlen 4 := by show n < 4; omega
    have n5 : n < mlen 5 := by show n < 4; omega
    have n7 : n < mlen 7 := by show n < 4; omega
    have cl : (nI n).toNatClampNeg = n := nI_clamp (by omega)
    rw [bI_t h1]
    refine x_callV (M' := m_M_bad) (As := [_]) (fr' := 0) (wd' := 0) d_M_worker_7 hs.1 rfl pl_M_bad rfl (Nat.le_of_ble_eq_true rfl) (by decide) (by decide) wc_M_bad wi_M wl_M_71 wm_M_bad we_M_bad (by decide) np_M_bad (Nat.le_of_ble_eq_true rfl) (fun q hq => by cases hq) (c_M_bad hs _) (fun k a h1 q => by cases q.1) (fun v h1 q => ?_)
    obtain ⟨q1, rfl⟩ := q
    cases q1
    rw [bI_f (by decide)]
    refine x_if_ne_f 23 d_M_worker_10 (by decide) ((by decide)) ?_
    refine x_aload_n d_M_worker_13 rfl ?_
    refine xm_ref (k := 7) (j := 6) d_M_worker_14 hs (by decide) rfl rfl (by decide) wf_M_28 rfl ?_
    refine x_iload_n d_M_worker_17 rfl ?_
    refine xm_zld d_M_worker_18 hs (by decide) rfl (by first | decide | assumption | omega) ?_
    refine x_iload_n d_M_worker_19 rfl ?_
    rw [xu_k _ _ _ (by decide)]
    by_cases e1 : S 7 n = up
    · skip
      refine x_icmp_ne_f 24 d_M_worker_20 (by decide) (e1) ?_
      refine x_vret d_M_worker_23 rfl ?_
      exact ⟨rfl, by unfold woS; rw [if_pos h1, cl, if_pos e1]⟩
    · skip
      refine x_icmp_ne_t (tgt := 24) d_M_worker_20 (by decide) (e1) ?_
      refine x_aload_n d_M_worker_24 rfl ?_
      refine xm_ref (k := 7) (j := 6) d_M_worker_25 hs (by decide) rfl rfl (by decide) wf_M_28 rfl ?_
      refine x_iload_n d_M_worker_28 rfl ?_
      refine x_iload_n d_M_worker_29 rfl ?_
      refine xm_zst d_M_worker_30 hs (by decide) rfl (by first | decide | assumption | omega) (hup) ?_
      refine x_iload_n d_M_worker_31 rfl ?_
      by_cases u0 : up = 0
      · skip
        refine x_if_eq_t (tgt := 36) d_M_worker_32 (by decide) (u0) ?_
        refine x_aload_n d_M_worker_36 rfl ?_
        refine xm_ref (k := 4) (j := 3) d_M_worker_37 hs (by decide) rfl rfl (by decide) wf_M_19 rfl ?_
        refine x_iload_n d_M_worker_40 rfl ?_
        refine x_iconst (v := (-1)) d_M_worker_41 (by decide) ?_
        refine xm_ast d_M_worker_42 hs (by decide) rfl (by first | decide | assumption | omega) ?_
        refine x_aload_n d_M_worker_43 rfl ?_
        refine xm_ref (k := 5) (j := 4) d_M_worker_44 hs (by decide) rfl rfl (by decide) wf_M_22 rfl ?_
        refine x_iload_n d_M_worker_47 rfl ?_
        refine x_iconst (v := nI 0) d_M_worker_48 (by decide) ?_
        refine xm_ast d_M_worker_49 hs (by decide) rfl (by first | decide | assumption | omega) ?_
        refine x_iconst (v := nI 0) d_M_worker_50 (by decide) ?_
        refine x_istore_n d_M_worker_51 (by decide) ?_
        refine x_iconst (v := nI 0) d_M_worker_52 (by decide) ?_
        refine x_istore d_M_worker_53 (by decide) ?_
        rw [show xu (xu (xu (xu S 0 14 (nI 0)) 7 n up) 4 n (-1)) 5 n (nI 0) = wo1 S n up from rfl]
        have k13 : wo1 S n up 0 13 = nI c := by unfold wo1; rw [xu_k _ _ _ (by decide), xu_k _ _ _ (by decide), xu_k _ _ _ (by decide), xu_j _ _ _ _ (by decide)]; exact hc
        have k26 : wo1 S n up 0 26 = S 0 26 := by unfold wo1; rw [xu_k _ _ _ (by decide), xu_k _ _ _ (by decide), xu_k _ _ _ (by decide), xu_j _ _ _ _ (by decide)]
        have e2 : woS S (nI n) up c = if S 0 26 = 0 then wo1 S n up else if (loL (wo1 S n up) (nI n) c).2 = true then gvS (loL (wo1 S n up) (nI n) c).1 (nI 1) 4 else (loL (wo1 S n up) (nI n) c).1 := by unfold woS; rw [if_pos h1, cl, if_neg e1, if_pos u0]
        rw [e2]
        generalize wo1 S n up = V at k13 k26
        by_cases j0 : S 0 26 = 0
        · rw [if_pos j0]
          refine x_iload d_M_worker_55 rfl ?_
          refine x_aload_n d_M_worker_57 rfl ?_
          refine xm_get (j := 13) d_M_worker_58 hs rfl (by decide) wf_M_79 (fun _ _ => rfl) ?_
          by_cases c0 : c = 0
          · skip
            rw [k13]
            refine x_icmp_ge_t (tgt := 121) d_M_worker_61 (by decide) ((nI_le (by omega) (by omega))) ?_
            refine x_iload_n d_M_worker_121 rfl ?_
            refine x_if_eq_t (tgt := 130) d_M_worker_122 (by decide) (rfl) ?_
            refine x_vret d_M_worker_130 rfl ?_
            exact ⟨rfl, rfl⟩
          · rw [k13]
            refine x_icmp_ge_f 121 d_M_worker_61 (by decide) ((nI_ge (by omega) (by omega))) ?_
            refine x_aload_n d_M_worker_64 rfl ?_
            refine xm_get (j := 26) d_M_worker_65 hs rfl (by decide) wf_M_75 (fun _ _ => rfl) ?_
            rw [k26]
            refine x_if_eq_t (tgt := 121) d_M_worker_68 (by decide) (j0) ?_
            refine x_iload_n d_M_worker_121 rfl ?_
            refine x_if_eq_t (tgt := 130) d_M_worker_122 (by decide) (rfl) ?_
            refine x_vret d_M_worker_130 rfl ?_
            exact ⟨rfl, rfl⟩
        · rw [if_neg j0]
          have lp : ∀ m t : Nat, t + m = c → xV l G 1 22 m_M_worker 55 [(4, .int (nI t)), (3, .int (bI ((loL V (nI n) t).2 = true))), (0, .ref y), (1, .int (nI n)), (2, .int up)] [] (mset y (loL V (nI n) t).1 h0) (fun r h' => r = .inl none ∧ h' = mset y (if (loL V (nI n) c).2 = true then gvS (loL V (nI n) c).1 (nI 1) 4 else (loL V (nI n) c).1) h0) := by
            intro m
            induction m with
            | zero =>
              intro t ht
              obtain rfl : t = c := by omega
              refine x_iload d_M_worker_55 rfl ?_
              refine x_aload_n d_M_worker_57 rfl ?_
              refine xm_get (j := 13) d_M_worker_58 hs rfl (by decide) wf_M_79 (fun _ _ => rfl) ?_
              rw [loL_keep (by decide) (by decide), k13]
              refine x_icmp_ge_t (tgt := 121) d_M_worker_61 (by decide) ((nI_le (by omega) (by omega))) ?_
              refine x_iload_n d_M_worker_121 rfl ?_
              by_cases lo : (loL V (nI n) t).2 = true
              · rw [bI_t lo, if_pos lo]
                refine x_if_eq_f 130 d_M_worker_122 (by decide) ((by decide)) ?_
                refine x_aload_n d_M_worker_125 rfl ?_
                refine x_iconst (v := nI 1) d_M_worker_126 (by decide) ?_
                refine x_callV (M' := m_M_giveUp) (As := [_]) (fr' := 0) (wd' := 0) d_M_worker_127 hs.1 rfl pl_M_giveUp rfl (Nat.le_of_ble_eq_true rfl) (by decide) (by decide) wc_M_giveUp wi_M wl_M_121 wm_M_giveUp we_M_giveUp (by decide) np_M_giveUp (Nat.le_of_ble_eq_true rfl) (fun q hq => by cases hq) (c_M_giveUp hs _) (fun k a h1 q => by cases q.1) (fun v h1 q => ?_)
                obtain ⟨q1, rfl⟩ := q
                cases q1
                refine x_vret d_M_worker_130 rfl ?_
                exact ⟨rfl, rfl⟩
              · rw [bI_f lo, if_neg lo]
                refine x_if_eq_t (tgt := 130) d_M_worker_122 (by decide) ((by decide)) ?_
                refine x_vret d_M_worker_130 rfl ?_
                exact ⟨rfl, rfl⟩
            | succ m ih =>
              intro t ht
              have t8 : t < mlen 8 := by show t < 11; omega
              have t9 : t < mlen 9 := by show t < 11; omega
              have nx := ih (t + 1) (by omega)
              refine x_iload d_M_worker_55 rfl ?_
              refine x_aload_n d_M_worker_57 rfl ?_
              refine xm_get (j := 13) d_M_worker_58 hs rfl (by decide) wf_M_79 (fun _ _ => rfl) ?_
              rw [loL_keep (by decide) (by decide), k13]
              refine x_icmp_ge_f 121 d_M_worker_61 (by decide) ((nI_ge (by omega) (by omega))) ?_
              refine x_aload_n d_M_worker_64 rfl ?_
              refine xm_get (j := 26) d_M_worker_65 hs rfl (by decide) wf_M_75 (fun _ _ => rfl) ?_
              rw [loL_keep (by decide) (by decide), k26]
              refine x_if_eq_f 121 d_M_worker_68 (by decide) (j0) ?_
              refine x_aload_n d_M_worker_71 rfl ?_
              refine xm_ref (k := 8) (j := 7) d_M_worker_72 hs (by decide) rfl rfl (by decide) wf_M_32 rfl ?_
              refine x_iload d_M_worker_75 rfl ?_
              refine xm_zld d_M_worker_77 hs (by decide) rfl (by first | decide | assumption | omega) ?_
              by_cases d0 : (loL V (nI n) t).1 8 t = 0
              · rw [loL, if_pos (Or.inl d0)] at nx
                refine x_if_eq_t (tgt := 115) d_M_worker_78 (by decide) (d0) ?_
                first | refine x_incN d_M_worker_115 rfl (by decide) ?_ | refine x_inc d_M_worker_115 rfl (by decide) ?_
                refine x_goto (tgt := 55) d_M_worker_118 (by decide) ?_
                refine xV.loc (nx) (by repeat (first | exact trivial | refine ⟨rfl, ?_⟩))
              · skip
                refine x_if_eq_f 115 d_M_worker_78 (by decide) (d0) ?_
                refine x_aload_n d_M_worker_81 rfl ?_
                refine xm_ref (k := 9) (j := 8) d_M_worker_82 hs (by decide) rfl rfl (by decide) wf_M_35 rfl ?_
                refine x_iload d_M_worker_85 rfl ?_
                refine xm_ald d_M_worker_87 hs (by decide) rfl (by first | decide | assumption | omega) ?_
                refine x_iload_n d_M_worker_88 rfl ?_
                by_cases d1 : (loL V (nI n) t).1 9 t = nI n
                · rw [loL, if_neg (by rintro (q | q); exact d0 q; exact q d1)] at nx
                  dsimp only at nx
                  rw [bI_t rfl] at nx
                  refine x_icmp_eq_t (tgt := 95) d_M_worker_89 (by decide) (d1) ?_
                  refine x_aload_n d_M_worker_95 rfl ?_
                  refine xm_ref (k := 8) (j := 7) d_M_worker_96 hs (by decide) rfl rfl (by decide) wf_M_32 rfl ?_
                  refine x_iload d_M_worker_99 rfl ?_
                  refine x_iconst (v := nI 0) d_M_worker_101 (by decide) ?_
                  refine xm_zst d_M_worker_102 hs (by decide) rfl (by first | decide | assumption | omega) (by first | rfl | assumption) ?_
                  refine x_aload_n d_M_worker_103 rfl ?_
                  refine x_dup d_M_worker_104 rfl ?_
                  refine xm_get (j := 24) d_M_worker_105 hs rfl (by decide) wf_M_118 (fun _ _ => rfl) ?_
                  rw [xu_k _ _ _ (by decide)]
                  refine x_iconst (v := nI 1) d_M_worker_108 (by decide) ?_
                  refine x_iadd d_M_worker_109 ?_
                  refine xm_put (j := 24) d_M_worker_110 hs rfl (by decide) wf_M_118 (Or.inl rfl) (by first | rfl | assumption) rfl (fun _ _ => rfl) ?_
                  refine x_iconst (v := nI 1) d_M_worker_113 (by decide) ?_
                  refine x_istore_n d_M_worker_114 (by decide) ?_
                  first | refine x_incN d_M_worker_115 rfl (by decide) ?_ | refine x_inc d_M_worker_115 rfl (by decide) ?_
                  refine x_goto (tgt := 55) d_M_worker_118 (by decide) ?_
                  refine xV.loc (nx) (by repeat (first | exact trivial | refine ⟨rfl, ?_⟩))
                · rw [loL, if_pos (Or.inr d1)] at nx
                  refine x_icmp_eq_f 95 d_M_worker_89 (by decide) (d1) ?_
                  refine x_goto (tgt := 115) d_M_worker_92 (by decide) ?_
                  first | refine x_incN d_M_worker_115 rfl (by decide) ?_ | refine x_inc d_M_worker_115 rfl (by decide) ?_
                  refine x_goto (tgt := 55) d_M_worker_118 (by decide) ?_
                  refine xV.loc (nx) (by repeat (first | exact trivial | refine ⟨rfl, ?_⟩))
          have this := lp c 0 (by omega)
          rw [show loL V (nI n) 0 = (V, false) from rfl, bI_f (fun q => Bool.false_ne_true q)] at this
          dsimp only at this
          refine xV.loc (this) (by repeat (first | exact trivial | refine ⟨rfl, ?_⟩))
      · skip
        refine x_if_eq_f 36 d_M_worker_32 (by decide) (u0) ?_
        refine x_vret d_M_worker_35 rfl ?_
        exact ⟨rfl, by unfold woS; rw [if_pos h1, cl, if_neg e1, if_neg u0]⟩
  · rw [bI_f h1]
    refine x_callV (M' := m_M_bad) (As := [_]) (fr' := 0) (wd' := 0) d_M_worker_7 hs.1 rfl pl_M_bad rfl (Nat.le_of_ble_eq_true rfl) (by decide) (by decide) wc_M_bad wi_M wl_M_71 wm_M_bad we_M_bad (by decide) np_M_bad (Nat.le_of_ble_eq_true rfl) (fun q hq => by cases hq) (c_M_bad hs _) (fun k a h1 q => by cases q.1) (fun v h1 q => ?_)
    obtain ⟨q1, rfl⟩ := q
    cases q1
    rw [bI_t nI_0]
    refine x_if_ne_t (tgt := 23) d_M_worker_10 (by decide) ((by decide)) ?_
    refine x_vret d_M_worker_23 rfl ?_
    exact ⟨rfl, by unfold woS; rw [if_neg h1]⟩
def bval (b : Int64) (f : Int32) (i : Nat) : Int32 := (b >>> ((nI 8 * nI i).toInt64 &&& 63)).toInt32.toInt8.toInt32 * f
def ckL (S : Nat → Nat → Int32) (c : Nat) (b : Int64) (f : Int32) (n : Nat) : Nat → Nat → Int32 := fun k j => if k = 2 ∧ c * 6 ≤ j ∧ j < c * 6 + n then bval b f (j - c * 6) else S k j
theorem ckL_0 (S : Nat → Nat → Int32) (c : Nat) (b : Int64) (f : Int32) : ckL S c b f 0 = S := by
  funext k j; exact if_neg (by omega)
theorem ckL_k {S : Nat → Nat → Int32} {c : Nat} {b : Int64} {f : Int32} {n k : Nat} (h : k ≠ 2) : ckL S c b f n k = S k := by
  funext j; exact if_neg (by omega)
theorem ckL_s {S : Nat → Nat → Int32} {c : Nat} {b : Int64} {f : Int32} {n : Nat} : xu (ckL S c b f n) 2 (c * 6 + n) (bval b f n) = ckL S c b f (n + 1) := by
  funext k j
  by_cases h : k = 2 ∧ j = c * 6 + n
  · obtain ⟨rfl, rfl⟩ := h
    rw [xu_s]
    unfold ckL
    rw [if_pos (by omega), Nat.add_sub_cancel_left]
  · rw [show xu (ckL S c b f n) 2 (c * 6 + n) (bval b f n) k j = ckL S c b f n k j from if_neg h]
    have : (k = 2 ∧ c * 6 ≤ j ∧ j < c * 6 + n) ↔ (k = 2 ∧ c * 6 ≤ j ∧ j < c * 6 + (n + 1)) := by omega
    simp only [ckL, this]
abbrev okf (n f : Int32) : Prop := rng n 1 6 ∧ (-1000 ≤ f ∧ f ≤ nI 1000)
def ckS (S : Nat → Nat → Int32) (c : Nat) (b : Int64) (n f : Int32) : (Nat → Nat → Int32) × Int32 :=
  if okf n f then (if ¬ S 0 26 = 0 ∨ c = 6 then (xu (xu S 0 14 (nI 0)) 0 14 (nI 2), nI 0) else (xu (xu (ckL (xu S 0 14 (nI 0)) c b f n.toNatClampNeg) 1 c n) 0 13 (nI (c + 1)), nI c)) else (xu S 0 14 (nI 1), nI 0)
theorem c_M_chunk (hs : MSh h0 y) (b : Int64) (n f : Int32) {c : Nat} (hc : S 0 13 = nI c) (hc6 : c ≤ 6) : xVM l G 1 22 m_M_chunk [.ref y, .long b, .int n, .int f] (mset y S h0) (fun r h' => r = .inl (some (.int (ckS S c b n f).2)) ∧ h' = mset y (ckS S c b n f).1 h0) := by
  have bad : ¬ okf n f → ckS S c b n f = (xu S 0 14 (nI 1), nI 0) := fun q => if_neg q
  unfold xVM
  refine x_aload_n d_M_chunk_0 rfl ?_
  refine x_iload_n d_M_chunk_1 rfl ?_
  refine x_iconst (v := nI 1) d_M_chunk_2 (by decide) ?_
  refine x_bipush (v := nI 6) d_M_chunk_3 (by decide) ?_
  refine x_callS (M' := m_M_in) (As := [_, _, _]) (fr' := 0) (wd' := 0) d_M_chunk_5 pl_M_in rfl (Nat.le_of_ble_eq_true rfl) (by decide) (by decide) wc_M_in wi_M wl_M_67 ws_M_in (by decide) np_M_in (Nat.le_of_ble_eq_true rfl) (fun q hq => by cases hq) (c_M_in _ _ _) (fun k a h1 q => by cases q.1) (fun v h1 q => ?_)
  obtain ⟨q1, rfl⟩ := q
  cases q1
  by_cases h1 : rng n 1 6
  · rw [bI_t h1]
    refine x_if_eq_f 29 d_M_chunk_8 (by decide) ((by decide)) ?_
    refine x_iload d_M_chunk_11 rfl ?_
    refine x_sipush (v := (-1000)) d_M_chunk_13 (by decide) ?_
    refine x_sipush (v := nI 1000) d_M_chunk_16 (by decide) ?_
    refine x_callS (M' := m_M_in) (As := [_, _, _]) (fr' := 0) (wd' := 0) d_M_chunk_19 pl_M_in rfl (Nat.le_of_ble_eq_true rfl) (by decide) (by decide) wc_M_in wi_M wl_M_67 ws_M_in (by decide) np_M_in (Nat.le_of_ble_eq_true rfl) (fun q hq => by cases hq) (c_M_in _ _ _) (fun k a h1 q => by cases q.1) (fun v h1 q => ?_)
    obtain ⟨q1, rfl⟩ := q
    cases q1
    by_cases h2 : -1000 ≤ f ∧ f ≤ nI 1000
    · have e : ckS S c b n f = if ¬ S 0 26 = 0 ∨ c = 6 then (xu (xu S 0 14 (nI 0)) 0 14 (nI 2), nI 0) else (xu (xu (ckL (xu S 0 14 (nI 0)) c b f n.toNatClampNeg) 1 c n) 0 13 (nI (c + 1)), nI c) := if_pos ⟨h1, h2⟩
      rw [e, bI_t h2]
      refine x_if_eq_f 29 d_M_chunk_22 (by decide) ((by decide)) ?_
      refine x_iconst (v := nI 1) d_M_chunk_25 (by decide) ?_
      refine x_goto (tgt := 30) d_M_chunk_26 (by decide) ?_
      refine x_callV (M' := m_M_bad) (As := [_]) (fr' := 0) (wd' := 0) d_M_chunk_30 hs.1 rfl pl_M_bad rfl (Nat.le_of_ble_eq_true rfl) (by decide) (by decide) wc_M_bad wi_M wl_M_71 wm_M_bad we_M_bad (by decide) np_M_bad (Nat.le_of_ble_eq_true rfl) (fun q hq => by cases hq) (c_M_bad hs _) (fun k a h1 q => by cases q.1) (fun v h1 q => ?_)
      obtain ⟨q1, rfl⟩ := q
      cases q1
      rw [bI_f (by decide)]
      refine x_if_eq_t (tgt := 38) d_M_chunk_33 (by decide) ((by decide)) ?_
      refine x_aload_n d_M_chunk_38 rfl ?_
      refine xm_get (j := 26) d_M_chunk_39 hs rfl (by decide) wf_M_75 (fun _ _ => rfl) ?_
      rw [xu_j _ _ _ _ (by decide)]
      by_cases j0 : S 0 26 = 0
      · skip
        refine x_if_ne_f 54 d_M_chunk_42 (by decide) (j0) ?_
        refine x_aload_n d_M_chunk_45 rfl ?_
        refine xm_get (j := 13) d_M_chunk_46 hs rfl (by decide) wf_M_79 (fun _ _ => rfl) ?_
        refine x_bipush (v := nI 6) d_M_chunk_49 (by decide) ?_
        rw [xu_j _ _ _ _ (by decide), hc]
        by_cases c6 : c = 6
        · rw [if_pos (Or.inr c6)]
          refine x_icmp_ne_f 60 d_M_chunk_51 (by decide) ((by rw [c6])) ?_
          refine x_aload_n d_M_chunk_54 rfl ?_
          refine x_iconst (v := nI 2) d_M_chunk_55 (by decide) ?_
          refine x_callV (M' := m_M_fail) (As := [_]) (fr' := 0) (wd' := 0) d_M_chunk_56 hs.1 rfl pl_M_fail rfl (Nat.le_of_ble_eq_true rfl) (by decide) (by decide) wc_M_fail wi_M wl_M_82 wm_M_fail we_M_fail (by decide) np_M_fail (Nat.le_of_ble_eq_true rfl) (fun q hq => by cases hq) (c_M_fail hs _) (fun k a h1 q => by cases q.1) (fun v h1 q => ?_)
          obtain ⟨q1, rfl⟩ := q
          cases q1
          refine x_iret d_M_chunk_59 rfl (by first | rfl | assumption) ?_
          exact ⟨rfl, rfl⟩
        · rw [if_neg (by rintro (q | q); exact q j0; exact c6 q)]
          obtain ⟨N, rfl, hN1, hN⟩ := rng_of (by decide) (by decide) h1
          rw [nI_clamp (by omega)]
          have hT : xu S 0 14 (nI 0) 0 13 = nI c := (xu_j _ _ _ _ (by decide)).trans hc
          generalize xu S 0 14 (nI 0) = T at hT
          have lp : ∀ m i : Nat, i + m = N → xV l G 1 22 m_M_chunk 63 [(5, .int (nI i)), (0, .ref y), (1, .long b), (3, .int (nI N)), (4, .int f)] [] (mset y (ckL T c b f i) h0) (fun r h' => r = .inl (some (.int (nI c))) ∧ h' = mset y (xu (xu (ckL T c b f N) 1 c (nI N)) 0 13 (nI (c + 1))) h0) := by
            intro m
            induction m with
            | zero =>
              intro i hi
              obtain rfl : i = N := by omega
              have c1 : c < mlen 1 := by show c < 6; omega
              refine x_iload d_M_chunk_63 rfl ?_
              refine x_iload_n d_M_chunk_65 rfl ?_
              refine x_icmp_ge_t (tgt := 102) d_M_chunk_66 (by decide) ((nI_le (by omega) (by omega))) ?_
              refine x_aload_n d_M_chunk_102 rfl ?_
              refine xm_ref (k := 1) (j := 0) d_M_chunk_103 hs (by decide) rfl rfl (by decide) wf_M_7 rfl ?_
              refine x_aload_n d_M_chunk_106 rfl ?_
              refine xm_get (j := 13) d_M_chunk_107 hs rfl (by decide) wf_M_79 (fun _ _ => rfl) ?_
              rw [ckL_k (by decide), hT]
              refine x_iload_n d_M_chunk_110 rfl ?_
              refine xm_ast d_M_chunk_111 hs (by decide) rfl (by first | decide | assumption | omega) ?_
              refine x_aload_n d_M_chunk_112 rfl ?_
              refine x_dup d_M_chunk_113 rfl ?_
              refine xm_get (j := 13) d_M_chunk_114 hs rfl (by decide) wf_M_79 (fun _ _ => rfl) ?_
              rw [xu_k _ _ _ (by decide), ckL_k (by decide), hT]
              refine x_iconst (v := nI 1) d_M_chunk_117 (by decide) ?_
              refine x_iadd d_M_chunk_118 ?_
              rw [nI_add]
              refine xm_put (j := 13) d_M_chunk_119 hs rfl (by decide) wf_M_79 (Or.inl rfl) (by first | rfl | assumption) rfl (fun _ _ => rfl) ?_
              refine x_aload_n d_M_chunk_122 rfl ?_
              refine xm_get (j := 13) d_M_chunk_123 hs rfl (by decide) wf_M_79 (fun _ _ => rfl) ?_
              rw [xu_s]
              refine x_iconst (v := nI 1) d_M_chunk_126 (by decide) ?_
              refine x_isub d_M_chunk_127 ?_
              rw [nI_sub (by omega), Nat.add_sub_cancel]
              refine x_iret d_M_chunk_128 rfl (by first | rfl | assumption) ?_
              exact ⟨rfl, rfl⟩
            | succ m ih =>
              intro i hi
              have i2 : c * 6 + i < mlen 2 := by show c * 6 + i < 36; omega
              have nx := ih (i + 1) (by omega)
              refine x_iload d_M_chunk_63 rfl ?_
              refine x_iload_n d_M_chunk_65 rfl ?_
              refine x_icmp_ge_f 102 d_M_chunk_66 (by decide) ((nI_ge (by omega) (by omega))) ?_
              refine x_aload_n d_M_chunk_69 rfl ?_
              refine xm_ref (k := 2) (j := 1) d_M_chunk_70 hs (by decide) rfl rfl (by decide) wf_M_13 rfl ?_
              refine x_aload_n d_M_chunk_73 rfl ?_
              refine xm_get (j := 13) d_M_chunk_74 hs rfl (by decide) wf_M_79 (fun _ _ => rfl) ?_
              rw [ckL_k (by decide), hT]
              refine x_bipush (v := nI 6) d_M_chunk_77 (by decide) ?_
              refine x_imul d_M_chunk_79 ?_
              refine x_iload d_M_chunk_80 rfl ?_
              refine x_iadd d_M_chunk_82 ?_
              rw [nI_mul, nI_add]
              refine x_lload_n d_M_chunk_83 rfl ?_
              refine x_bipush (v := nI 8) d_M_chunk_84 (by decide) ?_
              refine x_iload d_M_chunk_86 rfl ?_
              refine x_imul d_M_chunk_88 ?_
              refine x_lshr d_M_chunk_89 ?_
              refine x_l2i d_M_chunk_90 ?_
              refine x_i2b d_M_chunk_91 ?_
              refine x_iload d_M_chunk_92 rfl ?_
              refine x_imul d_M_chunk_94 ?_
              refine xm_ast d_M_chunk_95 hs (by decide) rfl (by first | decide | assumption | omega) ?_
              first | refine x_incN d_M_chunk_96 rfl (by decide) ?_ | refine x_inc d_M_chunk_96 rfl (by decide) ?_
              refine x_goto (tgt := 63) d_M_chunk_99 (by decide) ?_
              rw [show xu (ckL T c b f i) 2 (c * 6 + i) ((b >>> ((nI 8 * nI i).toInt64 &&& 63)).toInt32.toInt8.toInt32 * f) = ckL T c b f (i + 1) from ckL_s]
              refine xV.loc (nx) (by repeat (first | exact trivial | refine ⟨rfl, ?_⟩))
          have this := lp N 0 (by omega)
          rw [ckL_0] at this
          refine x_icmp_ne_t (tgt := 60) d_M_chunk_51 (by decide) ((fun q => c6 ((nI_eq (by omega) (by omega)).mp q))) ?_
          refine x_iconst (v := nI 0) d_M_chunk_60 (by decide) ?_
          refine x_istore d_M_chunk_61 (by decide) ?_
          refine xV.loc (this) (by repeat (first | exact trivial | refine ⟨rfl, ?_⟩))
      · rw [if_pos (Or.inl j0)]
        refine x_if_ne_t (tgt := 54) d_M_chunk_42 (by decide) (j0) ?_
        refine x_aload_n d_M_chunk_54 rfl ?_
        refine x_iconst (v := nI 2) d_M_chunk_55 (by decide) ?_
        refine x_callV (M' := m_M_fail) (As := [_]) (fr' := 0) (wd' := 0) d_M_chunk_56 hs.1 rfl pl_M_fail rfl (Nat.le_of_ble_eq_true rfl) (by decide) (by decide) wc_M_fail wi_M wl_M_82 wm_M_fail we_M_fail (by decide) np_M_fail (Nat.le_of_ble_eq_true rfl) (fun q hq => by cases hq) (c_M_fail hs _) (fun k a h1 q => by cases q.1) (fun v h1 q => ?_)
        obtain ⟨q1, rfl⟩ := q
        cases q1
        refine x_iret d_M_chunk_59 rfl (by first | rfl | assumption) ?_
        exact ⟨rfl, rfl⟩
    · rw [bad (fun q => h2 q.2), bI_f h2]
      refine x_if_eq_t (tgt := 29) d_M_chunk_22 (by decide) ((by decide)) ?_
      refine x_iconst (v := nI 0) d_M_chunk_29 (by decide) ?_
      refine x_callV (M' := m_M_bad) (As := [_]) (fr' := 0) (wd' := 0) d_M_chunk_30 hs.1 rfl pl_M_bad rfl (Nat.le_of_ble_eq_true rfl) (by decide) (by decide) wc_M_bad wi_M wl_M_71 wm_M_bad we_M_bad (by decide) np_M_bad (Nat.le_of_ble_eq_true rfl) (fun q hq => by cases hq) (c_M_bad hs _) (fun k a h1 q => by cases q.1) (fun v h1 q => ?_)
      obtain ⟨q1, rfl⟩ := q
      cases q1
      rw [bI_t nI_0]
      refine x_if_eq_f 38 d_M_chunk_33 (by decide) ((by decide)) ?_
      refine x_iconst (v := nI 0) d_M_chunk_36 (by decide) ?_
      refine x_iret d_M_chunk_37 rfl (by first | rfl | assumption) ?_
      exact ⟨rfl, rfl⟩
  · rw [bad (fun q => h1 q.1), bI_f h1]
    refine x_if_eq_t (tgt := 29) d_M_chunk_8 (by decide) ((by decide)) ?_
    refine x_iconst (v := nI 0) d_M_chunk_29 (by decide) ?_
    refine x_callV (M' := m_M_bad) (As := [_]) (fr' := 0) (wd' := 0) d_M_chunk_30 hs.1 rfl pl_M_bad rfl (Nat.le_of_ble_eq_true rfl) (by decide) (by decide) wc_M_bad wi_M wl_M_71 wm_M_bad we_M_bad (by decide) np_M_bad (Nat.le_of_ble_eq_true rfl) (fun q hq => by cases hq) (c_M_bad hs _) (fun k a h1 q => by cases q.1) (fun v h1 q => ?_)
    obtain ⟨q1, rfl⟩ := q
    cases q1
    rw [bI_t nI_0]
    refine x_if_eq_f 38 d_M_chunk_33 (by decide) ((by decide)) ?_
    refine x_iconst (v := nI 0) d_M_chunk_36 (by decide) ?_
    refine x_iret d_M_chunk_37 rfl (by first | rfl | assumption) ?_
    exact ⟨rfl, rfl⟩
end XM12
end
section
def dnS (S : Nat → Nat → Int32) (n : Nat) : Nat → Nat → Int32 := fun k j => if k = 8 ∧ j < n then nI 0 else S k j
theorem dnS_0 (S : Nat → Nat → Int32) : dnS S 0 = S := by
  funext k j; exact if_neg (by omega)
theorem dnS_s {S : Nat → Nat → Int32} {n : Nat} : xu (dnS S n) 8 n (nI 0) = dnS S (n + 1) := by
  funext k j
  by_cases h : k = 8 ∧ j = n
  · obtain ⟨rfl, rfl⟩ := h
    rw [xu_s]; unfold dnS; rw [if_pos (by omega)]
  · rw [show xu (dnS S n) 8 n (nI 0) k j = dnS S n k j from if_neg h]
    have : (k = 8 ∧ j < n) ↔ (k = 8 ∧ j < n + 1) := by omega
    simp only [dnS, this]
theorem dnS_k {S : Nat → Nat → Int32} {n k : Nat} (h : k ≠ 8) : dnS S n k = S k := by
  funext j; exact if_neg (by omega)
abbrev okb (m r p b : Int32) : Prop := rng m 0 4 ∧ rng r 0 4 ∧ rng p 1 3 ∧ rng b 2 6
def bg1 (S : Nat → Nat → Int32) (m r p b : Int32) : Nat → Nat → Int32 := xu (xu (xu (xu (xu (xu S 0 14 (nI 0)) 0 17 m) 0 18 r) 0 19 p) 0 20 b) 0 16 (S 0 15)
theorem bg1_k {S : Nat → Nat → Int32} {m r p b : Int32} {k : Nat} (h : k ≠ 0) : bg1 S m r p b k = S k := by
  unfold bg1; rw [xu_k _ _ _ h, xu_k _ _ _ h, xu_k _ _ _ h, xu_k _ _ _ h, xu_k _ _ _ h, xu_k _ _ _ h]
theorem bg1_0 {S : Nat → Nat → Int32} {m r p b : Int32} {j : Nat} (h : j ≠ 14 ∧ j ≠ 17 ∧ j ≠ 18 ∧ j ≠ 19 ∧ j ≠ 20 ∧ j ≠ 16) : bg1 S m r p b 0 j = S 0 j := by
  unfold bg1; rw [xu_j _ _ _ _ h.2.2.2.2.2, xu_j _ _ _ _ h.2.2.2.2.1, xu_j _ _ _ _ h.2.2.2.1, xu_j _ _ _ _ h.2.2.1, xu_j _ _ _ _ h.2.1, xu_j _ _ _ _ h.1]
/-- begin: the cells of the job that begins -/
def bg2 (S : Nat → Nat → Int32) (c : Nat) (sz : Nat → Nat) (m r p b : Int32) : Nat → Nat → Int32 :=
  xu (gvS (dnS (plS (pcS (bg1 S m r p b) sz c) (isort (aL (bg1 S m r p b) sz c))) 11) (nI 0) 4) 0 26 (nI 1)
def bgS (S : Nat → Nat → Int32) (c : Nat) (sz : Nat → Nat) (m r p b : Int32) : (Nat → Nat → Int32) × Int32 :=
  if okb m r p b then (if ¬ S 0 26 = 0 ∨ c = 0 then (xu (xu S 0 14 (nI 0)) 0 14 (nI 2), nI 0) else (bg2 S c sz m r p b, nI c)) else (xu S 0 14 (nI 1), nI 0)
section XM13
variable {l : Launch} {G : xG} {h0 : xH} {y : Nat} {S : Nat → Nat → Int32}
theorem bg_bad (hs : MSh h0 y) {Q : xR → xH → Prop} {m r p b : Int32} (q : Q (.inl (some (.int (nI 0)))) (mset y (xu S 0 14 (nI 1)) h0)) : xV l G 3 68 m_M_begin 43 (lv_args 0 [.ref y, .int m, .int r, .int p, .int b]) [.ref y] (mset y S h0) Q := by
  refine x_iconst (v := nI 0) d_M_begin_43 (by decide) ?_
  refine x_callV (M' := m_M_bad) (As := [_]) (fr' := 0) (wd' := 0) d_M_begin_44 hs.1 rfl pl_M_bad rfl (Nat.le_of_ble_eq_true rfl) (by decide) (by decide) wc_M_bad wi_M wl_M_71 wm_M_bad we_M_bad (by decide) np_M_bad (Nat.le_of_ble_eq_true rfl) (fun q hq => by cases hq) (c_M_bad hs _) (fun k a h1 q => by cases q.1) (fun v h1 q => ?_)
  obtain ⟨q1, rfl⟩ := q
  cases q1
  rw [bI_t nI_0]
  refine x_if_eq_f 52 d_M_begin_47 (by decide) ((by decide)) ?_
  refine x_iconst (v := nI 0) d_M_begin_50 (by decide) ?_
  refine x_iret d_M_begin_51 rfl (by first | rfl | assumption) ?_
  exact q
theorem c_M_begin (hs : MSh h0 y) (m r p b : Int32) {c : Nat} {sz : Nat → Nat} (hc : S 0 13 = nI c) (hc6 : c ≤ 6) (hz : ∀ t, t < c → S 1 t = nI (sz t) ∧ sz t ≤ 6) (hv : ∀ t i, t < c → i < sz t → (S 2 (t * 6 + i)).toInt.natAbs < 10 ^ 6) :
    xVM l G 3 68 m_M_begin [.ref y, .int m, .int r, .int p, .int b] (mset y S h0) (fun q h' => q = .inl (some (.int (bgS S c sz m r p b).2)) ∧ h' = mset y (bgS S c sz m r p b).1 h0) := by
  have bad : ¬ okb m r p b → bgS S c sz m r p b = (xu S 0 14 (nI 1), nI 0) := fun q => if_neg q
  unfold xVM
  refine x_aload_n d_M_begin_0 rfl ?_
  refine x_iload_n d_M_begin_1 rfl ?_
  refine x_iconst (v := nI 0) d_M_begin_2 (by decide) ?_
  refine x_iconst (v := nI 4) d_M_begin_3 (by decide) ?_
  refine x_callS (M' := m_M_in) (As := [_, _, _]) (fr' := 0) (wd' := 0) d_M_begin_4 pl_M_in rfl (Nat.le_of_ble_eq_true rfl) (by decide) (by decide) wc_M_in wi_M wl_M_67 ws_M_in (by decide) np_M_in (Nat.le_of_ble_eq_true rfl) (fun q hq => by cases hq) (c_M_in _ _ _) (fun k a h1 q => by cases q.1) (fun v h1 q => ?_)
  obtain ⟨q1, rfl⟩ := q
  cases q1
  by_cases h1 : rng m 0 4
  · rw [bI_t h1]
    refine x_if_eq_f 43 d_M_begin_7 (by decide) ((by decide)) ?_
    refine x_iload_n d_M_begin_10 rfl ?_
    refine x_iconst (v := nI 0) d_M_begin_11 (by decide) ?_
    refine x_iconst (v := nI 4) d_M_begin_12 (by decide) ?_
    refine x_callS (M' := m_M_in) (As := [_, _, _]) (fr' := 0) (wd' := 0) d_M_begin_13 pl_M_in rfl (Nat.le_of_ble_eq_true rfl) (by decide) (by decide) wc_M_in wi_M wl_M_67 ws_M_in (by decide) np_M_in (Nat.le_of_ble_eq_true rfl) (fun q hq => by cases hq) (c_M_in _ _ _) (fun k a h1 q => by cases q.1) (fun v h1 q => ?_)
    obtain ⟨q1, rfl⟩ := q
    cases q1
    by_cases h2 : rng r 0 4
    · rw [bI_t h2]
      refine x_if_eq_f 43 d_M_begin_16 (by decide) ((by decide)) ?_
      refine x_iload_n d_M_begin_19 rfl ?_
      refine x_iconst (v := nI 1) d_M_begin_20 (by decide) ?_
      refine x_iconst (v := nI 3) d_M_begin_21 (by decide) ?_
      refine x_callS (M' := m_M_in) (As := [_, _, _]) (fr' := 0) (wd' := 0) d_M_begin_22 pl_M_in rfl (Nat.le_of_ble_eq_true rfl) (by decide) (by decide) wc_M_in wi_M wl_M_67 ws_M_in (by decide) np_M_in (Nat.le_of_ble_eq_true rfl) (fun q hq => by cases hq) (c_M_in _ _ _) (fun k a h1 q => by cases q.1) (fun v h1 q => ?_)
      obtain ⟨q1, rfl⟩ := q
      cases q1
      by_cases h3 : rng p 1 3
      · rw [bI_t h3]
        refine x_if_eq_f 43 d_M_begin_25 (by decide) ((by decide)) ?_
        refine x_iload d_M_begin_28 rfl ?_
        refine x_iconst (v := nI 2) d_M_begin_30 (by decide) ?_
        refine x_bipush (v := nI 6) d_M_begin_31 (by decide) ?_
        refine x_callS (M' := m_M_in) (As := [_, _, _]) (fr' := 0) (wd' := 0) d_M_begin_33 pl_M_in rfl (Nat.le_of_ble_eq_true rfl) (by decide) (by decide) wc_M_in wi_M wl_M_67 ws_M_in (by decide) np_M_in (Nat.le_of_ble_eq_true rfl) (fun q hq => by cases hq) (c_M_in _ _ _) (fun k a h1 q => by cases q.1) (fun v h1 q => ?_)
        obtain ⟨q1, rfl⟩ := q
        cases q1
        by_cases h4 : rng b 2 6
        · have e : bgS S c sz m r p b = if ¬ S 0 26 = 0 ∨ c = 0 then (xu (xu S 0 14 (nI 0)) 0 14 (nI 2), nI 0) else (bg2 S c sz m r p b, nI c) := if_pos ⟨h1, h2, h3, h4⟩
          rw [e, bI_t h4]
          refine x_if_eq_f 43 d_M_begin_36 (by decide) ((by decide)) ?_
          refine x_iconst (v := nI 1) d_M_begin_39 (by decide) ?_
          refine x_goto (tgt := 44) d_M_begin_40 (by decide) ?_
          refine x_callV (M' := m_M_bad) (As := [_]) (fr' := 0) (wd' := 0) d_M_begin_44 hs.1 rfl pl_M_bad rfl (Nat.le_of_ble_eq_true rfl) (by decide) (by decide) wc_M_bad wi_M wl_M_71 wm_M_bad we_M_bad (by decide) np_M_bad (Nat.le_of_ble_eq_true rfl) (fun q hq => by cases hq) (c_M_bad hs _) (fun k a h1 q => by cases q.1) (fun v h1 q => ?_)
          obtain ⟨q1, rfl⟩ := q
          cases q1
          rw [bI_f (by decide)]
          refine x_if_eq_t (tgt := 52) d_M_begin_47 (by decide) ((by decide)) ?_
          refine x_aload_n d_M_begin_52 rfl ?_
          refine xm_get (j := 26) d_M_begin_53 hs rfl (by decide) wf_M_75 (fun _ _ => rfl) ?_
          rw [xu_j _ _ _ _ (by decide)]
          by_cases j0 : S 0 26 = 0
          · skip
            refine x_if_ne_f 66 d_M_begin_56 (by decide) (j0) ?_
            refine x_aload_n d_M_begin_59 rfl ?_
            refine xm_get (j := 13) d_M_begin_60 hs rfl (by decide) wf_M_79 (fun _ _ => rfl) ?_
            rw [xu_j _ _ _ _ (by decide), hc]
            by_cases c0 : c = 0
            · rw [if_pos (Or.inr c0)]
              refine x_if_ne_f 72 d_M_begin_63 (by decide) ((by rw [c0]; rfl)) ?_
              refine x_aload_n d_M_begin_66 rfl ?_
              refine x_iconst (v := nI 2) d_M_begin_67 (by decide) ?_
              refine x_callV (M' := m_M_fail) (As := [_]) (fr' := 0) (wd' := 0) d_M_begin_68 hs.1 rfl pl_M_fail rfl (Nat.le_of_ble_eq_true rfl) (by decide) (by decide) wc_M_fail wi_M wl_M_82 wm_M_fail we_M_fail (by decide) np_M_fail (Nat.le_of_ble_eq_true rfl) (fun q hq => by cases hq) (c_M_fail hs _) (fun k a h1 q => by cases q.1) (fun v h1 q => ?_)
              obtain ⟨q1, rfl⟩ := q
              cases q1
              refine x_iret d_M_begin_71 rfl (by first | rfl | assumption) ?_
              exact ⟨rfl, rfl⟩
            · rw [if_neg (by rintro (q | q); exact q j0; exact c0 q)]
              refine x_if_ne_t (tgt := 72) d_M_begin_63 (by decide) ((nI_ne0 (by omega) (by omega))) ?_
              refine x_aload_n d_M_begin_72 rfl ?_
              refine x_iload_n d_M_begin_73 rfl ?_
              refine xm_put (j := 17) d_M_begin_74 hs rfl (by decide) wf_M_52 (Or.inl rfl) (by first | rfl | assumption) rfl (fun _ _ => rfl) ?_
              refine x_aload_n d_M_begin_77 rfl ?_
              refine x_iload_n d_M_begin_78 rfl ?_
              refine xm_put (j := 18) d_M_begin_79 hs rfl (by decide) wf_M_109 (Or.inl rfl) (by first | rfl | assumption) rfl (fun _ _ => rfl) ?_
              refine x_aload_n d_M_begin_82 rfl ?_
              refine x_iload_n d_M_begin_83 rfl ?_
              refine xm_put (j := 19) d_M_begin_84 hs rfl (by decide) wf_M_103 (Or.inl rfl) (by first | rfl | assumption) rfl (fun _ _ => rfl) ?_
              refine x_aload_n d_M_begin_87 rfl ?_
              refine x_iload d_M_begin_88 rfl ?_
              refine xm_put (j := 20) d_M_begin_90 hs rfl (by decide) wf_M_125 (Or.inl rfl) (by first | rfl | assumption) rfl (fun _ _ => rfl) ?_
              refine x_aload_n d_M_begin_93 rfl ?_
              refine x_aload_n d_M_begin_94 rfl ?_
              refine xm_get (j := 15) d_M_begin_95 hs rfl (by decide) wf_M_48 (fun _ _ => rfl) ?_
              rw [xu_j _ _ _ _ (by decide), xu_j _ _ _ _ (by decide), xu_j _ _ _ _ (by decide), xu_j _ _ _ _ (by decide), xu_j _ _ _ _ (by decide)]
              refine xm_put (j := 16) d_M_begin_98 hs rfl (by decide) wf_M_106 (Or.inl rfl) (by first | rfl | assumption) rfl (fun _ _ => rfl) ?_
              refine x_aload_n d_M_begin_101 rfl ?_
              rw [show xu (xu (xu (xu (xu (xu S 0 14 (nI 0)) 0 17 m) 0 18 r) 0 19 p) 0 20 b) 0 16 (S 0 15) = bg1 S m r p b from rfl]
              have k13 : bg1 S m r p b 0 13 = nI c := (bg1_0 (by decide)).trans hc
              have e2 : bg2 S c sz m r p b = xu (gvS (dnS (plS (pcS (bg1 S m r p b) sz c) (isort (aL (bg1 S m r p b) sz c))) 11) (nI 0) 4) 0 26 (nI 1) := rfl
              rw [e2]
              have hz1 : ∀ t, t < c → bg1 S m r p b 1 t = nI (sz t) ∧ sz t ≤ 6 := by rw [bg1_k (by decide)]; exact hz
              have hv1 : ∀ t i, t < c → i < sz t → (bg1 S m r p b 2 (t * 6 + i)).toInt.natAbs < 10 ^ 6 := by rw [bg1_k (by decide)]; exact hv
              generalize bg1 S m r p b = T at k13 hz1 hv1
              have al := aL_len T (sz := sz) c (fun t ht => (hz1 t ht).2)
              refine x_callV (M' := m_M_mapAll) (As := []) (fr' := 2) (wd' := 45) d_M_begin_102 hs.1 rfl pl_M_mapAll rfl (Nat.le_of_ble_eq_true rfl) (by decide) (by decide) wc_M_mapAll wi_M wl_M_128 wm_M_mapAll we_M_mapAll (by decide) np_M_mapAll (Nat.le_of_ble_eq_true rfl) (fun q hq => by cases hq) (c_M_mapAll hs k13 hc6 hz1 hv1) (fun k a h1 q => by cases q.1) (fun v h1 q => ?_)
              obtain ⟨q1, rfl⟩ := q
              cases q1
              refine x_aload_n d_M_begin_105 rfl ?_
              refine x_callV (M' := m_M_sort) (As := []) (fr' := 0) (wd' := 0) d_M_begin_106 hs.1 rfl pl_M_sort rfl (Nat.le_of_ble_eq_true rfl) (by decide) (by decide) wc_M_sort wi_M wl_M_131 wm_M_sort we_M_sort (by decide) np_M_sort (Nat.le_of_ble_eq_true rfl) (fun q hq => by cases hq) (c_M_sort hs (by omega)) (fun k a h1 q => by cases q.1) (fun v h1 q => ?_)
              obtain ⟨q1, rfl⟩ := q
              cases q1
              refine x_iconst (v := nI 0) d_M_begin_109 (by decide) ?_
              refine x_istore d_M_begin_110 (by decide) ?_
              have f13 : ∀ n, dnS (plS (pcS T sz c) (isort (aL T sz c))) n 0 13 = nI c := by
                intro n; rw [dnS_k (by decide), plS_0 (by decide), pcS_k (by decide)]; exact k13
              have lp : ∀ m2 i : Nat, i + m2 = 11 → xV l G 3 68 m_M_begin 112 [(5, .int (nI i)), (0, .ref y)] [] (mset y (dnS (plS (pcS T sz c) (isort (aL T sz c))) i) h0) (fun q h' => q = .inl (some (.int (nI c))) ∧ h' = mset y (xu (gvS (dnS (plS (pcS T sz c) (isort (aL T sz c))) 11) (nI 0) 4) 0 26 (nI 1)) h0) := by
                intro m2
                induction m2 with
                | zero =>
                  intro i hi
                  obtain rfl : i = 11 := by omega
                  refine x_iload d_M_begin_112 rfl ?_
                  refine x_bipush (v := nI 11) d_M_begin_114 (by decide) ?_
                  refine x_icmp_ge_t (tgt := 133) d_M_begin_116 (by decide) ((nI_le (by omega) (by omega))) ?_
                  refine x_aload_n d_M_begin_133 rfl ?_
                  refine x_iconst (v := nI 0) d_M_begin_134 (by decide) ?_
                  refine x_callV (M' := m_M_giveUp) (As := [_]) (fr' := 0) (wd' := 0) d_M_begin_135 hs.1 rfl pl_M_giveUp rfl (Nat.le_of_ble_eq_true rfl) (by decide) (by decide) wc_M_giveUp wi_M wl_M_121 wm_M_giveUp we_M_giveUp (by decide) np_M_giveUp (Nat.le_of_ble_eq_true rfl) (fun q hq => by cases hq) (c_M_giveUp hs _) (fun k a h1 q => by cases q.1) (fun v h1 q => ?_)
                  obtain ⟨q1, rfl⟩ := q
                  cases q1
                  refine x_aload_n d_M_begin_138 rfl ?_
                  refine x_iconst (v := nI 1) d_M_begin_139 (by decide) ?_
                  refine xm_put (j := 26) d_M_begin_140 hs rfl (by decide) wf_M_75 (Or.inl rfl) (by first | rfl | assumption) rfl (fun _ _ => rfl) ?_
                  refine x_aload_n d_M_begin_143 rfl ?_
                  refine xm_get (j := 13) d_M_begin_144 hs rfl (by decide) wf_M_79 (fun _ _ => rfl) ?_
                  refine x_iret d_M_begin_147 rfl (by first | rfl | assumption) ?_
                  exact ⟨by rw [xu_j _ _ _ _ (by decide), gvS_k _ _ _ (by decide) (by decide), f13], rfl⟩
                | succ m2 ih =>
                  intro i hi
                  have i8 : i < mlen 8 := by show i < 11; omega
                  have nx := ih (i + 1) (by omega)
                  refine x_iload d_M_begin_112 rfl ?_
                  refine x_bipush (v := nI 11) d_M_begin_114 (by decide) ?_
                  refine x_icmp_ge_f 133 d_M_begin_116 (by decide) ((nI_ge (by omega) (by omega))) ?_
                  refine x_aload_n d_M_begin_119 rfl ?_
                  refine xm_ref (k := 8) (j := 7) d_M_begin_120 hs (by decide) rfl rfl (by decide) wf_M_32 rfl ?_
                  refine x_iload d_M_begin_123 rfl ?_
                  refine x_iconst (v := nI 0) d_M_begin_125 (by decide) ?_
                  refine xm_zst d_M_begin_126 hs (by decide) rfl (by first | decide | assumption | omega) (by first | rfl | assumption) ?_
                  first | refine x_incN d_M_begin_127 rfl (by decide) ?_ | refine x_inc d_M_begin_127 rfl (by decide) ?_
                  refine x_goto (tgt := 112) d_M_begin_130 (by decide) ?_
                  rw [dnS_s]
                  refine xV.loc (nx) (by repeat (first | exact trivial | refine ⟨rfl, ?_⟩))
              have this := lp 11 0 (by omega)
              rw [dnS_0] at this
              refine xV.loc (this) (by repeat (first | exact trivial | refine ⟨rfl, ?_⟩))
          · rw [if_pos (Or.inl j0)]
            refine x_if_ne_t (tgt := 66) d_M_begin_56 (by decide) (j0) ?_
            refine x_aload_n d_M_begin_66 rfl ?_
            refine x_iconst (v := nI 2) d_M_begin_67 (by decide) ?_
            refine x_callV (M' := m_M_fail) (As := [_]) (fr' := 0) (wd' := 0) d_M_begin_68 hs.1 rfl pl_M_fail rfl (Nat.le_of_ble_eq_true rfl) (by decide) (by decide) wc_M_fail wi_M wl_M_82 wm_M_fail we_M_fail (by decide) np_M_fail (Nat.le_of_ble_eq_true rfl) (fun q hq => by cases hq) (c_M_fail hs _) (fun k a h1 q => by cases q.1) (fun v h1 q => ?_)
            obtain ⟨q1, rfl⟩ := q
            cases q1
            refine x_iret d_M_begin_71 rfl (by first | rfl | assumption) ?_
            exact ⟨rfl, rfl⟩
        · rw [bad (fun q => h4 q.2.2.2), bI_f h4]
          refine x_if_eq_t (tgt := 43) d_M_begin_36 (by decide) ((by decide)) ?_
          exact bg_bad hs ⟨rfl, rfl⟩
      · rw [bad (fun q => h3 q.2.2.1), bI_f h3]
        refine x_if_eq_t (tgt := 43) d_M_begin_25 (by decide) ((by decide)) ?_
        exact bg_bad hs ⟨rfl, rfl⟩
    · rw [bad (fun q => h2 q.2.1), bI_f h2]
      refine x_if_eq_t (tgt := 43) d_M_begin_16 (by decide) ((by decide)) ?_
      exact bg_bad hs ⟨rfl, rfl⟩
  · rw [bad (fun q => h1 q.1), bI_f h1]
    refine x_if_eq_t (tgt := 43) d_M_begin_7 (by decide) ((by decide)) ?_
    exact bg_bad hs ⟨rfl, rfl⟩
def ouS (S : Nat → Nat → Int32) (p i w : Int32) : (Nat → Nat → Int32) × Int32 :=
  if rng p 0 2 ∧ rng w 0 1 then (if S 0 25 ≤ p ∨ i < -1 ∨ S 15 p.toNatClampNeg ≤ i then (xu (xu S 0 14 (nI 0)) 0 14 (nI 2), nI 0) else (xu S 0 14 (nI 0), if i < 0 then S 15 p.toNatClampNeg else if w = 0 then S 13 (p.toNatClampNeg * 100 + i.toNatClampNeg) else S 14 (p.toNatClampNeg * 100 + i.toNatClampNeg))) else (xu S 0 14 (nI 1), nI 0)
theorem c_M_output (hs : MSh h0 y) (p i w : Int32) (ho : ∀ p, p < 3 → ∃ n, S 15 p = nI n ∧ n ≤ 100) : xVM l G 1 22 m_M_output [.ref y, .int p, .int i, .int w] (mset y S h0) (fun q h' => q = .inl (some (.int (ouS S p i w).2)) ∧ h' = mset y (ouS S p i w).1 h0) := by
  have bad : ¬ (rng p 0 2 ∧ rng w 0 1) → ouS S p i w = (xu S 0 14 (nI 1), nI 0) := fun q => if_neg q
  unfold xVM
  refine x_aload_n d_M_output_0 rfl ?_
  refine x_iload_n d_M_output_1 rfl ?_
  refine x_iconst (v := nI 0) d_M_output_2 (by decide) ?_
  refine x_iconst (v := nI 2) d_M_output_3 (by decide) ?_
  refine x_callS (M' := m_M_in) (As := [_, _, _]) (fr' := 0) (wd' := 0) d_M_output_4 pl_M_in rfl (Nat.le_of_ble_eq_true rfl) (by decide) (by decide) wc_M_in wi_M wl_M_67 ws_M_in (by decide) np_M_in (Nat.le_of_ble_eq_true rfl) (fun q hq => by cases hq) (c_M_in _ _ _) (fun k a h1 q => by cases q.1) (fun v h1 q => ?_)
  obtain ⟨q1, rfl⟩ := q
  cases q1
  by_cases h1 : rng p 0 2
  · rw [bI_t h1]
    refine x_if_eq_f 23 d_M_output_7 (by decide) ((by decide)) ?_
    refine x_iload_n d_M_output_10 rfl ?_
    refine x_iconst (v := nI 0) d_M_output_11 (by decide) ?_
    refine x_iconst (v := nI 1) d_M_output_12 (by decide) ?_
    refine x_callS (M' := m_M_in) (As := [_, _, _]) (fr' := 0) (wd' := 0) d_M_output_13 pl_M_in rfl (Nat.le_of_ble_eq_true rfl) (by decide) (by decide) wc_M_in wi_M wl_M_67 ws_M_in (by decide) np_M_in (Nat.le_of_ble_eq_true rfl) (fun q hq => by cases hq) (c_M_in _ _ _) (fun k a h1 q => by cases q.1) (fun v h1 q => ?_)
    obtain ⟨q1, rfl⟩ := q
    cases q1
    by_cases h2 : rng w 0 1
    · have e : ouS S p i w = if S 0 25 ≤ p ∨ i < -1 ∨ S 15 p.toNatClampNeg ≤ i then (xu (xu S 0 14 (nI 0)) 0 14 (nI 2), nI 0) else (xu S 0 14 (nI 0), if i < 0 then S 15 p.toNatClampNeg else if w = 0 then S 13 (p.toNatClampNeg * 100 + i.toNatClampNeg) else S 14 (p.toNatClampNeg * 100 + i.toNatClampNeg)) := if_pos ⟨h1, h2⟩
      rw [e, bI_t h2]
      obtain ⟨P, rfl, -, hP⟩ := rng_of (by decide) (by decide) h1
      obtain ⟨N, hN, hN1⟩ := ho P (by omega)
      have p15 : P < mlen 15 := by show P < 3; omega
      rw [nI_clamp (by omega)]
      refine x_if_eq_f 23 d_M_output_16 (by decide) ((by decide)) ?_
      refine x_iconst (v := nI 1) d_M_output_19 (by decide) ?_
      refine x_goto (tgt := 24) d_M_output_20 (by decide) ?_
      refine x_callV (M' := m_M_bad) (As := [_]) (fr' := 0) (wd' := 0) d_M_output_24 hs.1 rfl pl_M_bad rfl (Nat.le_of_ble_eq_true rfl) (by decide) (by decide) wc_M_bad wi_M wl_M_71 wm_M_bad we_M_bad (by decide) np_M_bad (Nat.le_of_ble_eq_true rfl) (fun q hq => by cases hq) (c_M_bad hs _) (fun k a h1 q => by cases q.1) (fun v h1 q => ?_)
      obtain ⟨q1, rfl⟩ := q
      cases q1
      rw [bI_f (by decide)]
      refine x_if_eq_t (tgt := 32) d_M_output_27 (by decide) ((by decide)) ?_
      refine x_iload_n d_M_output_32 rfl ?_
      refine x_aload_n d_M_output_33 rfl ?_
      refine xm_get (j := 25) d_M_output_34 hs rfl (by decide) wf_M_167 (fun _ _ => rfl) ?_
      rw [xu_j _ _ _ _ (by decide)]
      by_cases a1 : S 0 25 ≤ nI P
      · rw [if_pos (Or.inl a1)]
        refine x_icmp_ge_t (tgt := 55) d_M_output_37 (by decide) (a1) ?_
        refine x_aload_n d_M_output_55 rfl ?_
        refine x_iconst (v := nI 2) d_M_output_56 (by decide) ?_
        refine x_callV (M' := m_M_fail) (As := [_]) (fr' := 0) (wd' := 0) d_M_output_57 hs.1 rfl pl_M_fail rfl (Nat.le_of_ble_eq_true rfl) (by decide) (by decide) wc_M_fail wi_M wl_M_82 wm_M_fail we_M_fail (by decide) np_M_fail (Nat.le_of_ble_eq_true rfl) (fun q hq => by cases hq) (c_M_fail hs _) (fun k a h1 q => by cases q.1) (fun v h1 q => ?_)
        obtain ⟨q1, rfl⟩ := q
        cases q1
        refine x_iret d_M_output_60 rfl (by first | rfl | assumption) ?_
        exact ⟨rfl, rfl⟩
      · skip
        refine x_icmp_ge_f 55 d_M_output_37 (by decide) (a1) ?_
        refine x_iload_n d_M_output_40 rfl ?_
        refine x_iconst (v := (-1)) d_M_output_41 (by decide) ?_
        by_cases a2 : i < -1
        · rw [if_pos (Or.inr (Or.inl a2))]
          refine x_icmp_lt_t (tgt := 55) d_M_output_42 (by decide) (a2) ?_
          refine x_aload_n d_M_output_55 rfl ?_
          refine x_iconst (v := nI 2) d_M_output_56 (by decide) ?_
          refine x_callV (M' := m_M_fail) (As := [_]) (fr' := 0) (wd' := 0) d_M_output_57 hs.1 rfl pl_M_fail rfl (Nat.le_of_ble_eq_true rfl) (by decide) (by decide) wc_M_fail wi_M wl_M_82 wm_M_fail we_M_fail (by decide) np_M_fail (Nat.le_of_ble_eq_true rfl) (fun q hq => by cases hq) (c_M_fail hs _) (fun k a h1 q => by cases q.1) (fun v h1 q => ?_)
          obtain ⟨q1, rfl⟩ := q
          cases q1
          refine x_iret d_M_output_60 rfl (by first | rfl | assumption) ?_
          exact ⟨rfl, rfl⟩
        · skip
          refine x_icmp_lt_f 55 d_M_output_42 (by decide) (a2) ?_
          refine x_iload_n d_M_output_45 rfl ?_
          refine x_aload_n d_M_output_46 rfl ?_
          refine xm_ref (k := 15) (j := 30) d_M_output_47 hs (by decide) rfl rfl (by decide) wf_M_61 rfl ?_
          refine x_iload_n d_M_output_50 rfl ?_
          refine xm_ald d_M_output_51 hs (by decide) rfl (by first | decide | assumption | omega) ?_
          rw [xu_k _ _ _ (by decide)]
          by_cases a3 : S 15 P ≤ i
          · rw [if_pos (Or.inr (Or.inr a3))]
            refine x_icmp_lt_f 61 d_M_output_52 (by decide) ((Int32.not_lt.mpr a3)) ?_
            refine x_aload_n d_M_output_55 rfl ?_
            refine x_iconst (v := nI 2) d_M_output_56 (by decide) ?_
            refine x_callV (M' := m_M_fail) (As := [_]) (fr' := 0) (wd' := 0) d_M_output_57 hs.1 rfl pl_M_fail rfl (Nat.le_of_ble_eq_true rfl) (by decide) (by decide) wc_M_fail wi_M wl_M_82 wm_M_fail we_M_fail (by decide) np_M_fail (Nat.le_of_ble_eq_true rfl) (fun q hq => by cases hq) (c_M_fail hs _) (fun k a h1 q => by cases q.1) (fun v h1 q => ?_)
            obtain ⟨q1, rfl⟩ := q
            cases q1
            refine x_iret d_M_output_60 rfl (by first | rfl | assumption) ?_
            exact ⟨rfl, rfl⟩
          · rw [if_neg (by rintro (q | q | q); exact a1 q; exact a2 q; exact a3 q)]
            refine x_icmp_lt_t (tgt := 61) d_M_output_52 (by decide) ((Int32.not_le.mp a3)) ?_
            refine x_iload_n d_M_output_61 rfl ?_
            by_cases i0 : i < 0
            · rw [if_pos i0]
              refine x_if_ge_f 74 d_M_output_62 (by decide) ((Int32.not_le.mpr i0)) ?_
              refine x_aload_n d_M_output_65 rfl ?_
              refine xm_ref (k := 15) (j := 30) d_M_output_66 hs (by decide) rfl rfl (by decide) wf_M_61 rfl ?_
              refine x_iload_n d_M_output_69 rfl ?_
              refine xm_ald d_M_output_70 hs (by decide) rfl (by first | decide | assumption | omega) ?_
              refine x_goto (tgt := 103) d_M_output_71 (by decide) ?_
              refine x_iret d_M_output_103 rfl (by first | rfl | assumption) ?_
              exact ⟨by rw [xu_k _ _ _ (by decide)], rfl⟩
            · rw [if_neg i0]
              obtain ⟨I, hI, rfl⟩ := nI_of i0
              rw [hN, nI_leI (by omega) hI] at a3
              rw [nI_clamp hI]
              have x13 : P * 100 + I < mlen 13 := by show P * 100 + I < 300; omega
              have x14 : P * 100 + I < mlen 14 := by show P * 100 + I < 300; omega
              refine x_if_ge_t (tgt := 74) d_M_output_62 (by decide) ((nI_pos' hI)) ?_
              refine x_iload_n d_M_output_74 rfl ?_
              by_cases w0 : w = 0
              · rw [if_pos w0]
                refine x_if_ne_f 92 d_M_output_75 (by decide) (w0) ?_
                refine x_aload_n d_M_output_78 rfl ?_
                refine xm_ref (k := 13) (j := 28) d_M_output_79 hs (by decide) rfl rfl (by decide) wf_M_55 rfl ?_
                refine x_iload_n d_M_output_82 rfl ?_
                refine x_bipush (v := nI 100) d_M_output_83 (by decide) ?_
                refine x_imul d_M_output_85 ?_
                refine x_iload_n d_M_output_86 rfl ?_
                refine x_iadd d_M_output_87 ?_
                rw [nI_mul, nI_add]
                refine xm_ald d_M_output_88 hs (by decide) rfl (by first | decide | assumption | omega) ?_
                refine x_goto (tgt := 103) d_M_output_89 (by decide) ?_
                refine x_iret d_M_output_103 rfl (by first | rfl | assumption) ?_
                exact ⟨by rw [xu_k _ _ _ (by decide)], rfl⟩
              · rw [if_neg w0]
                refine x_if_ne_t (tgt := 92) d_M_output_75 (by decide) (w0) ?_
                refine x_aload_n d_M_output_92 rfl ?_
                refine xm_ref (k := 14) (j := 29) d_M_output_93 hs (by decide) rfl rfl (by decide) wf_M_58 rfl ?_
                refine x_iload_n d_M_output_96 rfl ?_
                refine x_bipush (v := nI 100) d_M_output_97 (by decide) ?_
                refine x_imul d_M_output_99 ?_
                refine x_iload_n d_M_output_100 rfl ?_
                refine x_iadd d_M_output_101 ?_
                rw [nI_mul, nI_add]
                refine xm_ald d_M_output_102 hs (by decide) rfl (by first | decide | assumption | omega) ?_
                refine x_iret d_M_output_103 rfl (by first | rfl | assumption) ?_
                exact ⟨by rw [xu_k _ _ _ (by decide)], rfl⟩
    · rw [bad (fun q => h2 q.2), bI_f h2]
      refine x_if_eq_t (tgt := 23) d_M_output_16 (by decide) ((by decide)) ?_
      refine x_iconst (v := nI 0) d_M_output_23 (by decide) ?_
      refine x_callV (M' := m_M_bad) (As := [_]) (fr' := 0) (wd' := 0) d_M_output_24 hs.1 rfl pl_M_bad rfl (Nat.le_of_ble_eq_true rfl) (by decide) (by decide) wc_M_bad wi_M wl_M_71 wm_M_bad we_M_bad (by decide) np_M_bad (Nat.le_of_ble_eq_true rfl) (fun q hq => by cases hq) (c_M_bad hs _) (fun k a h1 q => by cases q.1) (fun v h1 q => ?_)
      obtain ⟨q1, rfl⟩ := q
      cases q1
      rw [bI_t nI_0]
      refine x_if_eq_f 32 d_M_output_27 (by decide) ((by decide)) ?_
      refine x_iconst (v := nI 0) d_M_output_30 (by decide) ?_
      refine x_iret d_M_output_31 rfl (by first | rfl | assumption) ?_
      exact ⟨rfl, rfl⟩
  · rw [bad (fun q => h1 q.1), bI_f h1]
    refine x_if_eq_t (tgt := 23) d_M_output_7 (by decide) ((by decide)) ?_
    refine x_iconst (v := nI 0) d_M_output_23 (by decide) ?_
    refine x_callV (M' := m_M_bad) (As := [_]) (fr' := 0) (wd' := 0) d_M_output_24 hs.1 rfl pl_M_bad rfl (Nat.le_of_ble_eq_true rfl) (by decide) (by decide) wc_M_bad wi_M wl_M_71 wm_M_bad we_M_bad (by decide) np_M_bad (Nat.le_of_ble_eq_true rfl) (fun q hq => by cases hq) (c_M_bad hs _) (fun k a h1 q => by cases q.1) (fun v h1 q => ?_)
    obtain ⟨q1, rfl⟩ := q
    cases q1
    rw [bI_t nI_0]
    refine x_if_eq_f 32 d_M_output_27 (by decide) ((by decide)) ?_
    refine x_iconst (v := nI 0) d_M_output_30 (by decide) ?_
    refine x_iret d_M_output_31 rfl (by first | rfl | assumption) ?_
    exact ⟨rfl, rfl⟩
/-- the value of a key, in the first partitions -/
def fdL (S : Nat → Nat → Int32) (oc : Nat → Nat) (key : Int32) : Nat → Option Int32
  | 0 => none
  | p + 1 => match fdL S oc key p with
    | some v => some v
    | none => (idxOf (fun i => S 13 (p * 100 + i)) key (oc p)).map (fun i => S 14 (p * 100 + i))
theorem fdL_some {S : Nat → Nat → Int32} {oc : Nat → Nat} {key : Int32} {p : Nat} {v : Int32} (h : fdL S oc key p = some v) : ∀ m, fdL S oc key (p + m) = some v
  | 0 => h
  | m + 1 => by
    have ih := fdL_some h m
    rw [show p + (m + 1) = (p + m) + 1 from rfl, fdL, ih]
def fdS (S : Nat → Nat → Int32) (oc : Nat → Nat) (key : Int32) (q : Nat) : (Nat → Nat → Int32) × Int32 := match fdL S oc key q with
  | some v => (xu S 0 14 (nI 0), v)
  | none => (xu (xu S 0 14 (nI 0)) 0 14 (nI 1), nI 0)
theorem c_M_find (hs : MSh h0 y) (key : Int32) {q : Nat} {oc : Nat → Nat} (hq : S 0 25 = nI q) (hq3 : q ≤ 3) (ho : ∀ p, p < q → S 15 p = nI (oc p) ∧ oc p ≤ 100) : xVM l G 1 21 m_M_find [.ref y, .int key] (mset y S h0) (fun r h' => r = .inl (some (.int (fdS S oc key q).2)) ∧ h' = mset y (fdS S oc key q).1 h0) := by
  have lp : ∀ m p : Nat, p + m = q → fdL S oc key p = none → xV l G 1 21 m_M_find 7 [(2, .int (nI p)), (0, .ref y), (1, .int key)] [] (mset y (xu S 0 14 (nI 0)) h0) (fun r h' => r = .inl (some (.int (fdS S oc key q).2)) ∧ h' = mset y (fdS S oc key q).1 h0) := by
    intro m
    induction m with
    | zero =>
      intro p hp hn
      obtain rfl : p = q := by omega
      refine x_iload_n d_M_find_7 rfl ?_
      refine x_aload_n d_M_find_8 rfl ?_
      refine xm_get (j := 25) d_M_find_9 hs rfl (by decide) wf_M_167 (fun _ _ => rfl) ?_
      rw [xu_j _ _ _ _ (by decide), hq]
      refine x_icmp_ge_t (tgt := 66) d_M_find_12 (by decide) ((nI_le (by omega) (by omega))) ?_
      refine x_aload_n d_M_find_66 rfl ?_
      refine x_iconst (v := nI 1) d_M_find_67 (by decide) ?_
      refine x_callV (M' := m_M_fail) (As := [_]) (fr' := 0) (wd' := 0) d_M_find_68 hs.1 rfl pl_M_fail rfl (Nat.le_of_ble_eq_true rfl) (by decide) (by decide) wc_M_fail wi_M wl_M_82 wm_M_fail we_M_fail (by decide) np_M_fail (Nat.le_of_ble_eq_true rfl) (fun q hq => by cases hq) (c_M_fail hs _) (fun k a h1 q => by cases q.1) (fun v h1 q => ?_)
      obtain ⟨q1, rfl⟩ := q
      cases q1
      refine x_iret d_M_find_71 rfl (by first | rfl | assumption) ?_
      rw [show fdS S oc key p = (xu (xu S 0 14 (nI 0)) 0 14 (nI 1), nI 0) by unfold fdS; rw [hn]]
      exact ⟨rfl, rfl⟩
    | succ m ih =>
      intro p hp hn
      obtain ⟨o1, o2⟩ := ho p (by omega)
      have p15 : p < mlen 15 := by show p < 3; omega
      have lp2 : ∀ m2 i : Nat, i + m2 = oc p → (∀ j, j < i → S 13 (p * 100 + j) ≠ key) → xV l G 1 21 m_M_find 17 [(3, .int (nI i)), (2, .int (nI p)), (0, .ref y), (1, .int key)] [] (mset y (xu S 0 14 (nI 0)) h0) (fun r h' => r = .inl (some (.int (fdS S oc key q).2)) ∧ h' = mset y (fdS S oc key q).1 h0) := by
        intro m2
        induction m2 with
        | zero =>
          intro i hi hj
          obtain rfl : i = oc p := by omega
          have nx := ih (p + 1) (by omega) (by rw [fdL, hn]; show Option.map _ _ = none; rw [idxOf_none.mpr hj]; rfl)
          refine x_iload_n d_M_find_17 rfl ?_
          refine x_aload_n d_M_find_18 rfl ?_
          refine xm_ref (k := 15) (j := 30) d_M_find_19 hs (by decide) rfl rfl (by decide) wf_M_61 rfl ?_
          refine x_iload_n d_M_find_22 rfl ?_
          refine xm_ald d_M_find_23 hs (by decide) rfl (by first | decide | assumption | omega) ?_
          rw [xu_k _ _ _ (by decide), o1]
          refine x_icmp_ge_t (tgt := 60) d_M_find_24 (by decide) ((nI_le (by omega) (by omega))) ?_
          first | refine x_incN d_M_find_60 rfl (by decide) ?_ | refine x_inc d_M_find_60 rfl (by decide) ?_
          refine x_goto (tgt := 7) d_M_find_63 (by decide) ?_
          refine xV.loc (nx) (by repeat (first | exact trivial | refine ⟨rfl, ?_⟩))
        | succ m2 ih2 =>
          intro i hi hj
          have x13 : p * 100 + i < mlen 13 := by show p * 100 + i < 300; omega
          have x14 : p * 100 + i < mlen 14 := by show p * 100 + i < 300; omega
          refine x_iload_n d_M_find_17 rfl ?_
          refine x_aload_n d_M_find_18 rfl ?_
          refine xm_ref (k := 15) (j := 30) d_M_find_19 hs (by decide) rfl rfl (by decide) wf_M_61 rfl ?_
          refine x_iload_n d_M_find_22 rfl ?_
          refine xm_ald d_M_find_23 hs (by decide) rfl (by first | decide | assumption | omega) ?_
          rw [xu_k _ _ _ (by decide), o1]
          refine x_icmp_ge_f 60 d_M_find_24 (by decide) ((nI_ge (by omega) (by omega))) ?_
          refine x_aload_n d_M_find_27 rfl ?_
          refine xm_ref (k := 13) (j := 28) d_M_find_28 hs (by decide) rfl rfl (by decide) wf_M_55 rfl ?_
          refine x_iload_n d_M_find_31 rfl ?_
          refine x_bipush (v := nI 100) d_M_find_32 (by decide) ?_
          refine x_imul d_M_find_34 ?_
          refine x_iload_n d_M_find_35 rfl ?_
          refine x_iadd d_M_find_36 ?_
          rw [nI_mul, nI_add]
          refine xm_ald d_M_find_37 hs (by decide) rfl (by first | decide | assumption | omega) ?_
          refine x_iload_n d_M_find_38 rfl ?_
          rw [xu_k _ _ _ (by decide)]
          refine x_icmp_ne (tgt := 54) d_M_find_39 (by decide) (fun c1 => ?_) (fun c1 => ?_)
          · have nx := ih2 (i + 1) (by omega) (fun j hj9 => by
              rcases Nat.lt_succ_iff_lt_or_eq.mp hj9 with h2 | h2
              · exact hj j h2
              · rw [h2]; exact c1)
            first | refine x_incN d_M_find_54 rfl (by decide) ?_ | refine x_inc d_M_find_54 rfl (by decide) ?_
            refine x_goto (tgt := 17) d_M_find_57 (by decide) ?_
            refine xV.loc (nx) (by repeat (first | exact trivial | refine ⟨rfl, ?_⟩))
          · have e : fdL S oc key (p + 1) = some (S 14 (p * 100 + i)) := by
              rw [fdL, hn]; show Option.map _ _ = _; rw [idxOf_some (f := fun i => S 13 (p * 100 + i)) (by omega) hj c1]; rfl
            have e2 := fdL_some e m
            rw [show p + 1 + m = q by omega] at e2
            refine x_aload_n d_M_find_42 rfl ?_
            refine xm_ref (k := 14) (j := 29) d_M_find_43 hs (by decide) rfl rfl (by decide) wf_M_58 rfl ?_
            refine x_iload_n d_M_find_46 rfl ?_
            refine x_bipush (v := nI 100) d_M_find_47 (by decide) ?_
            refine x_imul d_M_find_49 ?_
            refine x_iload_n d_M_find_50 rfl ?_
            refine x_iadd d_M_find_51 ?_
            rw [nI_mul, nI_add]
            refine xm_ald d_M_find_52 hs (by decide) rfl (by first | decide | assumption | omega) ?_
            refine x_iret d_M_find_53 rfl (by first | rfl | assumption) ?_
            rw [show fdS S oc key q = (xu S 0 14 (nI 0), S 14 (p * 100 + i)) by unfold fdS; rw [e2]]
            exact ⟨by rw [xu_k _ _ _ (by decide)], rfl⟩
      have nx := lp2 (oc p) 0 (by omega) (fun j hj => absurd hj (Nat.not_lt_zero j))
      refine x_iload_n d_M_find_7 rfl ?_
      refine x_aload_n d_M_find_8 rfl ?_
      refine xm_get (j := 25) d_M_find_9 hs rfl (by decide) wf_M_167 (fun _ _ => rfl) ?_
      rw [xu_j _ _ _ _ (by decide), hq]
      refine x_icmp_ge_f 66 d_M_find_12 (by decide) ((nI_ge (by omega) (by omega))) ?_
      refine x_iconst (v := nI 0) d_M_find_15 (by decide) ?_
      refine x_istore_n d_M_find_16 (by decide) ?_
      refine xV.loc (nx) (by repeat (first | exact trivial | refine ⟨rfl, ?_⟩))
  have this := lp q 0 (by omega) rfl
  unfold xVM
  refine x_aload_n d_M_find_0 rfl ?_
  refine x_iconst (v := nI 0) d_M_find_1 (by decide) ?_
  refine xm_put (j := 14) d_M_find_2 hs rfl (by decide) wf_M_64 (Or.inl rfl) (by first | rfl | assumption) rfl (fun _ _ => rfl) ?_
  refine x_iconst (v := nI 0) d_M_find_5 (by decide) ?_
  refine x_istore_n d_M_find_6 (by decide) ?_
  refine xV.loc (this) (by repeat (first | exact trivial | refine ⟨rfl, ?_⟩))
end XM13
end
section
/-- the least worker that does task k, seen from the last one on -/
def ldr (S : Nat → Nat → Int32) (k : Int32) : Nat → Int32
  | 0 => -1
  | m + 1 => if S 4 (3 - m) = k then nI (3 - m) else ldr S k m
def w6 (m : Nat) : Int32 := if m < 4 then nI (3 - m) else -1
abbrev okt (mp t w : Int32) : Prop := rng t 0 (if mp = 0 then 2 else 5) ∧ rng w 0 3
def tsK (mp : Int32) (t : Nat) : Nat := if mp = 0 then t + 8 else t
def tsW (S : Nat → Nat → Int32) (k : Nat) : Int32 := if S 8 k = 0 then ldr S (nI k) 4 else S 9 k
def tsV (S : Nat → Nat → Int32) (c np : Nat) (mp : Int32) (t : Nat) (w : Int32) : Int32 :=
  if w = 0 then (if S 8 (tsK mp t) = 0 then (if tsW S (tsK mp t) < 0 then nI 0 else nI 1) else nI 2)
  else if w = nI 1 then (if mp = 0 ∧ ¬ (∀ t, t < c → ¬ S 8 t = 0) then nI 0 else nds S np (tsK mp t))
  else if w = nI 2 then (if mp = 0 then nI 0 else rns S t) else tsW S (tsK mp t)
def tsS (S : Nat → Nat → Int32) (c r np : Nat) (mp t w : Int32) : (Nat → Nat → Int32) × Int32 :=
  if okt mp t w then (if S 0 26 = 0 then (xu (xu S 0 14 (nI 0)) 0 14 (nI 3), nI 0) else if t < nI (if mp = 0 then r else c) then (xu S 0 14 (nI 0), tsV S c np mp t.toNatClampNeg w) else (xu (xu S 0 14 (nI 0)) 0 14 (nI 2), nI 0)) else (xu S 0 14 (nI 1), nI 0)
section XM14
variable {l : Launch} {G : xG} {h0 : xH} {y : Nat} {S : Nat → Nat → Int32}
theorem ts_bad (hs : MSh h0 y) {Q : xR → xH → Prop} {m r p : Int32} (q : Q (.inl (some (.int (nI 0)))) (mset y (xu S 0 14 (nI 1)) h0)) : xV l G 3 65 m_M_task 31 (lv_args 0 [.ref y, .int m, .int r, .int p]) [.ref y] (mset y S h0) Q := by
  refine x_iconst (v := nI 0) d_M_task_31 (by decide) ?_
  refine x_callV (M' := m_M_bad) (As := [_]) (fr' := 0) (wd' := 0) d_M_task_32 hs.1 rfl pl_M_bad rfl (Nat.le_of_ble_eq_true rfl) (by decide) (by decide) wc_M_bad wi_M wl_M_71 wm_M_bad we_M_bad (by decide) np_M_bad (Nat.le_of_ble_eq_true rfl) (fun q hq => by cases hq) (c_M_bad hs _) (fun k a h1 q => by cases q.1) (fun v h1 q => ?_)
  obtain ⟨q1, rfl⟩ := q
  cases q1
  rw [bI_t nI_0]
  refine x_if_eq_f 40 d_M_task_35 (by decide) ((by decide)) ?_
  refine x_iconst (v := nI 0) d_M_task_38 (by decide) ?_
  refine x_iret d_M_task_39 rfl (by first | rfl | assumption) ?_
  exact q
abbrev tsL (y k : Nat) (mp w : Int32) (t : Nat) (who : Int32) : List (Nat × Value) := [(5, .int who), (4, .int (nI k)), (0, .ref y), (1, .int mp), (2, .int (nI t)), (3, .int w)]
theorem ts_end (hs : MSh h0 y) {c r np t k : Nat} {mp w : Int32} (hT : TI S c r np) (hk : k = tsK mp t) (hkk : tok k) (htm : ¬ mp = 0 → t < 6) :
    xV l G 3 65 m_M_task 155 (tsL y k mp w t (tsW S k)) [] (mset y S h0) (fun q h' => q = .inl (some (.int (tsV S c np mp t w))) ∧ h' = mset y S h0) := by
  obtain ⟨hc, hc6, hr, hr1, hr3, hp, hnp, hb, htk, hgs⟩ := hT
  have hr0 : ¬ S 0 19 = 0 := by rw [hr]; exact nI_ne0 hr1 (by omega)
  have k8 : k < mlen 8 := by show k < 11; omega
  unfold tsV
  rw [← hk]
  by_cases w0 : w = 0
  · rw [if_pos w0]
    refine x_iload_n d_M_task_155 rfl ?_
    refine x_if_ne_f 184 d_M_task_156 (by decide) (w0) ?_
    refine x_aload_n d_M_task_159 rfl ?_
    refine xm_ref (k := 8) (j := 7) d_M_task_160 hs (by decide) rfl rfl (by decide) wf_M_32 rfl ?_
    refine x_iload d_M_task_163 rfl ?_
    refine xm_zld d_M_task_165 hs (by decide) rfl (by first | decide | assumption | omega) ?_
    by_cases d0 : S 8 k = 0
    · rw [if_pos d0]
      refine x_if_eq_t (tgt := 173) d_M_task_166 (by decide) (d0) ?_
      refine x_iload d_M_task_173 rfl ?_
      by_cases n0 : tsW S k < 0
      · rw [if_pos n0]
        refine x_if_lt_t (tgt := 182) d_M_task_175 (by decide) (n0) ?_
        refine x_iconst (v := nI 0) d_M_task_182 (by decide) ?_
        refine x_iret d_M_task_183 rfl (by first | rfl | assumption) ?_
        exact ⟨rfl, rfl⟩
      · rw [if_neg n0]
        refine x_if_lt_f 182 d_M_task_175 (by decide) (n0) ?_
        refine x_iconst (v := nI 1) d_M_task_178 (by decide) ?_
        refine x_goto (tgt := 183) d_M_task_179 (by decide) ?_
        refine x_iret d_M_task_183 rfl (by first | rfl | assumption) ?_
        exact ⟨rfl, rfl⟩
    · rw [if_neg d0]
      refine x_if_eq_f 173 d_M_task_166 (by decide) (d0) ?_
      refine x_iconst (v := nI 2) d_M_task_169 (by decide) ?_
      refine x_goto (tgt := 183) d_M_task_170 (by decide) ?_
      refine x_iret d_M_task_183 rfl (by first | rfl | assumption) ?_
      exact ⟨rfl, rfl⟩
  · rw [if_neg w0]
    refine x_iload_n d_M_task_155 rfl ?_
    refine x_if_ne_t (tgt := 184) d_M_task_156 (by decide) (w0) ?_
    refine x_iload_n d_M_task_184 rfl ?_
    refine x_iconst (v := nI 1) d_M_task_185 (by decide) ?_
    by_cases w1 : w = nI 1
    · rw [if_pos w1]
      refine x_icmp_ne_f 211 d_M_task_186 (by decide) (w1) ?_
      refine x_iload_n d_M_task_189 rfl ?_
      by_cases m0 : mp = 0
      · skip
        refine x_if_ne_f 200 d_M_task_190 (by decide) (m0) ?_
        refine x_aload_n d_M_task_193 rfl ?_
        refine x_callV (M' := m_M_mapsDone) (As := []) (fr' := 0) (wd' := 0) d_M_task_194 hs.1 rfl pl_M_mapsDone rfl (Nat.le_of_ble_eq_true rfl) (by decide) (by decide) wc_M_mapsDone wi_M wl_M_140 wm_M_mapsDone we_M_mapsDone (by decide) np_M_mapsDone (Nat.le_of_ble_eq_true rfl) (fun q hq => by cases hq) (c_M_mapsDone hs hc hc6) (fun k a h1 q => by cases q.1) (fun v h1 q => ?_)
        obtain ⟨q1, rfl⟩ := q
        cases q1
        by_cases md : ∀ t, t < c → ¬ S 8 t = 0
        · rw [bI_t md, if_neg (fun q => q.2 md)]
          refine x_if_eq_f 209 d_M_task_197 (by decide) ((by decide)) ?_
          refine x_aload_n d_M_task_200 rfl ?_
          refine x_iload d_M_task_201 rfl ?_
          refine x_callV (M' := m_M_needs) (As := [_]) (fr' := 2) (wd' := 44) d_M_task_203 hs.1 rfl pl_M_needs rfl (Nat.le_of_ble_eq_true rfl) (by decide) (by decide) wc_M_needs wi_M wl_M_157 wm_M_needs we_M_needs (by decide) np_M_needs (Nat.le_of_ble_eq_true rfl) (fun q hq => by cases hq) (c_M_needs hs hkk hp hnp hr0 hb) (fun k a h1 q => by cases q.1) (fun v h1 q => ?_)
          obtain ⟨q1, rfl⟩ := q
          cases q1
          refine x_goto (tgt := 210) d_M_task_206 (by decide) ?_
          refine x_iret d_M_task_210 rfl (by first | rfl | assumption) ?_
          exact ⟨rfl, rfl⟩
        · rw [bI_f md, if_pos ⟨m0, md⟩]
          refine x_if_eq_t (tgt := 209) d_M_task_197 (by decide) ((by decide)) ?_
          refine x_iconst (v := nI 0) d_M_task_209 (by decide) ?_
          refine x_iret d_M_task_210 rfl (by first | rfl | assumption) ?_
          exact ⟨rfl, rfl⟩
      · rw [if_neg (fun q => m0 q.1)]
        refine x_if_ne_t (tgt := 200) d_M_task_190 (by decide) (m0) ?_
        refine x_aload_n d_M_task_200 rfl ?_
        refine x_iload d_M_task_201 rfl ?_
        refine x_callV (M' := m_M_needs) (As := [_]) (fr' := 2) (wd' := 44) d_M_task_203 hs.1 rfl pl_M_needs rfl (Nat.le_of_ble_eq_true rfl) (by decide) (by decide) wc_M_needs wi_M wl_M_157 wm_M_needs we_M_needs (by decide) np_M_needs (Nat.le_of_ble_eq_true rfl) (fun q hq => by cases hq) (c_M_needs hs hkk hp hnp hr0 hb) (fun k a h1 q => by cases q.1) (fun v h1 q => ?_)
        obtain ⟨q1, rfl⟩ := q
        cases q1
        refine x_goto (tgt := 210) d_M_task_206 (by decide) ?_
        refine x_iret d_M_task_210 rfl (by first | rfl | assumption) ?_
        exact ⟨rfl, rfl⟩
    · rw [if_neg w1]
      refine x_icmp_ne_t (tgt := 211) d_M_task_186 (by decide) (w1) ?_
      refine x_iload_n d_M_task_211 rfl ?_
      refine x_iconst (v := nI 2) d_M_task_212 (by decide) ?_
      by_cases w2 : w = nI 2
      · rw [if_pos w2]
        refine x_icmp_ne_f 232 d_M_task_213 (by decide) (w2) ?_
        refine x_iload_n d_M_task_216 rfl ?_
        by_cases m0 : mp = 0
        · rw [if_pos m0]
          refine x_if_eq_t (tgt := 228) d_M_task_217 (by decide) (m0) ?_
          refine x_iconst (v := nI 0) d_M_task_228 (by decide) ?_
          refine x_goto (tgt := 234) d_M_task_229 (by decide) ?_
          refine x_iret d_M_task_234 rfl (by first | rfl | assumption) ?_
          exact ⟨rfl, rfl⟩
        · rw [if_neg m0]
          refine x_if_eq_f 228 d_M_task_217 (by decide) (m0) ?_
          refine x_aload_n d_M_task_220 rfl ?_
          refine x_iload_n d_M_task_221 rfl ?_
          refine x_callV (M' := m_M_runs) (As := [_]) (fr' := 0) (wd' := 0) d_M_task_222 hs.1 rfl pl_M_runs rfl (Nat.le_of_ble_eq_true rfl) (by decide) (by decide) wc_M_runs wi_M wl_M_134 wm_M_runs we_M_runs (by decide) np_M_runs (Nat.le_of_ble_eq_true rfl) (fun q hq => by cases hq) (c_M_runs hs (htm m0) hb) (fun k a h1 q => by cases q.1) (fun v h1 q => ?_)
          obtain ⟨q1, rfl⟩ := q
          cases q1
          refine x_goto (tgt := 234) d_M_task_225 (by decide) ?_
          refine x_iret d_M_task_234 rfl (by first | rfl | assumption) ?_
          exact ⟨rfl, rfl⟩
      · rw [if_neg w2]
        refine x_icmp_ne_t (tgt := 232) d_M_task_213 (by decide) (w2) ?_
        refine x_iload d_M_task_232 rfl ?_
        refine x_iret d_M_task_234 rfl (by first | rfl | assumption) ?_
        exact ⟨rfl, rfl⟩
theorem ts_mid (hs : MSh h0 y) {c r np t k : Nat} {mp w : Int32} (hT : TI S c r np) (hk : k = tsK mp t) (hkk : tok k) (htm : ¬ mp = 0 → t < 6) {who : Int32} :
    xV l G 3 65 m_M_task 92 [(4, .int (nI k)), (0, .ref y), (1, .int mp), (2, .int (nI t)), (3, .int w)] [] (mset y S h0) (fun q h' => q = .inl (some (.int (tsV S c np mp t w))) ∧ h' = mset y S h0) := by
  have fin := ts_end (l := l) (G := G) hs (w := w) hT hk hkk htm
  have k8 : k < mlen 8 := by show k < 11; omega
  have k9 : k < mlen 9 := by show k < 11; omega
  by_cases d0 : S 8 k = 0
  · rw [show tsW S k = ldr S (nI k) 4 from if_pos d0] at fin
    have lp : ∀ d m : Nat, m + d = 4 → xV l G 3 65 m_M_task 118 ((6, .int (w6 m)) :: tsL y k mp w t (ldr S (nI k) m)) [] (mset y S h0) (fun q h' => q = .inl (some (.int (tsV S c np mp t w))) ∧ h' = mset y S h0) := by
      intro d
      induction d with
      | zero =>
        intro m hm
        obtain rfl : m = 4 := by omega
        refine x_iload d_M_task_118 rfl ?_
        refine x_if_lt_t (tgt := 155) d_M_task_120 (by decide) ((by decide)) ?_
        refine xV.loc (fin) (by repeat (first | exact trivial | refine ⟨rfl, ?_⟩))
      | succ d ih =>
        intro m hm
        have nx := ih (m + 1) (by omega)
        have m4 : 3 - m < mlen 4 := by show 3 - m < 4; omega
        rw [show w6 m = nI (3 - m) from if_pos (by omega)]
        have dec : nI (3 - m) + Int32.ofInt (-1) = w6 (m + 1) := by
          obtain rfl | rfl | rfl | rfl : m = 0 ∨ m = 1 ∨ m = 2 ∨ m = 3 := by omega
          · rfl
          · rfl
          · rfl
          · rfl
        refine x_iload d_M_task_118 rfl ?_
        refine x_if_lt_f 155 d_M_task_120 (by decide) ((nI_pos (by omega))) ?_
        refine x_aload_n d_M_task_123 rfl ?_
        refine xm_ref (k := 8) (j := 7) d_M_task_124 hs (by decide) rfl rfl (by decide) wf_M_32 rfl ?_
        refine x_iload d_M_task_127 rfl ?_
        refine xm_zld d_M_task_129 hs (by decide) rfl (by first | decide | assumption | omega) ?_
        refine x_if_ne_f 155 d_M_task_130 (by decide) (d0) ?_
        refine x_aload_n d_M_task_133 rfl ?_
        refine xm_ref (k := 4) (j := 3) d_M_task_134 hs (by decide) rfl rfl (by decide) wf_M_19 rfl ?_
        refine x_iload d_M_task_137 rfl ?_
        refine xm_ald d_M_task_139 hs (by decide) rfl (by first | decide | assumption | omega) ?_
        refine x_iload d_M_task_140 rfl ?_
        refine x_icmp_ne (tgt := 149) d_M_task_142 (by decide) (fun c1 => ?_) (fun c1 => ?_)
        · rw [show ldr S (nI k) (m + 1) = ldr S (nI k) m from if_neg c1] at nx
          refine x_iinc d_M_task_149 rfl dec (by decide) ?_
          refine x_goto (tgt := 118) d_M_task_152 (by decide) ?_
          refine xV.loc (nx) (by repeat (first | exact trivial | refine ⟨rfl, ?_⟩))
        · rw [show ldr S (nI k) (m + 1) = nI (3 - m) from if_pos c1] at nx
          refine x_iload d_M_task_145 rfl ?_
          refine x_istore d_M_task_147 (by decide) ?_
          refine x_iinc d_M_task_149 rfl dec (by decide) ?_
          refine x_goto (tgt := 118) d_M_task_152 (by decide) ?_
          refine xV.loc (nx) (by repeat (first | exact trivial | refine ⟨rfl, ?_⟩))
    have this := lp 4 0 (by omega)
    refine x_aload_n d_M_task_92 rfl ?_
    refine xm_ref (k := 8) (j := 7) d_M_task_93 hs (by decide) rfl rfl (by decide) wf_M_32 rfl ?_
    refine x_iload d_M_task_96 rfl ?_
    refine xm_zld d_M_task_98 hs (by decide) rfl (by first | decide | assumption | omega) ?_
    refine x_if_eq_t (tgt := 112) d_M_task_99 (by decide) (d0) ?_
    refine x_iconst (v := (-1)) d_M_task_112 (by decide) ?_
    refine x_istore d_M_task_113 (by decide) ?_
    refine x_iconst (v := nI 3) d_M_task_115 (by decide) ?_
    refine x_istore d_M_task_116 (by decide) ?_
    refine xV.loc (this) (by repeat (first | exact trivial | refine ⟨rfl, ?_⟩))
  · rw [show tsW S k = S 9 k from if_neg d0] at fin
    refine x_aload_n d_M_task_92 rfl ?_
    refine xm_ref (k := 8) (j := 7) d_M_task_93 hs (by decide) rfl rfl (by decide) wf_M_32 rfl ?_
    refine x_iload d_M_task_96 rfl ?_
    refine xm_zld d_M_task_98 hs (by decide) rfl (by first | decide | assumption | omega) ?_
    refine x_if_eq_f 112 d_M_task_99 (by decide) (d0) ?_
    refine x_aload_n d_M_task_102 rfl ?_
    refine xm_ref (k := 9) (j := 8) d_M_task_103 hs (by decide) rfl rfl (by decide) wf_M_35 rfl ?_
    refine x_iload d_M_task_106 rfl ?_
    refine xm_ald d_M_task_108 hs (by decide) rfl (by first | decide | assumption | omega) ?_
    refine x_goto (tgt := 113) d_M_task_109 (by decide) ?_
    refine x_istore d_M_task_113 (by decide) ?_
    refine x_iconst (v := nI 3) d_M_task_115 (by decide) ?_
    refine x_istore d_M_task_116 (by decide) ?_
    refine x_iload d_M_task_118 rfl ?_
    refine x_if_lt_f 155 d_M_task_120 (by decide) ((by decide)) ?_
    refine x_aload_n d_M_task_123 rfl ?_
    refine xm_ref (k := 8) (j := 7) d_M_task_124 hs (by decide) rfl rfl (by decide) wf_M_32 rfl ?_
    refine x_iload d_M_task_127 rfl ?_
    refine xm_zld d_M_task_129 hs (by decide) rfl (by first | decide | assumption | omega) ?_
    refine x_if_ne_t (tgt := 155) d_M_task_130 (by decide) (d0) ?_
    refine xV.loc (fin) (by repeat (first | exact trivial | refine ⟨rfl, ?_⟩))
theorem c_M_task (hs : MSh h0 y) (mp t w : Int32) {c r np : Nat} (hT : ¬ S 0 26 = 0 → TI S c r np) : xVM l G 3 65 m_M_task [.ref y, .int mp, .int t, .int w] (mset y S h0) (fun q h' => q = .inl (some (.int (tsS S c r np mp t w).2)) ∧ h' = mset y (tsS S c r np mp t w).1 h0) := by
  have bad : ¬ okt mp t w → tsS S c r np mp t w = (xu S 0 14 (nI 1), nI 0) := fun q => if_neg q
  have main : okt mp t w → xV l G 3 65 m_M_task 27 (lv_args 0 [.ref y, .int mp, .int t, .int w]) [.ref y] (mset y S h0) (fun q h' => q = .inl (some (.int (tsS S c r np mp t w).2)) ∧ h' = mset y (tsS S c r np mp t w).1 h0) := by
    intro hok
    have e : tsS S c r np mp t w = if S 0 26 = 0 then (xu (xu S 0 14 (nI 0)) 0 14 (nI 3), nI 0) else if t < nI (if mp = 0 then r else c) then (xu S 0 14 (nI 0), tsV S c np mp t.toNatClampNeg w) else (xu (xu S 0 14 (nI 0)) 0 14 (nI 2), nI 0) := if_pos hok
    rw [e]
    refine x_iconst (v := nI 1) d_M_task_27 (by decide) ?_
    refine x_goto (tgt := 32) d_M_task_28 (by decide) ?_
    refine x_callV (M' := m_M_bad) (As := [_]) (fr' := 0) (wd' := 0) d_M_task_32 hs.1 rfl pl_M_bad rfl (Nat.le_of_ble_eq_true rfl) (by decide) (by decide) wc_M_bad wi_M wl_M_71 wm_M_bad we_M_bad (by decide) np_M_bad (Nat.le_of_ble_eq_true rfl) (fun q hq => by cases hq) (c_M_bad hs _) (fun k a h1 q => by cases q.1) (fun v h1 q => ?_)
    obtain ⟨q1, rfl⟩ := q
    cases q1
    rw [bI_f (by decide)]
    refine x_if_eq_t (tgt := 40) d_M_task_35 (by decide) ((by decide)) ?_
    refine x_aload_n d_M_task_40 rfl ?_
    refine xm_get (j := 26) d_M_task_41 hs rfl (by decide) wf_M_75 (fun _ _ => rfl) ?_
    rw [xu_j _ _ _ _ (by decide)]
    by_cases j0 : S 0 26 = 0
    · rw [if_pos j0]
      refine x_if_ne_f 53 d_M_task_44 (by decide) (j0) ?_
      refine x_aload_n d_M_task_47 rfl ?_
      refine x_iconst (v := nI 3) d_M_task_48 (by decide) ?_
      refine x_callV (M' := m_M_fail) (As := [_]) (fr' := 0) (wd' := 0) d_M_task_49 hs.1 rfl pl_M_fail rfl (Nat.le_of_ble_eq_true rfl) (by decide) (by decide) wc_M_fail wi_M wl_M_82 wm_M_fail we_M_fail (by decide) np_M_fail (Nat.le_of_ble_eq_true rfl) (fun q hq => by cases hq) (c_M_fail hs _) (fun k a h1 q => by cases q.1) (fun v h1 q => ?_)
      obtain ⟨q1, rfl⟩ := q
      cases q1
      refine x_iret d_M_task_52 rfl (by first | rfl | assumption) ?_
      exact ⟨rfl, rfl⟩
    · rw [if_neg j0]
      have hT1 : TI (xu S 0 14 (nI 0)) c r np := (hT j0).keep (xu_k _ _ _ (by decide)) (xu_j _ _ _ _ (by decide)) (xu_j _ _ _ _ (by decide)) (xu_j _ _ _ _ (by decide)) (xu_j _ _ _ _ (by decide)) (fun v _ => Or.inr (Or.inl (by rw [xu_k _ _ _ (by decide)])))
      have ev : ∀ T, tsV (xu S 0 14 (nI 0)) c np mp T w = tsV S c np mp T w := by
        intro T
        have e4 : ∀ k m, ldr (xu S 0 14 (nI 0)) k m = ldr S k m := by
          intro k m
          induction m with
          | zero => rfl
          | succ m ih => unfold ldr; rw [ih, xu_k _ _ _ (by decide)]
        have en : ∀ k, nds (xu S 0 14 (nI 0)) np k = nds S np k := fun k => nds_congr (xu_k _ _ _ (by decide)) (xu_k _ _ _ (by decide)) (xu_k _ _ _ (by decide)) (xu_j _ _ _ _ (by decide)) (xu_j _ _ _ _ (by decide)) np k
        have er : ∀ k, rns (xu S 0 14 (nI 0)) k = rns S k := by intro k; unfold rns; rw [xu_k _ _ _ (by decide), xu_j _ _ _ _ (by decide)]
        unfold tsV tsW
        rw [en, er, e4, xu_k _ _ _ (by decide), xu_k _ _ _ (by decide)]
      obtain ⟨T, rfl, -, hTb⟩ := rng_of (by decide) (by split <;> decide) hok.1
      obtain ⟨hc, hc6, hr, hr1, hr3, hp, hnp, hb, htk, hgs⟩ := hT j0
      have T5 : T ≤ 5 := by
        by_cases m0 : mp = 0
        · rw [if_pos m0] at hTb; omega
        · rw [if_neg m0] at hTb; omega
      rw [nI_clamp (by omega)]
      by_cases m0 : mp = 0
      · rw [if_pos m0]
        rw [if_pos m0] at hTb
        refine x_if_ne_t (tgt := 53) d_M_task_44 (by decide) (j0) ?_
        refine x_iload_n d_M_task_53 rfl ?_
        refine x_iload_n d_M_task_54 rfl ?_
        refine x_if_eq_t (tgt := 65) d_M_task_55 (by decide) (m0) ?_
        refine x_aload_n d_M_task_65 rfl ?_
        refine xm_get (j := 19) d_M_task_66 hs rfl (by decide) wf_M_103 (fun _ _ => rfl) ?_
        rw [xu_j _ _ _ _ (by decide), hr]
        by_cases lt : T < r
        · rw [if_pos (nI_lt lt (by omega)), ← ev]
          have mid := ts_mid (l := l) (G := G) hs (k := T + 8) (w := w) (who := 0) hT1 (mp := mp) (t := T) (by unfold tsK; rw [if_pos m0]) (by omega) (fun q => absurd m0 q)
          refine x_icmp_lt_t (tgt := 78) d_M_task_69 (by decide) ((nI_lt lt (by omega))) ?_
          refine x_iload_n d_M_task_78 rfl ?_
          refine x_if_eq_t (tgt := 86) d_M_task_79 (by decide) (m0) ?_
          refine x_iload_n d_M_task_86 rfl ?_
          refine x_bipush (v := nI 8) d_M_task_87 (by decide) ?_
          refine x_iadd d_M_task_89 ?_
          refine x_istore d_M_task_90 (by decide) ?_
          rw [nI_add]
          refine xV.loc (mid) (by repeat (first | exact trivial | refine ⟨rfl, ?_⟩))
        · rw [if_neg (nI_nlt (by omega) (by omega))]
          refine x_icmp_lt_f 78 d_M_task_69 (by decide) ((nI_nlt (by omega) (by omega))) ?_
          refine x_aload_n d_M_task_72 rfl ?_
          refine x_iconst (v := nI 2) d_M_task_73 (by decide) ?_
          refine x_callV (M' := m_M_fail) (As := [_]) (fr' := 0) (wd' := 0) d_M_task_74 hs.1 rfl pl_M_fail rfl (Nat.le_of_ble_eq_true rfl) (by decide) (by decide) wc_M_fail wi_M wl_M_82 wm_M_fail we_M_fail (by decide) np_M_fail (Nat.le_of_ble_eq_true rfl) (fun q hq => by cases hq) (c_M_fail hs _) (fun k a h1 q => by cases q.1) (fun v h1 q => ?_)
          obtain ⟨q1, rfl⟩ := q
          cases q1
          refine x_iret d_M_task_77 rfl (by first | rfl | assumption) ?_
          exact ⟨rfl, rfl⟩
      · rw [if_neg m0]
        refine x_if_ne_t (tgt := 53) d_M_task_44 (by decide) (j0) ?_
        refine x_iload_n d_M_task_53 rfl ?_
        refine x_iload_n d_M_task_54 rfl ?_
        refine x_if_eq_f 65 d_M_task_55 (by decide) (m0) ?_
        refine x_aload_n d_M_task_58 rfl ?_
        refine xm_get (j := 13) d_M_task_59 hs rfl (by decide) wf_M_79 (fun _ _ => rfl) ?_
        refine x_goto (tgt := 69) d_M_task_62 (by decide) ?_
        rw [xu_j _ _ _ _ (by decide), hc]
        by_cases lt : T < c
        · rw [if_pos (nI_lt lt (by omega)), ← ev]
          have mid := ts_mid (l := l) (G := G) hs (k := T) (w := w) (who := 0) hT1 (mp := mp) (t := T) (by unfold tsK; rw [if_neg m0]) (by omega) (fun q => by omega)
          refine x_icmp_lt_t (tgt := 78) d_M_task_69 (by decide) ((nI_lt lt (by omega))) ?_
          refine x_iload_n d_M_task_78 rfl ?_
          refine x_if_eq_f 86 d_M_task_79 (by decide) (m0) ?_
          refine x_iload_n d_M_task_82 rfl ?_
          refine x_goto (tgt := 90) d_M_task_83 (by decide) ?_
          refine x_istore d_M_task_90 (by decide) ?_
          refine xV.loc (mid) (by repeat (first | exact trivial | refine ⟨rfl, ?_⟩))
        · rw [if_neg (nI_nlt (by omega) (by omega))]
          refine x_icmp_lt_f 78 d_M_task_69 (by decide) ((nI_nlt (by omega) (by omega))) ?_
          refine x_aload_n d_M_task_72 rfl ?_
          refine x_iconst (v := nI 2) d_M_task_73 (by decide) ?_
          refine x_callV (M' := m_M_fail) (As := [_]) (fr' := 0) (wd' := 0) d_M_task_74 hs.1 rfl pl_M_fail rfl (Nat.le_of_ble_eq_true rfl) (by decide) (by decide) wc_M_fail wi_M wl_M_82 wm_M_fail we_M_fail (by decide) np_M_fail (Nat.le_of_ble_eq_true rfl) (fun q hq => by cases hq) (c_M_fail hs _) (fun k a h1 q => by cases q.1) (fun v h1 q => ?_)
          obtain ⟨q1, rfl⟩ := q
          cases q1
          refine x_iret d_M_task_77 rfl (by first | rfl | assumption) ?_
          exact ⟨rfl, rfl⟩
  have rest : ∀ b : Nat, b = (if mp = 0 then 2 else 5) → xV l G 3 65 m_M_task 12 (lv_args 0 [.ref y, .int mp, .int t, .int w]) [.int (nI b), .int (nI 0), .int t, .ref y] (mset y S h0) (fun q h' => q = .inl (some (.int (tsS S c r np mp t w).2)) ∧ h' = mset y (tsS S c r np mp t w).1 h0) := by
    intro b hb
    refine x_callS (M' := m_M_in) (As := [_, _, _]) (fr' := 0) (wd' := 0) d_M_task_12 pl_M_in rfl (Nat.le_of_ble_eq_true rfl) (by decide) (by decide) wc_M_in wi_M wl_M_67 ws_M_in (by decide) np_M_in (Nat.le_of_ble_eq_true rfl) (fun q hq => by cases hq) (c_M_in _ _ _) (fun k a h1 q => by cases q.1) (fun v h1 q => ?_)
    obtain ⟨q1, rfl⟩ := q
    cases q1
    by_cases h1 : rng t 0 b
    · rw [bI_t h1]
      refine x_if_eq_f 31 d_M_task_15 (by decide) ((by decide)) ?_
      refine x_iload_n d_M_task_18 rfl ?_
      refine x_iconst (v := nI 0) d_M_task_19 (by decide) ?_
      refine x_iconst (v := nI 3) d_M_task_20 (by decide) ?_
      refine x_callS (M' := m_M_in) (As := [_, _, _]) (fr' := 0) (wd' := 0) d_M_task_21 pl_M_in rfl (Nat.le_of_ble_eq_true rfl) (by decide) (by decide) wc_M_in wi_M wl_M_67 ws_M_in (by decide) np_M_in (Nat.le_of_ble_eq_true rfl) (fun q hq => by cases hq) (c_M_in _ _ _) (fun k a h1 q => by cases q.1) (fun v h1 q => ?_)
      obtain ⟨q1, rfl⟩ := q
      cases q1
      by_cases h2 : rng w 0 3
      · rw [bI_t h2]
        refine x_if_eq_f 31 d_M_task_24 (by decide) ((by decide)) ?_
        exact main ⟨by rw [← hb]; exact h1, h2⟩
      · rw [bad (fun q => h2 q.2), bI_f h2]
        refine x_if_eq_t (tgt := 31) d_M_task_24 (by decide) ((by decide)) ?_
        exact ts_bad hs ⟨rfl, rfl⟩
    · rw [bad (fun q => h1 (by rw [hb]; exact q.1)), bI_f h1]
      refine x_if_eq_t (tgt := 31) d_M_task_15 (by decide) ((by decide)) ?_
      exact ts_bad hs ⟨rfl, rfl⟩
  unfold xVM
  refine x_aload_n d_M_task_0 rfl ?_
  refine x_iload_n d_M_task_1 rfl ?_
  refine x_iconst (v := nI 0) d_M_task_2 (by decide) ?_
  refine x_iload_n d_M_task_3 rfl ?_
  by_cases m0 : mp = 0
  · skip
    refine x_if_eq_t (tgt := 11) d_M_task_4 (by decide) (m0) ?_
    refine x_iconst (v := nI 2) d_M_task_11 (by decide) ?_
    exact rest 2 (by rw [if_pos m0])
  · skip
    refine x_if_eq_f 11 d_M_task_4 (by decide) (m0) ?_
    refine x_iconst (v := nI 5) d_M_task_7 (by decide) ?_
    refine x_goto (tgt := 12) d_M_task_8 (by decide) ?_
    exact rest 5 (by rw [if_neg m0])
end XM14
end
section
theorem xdfI {h : xH} {t N sl : Nat} (j : Nat) : defaultValue .int = xsv .int (xnw h t N sl) (xnx h) j := by
  show Value.int 0 = Value.int (xr (xI h) (xnx h) (fun _ => (0 : Int32)) (xnx h) j); rw [xr_s]
theorem xdfZ {h : xH} {t N sl : Nat} (j : Nat) : defaultValue .boolean = xsv .boolean (xnw h t N sl) (xnx h) j := by
  show Value.int 0 = Value.int (xr (xI h) (xnx h) (fun _ => (0 : Int32)) (xnx h) j); rw [xr_s]
def mini (k j : Nat) : Int32 := if j < 4 then (if k = 3 then nI 1 else if k = 4 then -1 else if k = 7 then nI 1 else 0) else 0
def msum : Nat → Nat
  | 0 => 0
  | n + 1 => msum n + mlen (n + 1)
/-- the first n arrays of the reference are made; g: the heap before -/
def MB (g h : xH) (y n : Nat) (sc : Nat → Int32) : Prop := xnx h = y + 1 + n ∧ xsl h = xsl g + msum n ∧ xT h y = 6 + 1 ∧ (∀ k, 1 ≤ k → k ≤ n → xT h (y + k) = mkd k ∧ xN h (y + k) = mlen k ∧ xP h y (mfi k) = some (y + k) ∧ ∀ j, xI h (y + k) j = mini k j) ∧ (∀ j, xI h y j = sc j) ∧ ∀ a, a < y → xT h a = xT g a ∧ xN h a = xN g a ∧ xI h a = xI g a ∧ xP h a = xP g a ∧ xJ h a = xJ g a
theorem MB.T {g h : xH} {y n : Nat} {sc : Nat → Int32} (b : MB g h y n sc) : xT h y = 6 + 1 := b.2.2.1
theorem MB.ne {g h : xH} {y n : Nat} {sc : Nat → Int32} (b : MB g h y n sc) : y ≠ xnx h := by rw [b.1]; omega
theorem MB.T2 {g h : xH} {y n t N sl : Nat} {sc : Nat → Int32} (b : MB g h y n sc) : xT (xnw h t N sl) y = 6 + 1 := (xr_n _ _ b.ne).trans b.T
theorem MB.step {g h hx : xH} {y n j : Nat} {sc : Nat → Int32} (b : MB g h y n sc) (hn : n + 1 < 16) (hj : j = mfi (n + 1)) (e1 : hx.1 = (xnx h + 1, xsl h + mlen (n + 1))) (eT : xT hx = xr (xT h) (xnx h) (mkd (n + 1))) (eN : xN hx = xr (xN h) (xnx h) (mlen (n + 1)))
    (eI : ∀ a, a ≠ xnx h → xI hx a = xI h a) (eI2 : ∀ i, xI hx (xnx h) i = mini (n + 1) i) (eP : ∀ a, a ≠ xnx h → xP hx a = xP h a) (eJ : ∀ a, a ≠ xnx h → xJ hx a = xJ h a) : MB g (xwP hx y j (some (xnx h))) y (n + 1) sc := by
  obtain ⟨b1, b2, b3, b4, b5, b6⟩ := b
  refine ⟨?_, ?_, ?_, ?_, ?_, ?_⟩
  · show hx.1.1 = _; rw [e1]; show xnx h + 1 = _; omega
  · show hx.1.2 = _; rw [e1]; show xsl h + mlen (n + 1) = xsl g + (msum n + mlen (n + 1)); omega
  · show xT hx y = _; rw [eT, xr_n _ _ (by omega)]; exact b3
  · intro k hk1 hk2
    by_cases hk : k = n + 1
    · subst hk
      have ea : y + (n + 1) = xnx h := by omega
      refine ⟨?_, ?_, ?_, ?_⟩
      · show xT hx _ = _; rw [eT, ea, xr_s]
      · show xN hx _ = _; rw [eN, ea, xr_s]
      · show xu _ y j _ y _ = _; rw [← hj, xu_s, ea]
      · intro i; show xI hx _ i = _; rw [ea]; exact eI2 i
    · obtain ⟨c1, c2, c3, c4⟩ := b4 k hk1 (by omega)
      refine ⟨?_, ?_, ?_, ?_⟩
      · show xT hx _ = _; rw [eT, xr_n _ _ (by omega)]; exact c1
      · show xN hx _ = _; rw [eN, xr_n _ _ (by omega)]; exact c2
      · exact (xu_j _ _ _ _ (by rw [hj]; unfold mfi; split <;> split <;> omega)).trans ((congrFun (eP y (by omega)) _).trans c3)
      · intro i; show xI hx _ i = _; rw [eI _ (by omega)]; exact c4 i
  · intro i; show xI hx y i = _; rw [eI _ (by omega)]; exact b5 i
  · intro a ha
    obtain ⟨c1, c2, c3, c4, c5⟩ := b6 a ha
    refine ⟨?_, ?_, ?_, ?_, ?_⟩
    · show xT hx a = _; rw [eT, xr_n _ _ (by omega)]; exact c1
    · show xN hx a = _; rw [eN, xr_n _ _ (by omega)]; exact c2
    · show xI hx a = _; rw [eI _ (by omega)]; exact c3
    · funext i; exact (xu_a _ _ _ _ (by omega)).trans (congrFun ((eP a (by omega)).trans c4) i)
    · show xJ hx a = _; rw [eJ _ (by omega)]; exact c5
theorem MB.new {g h : xH} {y n j : Nat} {sc : Nat → Int32} (b : MB g h y n sc) (hn : n + 1 < 16) (hj : j = mfi (n + 1)) (hz : ∀ i, mini (n + 1) i = 0) : MB g (xwP (xnw h (mkd (n + 1)) (mlen (n + 1)) (mlen (n + 1))) y j (some (xnx h))) y (n + 1) sc :=
  b.step hn hj rfl rfl rfl (fun a ha => xr_n _ _ ha) (fun i => by rw [hz]; exact congrFun (xr_s _ _ _) i) (fun a ha => xr_n _ _ ha) (fun a ha => xr_n _ _ ha)
theorem MB.new4 {g h : xH} {y n j : Nat} {sc : Nat → Int32} {v : Int32} (b : MB g h y n sc) (hn : n + 1 < 16) (hj : j = mfi (n + 1)) (hz : ∀ i, mini (n + 1) i = if i < 4 then v else 0) :
    MB g (xwP (xwI (xwI (xwI (xwI (xnw h (mkd (n + 1)) (mlen (n + 1)) (mlen (n + 1))) (xnx h) 0 v) (xnx h) 1 v) (xnx h) 2 v) (xnx h) 3 v) y j (some (xnx h))) y (n + 1) sc :=
  b.step hn hj rfl rfl rfl (fun a ha => by funext i; show xu (xu (xu (xu (xr (xI h) (xnx h) (fun _ => 0)) (xnx h) 0 v) (xnx h) 1 v) (xnx h) 2 v) (xnx h) 3 v a i = _; rw [xu_a _ _ _ _ ha, xu_a _ _ _ _ ha, xu_a _ _ _ _ ha, xu_a _ _ _ _ ha]; exact congrFun (xr_n _ _ ha) i)
    (fun i => by
      rw [hz]
      show xu (xu (xu (xu (xr (xI h) (xnx h) (fun _ => 0)) (xnx h) 0 v) (xnx h) 1 v) (xnx h) 2 v) (xnx h) 3 v (xnx h) i = _
      obtain rfl | rfl | rfl | rfl | h4 : i = 0 ∨ i = 1 ∨ i = 2 ∨ i = 3 ∨ 4 ≤ i := by omega
      · rw [xu_j _ _ _ _ (by decide), xu_j _ _ _ _ (by decide), xu_j _ _ _ _ (by decide), xu_s]; rfl
      · rw [xu_j _ _ _ _ (by decide), xu_j _ _ _ _ (by decide), xu_s]; rfl
      · rw [xu_j _ _ _ _ (by decide), xu_s]; rfl
      · rw [xu_s]; rfl
      · rw [if_neg (by omega), xu_j _ _ _ _ (by omega), xu_j _ _ _ _ (by omega), xu_j _ _ _ _ (by omega), xu_j _ _ _ _ (by omega)]; exact congrFun (xr_s _ _ _) i)
    (fun a ha => xr_n _ _ ha) (fun a ha => xr_n _ _ ha)
theorem MB.sc {g h : xH} {y n j : Nat} {sc : Nat → Int32} {v : Int32} (b : MB g h y n sc) : MB g (xwI h y j v) y n (fun i => if i = j then v else sc i) := by
  obtain ⟨b1, b2, b3, b4, b5, b6⟩ := b
  refine ⟨b1, b2, b3, ?_, ?_, ?_⟩
  · intro k hk1 hk2
    obtain ⟨c1, c2, c3, c4⟩ := b4 k hk1 hk2
    exact ⟨c1, c2, c3, fun i => (xu_a _ _ _ _ (by omega)).trans (c4 i)⟩
  · intro i
    show xu (xI h) y j v y i = if i = j then v else sc i
    by_cases hi : i = j
    · rw [hi, xu_s, if_pos rfl]
    · rw [xu_j _ _ _ _ hi, if_neg hi]; exact b5 i
  · intro a ha
    obtain ⟨c1, c2, c3, c4, c5⟩ := b6 a ha
    exact ⟨c1, c2, by funext i; show xu (xI h) y j v a i = _; rw [xu_a _ _ _ _ (by omega), c3], c4, c5⟩
theorem xabs {P : xH → Prop} {l : Launch} {G : xG} {fr wd : Nat} {M : xM} {pc : Nat} {L : List (Nat × Value)} {st : List Value} {H : xH} {Q : xR → xH → Prop} (p : P H) (k : ∀ h, P h → xV l G fr wd M pc L st h Q) : xV l G fr wd M pc L st H Q := k H p
def sc0 : Nat → Int32 := fun i => if i = 17 then -1 else if i = 15 then -2147483648 else 0
section XM15
variable {l : Launch} {G : xG} {y : Nat}
theorem x_zastN {h : xH} {fr wd : Nat} {M : xM} {pc : Nat} {L : List (Nat × Value)} {st : List Value} {Q : xR → xH → Prop} {a i cap : Nat} {v : Int32} (hd : decode (xMc M) pc = .ok (.bastore, 1)) (hT : xT h a = 101) (hn : xN h a = cap) (hi : i < cap) (hc : cap < 2 ^ 31) (hx0 : narrow .boolean (.int v) = .int v)
    (kq : xV l G fr wd M (pc + 1) L st (xwI h a i v) Q) : xV l G fr wd M pc L (.int v :: .int (nI i) :: .ref a :: st) h Q := by
  refine x_zast (t := 101) hd hT (by decide) rfl (by rw [hn]; exact vp_in_nI hi hc) hx0 ?_
  rw [nI_clamp (Nat.lt_trans hi hc)]
  exact kq
theorem c_M_init {g : xH} (hnx : xnx g = y + 1) (hT : xT g y = 6 + 1) (hI : ∀ j, xI g y j = 0) : xVM l G 1 20 m_M_init [.ref y] g (fun r h' => r = .inl none ∧ MB g h' y 15 sc0) := by
  have b0 : MB g g y 0 (fun _ => 0) := ⟨by omega, rfl, hT, fun k h1 h2 => by omega, hI, fun a _ => ⟨rfl, rfl, rfl, rfl, rfl⟩⟩
  unfold xVM

  refine x_aload_n d_M_init_0 rfl ?_
  refine x_objInit d_M_init_1 wl_M_1 wm_O_init wc_O_init (by decide) (by decide) (by decide) ?_
  refine x_aload_n d_M_init_4 rfl ?_
  refine x_bipush (v := nI 6) d_M_init_5 (by decide) ?_
  refine x_newa (t := 100) (ty := .int) (N := 6) d_M_init_7 (by decide) rfl rfl (fun _ _ => rfl) wa_int (by decide) (by decide) (by decide) xdfI ?_
  refine x_putP (x := some _) (k := 6) (j := 0) d_M_init_9 (MB.T2 b0) rfl (by decide) wf_M_7 (Or.inr ⟨rfl, rfl, rfl⟩) rfl rfl rfl ?_
  refine xabs (P := fun h => MB g h y 1 (fun _ => 0)) (MB.new b0 (by decide) rfl (fun i => ite_self _)) (fun h1 b1 => ?_)
  refine x_aload_n d_M_init_12 rfl ?_
  refine x_bipush (v := nI 36) d_M_init_13 (by decide) ?_
  refine x_newa (t := 100) (ty := .int) (N := 36) d_M_init_15 (by decide) rfl rfl (fun _ _ => rfl) wa_int (by decide) (by decide) (by decide) xdfI ?_
  refine x_putP (x := some _) (k := 6) (j := 1) d_M_init_17 (MB.T2 b1) rfl (by decide) wf_M_13 (Or.inr ⟨rfl, rfl, rfl⟩) rfl rfl rfl ?_
  refine xabs (P := fun h => MB g h y 2 (fun _ => 0)) (MB.new b1 (by decide) rfl (fun i => ite_self _)) (fun h2 b2 => ?_)
  refine x_aload_n d_M_init_20 rfl ?_
  refine x_iconst (v := nI 4) d_M_init_21 (by decide) ?_
  refine x_newa (t := 100) (ty := .int) (N := 4) d_M_init_22 (by decide) rfl rfl (fun _ _ => rfl) wa_int (by decide) (by decide) (by decide) xdfI ?_
  refine x_dup d_M_init_24 rfl ?_
  refine x_iconst (v := nI 0) d_M_init_25 (by decide) ?_
  refine x_iconst (v := nI 1) d_M_init_26 (by decide) ?_
  refine x_iastN (cap := 4) d_M_init_27 (xr_s _ _ _) (xr_s _ _ _) (by decide) (by decide) ?_
  refine x_dup d_M_init_28 rfl ?_
  refine x_iconst (v := nI 1) d_M_init_29 (by decide) ?_
  refine x_iconst (v := nI 1) d_M_init_30 (by decide) ?_
  refine x_iastN (cap := 4) d_M_init_31 (xr_s _ _ _) (xr_s _ _ _) (by decide) (by decide) ?_
  refine x_dup d_M_init_32 rfl ?_
  refine x_iconst (v := nI 2) d_M_init_33 (by decide) ?_
  refine x_iconst (v := nI 1) d_M_init_34 (by decide) ?_
  refine x_iastN (cap := 4) d_M_init_35 (xr_s _ _ _) (xr_s _ _ _) (by decide) (by decide) ?_
  refine x_dup d_M_init_36 rfl ?_
  refine x_iconst (v := nI 3) d_M_init_37 (by decide) ?_
  refine x_iconst (v := nI 1) d_M_init_38 (by decide) ?_
  refine x_iastN (cap := 4) d_M_init_39 (xr_s _ _ _) (xr_s _ _ _) (by decide) (by decide) ?_
  refine x_putP (x := some _) (k := 6) (j := 2) d_M_init_40 (MB.T2 (sl := 4) b2) rfl (by decide) wf_M_16 (Or.inr ⟨rfl, rfl, rfl⟩) rfl rfl rfl ?_
  refine xabs (P := fun h => MB g h y 3 (fun _ => 0)) (MB.new4 b2 (by decide) rfl (fun i => rfl)) (fun h3 b3 => ?_)
  refine x_aload_n d_M_init_43 rfl ?_
  refine x_iconst (v := nI 4) d_M_init_44 (by decide) ?_
  refine x_newa (t := 100) (ty := .int) (N := 4) d_M_init_45 (by decide) rfl rfl (fun _ _ => rfl) wa_int (by decide) (by decide) (by decide) xdfI ?_
  refine x_dup d_M_init_47 rfl ?_
  refine x_iconst (v := nI 0) d_M_init_48 (by decide) ?_
  refine x_iconst (v := (-1)) d_M_init_49 (by decide) ?_
  refine x_iastN (cap := 4) d_M_init_50 (xr_s _ _ _) (xr_s _ _ _) (by decide) (by decide) ?_
  refine x_dup d_M_init_51 rfl ?_
  refine x_iconst (v := nI 1) d_M_init_52 (by decide) ?_
  refine x_iconst (v := (-1)) d_M_init_53 (by decide) ?_
  refine x_iastN (cap := 4) d_M_init_54 (xr_s _ _ _) (xr_s _ _ _) (by decide) (by decide) ?_
  refine x_dup d_M_init_55 rfl ?_
  refine x_iconst (v := nI 2) d_M_init_56 (by decide) ?_
  refine x_iconst (v := (-1)) d_M_init_57 (by decide) ?_
  refine x_iastN (cap := 4) d_M_init_58 (xr_s _ _ _) (xr_s _ _ _) (by decide) (by decide) ?_
  refine x_dup d_M_init_59 rfl ?_
  refine x_iconst (v := nI 3) d_M_init_60 (by decide) ?_
  refine x_iconst (v := (-1)) d_M_init_61 (by decide) ?_
  refine x_iastN (cap := 4) d_M_init_62 (xr_s _ _ _) (xr_s _ _ _) (by decide) (by decide) ?_
  refine x_putP (x := some _) (k := 6) (j := 3) d_M_init_63 (MB.T2 (sl := 4) b3) rfl (by decide) wf_M_19 (Or.inr ⟨rfl, rfl, rfl⟩) rfl rfl rfl ?_
  refine xabs (P := fun h => MB g h y 4 (fun _ => 0)) (MB.new4 b3 (by decide) rfl (fun i => rfl)) (fun h4 b4 => ?_)
  refine x_aload_n d_M_init_66 rfl ?_
  refine x_iconst (v := nI 4) d_M_init_67 (by decide) ?_
  refine x_newa (t := 100) (ty := .int) (N := 4) d_M_init_68 (by decide) rfl rfl (fun _ _ => rfl) wa_int (by decide) (by decide) (by decide) xdfI ?_
  refine x_putP (x := some _) (k := 6) (j := 4) d_M_init_70 (MB.T2 b4) rfl (by decide) wf_M_22 (Or.inr ⟨rfl, rfl, rfl⟩) rfl rfl rfl ?_
  refine xabs (P := fun h => MB g h y 5 (fun _ => 0)) (MB.new b4 (by decide) rfl (fun i => ite_self _)) (fun h5 b5 => ?_)
  refine x_aload_n d_M_init_73 rfl ?_
  refine x_iconst (v := nI 4) d_M_init_74 (by decide) ?_
  refine x_newa (t := 100) (ty := .int) (N := 4) d_M_init_75 (by decide) rfl rfl (fun _ _ => rfl) wa_int (by decide) (by decide) (by decide) xdfI ?_
  refine x_putP (x := some _) (k := 6) (j := 5) d_M_init_77 (MB.T2 b5) rfl (by decide) wf_M_25 (Or.inr ⟨rfl, rfl, rfl⟩) rfl rfl rfl ?_
  refine xabs (P := fun h => MB g h y 6 (fun _ => 0)) (MB.new b5 (by decide) rfl (fun i => ite_self _)) (fun h6 b6 => ?_)
  refine x_aload_n d_M_init_80 rfl ?_
  refine x_iconst (v := nI 4) d_M_init_81 (by decide) ?_
  refine x_newa (t := 101) (ty := .boolean) (N := 4) d_M_init_82 (by decide) rfl rfl (fun _ _ => rfl) wa_boolean (by decide) (by decide) (by decide) xdfZ ?_
  refine x_dup d_M_init_84 rfl ?_
  refine x_iconst (v := nI 0) d_M_init_85 (by decide) ?_
  refine x_iconst (v := nI 1) d_M_init_86 (by decide) ?_
  refine x_zastN (cap := 4) d_M_init_87 (xr_s _ _ _) (xr_s _ _ _) (by decide) (by decide) rfl ?_
  refine x_dup d_M_init_88 rfl ?_
  refine x_iconst (v := nI 1) d_M_init_89 (by decide) ?_
  refine x_iconst (v := nI 1) d_M_init_90 (by decide) ?_
  refine x_zastN (cap := 4) d_M_init_91 (xr_s _ _ _) (xr_s _ _ _) (by decide) (by decide) rfl ?_
  refine x_dup d_M_init_92 rfl ?_
  refine x_iconst (v := nI 2) d_M_init_93 (by decide) ?_
  refine x_iconst (v := nI 1) d_M_init_94 (by decide) ?_
  refine x_zastN (cap := 4) d_M_init_95 (xr_s _ _ _) (xr_s _ _ _) (by decide) (by decide) rfl ?_
  refine x_dup d_M_init_96 rfl ?_
  refine x_iconst (v := nI 3) d_M_init_97 (by decide) ?_
  refine x_iconst (v := nI 1) d_M_init_98 (by decide) ?_
  refine x_zastN (cap := 4) d_M_init_99 (xr_s _ _ _) (xr_s _ _ _) (by decide) (by decide) rfl ?_
  refine x_putP (x := some _) (k := 6) (j := 6) d_M_init_100 (MB.T2 (sl := 4) b6) rfl (by decide) wf_M_28 (Or.inr ⟨rfl, rfl, rfl⟩) rfl rfl rfl ?_
  refine xabs (P := fun h => MB g h y 7 (fun _ => 0)) (MB.new4 b6 (by decide) rfl (fun i => rfl)) (fun h7 b7 => ?_)
  refine x_aload_n d_M_init_103 rfl ?_
  refine x_bipush (v := nI 11) d_M_init_104 (by decide) ?_
  refine x_newa (t := 101) (ty := .boolean) (N := 11) d_M_init_106 (by decide) rfl rfl (fun _ _ => rfl) wa_boolean (by decide) (by decide) (by decide) xdfZ ?_
  refine x_putP (x := some _) (k := 6) (j := 7) d_M_init_108 (MB.T2 b7) rfl (by decide) wf_M_32 (Or.inr ⟨rfl, rfl, rfl⟩) rfl rfl rfl ?_
  refine xabs (P := fun h => MB g h y 8 (fun _ => 0)) (MB.new b7 (by decide) rfl (fun i => ite_self _)) (fun h8 b8 => ?_)
  refine x_aload_n d_M_init_111 rfl ?_
  refine x_bipush (v := nI 11) d_M_init_112 (by decide) ?_
  refine x_newa (t := 100) (ty := .int) (N := 11) d_M_init_114 (by decide) rfl rfl (fun _ _ => rfl) wa_int (by decide) (by decide) (by decide) xdfI ?_
  refine x_putP (x := some _) (k := 6) (j := 8) d_M_init_116 (MB.T2 b8) rfl (by decide) wf_M_35 (Or.inr ⟨rfl, rfl, rfl⟩) rfl rfl rfl ?_
  refine xabs (P := fun h => MB g h y 9 (fun _ => 0)) (MB.new b8 (by decide) rfl (fun i => ite_self _)) (fun h9 b9 => ?_)
  refine x_aload_n d_M_init_119 rfl ?_
  refine x_sipush (v := nI 300) d_M_init_120 (by decide) ?_
  refine x_newa (t := 100) (ty := .int) (N := 300) d_M_init_123 (by decide) rfl rfl (fun _ _ => rfl) wa_int (by decide) (by decide) (by decide) xdfI ?_
  refine x_putP (x := some _) (k := 6) (j := 9) d_M_init_125 (MB.T2 b9) rfl (by decide) wf_M_38 (Or.inr ⟨rfl, rfl, rfl⟩) rfl rfl rfl ?_
  refine xabs (P := fun h => MB g h y 10 (fun _ => 0)) (MB.new b9 (by decide) rfl (fun i => ite_self _)) (fun h10 b10 => ?_)
  refine x_aload_n d_M_init_128 rfl ?_
  refine x_sipush (v := nI 300) d_M_init_129 (by decide) ?_
  refine x_newa (t := 100) (ty := .int) (N := 300) d_M_init_132 (by decide) rfl rfl (fun _ _ => rfl) wa_int (by decide) (by decide) (by decide) xdfI ?_
  refine x_putP (x := some _) (k := 6) (j := 10) d_M_init_134 (MB.T2 b10) rfl (by decide) wf_M_41 (Or.inr ⟨rfl, rfl, rfl⟩) rfl rfl rfl ?_
  refine xabs (P := fun h => MB g h y 11 (fun _ => 0)) (MB.new b10 (by decide) rfl (fun i => ite_self _)) (fun h11 b11 => ?_)
  refine x_aload_n d_M_init_137 rfl ?_
  refine x_bipush (v := nI 6) d_M_init_138 (by decide) ?_
  refine x_newa (t := 100) (ty := .int) (N := 6) d_M_init_140 (by decide) rfl rfl (fun _ _ => rfl) wa_int (by decide) (by decide) (by decide) xdfI ?_
  refine x_putP (x := some _) (k := 6) (j := 11) d_M_init_142 (MB.T2 b11) rfl (by decide) wf_M_44 (Or.inr ⟨rfl, rfl, rfl⟩) rfl rfl rfl ?_
  refine xabs (P := fun h => MB g h y 12 (fun _ => 0)) (MB.new b11 (by decide) rfl (fun i => ite_self _)) (fun h12 b12 => ?_)
  refine x_aload_n d_M_init_145 rfl ?_
  refine x_ldc (v := (-2147483648)) d_M_init_146 wv_M_47 ?_
  refine x_putI (k := 6) (j := 15) d_M_init_148 (MB.T b12) rfl (by decide) wf_M_48 (Or.inl rfl) rfl rfl rfl ?_
  refine x_aload_n d_M_init_151 rfl ?_
  refine x_iconst (v := (-1)) d_M_init_152 (by decide) ?_
  refine x_putI (k := 6) (j := 17) d_M_init_153 (b12.2.2.1) rfl (by decide) wf_M_52 (Or.inl rfl) rfl rfl rfl ?_
  refine xabs (P := fun h => MB g h y 12 sc0) (by have := (b12.sc (j := 15) (v := -2147483648)).sc (j := 17) (v := -1); exact this) (fun h12b b12b => ?_)
  clear b12
  have b12 := b12b
  refine x_aload_n d_M_init_156 rfl ?_
  refine x_sipush (v := nI 300) d_M_init_157 (by decide) ?_
  refine x_newa (t := 100) (ty := .int) (N := 300) d_M_init_160 (by decide) rfl rfl (fun _ _ => rfl) wa_int (by decide) (by decide) (by decide) xdfI ?_
  refine x_putP (x := some _) (k := 6) (j := 28) d_M_init_162 (MB.T2 b12) rfl (by decide) wf_M_55 (Or.inr ⟨rfl, rfl, rfl⟩) rfl rfl rfl ?_
  refine xabs (P := fun h => MB g h y 13 sc0) (MB.new b12 (by decide) rfl (fun i => ite_self _)) (fun h13 b13 => ?_)
  refine x_aload_n d_M_init_165 rfl ?_
  refine x_sipush (v := nI 300) d_M_init_166 (by decide) ?_
  refine x_newa (t := 100) (ty := .int) (N := 300) d_M_init_169 (by decide) rfl rfl (fun _ _ => rfl) wa_int (by decide) (by decide) (by decide) xdfI ?_
  refine x_putP (x := some _) (k := 6) (j := 29) d_M_init_171 (MB.T2 b13) rfl (by decide) wf_M_58 (Or.inr ⟨rfl, rfl, rfl⟩) rfl rfl rfl ?_
  refine xabs (P := fun h => MB g h y 14 sc0) (MB.new b13 (by decide) rfl (fun i => ite_self _)) (fun h14 b14 => ?_)
  refine x_aload_n d_M_init_174 rfl ?_
  refine x_iconst (v := nI 3) d_M_init_175 (by decide) ?_
  refine x_newa (t := 100) (ty := .int) (N := 3) d_M_init_176 (by decide) rfl rfl (fun _ _ => rfl) wa_int (by decide) (by decide) (by decide) xdfI ?_
  refine x_putP (x := some _) (k := 6) (j := 30) d_M_init_178 (MB.T2 b14) rfl (by decide) wf_M_61 (Or.inr ⟨rfl, rfl, rfl⟩) rfl rfl rfl ?_
  refine xabs (P := fun h => MB g h y 15 sc0) (MB.new b14 (by decide) rfl (fun i => ite_self _)) (fun h15 b15 => ?_)
  refine x_vret d_M_init_181 rfl ?_
  exact ⟨rfl, b15⟩
end XM15
end
