theorem d_L_chunk_0 : decode (xMc m_L_chunk) 0 = .ok (.aload 5, 2) := by decide +kernel
theorem d_L_chunk_2 : decode (xMc m_L_chunk) 2 = .ok (.iconst 0, 1) := by decide +kernel
theorem d_L_chunk_3 : decode (xMc m_L_chunk) 3 = .ok (.aload_n 0, 1) := by decide +kernel
theorem d_L_chunk_4 : decode (xMc m_L_chunk) 4 = .ok (.lload_n 1, 1) := by decide +kernel
theorem d_L_chunk_5 : decode (xMc m_L_chunk) 5 = .ok (.iload_n 3, 1) := by decide +kernel
theorem d_L_chunk_6 : decode (xMc m_L_chunk) 6 = .ok (.iload 4, 2) := by decide +kernel
theorem d_L_chunk_8 : decode (xMc m_L_chunk) 8 = .ok (.invokevirtual 7, 3) := by decide +kernel
theorem d_L_chunk_11 : decode (xMc m_L_chunk) 11 = .ok (.i2l, 1) := by decide +kernel
theorem d_L_chunk_12 : decode (xMc m_L_chunk) 12 = .ok (.lastore, 1) := by decide +kernel
theorem d_L_chunk_13 : decode (xMc m_L_chunk) 13 = .ok (.goto 11, 3) := by decide +kernel
theorem d_L_chunk_16 : decode (xMc m_L_chunk) 16 = .ok (.astore 6, 2) := by decide +kernel
theorem d_L_chunk_18 : decode (xMc m_L_chunk) 18 = .ok (.iconst 1, 1) := by decide +kernel
theorem d_L_chunk_19 : decode (xMc m_L_chunk) 19 = .ok (.ireturn, 1) := by decide +kernel
theorem d_L_chunk_20 : decode (xMc m_L_chunk) 20 = .ok (.astore 6, 2) := by decide +kernel
theorem d_L_chunk_22 : decode (xMc m_L_chunk) 22 = .ok (.iconst 2, 1) := by decide +kernel
theorem d_L_chunk_23 : decode (xMc m_L_chunk) 23 = .ok (.ireturn, 1) := by decide +kernel
theorem d_L_chunk_24 : decode (xMc m_L_chunk) 24 = .ok (.iconst 0, 1) := by decide +kernel
theorem d_L_chunk_25 : decode (xMc m_L_chunk) 25 = .ok (.ireturn, 1) := by decide +kernel
theorem d_L_worker_0 : decode (xMc m_L_worker) 0 = .ok (.aload_n 0, 1) := by decide +kernel
theorem d_L_worker_1 : decode (xMc m_L_worker) 1 = .ok (.iload_n 1, 1) := by decide +kernel
theorem d_L_worker_2 : decode (xMc m_L_worker) 2 = .ok (.iload_n 2, 1) := by decide +kernel
theorem d_L_worker_3 : decode (xMc m_L_worker) 3 = .ok (.invokevirtual 17, 3) := by decide +kernel
theorem d_L_worker_6 : decode (xMc m_L_worker) 6 = .ok (.goto 6, 3) := by decide +kernel
theorem d_L_worker_9 : decode (xMc m_L_worker) 9 = .ok (.astore_n 3, 1) := by decide +kernel
theorem d_L_worker_10 : decode (xMc m_L_worker) 10 = .ok (.iconst 1, 1) := by decide +kernel
theorem d_L_worker_11 : decode (xMc m_L_worker) 11 = .ok (.ireturn, 1) := by decide +kernel
theorem d_L_worker_12 : decode (xMc m_L_worker) 12 = .ok (.iconst 0, 1) := by decide +kernel
theorem d_L_worker_13 : decode (xMc m_L_worker) 13 = .ok (.ireturn, 1) := by decide +kernel
theorem d_L_speed_0 : decode (xMc m_L_speed) 0 = .ok (.aload_n 0, 1) := by decide +kernel
theorem d_L_speed_1 : decode (xMc m_L_speed) 1 = .ok (.iload_n 1, 1) := by decide +kernel
theorem d_L_speed_2 : decode (xMc m_L_speed) 2 = .ok (.iload_n 2, 1) := by decide +kernel
theorem d_L_speed_3 : decode (xMc m_L_speed) 3 = .ok (.invokevirtual 21, 3) := by decide +kernel
theorem d_L_speed_6 : decode (xMc m_L_speed) 6 = .ok (.goto 6, 3) := by decide +kernel
theorem d_L_speed_9 : decode (xMc m_L_speed) 9 = .ok (.astore_n 3, 1) := by decide +kernel
theorem d_L_speed_10 : decode (xMc m_L_speed) 10 = .ok (.iconst 1, 1) := by decide +kernel
theorem d_L_speed_11 : decode (xMc m_L_speed) 11 = .ok (.ireturn, 1) := by decide +kernel
theorem d_L_speed_12 : decode (xMc m_L_speed) 12 = .ok (.iconst 0, 1) := by decide +kernel
theorem d_L_speed_13 : decode (xMc m_L_speed) 13 = .ok (.ireturn, 1) := by decide +kernel
theorem d_L_begin_0 : decode (xMc m_L_begin) 0 = .ok (.aload 5, 2) := by decide +kernel
theorem d_L_begin_2 : decode (xMc m_L_begin) 2 = .ok (.iconst 0, 1) := by decide +kernel
theorem d_L_begin_3 : decode (xMc m_L_begin) 3 = .ok (.aload_n 0, 1) := by decide +kernel
theorem d_L_begin_4 : decode (xMc m_L_begin) 4 = .ok (.iload_n 1, 1) := by decide +kernel
theorem d_L_begin_5 : decode (xMc m_L_begin) 5 = .ok (.iload_n 2, 1) := by decide +kernel
theorem d_L_begin_6 : decode (xMc m_L_begin) 6 = .ok (.iload_n 3, 1) := by decide +kernel
theorem d_L_begin_7 : decode (xMc m_L_begin) 7 = .ok (.iload 4, 2) := by decide +kernel
theorem d_L_begin_9 : decode (xMc m_L_begin) 9 = .ok (.invokevirtual 25, 3) := by decide +kernel
theorem d_L_begin_12 : decode (xMc m_L_begin) 12 = .ok (.i2l, 1) := by decide +kernel
theorem d_L_begin_13 : decode (xMc m_L_begin) 13 = .ok (.lastore, 1) := by decide +kernel
theorem d_L_begin_14 : decode (xMc m_L_begin) 14 = .ok (.goto 11, 3) := by decide +kernel
theorem d_L_begin_17 : decode (xMc m_L_begin) 17 = .ok (.astore 6, 2) := by decide +kernel
theorem d_L_begin_19 : decode (xMc m_L_begin) 19 = .ok (.iconst 1, 1) := by decide +kernel
theorem d_L_begin_20 : decode (xMc m_L_begin) 20 = .ok (.ireturn, 1) := by decide +kernel
theorem d_L_begin_21 : decode (xMc m_L_begin) 21 = .ok (.astore 6, 2) := by decide +kernel
theorem d_L_begin_23 : decode (xMc m_L_begin) 23 = .ok (.iconst 2, 1) := by decide +kernel
theorem d_L_begin_24 : decode (xMc m_L_begin) 24 = .ok (.ireturn, 1) := by decide +kernel
theorem d_L_begin_25 : decode (xMc m_L_begin) 25 = .ok (.iconst 0, 1) := by decide +kernel
theorem d_L_begin_26 : decode (xMc m_L_begin) 26 = .ok (.ireturn, 1) := by decide +kernel
theorem d_L_run_0 : decode (xMc m_L_run) 0 = .ok (.aload_n 2, 1) := by decide +kernel
theorem d_L_run_1 : decode (xMc m_L_run) 1 = .ok (.iconst 0, 1) := by decide +kernel
theorem d_L_run_2 : decode (xMc m_L_run) 2 = .ok (.aload_n 0, 1) := by decide +kernel
theorem d_L_run_3 : decode (xMc m_L_run) 3 = .ok (.iload_n 1, 1) := by decide +kernel
theorem d_L_run_4 : decode (xMc m_L_run) 4 = .ok (.invokevirtual 29, 3) := by decide +kernel
theorem d_L_run_7 : decode (xMc m_L_run) 7 = .ok (.i2l, 1) := by decide +kernel
theorem d_L_run_8 : decode (xMc m_L_run) 8 = .ok (.lastore, 1) := by decide +kernel
theorem d_L_run_9 : decode (xMc m_L_run) 9 = .ok (.goto 12, 3) := by decide +kernel
theorem d_L_run_12 : decode (xMc m_L_run) 12 = .ok (.astore_n 3, 1) := by decide +kernel
theorem d_L_run_13 : decode (xMc m_L_run) 13 = .ok (.iconst 1, 1) := by decide +kernel
theorem d_L_run_14 : decode (xMc m_L_run) 14 = .ok (.ireturn, 1) := by decide +kernel
theorem d_L_run_15 : decode (xMc m_L_run) 15 = .ok (.astore_n 3, 1) := by decide +kernel
theorem d_L_run_16 : decode (xMc m_L_run) 16 = .ok (.iconst 2, 1) := by decide +kernel
theorem d_L_run_17 : decode (xMc m_L_run) 17 = .ok (.ireturn, 1) := by decide +kernel
theorem d_L_run_18 : decode (xMc m_L_run) 18 = .ok (.astore_n 3, 1) := by decide +kernel
theorem d_L_run_19 : decode (xMc m_L_run) 19 = .ok (.iconst 3, 1) := by decide +kernel
theorem d_L_run_20 : decode (xMc m_L_run) 20 = .ok (.ireturn, 1) := by decide +kernel
theorem d_L_run_21 : decode (xMc m_L_run) 21 = .ok (.iconst 0, 1) := by decide +kernel
theorem d_L_run_22 : decode (xMc m_L_run) 22 = .ok (.ireturn, 1) := by decide +kernel
theorem d_L_stop_0 : decode (xMc m_L_stop) 0 = .ok (.aload_n 0, 1) := by decide +kernel
theorem d_L_stop_1 : decode (xMc m_L_stop) 1 = .ok (.invokevirtual 35, 3) := by decide +kernel
theorem d_L_stop_4 : decode (xMc m_L_stop) 4 = .ok (.goto 6, 3) := by decide +kernel
theorem d_L_stop_7 : decode (xMc m_L_stop) 7 = .ok (.astore_n 1, 1) := by decide +kernel
theorem d_L_stop_8 : decode (xMc m_L_stop) 8 = .ok (.iconst 1, 1) := by decide +kernel
theorem d_L_stop_9 : decode (xMc m_L_stop) 9 = .ok (.ireturn, 1) := by decide +kernel
theorem d_L_stop_10 : decode (xMc m_L_stop) 10 = .ok (.iconst 0, 1) := by decide +kernel
theorem d_L_stop_11 : decode (xMc m_L_stop) 11 = .ok (.ireturn, 1) := by decide +kernel
theorem d_L_output_0 : decode (xMc m_L_output) 0 = .ok (.aload 4, 2) := by decide +kernel
theorem d_L_output_2 : decode (xMc m_L_output) 2 = .ok (.iconst 0, 1) := by decide +kernel
theorem d_L_output_3 : decode (xMc m_L_output) 3 = .ok (.aload_n 0, 1) := by decide +kernel
theorem d_L_output_4 : decode (xMc m_L_output) 4 = .ok (.iload_n 1, 1) := by decide +kernel
theorem d_L_output_5 : decode (xMc m_L_output) 5 = .ok (.iload_n 2, 1) := by decide +kernel
theorem d_L_output_6 : decode (xMc m_L_output) 6 = .ok (.iload_n 3, 1) := by decide +kernel
theorem d_L_output_7 : decode (xMc m_L_output) 7 = .ok (.invokevirtual 38, 3) := by decide +kernel
theorem d_L_output_10 : decode (xMc m_L_output) 10 = .ok (.i2l, 1) := by decide +kernel
theorem d_L_output_11 : decode (xMc m_L_output) 11 = .ok (.lastore, 1) := by decide +kernel
theorem d_L_output_12 : decode (xMc m_L_output) 12 = .ok (.goto 11, 3) := by decide +kernel
theorem d_L_output_15 : decode (xMc m_L_output) 15 = .ok (.astore 5, 2) := by decide +kernel
theorem d_L_output_17 : decode (xMc m_L_output) 17 = .ok (.iconst 1, 1) := by decide +kernel
theorem d_L_output_18 : decode (xMc m_L_output) 18 = .ok (.ireturn, 1) := by decide +kernel
theorem d_L_output_19 : decode (xMc m_L_output) 19 = .ok (.astore 5, 2) := by decide +kernel
theorem d_L_output_21 : decode (xMc m_L_output) 21 = .ok (.iconst 2, 1) := by decide +kernel
theorem d_L_output_22 : decode (xMc m_L_output) 22 = .ok (.ireturn, 1) := by decide +kernel
theorem d_L_output_23 : decode (xMc m_L_output) 23 = .ok (.iconst 0, 1) := by decide +kernel
theorem d_L_output_24 : decode (xMc m_L_output) 24 = .ok (.ireturn, 1) := by decide +kernel
theorem d_L_find_0 : decode (xMc m_L_find) 0 = .ok (.aload_n 2, 1) := by decide +kernel
theorem d_L_find_1 : decode (xMc m_L_find) 1 = .ok (.iconst 0, 1) := by decide +kernel
theorem d_L_find_2 : decode (xMc m_L_find) 2 = .ok (.aload_n 0, 1) := by decide +kernel
theorem d_L_find_3 : decode (xMc m_L_find) 3 = .ok (.iload_n 1, 1) := by decide +kernel
theorem d_L_find_4 : decode (xMc m_L_find) 4 = .ok (.invokevirtual 44, 3) := by decide +kernel
theorem d_L_find_7 : decode (xMc m_L_find) 7 = .ok (.i2l, 1) := by decide +kernel
theorem d_L_find_8 : decode (xMc m_L_find) 8 = .ok (.lastore, 1) := by decide +kernel
theorem d_L_find_9 : decode (xMc m_L_find) 9 = .ok (.goto 6, 3) := by decide +kernel
theorem d_L_find_12 : decode (xMc m_L_find) 12 = .ok (.astore_n 3, 1) := by decide +kernel
theorem d_L_find_13 : decode (xMc m_L_find) 13 = .ok (.iconst 1, 1) := by decide +kernel
theorem d_L_find_14 : decode (xMc m_L_find) 14 = .ok (.ireturn, 1) := by decide +kernel
theorem d_L_find_15 : decode (xMc m_L_find) 15 = .ok (.iconst 0, 1) := by decide +kernel
theorem d_L_find_16 : decode (xMc m_L_find) 16 = .ok (.ireturn, 1) := by decide +kernel
theorem d_L_task_0 : decode (xMc m_L_task) 0 = .ok (.aload 4, 2) := by decide +kernel
theorem d_L_task_2 : decode (xMc m_L_task) 2 = .ok (.iconst 0, 1) := by decide +kernel
theorem d_L_task_3 : decode (xMc m_L_task) 3 = .ok (.aload_n 0, 1) := by decide +kernel
theorem d_L_task_4 : decode (xMc m_L_task) 4 = .ok (.iload_n 1, 1) := by decide +kernel
theorem d_L_task_5 : decode (xMc m_L_task) 5 = .ok (.iload_n 2, 1) := by decide +kernel
theorem d_L_task_6 : decode (xMc m_L_task) 6 = .ok (.iload_n 3, 1) := by decide +kernel
theorem d_L_task_7 : decode (xMc m_L_task) 7 = .ok (.invokevirtual 47, 3) := by decide +kernel
theorem d_L_task_10 : decode (xMc m_L_task) 10 = .ok (.i2l, 1) := by decide +kernel
theorem d_L_task_11 : decode (xMc m_L_task) 11 = .ok (.lastore, 1) := by decide +kernel
theorem d_L_task_12 : decode (xMc m_L_task) 12 = .ok (.goto 15, 3) := by decide +kernel
theorem d_L_task_15 : decode (xMc m_L_task) 15 = .ok (.astore 5, 2) := by decide +kernel
theorem d_L_task_17 : decode (xMc m_L_task) 17 = .ok (.iconst 1, 1) := by decide +kernel
theorem d_L_task_18 : decode (xMc m_L_task) 18 = .ok (.ireturn, 1) := by decide +kernel
theorem d_L_task_19 : decode (xMc m_L_task) 19 = .ok (.astore 5, 2) := by decide +kernel
theorem d_L_task_21 : decode (xMc m_L_task) 21 = .ok (.iconst 2, 1) := by decide +kernel
theorem d_L_task_22 : decode (xMc m_L_task) 22 = .ok (.ireturn, 1) := by decide +kernel
theorem d_L_task_23 : decode (xMc m_L_task) 23 = .ok (.astore 5, 2) := by decide +kernel
theorem d_L_task_25 : decode (xMc m_L_task) 25 = .ok (.iconst 3, 1) := by decide +kernel
theorem d_L_task_26 : decode (xMc m_L_task) 26 = .ok (.ireturn, 1) := by decide +kernel
theorem d_L_task_27 : decode (xMc m_L_task) 27 = .ok (.iconst 0, 1) := by decide +kernel
theorem d_L_task_28 : decode (xMc m_L_task) 28 = .ok (.ireturn, 1) := by decide +kernel
theorem d_L_ofWorker_0 : decode (xMc m_L_ofWorker) 0 = .ok (.aload_n 3, 1) := by decide +kernel
theorem d_L_ofWorker_1 : decode (xMc m_L_ofWorker) 1 = .ok (.iconst 0, 1) := by decide +kernel
theorem d_L_ofWorker_2 : decode (xMc m_L_ofWorker) 2 = .ok (.aload_n 0, 1) := by decide +kernel
theorem d_L_ofWorker_3 : decode (xMc m_L_ofWorker) 3 = .ok (.iload_n 1, 1) := by decide +kernel
theorem d_L_ofWorker_4 : decode (xMc m_L_ofWorker) 4 = .ok (.iload_n 2, 1) := by decide +kernel
theorem d_L_ofWorker_5 : decode (xMc m_L_ofWorker) 5 = .ok (.invokevirtual 51, 3) := by decide +kernel
theorem d_L_ofWorker_8 : decode (xMc m_L_ofWorker) 8 = .ok (.i2l, 1) := by decide +kernel
theorem d_L_ofWorker_9 : decode (xMc m_L_ofWorker) 9 = .ok (.lastore, 1) := by decide +kernel
theorem d_L_ofWorker_10 : decode (xMc m_L_ofWorker) 10 = .ok (.goto 7, 3) := by decide +kernel
theorem d_L_ofWorker_13 : decode (xMc m_L_ofWorker) 13 = .ok (.astore 4, 2) := by decide +kernel
theorem d_L_ofWorker_15 : decode (xMc m_L_ofWorker) 15 = .ok (.iconst 1, 1) := by decide +kernel
theorem d_L_ofWorker_16 : decode (xMc m_L_ofWorker) 16 = .ok (.ireturn, 1) := by decide +kernel
theorem d_L_ofWorker_17 : decode (xMc m_L_ofWorker) 17 = .ok (.iconst 0, 1) := by decide +kernel
theorem d_L_ofWorker_18 : decode (xMc m_L_ofWorker) 18 = .ok (.ireturn, 1) := by decide +kernel
theorem d_L_law_0 : decode (code) 0 = .ok (.new 8, 3) := by decide +kernel
theorem d_L_law_3 : decode (code) 3 = .ok (.dup, 1) := by decide +kernel
theorem d_L_law_4 : decode (code) 4 = .ok (.invokespecial 55, 3) := by decide +kernel
theorem d_L_law_7 : decode (code) 7 = .ok (.astore_n 1, 1) := by decide +kernel
theorem d_L_law_8 : decode (code) 8 = .ok (.new 56, 3) := by decide +kernel
theorem d_L_law_11 : decode (code) 11 = .ok (.dup, 1) := by decide +kernel
theorem d_L_law_12 : decode (code) 12 = .ok (.invokespecial 58, 3) := by decide +kernel
theorem d_L_law_15 : decode (code) 15 = .ok (.astore_n 2, 1) := by decide +kernel
theorem d_L_law_16 : decode (code) 16 = .ok (.iconst 1, 1) := by decide +kernel
theorem d_L_law_17 : decode (code) 17 = .ok (.newarray .long, 2) := by decide +kernel
theorem d_L_law_19 : decode (code) 19 = .ok (.astore_n 3, 1) := by decide +kernel
theorem d_L_law_20 : decode (code) 20 = .ok (.iconst 0, 1) := by decide +kernel
theorem d_L_law_21 : decode (code) 21 = .ok (.istore 4, 2) := by decide +kernel
theorem d_L_law_23 : decode (code) 23 = .ok (.iload 4, 2) := by decide +kernel
theorem d_L_law_25 : decode (code) 25 = .ok (.aload_n 0, 1) := by decide +kernel
theorem d_L_law_26 : decode (code) 26 = .ok (.arraylength, 1) := by decide +kernel
theorem d_L_law_27 : decode (code) 27 = .ok (.iconst 5, 1) := by decide +kernel
theorem d_L_law_28 : decode (code) 28 = .ok (.isub, 1) := by decide +kernel
theorem d_L_law_29 : decode (code) 29 = .ok (.if_icmp .gt 620, 3) := by decide +kernel
theorem d_L_law_32 : decode (code) 32 = .ok (.aload_n 0, 1) := by decide +kernel
theorem d_L_law_33 : decode (code) 33 = .ok (.iload 4, 2) := by decide +kernel
theorem d_L_law_35 : decode (code) 35 = .ok (.iaload, 1) := by decide +kernel
theorem d_L_law_36 : decode (code) 36 = .ok (.bipush 15, 2) := by decide +kernel
theorem d_L_law_38 : decode (code) 38 = .ok (.iand, 1) := by decide +kernel
theorem d_L_law_39 : decode (code) 39 = .ok (.tableswitch 604 0 11 #[61, 145, 198, 235, 258, 322, 350, 363, 415, 471, 539, 579], 61) := by decide +kernel
theorem d_L_law_100 : decode (code) 100 = .ok (.aload_n 1, 1) := by decide +kernel
theorem d_L_law_101 : decode (code) 101 = .ok (.aload_n 0, 1) := by decide +kernel
theorem d_L_law_102 : decode (code) 102 = .ok (.iload 4, 2) := by decide +kernel
theorem d_L_law_104 : decode (code) 104 = .ok (.iconst 1, 1) := by decide +kernel
theorem d_L_law_105 : decode (code) 105 = .ok (.iadd, 1) := by decide +kernel
theorem d_L_law_106 : decode (code) 106 = .ok (.iaload, 1) := by decide +kernel
theorem d_L_law_107 : decode (code) 107 = .ok (.i2l, 1) := by decide +kernel
theorem d_L_law_108 : decode (code) 108 = .ok (.bipush 32, 2) := by decide +kernel
theorem d_L_law_110 : decode (code) 110 = .ok (.lshl, 1) := by decide +kernel
theorem d_L_law_111 : decode (code) 111 = .ok (.aload_n 0, 1) := by decide +kernel
theorem d_L_law_112 : decode (code) 112 = .ok (.iload 4, 2) := by decide +kernel
theorem d_L_law_114 : decode (code) 114 = .ok (.iconst 2, 1) := by decide +kernel
theorem d_L_law_115 : decode (code) 115 = .ok (.iadd, 1) := by decide +kernel
theorem d_L_law_116 : decode (code) 116 = .ok (.iaload, 1) := by decide +kernel
theorem d_L_law_117 : decode (code) 117 = .ok (.i2l, 1) := by decide +kernel
theorem d_L_law_118 : decode (code) 118 = .ok (.ldc2_w 59, 3) := by decide +kernel
theorem d_L_law_121 : decode (code) 121 = .ok (.land, 1) := by decide +kernel
theorem d_L_law_122 : decode (code) 122 = .ok (.lor, 1) := by decide +kernel
theorem d_L_law_123 : decode (code) 123 = .ok (.aload_n 0, 1) := by decide +kernel
theorem d_L_law_124 : decode (code) 124 = .ok (.iload 4, 2) := by decide +kernel
theorem d_L_law_126 : decode (code) 126 = .ok (.iconst 3, 1) := by decide +kernel
theorem d_L_law_127 : decode (code) 127 = .ok (.iadd, 1) := by decide +kernel
theorem d_L_law_128 : decode (code) 128 = .ok (.iaload, 1) := by decide +kernel
theorem d_L_law_129 : decode (code) 129 = .ok (.aload_n 0, 1) := by decide +kernel
theorem d_L_law_130 : decode (code) 130 = .ok (.iload 4, 2) := by decide +kernel
theorem d_L_law_132 : decode (code) 132 = .ok (.iconst 4, 1) := by decide +kernel
theorem d_L_law_133 : decode (code) 133 = .ok (.iadd, 1) := by decide +kernel
theorem d_L_law_134 : decode (code) 134 = .ok (.iaload, 1) := by decide +kernel
theorem d_L_law_135 : decode (code) 135 = .ok (.aload_n 3, 1) := by decide +kernel
theorem d_L_law_136 : decode (code) 136 = .ok (.invokestatic 61, 3) := by decide +kernel
theorem d_L_law_139 : decode (code) 139 = .ok (.istore 5, 2) := by decide +kernel
theorem d_L_law_141 : decode (code) 141 = .ok (.aload_n 2, 1) := by decide +kernel
theorem d_L_law_142 : decode (code) 142 = .ok (.aload_n 0, 1) := by decide +kernel
theorem d_L_law_143 : decode (code) 143 = .ok (.iload 4, 2) := by decide +kernel
theorem d_L_law_145 : decode (code) 145 = .ok (.iconst 1, 1) := by decide +kernel
theorem d_L_law_146 : decode (code) 146 = .ok (.iadd, 1) := by decide +kernel
theorem d_L_law_147 : decode (code) 147 = .ok (.iaload, 1) := by decide +kernel
theorem d_L_law_148 : decode (code) 148 = .ok (.i2l, 1) := by decide +kernel
theorem d_L_law_149 : decode (code) 149 = .ok (.bipush 32, 2) := by decide +kernel
theorem d_L_law_151 : decode (code) 151 = .ok (.lshl, 1) := by decide +kernel
theorem d_L_law_152 : decode (code) 152 = .ok (.aload_n 0, 1) := by decide +kernel
theorem d_L_law_153 : decode (code) 153 = .ok (.iload 4, 2) := by decide +kernel
theorem d_L_law_155 : decode (code) 155 = .ok (.iconst 2, 1) := by decide +kernel
theorem d_L_law_156 : decode (code) 156 = .ok (.iadd, 1) := by decide +kernel
theorem d_L_law_157 : decode (code) 157 = .ok (.iaload, 1) := by decide +kernel
theorem d_L_law_158 : decode (code) 158 = .ok (.i2l, 1) := by decide +kernel
theorem d_L_law_159 : decode (code) 159 = .ok (.ldc2_w 59, 3) := by decide +kernel
theorem d_L_law_162 : decode (code) 162 = .ok (.land, 1) := by decide +kernel
theorem d_L_law_163 : decode (code) 163 = .ok (.lor, 1) := by decide +kernel
theorem d_L_law_164 : decode (code) 164 = .ok (.aload_n 0, 1) := by decide +kernel
theorem d_L_law_165 : decode (code) 165 = .ok (.iload 4, 2) := by decide +kernel
theorem d_L_law_167 : decode (code) 167 = .ok (.iconst 3, 1) := by decide +kernel
theorem d_L_law_168 : decode (code) 168 = .ok (.iadd, 1) := by decide +kernel
theorem d_L_law_169 : decode (code) 169 = .ok (.iaload, 1) := by decide +kernel
theorem d_L_law_170 : decode (code) 170 = .ok (.aload_n 0, 1) := by decide +kernel
theorem d_L_law_171 : decode (code) 171 = .ok (.iload 4, 2) := by decide +kernel
theorem d_L_law_173 : decode (code) 173 = .ok (.iconst 4, 1) := by decide +kernel
theorem d_L_law_174 : decode (code) 174 = .ok (.iadd, 1) := by decide +kernel
theorem d_L_law_175 : decode (code) 175 = .ok (.iaload, 1) := by decide +kernel
theorem d_L_law_176 : decode (code) 176 = .ok (.invokevirtual 66, 3) := by decide +kernel
theorem d_L_law_179 : decode (code) 179 = .ok (.istore 6, 2) := by decide +kernel
theorem d_L_law_181 : decode (code) 181 = .ok (.goto 462, 3) := by decide +kernel
theorem d_L_law_184 : decode (code) 184 = .ok (.aload_n 1, 1) := by decide +kernel
theorem d_L_law_185 : decode (code) 185 = .ok (.aload_n 0, 1) := by decide +kernel
theorem d_L_law_186 : decode (code) 186 = .ok (.iload 4, 2) := by decide +kernel
theorem d_L_law_188 : decode (code) 188 = .ok (.iconst 1, 1) := by decide +kernel
theorem d_L_law_189 : decode (code) 189 = .ok (.iadd, 1) := by decide +kernel
theorem d_L_law_190 : decode (code) 190 = .ok (.iaload, 1) := by decide +kernel
theorem d_L_law_191 : decode (code) 191 = .ok (.aload_n 0, 1) := by decide +kernel
theorem d_L_law_192 : decode (code) 192 = .ok (.iload 4, 2) := by decide +kernel
theorem d_L_law_194 : decode (code) 194 = .ok (.iconst 2, 1) := by decide +kernel
theorem d_L_law_195 : decode (code) 195 = .ok (.iadd, 1) := by decide +kernel
theorem d_L_law_196 : decode (code) 196 = .ok (.iaload, 1) := by decide +kernel
theorem d_L_law_197 : decode (code) 197 = .ok (.ifCond .eq 7, 3) := by decide +kernel
theorem d_L_law_200 : decode (code) 200 = .ok (.iconst 1, 1) := by decide +kernel
theorem d_L_law_201 : decode (code) 201 = .ok (.goto 4, 3) := by decide +kernel
theorem d_L_law_204 : decode (code) 204 = .ok (.iconst 0, 1) := by decide +kernel
theorem d_L_law_205 : decode (code) 205 = .ok (.invokestatic 67, 3) := by decide +kernel
theorem d_L_law_208 : decode (code) 208 = .ok (.istore 5, 2) := by decide +kernel
theorem d_L_law_210 : decode (code) 210 = .ok (.aload_n 2, 1) := by decide +kernel
theorem d_L_law_211 : decode (code) 211 = .ok (.aload_n 0, 1) := by decide +kernel
theorem d_L_law_212 : decode (code) 212 = .ok (.iload 4, 2) := by decide +kernel
theorem d_L_law_214 : decode (code) 214 = .ok (.iconst 1, 1) := by decide +kernel
theorem d_L_law_215 : decode (code) 215 = .ok (.iadd, 1) := by decide +kernel
theorem d_L_law_216 : decode (code) 216 = .ok (.iaload, 1) := by decide +kernel
theorem d_L_law_217 : decode (code) 217 = .ok (.aload_n 0, 1) := by decide +kernel
theorem d_L_law_218 : decode (code) 218 = .ok (.iload 4, 2) := by decide +kernel
theorem d_L_law_220 : decode (code) 220 = .ok (.iconst 2, 1) := by decide +kernel
theorem d_L_law_221 : decode (code) 221 = .ok (.iadd, 1) := by decide +kernel
theorem d_L_law_222 : decode (code) 222 = .ok (.iaload, 1) := by decide +kernel
theorem d_L_law_223 : decode (code) 223 = .ok (.ifCond .eq 7, 3) := by decide +kernel
theorem d_L_law_226 : decode (code) 226 = .ok (.iconst 1, 1) := by decide +kernel
theorem d_L_law_227 : decode (code) 227 = .ok (.goto 4, 3) := by decide +kernel
theorem d_L_law_230 : decode (code) 230 = .ok (.iconst 0, 1) := by decide +kernel
theorem d_L_law_231 : decode (code) 231 = .ok (.invokevirtual 70, 3) := by decide +kernel
theorem d_L_law_234 : decode (code) 234 = .ok (.goto 409, 3) := by decide +kernel
theorem d_L_law_237 : decode (code) 237 = .ok (.aload_n 1, 1) := by decide +kernel
theorem d_L_law_238 : decode (code) 238 = .ok (.aload_n 0, 1) := by decide +kernel
theorem d_L_law_239 : decode (code) 239 = .ok (.iload 4, 2) := by decide +kernel
theorem d_L_law_241 : decode (code) 241 = .ok (.iconst 1, 1) := by decide +kernel
theorem d_L_law_242 : decode (code) 242 = .ok (.iadd, 1) := by decide +kernel
theorem d_L_law_243 : decode (code) 243 = .ok (.iaload, 1) := by decide +kernel
theorem d_L_law_244 : decode (code) 244 = .ok (.aload_n 0, 1) := by decide +kernel
theorem d_L_law_245 : decode (code) 245 = .ok (.iload 4, 2) := by decide +kernel
theorem d_L_law_247 : decode (code) 247 = .ok (.iconst 2, 1) := by decide +kernel
theorem d_L_law_248 : decode (code) 248 = .ok (.iadd, 1) := by decide +kernel
theorem d_L_law_249 : decode (code) 249 = .ok (.iaload, 1) := by decide +kernel
theorem d_L_law_250 : decode (code) 250 = .ok (.invokestatic 71, 3) := by decide +kernel
theorem d_L_law_253 : decode (code) 253 = .ok (.istore 5, 2) := by decide +kernel
theorem d_L_law_255 : decode (code) 255 = .ok (.aload_n 2, 1) := by decide +kernel
theorem d_L_law_256 : decode (code) 256 = .ok (.aload_n 0, 1) := by decide +kernel
theorem d_L_law_257 : decode (code) 257 = .ok (.iload 4, 2) := by decide +kernel
theorem d_L_law_259 : decode (code) 259 = .ok (.iconst 1, 1) := by decide +kernel
theorem d_L_law_260 : decode (code) 260 = .ok (.iadd, 1) := by decide +kernel
theorem d_L_law_261 : decode (code) 261 = .ok (.iaload, 1) := by decide +kernel
theorem d_L_law_262 : decode (code) 262 = .ok (.aload_n 0, 1) := by decide +kernel
theorem d_L_law_263 : decode (code) 263 = .ok (.iload 4, 2) := by decide +kernel
theorem d_L_law_265 : decode (code) 265 = .ok (.iconst 2, 1) := by decide +kernel
theorem d_L_law_266 : decode (code) 266 = .ok (.iadd, 1) := by decide +kernel
theorem d_L_law_267 : decode (code) 267 = .ok (.iaload, 1) := by decide +kernel
theorem d_L_law_268 : decode (code) 268 = .ok (.invokevirtual 74, 3) := by decide +kernel
theorem d_L_law_271 : decode (code) 271 = .ok (.goto 372, 3) := by decide +kernel
theorem d_L_law_274 : decode (code) 274 = .ok (.aload_n 1, 1) := by decide +kernel
theorem d_L_law_275 : decode (code) 275 = .ok (.aload_n 0, 1) := by decide +kernel
theorem d_L_law_276 : decode (code) 276 = .ok (.iload 4, 2) := by decide +kernel
theorem d_L_law_278 : decode (code) 278 = .ok (.iconst 1, 1) := by decide +kernel
theorem d_L_law_279 : decode (code) 279 = .ok (.iadd, 1) := by decide +kernel
theorem d_L_law_280 : decode (code) 280 = .ok (.iaload, 1) := by decide +kernel
theorem d_L_law_281 : decode (code) 281 = .ok (.invokevirtual 75, 3) := by decide +kernel
theorem d_L_law_284 : decode (code) 284 = .ok (.aload_n 2, 1) := by decide +kernel
theorem d_L_law_285 : decode (code) 285 = .ok (.aload_n 0, 1) := by decide +kernel
theorem d_L_law_286 : decode (code) 286 = .ok (.iload 4, 2) := by decide +kernel
theorem d_L_law_288 : decode (code) 288 = .ok (.iconst 1, 1) := by decide +kernel
theorem d_L_law_289 : decode (code) 289 = .ok (.iadd, 1) := by decide +kernel
theorem d_L_law_290 : decode (code) 290 = .ok (.iaload, 1) := by decide +kernel
theorem d_L_law_291 : decode (code) 291 = .ok (.invokevirtual 79, 3) := by decide +kernel
theorem d_L_law_294 : decode (code) 294 = .ok (.goto 349, 3) := by decide +kernel
theorem d_L_law_297 : decode (code) 297 = .ok (.aload_n 1, 1) := by decide +kernel
theorem d_L_law_298 : decode (code) 298 = .ok (.aload_n 0, 1) := by decide +kernel
theorem d_L_law_299 : decode (code) 299 = .ok (.iload 4, 2) := by decide +kernel
theorem d_L_law_301 : decode (code) 301 = .ok (.iconst 1, 1) := by decide +kernel
theorem d_L_law_302 : decode (code) 302 = .ok (.iadd, 1) := by decide +kernel
theorem d_L_law_303 : decode (code) 303 = .ok (.iaload, 1) := by decide +kernel
theorem d_L_law_304 : decode (code) 304 = .ok (.aload_n 0, 1) := by decide +kernel
theorem d_L_law_305 : decode (code) 305 = .ok (.iload 4, 2) := by decide +kernel
theorem d_L_law_307 : decode (code) 307 = .ok (.iconst 2, 1) := by decide +kernel
theorem d_L_law_308 : decode (code) 308 = .ok (.iadd, 1) := by decide +kernel
theorem d_L_law_309 : decode (code) 309 = .ok (.iaload, 1) := by decide +kernel
theorem d_L_law_310 : decode (code) 310 = .ok (.aload_n 0, 1) := by decide +kernel
theorem d_L_law_311 : decode (code) 311 = .ok (.iload 4, 2) := by decide +kernel
theorem d_L_law_313 : decode (code) 313 = .ok (.iconst 3, 1) := by decide +kernel
theorem d_L_law_314 : decode (code) 314 = .ok (.iadd, 1) := by decide +kernel
theorem d_L_law_315 : decode (code) 315 = .ok (.iaload, 1) := by decide +kernel
theorem d_L_law_316 : decode (code) 316 = .ok (.aload_n 0, 1) := by decide +kernel
theorem d_L_law_317 : decode (code) 317 = .ok (.iload 4, 2) := by decide +kernel
theorem d_L_law_319 : decode (code) 319 = .ok (.iconst 4, 1) := by decide +kernel
theorem d_L_law_320 : decode (code) 320 = .ok (.iadd, 1) := by decide +kernel
theorem d_L_law_321 : decode (code) 321 = .ok (.iaload, 1) := by decide +kernel
theorem d_L_law_322 : decode (code) 322 = .ok (.aload_n 3, 1) := by decide +kernel
theorem d_L_law_323 : decode (code) 323 = .ok (.invokestatic 80, 3) := by decide +kernel
theorem d_L_law_326 : decode (code) 326 = .ok (.istore 5, 2) := by decide +kernel
theorem d_L_law_328 : decode (code) 328 = .ok (.aload_n 2, 1) := by decide +kernel
theorem d_L_law_329 : decode (code) 329 = .ok (.aload_n 0, 1) := by decide +kernel
theorem d_L_law_330 : decode (code) 330 = .ok (.iload 4, 2) := by decide +kernel
theorem d_L_law_332 : decode (code) 332 = .ok (.iconst 1, 1) := by decide +kernel
theorem d_L_law_333 : decode (code) 333 = .ok (.iadd, 1) := by decide +kernel
theorem d_L_law_334 : decode (code) 334 = .ok (.iaload, 1) := by decide +kernel
theorem d_L_law_335 : decode (code) 335 = .ok (.aload_n 0, 1) := by decide +kernel
theorem d_L_law_336 : decode (code) 336 = .ok (.iload 4, 2) := by decide +kernel
theorem d_L_law_338 : decode (code) 338 = .ok (.iconst 2, 1) := by decide +kernel
theorem d_L_law_339 : decode (code) 339 = .ok (.iadd, 1) := by decide +kernel
theorem d_L_law_340 : decode (code) 340 = .ok (.iaload, 1) := by decide +kernel
theorem d_L_law_341 : decode (code) 341 = .ok (.aload_n 0, 1) := by decide +kernel
theorem d_L_law_342 : decode (code) 342 = .ok (.iload 4, 2) := by decide +kernel
theorem d_L_law_344 : decode (code) 344 = .ok (.iconst 3, 1) := by decide +kernel
theorem d_L_law_345 : decode (code) 345 = .ok (.iadd, 1) := by decide +kernel
theorem d_L_law_346 : decode (code) 346 = .ok (.iaload, 1) := by decide +kernel
theorem d_L_law_347 : decode (code) 347 = .ok (.aload_n 0, 1) := by decide +kernel
theorem d_L_law_348 : decode (code) 348 = .ok (.iload 4, 2) := by decide +kernel
theorem d_L_law_350 : decode (code) 350 = .ok (.iconst 4, 1) := by decide +kernel
theorem d_L_law_351 : decode (code) 351 = .ok (.iadd, 1) := by decide +kernel
theorem d_L_law_352 : decode (code) 352 = .ok (.iaload, 1) := by decide +kernel
theorem d_L_law_353 : decode (code) 353 = .ok (.invokevirtual 83, 3) := by decide +kernel
theorem d_L_law_356 : decode (code) 356 = .ok (.istore 6, 2) := by decide +kernel
theorem d_L_law_358 : decode (code) 358 = .ok (.goto 285, 3) := by decide +kernel
theorem d_L_law_361 : decode (code) 361 = .ok (.aload_n 1, 1) := by decide +kernel
theorem d_L_law_362 : decode (code) 362 = .ok (.aload_n 0, 1) := by decide +kernel
theorem d_L_law_363 : decode (code) 363 = .ok (.iload 4, 2) := by decide +kernel
theorem d_L_law_365 : decode (code) 365 = .ok (.iconst 1, 1) := by decide +kernel
theorem d_L_law_366 : decode (code) 366 = .ok (.iadd, 1) := by decide +kernel
theorem d_L_law_367 : decode (code) 367 = .ok (.iaload, 1) := by decide +kernel
theorem d_L_law_368 : decode (code) 368 = .ok (.aload_n 3, 1) := by decide +kernel
theorem d_L_law_369 : decode (code) 369 = .ok (.invokestatic 84, 3) := by decide +kernel
theorem d_L_law_372 : decode (code) 372 = .ok (.istore 5, 2) := by decide +kernel
theorem d_L_law_374 : decode (code) 374 = .ok (.aload_n 2, 1) := by decide +kernel
theorem d_L_law_375 : decode (code) 375 = .ok (.aload_n 0, 1) := by decide +kernel
theorem d_L_law_376 : decode (code) 376 = .ok (.iload 4, 2) := by decide +kernel
theorem d_L_law_378 : decode (code) 378 = .ok (.iconst 1, 1) := by decide +kernel
theorem d_L_law_379 : decode (code) 379 = .ok (.iadd, 1) := by decide +kernel
theorem d_L_law_380 : decode (code) 380 = .ok (.iaload, 1) := by decide +kernel
theorem d_L_law_381 : decode (code) 381 = .ok (.invokevirtual 87, 3) := by decide +kernel
theorem d_L_law_384 : decode (code) 384 = .ok (.istore 6, 2) := by decide +kernel
theorem d_L_law_386 : decode (code) 386 = .ok (.goto 257, 3) := by decide +kernel
theorem d_L_law_389 : decode (code) 389 = .ok (.aload_n 1, 1) := by decide +kernel
theorem d_L_law_390 : decode (code) 390 = .ok (.invokestatic 88, 3) := by decide +kernel
theorem d_L_law_393 : decode (code) 393 = .ok (.istore 5, 2) := by decide +kernel
theorem d_L_law_395 : decode (code) 395 = .ok (.aload_n 2, 1) := by decide +kernel
theorem d_L_law_396 : decode (code) 396 = .ok (.invokevirtual 91, 3) := by decide +kernel
theorem d_L_law_399 : decode (code) 399 = .ok (.goto 244, 3) := by decide +kernel
theorem d_L_law_402 : decode (code) 402 = .ok (.aload_n 1, 1) := by decide +kernel
theorem d_L_law_403 : decode (code) 403 = .ok (.aload_n 0, 1) := by decide +kernel
theorem d_L_law_404 : decode (code) 404 = .ok (.iload 4, 2) := by decide +kernel
theorem d_L_law_406 : decode (code) 406 = .ok (.iconst 1, 1) := by decide +kernel
theorem d_L_law_407 : decode (code) 407 = .ok (.iadd, 1) := by decide +kernel
theorem d_L_law_408 : decode (code) 408 = .ok (.iaload, 1) := by decide +kernel
theorem d_L_law_409 : decode (code) 409 = .ok (.aload_n 0, 1) := by decide +kernel
theorem d_L_law_410 : decode (code) 410 = .ok (.iload 4, 2) := by decide +kernel
theorem d_L_law_412 : decode (code) 412 = .ok (.iconst 2, 1) := by decide +kernel
theorem d_L_law_413 : decode (code) 413 = .ok (.iadd, 1) := by decide +kernel
theorem d_L_law_414 : decode (code) 414 = .ok (.iaload, 1) := by decide +kernel
theorem d_L_law_415 : decode (code) 415 = .ok (.aload_n 0, 1) := by decide +kernel
theorem d_L_law_416 : decode (code) 416 = .ok (.iload 4, 2) := by decide +kernel
theorem d_L_law_418 : decode (code) 418 = .ok (.iconst 3, 1) := by decide +kernel
theorem d_L_law_419 : decode (code) 419 = .ok (.iadd, 1) := by decide +kernel
theorem d_L_law_420 : decode (code) 420 = .ok (.iaload, 1) := by decide +kernel
theorem d_L_law_421 : decode (code) 421 = .ok (.aload_n 3, 1) := by decide +kernel
theorem d_L_law_422 : decode (code) 422 = .ok (.invokestatic 92, 3) := by decide +kernel
theorem d_L_law_425 : decode (code) 425 = .ok (.istore 5, 2) := by decide +kernel
theorem d_L_law_427 : decode (code) 427 = .ok (.aload_n 2, 1) := by decide +kernel
theorem d_L_law_428 : decode (code) 428 = .ok (.aload_n 0, 1) := by decide +kernel
theorem d_L_law_429 : decode (code) 429 = .ok (.iload 4, 2) := by decide +kernel
theorem d_L_law_431 : decode (code) 431 = .ok (.iconst 1, 1) := by decide +kernel
theorem d_L_law_432 : decode (code) 432 = .ok (.iadd, 1) := by decide +kernel
theorem d_L_law_433 : decode (code) 433 = .ok (.iaload, 1) := by decide +kernel
theorem d_L_law_434 : decode (code) 434 = .ok (.aload_n 0, 1) := by decide +kernel
theorem d_L_law_435 : decode (code) 435 = .ok (.iload 4, 2) := by decide +kernel
theorem d_L_law_437 : decode (code) 437 = .ok (.iconst 2, 1) := by decide +kernel
theorem d_L_law_438 : decode (code) 438 = .ok (.iadd, 1) := by decide +kernel
theorem d_L_law_439 : decode (code) 439 = .ok (.iaload, 1) := by decide +kernel
theorem d_L_law_440 : decode (code) 440 = .ok (.aload_n 0, 1) := by decide +kernel
theorem d_L_law_441 : decode (code) 441 = .ok (.iload 4, 2) := by decide +kernel
theorem d_L_law_443 : decode (code) 443 = .ok (.iconst 3, 1) := by decide +kernel
theorem d_L_law_444 : decode (code) 444 = .ok (.iadd, 1) := by decide +kernel
theorem d_L_law_445 : decode (code) 445 = .ok (.iaload, 1) := by decide +kernel
theorem d_L_law_446 : decode (code) 446 = .ok (.invokevirtual 95, 3) := by decide +kernel
theorem d_L_law_449 : decode (code) 449 = .ok (.istore 6, 2) := by decide +kernel
theorem d_L_law_451 : decode (code) 451 = .ok (.goto 192, 3) := by decide +kernel
theorem d_L_law_454 : decode (code) 454 = .ok (.aload_n 1, 1) := by decide +kernel
theorem d_L_law_455 : decode (code) 455 = .ok (.aload_n 0, 1) := by decide +kernel
theorem d_L_law_456 : decode (code) 456 = .ok (.iload 4, 2) := by decide +kernel
theorem d_L_law_458 : decode (code) 458 = .ok (.iconst 1, 1) := by decide +kernel
theorem d_L_law_459 : decode (code) 459 = .ok (.iadd, 1) := by decide +kernel
theorem d_L_law_460 : decode (code) 460 = .ok (.iaload, 1) := by decide +kernel
theorem d_L_law_461 : decode (code) 461 = .ok (.aload_n 3, 1) := by decide +kernel
theorem d_L_law_462 : decode (code) 462 = .ok (.invokestatic 96, 3) := by decide +kernel
theorem d_L_law_465 : decode (code) 465 = .ok (.istore 5, 2) := by decide +kernel
theorem d_L_law_467 : decode (code) 467 = .ok (.aload_n 2, 1) := by decide +kernel
theorem d_L_law_468 : decode (code) 468 = .ok (.aload_n 0, 1) := by decide +kernel
theorem d_L_law_469 : decode (code) 469 = .ok (.iload 4, 2) := by decide +kernel
theorem d_L_law_471 : decode (code) 471 = .ok (.iconst 1, 1) := by decide +kernel
theorem d_L_law_472 : decode (code) 472 = .ok (.iadd, 1) := by decide +kernel
theorem d_L_law_473 : decode (code) 473 = .ok (.iaload, 1) := by decide +kernel
theorem d_L_law_474 : decode (code) 474 = .ok (.invokevirtual 98, 3) := by decide +kernel
theorem d_L_law_477 : decode (code) 477 = .ok (.istore 6, 2) := by decide +kernel
theorem d_L_law_479 : decode (code) 479 = .ok (.aload_n 2, 1) := by decide +kernel
theorem d_L_law_480 : decode (code) 480 = .ok (.invokevirtual 99, 3) := by decide +kernel
theorem d_L_law_483 : decode (code) 483 = .ok (.iload 5, 2) := by decide +kernel
theorem d_L_law_485 : decode (code) 485 = .ok (.if_icmp .eq 5, 3) := by decide +kernel
theorem d_L_law_488 : decode (code) 488 = .ok (.iconst 0, 1) := by decide +kernel
theorem d_L_law_489 : decode (code) 489 = .ok (.ireturn, 1) := by decide +kernel
theorem d_L_law_490 : decode (code) 490 = .ok (.iload 5, 2) := by decide +kernel
theorem d_L_law_492 : decode (code) 492 = .ok (.ifCond .ne 15, 3) := by decide +kernel
theorem d_L_law_495 : decode (code) 495 = .ok (.aload_n 3, 1) := by decide +kernel
theorem d_L_law_496 : decode (code) 496 = .ok (.iconst 0, 1) := by decide +kernel
theorem d_L_law_497 : decode (code) 497 = .ok (.laload, 1) := by decide +kernel
theorem d_L_law_498 : decode (code) 498 = .ok (.iload 6, 2) := by decide +kernel
theorem d_L_law_500 : decode (code) 500 = .ok (.i2l, 1) := by decide +kernel
theorem d_L_law_501 : decode (code) 501 = .ok (.lcmp, 1) := by decide +kernel
theorem d_L_law_502 : decode (code) 502 = .ok (.ifCond .eq 5, 3) := by decide +kernel
theorem d_L_law_505 : decode (code) 505 = .ok (.iconst 0, 1) := by decide +kernel
theorem d_L_law_506 : decode (code) 506 = .ok (.ireturn, 1) := by decide +kernel
theorem d_L_law_507 : decode (code) 507 = .ok (.goto 136, 3) := by decide +kernel
theorem d_L_law_510 : decode (code) 510 = .ok (.aload_n 1, 1) := by decide +kernel
theorem d_L_law_511 : decode (code) 511 = .ok (.aload_n 0, 1) := by decide +kernel
theorem d_L_law_512 : decode (code) 512 = .ok (.iload 4, 2) := by decide +kernel
theorem d_L_law_514 : decode (code) 514 = .ok (.iconst 1, 1) := by decide +kernel
theorem d_L_law_515 : decode (code) 515 = .ok (.iadd, 1) := by decide +kernel
theorem d_L_law_516 : decode (code) 516 = .ok (.iaload, 1) := by decide +kernel
theorem d_L_law_517 : decode (code) 517 = .ok (.ifCond .eq 7, 3) := by decide +kernel
theorem d_L_law_520 : decode (code) 520 = .ok (.iconst 1, 1) := by decide +kernel
theorem d_L_law_521 : decode (code) 521 = .ok (.goto 4, 3) := by decide +kernel
theorem d_L_law_524 : decode (code) 524 = .ok (.iconst 0, 1) := by decide +kernel
theorem d_L_law_525 : decode (code) 525 = .ok (.aload_n 0, 1) := by decide +kernel
theorem d_L_law_526 : decode (code) 526 = .ok (.iload 4, 2) := by decide +kernel
theorem d_L_law_528 : decode (code) 528 = .ok (.iconst 2, 1) := by decide +kernel
theorem d_L_law_529 : decode (code) 529 = .ok (.iadd, 1) := by decide +kernel
theorem d_L_law_530 : decode (code) 530 = .ok (.iaload, 1) := by decide +kernel
theorem d_L_law_531 : decode (code) 531 = .ok (.aload_n 0, 1) := by decide +kernel
theorem d_L_law_532 : decode (code) 532 = .ok (.iload 4, 2) := by decide +kernel
theorem d_L_law_534 : decode (code) 534 = .ok (.iconst 3, 1) := by decide +kernel
theorem d_L_law_535 : decode (code) 535 = .ok (.iadd, 1) := by decide +kernel
theorem d_L_law_536 : decode (code) 536 = .ok (.iaload, 1) := by decide +kernel
theorem d_L_law_537 : decode (code) 537 = .ok (.aload_n 3, 1) := by decide +kernel
theorem d_L_law_538 : decode (code) 538 = .ok (.invokestatic 103, 3) := by decide +kernel
theorem d_L_law_541 : decode (code) 541 = .ok (.istore 5, 2) := by decide +kernel
theorem d_L_law_543 : decode (code) 543 = .ok (.aload_n 2, 1) := by decide +kernel
theorem d_L_law_544 : decode (code) 544 = .ok (.aload_n 0, 1) := by decide +kernel
theorem d_L_law_545 : decode (code) 545 = .ok (.iload 4, 2) := by decide +kernel
theorem d_L_law_547 : decode (code) 547 = .ok (.iconst 1, 1) := by decide +kernel
theorem d_L_law_548 : decode (code) 548 = .ok (.iadd, 1) := by decide +kernel
theorem d_L_law_549 : decode (code) 549 = .ok (.iaload, 1) := by decide +kernel
theorem d_L_law_550 : decode (code) 550 = .ok (.ifCond .eq 7, 3) := by decide +kernel
theorem d_L_law_553 : decode (code) 553 = .ok (.iconst 1, 1) := by decide +kernel
theorem d_L_law_554 : decode (code) 554 = .ok (.goto 4, 3) := by decide +kernel
theorem d_L_law_557 : decode (code) 557 = .ok (.iconst 0, 1) := by decide +kernel
theorem d_L_law_558 : decode (code) 558 = .ok (.aload_n 0, 1) := by decide +kernel
theorem d_L_law_559 : decode (code) 559 = .ok (.iload 4, 2) := by decide +kernel
theorem d_L_law_561 : decode (code) 561 = .ok (.iconst 2, 1) := by decide +kernel
theorem d_L_law_562 : decode (code) 562 = .ok (.iadd, 1) := by decide +kernel
theorem d_L_law_563 : decode (code) 563 = .ok (.iaload, 1) := by decide +kernel
theorem d_L_law_564 : decode (code) 564 = .ok (.aload_n 0, 1) := by decide +kernel
theorem d_L_law_565 : decode (code) 565 = .ok (.iload 4, 2) := by decide +kernel
theorem d_L_law_567 : decode (code) 567 = .ok (.iconst 3, 1) := by decide +kernel
theorem d_L_law_568 : decode (code) 568 = .ok (.iadd, 1) := by decide +kernel
theorem d_L_law_569 : decode (code) 569 = .ok (.iaload, 1) := by decide +kernel
theorem d_L_law_570 : decode (code) 570 = .ok (.invokevirtual 106, 3) := by decide +kernel
theorem d_L_law_573 : decode (code) 573 = .ok (.istore 6, 2) := by decide +kernel
theorem d_L_law_575 : decode (code) 575 = .ok (.goto 68, 3) := by decide +kernel
theorem d_L_law_578 : decode (code) 578 = .ok (.aload_n 1, 1) := by decide +kernel
theorem d_L_law_579 : decode (code) 579 = .ok (.aload_n 0, 1) := by decide +kernel
theorem d_L_law_580 : decode (code) 580 = .ok (.iload 4, 2) := by decide +kernel
theorem d_L_law_582 : decode (code) 582 = .ok (.iconst 1, 1) := by decide +kernel
theorem d_L_law_583 : decode (code) 583 = .ok (.iadd, 1) := by decide +kernel
theorem d_L_law_584 : decode (code) 584 = .ok (.iaload, 1) := by decide +kernel
theorem d_L_law_585 : decode (code) 585 = .ok (.aload_n 0, 1) := by decide +kernel
theorem d_L_law_586 : decode (code) 586 = .ok (.iload 4, 2) := by decide +kernel
theorem d_L_law_588 : decode (code) 588 = .ok (.iconst 2, 1) := by decide +kernel
theorem d_L_law_589 : decode (code) 589 = .ok (.iadd, 1) := by decide +kernel
theorem d_L_law_590 : decode (code) 590 = .ok (.iaload, 1) := by decide +kernel
theorem d_L_law_591 : decode (code) 591 = .ok (.aload_n 3, 1) := by decide +kernel
theorem d_L_law_592 : decode (code) 592 = .ok (.invokestatic 107, 3) := by decide +kernel
theorem d_L_law_595 : decode (code) 595 = .ok (.istore 5, 2) := by decide +kernel
theorem d_L_law_597 : decode (code) 597 = .ok (.aload_n 2, 1) := by decide +kernel
theorem d_L_law_598 : decode (code) 598 = .ok (.aload_n 0, 1) := by decide +kernel
theorem d_L_law_599 : decode (code) 599 = .ok (.iload 4, 2) := by decide +kernel
theorem d_L_law_601 : decode (code) 601 = .ok (.iconst 1, 1) := by decide +kernel
theorem d_L_law_602 : decode (code) 602 = .ok (.iadd, 1) := by decide +kernel
theorem d_L_law_603 : decode (code) 603 = .ok (.iaload, 1) := by decide +kernel
theorem d_L_law_604 : decode (code) 604 = .ok (.aload_n 0, 1) := by decide +kernel
theorem d_L_law_605 : decode (code) 605 = .ok (.iload 4, 2) := by decide +kernel
theorem d_L_law_607 : decode (code) 607 = .ok (.iconst 2, 1) := by decide +kernel
theorem d_L_law_608 : decode (code) 608 = .ok (.iadd, 1) := by decide +kernel
theorem d_L_law_609 : decode (code) 609 = .ok (.iaload, 1) := by decide +kernel
theorem d_L_law_610 : decode (code) 610 = .ok (.invokevirtual 110, 3) := by decide +kernel
theorem d_L_law_613 : decode (code) 613 = .ok (.istore 6, 2) := by decide +kernel
theorem d_L_law_615 : decode (code) 615 = .ok (.goto 28, 3) := by decide +kernel
theorem d_L_law_618 : decode (code) 618 = .ok (.aload_n 1, 1) := by decide +kernel
theorem d_L_law_619 : decode (code) 619 = .ok (.aload_n 0, 1) := by decide +kernel
theorem d_L_law_620 : decode (code) 620 = .ok (.iload 4, 2) := by decide +kernel
theorem d_L_law_622 : decode (code) 622 = .ok (.iconst 1, 1) := by decide +kernel
theorem d_L_law_623 : decode (code) 623 = .ok (.iadd, 1) := by decide +kernel
theorem d_L_law_624 : decode (code) 624 = .ok (.iaload, 1) := by decide +kernel
theorem d_L_law_625 : decode (code) 625 = .ok (.invokevirtual 111, 3) := by decide +kernel
theorem d_L_law_628 : decode (code) 628 = .ok (.pop, 1) := by decide +kernel
theorem d_L_law_629 : decode (code) 629 = .ok (.aload_n 2, 1) := by decide +kernel
theorem d_L_law_630 : decode (code) 630 = .ok (.aload_n 0, 1) := by decide +kernel
theorem d_L_law_631 : decode (code) 631 = .ok (.iload 4, 2) := by decide +kernel
theorem d_L_law_633 : decode (code) 633 = .ok (.iconst 1, 1) := by decide +kernel
theorem d_L_law_634 : decode (code) 634 = .ok (.iadd, 1) := by decide +kernel
theorem d_L_law_635 : decode (code) 635 = .ok (.iaload, 1) := by decide +kernel
theorem d_L_law_636 : decode (code) 636 = .ok (.invokevirtual 114, 3) := by decide +kernel
theorem d_L_law_639 : decode (code) 639 = .ok (.pop, 1) := by decide +kernel
theorem d_L_law_640 : decode (code) 640 = .ok (.goto 3, 3) := by decide +kernel
theorem d_L_law_643 : decode (code) 643 = .ok (.iinc 4 5, 3) := by decide +kernel
theorem d_L_law_646 : decode (code) 646 = .ok (.goto (-623), 3) := by decide +kernel
theorem d_L_law_649 : decode (code) 649 = .ok (.iconst 1, 1) := by decide +kernel
theorem d_L_law_650 : decode (code) 650 = .ok (.ireturn, 1) := by decide +kernel
