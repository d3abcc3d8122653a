theorem d_L_chunk_0 : decode (xMc m_L_chunk) 0 = .ok (.aload 5, 2) := by decide +kernel
theorem d_L_chunk_2 : decode (xMc m_L_chunk) 2 = .ok (.iconst 0, 1) := by decide +kernel
theorem d_L_chunk_3 : decode (xMc m_L_chunk) 3 = .ok (.aload_n 0, 1) := by decide +kernel
theorem d_L_chunk_4 : decode (xMc m_L_chunk) 4 = .ok (.lload_n 1, 1) := by decide +kernel
theorem d_L_chunk_5 : decode (xMc m_L_chunk) 5 = .ok (.iload_n 3, 1) := by decide +kernel
theorem d_L_chunk_6 : decode (xMc m_L_chunk) 6 = .ok (.iload 4, 2) := by decide +kernel
theorem d_L_chunk_8 : decode (xMc m_L_chunk) 8 = .ok (.invokevirtual 7, 3) := by decide +kernel
theorem d_L_chunk_11 : decode (xMc m_L_chunk) 11 = .ok (.i2l, 1) := by decide +kernel
theorem d_L_chunk_12 : decode (xMc m_L_chunk) 12 = .ok (.lastore, 1) := by decide +kernel
theorem d_L_chunk_13 : decode (xMc m_L_chunk) 13 = .ok (.goto 11, 3) := by decide +kernel
theorem d_L_chunk_16 : decode (xMc m_L_chunk) 16 = .ok (.astore 6, 2) := by decide +kernel
theorem d_L_chunk_18 : decode (xMc m_L_chunk) 18 = .ok (.iconst 1, 1) := by decide +kernel
theorem d_L_chunk_19 : decode (xMc m_L_chunk) 19 = .ok (.ireturn, 1) := by decide +kernel
theorem d_L_chunk_20 : decode (xMc m_L_chunk) 20 = .ok (.astore 6, 2) := by decide +kernel
theorem d_L_chunk_22 : decode (xMc m_L_chunk) 22 = .ok (.iconst 2, 1) := by decide +kernel
theorem d_L_chunk_23 : decode (xMc m_L_chunk) 23 = .ok (.ireturn, 1) := by decide +kernel
theorem d_L_chunk_24 : decode (xMc m_L_chunk) 24 = .ok (.iconst 0, 1) := by decide +kernel
theorem d_L_chunk_25 : decode (xMc m_L_chunk) 25 = .ok (.ireturn, 1) := by decide +kernel
theorem d_L_worker_0 : decode (xMc m_L_worker) 0 = .ok (.aload_n 0, 1) := by decide +kernel
theorem d_L_worker_1 : decode (xMc m_L_worker) 1 = .ok (.iload_n 1, 1) := by decide +kernel
theorem d_L_worker_2 : decode (xMc m_L_worker) 2 = .ok (.iload_n 2, 1) := by decide +kernel
theorem d_L_worker_3 : decode (xMc m_L_worker) 3 = .ok (.invokevirtual 17, 3) := by decide +kernel
theorem d_L_worker_6 : decode (xMc m_L_worker) 6 = .ok (.goto 6, 3) := by decide +kernel
theorem d_L_worker_9 : decode (xMc m_L_worker) 9 = .ok (.astore_n 3, 1) := by decide +kernel
theorem d_L_worker_10 : decode (xMc m_L_worker) 10 = .ok (.iconst 1, 1) := by decide +kernel
theorem d_L_worker_11 : decode (xMc m_L_worker) 11 = .ok (.ireturn, 1) := by decide +kernel
theorem d_L_worker_12 : decode (xMc m_L_worker) 12 = .ok (.iconst 0, 1) := by decide +kernel
theorem d_L_worker_13 : decode (xMc m_L_worker) 13 = .ok (.ireturn, 1) := by decide +kernel
theorem d_L_speed_0 : decode (xMc m_L_speed) 0 = .ok (.aload_n 0, 1) := by decide +kernel
theorem d_L_speed_1 : decode (xMc m_L_speed) 1 = .ok (.iload_n 1, 1) := by decide +kernel
theorem d_L_speed_2 : decode (xMc m_L_speed) 2 = .ok (.iload_n 2, 1) := by decide +kernel
theorem d_L_speed_3 : decode (xMc m_L_speed) 3 = .ok (.invokevirtual 21, 3) := by decide +kernel
theorem d_L_speed_6 : decode (xMc m_L_speed) 6 = .ok (.goto 6, 3) := by decide +kernel
theorem d_L_speed_9 : decode (xMc m_L_speed) 9 = .ok (.astore_n 3, 1) := by decide +kernel
theorem d_L_speed_10 : decode (xMc m_L_speed) 10 = .ok (.iconst 1, 1) := by decide +kernel
theorem d_L_speed_11 : decode (xMc m_L_speed) 11 = .ok (.ireturn, 1) := by decide +kernel
theorem d_L_speed_12 : decode (xMc m_L_speed) 12 = .ok (.iconst 0, 1) := by decide +kernel
theorem d_L_speed_13 : decode (xMc m_L_speed) 13 = .ok (.ireturn, 1) := by decide +kernel
theorem d_L_begin_0 : decode (xMc m_L_begin) 0 = .ok (.aload 5, 2) := by decide +kernel
theorem d_L_begin_2 : decode (xMc m_L_begin) 2 = .ok (.iconst 0, 1) := by decide +kernel
theorem d_L_begin_3 : decode (xMc m_L_begin) 3 = .ok (.aload_n 0, 1) := by decide +kernel
theorem d_L_begin_4 : decode (xMc m_L_begin) 4 = .ok (.iload_n 1, 1) := by decide +kernel
theorem d_L_begin_5 : decode (xMc m_L_begin) 5 = .ok (.iload_n 2, 1) := by decide +kernel
theorem d_L_begin_6 : decode (xMc m_L_begin) 6 = .ok (.iload_n 3, 1) := by decide +kernel
theorem d_L_begin_7 : decode (xMc m_L_begin) 7 = .ok (.iload 4, 2) := by decide +kernel
theorem d_L_begin_9 : decode (xMc m_L_begin) 9 = .ok (.invokevirtual 25, 3) := by decide +kernel
theorem d_L_begin_12 : decode (xMc m_L_begin) 12 = .ok (.i2l, 1) := by decide +kernel
theorem d_L_begin_13 : decode (xMc m_L_begin) 13 = .ok (.lastore, 1) := by decide +kernel
theorem d_L_begin_14 : decode (xMc m_L_begin) 14 = .ok (.goto 11, 3) := by decide +kernel
theorem d_L_begin_17 : decode (xMc m_L_begin) 17 = .ok (.astore 6, 2) := by decide +kernel
theorem d_L_begin_19 : decode (xMc m_L_begin) 19 = .ok (.iconst 1, 1) := by decide +kernel
theorem d_L_begin_20 : decode (xMc m_L_begin) 20 = .ok (.ireturn, 1) := by decide +kernel
theorem d_L_begin_21 : decode (xMc m_L_begin) 21 = .ok (.astore 6, 2) := by decide +kernel
theorem d_L_begin_23 : decode (xMc m_L_begin) 23 = .ok (.iconst 2, 1) := by decide +kernel
theorem d_L_begin_24 : decode (xMc m_L_begin) 24 = .ok (.ireturn, 1) := by decide +kernel
theorem d_L_begin_25 : decode (xMc m_L_begin) 25 = .ok (.iconst 0, 1) := by decide +kernel
theorem d_L_begin_26 : decode (xMc m_L_begin) 26 = .ok (.ireturn, 1) := by decide +kernel
theorem d_L_run_0 : decode (xMc m_L_run) 0 = .ok (.aload_n 2, 1) := by decide +kernel
theorem d_L_run_1 : decode (xMc m_L_run) 1 = .ok (.iconst 0, 1) := by decide +kernel
theorem d_L_run_2 : decode (xMc m_L_run) 2 = .ok (.aload_n 0, 1) := by decide +kernel
theorem d_L_run_3 : decode (xMc m_L_run) 3 = .ok (.iload_n 1, 1) := by decide +kernel
theorem d_L_run_4 : decode (xMc m_L_run) 4 = .ok (.invokevirtual 29, 3) := by decide +kernel
theorem d_L_run_7 : decode (xMc m_L_run) 7 = .ok (.i2l, 1) := by decide +kernel
theorem d_L_run_8 : decode (xMc m_L_run) 8 = .ok (.lastore, 1) := by decide +kernel
theorem d_L_run_9 : decode (xMc m_L_run) 9 = .ok (.goto 12, 3) := by decide +kernel
theorem d_L_run_12 : decode (xMc m_L_run) 12 = .ok (.astore_n 3, 1) := by decide +kernel
theorem d_L_run_13 : decode (xMc m_L_run) 13 = .ok (.iconst 1, 1) := by decide +kernel
theorem d_L_run_14 : decode (xMc m_L_run) 14 = .ok (.ireturn, 1) := by decide +kernel
theorem d_L_run_15 : decode (xMc m_L_run) 15 = .ok (.astore_n 3, 1) := by decide +kernel
theorem d_L_run_16 : decode (xMc m_L_run) 16 = .ok (.iconst 2, 1) := by decide +kernel
theorem d_L_run_17 : decode (xMc m_L_run) 17 = .ok (.ireturn, 1) := by decide +kernel
theorem d_L_run_18 : decode (xMc m_L_run) 18 = .ok (.astore_n 3, 1) := by decide +kernel
theorem d_L_run_19 : decode (xMc m_L_run) 19 = .ok (.iconst 3, 1) := by decide +kernel
theorem d_L_run_20 : decode (xMc m_L_run) 20 = .ok (.ireturn, 1) := by decide +kernel
theorem d_L_run_21 : decode (xMc m_L_run) 21 = .ok (.iconst 0, 1) := by decide +kernel
theorem d_L_run_22 : decode (xMc m_L_run) 22 = .ok (.ireturn, 1) := by decide +kernel
theorem d_L_stop_0 : decode (xMc m_L_stop) 0 = .ok (.aload_n 0, 1) := by decide +kernel
theorem d_L_stop_1 : decode (xMc m_L_stop) 1 = .ok (.invokevirtual 35, 3) := by decide +kernel
theorem d_L_stop_4 : decode (xMc m_L_stop) 4 = .ok (.goto 6, 3) := by decide +kernel
theorem d_L_stop_7 : decode (xMc m_L_stop) 7 = .ok (.astore_n 1, 1) := by decide +kernel
theorem d_L_stop_8 : decode (xMc m_L_stop) 8 = .ok (.iconst 1, 1) := by decide +kernel
theorem d_L_stop_9 : decode (xMc m_L_stop) 9 = .ok (.ireturn, 1) := by decide +kernel
theorem d_L_stop_10 : decode (xMc m_L_stop) 10 = .ok (.iconst 0, 1) := by decide +kernel
theorem d_L_stop_11 : decode (xMc m_L_stop) 11 = .ok (.ireturn, 1) := by decide +kernel
theorem d_L_output_0 : decode (xMc m_L_output) 0 = .ok (.aload 4, 2) := by decide +kernel
theorem d_L_output_2 : decode (xMc m_L_output) 2 = .ok (.iconst 0, 1) := by decide +kernel
theorem d_L_output_3 : decode (xMc m_L_output) 3 = .ok (.aload_n 0, 1) := by decide +kernel
theorem d_L_output_4 : decode (xMc m_L_output) 4 = .ok (.iload_n 1, 1) := by decide +kernel
theorem d_L_output_5 : decode (xMc m_L_output) 5 = .ok (.iload_n 2, 1) := by decide +kernel
theorem d_L_output_6 : decode (xMc m_L_output) 6 = .ok (.iload_n 3, 1) := by decide +kernel
theorem d_L_output_7 : decode (xMc m_L_output) 7 = .ok (.invokevirtual 38, 3) := by decide +kernel
theorem d_L_output_10 : decode (xMc m_L_output) 10 = .ok (.i2l, 1) := by decide +kernel
theorem d_L_output_11 : decode (xMc m_L_output) 11 = .ok (.lastore, 1) := by decide +kernel
theorem d_L_output_12 : decode (xMc m_L_output) 12 = .ok (.goto 11, 3) := by decide +kernel
theorem d_L_output_15 : decode (xMc m_L_output) 15 = .ok (.astore 5, 2) := by decide +kernel
theorem d_L_output_17 : decode (xMc m_L_output) 17 = .ok (.iconst 1, 1) := by decide +kernel
theorem d_L_output_18 : decode (xMc m_L_output) 18 = .ok (.ireturn, 1) := by decide +kernel
theorem d_L_output_19 : decode (xMc m_L_output) 19 = .ok (.astore 5, 2) := by decide +kernel
theorem d_L_output_21 : decode (xMc m_L_output) 21 = .ok (.iconst 2, 1) := by decide +kernel
theorem d_L_output_22 : decode (xMc m_L_output) 22 = .ok (.ireturn, 1) := by decide +kernel
theorem d_L_output_23 : decode (xMc m_L_output) 23 = .ok (.iconst 0, 1) := by decide +kernel
theorem d_L_output_24 : decode (xMc m_L_output) 24 = .ok (.ireturn, 1) := by decide +kernel
theorem d_L_find_0 : decode (xMc m_L_find) 0 = .ok (.aload_n 2, 1) := by decide +kernel
theorem d_L_find_1 : decode (xMc m_L_find) 1 = .ok (.iconst 0, 1) := by decide +kernel
theorem d_L_find_2 : decode (xMc m_L_find) 2 = .ok (.aload_n 0, 1) := by decide +kernel
theorem d_L_find_3 : decode (xMc m_L_find) 3 = .ok (.iload_n 1, 1) := by decide +kernel
theorem d_L_find_4 : decode (xMc m_L_find) 4 = .ok (.invokevirtual 44, 3) := by decide +kernel
theorem d_L_find_7 : decode (xMc m_L_find) 7 = .ok (.i2l, 1) := by decide +kernel
theorem d_L_find_8 : decode (xMc m_L_find) 8 = .ok (.lastore, 1) := by decide +kernel
theorem d_L_find_9 : decode (xMc m_L_find) 9 = .ok (.goto 6, 3) := by decide +kernel
theorem d_L_find_12 : decode (xMc m_L_find) 12 = .ok (.astore_n 3, 1) := by decide +kernel
theorem d_L_find_13 : decode (xMc m_L_find) 13 = .ok (.iconst 1, 1) := by decide +kernel
theorem d_L_find_14 : decode (xMc m_L_find) 14 = .ok (.ireturn, 1) := by decide +kernel
theorem d_L_find_15 : decode (xMc m_L_find) 15 = .ok (.iconst 0, 1) := by decide +kernel
theorem d_L_find_16 : decode (xMc m_L_find) 16 = .ok (.ireturn, 1) := by decide +kernel
theorem d_L_task_0 : decode (xMc m_L_task) 0 = .ok (.aload 4, 2) := by decide +kernel
theorem d_L_task_2 : decode (xMc m_L_task) 2 = .ok (.iconst 0, 1) := by decide +kernel
theorem d_L_task_3 : decode (xMc m_L_task) 3 = .ok (.aload_n 0, 1) := by decide +kernel
theorem d_L_task_4 : decode (xMc m_L_task) 4 = .ok (.iload_n 1, 1) := by decide +kernel
theorem d_L_task_5 : decode (xMc m_L_task) 5 = .ok (.iload_n 2, 1) := by decide +kernel
theorem d_L_task_6 : decode (xMc m_L_task) 6 = .ok (.iload_n 3, 1) := by decide +kernel
theorem d_L_task_7 : decode (xMc m_L_task) 7 = .ok (.invokevirtual 47, 3) := by decide +kernel
theorem d_L_task_10 : decode (xMc m_L_task) 10 = .ok (.i2l, 1) := by decide +kernel
theorem d_L_task_11 : decode (xMc m_L_task) 11 = .ok (.lastore, 1) := by decide +kernel
theorem d_L_task_12 : decode (xMc m_L_task) 12 = .ok (.goto 15, 3) := by decide +kernel
theorem d_L_task_15 : decode (xMc m_L_task) 15 = .ok (.astore 5, 2) := by decide +kernel
theorem d_L_task_17 : decode (xMc m_L_task) 17 = .ok (.iconst 1, 1) := by decide +kernel
theorem d_L_task_18 : decode (xMc m_L_task) 18 = .ok (.ireturn, 1) := by decide +kernel
theorem d_L_task_19 : decode (xMc m_L_task) 19 = .ok (.astore 5, 2) := by decide +kernel
theorem d_L_task_21 : decode (xMc m_L_task) 21 = .ok (.iconst 2, 1) := by decide +kernel
theorem d_L_task_22 : decode (xMc m_L_task) 22 = .ok (.ireturn, 1) := by decide +kernel
theorem d_L_task_23 : decode (xMc m_L_task) 23 = .ok (.astore 5, 2) := by decide +kernel
theorem d_L_task_25 : decode (xMc m_L_task) 25 = .ok (.iconst 3, 1) := by decide +kernel
theorem d_L_task_26 : decode (xMc m_L_task) 26 = .ok (.ireturn, 1) := by decide +kernel
theorem d_L_task_27 : decode (xMc m_L_task) 27 = .ok (.iconst 0, 1) := by decide +kernel
theorem d_L_task_28 : decode (xMc m_L_task) 28 = .ok (.ireturn, 1) := by decide +kernel
theorem d_L_ofWorker_0 : decode (xMc m_L_ofWorker) 0 = .ok (.aload_n 3, 1) := by decide +kernel
theorem d_L_ofWorker_1 : decode (xMc m_L_ofWorker) 1 = .ok (.iconst 0, 1) := by decide +kernel
theorem d_L_ofWorker_2 : decode (xMc m_L_ofWorker) 2 = .ok (.aload_n 0, 1) := by decide +kernel
theorem d_L_ofWorker_3 : decode (xMc m_L_ofWorker) 3 = .ok (.iload_n 1, 1) := by decide +kernel
theorem d_L_ofWorker_4 : decode (xMc m_L_ofWorker) 4 = .ok (.iload_n 2, 1) := by decide +kernel
theorem d_L_ofWorker_5 : decode (xMc m_L_ofWorker) 5 = .ok (.invokevirtual 51, 3) := by decide +kernel
theorem d_L_ofWorker_8 : decode (xMc m_L_ofWorker) 8 = .ok (.i2l, 1) := by decide +kernel
theorem d_L_ofWorker_9 : decode (xMc m_L_ofWorker) 9 = .ok (.lastore, 1) := by decide +kernel
theorem d_L_ofWorker_10 : decode (xMc m_L_ofWorker) 10 = .ok (.goto 7, 3) := by decide +kernel
theorem d_L_ofWorker_13 : decode (xMc m_L_ofWorker) 13 = .ok (.astore 4, 2) := by decide +kernel
theorem d_L_ofWorker_15 : decode (xMc m_L_ofWorker) 15 = .ok (.iconst 1, 1) := by decide +kernel
theorem d_L_ofWorker_16 : decode (xMc m_L_ofWorker) 16 = .ok (.ireturn, 1) := by decide +kernel
theorem d_L_ofWorker_17 : decode (xMc m_L_ofWorker) 17 = .ok (.iconst 0, 1) := by decide +kernel
theorem d_L_ofWorker_18 : decode (xMc m_L_ofWorker) 18 = .ok (.ireturn, 1) := by decide +kernel
theorem d_L_law_0 : decode (code) 0 = .ok (.new 8, 3) := by decide +kernel
theorem d_L_law_3 : decode (code) 3 = .ok (.dup, 1) := by decide +kernel
theorem d_L_law_4 : decode (code) 4 = .ok (.invokespecial 55, 3) := by decide +kernel
theorem d_L_law_7 : decode (code) 7 = .ok (.astore_n 1, 1) := by decide +kernel
theorem d_L_law_8 : decode (code) 8 = .ok (.new 56, 3) := by decide +kernel
theorem d_L_law_11 : decode (code) 11 = .ok (.dup, 1) := by decide +kernel
theorem d_L_law_12 : decode (code) 12 = .ok (.invokespecial 58, 3) := by decide +kernel
theorem d_L_law_15 : decode (code) 15 = .ok (.astore_n 2, 1) := by decide +kernel
theorem d_L_law_16 : decode (code) 16 = .ok (.iconst 1, 1) := by decide +kernel
theorem d_L_law_17 : decode (code) 17 = .ok (.newarray .long, 2) := by decide +kernel
theorem d_L_law_19 : decode (code) 19 = .ok (.astore_n 3, 1) := by decide +kernel
theorem d_L_law_20 : decode (code) 20 = .ok (.iconst 0, 1) := by decide +kernel
theorem d_L_law_21 : decode (code) 21 = .ok (.istore 4, 2) := by decide +kernel
theorem d_L_law_23 : decode (code) 23 = .ok (.iload 4, 2) := by decide +kernel
theorem d_L_law_25 : decode (code) 25 = .ok (.aload_n 0, 1) := by decide +kernel
theorem d_L_law_26 : decode (code) 26 = .ok (.arraylength, 1) := by decide +kernel
theorem d_L_law_27 : decode (code) 27 = .ok (.iconst 5, 1) := by decide +kernel
theorem d_L_law_28 : decode (code) 28 = .ok (.isub, 1) := by decide +kernel
theorem d_L_law_29 : decode (code) 29 = .ok (.if_icmp .gt 821, 3) := by decide +kernel
theorem d_L_law_32 : decode (code) 32 = .ok (.aload_n 0, 1) := by decide +kernel
theorem d_L_law_33 : decode (code) 33 = .ok (.iload 4, 2) := by decide +kernel
theorem d_L_law_35 : decode (code) 35 = .ok (.iaload, 1) := by decide +kernel
theorem d_L_law_36 : decode (code) 36 = .ok (.bipush 15, 2) := by decide +kernel
theorem d_L_law_38 : decode (code) 38 = .ok (.iand, 1) := by decide +kernel
theorem d_L_law_39 : decode (code) 39 = .ok (.tableswitch 805 0 11 #[61, 173, 237, 285, 308, 400, 456, 480, 560, 616, 712, 780], 61) := by decide +kernel
theorem d_L_law_100 : decode (code) 100 = .ok (.aload_n 1, 1) := by decide +kernel
theorem d_L_law_101 : decode (code) 101 = .ok (.aload_n 0, 1) := by decide +kernel
theorem d_L_law_102 : decode (code) 102 = .ok (.iload 4, 2) := by decide +kernel
theorem d_L_law_104 : decode (code) 104 = .ok (.iconst 1, 1) := by decide +kernel
theorem d_L_law_105 : decode (code) 105 = .ok (.iadd, 1) := by decide +kernel
theorem d_L_law_106 : decode (code) 106 = .ok (.iaload, 1) := by decide +kernel
theorem d_L_law_107 : decode (code) 107 = .ok (.i2l, 1) := by decide +kernel
theorem d_L_law_108 : decode (code) 108 = .ok (.bipush 32, 2) := by decide +kernel
theorem d_L_law_110 : decode (code) 110 = .ok (.lshl, 1) := by decide +kernel
theorem d_L_law_111 : decode (code) 111 = .ok (.aload_n 0, 1) := by decide +kernel
theorem d_L_law_112 : decode (code) 112 = .ok (.iload 4, 2) := by decide +kernel
theorem d_L_law_114 : decode (code) 114 = .ok (.iconst 2, 1) := by decide +kernel
theorem d_L_law_115 : decode (code) 115 = .ok (.iadd, 1) := by decide +kernel
theorem d_L_law_116 : decode (code) 116 = .ok (.iaload, 1) := by decide +kernel
theorem d_L_law_117 : decode (code) 117 = .ok (.i2l, 1) := by decide +kernel
theorem d_L_law_118 : decode (code) 118 = .ok (.ldc2_w 59, 3) := by decide +kernel
theorem d_L_law_121 : decode (code) 121 = .ok (.land, 1) := by decide +kernel
theorem d_L_law_122 : decode (code) 122 = .ok (.lor, 1) := by decide +kernel
theorem d_L_law_123 : decode (code) 123 = .ok (.aload_n 0, 1) := by decide +kernel
theorem d_L_law_124 : decode (code) 124 = .ok (.iload 4, 2) := by decide +kernel
theorem d_L_law_126 : decode (code) 126 = .ok (.iconst 3, 1) := by decide +kernel
theorem d_L_law_127 : decode (code) 127 = .ok (.iadd, 1) := by decide +kernel
theorem d_L_law_128 : decode (code) 128 = .ok (.iaload, 1) := by decide +kernel
theorem d_L_law_129 : decode (code) 129 = .ok (.aload_n 0, 1) := by decide +kernel
theorem d_L_law_130 : decode (code) 130 = .ok (.iload 4, 2) := by decide +kernel
theorem d_L_law_132 : decode (code) 132 = .ok (.iconst 4, 1) := by decide +kernel
theorem d_L_law_133 : decode (code) 133 = .ok (.iadd, 1) := by decide +kernel
theorem d_L_law_134 : decode (code) 134 = .ok (.iaload, 1) := by decide +kernel
theorem d_L_law_135 : decode (code) 135 = .ok (.aload_n 3, 1) := by decide +kernel
theorem d_L_law_136 : decode (code) 136 = .ok (.invokestatic 61, 3) := by decide +kernel
theorem d_L_law_139 : decode (code) 139 = .ok (.istore 5, 2) := by decide +kernel
theorem d_L_law_141 : decode (code) 141 = .ok (.aload_n 2, 1) := by decide +kernel
theorem d_L_law_142 : decode (code) 142 = .ok (.aload_n 0, 1) := by decide +kernel
theorem d_L_law_143 : decode (code) 143 = .ok (.iload 4, 2) := by decide +kernel
theorem d_L_law_145 : decode (code) 145 = .ok (.iconst 1, 1) := by decide +kernel
theorem d_L_law_146 : decode (code) 146 = .ok (.iadd, 1) := by decide +kernel
theorem d_L_law_147 : decode (code) 147 = .ok (.iaload, 1) := by decide +kernel
theorem d_L_law_148 : decode (code) 148 = .ok (.i2l, 1) := by decide +kernel
theorem d_L_law_149 : decode (code) 149 = .ok (.bipush 32, 2) := by decide +kernel
theorem d_L_law_151 : decode (code) 151 = .ok (.lshl, 1) := by decide +kernel
theorem d_L_law_152 : decode (code) 152 = .ok (.aload_n 0, 1) := by decide +kernel
theorem d_L_law_153 : decode (code) 153 = .ok (.iload 4, 2) := by decide +kernel
theorem d_L_law_155 : decode (code) 155 = .ok (.iconst 2, 1) := by decide +kernel
theorem d_L_law_156 : decode (code) 156 = .ok (.iadd, 1) := by decide +kernel
theorem d_L_law_157 : decode (code) 157 = .ok (.iaload, 1) := by decide +kernel
theorem d_L_law_158 : decode (code) 158 = .ok (.i2l, 1) := by decide +kernel
theorem d_L_law_159 : decode (code) 159 = .ok (.ldc2_w 59, 3) := by decide +kernel
theorem d_L_law_162 : decode (code) 162 = .ok (.land, 1) := by decide +kernel
theorem d_L_law_163 : decode (code) 163 = .ok (.lor, 1) := by decide +kernel
theorem d_L_law_164 : decode (code) 164 = .ok (.aload_n 0, 1) := by decide +kernel
theorem d_L_law_165 : decode (code) 165 = .ok (.iload 4, 2) := by decide +kernel
theorem d_L_law_167 : decode (code) 167 = .ok (.iconst 3, 1) := by decide +kernel
theorem d_L_law_168 : decode (code) 168 = .ok (.iadd, 1) := by decide +kernel
theorem d_L_law_169 : decode (code) 169 = .ok (.iaload, 1) := by decide +kernel
theorem d_L_law_170 : decode (code) 170 = .ok (.aload_n 0, 1) := by decide +kernel
theorem d_L_law_171 : decode (code) 171 = .ok (.iload 4, 2) := by decide +kernel
theorem d_L_law_173 : decode (code) 173 = .ok (.iconst 4, 1) := by decide +kernel
theorem d_L_law_174 : decode (code) 174 = .ok (.iadd, 1) := by decide +kernel
theorem d_L_law_175 : decode (code) 175 = .ok (.iaload, 1) := by decide +kernel
theorem d_L_law_176 : decode (code) 176 = .ok (.invokevirtual 66, 3) := by decide +kernel
theorem d_L_law_179 : decode (code) 179 = .ok (.istore 6, 2) := by decide +kernel
theorem d_L_law_181 : decode (code) 181 = .ok (.aload_n 2, 1) := by decide +kernel
theorem d_L_law_182 : decode (code) 182 = .ok (.invokevirtual 67, 3) := by decide +kernel
theorem d_L_law_185 : decode (code) 185 = .ok (.iload 5, 2) := by decide +kernel
theorem d_L_law_187 : decode (code) 187 = .ok (.if_icmp .eq 5, 3) := by decide +kernel
theorem d_L_law_190 : decode (code) 190 = .ok (.iconst 0, 1) := by decide +kernel
theorem d_L_law_191 : decode (code) 191 = .ok (.ireturn, 1) := by decide +kernel
theorem d_L_law_192 : decode (code) 192 = .ok (.iload 5, 2) := by decide +kernel
theorem d_L_law_194 : decode (code) 194 = .ok (.ifCond .ne 15, 3) := by decide +kernel
theorem d_L_law_197 : decode (code) 197 = .ok (.aload_n 3, 1) := by decide +kernel
theorem d_L_law_198 : decode (code) 198 = .ok (.iconst 0, 1) := by decide +kernel
theorem d_L_law_199 : decode (code) 199 = .ok (.laload, 1) := by decide +kernel
theorem d_L_law_200 : decode (code) 200 = .ok (.iload 6, 2) := by decide +kernel
theorem d_L_law_202 : decode (code) 202 = .ok (.i2l, 1) := by decide +kernel
theorem d_L_law_203 : decode (code) 203 = .ok (.lcmp, 1) := by decide +kernel
theorem d_L_law_204 : decode (code) 204 = .ok (.ifCond .eq 5, 3) := by decide +kernel
theorem d_L_law_207 : decode (code) 207 = .ok (.iconst 0, 1) := by decide +kernel
theorem d_L_law_208 : decode (code) 208 = .ok (.ireturn, 1) := by decide +kernel
theorem d_L_law_209 : decode (code) 209 = .ok (.goto 635, 3) := by decide +kernel
theorem d_L_law_212 : decode (code) 212 = .ok (.aload_n 1, 1) := by decide +kernel
theorem d_L_law_213 : decode (code) 213 = .ok (.aload_n 0, 1) := by decide +kernel
theorem d_L_law_214 : decode (code) 214 = .ok (.iload 4, 2) := by decide +kernel
theorem d_L_law_216 : decode (code) 216 = .ok (.iconst 1, 1) := by decide +kernel
theorem d_L_law_217 : decode (code) 217 = .ok (.iadd, 1) := by decide +kernel
theorem d_L_law_218 : decode (code) 218 = .ok (.iaload, 1) := by decide +kernel
theorem d_L_law_219 : decode (code) 219 = .ok (.aload_n 0, 1) := by decide +kernel
theorem d_L_law_220 : decode (code) 220 = .ok (.iload 4, 2) := by decide +kernel
theorem d_L_law_222 : decode (code) 222 = .ok (.iconst 2, 1) := by decide +kernel
theorem d_L_law_223 : decode (code) 223 = .ok (.iadd, 1) := by decide +kernel
theorem d_L_law_224 : decode (code) 224 = .ok (.iaload, 1) := by decide +kernel
theorem d_L_law_225 : decode (code) 225 = .ok (.ifCond .eq 7, 3) := by decide +kernel
theorem d_L_law_228 : decode (code) 228 = .ok (.iconst 1, 1) := by decide +kernel
theorem d_L_law_229 : decode (code) 229 = .ok (.goto 4, 3) := by decide +kernel
theorem d_L_law_232 : decode (code) 232 = .ok (.iconst 0, 1) := by decide +kernel
theorem d_L_law_233 : decode (code) 233 = .ok (.invokestatic 71, 3) := by decide +kernel
theorem d_L_law_236 : decode (code) 236 = .ok (.istore 5, 2) := by decide +kernel
theorem d_L_law_238 : decode (code) 238 = .ok (.aload_n 2, 1) := by decide +kernel
theorem d_L_law_239 : decode (code) 239 = .ok (.aload_n 0, 1) := by decide +kernel
theorem d_L_law_240 : decode (code) 240 = .ok (.iload 4, 2) := by decide +kernel
theorem d_L_law_242 : decode (code) 242 = .ok (.iconst 1, 1) := by decide +kernel
theorem d_L_law_243 : decode (code) 243 = .ok (.iadd, 1) := by decide +kernel
theorem d_L_law_244 : decode (code) 244 = .ok (.iaload, 1) := by decide +kernel
theorem d_L_law_245 : decode (code) 245 = .ok (.aload_n 0, 1) := by decide +kernel
theorem d_L_law_246 : decode (code) 246 = .ok (.iload 4, 2) := by decide +kernel
theorem d_L_law_248 : decode (code) 248 = .ok (.iconst 2, 1) := by decide +kernel
theorem d_L_law_249 : decode (code) 249 = .ok (.iadd, 1) := by decide +kernel
theorem d_L_law_250 : decode (code) 250 = .ok (.iaload, 1) := by decide +kernel
theorem d_L_law_251 : decode (code) 251 = .ok (.ifCond .eq 7, 3) := by decide +kernel
theorem d_L_law_254 : decode (code) 254 = .ok (.iconst 1, 1) := by decide +kernel
theorem d_L_law_255 : decode (code) 255 = .ok (.goto 4, 3) := by decide +kernel
theorem d_L_law_258 : decode (code) 258 = .ok (.iconst 0, 1) := by decide +kernel
theorem d_L_law_259 : decode (code) 259 = .ok (.invokevirtual 74, 3) := by decide +kernel
theorem d_L_law_262 : decode (code) 262 = .ok (.aload_n 2, 1) := by decide +kernel
theorem d_L_law_263 : decode (code) 263 = .ok (.invokevirtual 67, 3) := by decide +kernel
theorem d_L_law_266 : decode (code) 266 = .ok (.iload 5, 2) := by decide +kernel
theorem d_L_law_268 : decode (code) 268 = .ok (.if_icmp .eq 5, 3) := by decide +kernel
theorem d_L_law_271 : decode (code) 271 = .ok (.iconst 0, 1) := by decide +kernel
theorem d_L_law_272 : decode (code) 272 = .ok (.ireturn, 1) := by decide +kernel
theorem d_L_law_273 : decode (code) 273 = .ok (.goto 571, 3) := by decide +kernel
theorem d_L_law_276 : decode (code) 276 = .ok (.aload_n 1, 1) := by decide +kernel
theorem d_L_law_277 : decode (code) 277 = .ok (.aload_n 0, 1) := by decide +kernel
theorem d_L_law_278 : decode (code) 278 = .ok (.iload 4, 2) := by decide +kernel
theorem d_L_law_280 : decode (code) 280 = .ok (.iconst 1, 1) := by decide +kernel
theorem d_L_law_281 : decode (code) 281 = .ok (.iadd, 1) := by decide +kernel
theorem d_L_law_282 : decode (code) 282 = .ok (.iaload, 1) := by decide +kernel
theorem d_L_law_283 : decode (code) 283 = .ok (.aload_n 0, 1) := by decide +kernel
theorem d_L_law_284 : decode (code) 284 = .ok (.iload 4, 2) := by decide +kernel
theorem d_L_law_286 : decode (code) 286 = .ok (.iconst 2, 1) := by decide +kernel
theorem d_L_law_287 : decode (code) 287 = .ok (.iadd, 1) := by decide +kernel
theorem d_L_law_288 : decode (code) 288 = .ok (.iaload, 1) := by decide +kernel
theorem d_L_law_289 : decode (code) 289 = .ok (.invokestatic 75, 3) := by decide +kernel
theorem d_L_law_292 : decode (code) 292 = .ok (.istore 5, 2) := by decide +kernel
theorem d_L_law_294 : decode (code) 294 = .ok (.aload_n 2, 1) := by decide +kernel
theorem d_L_law_295 : decode (code) 295 = .ok (.aload_n 0, 1) := by decide +kernel
theorem d_L_law_296 : decode (code) 296 = .ok (.iload 4, 2) := by decide +kernel
theorem d_L_law_298 : decode (code) 298 = .ok (.iconst 1, 1) := by decide +kernel
theorem d_L_law_299 : decode (code) 299 = .ok (.iadd, 1) := by decide +kernel
theorem d_L_law_300 : decode (code) 300 = .ok (.iaload, 1) := by decide +kernel
theorem d_L_law_301 : decode (code) 301 = .ok (.aload_n 0, 1) := by decide +kernel
theorem d_L_law_302 : decode (code) 302 = .ok (.iload 4, 2) := by decide +kernel
theorem d_L_law_304 : decode (code) 304 = .ok (.iconst 2, 1) := by decide +kernel
theorem d_L_law_305 : decode (code) 305 = .ok (.iadd, 1) := by decide +kernel
theorem d_L_law_306 : decode (code) 306 = .ok (.iaload, 1) := by decide +kernel
theorem d_L_law_307 : decode (code) 307 = .ok (.invokevirtual 78, 3) := by decide +kernel
theorem d_L_law_310 : decode (code) 310 = .ok (.aload_n 2, 1) := by decide +kernel
theorem d_L_law_311 : decode (code) 311 = .ok (.invokevirtual 67, 3) := by decide +kernel
theorem d_L_law_314 : decode (code) 314 = .ok (.iload 5, 2) := by decide +kernel
theorem d_L_law_316 : decode (code) 316 = .ok (.if_icmp .eq 5, 3) := by decide +kernel
theorem d_L_law_319 : decode (code) 319 = .ok (.iconst 0, 1) := by decide +kernel
theorem d_L_law_320 : decode (code) 320 = .ok (.ireturn, 1) := by decide +kernel
theorem d_L_law_321 : decode (code) 321 = .ok (.goto 523, 3) := by decide +kernel
theorem d_L_law_324 : decode (code) 324 = .ok (.aload_n 1, 1) := by decide +kernel
theorem d_L_law_325 : decode (code) 325 = .ok (.aload_n 0, 1) := by decide +kernel
theorem d_L_law_326 : decode (code) 326 = .ok (.iload 4, 2) := by decide +kernel
theorem d_L_law_328 : decode (code) 328 = .ok (.iconst 1, 1) := by decide +kernel
theorem d_L_law_329 : decode (code) 329 = .ok (.iadd, 1) := by decide +kernel
theorem d_L_law_330 : decode (code) 330 = .ok (.iaload, 1) := by decide +kernel
theorem d_L_law_331 : decode (code) 331 = .ok (.invokevirtual 79, 3) := by decide +kernel
theorem d_L_law_334 : decode (code) 334 = .ok (.aload_n 2, 1) := by decide +kernel
theorem d_L_law_335 : decode (code) 335 = .ok (.aload_n 0, 1) := by decide +kernel
theorem d_L_law_336 : decode (code) 336 = .ok (.iload 4, 2) := by decide +kernel
theorem d_L_law_338 : decode (code) 338 = .ok (.iconst 1, 1) := by decide +kernel
theorem d_L_law_339 : decode (code) 339 = .ok (.iadd, 1) := by decide +kernel
theorem d_L_law_340 : decode (code) 340 = .ok (.iaload, 1) := by decide +kernel
theorem d_L_law_341 : decode (code) 341 = .ok (.invokevirtual 83, 3) := by decide +kernel
theorem d_L_law_344 : decode (code) 344 = .ok (.goto 500, 3) := by decide +kernel
theorem d_L_law_347 : decode (code) 347 = .ok (.aload_n 1, 1) := by decide +kernel
theorem d_L_law_348 : decode (code) 348 = .ok (.aload_n 0, 1) := by decide +kernel
theorem d_L_law_349 : decode (code) 349 = .ok (.iload 4, 2) := by decide +kernel
theorem d_L_law_351 : decode (code) 351 = .ok (.iconst 1, 1) := by decide +kernel
theorem d_L_law_352 : decode (code) 352 = .ok (.iadd, 1) := by decide +kernel
theorem d_L_law_353 : decode (code) 353 = .ok (.iaload, 1) := by decide +kernel
theorem d_L_law_354 : decode (code) 354 = .ok (.aload_n 0, 1) := by decide +kernel
theorem d_L_law_355 : decode (code) 355 = .ok (.iload 4, 2) := by decide +kernel
theorem d_L_law_357 : decode (code) 357 = .ok (.iconst 2, 1) := by decide +kernel
theorem d_L_law_358 : decode (code) 358 = .ok (.iadd, 1) := by decide +kernel
theorem d_L_law_359 : decode (code) 359 = .ok (.iaload, 1) := by decide +kernel
theorem d_L_law_360 : decode (code) 360 = .ok (.aload_n 0, 1) := by decide +kernel
theorem d_L_law_361 : decode (code) 361 = .ok (.iload 4, 2) := by decide +kernel
theorem d_L_law_363 : decode (code) 363 = .ok (.iconst 3, 1) := by decide +kernel
theorem d_L_law_364 : decode (code) 364 = .ok (.iadd, 1) := by decide +kernel
theorem d_L_law_365 : decode (code) 365 = .ok (.iaload, 1) := by decide +kernel
theorem d_L_law_366 : decode (code) 366 = .ok (.aload_n 0, 1) := by decide +kernel
theorem d_L_law_367 : decode (code) 367 = .ok (.iload 4, 2) := by decide +kernel
theorem d_L_law_369 : decode (code) 369 = .ok (.iconst 4, 1) := by decide +kernel
theorem d_L_law_370 : decode (code) 370 = .ok (.iadd, 1) := by decide +kernel
theorem d_L_law_371 : decode (code) 371 = .ok (.iaload, 1) := by decide +kernel
theorem d_L_law_372 : decode (code) 372 = .ok (.aload_n 3, 1) := by decide +kernel
theorem d_L_law_373 : decode (code) 373 = .ok (.invokestatic 84, 3) := by decide +kernel
theorem d_L_law_376 : decode (code) 376 = .ok (.istore 5, 2) := by decide +kernel
theorem d_L_law_378 : decode (code) 378 = .ok (.aload_n 2, 1) := by decide +kernel
theorem d_L_law_379 : decode (code) 379 = .ok (.aload_n 0, 1) := by decide +kernel
theorem d_L_law_380 : decode (code) 380 = .ok (.iload 4, 2) := by decide +kernel
theorem d_L_law_382 : decode (code) 382 = .ok (.iconst 1, 1) := by decide +kernel
theorem d_L_law_383 : decode (code) 383 = .ok (.iadd, 1) := by decide +kernel
theorem d_L_law_384 : decode (code) 384 = .ok (.iaload, 1) := by decide +kernel
theorem d_L_law_385 : decode (code) 385 = .ok (.aload_n 0, 1) := by decide +kernel
theorem d_L_law_386 : decode (code) 386 = .ok (.iload 4, 2) := by decide +kernel
theorem d_L_law_388 : decode (code) 388 = .ok (.iconst 2, 1) := by decide +kernel
theorem d_L_law_389 : decode (code) 389 = .ok (.iadd, 1) := by decide +kernel
theorem d_L_law_390 : decode (code) 390 = .ok (.iaload, 1) := by decide +kernel
theorem d_L_law_391 : decode (code) 391 = .ok (.aload_n 0, 1) := by decide +kernel
theorem d_L_law_392 : decode (code) 392 = .ok (.iload 4, 2) := by decide +kernel
theorem d_L_law_394 : decode (code) 394 = .ok (.iconst 3, 1) := by decide +kernel
theorem d_L_law_395 : decode (code) 395 = .ok (.iadd, 1) := by decide +kernel
theorem d_L_law_396 : decode (code) 396 = .ok (.iaload, 1) := by decide +kernel
theorem d_L_law_397 : decode (code) 397 = .ok (.aload_n 0, 1) := by decide +kernel
theorem d_L_law_398 : decode (code) 398 = .ok (.iload 4, 2) := by decide +kernel
theorem d_L_law_400 : decode (code) 400 = .ok (.iconst 4, 1) := by decide +kernel
theorem d_L_law_401 : decode (code) 401 = .ok (.iadd, 1) := by decide +kernel
theorem d_L_law_402 : decode (code) 402 = .ok (.iaload, 1) := by decide +kernel
theorem d_L_law_403 : decode (code) 403 = .ok (.invokevirtual 87, 3) := by decide +kernel
theorem d_L_law_406 : decode (code) 406 = .ok (.istore 6, 2) := by decide +kernel
theorem d_L_law_408 : decode (code) 408 = .ok (.aload_n 2, 1) := by decide +kernel
theorem d_L_law_409 : decode (code) 409 = .ok (.invokevirtual 67, 3) := by decide +kernel
theorem d_L_law_412 : decode (code) 412 = .ok (.iload 5, 2) := by decide +kernel
theorem d_L_law_414 : decode (code) 414 = .ok (.if_icmp .eq 5, 3) := by decide +kernel
theorem d_L_law_417 : decode (code) 417 = .ok (.iconst 0, 1) := by decide +kernel
theorem d_L_law_418 : decode (code) 418 = .ok (.ireturn, 1) := by decide +kernel
theorem d_L_law_419 : decode (code) 419 = .ok (.iload 5, 2) := by decide +kernel
theorem d_L_law_421 : decode (code) 421 = .ok (.ifCond .ne 15, 3) := by decide +kernel
theorem d_L_law_424 : decode (code) 424 = .ok (.aload_n 3, 1) := by decide +kernel
theorem d_L_law_425 : decode (code) 425 = .ok (.iconst 0, 1) := by decide +kernel
theorem d_L_law_426 : decode (code) 426 = .ok (.laload, 1) := by decide +kernel
theorem d_L_law_427 : decode (code) 427 = .ok (.iload 6, 2) := by decide +kernel
theorem d_L_law_429 : decode (code) 429 = .ok (.i2l, 1) := by decide +kernel
theorem d_L_law_430 : decode (code) 430 = .ok (.lcmp, 1) := by decide +kernel
theorem d_L_law_431 : decode (code) 431 = .ok (.ifCond .eq 5, 3) := by decide +kernel
theorem d_L_law_434 : decode (code) 434 = .ok (.iconst 0, 1) := by decide +kernel
theorem d_L_law_435 : decode (code) 435 = .ok (.ireturn, 1) := by decide +kernel
theorem d_L_law_436 : decode (code) 436 = .ok (.goto 408, 3) := by decide +kernel
theorem d_L_law_439 : decode (code) 439 = .ok (.aload_n 1, 1) := by decide +kernel
theorem d_L_law_440 : decode (code) 440 = .ok (.aload_n 0, 1) := by decide +kernel
theorem d_L_law_441 : decode (code) 441 = .ok (.iload 4, 2) := by decide +kernel
theorem d_L_law_443 : decode (code) 443 = .ok (.iconst 1, 1) := by decide +kernel
theorem d_L_law_444 : decode (code) 444 = .ok (.iadd, 1) := by decide +kernel
theorem d_L_law_445 : decode (code) 445 = .ok (.iaload, 1) := by decide +kernel
theorem d_L_law_446 : decode (code) 446 = .ok (.aload_n 3, 1) := by decide +kernel
theorem d_L_law_447 : decode (code) 447 = .ok (.invokestatic 88, 3) := by decide +kernel
theorem d_L_law_450 : decode (code) 450 = .ok (.istore 5, 2) := by decide +kernel
theorem d_L_law_452 : decode (code) 452 = .ok (.aload_n 2, 1) := by decide +kernel
theorem d_L_law_453 : decode (code) 453 = .ok (.aload_n 0, 1) := by decide +kernel
theorem d_L_law_454 : decode (code) 454 = .ok (.iload 4, 2) := by decide +kernel
theorem d_L_law_456 : decode (code) 456 = .ok (.iconst 1, 1) := by decide +kernel
theorem d_L_law_457 : decode (code) 457 = .ok (.iadd, 1) := by decide +kernel
theorem d_L_law_458 : decode (code) 458 = .ok (.iaload, 1) := by decide +kernel
theorem d_L_law_459 : decode (code) 459 = .ok (.invokevirtual 91, 3) := by decide +kernel
theorem d_L_law_462 : decode (code) 462 = .ok (.istore 6, 2) := by decide +kernel
theorem d_L_law_464 : decode (code) 464 = .ok (.aload_n 2, 1) := by decide +kernel
theorem d_L_law_465 : decode (code) 465 = .ok (.invokevirtual 67, 3) := by decide +kernel
theorem d_L_law_468 : decode (code) 468 = .ok (.iload 5, 2) := by decide +kernel
theorem d_L_law_470 : decode (code) 470 = .ok (.if_icmp .eq 5, 3) := by decide +kernel
theorem d_L_law_473 : decode (code) 473 = .ok (.iconst 0, 1) := by decide +kernel
theorem d_L_law_474 : decode (code) 474 = .ok (.ireturn, 1) := by decide +kernel
theorem d_L_law_475 : decode (code) 475 = .ok (.iload 5, 2) := by decide +kernel
theorem d_L_law_477 : decode (code) 477 = .ok (.ifCond .ne 15, 3) := by decide +kernel
theorem d_L_law_480 : decode (code) 480 = .ok (.aload_n 3, 1) := by decide +kernel
theorem d_L_law_481 : decode (code) 481 = .ok (.iconst 0, 1) := by decide +kernel
theorem d_L_law_482 : decode (code) 482 = .ok (.laload, 1) := by decide +kernel
theorem d_L_law_483 : decode (code) 483 = .ok (.iload 6, 2) := by decide +kernel
theorem d_L_law_485 : decode (code) 485 = .ok (.i2l, 1) := by decide +kernel
theorem d_L_law_486 : decode (code) 486 = .ok (.lcmp, 1) := by decide +kernel
theorem d_L_law_487 : decode (code) 487 = .ok (.ifCond .eq 5, 3) := by decide +kernel
theorem d_L_law_490 : decode (code) 490 = .ok (.iconst 0, 1) := by decide +kernel
theorem d_L_law_491 : decode (code) 491 = .ok (.ireturn, 1) := by decide +kernel
theorem d_L_law_492 : decode (code) 492 = .ok (.goto 352, 3) := by decide +kernel
theorem d_L_law_495 : decode (code) 495 = .ok (.aload_n 1, 1) := by decide +kernel
theorem d_L_law_496 : decode (code) 496 = .ok (.invokestatic 92, 3) := by decide +kernel
theorem d_L_law_499 : decode (code) 499 = .ok (.istore 5, 2) := by decide +kernel
theorem d_L_law_501 : decode (code) 501 = .ok (.aload_n 2, 1) := by decide +kernel
theorem d_L_law_502 : decode (code) 502 = .ok (.invokevirtual 95, 3) := by decide +kernel
theorem d_L_law_505 : decode (code) 505 = .ok (.aload_n 2, 1) := by decide +kernel
theorem d_L_law_506 : decode (code) 506 = .ok (.invokevirtual 67, 3) := by decide +kernel
theorem d_L_law_509 : decode (code) 509 = .ok (.iload 5, 2) := by decide +kernel
theorem d_L_law_511 : decode (code) 511 = .ok (.if_icmp .eq 5, 3) := by decide +kernel
theorem d_L_law_514 : decode (code) 514 = .ok (.iconst 0, 1) := by decide +kernel
theorem d_L_law_515 : decode (code) 515 = .ok (.ireturn, 1) := by decide +kernel
theorem d_L_law_516 : decode (code) 516 = .ok (.goto 328, 3) := by decide +kernel
theorem d_L_law_519 : decode (code) 519 = .ok (.aload_n 1, 1) := by decide +kernel
theorem d_L_law_520 : decode (code) 520 = .ok (.aload_n 0, 1) := by decide +kernel
theorem d_L_law_521 : decode (code) 521 = .ok (.iload 4, 2) := by decide +kernel
theorem d_L_law_523 : decode (code) 523 = .ok (.iconst 1, 1) := by decide +kernel
theorem d_L_law_524 : decode (code) 524 = .ok (.iadd, 1) := by decide +kernel
theorem d_L_law_525 : decode (code) 525 = .ok (.iaload, 1) := by decide +kernel
theorem d_L_law_526 : decode (code) 526 = .ok (.aload_n 0, 1) := by decide +kernel
theorem d_L_law_527 : decode (code) 527 = .ok (.iload 4, 2) := by decide +kernel
theorem d_L_law_529 : decode (code) 529 = .ok (.iconst 2, 1) := by decide +kernel
theorem d_L_law_530 : decode (code) 530 = .ok (.iadd, 1) := by decide +kernel
theorem d_L_law_531 : decode (code) 531 = .ok (.iaload, 1) := by decide +kernel
theorem d_L_law_532 : decode (code) 532 = .ok (.aload_n 0, 1) := by decide +kernel
theorem d_L_law_533 : decode (code) 533 = .ok (.iload 4, 2) := by decide +kernel
theorem d_L_law_535 : decode (code) 535 = .ok (.iconst 3, 1) := by decide +kernel
theorem d_L_law_536 : decode (code) 536 = .ok (.iadd, 1) := by decide +kernel
theorem d_L_law_537 : decode (code) 537 = .ok (.iaload, 1) := by decide +kernel
theorem d_L_law_538 : decode (code) 538 = .ok (.aload_n 3, 1) := by decide +kernel
theorem d_L_law_539 : decode (code) 539 = .ok (.invokestatic 96, 3) := by decide +kernel
theorem d_L_law_542 : decode (code) 542 = .ok (.istore 5, 2) := by decide +kernel
theorem d_L_law_544 : decode (code) 544 = .ok (.aload_n 2, 1) := by decide +kernel
theorem d_L_law_545 : decode (code) 545 = .ok (.aload_n 0, 1) := by decide +kernel
theorem d_L_law_546 : decode (code) 546 = .ok (.iload 4, 2) := by decide +kernel
theorem d_L_law_548 : decode (code) 548 = .ok (.iconst 1, 1) := by decide +kernel
theorem d_L_law_549 : decode (code) 549 = .ok (.iadd, 1) := by decide +kernel
theorem d_L_law_550 : decode (code) 550 = .ok (.iaload, 1) := by decide +kernel
theorem d_L_law_551 : decode (code) 551 = .ok (.aload_n 0, 1) := by decide +kernel
theorem d_L_law_552 : decode (code) 552 = .ok (.iload 4, 2) := by decide +kernel
theorem d_L_law_554 : decode (code) 554 = .ok (.iconst 2, 1) := by decide +kernel
theorem d_L_law_555 : decode (code) 555 = .ok (.iadd, 1) := by decide +kernel
theorem d_L_law_556 : decode (code) 556 = .ok (.iaload, 1) := by decide +kernel
theorem d_L_law_557 : decode (code) 557 = .ok (.aload_n 0, 1) := by decide +kernel
theorem d_L_law_558 : decode (code) 558 = .ok (.iload 4, 2) := by decide +kernel
theorem d_L_law_560 : decode (code) 560 = .ok (.iconst 3, 1) := by decide +kernel
theorem d_L_law_561 : decode (code) 561 = .ok (.iadd, 1) := by decide +kernel
theorem d_L_law_562 : decode (code) 562 = .ok (.iaload, 1) := by decide +kernel
theorem d_L_law_563 : decode (code) 563 = .ok (.invokevirtual 99, 3) := by decide +kernel
theorem d_L_law_566 : decode (code) 566 = .ok (.istore 6, 2) := by decide +kernel
theorem d_L_law_568 : decode (code) 568 = .ok (.aload_n 2, 1) := by decide +kernel
theorem d_L_law_569 : decode (code) 569 = .ok (.invokevirtual 67, 3) := by decide +kernel
theorem d_L_law_572 : decode (code) 572 = .ok (.iload 5, 2) := by decide +kernel
theorem d_L_law_574 : decode (code) 574 = .ok (.if_icmp .eq 5, 3) := by decide +kernel
theorem d_L_law_577 : decode (code) 577 = .ok (.iconst 0, 1) := by decide +kernel
theorem d_L_law_578 : decode (code) 578 = .ok (.ireturn, 1) := by decide +kernel
theorem d_L_law_579 : decode (code) 579 = .ok (.iload 5, 2) := by decide +kernel
theorem d_L_law_581 : decode (code) 581 = .ok (.ifCond .ne 15, 3) := by decide +kernel
theorem d_L_law_584 : decode (code) 584 = .ok (.aload_n 3, 1) := by decide +kernel
theorem d_L_law_585 : decode (code) 585 = .ok (.iconst 0, 1) := by decide +kernel
theorem d_L_law_586 : decode (code) 586 = .ok (.laload, 1) := by decide +kernel
theorem d_L_law_587 : decode (code) 587 = .ok (.iload 6, 2) := by decide +kernel
theorem d_L_law_589 : decode (code) 589 = .ok (.i2l, 1) := by decide +kernel
theorem d_L_law_590 : decode (code) 590 = .ok (.lcmp, 1) := by decide +kernel
theorem d_L_law_591 : decode (code) 591 = .ok (.ifCond .eq 5, 3) := by decide +kernel
theorem d_L_law_594 : decode (code) 594 = .ok (.iconst 0, 1) := by decide +kernel
theorem d_L_law_595 : decode (code) 595 = .ok (.ireturn, 1) := by decide +kernel
theorem d_L_law_596 : decode (code) 596 = .ok (.goto 248, 3) := by decide +kernel
theorem d_L_law_599 : decode (code) 599 = .ok (.aload_n 1, 1) := by decide +kernel
theorem d_L_law_600 : decode (code) 600 = .ok (.aload_n 0, 1) := by decide +kernel
theorem d_L_law_601 : decode (code) 601 = .ok (.iload 4, 2) := by decide +kernel
theorem d_L_law_603 : decode (code) 603 = .ok (.iconst 1, 1) := by decide +kernel
theorem d_L_law_604 : decode (code) 604 = .ok (.iadd, 1) := by decide +kernel
theorem d_L_law_605 : decode (code) 605 = .ok (.iaload, 1) := by decide +kernel
theorem d_L_law_606 : decode (code) 606 = .ok (.aload_n 3, 1) := by decide +kernel
theorem d_L_law_607 : decode (code) 607 = .ok (.invokestatic 100, 3) := by decide +kernel
theorem d_L_law_610 : decode (code) 610 = .ok (.istore 5, 2) := by decide +kernel
theorem d_L_law_612 : decode (code) 612 = .ok (.aload_n 2, 1) := by decide +kernel
theorem d_L_law_613 : decode (code) 613 = .ok (.aload_n 0, 1) := by decide +kernel
theorem d_L_law_614 : decode (code) 614 = .ok (.iload 4, 2) := by decide +kernel
theorem d_L_law_616 : decode (code) 616 = .ok (.iconst 1, 1) := by decide +kernel
theorem d_L_law_617 : decode (code) 617 = .ok (.iadd, 1) := by decide +kernel
theorem d_L_law_618 : decode (code) 618 = .ok (.iaload, 1) := by decide +kernel
theorem d_L_law_619 : decode (code) 619 = .ok (.invokevirtual 102, 3) := by decide +kernel
theorem d_L_law_622 : decode (code) 622 = .ok (.istore 6, 2) := by decide +kernel
theorem d_L_law_624 : decode (code) 624 = .ok (.aload_n 2, 1) := by decide +kernel
theorem d_L_law_625 : decode (code) 625 = .ok (.invokevirtual 67, 3) := by decide +kernel
theorem d_L_law_628 : decode (code) 628 = .ok (.iload 5, 2) := by decide +kernel
theorem d_L_law_630 : decode (code) 630 = .ok (.if_icmp .eq 5, 3) := by decide +kernel
theorem d_L_law_633 : decode (code) 633 = .ok (.iconst 0, 1) := by decide +kernel
theorem d_L_law_634 : decode (code) 634 = .ok (.ireturn, 1) := by decide +kernel
theorem d_L_law_635 : decode (code) 635 = .ok (.iload 5, 2) := by decide +kernel
theorem d_L_law_637 : decode (code) 637 = .ok (.ifCond .ne 15, 3) := by decide +kernel
theorem d_L_law_640 : decode (code) 640 = .ok (.aload_n 3, 1) := by decide +kernel
theorem d_L_law_641 : decode (code) 641 = .ok (.iconst 0, 1) := by decide +kernel
theorem d_L_law_642 : decode (code) 642 = .ok (.laload, 1) := by decide +kernel
theorem d_L_law_643 : decode (code) 643 = .ok (.iload 6, 2) := by decide +kernel
theorem d_L_law_645 : decode (code) 645 = .ok (.i2l, 1) := by decide +kernel
theorem d_L_law_646 : decode (code) 646 = .ok (.lcmp, 1) := by decide +kernel
theorem d_L_law_647 : decode (code) 647 = .ok (.ifCond .eq 5, 3) := by decide +kernel
theorem d_L_law_650 : decode (code) 650 = .ok (.iconst 0, 1) := by decide +kernel
theorem d_L_law_651 : decode (code) 651 = .ok (.ireturn, 1) := by decide +kernel
theorem d_L_law_652 : decode (code) 652 = .ok (.goto 192, 3) := by decide +kernel
theorem d_L_law_655 : decode (code) 655 = .ok (.aload_n 1, 1) := by decide +kernel
theorem d_L_law_656 : decode (code) 656 = .ok (.aload_n 0, 1) := by decide +kernel
theorem d_L_law_657 : decode (code) 657 = .ok (.iload 4, 2) := by decide +kernel
theorem d_L_law_659 : decode (code) 659 = .ok (.iconst 1, 1) := by decide +kernel
theorem d_L_law_660 : decode (code) 660 = .ok (.iadd, 1) := by decide +kernel
theorem d_L_law_661 : decode (code) 661 = .ok (.iaload, 1) := by decide +kernel
theorem d_L_law_662 : decode (code) 662 = .ok (.ifCond .eq 7, 3) := by decide +kernel
theorem d_L_law_665 : decode (code) 665 = .ok (.iconst 1, 1) := by decide +kernel
theorem d_L_law_666 : decode (code) 666 = .ok (.goto 4, 3) := by decide +kernel
theorem d_L_law_669 : decode (code) 669 = .ok (.iconst 0, 1) := by decide +kernel
theorem d_L_law_670 : decode (code) 670 = .ok (.aload_n 0, 1) := by decide +kernel
theorem d_L_law_671 : decode (code) 671 = .ok (.iload 4, 2) := by decide +kernel
theorem d_L_law_673 : decode (code) 673 = .ok (.iconst 2, 1) := by decide +kernel
theorem d_L_law_674 : decode (code) 674 = .ok (.iadd, 1) := by decide +kernel
theorem d_L_law_675 : decode (code) 675 = .ok (.iaload, 1) := by decide +kernel
theorem d_L_law_676 : decode (code) 676 = .ok (.aload_n 0, 1) := by decide +kernel
theorem d_L_law_677 : decode (code) 677 = .ok (.iload 4, 2) := by decide +kernel
theorem d_L_law_679 : decode (code) 679 = .ok (.iconst 3, 1) := by decide +kernel
theorem d_L_law_680 : decode (code) 680 = .ok (.iadd, 1) := by decide +kernel
theorem d_L_law_681 : decode (code) 681 = .ok (.iaload, 1) := by decide +kernel
theorem d_L_law_682 : decode (code) 682 = .ok (.aload_n 3, 1) := by decide +kernel
theorem d_L_law_683 : decode (code) 683 = .ok (.invokestatic 103, 3) := by decide +kernel
theorem d_L_law_686 : decode (code) 686 = .ok (.istore 5, 2) := by decide +kernel
theorem d_L_law_688 : decode (code) 688 = .ok (.aload_n 2, 1) := by decide +kernel
theorem d_L_law_689 : decode (code) 689 = .ok (.aload_n 0, 1) := by decide +kernel
theorem d_L_law_690 : decode (code) 690 = .ok (.iload 4, 2) := by decide +kernel
theorem d_L_law_692 : decode (code) 692 = .ok (.iconst 1, 1) := by decide +kernel
theorem d_L_law_693 : decode (code) 693 = .ok (.iadd, 1) := by decide +kernel
theorem d_L_law_694 : decode (code) 694 = .ok (.iaload, 1) := by decide +kernel
theorem d_L_law_695 : decode (code) 695 = .ok (.ifCond .eq 7, 3) := by decide +kernel
theorem d_L_law_698 : decode (code) 698 = .ok (.iconst 1, 1) := by decide +kernel
theorem d_L_law_699 : decode (code) 699 = .ok (.goto 4, 3) := by decide +kernel
theorem d_L_law_702 : decode (code) 702 = .ok (.iconst 0, 1) := by decide +kernel
theorem d_L_law_703 : decode (code) 703 = .ok (.aload_n 0, 1) := by decide +kernel
theorem d_L_law_704 : decode (code) 704 = .ok (.iload 4, 2) := by decide +kernel
theorem d_L_law_706 : decode (code) 706 = .ok (.iconst 2, 1) := by decide +kernel
theorem d_L_law_707 : decode (code) 707 = .ok (.iadd, 1) := by decide +kernel
theorem d_L_law_708 : decode (code) 708 = .ok (.iaload, 1) := by decide +kernel
theorem d_L_law_709 : decode (code) 709 = .ok (.aload_n 0, 1) := by decide +kernel
theorem d_L_law_710 : decode (code) 710 = .ok (.iload 4, 2) := by decide +kernel
theorem d_L_law_712 : decode (code) 712 = .ok (.iconst 3, 1) := by decide +kernel
theorem d_L_law_713 : decode (code) 713 = .ok (.iadd, 1) := by decide +kernel
theorem d_L_law_714 : decode (code) 714 = .ok (.iaload, 1) := by decide +kernel
theorem d_L_law_715 : decode (code) 715 = .ok (.invokevirtual 106, 3) := by decide +kernel
theorem d_L_law_718 : decode (code) 718 = .ok (.istore 6, 2) := by decide +kernel
theorem d_L_law_720 : decode (code) 720 = .ok (.aload_n 2, 1) := by decide +kernel
theorem d_L_law_721 : decode (code) 721 = .ok (.invokevirtual 67, 3) := by decide +kernel
theorem d_L_law_724 : decode (code) 724 = .ok (.iload 5, 2) := by decide +kernel
theorem d_L_law_726 : decode (code) 726 = .ok (.if_icmp .eq 5, 3) := by decide +kernel
theorem d_L_law_729 : decode (code) 729 = .ok (.iconst 0, 1) := by decide +kernel
theorem d_L_law_730 : decode (code) 730 = .ok (.ireturn, 1) := by decide +kernel
theorem d_L_law_731 : decode (code) 731 = .ok (.iload 5, 2) := by decide +kernel
theorem d_L_law_733 : decode (code) 733 = .ok (.ifCond .ne 15, 3) := by decide +kernel
theorem d_L_law_736 : decode (code) 736 = .ok (.aload_n 3, 1) := by decide +kernel
theorem d_L_law_737 : decode (code) 737 = .ok (.iconst 0, 1) := by decide +kernel
theorem d_L_law_738 : decode (code) 738 = .ok (.laload, 1) := by decide +kernel
theorem d_L_law_739 : decode (code) 739 = .ok (.iload 6, 2) := by decide +kernel
theorem d_L_law_741 : decode (code) 741 = .ok (.i2l, 1) := by decide +kernel
theorem d_L_law_742 : decode (code) 742 = .ok (.lcmp, 1) := by decide +kernel
theorem d_L_law_743 : decode (code) 743 = .ok (.ifCond .eq 5, 3) := by decide +kernel
theorem d_L_law_746 : decode (code) 746 = .ok (.iconst 0, 1) := by decide +kernel
theorem d_L_law_747 : decode (code) 747 = .ok (.ireturn, 1) := by decide +kernel
theorem d_L_law_748 : decode (code) 748 = .ok (.goto 96, 3) := by decide +kernel
theorem d_L_law_751 : decode (code) 751 = .ok (.aload_n 1, 1) := by decide +kernel
theorem d_L_law_752 : decode (code) 752 = .ok (.aload_n 0, 1) := by decide +kernel
theorem d_L_law_753 : decode (code) 753 = .ok (.iload 4, 2) := by decide +kernel
theorem d_L_law_755 : decode (code) 755 = .ok (.iconst 1, 1) := by decide +kernel
theorem d_L_law_756 : decode (code) 756 = .ok (.iadd, 1) := by decide +kernel
theorem d_L_law_757 : decode (code) 757 = .ok (.iaload, 1) := by decide +kernel
theorem d_L_law_758 : decode (code) 758 = .ok (.aload_n 0, 1) := by decide +kernel
theorem d_L_law_759 : decode (code) 759 = .ok (.iload 4, 2) := by decide +kernel
theorem d_L_law_761 : decode (code) 761 = .ok (.iconst 2, 1) := by decide +kernel
theorem d_L_law_762 : decode (code) 762 = .ok (.iadd, 1) := by decide +kernel
theorem d_L_law_763 : decode (code) 763 = .ok (.iaload, 1) := by decide +kernel
theorem d_L_law_764 : decode (code) 764 = .ok (.aload_n 3, 1) := by decide +kernel
theorem d_L_law_765 : decode (code) 765 = .ok (.invokestatic 107, 3) := by decide +kernel
theorem d_L_law_768 : decode (code) 768 = .ok (.istore 5, 2) := by decide +kernel
theorem d_L_law_770 : decode (code) 770 = .ok (.aload_n 2, 1) := by decide +kernel
theorem d_L_law_771 : decode (code) 771 = .ok (.aload_n 0, 1) := by decide +kernel
theorem d_L_law_772 : decode (code) 772 = .ok (.iload 4, 2) := by decide +kernel
theorem d_L_law_774 : decode (code) 774 = .ok (.iconst 1, 1) := by decide +kernel
theorem d_L_law_775 : decode (code) 775 = .ok (.iadd, 1) := by decide +kernel
theorem d_L_law_776 : decode (code) 776 = .ok (.iaload, 1) := by decide +kernel
theorem d_L_law_777 : decode (code) 777 = .ok (.aload_n 0, 1) := by decide +kernel
theorem d_L_law_778 : decode (code) 778 = .ok (.iload 4, 2) := by decide +kernel
theorem d_L_law_780 : decode (code) 780 = .ok (.iconst 2, 1) := by decide +kernel
theorem d_L_law_781 : decode (code) 781 = .ok (.iadd, 1) := by decide +kernel
theorem d_L_law_782 : decode (code) 782 = .ok (.iaload, 1) := by decide +kernel
theorem d_L_law_783 : decode (code) 783 = .ok (.invokevirtual 110, 3) := by decide +kernel
theorem d_L_law_786 : decode (code) 786 = .ok (.istore 6, 2) := by decide +kernel
theorem d_L_law_788 : decode (code) 788 = .ok (.aload_n 2, 1) := by decide +kernel
theorem d_L_law_789 : decode (code) 789 = .ok (.invokevirtual 67, 3) := by decide +kernel
theorem d_L_law_792 : decode (code) 792 = .ok (.iload 5, 2) := by decide +kernel
theorem d_L_law_794 : decode (code) 794 = .ok (.if_icmp .eq 5, 3) := by decide +kernel
theorem d_L_law_797 : decode (code) 797 = .ok (.iconst 0, 1) := by decide +kernel
theorem d_L_law_798 : decode (code) 798 = .ok (.ireturn, 1) := by decide +kernel
theorem d_L_law_799 : decode (code) 799 = .ok (.iload 5, 2) := by decide +kernel
theorem d_L_law_801 : decode (code) 801 = .ok (.ifCond .ne 15, 3) := by decide +kernel
theorem d_L_law_804 : decode (code) 804 = .ok (.aload_n 3, 1) := by decide +kernel
theorem d_L_law_805 : decode (code) 805 = .ok (.iconst 0, 1) := by decide +kernel
theorem d_L_law_806 : decode (code) 806 = .ok (.laload, 1) := by decide +kernel
theorem d_L_law_807 : decode (code) 807 = .ok (.iload 6, 2) := by decide +kernel
theorem d_L_law_809 : decode (code) 809 = .ok (.i2l, 1) := by decide +kernel
theorem d_L_law_810 : decode (code) 810 = .ok (.lcmp, 1) := by decide +kernel
theorem d_L_law_811 : decode (code) 811 = .ok (.ifCond .eq 5, 3) := by decide +kernel
theorem d_L_law_814 : decode (code) 814 = .ok (.iconst 0, 1) := by decide +kernel
theorem d_L_law_815 : decode (code) 815 = .ok (.ireturn, 1) := by decide +kernel
theorem d_L_law_816 : decode (code) 816 = .ok (.goto 28, 3) := by decide +kernel
theorem d_L_law_819 : decode (code) 819 = .ok (.aload_n 1, 1) := by decide +kernel
theorem d_L_law_820 : decode (code) 820 = .ok (.aload_n 0, 1) := by decide +kernel
theorem d_L_law_821 : decode (code) 821 = .ok (.iload 4, 2) := by decide +kernel
theorem d_L_law_823 : decode (code) 823 = .ok (.iconst 1, 1) := by decide +kernel
theorem d_L_law_824 : decode (code) 824 = .ok (.iadd, 1) := by decide +kernel
theorem d_L_law_825 : decode (code) 825 = .ok (.iaload, 1) := by decide +kernel
theorem d_L_law_826 : decode (code) 826 = .ok (.invokevirtual 111, 3) := by decide +kernel
theorem d_L_law_829 : decode (code) 829 = .ok (.aload_n 2, 1) := by decide +kernel
theorem d_L_law_830 : decode (code) 830 = .ok (.aload_n 0, 1) := by decide +kernel
theorem d_L_law_831 : decode (code) 831 = .ok (.iload 4, 2) := by decide +kernel
theorem d_L_law_833 : decode (code) 833 = .ok (.iconst 1, 1) := by decide +kernel
theorem d_L_law_834 : decode (code) 834 = .ok (.iadd, 1) := by decide +kernel
theorem d_L_law_835 : decode (code) 835 = .ok (.iaload, 1) := by decide +kernel
theorem d_L_law_836 : decode (code) 836 = .ok (.invokevirtual 114, 3) := by decide +kernel
theorem d_L_law_839 : decode (code) 839 = .ok (.if_icmp .eq 5, 3) := by decide +kernel
theorem d_L_law_842 : decode (code) 842 = .ok (.iconst 0, 1) := by decide +kernel
theorem d_L_law_843 : decode (code) 843 = .ok (.ireturn, 1) := by decide +kernel
theorem d_L_law_844 : decode (code) 844 = .ok (.iinc 4 5, 3) := by decide +kernel
theorem d_L_law_847 : decode (code) 847 = .ok (.goto (-824), 3) := by decide +kernel
theorem d_L_law_850 : decode (code) 850 = .ok (.iconst 1, 1) := by decide +kernel
theorem d_L_law_851 : decode (code) 851 = .ok (.ireturn, 1) := by decide +kernel
