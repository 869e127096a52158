theorem dX1_numberAt_43 : decode cX1_numberAt 43 = .ok (.iload_n 3, 1) := by decide +kernel
theorem dX1_numberAt_44 : decode cX1_numberAt 44 = .ok (.iaload, 1) := by decide +kernel
theorem dX1_numberAt_45 : decode cX1_numberAt 45 = .ok (.goto 4, 3) := by decide +kernel
theorem dX1_numberAt_48 : decode cX1_numberAt 48 = .ok (.iconst (-1), 1) := by decide +kernel
theorem dX1_numberAt_49 : decode cX1_numberAt 49 = .ok (.ireturn, 1) := by decide +kernel
set_option maxRecDepth 20000 in
theorem ggX1_rightsAt_X1_thingOn : GoodIn wsX1_rightsAt wsX1_thingOn := goodIn_ca (goodIn_r _ [6, 7, 8, 9, 10, 11, 5, 12, 13, 14, 15, 16, 17, 18, 19, 20, 21, 22, 26, 27, 28, 29, 30, 31] rfl (by decide +kernel)) (goodIn_sub (fun _ h => List.mem_cons_of_mem _ (List.mem_append_right _ h)) (by decide +kernel))
set_option maxRecDepth 20000 in
theorem gX1_rightsAt_X1_thingOn : GoodIn wsX1_rightsAt (wsV RX1 107 RX1 yX1_thingOn wsX1_thingOn) := goodIn_app (goodIn_of _ (by decide +kernel)) ggX1_rightsAt_X1_thingOn
theorem dX1_rightsAt_0 : decode cX1_rightsAt 0 = .ok (.aload_n 0, 1) := by decide +kernel
theorem dX1_rightsAt_1 : decode cX1_rightsAt 1 = .ok (.iload_n 1, 1) := by decide +kernel
theorem dX1_rightsAt_2 : decode cX1_rightsAt 2 = .ok (.iload_n 2, 1) := by decide +kernel
theorem dX1_rightsAt_3 : decode cX1_rightsAt 3 = .ok (.invokevirtual 107, 3) := by decide +kernel
theorem dX1_rightsAt_6 : decode cX1_rightsAt 6 = .ok (.getfield 62, 3) := by decide +kernel
theorem dX1_rightsAt_9 : decode cX1_rightsAt 9 = .ok (.ireturn, 1) := by decide +kernel
set_option maxRecDepth 20000 in
theorem ggX1_sizeAt_X1_checkKept : GoodIn wsX1_sizeAt wsX1_checkKept := goodIn_ca (goodIn_r _ [5, 6, 7, 8, 9, 47, 48, 49, 50, 51, 52] rfl (by decide +kernel)) (goodIn_sub (fun _ h => List.mem_cons_of_mem _ (List.mem_append_right _ h)) (by decide +kernel))
set_option maxRecDepth 20000 in
theorem gX1_sizeAt_X1_checkKept : GoodIn wsX1_sizeAt (wsV RX1 100 RX1 yX1_checkKept wsX1_checkKept) := goodIn_app (goodIn_of _ (by decide +kernel)) ggX1_sizeAt_X1_checkKept
set_option maxRecDepth 20000 in
theorem ggX1_sizeAt_X1_checkPlace : GoodIn wsX1_sizeAt wsX1_checkPlace := goodIn_ca (goodIn_r _ [12, 6, 7] rfl (by decide +kernel)) (goodIn_sub (fun _ h => List.mem_cons_of_mem _ (List.mem_append_right _ h)) (by decide +kernel))
set_option maxRecDepth 20000 in
theorem gX1_sizeAt_X1_checkPlace : GoodIn wsX1_sizeAt (va_wsS RX1 35 yX1_checkPlace wsX1_checkPlace) := goodIn_app (goodIn_of _ (by decide +kernel)) ggX1_sizeAt_X1_checkPlace
set_option maxRecDepth 20000 in
theorem ggX1_sizeAt_X1_differenceTakes : GoodIn wsX1_sizeAt wsX1_differenceTakes := goodIn_r _ [16, 9, 17, 18, 19, 20, 21, 22, 4, 23, 24, 25, 26, 27, 28, 29, 30, 31, 32, 33, 34, 35, 36, 37, 38, 39, 40, 41, 42, 43, 44, 45, 46, 47, 48, 49, 50, 51, 52, 53, 54, 55] rfl (by decide +kernel)
set_option maxRecDepth 20000 in
theorem gX1_sizeAt_X1_differenceTakes : GoodIn wsX1_sizeAt (wsV RX1 114 RX1 yX1_differenceTakes wsX1_differenceTakes) := goodIn_app (goodIn_of _ (by decide +kernel)) ggX1_sizeAt_X1_differenceTakes
theorem dX1_sizeAt_0 : decode cX1_sizeAt 0 = .ok (.aload_n 0, 1) := by decide +kernel
theorem dX1_sizeAt_1 : decode cX1_sizeAt 1 = .ok (.iload_n 1, 1) := by decide +kernel
theorem dX1_sizeAt_2 : decode cX1_sizeAt 2 = .ok (.invokevirtual 100, 3) := by decide +kernel
theorem dX1_sizeAt_5 : decode cX1_sizeAt 5 = .ok (.iload_n 2, 1) := by decide +kernel
theorem dX1_sizeAt_6 : decode cX1_sizeAt 6 = .ok (.invokestatic 35, 3) := by decide +kernel
theorem dX1_sizeAt_9 : decode cX1_sizeAt 9 = .ok (.aload_n 0, 1) := by decide +kernel
theorem dX1_sizeAt_10 : decode cX1_sizeAt 10 = .ok (.iload_n 1, 1) := by decide +kernel
theorem dX1_sizeAt_11 : decode cX1_sizeAt 11 = .ok (.iload_n 2, 1) := by decide +kernel
theorem dX1_sizeAt_12 : decode cX1_sizeAt 12 = .ok (.invokevirtual 114, 3) := by decide +kernel
theorem dX1_sizeAt_15 : decode cX1_sizeAt 15 = .ok (.ireturn, 1) := by decide +kernel
set_option maxRecDepth 20000 in
theorem ggX1_size_X1_differenceTakes : GoodIn wsX1_size wsX1_differenceTakes := goodIn_r _ [7, 2, 8, 9, 10, 11, 12, 13, 6, 14, 15, 16, 17, 18, 19, 20, 21, 22, 23, 24, 25, 26, 27, 28, 29, 30, 31, 32, 33, 34, 35, 36, 37, 38, 39, 40, 41, 42, 43, 44, 45, 46] rfl (by decide +kernel)
set_option maxRecDepth 20000 in
theorem gX1_size_X1_differenceTakes : GoodIn wsX1_size (wsV RX1 114 RX1 yX1_differenceTakes wsX1_differenceTakes) := goodIn_app (goodIn_of _ (by decide +kernel)) ggX1_size_X1_differenceTakes
theorem dX1_size_0 : decode cX1_size 0 = .ok (.iconst 0, 1) := by decide +kernel
theorem dX1_size_1 : decode cX1_size 1 = .ok (.istore_n 1, 1) := by decide +kernel
theorem dX1_size_2 : decode cX1_size 2 = .ok (.aload_n 0, 1) := by decide +kernel
theorem dX1_size_3 : decode cX1_size 3 = .ok (.getfield 21, 3) := by decide +kernel
theorem dX1_size_6 : decode cX1_size 6 = .ok (.istore_n 2, 1) := by decide +kernel
theorem dX1_size_7 : decode cX1_size 7 = .ok (.iload_n 2, 1) := by decide +kernel
theorem dX1_size_8 : decode cX1_size 8 = .ok (.aload_n 0, 1) := by decide +kernel
theorem dX1_size_9 : decode cX1_size 9 = .ok (.getfield 25, 3) := by decide +kernel
theorem dX1_size_12 : decode cX1_size 12 = .ok (.if_icmp .ge 32, 3) := by decide +kernel
theorem dX1_size_15 : decode cX1_size 15 = .ok (.iconst 0, 1) := by decide +kernel
theorem dX1_size_16 : decode cX1_size 16 = .ok (.istore_n 3, 1) := by decide +kernel
theorem dX1_size_17 : decode cX1_size 17 = .ok (.iload_n 3, 1) := by decide +kernel
theorem dX1_size_18 : decode cX1_size 18 = .ok (.bipush 6, 2) := by decide +kernel
theorem dX1_size_20 : decode cX1_size 20 = .ok (.if_icmp .ge 18, 3) := by decide +kernel
theorem dX1_size_23 : decode cX1_size 23 = .ok (.iload_n 1, 1) := by decide +kernel
theorem dX1_size_24 : decode cX1_size 24 = .ok (.aload_n 0, 1) := by decide +kernel
theorem dX1_size_25 : decode cX1_size 25 = .ok (.iload_n 2, 1) := by decide +kernel
theorem dX1_size_26 : decode cX1_size 26 = .ok (.iload_n 3, 1) := by decide +kernel
theorem dX1_size_27 : decode cX1_size 27 = .ok (.invokevirtual 114, 3) := by decide +kernel
theorem dX1_size_30 : decode cX1_size 30 = .ok (.iadd, 1) := by decide +kernel
theorem dX1_size_31 : decode cX1_size 31 = .ok (.istore_n 1, 1) := by decide +kernel
theorem dX1_size_32 : decode cX1_size 32 = .ok (.iinc 3 1, 3) := by decide +kernel
theorem dX1_size_35 : decode cX1_size 35 = .ok (.goto (-18), 3) := by decide +kernel
theorem dX1_size_38 : decode cX1_size 38 = .ok (.iinc 2 1, 3) := by decide +kernel
theorem dX1_size_41 : decode cX1_size 41 = .ok (.goto (-34), 3) := by decide +kernel
theorem dX1_size_44 : decode cX1_size 44 = .ok (.iload_n 1, 1) := by decide +kernel
theorem dX1_size_45 : decode cX1_size 45 = .ok (.ireturn, 1) := by decide +kernel
theorem dX1_checkPlace_0 : decode cX1_checkPlace 0 = .ok (.iload_n 0, 1) := by decide +kernel
theorem dX1_checkPlace_1 : decode cX1_checkPlace 1 = .ok (.ifCond .lt 9, 3) := by decide +kernel
theorem dX1_checkPlace_4 : decode cX1_checkPlace 4 = .ok (.iload_n 0, 1) := by decide +kernel
theorem dX1_checkPlace_5 : decode cX1_checkPlace 5 = .ok (.bipush 6, 2) := by decide +kernel
theorem dX1_checkPlace_7 : decode cX1_checkPlace 7 = .ok (.if_icmp .lt 13, 3) := by decide +kernel
theorem dX1_checkPlace_10 : decode cX1_checkPlace 10 = .ok (.new 111, 3) := by decide +kernel
theorem dX1_checkPlace_13 : decode cX1_checkPlace 13 = .ok (.dup, 1) := by decide +kernel
theorem dX1_checkPlace_14 : decode cX1_checkPlace 14 = .ok (.ldc 117, 2) := by decide +kernel
theorem dX1_checkPlace_16 : decode cX1_checkPlace 16 = .ok (.invokespecial 113, 3) := by decide +kernel
theorem dX1_checkPlace_19 : decode cX1_checkPlace 19 = .ok (.athrow, 1) := by decide +kernel
theorem dX1_checkPlace_20 : decode cX1_checkPlace 20 = .ok (.return_, 1) := by decide +kernel
theorem dX1_checkKept_0 : decode cX1_checkKept 0 = .ok (.iload_n 1, 1) := by decide +kernel
theorem dX1_checkKept_1 : decode cX1_checkKept 1 = .ok (.aload_n 0, 1) := by decide +kernel
theorem dX1_checkKept_2 : decode cX1_checkKept 2 = .ok (.getfield 21, 3) := by decide +kernel
theorem dX1_checkKept_5 : decode cX1_checkKept 5 = .ok (.if_icmp .lt 11, 3) := by decide +kernel
theorem dX1_checkKept_8 : decode cX1_checkKept 8 = .ok (.iload_n 1, 1) := by decide +kernel
theorem dX1_checkKept_9 : decode cX1_checkKept 9 = .ok (.aload_n 0, 1) := by decide +kernel
theorem dX1_checkKept_10 : decode cX1_checkKept 10 = .ok (.getfield 25, 3) := by decide +kernel
theorem dX1_checkKept_13 : decode cX1_checkKept 13 = .ok (.if_icmp .le 13, 3) := by decide +kernel
theorem dX1_checkKept_16 : decode cX1_checkKept 16 = .ok (.new 111, 3) := by decide +kernel
theorem dX1_checkKept_19 : decode cX1_checkKept 19 = .ok (.dup, 1) := by decide +kernel
theorem dX1_checkKept_20 : decode cX1_checkKept 20 = .ok (.ldc 119, 2) := by decide +kernel
theorem dX1_checkKept_22 : decode cX1_checkKept 22 = .ok (.invokespecial 113, 3) := by decide +kernel
theorem dX1_checkKept_25 : decode cX1_checkKept 25 = .ok (.athrow, 1) := by decide +kernel
theorem dX1_checkKept_26 : decode cX1_checkKept 26 = .ok (.return_, 1) := by decide +kernel
theorem dX1_keptIndex_0 : decode cX1_keptIndex 0 = .ok (.iload_n 0, 1) := by decide +kernel
theorem dX1_keptIndex_1 : decode cX1_keptIndex 1 = .ok (.bipush 6, 2) := by decide +kernel
theorem dX1_keptIndex_3 : decode cX1_keptIndex 3 = .ok (.imul, 1) := by decide +kernel
theorem dX1_keptIndex_4 : decode cX1_keptIndex 4 = .ok (.iload_n 1, 1) := by decide +kernel
theorem dX1_keptIndex_5 : decode cX1_keptIndex 5 = .ok (.iadd, 1) := by decide +kernel
theorem dX1_keptIndex_6 : decode cX1_keptIndex 6 = .ok (.ireturn, 1) := by decide +kernel
set_option maxRecDepth 20000 in
theorem ggX1_thingOn_X1_checkKept : GoodIn wsX1_thingOn wsX1_checkKept := goodIn_ca (goodIn_r _ [7, 8, 9, 10, 11, 18, 19, 20, 21, 22, 23] rfl (by decide +kernel)) (goodIn_sub (fun _ h => List.mem_cons_of_mem _ (List.mem_append_right _ h)) (by decide +kernel))
set_option maxRecDepth 20000 in
theorem gX1_thingOn_X1_checkKept : GoodIn wsX1_thingOn (wsV RX1 100 RX1 yX1_checkKept wsX1_checkKept) := goodIn_app (goodIn_of _ (by decide +kernel)) ggX1_thingOn_X1_checkKept
set_option maxRecDepth 20000 in
theorem ggX1_thingOn_X1_checkPlace : GoodIn wsX1_thingOn wsX1_checkPlace := goodIn_ca (goodIn_r _ [14, 8, 9] rfl (by decide +kernel)) (goodIn_sub (fun _ h => List.mem_cons_of_mem _ (List.mem_append_right _ h)) (by decide +kernel))
set_option maxRecDepth 20000 in
theorem gX1_thingOn_X1_checkPlace : GoodIn wsX1_thingOn (va_wsS RX1 35 yX1_checkPlace wsX1_checkPlace) := goodIn_app (goodIn_of _ (by decide +kernel)) ggX1_thingOn_X1_checkPlace
set_option maxRecDepth 20000 in
theorem ggX1_thingOn_X1_keptIndex : GoodIn wsX1_thingOn wsX1_keptIndex := goodIn_r _ [17] rfl (by decide +kernel)
set_option maxRecDepth 20000 in
theorem gX1_thingOn_X1_keptIndex : GoodIn wsX1_thingOn (va_wsS RX1 92 yX1_keptIndex wsX1_keptIndex) := goodIn_app (goodIn_of _ (by decide +kernel)) ggX1_thingOn_X1_keptIndex
theorem dX1_thingOn_0 : decode cX1_thingOn 0 = .ok (.iload_n 1, 1) := by decide +kernel
theorem dX1_thingOn_1 : decode cX1_thingOn 1 = .ok (.iconst (-1), 1) := by decide +kernel
theorem dX1_thingOn_2 : decode cX1_thingOn 2 = .ok (.if_icmp .eq 8, 3) := by decide +kernel
theorem dX1_thingOn_5 : decode cX1_thingOn 5 = .ok (.aload_n 0, 1) := by decide +kernel
theorem dX1_thingOn_6 : decode cX1_thingOn 6 = .ok (.iload_n 1, 1) := by decide +kernel
theorem dX1_thingOn_7 : decode cX1_thingOn 7 = .ok (.invokevirtual 100, 3) := by decide +kernel
theorem dX1_thingOn_10 : decode cX1_thingOn 10 = .ok (.iload_n 2, 1) := by decide +kernel
theorem dX1_thingOn_11 : decode cX1_thingOn 11 = .ok (.invokestatic 35, 3) := by decide +kernel
theorem dX1_thingOn_14 : decode cX1_thingOn 14 = .ok (.iload_n 1, 1) := by decide +kernel
theorem dX1_thingOn_15 : decode cX1_thingOn 15 = .ok (.iconst (-1), 1) := by decide +kernel
theorem dX1_thingOn_16 : decode cX1_thingOn 16 = .ok (.if_icmp .ne 12, 3) := by decide +kernel
theorem dX1_thingOn_19 : decode cX1_thingOn 19 = .ok (.aload_n 0, 1) := by decide +kernel
theorem dX1_thingOn_20 : decode cX1_thingOn 20 = .ok (.getfield 14, 3) := by decide +kernel
theorem dX1_thingOn_23 : decode cX1_thingOn 23 = .ok (.iload_n 2, 1) := by decide +kernel
theorem dX1_thingOn_24 : decode cX1_thingOn 24 = .ok (.aaload, 1) := by decide +kernel
theorem dX1_thingOn_25 : decode cX1_thingOn 25 = .ok (.goto 13, 3) := by decide +kernel
theorem dX1_thingOn_28 : decode cX1_thingOn 28 = .ok (.aload_n 0, 1) := by decide +kernel
theorem dX1_thingOn_29 : decode cX1_thingOn 29 = .ok (.getfield 18, 3) := by decide +kernel
theorem dX1_thingOn_32 : decode cX1_thingOn 32 = .ok (.iload_n 1, 1) := by decide +kernel
theorem dX1_thingOn_33 : decode cX1_thingOn 33 = .ok (.iload_n 2, 1) := by decide +kernel
theorem dX1_thingOn_34 : decode cX1_thingOn 34 = .ok (.invokestatic 92, 3) := by decide +kernel
theorem dX1_thingOn_37 : decode cX1_thingOn 37 = .ok (.aaload, 1) := by decide +kernel
theorem dX1_thingOn_38 : decode cX1_thingOn 38 = .ok (.areturn, 1) := by decide +kernel
theorem dX1_exchange_0 : decode cX1_exchange 0 = .ok (.aload_n 0, 1) := by decide +kernel
theorem dX1_exchange_1 : decode cX1_exchange 1 = .ok (.getfield 14, 3) := by decide +kernel
theorem dX1_exchange_4 : decode cX1_exchange 4 = .ok (.iload_n 1, 1) := by decide +kernel
theorem dX1_exchange_5 : decode cX1_exchange 5 = .ok (.aaload, 1) := by decide +kernel
theorem dX1_exchange_6 : decode cX1_exchange 6 = .ok (.getfield 47, 3) := by decide +kernel
theorem dX1_exchange_9 : decode cX1_exchange 9 = .ok (.istore_n 3, 1) := by decide +kernel
theorem dX1_exchange_10 : decode cX1_exchange 10 = .ok (.aload_n 0, 1) := by decide +kernel
theorem dX1_exchange_11 : decode cX1_exchange 11 = .ok (.getfield 14, 3) := by decide +kernel
theorem dX1_exchange_14 : decode cX1_exchange 14 = .ok (.iload_n 1, 1) := by decide +kernel
theorem dX1_exchange_15 : decode cX1_exchange 15 = .ok (.aload_n 2, 1) := by decide +kernel
theorem dX1_exchange_16 : decode cX1_exchange 16 = .ok (.aastore, 1) := by decide +kernel
theorem dX1_exchange_17 : decode cX1_exchange 17 = .ok (.iload_n 3, 1) := by decide +kernel
theorem dX1_exchange_18 : decode cX1_exchange 18 = .ok (.ireturn, 1) := by decide +kernel
set_option maxRecDepth 20000 in
theorem ggX1_stepsNeeded_X1_keptIndex : GoodIn wsX1_stepsNeeded wsX1_keptIndex := goodIn_r _ [7] rfl (by decide +kernel)
set_option maxRecDepth 20000 in
theorem gX1_stepsNeeded_X1_keptIndex : GoodIn wsX1_stepsNeeded (va_wsS RX1 92 yX1_keptIndex wsX1_keptIndex) := goodIn_app (goodIn_of _ (by decide +kernel)) ggX1_stepsNeeded_X1_keptIndex
set_option maxRecDepth 20000 in
theorem ggX1_stepsNeeded_X0_isLike : GoodIn wsX1_stepsNeeded wsX0_isLike := goodIn_r _ [12, 13, 14, 15, 16, 6, 17, 18, 19, 20, 27, 28, 29] rfl (by decide +kernel)
set_option maxRecDepth 20000 in
theorem gX1_stepsNeeded_X0_isLike : GoodIn wsX1_stepsNeeded (wsV RX1 103 RX0 yX0_isLike wsX0_isLike) := goodIn_app (goodIn_of _ (by decide +kernel)) ggX1_stepsNeeded_X0_isLike
theorem dX1_stepsNeeded_0 : decode cX1_stepsNeeded 0 = .ok (.iconst 0, 1) := by decide +kernel
theorem dX1_stepsNeeded_1 : decode cX1_stepsNeeded 1 = .ok (.istore_n 1, 1) := by decide +kernel
theorem dX1_stepsNeeded_2 : decode cX1_stepsNeeded 2 = .ok (.iconst 0, 1) := by decide +kernel
theorem dX1_stepsNeeded_3 : decode cX1_stepsNeeded 3 = .ok (.istore_n 2, 1) := by decide +kernel
theorem dX1_stepsNeeded_4 : decode cX1_stepsNeeded 4 = .ok (.iload_n 2, 1) := by decide +kernel
theorem dX1_stepsNeeded_5 : decode cX1_stepsNeeded 5 = .ok (.bipush 6, 2) := by decide +kernel
theorem dX1_stepsNeeded_7 : decode cX1_stepsNeeded 7 = .ok (.if_icmp .ge 37, 3) := by decide +kernel
theorem dX1_stepsNeeded_10 : decode cX1_stepsNeeded 10 = .ok (.aload_n 0, 1) := by decide +kernel
theorem dX1_stepsNeeded_11 : decode cX1_stepsNeeded 11 = .ok (.getfield 14, 3) := by decide +kernel
theorem dX1_stepsNeeded_14 : decode cX1_stepsNeeded 14 = .ok (.iload_n 2, 1) := by decide +kernel
theorem dX1_stepsNeeded_15 : decode cX1_stepsNeeded 15 = .ok (.aaload, 1) := by decide +kernel
theorem dX1_stepsNeeded_16 : decode cX1_stepsNeeded 16 = .ok (.aload_n 0, 1) := by decide +kernel
theorem dX1_stepsNeeded_17 : decode cX1_stepsNeeded 17 = .ok (.getfield 18, 3) := by decide +kernel
theorem dX1_stepsNeeded_20 : decode cX1_stepsNeeded 20 = .ok (.aload_n 0, 1) := by decide +kernel
theorem dX1_stepsNeeded_21 : decode cX1_stepsNeeded 21 = .ok (.getfield 25, 3) := by decide +kernel
theorem dX1_stepsNeeded_24 : decode cX1_stepsNeeded 24 = .ok (.iload_n 2, 1) := by decide +kernel
theorem dX1_stepsNeeded_25 : decode cX1_stepsNeeded 25 = .ok (.invokestatic 92, 3) := by decide +kernel
theorem dX1_stepsNeeded_28 : decode cX1_stepsNeeded 28 = .ok (.aaload, 1) := by decide +kernel
theorem dX1_stepsNeeded_29 : decode cX1_stepsNeeded 29 = .ok (.invokevirtual 103, 3) := by decide +kernel
theorem dX1_stepsNeeded_32 : decode cX1_stepsNeeded 32 = .ok (.ifCond .ne 6, 3) := by decide +kernel
theorem dX1_stepsNeeded_35 : decode cX1_stepsNeeded 35 = .ok (.iinc 1 1, 3) := by decide +kernel
theorem dX1_stepsNeeded_38 : decode cX1_stepsNeeded 38 = .ok (.iinc 2 1, 3) := by decide +kernel
theorem dX1_stepsNeeded_41 : decode cX1_stepsNeeded 41 = .ok (.goto (-37), 3) := by decide +kernel
theorem dX1_stepsNeeded_44 : decode cX1_stepsNeeded 44 = .ok (.iload_n 1, 1) := by decide +kernel
theorem dX1_stepsNeeded_45 : decode cX1_stepsNeeded 45 = .ok (.ireturn, 1) := by decide +kernel
theorem dX1_undoBrokenRun_0 : decode cX1_undoBrokenRun 0 = .ok (.aload_n 0, 1) := by decide +kernel
theorem dX1_undoBrokenRun_1 : decode cX1_undoBrokenRun 1 = .ok (.getfield 32, 3) := by decide +kernel
theorem dX1_undoBrokenRun_4 : decode cX1_undoBrokenRun 4 = .ok (.istore_n 1, 1) := by decide +kernel
theorem dX1_undoBrokenRun_5 : decode cX1_undoBrokenRun 5 = .ok (.aload_n 0, 1) := by decide +kernel
theorem dX1_undoBrokenRun_6 : decode cX1_undoBrokenRun 6 = .ok (.iconst 0, 1) := by decide +kernel
theorem dX1_undoBrokenRun_7 : decode cX1_undoBrokenRun 7 = .ok (.putfield 28, 3) := by decide +kernel
theorem dX1_undoBrokenRun_10 : decode cX1_undoBrokenRun 10 = .ok (.aload_n 0, 1) := by decide +kernel
theorem dX1_undoBrokenRun_11 : decode cX1_undoBrokenRun 11 = .ok (.iconst 0, 1) := by decide +kernel
theorem dX1_undoBrokenRun_12 : decode cX1_undoBrokenRun 12 = .ok (.putfield 32, 3) := by decide +kernel
theorem dX1_undoBrokenRun_15 : decode cX1_undoBrokenRun 15 = .ok (.iload_n 1, 1) := by decide +kernel
theorem dX1_undoBrokenRun_16 : decode cX1_undoBrokenRun 16 = .ok (.ireturn, 1) := by decide +kernel
set_option maxRecDepth 20000 in
theorem ggX1_differenceTakes_X1_keptIndex : GoodIn wsX1_differenceTakes wsX1_keptIndex := goodIn_r _ [9] rfl (by decide +kernel)
set_option maxRecDepth 20000 in
theorem gX1_differenceTakes_X1_keptIndex : GoodIn wsX1_differenceTakes (va_wsS RX1 92 yX1_keptIndex wsX1_keptIndex) := goodIn_app (goodIn_of _ (by decide +kernel)) ggX1_differenceTakes_X1_keptIndex
set_option maxRecDepth 20000 in
theorem ggX1_differenceTakes_X0_isLike : GoodIn wsX1_differenceTakes wsX0_isLike := goodIn_r _ [14, 15, 16, 17, 18, 8, 19, 20, 21, 22, 39, 40, 41] rfl (by decide +kernel)
set_option maxRecDepth 20000 in
theorem gX1_differenceTakes_X0_isLike : GoodIn wsX1_differenceTakes (wsV RX1 103 RX0 yX0_isLike wsX0_isLike) := goodIn_app (goodIn_of _ (by decide +kernel)) ggX1_differenceTakes_X0_isLike
set_option maxRecDepth 20000 in
theorem ggX1_differenceTakes_X1_rowTakes : GoodIn wsX1_differenceTakes wsX1_rowTakes := goodIn_r _ [25, 26, 27, 8, 28, 29, 30, 31, 32, 20, 21, 22] rfl (by decide +kernel)
set_option maxRecDepth 20000 in
theorem gX1_differenceTakes_X1_rowTakes : GoodIn wsX1_differenceTakes (va_wsS RX1 121 yX1_rowTakes wsX1_rowTakes) := goodIn_app (goodIn_of _ (by decide +kernel)) ggX1_differenceTakes_X1_rowTakes
theorem dX1_differenceTakes_0 : decode cX1_differenceTakes 0 = .ok (.iload_n 1, 1) := by decide +kernel
theorem dX1_differenceTakes_1 : decode cX1_differenceTakes 1 = .ok (.aload_n 0, 1) := by decide +kernel
theorem dX1_differenceTakes_2 : decode cX1_differenceTakes 2 = .ok (.getfield 25, 3) := by decide +kernel
theorem dX1_differenceTakes_5 : decode cX1_differenceTakes 5 = .ok (.if_icmp .lt 5, 3) := by decide +kernel
theorem dX1_differenceTakes_8 : decode cX1_differenceTakes 8 = .ok (.iconst 0, 1) := by decide +kernel
theorem dX1_differenceTakes_9 : decode cX1_differenceTakes 9 = .ok (.ireturn, 1) := by decide +kernel
theorem dX1_differenceTakes_10 : decode cX1_differenceTakes 10 = .ok (.aload_n 0, 1) := by decide +kernel
theorem dX1_differenceTakes_11 : decode cX1_differenceTakes 11 = .ok (.getfield 18, 3) := by decide +kernel
theorem dX1_differenceTakes_14 : decode cX1_differenceTakes 14 = .ok (.iload_n 1, 1) := by decide +kernel
theorem dX1_differenceTakes_15 : decode cX1_differenceTakes 15 = .ok (.iload_n 2, 1) := by decide +kernel
theorem dX1_differenceTakes_16 : decode cX1_differenceTakes 16 = .ok (.invokestatic 92, 3) := by decide +kernel
theorem dX1_differenceTakes_19 : decode cX1_differenceTakes 19 = .ok (.aaload, 1) := by decide +kernel
theorem dX1_differenceTakes_20 : decode cX1_differenceTakes 20 = .ok (.astore_n 3, 1) := by decide +kernel
theorem dX1_differenceTakes_21 : decode cX1_differenceTakes 21 = .ok (.aload_n 0, 1) := by decide +kernel
theorem dX1_differenceTakes_22 : decode cX1_differenceTakes 22 = .ok (.getfield 18, 3) := by decide +kernel
theorem dX1_differenceTakes_25 : decode cX1_differenceTakes 25 = .ok (.iload_n 1, 1) := by decide +kernel
theorem dX1_differenceTakes_26 : decode cX1_differenceTakes 26 = .ok (.iconst 1, 1) := by decide +kernel
theorem dX1_differenceTakes_27 : decode cX1_differenceTakes 27 = .ok (.iadd, 1) := by decide +kernel
theorem dX1_differenceTakes_28 : decode cX1_differenceTakes 28 = .ok (.iload_n 2, 1) := by decide +kernel
theorem dX1_differenceTakes_29 : decode cX1_differenceTakes 29 = .ok (.invokestatic 92, 3) := by decide +kernel
theorem dX1_differenceTakes_32 : decode cX1_differenceTakes 32 = .ok (.aaload, 1) := by decide +kernel
theorem dX1_differenceTakes_33 : decode cX1_differenceTakes 33 = .ok (.astore 4, 2) := by decide +kernel
theorem dX1_differenceTakes_35 : decode cX1_differenceTakes 35 = .ok (.aload_n 3, 1) := by decide +kernel
theorem dX1_differenceTakes_36 : decode cX1_differenceTakes 36 = .ok (.aload 4, 2) := by decide +kernel
theorem dX1_differenceTakes_38 : decode cX1_differenceTakes 38 = .ok (.invokevirtual 103, 3) := by decide +kernel
theorem dX1_differenceTakes_41 : decode cX1_differenceTakes 41 = .ok (.ifCond .eq 5, 3) := by decide +kernel
theorem dX1_differenceTakes_44 : decode cX1_differenceTakes 44 = .ok (.iconst 0, 1) := by decide +kernel
theorem dX1_differenceTakes_45 : decode cX1_differenceTakes 45 = .ok (.ireturn, 1) := by decide +kernel
theorem dX1_differenceTakes_46 : decode cX1_differenceTakes 46 = .ok (.aload_n 3, 1) := by decide +kernel
theorem dX1_differenceTakes_47 : decode cX1_differenceTakes 47 = .ok (.getfield 62, 3) := by decide +kernel
theorem dX1_differenceTakes_50 : decode cX1_differenceTakes 50 = .ok (.aload 4, 2) := by decide +kernel
theorem dX1_differenceTakes_52 : decode cX1_differenceTakes 52 = .ok (.getfield 62, 3) := by decide +kernel
theorem dX1_differenceTakes_55 : decode cX1_differenceTakes 55 = .ok (.if_icmp .ne 7, 3) := by decide +kernel
theorem dX1_differenceTakes_58 : decode cX1_differenceTakes 58 = .ok (.iconst 0, 1) := by decide +kernel
theorem dX1_differenceTakes_59 : decode cX1_differenceTakes 59 = .ok (.goto 4, 3) := by decide +kernel
theorem dX1_differenceTakes_62 : decode cX1_differenceTakes 62 = .ok (.iconst 1, 1) := by decide +kernel
theorem dX1_differenceTakes_63 : decode cX1_differenceTakes 63 = .ok (.istore 5, 2) := by decide +kernel
theorem dX1_differenceTakes_65 : decode cX1_differenceTakes 65 = .ok (.aload_n 3, 1) := by decide +kernel
theorem dX1_differenceTakes_66 : decode cX1_differenceTakes 66 = .ok (.getfield 47, 3) := by decide +kernel
theorem dX1_differenceTakes_69 : decode cX1_differenceTakes 69 = .ok (.iconst 1, 1) := by decide +kernel
theorem dX1_differenceTakes_70 : decode cX1_differenceTakes 70 = .ok (.if_icmp .ne 28, 3) := by decide +kernel
theorem dX1_differenceTakes_73 : decode cX1_differenceTakes 73 = .ok (.aload 4, 2) := by decide +kernel
theorem dX1_differenceTakes_75 : decode cX1_differenceTakes 75 = .ok (.getfield 47, 3) := by decide +kernel
theorem dX1_differenceTakes_78 : decode cX1_differenceTakes 78 = .ok (.iconst 1, 1) := by decide +kernel
theorem dX1_differenceTakes_79 : decode cX1_differenceTakes 79 = .ok (.if_icmp .ne 19, 3) := by decide +kernel
theorem dX1_differenceTakes_82 : decode cX1_differenceTakes 82 = .ok (.iload 5, 2) := by decide +kernel
theorem dX1_differenceTakes_84 : decode cX1_differenceTakes 84 = .ok (.aload_n 3, 1) := by decide +kernel
theorem dX1_differenceTakes_85 : decode cX1_differenceTakes 85 = .ok (.getfield 43, 3) := by decide +kernel
theorem dX1_differenceTakes_88 : decode cX1_differenceTakes 88 = .ok (.aload 4, 2) := by decide +kernel
theorem dX1_differenceTakes_90 : decode cX1_differenceTakes 90 = .ok (.getfield 43, 3) := by decide +kernel
theorem dX1_differenceTakes_93 : decode cX1_differenceTakes 93 = .ok (.invokestatic 121, 3) := by decide +kernel
theorem dX1_differenceTakes_96 : decode cX1_differenceTakes 96 = .ok (.iadd, 1) := by decide +kernel
theorem dX1_differenceTakes_97 : decode cX1_differenceTakes 97 = .ok (.ireturn, 1) := by decide +kernel
theorem dX1_differenceTakes_98 : decode cX1_differenceTakes 98 = .ok (.iload 5, 2) := by decide +kernel
theorem dX1_differenceTakes_100 : decode cX1_differenceTakes 100 = .ok (.aload_n 3, 1) := by decide +kernel
theorem dX1_differenceTakes_101 : decode cX1_differenceTakes 101 = .ok (.getfield 47, 3) := by decide +kernel
theorem dX1_differenceTakes_104 : decode cX1_differenceTakes 104 = .ok (.iconst 1, 1) := by decide +kernel
theorem dX1_differenceTakes_105 : decode cX1_differenceTakes 105 = .ok (.if_icmp .ne 13, 3) := by decide +kernel
theorem dX1_differenceTakes_108 : decode cX1_differenceTakes 108 = .ok (.aload_n 3, 1) := by decide +kernel
theorem dX1_differenceTakes_109 : decode cX1_differenceTakes 109 = .ok (.getfield 43, 3) := by decide +kernel
theorem dX1_differenceTakes_112 : decode cX1_differenceTakes 112 = .ok (.arraylength, 1) := by decide +kernel
theorem dX1_differenceTakes_113 : decode cX1_differenceTakes 113 = .ok (.iconst 1, 1) := by decide +kernel
theorem dX1_differenceTakes_114 : decode cX1_differenceTakes 114 = .ok (.iadd, 1) := by decide +kernel
theorem dX1_differenceTakes_115 : decode cX1_differenceTakes 115 = .ok (.goto 4, 3) := by decide +kernel
theorem dX1_differenceTakes_118 : decode cX1_differenceTakes 118 = .ok (.iconst 1, 1) := by decide +kernel
theorem dX1_differenceTakes_119 : decode cX1_differenceTakes 119 = .ok (.iadd, 1) := by decide +kernel
theorem dX1_differenceTakes_120 : decode cX1_differenceTakes 120 = .ok (.ireturn, 1) := by decide +kernel
set_option maxRecDepth 20000 in
theorem ggX1_rowTakes_X1_longestCopy : GoodIn wsX1_rowTakes wsX1_longestCopy := goodIn_r _ [4, 5, 6, 7, 8, 9, 10, 3, 11] rfl (by decide +kernel)
set_option maxRecDepth 20000 in
theorem gX1_rowTakes_X1_longestCopy : GoodIn wsX1_rowTakes (va_wsS RX1 125 yX1_longestCopy wsX1_longestCopy) := goodIn_app (goodIn_of _ (by decide +kernel)) ggX1_rowTakes_X1_longestCopy
theorem dX1_rowTakes_0 : decode cX1_rowTakes 0 = .ok (.iconst 0, 1) := by decide +kernel
theorem dX1_rowTakes_1 : decode cX1_rowTakes 1 = .ok (.istore_n 2, 1) := by decide +kernel
theorem dX1_rowTakes_2 : decode cX1_rowTakes 2 = .ok (.iconst 0, 1) := by decide +kernel
theorem dX1_rowTakes_3 : decode cX1_rowTakes 3 = .ok (.istore_n 3, 1) := by decide +kernel
theorem dX1_rowTakes_4 : decode cX1_rowTakes 4 = .ok (.iload_n 3, 1) := by decide +kernel
theorem dX1_rowTakes_5 : decode cX1_rowTakes 5 = .ok (.aload_n 0, 1) := by decide +kernel
theorem dX1_rowTakes_6 : decode cX1_rowTakes 6 = .ok (.arraylength, 1) := by decide +kernel
theorem dX1_rowTakes_7 : decode cX1_rowTakes 7 = .ok (.if_icmp .ge 37, 3) := by decide +kernel
theorem dX1_rowTakes_10 : decode cX1_rowTakes 10 = .ok (.aload_n 0, 1) := by decide +kernel
theorem dX1_rowTakes_11 : decode cX1_rowTakes 11 = .ok (.iload_n 3, 1) := by decide +kernel
theorem dX1_rowTakes_12 : decode cX1_rowTakes 12 = .ok (.aload_n 1, 1) := by decide +kernel
theorem dX1_rowTakes_13 : decode cX1_rowTakes 13 = .ok (.invokestatic 125, 3) := by decide +kernel
theorem dX1_rowTakes_16 : decode cX1_rowTakes 16 = .ok (.istore 4, 2) := by decide +kernel
theorem dX1_rowTakes_18 : decode cX1_rowTakes 18 = .ok (.iload 4, 2) := by decide +kernel
theorem dX1_rowTakes_20 : decode cX1_rowTakes 20 = .ok (.iconst 3, 1) := by decide +kernel
theorem dX1_rowTakes_21 : decode cX1_rowTakes 21 = .ok (.if_icmp .lt 14, 3) := by decide +kernel
theorem dX1_rowTakes_24 : decode cX1_rowTakes 24 = .ok (.iinc 2 2, 3) := by decide +kernel
theorem dX1_rowTakes_27 : decode cX1_rowTakes 27 = .ok (.iload_n 3, 1) := by decide +kernel
theorem dX1_rowTakes_28 : decode cX1_rowTakes 28 = .ok (.iload 4, 2) := by decide +kernel
theorem dX1_rowTakes_30 : decode cX1_rowTakes 30 = .ok (.iadd, 1) := by decide +kernel
theorem dX1_rowTakes_31 : decode cX1_rowTakes 31 = .ok (.istore_n 3, 1) := by decide +kernel
theorem dX1_rowTakes_32 : decode cX1_rowTakes 32 = .ok (.goto 9, 3) := by decide +kernel
theorem dX1_rowTakes_35 : decode cX1_rowTakes 35 = .ok (.iinc 2 1, 3) := by decide +kernel
theorem dX1_rowTakes_38 : decode cX1_rowTakes 38 = .ok (.iinc 3 1, 3) := by decide +kernel
theorem dX1_rowTakes_41 : decode cX1_rowTakes 41 = .ok (.goto (-37), 3) := by decide +kernel
theorem dX1_rowTakes_44 : decode cX1_rowTakes 44 = .ok (.iload_n 2, 1) := by decide +kernel
theorem dX1_rowTakes_45 : decode cX1_rowTakes 45 = .ok (.ireturn, 1) := by decide +kernel
set_option maxRecDepth 20000 in
theorem ggX1_longestCopy_X1_sharedLength : GoodIn wsX1_longestCopy wsX1_sharedLength := goodIn_r _ [8] rfl (by decide +kernel)
set_option maxRecDepth 20000 in
theorem gX1_longestCopy_X1_sharedLength : GoodIn wsX1_longestCopy (va_wsS RX1 129 yX1_sharedLength wsX1_sharedLength) := goodIn_app (goodIn_of _ (by decide +kernel)) ggX1_longestCopy_X1_sharedLength
theorem dX1_longestCopy_0 : decode cX1_longestCopy 0 = .ok (.iconst 0, 1) := by decide +kernel
theorem dX1_longestCopy_1 : decode cX1_longestCopy 1 = .ok (.istore_n 3, 1) := by decide +kernel
theorem dX1_longestCopy_2 : decode cX1_longestCopy 2 = .ok (.iconst 0, 1) := by decide +kernel
theorem dX1_longestCopy_3 : decode cX1_longestCopy 3 = .ok (.istore 4, 2) := by decide +kernel
theorem dX1_longestCopy_5 : decode cX1_longestCopy 5 = .ok (.iload 4, 2) := by decide +kernel
theorem dX1_longestCopy_7 : decode cX1_longestCopy 7 = .ok (.aload_n 2, 1) := by decide +kernel
theorem dX1_longestCopy_8 : decode cX1_longestCopy 8 = .ok (.arraylength, 1) := by decide +kernel
theorem dX1_longestCopy_9 : decode cX1_longestCopy 9 = .ok (.if_icmp .ge 22, 3) := by decide +kernel
theorem dX1_longestCopy_12 : decode cX1_longestCopy 12 = .ok (.iload_n 3, 1) := by decide +kernel
theorem dX1_longestCopy_13 : decode cX1_longestCopy 13 = .ok (.aload_n 0, 1) := by decide +kernel
theorem dX1_longestCopy_14 : decode cX1_longestCopy 14 = .ok (.iload_n 1, 1) := by decide +kernel
theorem dX1_longestCopy_15 : decode cX1_longestCopy 15 = .ok (.aload_n 2, 1) := by decide +kernel
theorem dX1_longestCopy_16 : decode cX1_longestCopy 16 = .ok (.iload 4, 2) := by decide +kernel
theorem dX1_longestCopy_18 : decode cX1_longestCopy 18 = .ok (.invokestatic 129, 3) := by decide +kernel
theorem dX1_longestCopy_21 : decode cX1_longestCopy 21 = .ok (.invokestatic 133, 3) := by decide +kernel
theorem dX1_longestCopy_24 : decode cX1_longestCopy 24 = .ok (.istore_n 3, 1) := by decide +kernel
theorem dX1_longestCopy_25 : decode cX1_longestCopy 25 = .ok (.iinc 4 1, 3) := by decide +kernel
theorem dX1_longestCopy_28 : decode cX1_longestCopy 28 = .ok (.goto (-23), 3) := by decide +kernel
theorem dX1_longestCopy_31 : decode cX1_longestCopy 31 = .ok (.iload_n 3, 1) := by decide +kernel
theorem dX1_longestCopy_32 : decode cX1_longestCopy 32 = .ok (.ireturn, 1) := by decide +kernel
theorem dX1_sharedLength_0 : decode cX1_sharedLength 0 = .ok (.iconst 0, 1) := by decide +kernel
theorem dX1_sharedLength_1 : decode cX1_sharedLength 1 = .ok (.istore 4, 2) := by decide +kernel
theorem dX1_sharedLength_3 : decode cX1_sharedLength 3 = .ok (.iload_n 1, 1) := by decide +kernel
theorem dX1_sharedLength_4 : decode cX1_sharedLength 4 = .ok (.iload 4, 2) := by decide +kernel
theorem dX1_sharedLength_6 : decode cX1_sharedLength 6 = .ok (.iadd, 1) := by decide +kernel
theorem dX1_sharedLength_7 : decode cX1_sharedLength 7 = .ok (.aload_n 0, 1) := by decide +kernel
theorem dX1_sharedLength_8 : decode cX1_sharedLength 8 = .ok (.arraylength, 1) := by decide +kernel
theorem dX1_sharedLength_9 : decode cX1_sharedLength 9 = .ok (.if_icmp .ge 33, 3) := by decide +kernel
theorem dX1_sharedLength_12 : decode cX1_sharedLength 12 = .ok (.iload_n 3, 1) := by decide +kernel
theorem dX1_sharedLength_13 : decode cX1_sharedLength 13 = .ok (.iload 4, 2) := by decide +kernel
theorem dX1_sharedLength_15 : decode cX1_sharedLength 15 = .ok (.iadd, 1) := by decide +kernel
theorem dX1_sharedLength_16 : decode cX1_sharedLength 16 = .ok (.aload_n 2, 1) := by decide +kernel
theorem dX1_sharedLength_17 : decode cX1_sharedLength 17 = .ok (.arraylength, 1) := by decide +kernel
theorem dX1_sharedLength_18 : decode cX1_sharedLength 18 = .ok (.if_icmp .ge 24, 3) := by decide +kernel
theorem dX1_sharedLength_21 : decode cX1_sharedLength 21 = .ok (.aload_n 0, 1) := by decide +kernel
theorem dX1_sharedLength_22 : decode cX1_sharedLength 22 = .ok (.iload_n 1, 1) := by decide +kernel
theorem dX1_sharedLength_23 : decode cX1_sharedLength 23 = .ok (.iload 4, 2) := by decide +kernel
theorem dX1_sharedLength_25 : decode cX1_sharedLength 25 = .ok (.iadd, 1) := by decide +kernel
theorem dX1_sharedLength_26 : decode cX1_sharedLength 26 = .ok (.iaload, 1) := by decide +kernel
theorem dX1_sharedLength_27 : decode cX1_sharedLength 27 = .ok (.aload_n 2, 1) := by decide +kernel
theorem dX1_sharedLength_28 : decode cX1_sharedLength 28 = .ok (.iload_n 3, 1) := by decide +kernel
theorem dX1_sharedLength_29 : decode cX1_sharedLength 29 = .ok (.iload 4, 2) := by decide +kernel
theorem dX1_sharedLength_31 : decode cX1_sharedLength 31 = .ok (.iadd, 1) := by decide +kernel
theorem dX1_sharedLength_32 : decode cX1_sharedLength 32 = .ok (.iaload, 1) := by decide +kernel
theorem dX1_sharedLength_33 : decode cX1_sharedLength 33 = .ok (.if_icmp .ne 9, 3) := by decide +kernel
theorem dX1_sharedLength_36 : decode cX1_sharedLength 36 = .ok (.iinc 4 1, 3) := by decide +kernel
theorem dX1_sharedLength_39 : decode cX1_sharedLength 39 = .ok (.goto (-36), 3) := by decide +kernel
theorem dX1_sharedLength_42 : decode cX1_sharedLength 42 = .ok (.iload 4, 2) := by decide +kernel
theorem dX1_sharedLength_44 : decode cX1_sharedLength 44 = .ok (.ireturn, 1) := by decide +kernel
set_option maxRecDepth 20000 in
theorem ggX1_isSameRow_X1_sharedLength : GoodIn wsX1_isSameRow wsX1_sharedLength := goodIn_r _ [4] rfl (by decide +kernel)
set_option maxRecDepth 20000 in
theorem gX1_isSameRow_X1_sharedLength : GoodIn wsX1_isSameRow (va_wsS RX1 129 yX1_sharedLength wsX1_sharedLength) := goodIn_app (goodIn_of _ (by decide +kernel)) ggX1_isSameRow_X1_sharedLength
theorem dX1_isSameRow_0 : decode cX1_isSameRow 0 = .ok (.aload_n 0, 1) := by decide +kernel
theorem dX1_isSameRow_1 : decode cX1_isSameRow 1 = .ok (.arraylength, 1) := by decide +kernel
theorem dX1_isSameRow_2 : decode cX1_isSameRow 2 = .ok (.aload_n 1, 1) := by decide +kernel
theorem dX1_isSameRow_3 : decode cX1_isSameRow 3 = .ok (.arraylength, 1) := by decide +kernel
theorem dX1_isSameRow_4 : decode cX1_isSameRow 4 = .ok (.if_icmp .ne 19, 3) := by decide +kernel
theorem dX1_isSameRow_7 : decode cX1_isSameRow 7 = .ok (.aload_n 0, 1) := by decide +kernel
theorem dX1_isSameRow_8 : decode cX1_isSameRow 8 = .ok (.iconst 0, 1) := by decide +kernel
theorem dX1_isSameRow_9 : decode cX1_isSameRow 9 = .ok (.aload_n 1, 1) := by decide +kernel
theorem dX1_isSameRow_10 : decode cX1_isSameRow 10 = .ok (.iconst 0, 1) := by decide +kernel
theorem dX1_isSameRow_11 : decode cX1_isSameRow 11 = .ok (.invokestatic 129, 3) := by decide +kernel
theorem dX1_isSameRow_14 : decode cX1_isSameRow 14 = .ok (.aload_n 0, 1) := by decide +kernel
theorem dX1_isSameRow_15 : decode cX1_isSameRow 15 = .ok (.arraylength, 1) := by decide +kernel
theorem dX1_isSameRow_16 : decode cX1_isSameRow 16 = .ok (.if_icmp .ne 7, 3) := by decide +kernel
theorem dX1_isSameRow_19 : decode cX1_isSameRow 19 = .ok (.iconst 1, 1) := by decide +kernel
theorem dX1_isSameRow_20 : decode cX1_isSameRow 20 = .ok (.goto 4, 3) := by decide +kernel
theorem dX1_isSameRow_23 : decode cX1_isSameRow 23 = .ok (.iconst 0, 1) := by decide +kernel
theorem dX1_isSameRow_24 : decode cX1_isSameRow 24 = .ok (.ireturn, 1) := by decide +kernel
theorem dX1_rowWith_0 : decode cX1_rowWith 0 = .ok (.aload_n 0, 1) := by decide +kernel
theorem dX1_rowWith_1 : decode cX1_rowWith 1 = .ok (.arraylength, 1) := by decide +kernel
theorem dX1_rowWith_2 : decode cX1_rowWith 2 = .ok (.iconst 1, 1) := by decide +kernel
theorem dX1_rowWith_3 : decode cX1_rowWith 3 = .ok (.iadd, 1) := by decide +kernel
theorem dX1_rowWith_4 : decode cX1_rowWith 4 = .ok (.newarray .int, 2) := by decide +kernel
theorem dX1_rowWith_6 : decode cX1_rowWith 6 = .ok (.astore_n 3, 1) := by decide +kernel
theorem dX1_rowWith_7 : decode cX1_rowWith 7 = .ok (.iconst 0, 1) := by decide +kernel
theorem dX1_rowWith_8 : decode cX1_rowWith 8 = .ok (.istore 4, 2) := by decide +kernel
theorem dX1_rowWith_10 : decode cX1_rowWith 10 = .ok (.iload 4, 2) := by decide +kernel
theorem dX1_rowWith_12 : decode cX1_rowWith 12 = .ok (.aload_n 3, 1) := by decide +kernel
theorem dX1_rowWith_13 : decode cX1_rowWith 13 = .ok (.arraylength, 1) := by decide +kernel
theorem dX1_rowWith_14 : decode cX1_rowWith 14 = .ok (.if_icmp .ge 44, 3) := by decide +kernel
theorem dX1_rowWith_17 : decode cX1_rowWith 17 = .ok (.iload 4, 2) := by decide +kernel
theorem dX1_rowWith_19 : decode cX1_rowWith 19 = .ok (.iload_n 1, 1) := by decide +kernel
theorem dX1_rowWith_20 : decode cX1_rowWith 20 = .ok (.if_icmp .ne 11, 3) := by decide +kernel
theorem dX1_rowWith_23 : decode cX1_rowWith 23 = .ok (.aload_n 3, 1) := by decide +kernel
theorem dX1_rowWith_24 : decode cX1_rowWith 24 = .ok (.iload 4, 2) := by decide +kernel
theorem dX1_rowWith_26 : decode cX1_rowWith 26 = .ok (.iload_n 2, 1) := by decide +kernel
theorem dX1_rowWith_27 : decode cX1_rowWith 27 = .ok (.iastore, 1) := by decide +kernel
theorem dX1_rowWith_28 : decode cX1_rowWith 28 = .ok (.goto 24, 3) := by decide +kernel
theorem dX1_rowWith_31 : decode cX1_rowWith 31 = .ok (.aload_n 3, 1) := by decide +kernel
theorem dX1_rowWith_32 : decode cX1_rowWith 32 = .ok (.iload 4, 2) := by decide +kernel
theorem dX1_rowWith_34 : decode cX1_rowWith 34 = .ok (.aload_n 0, 1) := by decide +kernel
theorem dX1_rowWith_35 : decode cX1_rowWith 35 = .ok (.iload 4, 2) := by decide +kernel
theorem dX1_rowWith_37 : decode cX1_rowWith 37 = .ok (.iload_n 1, 1) := by decide +kernel
theorem dX1_rowWith_38 : decode cX1_rowWith 38 = .ok (.if_icmp .ge 8, 3) := by decide +kernel
theorem dX1_rowWith_41 : decode cX1_rowWith 41 = .ok (.iload 4, 2) := by decide +kernel
theorem dX1_rowWith_43 : decode cX1_rowWith 43 = .ok (.goto 7, 3) := by decide +kernel
theorem dX1_rowWith_46 : decode cX1_rowWith 46 = .ok (.iload 4, 2) := by decide +kernel
theorem dX1_rowWith_48 : decode cX1_rowWith 48 = .ok (.iconst 1, 1) := by decide +kernel
theorem dX1_rowWith_49 : decode cX1_rowWith 49 = .ok (.isub, 1) := by decide +kernel
theorem dX1_rowWith_50 : decode cX1_rowWith 50 = .ok (.iaload, 1) := by decide +kernel
theorem dX1_rowWith_51 : decode cX1_rowWith 51 = .ok (.iastore, 1) := by decide +kernel
theorem dX1_rowWith_52 : decode cX1_rowWith 52 = .ok (.iinc 4 1, 3) := by decide +kernel
theorem dX1_rowWith_55 : decode cX1_rowWith 55 = .ok (.goto (-45), 3) := by decide +kernel
theorem dX1_rowWith_58 : decode cX1_rowWith 58 = .ok (.aload_n 3, 1) := by decide +kernel
theorem dX1_rowWith_59 : decode cX1_rowWith 59 = .ok (.areturn, 1) := by decide +kernel
theorem dX1_rowWithout_0 : decode cX1_rowWithout 0 = .ok (.aload_n 0, 1) := by decide +kernel
theorem dX1_rowWithout_1 : decode cX1_rowWithout 1 = .ok (.arraylength, 1) := by decide +kernel
theorem dX1_rowWithout_2 : decode cX1_rowWithout 2 = .ok (.iconst 1, 1) := by decide +kernel
theorem dX1_rowWithout_3 : decode cX1_rowWithout 3 = .ok (.isub, 1) := by decide +kernel
theorem dX1_rowWithout_4 : decode cX1_rowWithout 4 = .ok (.newarray .int, 2) := by decide +kernel
theorem dX1_rowWithout_6 : decode cX1_rowWithout 6 = .ok (.astore_n 2, 1) := by decide +kernel
theorem dX1_rowWithout_7 : decode cX1_rowWithout 7 = .ok (.iconst 0, 1) := by decide +kernel
theorem dX1_rowWithout_8 : decode cX1_rowWithout 8 = .ok (.istore_n 3, 1) := by decide +kernel
theorem dX1_rowWithout_9 : decode cX1_rowWithout 9 = .ok (.iload_n 3, 1) := by decide +kernel
theorem dX1_rowWithout_10 : decode cX1_rowWithout 10 = .ok (.aload_n 2, 1) := by decide +kernel
theorem dX1_rowWithout_11 : decode cX1_rowWithout 11 = .ok (.arraylength, 1) := by decide +kernel
theorem dX1_rowWithout_12 : decode cX1_rowWithout 12 = .ok (.if_icmp .ge 26, 3) := by decide +kernel
theorem dX1_rowWithout_15 : decode cX1_rowWithout 15 = .ok (.aload_n 2, 1) := by decide +kernel
theorem dX1_rowWithout_16 : decode cX1_rowWithout 16 = .ok (.iload_n 3, 1) := by decide +kernel
theorem dX1_rowWithout_17 : decode cX1_rowWithout 17 = .ok (.aload_n 0, 1) := by decide +kernel
theorem dX1_rowWithout_18 : decode cX1_rowWithout 18 = .ok (.iload_n 3, 1) := by decide +kernel
theorem dX1_rowWithout_19 : decode cX1_rowWithout 19 = .ok (.iload_n 1, 1) := by decide +kernel
theorem dX1_rowWithout_20 : decode cX1_rowWithout 20 = .ok (.if_icmp .ge 7, 3) := by decide +kernel
theorem dX1_rowWithout_23 : decode cX1_rowWithout 23 = .ok (.iload_n 3, 1) := by decide +kernel
theorem dX1_rowWithout_24 : decode cX1_rowWithout 24 = .ok (.goto 6, 3) := by decide +kernel
theorem dX1_rowWithout_27 : decode cX1_rowWithout 27 = .ok (.iload_n 3, 1) := by decide +kernel
theorem dX1_rowWithout_28 : decode cX1_rowWithout 28 = .ok (.iconst 1, 1) := by decide +kernel
theorem dX1_rowWithout_29 : decode cX1_rowWithout 29 = .ok (.iadd, 1) := by decide +kernel
theorem dX1_rowWithout_30 : decode cX1_rowWithout 30 = .ok (.iaload, 1) := by decide +kernel
theorem dX1_rowWithout_31 : decode cX1_rowWithout 31 = .ok (.iastore, 1) := by decide +kernel
theorem dX1_rowWithout_32 : decode cX1_rowWithout 32 = .ok (.iinc 3 1, 3) := by decide +kernel
theorem dX1_rowWithout_35 : decode cX1_rowWithout 35 = .ok (.goto (-26), 3) := by decide +kernel
theorem dX1_rowWithout_38 : decode cX1_rowWithout 38 = .ok (.aload_n 2, 1) := by decide +kernel
theorem dX1_rowWithout_39 : decode cX1_rowWithout 39 = .ok (.areturn, 1) := by decide +kernel
theorem dJ9_max_7cf53_0 : decode cJ9_max_7cf53 0 = .ok (.iload_n 0, 1) := by decide +kernel
theorem dJ9_max_7cf53_1 : decode cJ9_max_7cf53 1 = .ok (.iload_n 1, 1) := by decide +kernel
theorem dJ9_max_7cf53_2 : decode cJ9_max_7cf53 2 = .ok (.if_icmp .lt 7, 3) := by decide +kernel
theorem dJ9_max_7cf53_5 : decode cJ9_max_7cf53 5 = .ok (.iload_n 0, 1) := by decide +kernel
theorem dJ9_max_7cf53_6 : decode cJ9_max_7cf53 6 = .ok (.goto 4, 3) := by decide +kernel
theorem dJ9_max_7cf53_9 : decode cJ9_max_7cf53 9 = .ok (.iload_n 1, 1) := by decide +kernel
theorem dJ9_max_7cf53_10 : decode cJ9_max_7cf53 10 = .ok (.ireturn, 1) := by decide +kernel
theorem dL_dice_0 : decode cL_dice 0 = .ok (.iload_n 1, 1) := by decide +kernel
theorem dL_dice_1 : decode cL_dice 1 = .ok (.aload_n 0, 1) := by decide +kernel
theorem dL_dice_2 : decode cL_dice 2 = .ok (.arraylength, 1) := by decide +kernel
theorem dL_dice_3 : decode cL_dice 3 = .ok (.if_icmp .ge 9, 3) := by decide +kernel
theorem dL_dice_6 : decode cL_dice 6 = .ok (.aload_n 0, 1) := by decide +kernel
theorem dL_dice_7 : decode cL_dice 7 = .ok (.iload_n 1, 1) := by decide +kernel
theorem dL_dice_8 : decode cL_dice 8 = .ok (.iaload, 1) := by decide +kernel
theorem dL_dice_9 : decode cL_dice 9 = .ok (.goto 23, 3) := by decide +kernel
theorem dL_dice_12 : decode cL_dice 12 = .ok (.ldc 7, 2) := by decide +kernel
theorem dL_dice_14 : decode cL_dice 14 = .ok (.iload_n 1, 1) := by decide +kernel
theorem dL_dice_15 : decode cL_dice 15 = .ok (.sipush 269, 3) := by decide +kernel
theorem dL_dice_18 : decode cL_dice 18 = .ok (.iadd, 1) := by decide +kernel
theorem dL_dice_19 : decode cL_dice 19 = .ok (.imul, 1) := by decide +kernel
theorem dL_dice_20 : decode cL_dice 20 = .ok (.sipush 683, 3) := by decide +kernel
theorem dL_dice_23 : decode cL_dice 23 = .ok (.iload_n 1, 1) := by decide +kernel
theorem dL_dice_24 : decode cL_dice 24 = .ok (.imul, 1) := by decide +kernel
theorem dL_dice_25 : decode cL_dice 25 = .ok (.iload_n 1, 1) := by decide +kernel
theorem dL_dice_26 : decode cL_dice 26 = .ok (.imul, 1) := by decide +kernel
theorem dL_dice_27 : decode cL_dice 27 = .ok (.iadd, 1) := by decide +kernel
theorem dL_dice_28 : decode cL_dice 28 = .ok (.sipush 167, 3) := by decide +kernel
theorem dL_dice_31 : decode cL_dice 31 = .ok (.iadd, 1) := by decide +kernel
theorem dL_dice_32 : decode cL_dice 32 = .ok (.ldc 8, 2) := by decide +kernel
theorem dL_dice_34 : decode cL_dice 34 = .ok (.iand, 1) := by decide +kernel
theorem dL_dice_35 : decode cL_dice 35 = .ok (.ireturn, 1) := by decide +kernel
set_option maxRecDepth 20000 in
theorem ggL_act_X1_makeFile : GoodIn wsL_act wsX1_makeFile := goodIn_ca (goodIn_r _ [8, 9, 10, 11, 12, 13, 14, 7, 15, 16, 17, 18, 19, 20, 21, 22, 23, 24, 25, 26, 27, 28, 29, 30, 31, 32, 106, 107, 108, 109, 110, 111, 112, 113, 114] rfl (by decide +kernel)) (goodIn_sub (fun _ h => List.mem_cons_of_mem _ (List.mem_append_left _ (List.mem_append_left _ (List.mem_append_right _ h)))) (by decide +kernel))
set_option maxRecDepth 20000 in
theorem gL_act_X1_makeFile : GoodIn wsL_act (wsV RL 9 RX1 yX1_makeFile wsX1_makeFile) := goodIn_app (goodIn_of _ (by decide +kernel)) ggL_act_X1_makeFile
set_option maxRecDepth 20000 in
theorem ggL_act_X1_makeLink : GoodIn wsL_act wsX1_makeLink := goodIn_ca (goodIn_r _ [36, 9, 10, 11, 12, 13, 14, 7, 15, 16, 17, 18, 19, 20, 21, 22, 23, 24, 25, 26, 27, 28, 29, 30, 31, 32, 106, 107, 108, 109, 110, 111, 112, 113, 114] rfl (by decide +kernel)) (goodIn_sub (fun _ h => List.mem_cons_of_mem _ (List.mem_append_left _ (List.mem_append_left _ (List.mem_append_right _ h)))) (by decide +kernel))
set_option maxRecDepth 20000 in
theorem gL_act_X1_makeLink : GoodIn wsL_act (wsV RL 15 RX1 yX1_makeLink wsX1_makeLink) := goodIn_app (goodIn_of _ (by decide +kernel)) ggL_act_X1_makeLink
set_option maxRecDepth 20000 in
theorem ggL_act_X1_remove : GoodIn wsL_act wsX1_remove := goodIn_ca (goodIn_r _ [40, 9, 10, 11, 12, 13, 14, 7, 15, 16, 17, 18, 19, 20, 21, 22, 23, 24, 25, 26, 27, 28, 29, 30, 31, 32, 106, 107, 108, 109, 110, 111, 112, 113, 114] rfl (by decide +kernel)) (goodIn_sub (fun _ h => List.mem_cons_of_mem _ (List.mem_append_left _ (List.mem_append_left _ (List.mem_append_right _ h)))) (by decide +kernel))
set_option maxRecDepth 20000 in
theorem gL_act_X1_remove : GoodIn wsL_act (wsV RL 19 RX1 yX1_remove wsX1_remove) := goodIn_app (goodIn_of _ (by decide +kernel)) ggL_act_X1_remove
set_option maxRecDepth 20000 in
theorem ggL_act_X1_put : GoodIn wsL_act wsX1_put := goodIn_ca (goodIn_ca (goodIn_ca (goodIn_r _ [44, 45, 46, 47, 48, 31, 49, 32, 9, 10, 11, 50, 13, 14, 7, 15, 16, 17, 51, 52, 53, 12, 18, 19, 20, 21, 22, 23, 24, 25, 26, 109, 110, 111, 112, 113, 114, 106, 107, 108] rfl (by decide +kernel)) (goodIn_sub (fun _ h => List.mem_cons_of_mem _ (List.mem_append_left _ (List.mem_append_right _ h))) (by decide +kernel))) (goodIn_sub (fun _ h => List.mem_cons_of_mem _ (List.mem_append_right _ h)) (by decide +kernel))) (goodIn_sub (fun _ h => List.mem_cons_of_mem _ (List.mem_append_left _ (List.mem_append_left _ (List.mem_append_right _ h)))) (by decide +kernel))
set_option maxRecDepth 20000 in
theorem gL_act_X1_put : GoodIn wsL_act (wsV RL 22 RX1 yX1_put wsX1_put) := goodIn_app (goodIn_of _ (by decide +kernel)) ggL_act_X1_put
set_option maxRecDepth 20000 in
theorem ggL_act_X1_take : GoodIn wsL_act wsX1_take := goodIn_ca (goodIn_ca (goodIn_ca (goodIn_r _ [57, 45, 46, 47, 48, 31, 32, 49, 9, 10, 11, 50, 13, 14, 7, 15, 16, 17, 58, 59, 60, 12, 18, 19, 20, 21, 22, 23, 24, 25, 26, 109, 110, 111, 112, 113, 114, 106, 107, 108] rfl (by decide +kernel)) (goodIn_sub (fun _ h => List.mem_cons_of_mem _ (List.mem_append_left _ (List.mem_append_right _ h))) (by decide +kernel))) (goodIn_sub (fun _ h => List.mem_cons_of_mem _ (List.mem_append_right _ h)) (by decide +kernel))) (goodIn_sub (fun _ h => List.mem_cons_of_mem _ (List.mem_append_left _ (List.mem_append_left _ (List.mem_append_right _ h)))) (by decide +kernel))
set_option maxRecDepth 20000 in
theorem gL_act_X1_take : GoodIn wsL_act (wsV RL 26 RX1 yX1_take wsX1_take) := goodIn_app (goodIn_of _ (by decide +kernel)) ggL_act_X1_take
set_option maxRecDepth 20000 in
theorem ggL_act_X1_setRights : GoodIn wsL_act wsX1_setRights := goodIn_ca (goodIn_ca (goodIn_ca (goodIn_r _ [64, 45, 46, 47, 48, 31, 32, 9, 10, 11, 49, 50, 13, 14, 7, 15, 16, 17, 18, 19, 20, 21, 22, 23, 24, 25, 26, 109, 110, 111, 112, 113, 114, 106, 107, 108] rfl (by decide +kernel)) (goodIn_sub (fun _ h => List.mem_cons_of_mem _ (List.mem_append_left _ (List.mem_append_right _ h))) (by decide +kernel))) (goodIn_sub (fun _ h => List.mem_cons_of_mem _ (List.mem_append_right _ h)) (by decide +kernel))) (goodIn_sub (fun _ h => List.mem_cons_of_mem _ (List.mem_append_left _ (List.mem_append_left _ (List.mem_append_right _ h)))) (by decide +kernel))
set_option maxRecDepth 20000 in
theorem gL_act_X1_setRights : GoodIn wsL_act (wsV RL 29 RX1 yX1_setRights wsX1_setRights) := goodIn_app (goodIn_of _ (by decide +kernel)) ggL_act_X1_setRights
set_option maxRecDepth 20000 in
theorem ggL_act_X1_run : GoodIn wsL_act wsX1_run := goodIn_ca (goodIn_ca (goodIn_r _ [68, 47, 48, 45, 46, 69, 70, 71, 72, 31, 73, 74, 75, 7, 76, 77, 78, 79, 80, 81, 82, 83, 84, 85, 86, 11, 87, 24, 25, 26, 88, 89, 90, 91, 92, 109, 110, 111, 112, 113, 114, 106, 107, 108] rfl (by decide +kernel)) (goodIn_sub (fun _ h => List.mem_cons_of_mem _ (List.mem_append_right _ h)) (by decide +kernel))) (goodIn_sub (fun _ h => List.mem_cons_of_mem _ (List.mem_append_left _ (List.mem_append_right _ h))) (by decide +kernel))
set_option maxRecDepth 20000 in
theorem gL_act_X1_run : GoodIn wsL_act (wsV RL 32 RX1 yX1_run wsX1_run) := goodIn_app (goodIn_of _ (by decide +kernel)) ggL_act_X1_run
set_option maxRecDepth 20000 in
theorem ggL_act_X1_thin : GoodIn wsL_act wsX1_thin := goodIn_ca (goodIn_ca (goodIn_r _ [96, 47, 48, 45, 46, 97, 69, 73, 74, 75, 7, 76, 71, 70, 109, 110, 111, 112, 113, 114] rfl (by decide +kernel)) (goodIn_sub (fun _ h => List.mem_cons_of_mem _ (List.mem_append_right _ h)) (by decide +kernel))) (goodIn_sub (fun _ h => List.mem_cons_of_mem _ (List.mem_append_left _ (List.mem_append_right _ h))) (by decide +kernel))
set_option maxRecDepth 20000 in
theorem gL_act_X1_thin : GoodIn wsL_act (wsV RL 35 RX1 yX1_thin wsX1_thin) := goodIn_app (goodIn_of _ (by decide +kernel)) ggL_act_X1_thin
set_option maxRecDepth 20000 in
theorem ggL_act_X1_restore : GoodIn wsL_act wsX1_restore := goodIn_ca (goodIn_r _ [101, 72, 31, 102, 103, 104, 7, 105, 16, 17, 97, 69, 73, 74, 75, 76, 71, 70, 81, 82, 83, 84, 85, 86, 11, 87, 24, 25, 26, 88, 89, 90, 91, 92, 109, 110, 111, 112, 113, 114, 106, 107, 108] rfl (by decide +kernel)) (goodIn_sub (fun _ h => List.mem_cons_of_mem _ (List.mem_append_left _ (List.mem_append_left _ (List.mem_append_right _ h)))) (by decide +kernel))
set_option maxRecDepth 20000 in
theorem gL_act_X1_restore : GoodIn wsL_act (wsV RL 38 RX1 yX1_restore wsX1_restore) := goodIn_app (goodIn_of _ (by decide +kernel)) ggL_act_X1_restore
theorem dL_act_0 : decode cL_act 0 = .ok (.iload_n 1, 1) := by decide +kernel
theorem dL_act_1 : decode cL_act 1 = .ok (.ifCond .ne 11, 3) := by decide +kernel
theorem dL_act_4 : decode cL_act 4 = .ok (.aload_n 0, 1) := by decide +kernel
theorem dL_act_5 : decode cL_act 5 = .ok (.iload_n 2, 1) := by decide +kernel
theorem dL_act_6 : decode cL_act 6 = .ok (.invokevirtual 9, 3) := by decide +kernel
theorem dL_act_9 : decode cL_act 9 = .ok (.goto 107, 3) := by decide +kernel
theorem dL_act_12 : decode cL_act 12 = .ok (.iload_n 1, 1) := by decide +kernel
theorem dL_act_13 : decode cL_act 13 = .ok (.iconst 1, 1) := by decide +kernel
theorem dL_act_14 : decode cL_act 14 = .ok (.if_icmp .ne 12, 3) := by decide +kernel
theorem dL_act_17 : decode cL_act 17 = .ok (.aload_n 0, 1) := by decide +kernel
theorem dL_act_18 : decode cL_act 18 = .ok (.iload_n 2, 1) := by decide +kernel
theorem dL_act_19 : decode cL_act 19 = .ok (.iload_n 3, 1) := by decide +kernel
theorem dL_act_20 : decode cL_act 20 = .ok (.invokevirtual 15, 3) := by decide +kernel
theorem dL_act_23 : decode cL_act 23 = .ok (.goto 93, 3) := by decide +kernel
theorem dL_act_26 : decode cL_act 26 = .ok (.iload_n 1, 1) := by decide +kernel
theorem dL_act_27 : decode cL_act 27 = .ok (.iconst 2, 1) := by decide +kernel
theorem dL_act_28 : decode cL_act 28 = .ok (.if_icmp .ne 11, 3) := by decide +kernel
theorem dL_act_31 : decode cL_act 31 = .ok (.aload_n 0, 1) := by decide +kernel
theorem dL_act_32 : decode cL_act 32 = .ok (.iload_n 2, 1) := by decide +kernel
theorem dL_act_33 : decode cL_act 33 = .ok (.invokevirtual 19, 3) := by decide +kernel
theorem dL_act_36 : decode cL_act 36 = .ok (.goto 80, 3) := by decide +kernel
theorem dL_act_39 : decode cL_act 39 = .ok (.iload_n 1, 1) := by decide +kernel
theorem dL_act_40 : decode cL_act 40 = .ok (.iconst 3, 1) := by decide +kernel
theorem dL_act_41 : decode cL_act 41 = .ok (.if_icmp .ne 14, 3) := by decide +kernel
theorem dL_act_44 : decode cL_act 44 = .ok (.aload_n 0, 1) := by decide +kernel
theorem dL_act_45 : decode cL_act 45 = .ok (.iload_n 2, 1) := by decide +kernel
theorem dL_act_46 : decode cL_act 46 = .ok (.iload_n 3, 1) := by decide +kernel
theorem dL_act_47 : decode cL_act 47 = .ok (.iload 4, 2) := by decide +kernel
theorem dL_act_49 : decode cL_act 49 = .ok (.invokevirtual 22, 3) := by decide +kernel
theorem dL_act_52 : decode cL_act 52 = .ok (.goto 64, 3) := by decide +kernel
theorem dL_act_55 : decode cL_act 55 = .ok (.iload_n 1, 1) := by decide +kernel
theorem dL_act_56 : decode cL_act 56 = .ok (.iconst 4, 1) := by decide +kernel
theorem dL_act_57 : decode cL_act 57 = .ok (.if_icmp .ne 12, 3) := by decide +kernel
theorem dL_act_60 : decode cL_act 60 = .ok (.aload_n 0, 1) := by decide +kernel
theorem dL_act_61 : decode cL_act 61 = .ok (.iload_n 2, 1) := by decide +kernel
theorem dL_act_62 : decode cL_act 62 = .ok (.iload_n 3, 1) := by decide +kernel
theorem dL_act_63 : decode cL_act 63 = .ok (.invokevirtual 26, 3) := by decide +kernel
theorem dL_act_66 : decode cL_act 66 = .ok (.goto 50, 3) := by decide +kernel
theorem dL_act_69 : decode cL_act 69 = .ok (.iload_n 1, 1) := by decide +kernel
theorem dL_act_70 : decode cL_act 70 = .ok (.iconst 5, 1) := by decide +kernel
theorem dL_act_71 : decode cL_act 71 = .ok (.if_icmp .ne 12, 3) := by decide +kernel
theorem dL_act_74 : decode cL_act 74 = .ok (.aload_n 0, 1) := by decide +kernel
theorem dL_act_75 : decode cL_act 75 = .ok (.iload_n 2, 1) := by decide +kernel
theorem dL_act_76 : decode cL_act 76 = .ok (.iload_n 3, 1) := by decide +kernel
theorem dL_act_77 : decode cL_act 77 = .ok (.invokevirtual 29, 3) := by decide +kernel
theorem dL_act_80 : decode cL_act 80 = .ok (.goto 36, 3) := by decide +kernel
theorem dL_act_83 : decode cL_act 83 = .ok (.iload_n 1, 1) := by decide +kernel
theorem dL_act_84 : decode cL_act 84 = .ok (.bipush 6, 2) := by decide +kernel
theorem dL_act_86 : decode cL_act 86 = .ok (.if_icmp .ne 11, 3) := by decide +kernel
theorem dL_act_89 : decode cL_act 89 = .ok (.aload_n 0, 1) := by decide +kernel
theorem dL_act_90 : decode cL_act 90 = .ok (.iload_n 2, 1) := by decide +kernel
theorem dL_act_91 : decode cL_act 91 = .ok (.invokevirtual 32, 3) := by decide +kernel
theorem dL_act_94 : decode cL_act 94 = .ok (.goto 22, 3) := by decide +kernel
theorem dL_act_97 : decode cL_act 97 = .ok (.iload_n 1, 1) := by decide +kernel
theorem dL_act_98 : decode cL_act 98 = .ok (.bipush 7, 2) := by decide +kernel
theorem dL_act_100 : decode cL_act 100 = .ok (.if_icmp .ne 11, 3) := by decide +kernel
theorem dL_act_103 : decode cL_act 103 = .ok (.aload_n 0, 1) := by decide +kernel
theorem dL_act_104 : decode cL_act 104 = .ok (.iload_n 2, 1) := by decide +kernel
theorem dL_act_105 : decode cL_act 105 = .ok (.invokevirtual 35, 3) := by decide +kernel
theorem dL_act_108 : decode cL_act 108 = .ok (.goto 8, 3) := by decide +kernel
theorem dL_act_111 : decode cL_act 111 = .ok (.aload_n 0, 1) := by decide +kernel
theorem dL_act_112 : decode cL_act 112 = .ok (.iload_n 2, 1) := by decide +kernel
theorem dL_act_113 : decode cL_act 113 = .ok (.invokevirtual 38, 3) := by decide +kernel
theorem dL_act_116 : decode cL_act 116 = .ok (.ireturn, 1) := by decide +kernel
theorem dL_act_117 : decode cL_act 117 = .ok (.astore 5, 2) := by decide +kernel
theorem dL_act_119 : decode cL_act 119 = .ok (.sipush (-1161), 3) := by decide +kernel
theorem dL_act_122 : decode cL_act 122 = .ok (.ireturn, 1) := by decide +kernel
theorem dL_act_123 : decode cL_act 123 = .ok (.astore 5, 2) := by decide +kernel
theorem dL_act_125 : decode cL_act 125 = .ok (.sipush (-1162), 3) := by decide +kernel
theorem dL_act_128 : decode cL_act 128 = .ok (.ireturn, 1) := by decide +kernel
theorem dL_act_129 : decode cL_act 129 = .ok (.astore 5, 2) := by decide +kernel
theorem dL_act_131 : decode cL_act 131 = .ok (.sipush (-1163), 3) := by decide +kernel
theorem dL_act_134 : decode cL_act 134 = .ok (.ireturn, 1) := by decide +kernel
set_option maxRecDepth 20000 in
theorem ggL_of_X1_kindAt : GoodIn wsL_of wsX1_kindAt := goodIn_ca (goodIn_r _ [6, 7, 8, 9, 10, 5, 11, 12, 13, 14, 15, 16, 17, 18, 19, 20, 21, 22, 23, 24, 25, 26, 27, 69, 70, 71, 72, 73, 74, 75, 76, 77] rfl (by decide +kernel)) (goodIn_sub (fun _ h => List.mem_cons_of_mem _ (List.mem_append_right _ h)) (by decide +kernel))
set_option maxRecDepth 20000 in
theorem gL_of_X1_kindAt : GoodIn wsL_of (wsV RL 47 RX1 yX1_kindAt wsX1_kindAt) := goodIn_app (goodIn_of _ (by decide +kernel)) ggL_of_X1_kindAt
set_option maxRecDepth 20000 in
theorem ggL_of_X1_numberAt : GoodIn wsL_of wsX1_numberAt := goodIn_ca (goodIn_r _ [31, 18, 19, 32, 8, 9, 10, 5, 11, 12, 13, 14, 15, 16, 17, 20, 21, 22, 23, 24, 25, 26, 27, 69, 70, 71, 72, 73, 74, 75, 76, 77] rfl (by decide +kernel)) (goodIn_sub (fun _ h => List.mem_cons_of_mem _ (List.mem_append_right _ h)) (by decide +kernel))
set_option maxRecDepth 20000 in
theorem gL_of_X1_numberAt : GoodIn wsL_of (wsV RL 50 RX1 yX1_numberAt wsX1_numberAt) := goodIn_app (goodIn_of _ (by decide +kernel)) ggL_of_X1_numberAt
set_option maxRecDepth 20000 in
theorem ggL_of_X1_rightsAt : GoodIn wsL_of wsX1_rightsAt := goodIn_ca (goodIn_r _ [36, 37, 8, 9, 10, 5, 11, 12, 13, 14, 15, 16, 17, 18, 19, 20, 21, 22, 23, 24, 25, 26, 27, 69, 70, 71, 72, 73, 74, 75, 76, 77] rfl (by decide +kernel)) (goodIn_sub (fun _ h => List.mem_cons_of_mem _ (List.mem_append_right _ h)) (by decide +kernel))
set_option maxRecDepth 20000 in
theorem gL_of_X1_rightsAt : GoodIn wsL_of (wsV RL 53 RX1 yX1_rightsAt wsX1_rightsAt) := goodIn_app (goodIn_of _ (by decide +kernel)) ggL_of_X1_rightsAt
set_option maxRecDepth 20000 in
theorem ggL_of_X1_sizeAt : GoodIn wsL_of wsX1_sizeAt := goodIn_ca (goodIn_r _ [41, 14, 15, 16, 5, 17, 18, 19, 20, 21, 22, 23, 24, 42, 43, 44, 45, 13, 37, 7, 32, 25, 26, 27, 46, 47, 48, 49, 50, 51, 52, 53, 54, 55, 56, 57, 58, 59, 60, 61, 62, 63, 64, 65, 66, 67, 68, 72, 73, 74, 75, 76, 77, 69, 70, 71] rfl (by decide +kernel)) (goodIn_sub (fun _ h => List.mem_cons_of_mem _ (List.mem_append_right _ h)) (by decide +kernel))
set_option maxRecDepth 20000 in
theorem gL_of_X1_sizeAt : GoodIn wsL_of (wsV RL 56 RX1 yX1_sizeAt wsX1_sizeAt) := goodIn_app (goodIn_of _ (by decide +kernel)) ggL_of_X1_sizeAt
theorem dL_of_0 : decode cL_of 0 = .ok (.iload_n 1, 1) := by decide +kernel
theorem dL_of_1 : decode cL_of 1 = .ok (.ifCond .ne 12, 3) := by decide +kernel
theorem dL_of_4 : decode cL_of 4 = .ok (.aload_n 0, 1) := by decide +kernel
theorem dL_of_5 : decode cL_of 5 = .ok (.iload_n 2, 1) := by decide +kernel
theorem dL_of_6 : decode cL_of 6 = .ok (.iload_n 3, 1) := by decide +kernel
theorem dL_of_7 : decode cL_of 7 = .ok (.invokevirtual 47, 3) := by decide +kernel
theorem dL_of_10 : decode cL_of 10 = .ok (.goto 39, 3) := by decide +kernel
theorem dL_of_13 : decode cL_of 13 = .ok (.iload_n 1, 1) := by decide +kernel
theorem dL_of_14 : decode cL_of 14 = .ok (.iconst 1, 1) := by decide +kernel
theorem dL_of_15 : decode cL_of 15 = .ok (.if_icmp .ne 14, 3) := by decide +kernel
theorem dL_of_18 : decode cL_of 18 = .ok (.aload_n 0, 1) := by decide +kernel
theorem dL_of_19 : decode cL_of 19 = .ok (.iload_n 2, 1) := by decide +kernel
theorem dL_of_20 : decode cL_of 20 = .ok (.iload_n 3, 1) := by decide +kernel
theorem dL_of_21 : decode cL_of 21 = .ok (.iload 4, 2) := by decide +kernel
theorem dL_of_23 : decode cL_of 23 = .ok (.invokevirtual 50, 3) := by decide +kernel
theorem dL_of_26 : decode cL_of 26 = .ok (.goto 23, 3) := by decide +kernel
theorem dL_of_29 : decode cL_of 29 = .ok (.iload_n 1, 1) := by decide +kernel
theorem dL_of_30 : decode cL_of 30 = .ok (.iconst 2, 1) := by decide +kernel
theorem dL_of_31 : decode cL_of 31 = .ok (.if_icmp .ne 12, 3) := by decide +kernel
theorem dL_of_34 : decode cL_of 34 = .ok (.aload_n 0, 1) := by decide +kernel
theorem dL_of_35 : decode cL_of 35 = .ok (.iload_n 2, 1) := by decide +kernel
theorem dL_of_36 : decode cL_of 36 = .ok (.iload_n 3, 1) := by decide +kernel
theorem dL_of_37 : decode cL_of 37 = .ok (.invokevirtual 53, 3) := by decide +kernel
theorem dL_of_40 : decode cL_of 40 = .ok (.goto 9, 3) := by decide +kernel
theorem dL_of_43 : decode cL_of 43 = .ok (.aload_n 0, 1) := by decide +kernel
theorem dL_of_44 : decode cL_of 44 = .ok (.iload_n 2, 1) := by decide +kernel
theorem dL_of_45 : decode cL_of 45 = .ok (.iload_n 3, 1) := by decide +kernel
theorem dL_of_46 : decode cL_of 46 = .ok (.invokevirtual 56, 3) := by decide +kernel
theorem dL_of_49 : decode cL_of 49 = .ok (.ireturn, 1) := by decide +kernel
theorem dL_of_50 : decode cL_of 50 = .ok (.astore 5, 2) := by decide +kernel
theorem dL_of_52 : decode cL_of 52 = .ok (.sipush (-1161), 3) := by decide +kernel
theorem dL_of_55 : decode cL_of 55 = .ok (.ireturn, 1) := by decide +kernel
set_option maxRecDepth 20000 in
theorem ggL_told_X1_kindAt : GoodIn wsL_told wsX1_kindAt := goodIn_ca (goodIn_r _ [7, 8, 9, 10, 11, 6, 12, 13, 14, 15, 16, 17, 18, 19, 20, 21, 22, 23, 24, 25, 26, 27, 28, 39, 40, 41, 42, 43, 44, 45, 46, 47] rfl (by decide +kernel)) (goodIn_sub (fun _ h => List.mem_cons_of_mem _ (List.mem_append_right _ h)) (by decide +kernel))
set_option maxRecDepth 20000 in
theorem gL_told_X1_kindAt : GoodIn wsL_told (wsV RL 47 RX1 yX1_kindAt wsX1_kindAt) := goodIn_app (goodIn_of _ (by decide +kernel)) ggL_told_X1_kindAt
set_option maxRecDepth 20000 in
theorem ggL_told_X1_rightsAt : GoodIn wsL_told wsX1_rightsAt := goodIn_ca (goodIn_r _ [32, 33, 9, 10, 11, 6, 12, 13, 14, 15, 16, 17, 18, 19, 20, 21, 22, 23, 24, 25, 26, 27, 28, 39, 40, 41, 42, 43, 44, 45, 46, 47] rfl (by decide +kernel)) (goodIn_sub (fun _ h => List.mem_cons_of_mem _ (List.mem_append_right _ h)) (by decide +kernel))
set_option maxRecDepth 20000 in
theorem gL_told_X1_rightsAt : GoodIn wsL_told (wsV RL 53 RX1 yX1_rightsAt wsX1_rightsAt) := goodIn_app (goodIn_of _ (by decide +kernel)) ggL_told_X1_rightsAt
set_option maxRecDepth 20000 in
theorem ggL_told_X1_numberAt : GoodIn wsL_told wsX1_numberAt := goodIn_ca (goodIn_r _ [37, 19, 20, 38, 9, 10, 11, 6, 12, 13, 14, 15, 16, 17, 18, 21, 22, 23, 24, 25, 26, 27, 28, 39, 40, 41, 42, 43, 44, 45, 46, 47] rfl (by decide +kernel)) (goodIn_sub (fun _ h => List.mem_cons_of_mem _ (List.mem_append_right _ h)) (by decide +kernel))
set_option maxRecDepth 20000 in
theorem gL_told_X1_numberAt : GoodIn wsL_told (wsV RL 50 RX1 yX1_numberAt wsX1_numberAt) := goodIn_app (goodIn_of _ (by decide +kernel)) ggL_told_X1_numberAt
theorem dL_told_0 : decode cL_told 0 = .ok (.aload_n 0, 1) := by decide +kernel
theorem dL_told_1 : decode cL_told 1 = .ok (.iload_n 1, 1) := by decide +kernel
theorem dL_told_2 : decode cL_told 2 = .ok (.iload_n 2, 1) := by decide +kernel
theorem dL_told_3 : decode cL_told 3 = .ok (.invokevirtual 47, 3) := by decide +kernel
theorem dL_told_6 : decode cL_told 6 = .ok (.i2l, 1) := by decide +kernel
theorem dL_told_7 : decode cL_told 7 = .ok (.ldc2_w 59, 3) := by decide +kernel
theorem dL_told_10 : decode cL_told 10 = .ok (.aload_n 0, 1) := by decide +kernel
theorem dL_told_11 : decode cL_told 11 = .ok (.iload_n 1, 1) := by decide +kernel
theorem dL_told_12 : decode cL_told 12 = .ok (.iload_n 2, 1) := by decide +kernel
theorem dL_told_13 : decode cL_told 13 = .ok (.invokevirtual 53, 3) := by decide +kernel
theorem dL_told_16 : decode cL_told 16 = .ok (.i2l, 1) := by decide +kernel
theorem dL_told_17 : decode cL_told 17 = .ok (.lmul, 1) := by decide +kernel
theorem dL_told_18 : decode cL_told 18 = .ok (.ladd, 1) := by decide +kernel
theorem dL_told_19 : decode cL_told 19 = .ok (.lstore_n 3, 1) := by decide +kernel
theorem dL_told_20 : decode cL_told 20 = .ok (.iconst 0, 1) := by decide +kernel
theorem dL_told_21 : decode cL_told 21 = .ok (.istore 5, 2) := by decide +kernel
theorem dL_told_23 : decode cL_told 23 = .ok (.iload 5, 2) := by decide +kernel
theorem dL_told_25 : decode cL_told 25 = .ok (.bipush 12, 2) := by decide +kernel
theorem dL_told_27 : decode cL_told 27 = .ok (.if_icmp .ge 27, 3) := by decide +kernel
theorem dL_told_30 : decode cL_told 30 = .ok (.ldc2_w 61, 3) := by decide +kernel
theorem dL_told_33 : decode cL_told 33 = .ok (.lload_n 3, 1) := by decide +kernel
theorem dL_told_34 : decode cL_told 34 = .ok (.lmul, 1) := by decide +kernel
theorem dL_told_35 : decode cL_told 35 = .ok (.aload_n 0, 1) := by decide +kernel
theorem dL_told_36 : decode cL_told 36 = .ok (.iload_n 1, 1) := by decide +kernel
theorem dL_told_37 : decode cL_told 37 = .ok (.iload_n 2, 1) := by decide +kernel
theorem dL_told_38 : decode cL_told 38 = .ok (.iload 5, 2) := by decide +kernel
theorem dL_told_40 : decode cL_told 40 = .ok (.invokevirtual 50, 3) := by decide +kernel
theorem dL_told_43 : decode cL_told 43 = .ok (.i2l, 1) := by decide +kernel
theorem dL_told_44 : decode cL_told 44 = .ok (.ladd, 1) := by decide +kernel
theorem dL_told_45 : decode cL_told 45 = .ok (.lconst 1, 1) := by decide +kernel
theorem dL_told_46 : decode cL_told 46 = .ok (.ladd, 1) := by decide +kernel
theorem dL_told_47 : decode cL_told 47 = .ok (.lstore_n 3, 1) := by decide +kernel
theorem dL_told_48 : decode cL_told 48 = .ok (.iinc 5 1, 3) := by decide +kernel
theorem dL_told_51 : decode cL_told 51 = .ok (.goto (-28), 3) := by decide +kernel
theorem dL_told_54 : decode cL_told 54 = .ok (.lload_n 3, 1) := by decide +kernel
theorem dL_told_55 : decode cL_told 55 = .ok (.lreturn, 1) := by decide +kernel
set_option maxRecDepth 20000 in
theorem ggL_length_X1_numberAt : GoodIn wsL_length wsX1_numberAt := goodIn_ca (goodIn_r _ [5, 6, 7, 8, 9, 10, 11, 4, 12, 13, 14, 15, 16, 17, 18, 19, 20, 21, 22, 23, 24, 25, 26, 27, 28, 29, 30, 31, 32, 33, 34, 35] rfl (by decide +kernel)) (goodIn_sub (fun _ h => List.mem_cons_of_mem _ (List.mem_append_right _ h)) (by decide +kernel))
set_option maxRecDepth 20000 in
theorem gL_length_X1_numberAt : GoodIn wsL_length (wsV RL 50 RX1 yX1_numberAt wsX1_numberAt) := goodIn_app (goodIn_of _ (by decide +kernel)) ggL_length_X1_numberAt
theorem dL_length_0 : decode cL_length 0 = .ok (.iconst 0, 1) := by decide +kernel
theorem dL_length_1 : decode cL_length 1 = .ok (.istore_n 3, 1) := by decide +kernel
theorem dL_length_2 : decode cL_length 2 = .ok (.iload_n 3, 1) := by decide +kernel
theorem dL_length_3 : decode cL_length 3 = .ok (.bipush 12, 2) := by decide +kernel
theorem dL_length_5 : decode cL_length 5 = .ok (.if_icmp .ge 19, 3) := by decide +kernel
theorem dL_length_8 : decode cL_length 8 = .ok (.aload_n 0, 1) := by decide +kernel
theorem dL_length_9 : decode cL_length 9 = .ok (.iload_n 1, 1) := by decide +kernel
theorem dL_length_10 : decode cL_length 10 = .ok (.iload_n 2, 1) := by decide +kernel
theorem dL_length_11 : decode cL_length 11 = .ok (.iload_n 3, 1) := by decide +kernel
theorem dL_length_12 : decode cL_length 12 = .ok (.invokevirtual 50, 3) := by decide +kernel
theorem dL_length_15 : decode cL_length 15 = .ok (.ifCond .lt 9, 3) := by decide +kernel
theorem dL_length_18 : decode cL_length 18 = .ok (.iinc 3 1, 3) := by decide +kernel
theorem dL_length_21 : decode cL_length 21 = .ok (.goto (-19), 3) := by decide +kernel
theorem dL_length_24 : decode cL_length 24 = .ok (.iload_n 3, 1) := by decide +kernel
theorem dL_length_25 : decode cL_length 25 = .ok (.ireturn, 1) := by decide +kernel
set_option maxRecDepth 20000 in
theorem ggL_takes_L_told : GoodIn wsL_takes wsL_told := goodIn_ca (goodIn_r _ [4, 5, 6, 7, 8, 9, 10, 11, 12, 13, 14, 15, 16, 17, 18, 19, 20, 21, 22, 23, 24, 25, 26, 27, 28, 29, 30, 31, 32, 33, 34, 35, 36, 37, 38, 39, 40, 41, 42, 43, 44, 45, 46, 47, 48, 49, 50, 51] rfl (by decide +kernel)) (goodIn_sub (fun _ h => List.mem_cons_of_mem _ (List.mem_append_right _ h)) (by decide +kernel))
set_option maxRecDepth 20000 in
theorem gL_takes_L_told : GoodIn wsL_takes (va_wsS RL 63 yL_told wsL_told) := goodIn_app (goodIn_of _ (by decide +kernel)) ggL_takes_L_told
theorem dL_takes_0 : decode cL_takes 0 = .ok (.iconst 0, 1) := by decide +kernel
theorem dL_takes_1 : decode cL_takes 1 = .ok (.istore_n 2, 1) := by decide +kernel
theorem dL_takes_2 : decode cL_takes 2 = .ok (.iload_n 2, 1) := by decide +kernel
theorem dL_takes_3 : decode cL_takes 3 = .ok (.bipush 6, 2) := by decide +kernel
theorem dL_takes_5 : decode cL_takes 5 = .ok (.if_icmp .ge 18, 3) := by decide +kernel
theorem dL_takes_8 : decode cL_takes 8 = .ok (.aload_n 1, 1) := by decide +kernel
theorem dL_takes_9 : decode cL_takes 9 = .ok (.iload_n 2, 1) := by decide +kernel
theorem dL_takes_10 : decode cL_takes 10 = .ok (.aload_n 0, 1) := by decide +kernel
theorem dL_takes_11 : decode cL_takes 11 = .ok (.iconst (-1), 1) := by decide +kernel
theorem dL_takes_12 : decode cL_takes 12 = .ok (.iload_n 2, 1) := by decide +kernel
theorem dL_takes_13 : decode cL_takes 13 = .ok (.invokestatic 63, 3) := by decide +kernel
theorem dL_takes_16 : decode cL_takes 16 = .ok (.lastore, 1) := by decide +kernel
theorem dL_takes_17 : decode cL_takes 17 = .ok (.iinc 2 1, 3) := by decide +kernel
theorem dL_takes_20 : decode cL_takes 20 = .ok (.goto (-18), 3) := by decide +kernel
theorem dL_takes_23 : decode cL_takes 23 = .ok (.return_, 1) := by decide +kernel
set_option maxRecDepth 20000 in
theorem ggL_isHead_L_told : GoodIn wsL_isHead wsL_told := goodIn_ca (goodIn_r _ [4, 5, 6, 7, 8, 9, 10, 11, 12, 13, 14, 15, 16, 17, 18, 19, 20, 21, 22, 23, 24, 25, 26, 27, 28, 29, 30, 31, 32, 33, 34, 35, 36, 37, 38, 39, 40, 41, 42, 77, 78, 79, 80, 81, 82, 83, 84, 85] rfl (by decide +kernel)) (goodIn_sub (fun _ h => List.mem_cons_of_mem _ (List.mem_append_right _ h)) (by decide +kernel))
set_option maxRecDepth 20000 in
theorem gL_isHead_L_told : GoodIn wsL_isHead (va_wsS RL 63 yL_told wsL_told) := goodIn_app (goodIn_of _ (by decide +kernel)) ggL_isHead_L_told
set_option maxRecDepth 20000 in
theorem ggL_isHead_X1_last : GoodIn wsL_isHead wsX1_last := goodIn_r _ [46, 26, 80, 81, 82, 83, 84, 85] rfl (by decide +kernel)
set_option maxRecDepth 20000 in
theorem gL_isHead_X1_last : GoodIn wsL_isHead (wsV RL 69 RX1 yX1_last wsX1_last) := goodIn_app (goodIn_of _ (by decide +kernel)) ggL_isHead_X1_last
set_option maxRecDepth 20000 in
theorem ggL_isHead_X1_oldest : GoodIn wsL_isHead wsX1_oldest := goodIn_r _ [50, 25, 80, 81, 82, 83, 84, 85] rfl (by decide +kernel)
set_option maxRecDepth 20000 in
theorem gL_isHead_X1_oldest : GoodIn wsL_isHead (wsV RL 73 RX1 yX1_oldest wsX1_oldest) := goodIn_app (goodIn_of _ (by decide +kernel)) ggL_isHead_X1_oldest
set_option maxRecDepth 20000 in
theorem ggL_isHead_X1_isBroken : GoodIn wsL_isHead wsX1_isBroken := goodIn_r _ [54, 55, 80, 81, 82, 83, 84, 85] rfl (by decide +kernel)
set_option maxRecDepth 20000 in
theorem gL_isHead_X1_isBroken : GoodIn wsL_isHead (wsV RL 76 RX1 yX1_isBroken wsX1_isBroken) := goodIn_app (goodIn_of _ (by decide +kernel)) ggL_isHead_X1_isBroken
set_option maxRecDepth 20000 in
theorem ggL_isHead_X1_needs : GoodIn wsL_isHead wsX1_needs := goodIn_r _ [59, 60, 61, 62, 10, 63, 17, 18, 26, 30, 31, 32, 64, 65, 66, 67, 68, 69, 70, 71, 72, 73, 74, 75, 76, 80, 81, 82, 83, 84, 85, 77, 78, 79] rfl (by decide +kernel)
set_option maxRecDepth 20000 in
theorem gL_isHead_X1_needs : GoodIn wsL_isHead (wsV RL 80 RX1 yX1_needs wsX1_needs) := goodIn_app (goodIn_of _ (by decide +kernel)) ggL_isHead_X1_needs
theorem dL_isHead_0 : decode cL_isHead 0 = .ok (.iconst 0, 1) := by decide +kernel
theorem dL_isHead_1 : decode cL_isHead 1 = .ok (.istore_n 3, 1) := by decide +kernel
theorem dL_isHead_2 : decode cL_isHead 2 = .ok (.iconst 0, 1) := by decide +kernel
theorem dL_isHead_3 : decode cL_isHead 3 = .ok (.istore 4, 2) := by decide +kernel
theorem dL_isHead_5 : decode cL_isHead 5 = .ok (.iload 4, 2) := by decide +kernel
theorem dL_isHead_7 : decode cL_isHead 7 = .ok (.bipush 6, 2) := by decide +kernel
theorem dL_isHead_9 : decode cL_isHead 9 = .ok (.if_icmp .ge 42, 3) := by decide +kernel
theorem dL_isHead_12 : decode cL_isHead 12 = .ok (.iload_n 3, 1) := by decide +kernel
theorem dL_isHead_13 : decode cL_isHead 13 = .ok (.aload_n 1, 1) := by decide +kernel
theorem dL_isHead_14 : decode cL_isHead 14 = .ok (.bipush 6, 2) := by decide +kernel
theorem dL_isHead_16 : decode cL_isHead 16 = .ok (.aload_n 2, 1) := by decide +kernel
theorem dL_isHead_17 : decode cL_isHead 17 = .ok (.iconst 0, 1) := by decide +kernel
theorem dL_isHead_18 : decode cL_isHead 18 = .ok (.iaload, 1) := by decide +kernel
theorem dL_isHead_19 : decode cL_isHead 19 = .ok (.bipush 10, 2) := by decide +kernel
theorem dL_isHead_21 : decode cL_isHead 21 = .ok (.irem, 1) := by decide +kernel
theorem dL_isHead_22 : decode cL_isHead 22 = .ok (.imul, 1) := by decide +kernel
theorem dL_isHead_23 : decode cL_isHead 23 = .ok (.iload 4, 2) := by decide +kernel
theorem dL_isHead_25 : decode cL_isHead 25 = .ok (.iadd, 1) := by decide +kernel
theorem dL_isHead_26 : decode cL_isHead 26 = .ok (.laload, 1) := by decide +kernel
theorem dL_isHead_27 : decode cL_isHead 27 = .ok (.aload_n 0, 1) := by decide +kernel
theorem dL_isHead_28 : decode cL_isHead 28 = .ok (.iconst (-1), 1) := by decide +kernel
theorem dL_isHead_29 : decode cL_isHead 29 = .ok (.iload 4, 2) := by decide +kernel
theorem dL_isHead_31 : decode cL_isHead 31 = .ok (.invokestatic 63, 3) := by decide +kernel
theorem dL_isHead_34 : decode cL_isHead 34 = .ok (.lcmp, 1) := by decide +kernel
theorem dL_isHead_35 : decode cL_isHead 35 = .ok (.ifCond .ne 7, 3) := by decide +kernel
theorem dL_isHead_38 : decode cL_isHead 38 = .ok (.iconst 0, 1) := by decide +kernel
theorem dL_isHead_39 : decode cL_isHead 39 = .ok (.goto 4, 3) := by decide +kernel
theorem dL_isHead_42 : decode cL_isHead 42 = .ok (.iconst 1, 1) := by decide +kernel
theorem dL_isHead_43 : decode cL_isHead 43 = .ok (.iadd, 1) := by decide +kernel
theorem dL_isHead_44 : decode cL_isHead 44 = .ok (.istore_n 3, 1) := by decide +kernel
theorem dL_isHead_45 : decode cL_isHead 45 = .ok (.iinc 4 1, 3) := by decide +kernel
theorem dL_isHead_48 : decode cL_isHead 48 = .ok (.goto (-43), 3) := by decide +kernel
theorem dL_isHead_51 : decode cL_isHead 51 = .ok (.aload_n 0, 1) := by decide +kernel
theorem dL_isHead_52 : decode cL_isHead 52 = .ok (.invokevirtual 69, 3) := by decide +kernel
theorem dL_isHead_55 : decode cL_isHead 55 = .ok (.aload_n 2, 1) := by decide +kernel
theorem dL_isHead_56 : decode cL_isHead 56 = .ok (.iconst 0, 1) := by decide +kernel
theorem dL_isHead_57 : decode cL_isHead 57 = .ok (.iaload, 1) := by decide +kernel
theorem dL_isHead_58 : decode cL_isHead 58 = .ok (.if_icmp .ne 43, 3) := by decide +kernel
theorem dL_isHead_61 : decode cL_isHead 61 = .ok (.aload_n 0, 1) := by decide +kernel
theorem dL_isHead_62 : decode cL_isHead 62 = .ok (.invokevirtual 73, 3) := by decide +kernel
theorem dL_isHead_65 : decode cL_isHead 65 = .ok (.aload_n 2, 1) := by decide +kernel
theorem dL_isHead_66 : decode cL_isHead 66 = .ok (.iconst 1, 1) := by decide +kernel
theorem dL_isHead_67 : decode cL_isHead 67 = .ok (.iaload, 1) := by decide +kernel
theorem dL_isHead_68 : decode cL_isHead 68 = .ok (.if_icmp .ne 33, 3) := by decide +kernel
theorem dL_isHead_71 : decode cL_isHead 71 = .ok (.aload_n 0, 1) := by decide +kernel
theorem dL_isHead_72 : decode cL_isHead 72 = .ok (.invokevirtual 76, 3) := by decide +kernel
theorem dL_isHead_75 : decode cL_isHead 75 = .ok (.aload_n 2, 1) := by decide +kernel
theorem dL_isHead_76 : decode cL_isHead 76 = .ok (.iconst 2, 1) := by decide +kernel
theorem dL_isHead_77 : decode cL_isHead 77 = .ok (.iaload, 1) := by decide +kernel
theorem dL_isHead_78 : decode cL_isHead 78 = .ok (.ifCond .lt 7, 3) := by decide +kernel
theorem dL_isHead_81 : decode cL_isHead 81 = .ok (.iconst 1, 1) := by decide +kernel
theorem dL_isHead_82 : decode cL_isHead 82 = .ok (.goto 4, 3) := by decide +kernel
theorem dL_isHead_85 : decode cL_isHead 85 = .ok (.iconst 0, 1) := by decide +kernel
theorem dL_isHead_86 : decode cL_isHead 86 = .ok (.if_icmp .ne 15, 3) := by decide +kernel
theorem dL_isHead_89 : decode cL_isHead 89 = .ok (.aload_n 0, 1) := by decide +kernel
theorem dL_isHead_90 : decode cL_isHead 90 = .ok (.invokevirtual 80, 3) := by decide +kernel
theorem dL_isHead_93 : decode cL_isHead 93 = .ok (.iload_n 3, 1) := by decide +kernel
theorem dL_isHead_94 : decode cL_isHead 94 = .ok (.if_icmp .ne 7, 3) := by decide +kernel
theorem dL_isHead_97 : decode cL_isHead 97 = .ok (.iconst 1, 1) := by decide +kernel
theorem dL_isHead_98 : decode cL_isHead 98 = .ok (.goto 4, 3) := by decide +kernel
theorem dL_isHead_101 : decode cL_isHead 101 = .ok (.iconst 0, 1) := by decide +kernel
theorem dL_isHead_102 : decode cL_isHead 102 = .ok (.ireturn, 1) := by decide +kernel
set_option maxRecDepth 20000 in
theorem ggL_isDate_X1_kindAt : GoodIn wsL_isDate wsX1_kindAt := goodIn_ca (goodIn_r _ [5, 6, 7, 8, 9, 4, 10, 11, 12, 13, 14, 15, 16, 17, 18, 19, 20, 21, 22, 23, 24, 25, 26, 80, 81, 82, 83, 84, 85, 86, 87, 88] rfl (by decide +kernel)) (goodIn_sub (fun _ h => List.mem_cons_of_mem _ (List.mem_append_right _ h)) (by decide +kernel))
set_option maxRecDepth 20000 in
theorem gL_isDate_X1_kindAt : GoodIn wsL_isDate (wsV RL 47 RX1 yX1_kindAt wsX1_kindAt) := goodIn_app (goodIn_of _ (by decide +kernel)) ggL_isDate_X1_kindAt
set_option maxRecDepth 20000 in
theorem ggL_isDate_L_told : GoodIn wsL_isDate wsL_told := goodIn_ca (goodIn_r _ [30, 31, 32, 1, 2, 3, 4, 5, 6, 7, 8, 9, 10, 11, 12, 13, 14, 15, 16, 17, 18, 19, 20, 21, 22, 23, 24, 25, 26, 33, 34, 35, 36, 37, 38, 39, 40, 41, 42, 80, 81, 82, 83, 84, 85, 86, 87, 88] rfl (by decide +kernel)) (goodIn_sub (fun _ h => List.mem_cons_of_mem _ (List.mem_append_right _ h)) (by decide +kernel))
set_option maxRecDepth 20000 in
theorem gL_isDate_L_told : GoodIn wsL_isDate (va_wsS RL 63 yL_told wsL_told) := goodIn_app (goodIn_of _ (by decide +kernel)) ggL_isDate_L_told
set_option maxRecDepth 20000 in
theorem ggL_isDate_X1_rightsAt : GoodIn wsL_isDate wsX1_rightsAt := goodIn_ca (goodIn_r _ [36, 37, 7, 8, 9, 4, 10, 11, 12, 13, 14, 15, 16, 17, 18, 19, 20, 21, 22, 23, 24, 25, 26, 80, 81, 82, 83, 84, 85, 86, 87, 88] rfl (by decide +kernel)) (goodIn_sub (fun _ h => List.mem_cons_of_mem _ (List.mem_append_right _ h)) (by decide +kernel))
set_option maxRecDepth 20000 in
theorem gL_isDate_X1_rightsAt : GoodIn wsL_isDate (wsV RL 53 RX1 yX1_rightsAt wsX1_rightsAt) := goodIn_app (goodIn_of _ (by decide +kernel)) ggL_isDate_X1_rightsAt
set_option maxRecDepth 20000 in
theorem ggL_isDate_X1_numberAt : GoodIn wsL_isDate wsX1_numberAt := goodIn_ca (goodIn_r _ [41, 17, 18, 42, 7, 8, 9, 4, 10, 11, 12, 13, 14, 15, 16, 19, 20, 21, 22, 23, 24, 25, 26, 80, 81, 82, 83, 84, 85, 86, 87, 88] rfl (by decide +kernel)) (goodIn_sub (fun _ h => List.mem_cons_of_mem _ (List.mem_append_right _ h)) (by decide +kernel))
set_option maxRecDepth 20000 in
theorem gL_isDate_X1_numberAt : GoodIn wsL_isDate (wsV RL 50 RX1 yX1_numberAt wsX1_numberAt) := goodIn_app (goodIn_of _ (by decide +kernel)) ggL_isDate_X1_numberAt
set_option maxRecDepth 20000 in
theorem ggL_isDate_L_length : GoodIn wsL_isDate wsL_length := goodIn_ca (goodIn_r _ [45, 38, 39, 40, 4, 41, 17, 18, 42, 7, 8, 9, 10, 11, 12, 13, 14, 15, 16, 19, 20, 21, 22, 23, 24, 25, 26, 80, 81, 82, 83, 84, 85, 86, 87, 88] rfl (by decide +kernel)) (goodIn_sub (fun _ h => List.mem_cons_of_mem _ (List.mem_append_right _ h)) (by decide +kernel))
set_option maxRecDepth 20000 in
theorem gL_isDate_L_length : GoodIn wsL_isDate (va_wsS RL 83 yL_length wsL_length) := goodIn_app (goodIn_of _ (by decide +kernel)) ggL_isDate_L_length
set_option maxRecDepth 20000 in
theorem ggL_isDate_X1_sizeAt : GoodIn wsL_isDate wsX1_sizeAt := goodIn_ca (goodIn_r _ [49, 13, 14, 15, 4, 16, 17, 18, 19, 20, 21, 22, 23, 50, 51, 52, 53, 12, 37, 6, 42, 24, 25, 26, 54, 55, 56, 57, 58, 59, 60, 61, 62, 63, 64, 65, 66, 67, 68, 69, 70, 71, 72, 73, 74, 75, 76, 83, 84, 85, 86, 87, 88, 80, 81, 82] rfl (by decide +kernel)) (goodIn_sub (fun _ h => List.mem_cons_of_mem _ (List.mem_append_right _ h)) (by decide +kernel))
set_option maxRecDepth 20000 in
theorem gL_isDate_X1_sizeAt : GoodIn wsL_isDate (wsV RL 56 RX1 yX1_sizeAt wsX1_sizeAt) := goodIn_app (goodIn_of _ (by decide +kernel)) ggL_isDate_X1_sizeAt
set_option maxRecDepth 20000 in
theorem ggL_isDate_L_isSize : GoodIn wsL_isDate wsL_isSize := goodIn_ca (goodIn_r _ [79, 46, 47, 48, 4, 49, 13, 14, 15, 16, 17, 18, 19, 20, 21, 22, 23, 50, 51, 52, 53, 12, 37, 6, 42, 24, 25, 26, 54, 55, 56, 57, 58, 59, 60, 61, 62, 63, 64, 65, 66, 67, 68, 69, 70, 71, 72, 73, 74, 75, 76, 33, 34, 35, 36, 7, 8, 9, 10, 11, 43, 44, 29, 45, 38, 39, 40, 41, 1, 2, 3, 5, 83, 84, 85, 86, 87, 88, 80, 81, 82] rfl (by decide +kernel)) (goodIn_sub (fun _ h => List.mem_cons_of_mem _ (List.mem_append_right _ h)) (by decide +kernel))
set_option maxRecDepth 20000 in
theorem gL_isDate_L_isSize : GoodIn wsL_isDate (va_wsS RL 87 yL_isSize wsL_isSize) := goodIn_app (goodIn_of _ (by decide +kernel)) ggL_isDate_L_isSize
theorem dL_isDate_0 : decode cL_isDate 0 = .ok (.iconst 1, 1) := by decide +kernel
theorem dL_isDate_1 : decode cL_isDate 1 = .ok (.istore 4, 2) := by decide +kernel
theorem dL_isDate_3 : decode cL_isDate 3 = .ok (.iconst 0, 1) := by decide +kernel
theorem dL_isDate_4 : decode cL_isDate 4 = .ok (.istore 5, 2) := by decide +kernel
theorem dL_isDate_6 : decode cL_isDate 6 = .ok (.iload 5, 2) := by decide +kernel
theorem dL_isDate_8 : decode cL_isDate 8 = .ok (.bipush 6, 2) := by decide +kernel
theorem dL_isDate_10 : decode cL_isDate 10 = .ok (.if_icmp .ge 139, 3) := by decide +kernel
theorem dL_isDate_13 : decode cL_isDate 13 = .ok (.iload 4, 2) := by decide +kernel
theorem dL_isDate_15 : decode cL_isDate 15 = .ok (.ifCond .eq 134, 3) := by decide +kernel
theorem dL_isDate_18 : decode cL_isDate 18 = .ok (.aload_n 0, 1) := by decide +kernel
theorem dL_isDate_19 : decode cL_isDate 19 = .ok (.iload_n 3, 1) := by decide +kernel
theorem dL_isDate_20 : decode cL_isDate 20 = .ok (.iload 5, 2) := by decide +kernel
theorem dL_isDate_22 : decode cL_isDate 22 = .ok (.invokevirtual 47, 3) := by decide +kernel
theorem dL_isDate_25 : decode cL_isDate 25 = .ok (.istore 6, 2) := by decide +kernel
theorem dL_isDate_27 : decode cL_isDate 27 = .ok (.aload_n 0, 1) := by decide +kernel
theorem dL_isDate_28 : decode cL_isDate 28 = .ok (.iload_n 3, 1) := by decide +kernel
theorem dL_isDate_29 : decode cL_isDate 29 = .ok (.iload 5, 2) := by decide +kernel
theorem dL_isDate_31 : decode cL_isDate 31 = .ok (.invokestatic 63, 3) := by decide +kernel
theorem dL_isDate_34 : decode cL_isDate 34 = .ok (.aload_n 1, 1) := by decide +kernel
theorem dL_isDate_35 : decode cL_isDate 35 = .ok (.bipush 6, 2) := by decide +kernel
theorem dL_isDate_37 : decode cL_isDate 37 = .ok (.iload_n 3, 1) := by decide +kernel
theorem dL_isDate_38 : decode cL_isDate 38 = .ok (.bipush 10, 2) := by decide +kernel
theorem dL_isDate_40 : decode cL_isDate 40 = .ok (.irem, 1) := by decide +kernel
theorem dL_isDate_41 : decode cL_isDate 41 = .ok (.imul, 1) := by decide +kernel
theorem dL_isDate_42 : decode cL_isDate 42 = .ok (.iload 5, 2) := by decide +kernel
theorem dL_isDate_44 : decode cL_isDate 44 = .ok (.iadd, 1) := by decide +kernel
theorem dL_isDate_45 : decode cL_isDate 45 = .ok (.laload, 1) := by decide +kernel
theorem dL_isDate_46 : decode cL_isDate 46 = .ok (.lcmp, 1) := by decide +kernel
theorem dL_isDate_47 : decode cL_isDate 47 = .ok (.ifCond .ne 93, 3) := by decide +kernel
theorem dL_isDate_50 : decode cL_isDate 50 = .ok (.iload 6, 2) := by decide +kernel
theorem dL_isDate_52 : decode cL_isDate 52 = .ok (.ifCond .lt 88, 3) := by decide +kernel
theorem dL_isDate_55 : decode cL_isDate 55 = .ok (.iload 6, 2) := by decide +kernel
theorem dL_isDate_57 : decode cL_isDate 57 = .ok (.iconst 2, 1) := by decide +kernel
theorem dL_isDate_58 : decode cL_isDate 58 = .ok (.if_icmp .gt 82, 3) := by decide +kernel
theorem dL_isDate_61 : decode cL_isDate 61 = .ok (.iload 6, 2) := by decide +kernel
theorem dL_isDate_63 : decode cL_isDate 63 = .ok (.ifCond .gt 25, 3) := by decide +kernel
theorem dL_isDate_66 : decode cL_isDate 66 = .ok (.aload_n 0, 1) := by decide +kernel
theorem dL_isDate_67 : decode cL_isDate 67 = .ok (.iload_n 3, 1) := by decide +kernel
theorem dL_isDate_68 : decode cL_isDate 68 = .ok (.iload 5, 2) := by decide +kernel
theorem dL_isDate_70 : decode cL_isDate 70 = .ok (.invokevirtual 53, 3) := by decide +kernel
theorem dL_isDate_73 : decode cL_isDate 73 = .ok (.ifCond .ne 67, 3) := by decide +kernel
theorem dL_isDate_76 : decode cL_isDate 76 = .ok (.aload_n 0, 1) := by decide +kernel
theorem dL_isDate_77 : decode cL_isDate 77 = .ok (.iload_n 3, 1) := by decide +kernel
theorem dL_isDate_78 : decode cL_isDate 78 = .ok (.iload 5, 2) := by decide +kernel
theorem dL_isDate_80 : decode cL_isDate 80 = .ok (.iconst 0, 1) := by decide +kernel
theorem dL_isDate_81 : decode cL_isDate 81 = .ok (.invokevirtual 50, 3) := by decide +kernel
theorem dL_isDate_84 : decode cL_isDate 84 = .ok (.iconst (-1), 1) := by decide +kernel
theorem dL_isDate_85 : decode cL_isDate 85 = .ok (.if_icmp .ne 55, 3) := by decide +kernel
theorem dL_isDate_88 : decode cL_isDate 88 = .ok (.iload 6, 2) := by decide +kernel
theorem dL_isDate_90 : decode cL_isDate 90 = .ok (.iconst 2, 1) := by decide +kernel
theorem dL_isDate_91 : decode cL_isDate 91 = .ok (.if_icmp .ne 14, 3) := by decide +kernel
theorem dL_isDate_94 : decode cL_isDate 94 = .ok (.aload_n 0, 1) := by decide +kernel
theorem dL_isDate_95 : decode cL_isDate 95 = .ok (.iload_n 3, 1) := by decide +kernel
theorem dL_isDate_96 : decode cL_isDate 96 = .ok (.iload 5, 2) := by decide +kernel
theorem dL_isDate_98 : decode cL_isDate 98 = .ok (.invokestatic 83, 3) := by decide +kernel
theorem dL_isDate_101 : decode cL_isDate 101 = .ok (.iconst 1, 1) := by decide +kernel
theorem dL_isDate_102 : decode cL_isDate 102 = .ok (.if_icmp .ne 38, 3) := by decide +kernel
theorem dL_isDate_105 : decode cL_isDate 105 = .ok (.iload_n 3, 1) := by decide +kernel
theorem dL_isDate_106 : decode cL_isDate 106 = .ok (.aload_n 2, 1) := by decide +kernel
theorem dL_isDate_107 : decode cL_isDate 107 = .ok (.iconst 0, 1) := by decide +kernel
theorem dL_isDate_108 : decode cL_isDate 108 = .ok (.iaload, 1) := by decide +kernel
theorem dL_isDate_109 : decode cL_isDate 109 = .ok (.if_icmp .ne 16, 3) := by decide +kernel
theorem dL_isDate_112 : decode cL_isDate 112 = .ok (.aload_n 0, 1) := by decide +kernel
theorem dL_isDate_113 : decode cL_isDate 113 = .ok (.iload_n 3, 1) := by decide +kernel
theorem dL_isDate_114 : decode cL_isDate 114 = .ok (.iload 5, 2) := by decide +kernel
theorem dL_isDate_116 : decode cL_isDate 116 = .ok (.invokevirtual 56, 3) := by decide +kernel
theorem dL_isDate_119 : decode cL_isDate 119 = .ok (.ifCond .ne 21, 3) := by decide +kernel
theorem dL_isDate_122 : decode cL_isDate 122 = .ok (.goto 14, 3) := by decide +kernel
theorem dL_isDate_125 : decode cL_isDate 125 = .ok (.aload_n 0, 1) := by decide +kernel
theorem dL_isDate_126 : decode cL_isDate 126 = .ok (.aload_n 1, 1) := by decide +kernel
theorem dL_isDate_127 : decode cL_isDate 127 = .ok (.iload_n 3, 1) := by decide +kernel
theorem dL_isDate_128 : decode cL_isDate 128 = .ok (.iload 5, 2) := by decide +kernel
