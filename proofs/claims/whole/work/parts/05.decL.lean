theorem dL_reset_0 : decode cL_reset 0 = .ok (.aload_n 2, 1) := by decide +kernel
theorem dL_reset_1 : decode cL_reset 1 = .ok (.iconst 0, 1) := by decide +kernel
theorem dL_reset_2 : decode cL_reset 2 = .ok (.aload_n 0, 1) := by decide +kernel
theorem dL_reset_3 : decode cL_reset 3 = .ok (.iload_n 1, 1) := by decide +kernel
theorem dL_reset_4 : decode cL_reset 4 = .ok (.invokevirtual 7, 3) := by decide +kernel
theorem dL_reset_7 : decode cL_reset 7 = .ok (.i2l, 1) := by decide +kernel
theorem dL_reset_8 : decode cL_reset 8 = .ok (.lastore, 1) := by decide +kernel
theorem dL_reset_9 : decode cL_reset 9 = .ok (.goto 6, 3) := by decide +kernel
theorem dL_reset_12 : decode cL_reset 12 = .ok (.astore_n 3, 1) := by decide +kernel
theorem dL_reset_13 : decode cL_reset 13 = .ok (.iconst 1, 1) := by decide +kernel
theorem dL_reset_14 : decode cL_reset 14 = .ok (.ireturn, 1) := by decide +kernel
theorem dL_reset_15 : decode cL_reset 15 = .ok (.iconst 0, 1) := by decide +kernel
theorem dL_reset_16 : decode cL_reset 16 = .ok (.ireturn, 1) := by decide +kernel
theorem dL_membersOf_0 : decode cL_membersOf 0 = .ok (.aload_n 2, 1) := by decide +kernel
theorem dL_membersOf_1 : decode cL_membersOf 1 = .ok (.iconst 0, 1) := by decide +kernel
theorem dL_membersOf_2 : decode cL_membersOf 2 = .ok (.aload_n 0, 1) := by decide +kernel
theorem dL_membersOf_3 : decode cL_membersOf 3 = .ok (.iload_n 1, 1) := by decide +kernel
theorem dL_membersOf_4 : decode cL_membersOf 4 = .ok (.invokevirtual 15, 3) := by decide +kernel
theorem dL_membersOf_7 : decode cL_membersOf 7 = .ok (.i2l, 1) := by decide +kernel
theorem dL_membersOf_8 : decode cL_membersOf 8 = .ok (.lastore, 1) := by decide +kernel
theorem dL_membersOf_9 : decode cL_membersOf 9 = .ok (.goto 6, 3) := by decide +kernel
theorem dL_membersOf_12 : decode cL_membersOf 12 = .ok (.astore_n 3, 1) := by decide +kernel
theorem dL_membersOf_13 : decode cL_membersOf 13 = .ok (.iconst 1, 1) := by decide +kernel
theorem dL_membersOf_14 : decode cL_membersOf 14 = .ok (.ireturn, 1) := by decide +kernel
theorem dL_membersOf_15 : decode cL_membersOf 15 = .ok (.iconst 0, 1) := by decide +kernel
theorem dL_membersOf_16 : decode cL_membersOf 16 = .ok (.ireturn, 1) := by decide +kernel
theorem dL_forcedIn_0 : decode cL_forcedIn 0 = .ok (.aload_n 2, 1) := by decide +kernel
theorem dL_forcedIn_1 : decode cL_forcedIn 1 = .ok (.iconst 0, 1) := by decide +kernel
theorem dL_forcedIn_2 : decode cL_forcedIn 2 = .ok (.aload_n 0, 1) := by decide +kernel
theorem dL_forcedIn_3 : decode cL_forcedIn 3 = .ok (.iload_n 1, 1) := by decide +kernel
theorem dL_forcedIn_4 : decode cL_forcedIn 4 = .ok (.invokevirtual 20, 3) := by decide +kernel
theorem dL_forcedIn_7 : decode cL_forcedIn 7 = .ok (.i2l, 1) := by decide +kernel
theorem dL_forcedIn_8 : decode cL_forcedIn 8 = .ok (.lastore, 1) := by decide +kernel
theorem dL_forcedIn_9 : decode cL_forcedIn 9 = .ok (.goto 6, 3) := by decide +kernel
theorem dL_forcedIn_12 : decode cL_forcedIn 12 = .ok (.astore_n 3, 1) := by decide +kernel
theorem dL_forcedIn_13 : decode cL_forcedIn 13 = .ok (.iconst 1, 1) := by decide +kernel
theorem dL_forcedIn_14 : decode cL_forcedIn 14 = .ok (.ireturn, 1) := by decide +kernel
theorem dL_forcedIn_15 : decode cL_forcedIn 15 = .ok (.iconst 0, 1) := by decide +kernel
theorem dL_forcedIn_16 : decode cL_forcedIn 16 = .ok (.ireturn, 1) := by decide +kernel
theorem dL_requestJoin_0 : decode cL_requestJoin 0 = .ok (.aload_n 2, 1) := by decide +kernel
theorem dL_requestJoin_1 : decode cL_requestJoin 1 = .ok (.iconst 0, 1) := by decide +kernel
theorem dL_requestJoin_2 : decode cL_requestJoin 2 = .ok (.aload_n 0, 1) := by decide +kernel
theorem dL_requestJoin_3 : decode cL_requestJoin 3 = .ok (.iload_n 1, 1) := by decide +kernel
theorem dL_requestJoin_4 : decode cL_requestJoin 4 = .ok (.invokevirtual 23, 3) := by decide +kernel
theorem dL_requestJoin_7 : decode cL_requestJoin 7 = .ok (.i2l, 1) := by decide +kernel
theorem dL_requestJoin_8 : decode cL_requestJoin 8 = .ok (.lastore, 1) := by decide +kernel
theorem dL_requestJoin_9 : decode cL_requestJoin 9 = .ok (.goto 9, 3) := by decide +kernel
theorem dL_requestJoin_12 : decode cL_requestJoin 12 = .ok (.astore_n 3, 1) := by decide +kernel
theorem dL_requestJoin_13 : decode cL_requestJoin 13 = .ok (.iconst 1, 1) := by decide +kernel
theorem dL_requestJoin_14 : decode cL_requestJoin 14 = .ok (.ireturn, 1) := by decide +kernel
theorem dL_requestJoin_15 : decode cL_requestJoin 15 = .ok (.astore_n 3, 1) := by decide +kernel
theorem dL_requestJoin_16 : decode cL_requestJoin 16 = .ok (.iconst 2, 1) := by decide +kernel
theorem dL_requestJoin_17 : decode cL_requestJoin 17 = .ok (.ireturn, 1) := by decide +kernel
theorem dL_requestJoin_18 : decode cL_requestJoin 18 = .ok (.iconst 0, 1) := by decide +kernel
theorem dL_requestJoin_19 : decode cL_requestJoin 19 = .ok (.ireturn, 1) := by decide +kernel
theorem dL_requestLeave_0 : decode cL_requestLeave 0 = .ok (.aload_n 2, 1) := by decide +kernel
theorem dL_requestLeave_1 : decode cL_requestLeave 1 = .ok (.iconst 0, 1) := by decide +kernel
theorem dL_requestLeave_2 : decode cL_requestLeave 2 = .ok (.aload_n 0, 1) := by decide +kernel
theorem dL_requestLeave_3 : decode cL_requestLeave 3 = .ok (.iload_n 1, 1) := by decide +kernel
theorem dL_requestLeave_4 : decode cL_requestLeave 4 = .ok (.invokevirtual 28, 3) := by decide +kernel
theorem dL_requestLeave_7 : decode cL_requestLeave 7 = .ok (.i2l, 1) := by decide +kernel
theorem dL_requestLeave_8 : decode cL_requestLeave 8 = .ok (.lastore, 1) := by decide +kernel
theorem dL_requestLeave_9 : decode cL_requestLeave 9 = .ok (.goto 9, 3) := by decide +kernel
theorem dL_requestLeave_12 : decode cL_requestLeave 12 = .ok (.astore_n 3, 1) := by decide +kernel
theorem dL_requestLeave_13 : decode cL_requestLeave 13 = .ok (.iconst 1, 1) := by decide +kernel
theorem dL_requestLeave_14 : decode cL_requestLeave 14 = .ok (.ireturn, 1) := by decide +kernel
theorem dL_requestLeave_15 : decode cL_requestLeave 15 = .ok (.astore_n 3, 1) := by decide +kernel
theorem dL_requestLeave_16 : decode cL_requestLeave 16 = .ok (.iconst 2, 1) := by decide +kernel
theorem dL_requestLeave_17 : decode cL_requestLeave 17 = .ok (.ireturn, 1) := by decide +kernel
theorem dL_requestLeave_18 : decode cL_requestLeave 18 = .ok (.iconst 0, 1) := by decide +kernel
theorem dL_requestLeave_19 : decode cL_requestLeave 19 = .ok (.ireturn, 1) := by decide +kernel
theorem dL_install_0 : decode cL_install 0 = .ok (.aload_n 1, 1) := by decide +kernel
theorem dL_install_1 : decode cL_install 1 = .ok (.iconst 0, 1) := by decide +kernel
theorem dL_install_2 : decode cL_install 2 = .ok (.aload_n 0, 1) := by decide +kernel
theorem dL_install_3 : decode cL_install 3 = .ok (.invokevirtual 31, 3) := by decide +kernel
theorem dL_install_6 : decode cL_install 6 = .ok (.i2l, 1) := by decide +kernel
theorem dL_install_7 : decode cL_install 7 = .ok (.lastore, 1) := by decide +kernel
theorem dL_install_8 : decode cL_install 8 = .ok (.goto 6, 3) := by decide +kernel
theorem dL_install_11 : decode cL_install 11 = .ok (.astore_n 2, 1) := by decide +kernel
theorem dL_install_12 : decode cL_install 12 = .ok (.iconst 1, 1) := by decide +kernel
theorem dL_install_13 : decode cL_install 13 = .ok (.ireturn, 1) := by decide +kernel
theorem dL_install_14 : decode cL_install 14 = .ok (.iconst 0, 1) := by decide +kernel
theorem dL_install_15 : decode cL_install 15 = .ok (.ireturn, 1) := by decide +kernel
theorem dL_broadcast_0 : decode cL_broadcast 0 = .ok (.aload_n 3, 1) := by decide +kernel
theorem dL_broadcast_1 : decode cL_broadcast 1 = .ok (.iconst 0, 1) := by decide +kernel
theorem dL_broadcast_2 : decode cL_broadcast 2 = .ok (.aload_n 0, 1) := by decide +kernel
theorem dL_broadcast_3 : decode cL_broadcast 3 = .ok (.iload_n 1, 1) := by decide +kernel
theorem dL_broadcast_4 : decode cL_broadcast 4 = .ok (.iload_n 2, 1) := by decide +kernel
theorem dL_broadcast_5 : decode cL_broadcast 5 = .ok (.invokevirtual 35, 3) := by decide +kernel
theorem dL_broadcast_8 : decode cL_broadcast 8 = .ok (.i2l, 1) := by decide +kernel
theorem dL_broadcast_9 : decode cL_broadcast 9 = .ok (.lastore, 1) := by decide +kernel
theorem dL_broadcast_10 : decode cL_broadcast 10 = .ok (.goto 11, 3) := by decide +kernel
theorem dL_broadcast_13 : decode cL_broadcast 13 = .ok (.astore 4, 2) := by decide +kernel
theorem dL_broadcast_15 : decode cL_broadcast 15 = .ok (.iconst 1, 1) := by decide +kernel
theorem dL_broadcast_16 : decode cL_broadcast 16 = .ok (.ireturn, 1) := by decide +kernel
theorem dL_broadcast_17 : decode cL_broadcast 17 = .ok (.astore 4, 2) := by decide +kernel
theorem dL_broadcast_19 : decode cL_broadcast 19 = .ok (.iconst 2, 1) := by decide +kernel
theorem dL_broadcast_20 : decode cL_broadcast 20 = .ok (.ireturn, 1) := by decide +kernel
theorem dL_broadcast_21 : decode cL_broadcast 21 = .ok (.iconst 0, 1) := by decide +kernel
theorem dL_broadcast_22 : decode cL_broadcast 22 = .ok (.ireturn, 1) := by decide +kernel
theorem dL_arrive_0 : decode cL_arrive 0 = .ok (.aload_n 3, 1) := by decide +kernel
theorem dL_arrive_1 : decode cL_arrive 1 = .ok (.iconst 0, 1) := by decide +kernel
theorem dL_arrive_2 : decode cL_arrive 2 = .ok (.aload_n 0, 1) := by decide +kernel
theorem dL_arrive_3 : decode cL_arrive 3 = .ok (.iload_n 1, 1) := by decide +kernel
theorem dL_arrive_4 : decode cL_arrive 4 = .ok (.iload_n 2, 1) := by decide +kernel
theorem dL_arrive_5 : decode cL_arrive 5 = .ok (.invokevirtual 39, 3) := by decide +kernel
theorem dL_arrive_8 : decode cL_arrive 8 = .ok (.i2l, 1) := by decide +kernel
theorem dL_arrive_9 : decode cL_arrive 9 = .ok (.lastore, 1) := by decide +kernel
theorem dL_arrive_10 : decode cL_arrive 10 = .ok (.goto 11, 3) := by decide +kernel
theorem dL_arrive_13 : decode cL_arrive 13 = .ok (.astore 4, 2) := by decide +kernel
theorem dL_arrive_15 : decode cL_arrive 15 = .ok (.iconst 1, 1) := by decide +kernel
theorem dL_arrive_16 : decode cL_arrive 16 = .ok (.ireturn, 1) := by decide +kernel
theorem dL_arrive_17 : decode cL_arrive 17 = .ok (.astore 4, 2) := by decide +kernel
theorem dL_arrive_19 : decode cL_arrive 19 = .ok (.iconst 2, 1) := by decide +kernel
theorem dL_arrive_20 : decode cL_arrive 20 = .ok (.ireturn, 1) := by decide +kernel
theorem dL_arrive_21 : decode cL_arrive 21 = .ok (.iconst 0, 1) := by decide +kernel
theorem dL_arrive_22 : decode cL_arrive 22 = .ok (.ireturn, 1) := by decide +kernel
theorem dL_arriveAll_0 : decode cL_arriveAll 0 = .ok (.aload_n 2, 1) := by decide +kernel
theorem dL_arriveAll_1 : decode cL_arriveAll 1 = .ok (.iconst 0, 1) := by decide +kernel
theorem dL_arriveAll_2 : decode cL_arriveAll 2 = .ok (.aload_n 0, 1) := by decide +kernel
theorem dL_arriveAll_3 : decode cL_arriveAll 3 = .ok (.iload_n 1, 1) := by decide +kernel
theorem dL_arriveAll_4 : decode cL_arriveAll 4 = .ok (.invokevirtual 42, 3) := by decide +kernel
theorem dL_arriveAll_7 : decode cL_arriveAll 7 = .ok (.i2l, 1) := by decide +kernel
theorem dL_arriveAll_8 : decode cL_arriveAll 8 = .ok (.lastore, 1) := by decide +kernel
theorem dL_arriveAll_9 : decode cL_arriveAll 9 = .ok (.goto 9, 3) := by decide +kernel
theorem dL_arriveAll_12 : decode cL_arriveAll 12 = .ok (.astore_n 3, 1) := by decide +kernel
theorem dL_arriveAll_13 : decode cL_arriveAll 13 = .ok (.iconst 1, 1) := by decide +kernel
theorem dL_arriveAll_14 : decode cL_arriveAll 14 = .ok (.ireturn, 1) := by decide +kernel
theorem dL_arriveAll_15 : decode cL_arriveAll 15 = .ok (.astore_n 3, 1) := by decide +kernel
theorem dL_arriveAll_16 : decode cL_arriveAll 16 = .ok (.iconst 2, 1) := by decide +kernel
theorem dL_arriveAll_17 : decode cL_arriveAll 17 = .ok (.ireturn, 1) := by decide +kernel
theorem dL_arriveAll_18 : decode cL_arriveAll 18 = .ok (.iconst 0, 1) := by decide +kernel
theorem dL_arriveAll_19 : decode cL_arriveAll 19 = .ok (.ireturn, 1) := by decide +kernel
theorem dL_gossip_0 : decode cL_gossip 0 = .ok (.aload_n 3, 1) := by decide +kernel
theorem dL_gossip_1 : decode cL_gossip 1 = .ok (.iconst 0, 1) := by decide +kernel
theorem dL_gossip_2 : decode cL_gossip 2 = .ok (.aload_n 0, 1) := by decide +kernel
theorem dL_gossip_3 : decode cL_gossip 3 = .ok (.iload_n 1, 1) := by decide +kernel
theorem dL_gossip_4 : decode cL_gossip 4 = .ok (.iload_n 2, 1) := by decide +kernel
theorem dL_gossip_5 : decode cL_gossip 5 = .ok (.invokevirtual 45, 3) := by decide +kernel
theorem dL_gossip_8 : decode cL_gossip 8 = .ok (.i2l, 1) := by decide +kernel
theorem dL_gossip_9 : decode cL_gossip 9 = .ok (.lastore, 1) := by decide +kernel
theorem dL_gossip_10 : decode cL_gossip 10 = .ok (.goto 11, 3) := by decide +kernel
theorem dL_gossip_13 : decode cL_gossip 13 = .ok (.astore 4, 2) := by decide +kernel
theorem dL_gossip_15 : decode cL_gossip 15 = .ok (.iconst 1, 1) := by decide +kernel
theorem dL_gossip_16 : decode cL_gossip 16 = .ok (.ireturn, 1) := by decide +kernel
theorem dL_gossip_17 : decode cL_gossip 17 = .ok (.astore 4, 2) := by decide +kernel
theorem dL_gossip_19 : decode cL_gossip 19 = .ok (.iconst 2, 1) := by decide +kernel
theorem dL_gossip_20 : decode cL_gossip 20 = .ok (.ireturn, 1) := by decide +kernel
theorem dL_gossip_21 : decode cL_gossip 21 = .ok (.iconst 0, 1) := by decide +kernel
theorem dL_gossip_22 : decode cL_gossip 22 = .ok (.ireturn, 1) := by decide +kernel
theorem dL_message_0 : decode cL_message 0 = .ok (.aload_n 3, 1) := by decide +kernel
theorem dL_message_1 : decode cL_message 1 = .ok (.iconst 0, 1) := by decide +kernel
theorem dL_message_2 : decode cL_message 2 = .ok (.aload_n 0, 1) := by decide +kernel
theorem dL_message_3 : decode cL_message 3 = .ok (.iload_n 1, 1) := by decide +kernel
theorem dL_message_4 : decode cL_message 4 = .ok (.iload_n 2, 1) := by decide +kernel
theorem dL_message_5 : decode cL_message 5 = .ok (.invokevirtual 48, 3) := by decide +kernel
theorem dL_message_8 : decode cL_message 8 = .ok (.i2l, 1) := by decide +kernel
theorem dL_message_9 : decode cL_message 9 = .ok (.lastore, 1) := by decide +kernel
theorem dL_message_10 : decode cL_message 10 = .ok (.goto 11, 3) := by decide +kernel
theorem dL_message_13 : decode cL_message 13 = .ok (.astore 4, 2) := by decide +kernel
theorem dL_message_15 : decode cL_message 15 = .ok (.iconst 1, 1) := by decide +kernel
theorem dL_message_16 : decode cL_message 16 = .ok (.ireturn, 1) := by decide +kernel
theorem dL_message_17 : decode cL_message 17 = .ok (.astore 4, 2) := by decide +kernel
theorem dL_message_19 : decode cL_message 19 = .ok (.iconst 2, 1) := by decide +kernel
theorem dL_message_20 : decode cL_message 20 = .ok (.ireturn, 1) := by decide +kernel
theorem dL_message_21 : decode cL_message 21 = .ok (.iconst 0, 1) := by decide +kernel
theorem dL_message_22 : decode cL_message 22 = .ok (.ireturn, 1) := by decide +kernel
theorem dL_messageClock_0 : decode cL_messageClock 0 = .ok (.aload_n 3, 1) := by decide +kernel
theorem dL_messageClock_1 : decode cL_messageClock 1 = .ok (.iconst 0, 1) := by decide +kernel
theorem dL_messageClock_2 : decode cL_messageClock 2 = .ok (.aload_n 0, 1) := by decide +kernel
theorem dL_messageClock_3 : decode cL_messageClock 3 = .ok (.iload_n 1, 1) := by decide +kernel
theorem dL_messageClock_4 : decode cL_messageClock 4 = .ok (.iload_n 2, 1) := by decide +kernel
theorem dL_messageClock_5 : decode cL_messageClock 5 = .ok (.invokevirtual 51, 3) := by decide +kernel
theorem dL_messageClock_8 : decode cL_messageClock 8 = .ok (.i2l, 1) := by decide +kernel
theorem dL_messageClock_9 : decode cL_messageClock 9 = .ok (.lastore, 1) := by decide +kernel
theorem dL_messageClock_10 : decode cL_messageClock 10 = .ok (.goto 7, 3) := by decide +kernel
theorem dL_messageClock_13 : decode cL_messageClock 13 = .ok (.astore 4, 2) := by decide +kernel
theorem dL_messageClock_15 : decode cL_messageClock 15 = .ok (.iconst 1, 1) := by decide +kernel
theorem dL_messageClock_16 : decode cL_messageClock 16 = .ok (.ireturn, 1) := by decide +kernel
theorem dL_messageClock_17 : decode cL_messageClock 17 = .ok (.iconst 0, 1) := by decide +kernel
theorem dL_messageClock_18 : decode cL_messageClock 18 = .ok (.ireturn, 1) := by decide +kernel
theorem dL_isCause_0 : decode cL_isCause 0 = .ok (.aload_n 3, 1) := by decide +kernel
theorem dL_isCause_1 : decode cL_isCause 1 = .ok (.iconst 0, 1) := by decide +kernel
theorem dL_isCause_2 : decode cL_isCause 2 = .ok (.aload_n 0, 1) := by decide +kernel
theorem dL_isCause_3 : decode cL_isCause 3 = .ok (.iload_n 1, 1) := by decide +kernel
theorem dL_isCause_4 : decode cL_isCause 4 = .ok (.iload_n 2, 1) := by decide +kernel
theorem dL_isCause_5 : decode cL_isCause 5 = .ok (.invokevirtual 54, 3) := by decide +kernel
theorem dL_isCause_8 : decode cL_isCause 8 = .ok (.ifCond .eq 7, 3) := by decide +kernel
theorem dL_isCause_11 : decode cL_isCause 11 = .ok (.lconst 1, 1) := by decide +kernel
theorem dL_isCause_12 : decode cL_isCause 12 = .ok (.goto 4, 3) := by decide +kernel
theorem dL_isCause_15 : decode cL_isCause 15 = .ok (.lconst 0, 1) := by decide +kernel
theorem dL_isCause_16 : decode cL_isCause 16 = .ok (.lastore, 1) := by decide +kernel
theorem dL_isCause_17 : decode cL_isCause 17 = .ok (.goto 7, 3) := by decide +kernel
theorem dL_isCause_20 : decode cL_isCause 20 = .ok (.astore 4, 2) := by decide +kernel
theorem dL_isCause_22 : decode cL_isCause 22 = .ok (.iconst 1, 1) := by decide +kernel
theorem dL_isCause_23 : decode cL_isCause 23 = .ok (.ireturn, 1) := by decide +kernel
theorem dL_isCause_24 : decode cL_isCause 24 = .ok (.iconst 0, 1) := by decide +kernel
theorem dL_isCause_25 : decode cL_isCause 25 = .ok (.ireturn, 1) := by decide +kernel
theorem dL_causes_0 : decode cL_causes 0 = .ok (.aload_n 2, 1) := by decide +kernel
theorem dL_causes_1 : decode cL_causes 1 = .ok (.iconst 0, 1) := by decide +kernel
theorem dL_causes_2 : decode cL_causes 2 = .ok (.aload_n 0, 1) := by decide +kernel
theorem dL_causes_3 : decode cL_causes 3 = .ok (.iload_n 1, 1) := by decide +kernel
theorem dL_causes_4 : decode cL_causes 4 = .ok (.invokevirtual 58, 3) := by decide +kernel
theorem dL_causes_7 : decode cL_causes 7 = .ok (.i2l, 1) := by decide +kernel
theorem dL_causes_8 : decode cL_causes 8 = .ok (.lastore, 1) := by decide +kernel
theorem dL_causes_9 : decode cL_causes 9 = .ok (.goto 6, 3) := by decide +kernel
theorem dL_causes_12 : decode cL_causes 12 = .ok (.astore_n 3, 1) := by decide +kernel
theorem dL_causes_13 : decode cL_causes 13 = .ok (.iconst 1, 1) := by decide +kernel
theorem dL_causes_14 : decode cL_causes 14 = .ok (.ireturn, 1) := by decide +kernel
theorem dL_causes_15 : decode cL_causes 15 = .ok (.iconst 0, 1) := by decide +kernel
theorem dL_causes_16 : decode cL_causes 16 = .ok (.ireturn, 1) := by decide +kernel
theorem dL_concurrent_0 : decode cL_concurrent 0 = .ok (.aload_n 2, 1) := by decide +kernel
theorem dL_concurrent_1 : decode cL_concurrent 1 = .ok (.iconst 0, 1) := by decide +kernel
theorem dL_concurrent_2 : decode cL_concurrent 2 = .ok (.aload_n 0, 1) := by decide +kernel
theorem dL_concurrent_3 : decode cL_concurrent 3 = .ok (.iload_n 1, 1) := by decide +kernel
theorem dL_concurrent_4 : decode cL_concurrent 4 = .ok (.invokevirtual 61, 3) := by decide +kernel
theorem dL_concurrent_7 : decode cL_concurrent 7 = .ok (.i2l, 1) := by decide +kernel
theorem dL_concurrent_8 : decode cL_concurrent 8 = .ok (.lastore, 1) := by decide +kernel
theorem dL_concurrent_9 : decode cL_concurrent 9 = .ok (.goto 6, 3) := by decide +kernel
theorem dL_concurrent_12 : decode cL_concurrent 12 = .ok (.astore_n 3, 1) := by decide +kernel
theorem dL_concurrent_13 : decode cL_concurrent 13 = .ok (.iconst 1, 1) := by decide +kernel
theorem dL_concurrent_14 : decode cL_concurrent 14 = .ok (.ireturn, 1) := by decide +kernel
theorem dL_concurrent_15 : decode cL_concurrent 15 = .ok (.iconst 0, 1) := by decide +kernel
theorem dL_concurrent_16 : decode cL_concurrent 16 = .ok (.ireturn, 1) := by decide +kernel
theorem dL_longestChain_0 : decode cL_longestChain 0 = .ok (.aload_n 2, 1) := by decide +kernel
theorem dL_longestChain_1 : decode cL_longestChain 1 = .ok (.iconst 0, 1) := by decide +kernel
theorem dL_longestChain_2 : decode cL_longestChain 2 = .ok (.aload_n 0, 1) := by decide +kernel
theorem dL_longestChain_3 : decode cL_longestChain 3 = .ok (.iload_n 1, 1) := by decide +kernel
theorem dL_longestChain_4 : decode cL_longestChain 4 = .ok (.invokevirtual 64, 3) := by decide +kernel
theorem dL_longestChain_7 : decode cL_longestChain 7 = .ok (.i2l, 1) := by decide +kernel
theorem dL_longestChain_8 : decode cL_longestChain 8 = .ok (.lastore, 1) := by decide +kernel
theorem dL_longestChain_9 : decode cL_longestChain 9 = .ok (.goto 6, 3) := by decide +kernel
theorem dL_longestChain_12 : decode cL_longestChain 12 = .ok (.astore_n 3, 1) := by decide +kernel
theorem dL_longestChain_13 : decode cL_longestChain 13 = .ok (.iconst 1, 1) := by decide +kernel
theorem dL_longestChain_14 : decode cL_longestChain 14 = .ok (.ireturn, 1) := by decide +kernel
theorem dL_longestChain_15 : decode cL_longestChain 15 = .ok (.iconst 0, 1) := by decide +kernel
theorem dL_longestChain_16 : decode cL_longestChain 16 = .ok (.ireturn, 1) := by decide +kernel
theorem dL_logLength_0 : decode cL_logLength 0 = .ok (.aload_n 2, 1) := by decide +kernel
theorem dL_logLength_1 : decode cL_logLength 1 = .ok (.iconst 0, 1) := by decide +kernel
theorem dL_logLength_2 : decode cL_logLength 2 = .ok (.aload_n 0, 1) := by decide +kernel
theorem dL_logLength_3 : decode cL_logLength 3 = .ok (.iload_n 1, 1) := by decide +kernel
theorem dL_logLength_4 : decode cL_logLength 4 = .ok (.invokevirtual 67, 3) := by decide +kernel
theorem dL_logLength_7 : decode cL_logLength 7 = .ok (.i2l, 1) := by decide +kernel
theorem dL_logLength_8 : decode cL_logLength 8 = .ok (.lastore, 1) := by decide +kernel
theorem dL_logLength_9 : decode cL_logLength 9 = .ok (.goto 6, 3) := by decide +kernel
theorem dL_logLength_12 : decode cL_logLength 12 = .ok (.astore_n 3, 1) := by decide +kernel
theorem dL_logLength_13 : decode cL_logLength 13 = .ok (.iconst 1, 1) := by decide +kernel
theorem dL_logLength_14 : decode cL_logLength 14 = .ok (.ireturn, 1) := by decide +kernel
theorem dL_logLength_15 : decode cL_logLength 15 = .ok (.iconst 0, 1) := by decide +kernel
theorem dL_logLength_16 : decode cL_logLength 16 = .ok (.ireturn, 1) := by decide +kernel
theorem dL_logged_0 : decode cL_logged 0 = .ok (.aload_n 3, 1) := by decide +kernel
theorem dL_logged_1 : decode cL_logged 1 = .ok (.iconst 0, 1) := by decide +kernel
theorem dL_logged_2 : decode cL_logged 2 = .ok (.aload_n 0, 1) := by decide +kernel
theorem dL_logged_3 : decode cL_logged 3 = .ok (.iload_n 1, 1) := by decide +kernel
theorem dL_logged_4 : decode cL_logged 4 = .ok (.iload_n 2, 1) := by decide +kernel
theorem dL_logged_5 : decode cL_logged 5 = .ok (.invokevirtual 70, 3) := by decide +kernel
theorem dL_logged_8 : decode cL_logged 8 = .ok (.i2l, 1) := by decide +kernel
theorem dL_logged_9 : decode cL_logged 9 = .ok (.lastore, 1) := by decide +kernel
theorem dL_logged_10 : decode cL_logged 10 = .ok (.goto 7, 3) := by decide +kernel
theorem dL_logged_13 : decode cL_logged 13 = .ok (.astore 4, 2) := by decide +kernel
theorem dL_logged_15 : decode cL_logged 15 = .ok (.iconst 1, 1) := by decide +kernel
theorem dL_logged_16 : decode cL_logged 16 = .ok (.ireturn, 1) := by decide +kernel
theorem dL_logged_17 : decode cL_logged 17 = .ok (.iconst 0, 1) := by decide +kernel
theorem dL_logged_18 : decode cL_logged 18 = .ok (.ireturn, 1) := by decide +kernel
theorem dL_position_0 : decode cL_position 0 = .ok (.aload_n 3, 1) := by decide +kernel
theorem dL_position_1 : decode cL_position 1 = .ok (.iconst 0, 1) := by decide +kernel
theorem dL_position_2 : decode cL_position 2 = .ok (.aload_n 0, 1) := by decide +kernel
theorem dL_position_3 : decode cL_position 3 = .ok (.iload_n 1, 1) := by decide +kernel
theorem dL_position_4 : decode cL_position 4 = .ok (.iload_n 2, 1) := by decide +kernel
theorem dL_position_5 : decode cL_position 5 = .ok (.invokevirtual 73, 3) := by decide +kernel
theorem dL_position_8 : decode cL_position 8 = .ok (.i2l, 1) := by decide +kernel
theorem dL_position_9 : decode cL_position 9 = .ok (.lastore, 1) := by decide +kernel
theorem dL_position_10 : decode cL_position 10 = .ok (.goto 11, 3) := by decide +kernel
theorem dL_position_13 : decode cL_position 13 = .ok (.astore 4, 2) := by decide +kernel
theorem dL_position_15 : decode cL_position 15 = .ok (.iconst 1, 1) := by decide +kernel
theorem dL_position_16 : decode cL_position 16 = .ok (.ireturn, 1) := by decide +kernel
theorem dL_position_17 : decode cL_position 17 = .ok (.astore 4, 2) := by decide +kernel
theorem dL_position_19 : decode cL_position 19 = .ok (.iconst 2, 1) := by decide +kernel
theorem dL_position_20 : decode cL_position 20 = .ok (.ireturn, 1) := by decide +kernel
theorem dL_position_21 : decode cL_position 21 = .ok (.iconst 0, 1) := by decide +kernel
theorem dL_position_22 : decode cL_position 22 = .ok (.ireturn, 1) := by decide +kernel
theorem dL_state_0 : decode cL_state 0 = .ok (.aload_n 2, 1) := by decide +kernel
theorem dL_state_1 : decode cL_state 1 = .ok (.iconst 0, 1) := by decide +kernel
theorem dL_state_2 : decode cL_state 2 = .ok (.aload_n 0, 1) := by decide +kernel
theorem dL_state_3 : decode cL_state 3 = .ok (.iload_n 1, 1) := by decide +kernel
theorem dL_state_4 : decode cL_state 4 = .ok (.invokevirtual 78, 3) := by decide +kernel
theorem dL_state_7 : decode cL_state 7 = .ok (.i2l, 1) := by decide +kernel
theorem dL_state_8 : decode cL_state 8 = .ok (.lastore, 1) := by decide +kernel
theorem dL_state_9 : decode cL_state 9 = .ok (.goto 6, 3) := by decide +kernel
theorem dL_state_12 : decode cL_state 12 = .ok (.astore_n 3, 1) := by decide +kernel
theorem dL_state_13 : decode cL_state 13 = .ok (.iconst 1, 1) := by decide +kernel
theorem dL_state_14 : decode cL_state 14 = .ok (.ireturn, 1) := by decide +kernel
theorem dL_state_15 : decode cL_state 15 = .ok (.iconst 0, 1) := by decide +kernel
theorem dL_state_16 : decode cL_state 16 = .ok (.ireturn, 1) := by decide +kernel
theorem dL_clock_0 : decode cL_clock 0 = .ok (.aload_n 3, 1) := by decide +kernel
theorem dL_clock_1 : decode cL_clock 1 = .ok (.iconst 0, 1) := by decide +kernel
theorem dL_clock_2 : decode cL_clock 2 = .ok (.aload_n 0, 1) := by decide +kernel
theorem dL_clock_3 : decode cL_clock 3 = .ok (.iload_n 1, 1) := by decide +kernel
theorem dL_clock_4 : decode cL_clock 4 = .ok (.iload_n 2, 1) := by decide +kernel
theorem dL_clock_5 : decode cL_clock 5 = .ok (.invokevirtual 81, 3) := by decide +kernel
theorem dL_clock_8 : decode cL_clock 8 = .ok (.i2l, 1) := by decide +kernel
theorem dL_clock_9 : decode cL_clock 9 = .ok (.lastore, 1) := by decide +kernel
theorem dL_clock_10 : decode cL_clock 10 = .ok (.goto 11, 3) := by decide +kernel
theorem dL_clock_13 : decode cL_clock 13 = .ok (.astore 4, 2) := by decide +kernel
theorem dL_clock_15 : decode cL_clock 15 = .ok (.iconst 1, 1) := by decide +kernel
theorem dL_clock_16 : decode cL_clock 16 = .ok (.ireturn, 1) := by decide +kernel
theorem dL_clock_17 : decode cL_clock 17 = .ok (.astore 4, 2) := by decide +kernel
theorem dL_clock_19 : decode cL_clock 19 = .ok (.iconst 2, 1) := by decide +kernel
theorem dL_clock_20 : decode cL_clock 20 = .ok (.ireturn, 1) := by decide +kernel
theorem dL_clock_21 : decode cL_clock 21 = .ok (.iconst 0, 1) := by decide +kernel
theorem dL_clock_22 : decode cL_clock 22 = .ok (.ireturn, 1) := by decide +kernel
theorem dL_buffered_0 : decode cL_buffered 0 = .ok (.aload_n 2, 1) := by decide +kernel
theorem dL_buffered_1 : decode cL_buffered 1 = .ok (.iconst 0, 1) := by decide +kernel
theorem dL_buffered_2 : decode cL_buffered 2 = .ok (.aload_n 0, 1) := by decide +kernel
theorem dL_buffered_3 : decode cL_buffered 3 = .ok (.iload_n 1, 1) := by decide +kernel
theorem dL_buffered_4 : decode cL_buffered 4 = .ok (.invokevirtual 84, 3) := by decide +kernel
theorem dL_buffered_7 : decode cL_buffered 7 = .ok (.i2l, 1) := by decide +kernel
theorem dL_buffered_8 : decode cL_buffered 8 = .ok (.lastore, 1) := by decide +kernel
theorem dL_buffered_9 : decode cL_buffered 9 = .ok (.goto 9, 3) := by decide +kernel
theorem dL_buffered_12 : decode cL_buffered 12 = .ok (.astore_n 3, 1) := by decide +kernel
theorem dL_buffered_13 : decode cL_buffered 13 = .ok (.iconst 1, 1) := by decide +kernel
theorem dL_buffered_14 : decode cL_buffered 14 = .ok (.ireturn, 1) := by decide +kernel
theorem dL_buffered_15 : decode cL_buffered 15 = .ok (.astore_n 3, 1) := by decide +kernel
theorem dL_buffered_16 : decode cL_buffered 16 = .ok (.iconst 2, 1) := by decide +kernel
theorem dL_buffered_17 : decode cL_buffered 17 = .ok (.ireturn, 1) := by decide +kernel
theorem dL_buffered_18 : decode cL_buffered 18 = .ok (.iconst 0, 1) := by decide +kernel
theorem dL_buffered_19 : decode cL_buffered 19 = .ok (.ireturn, 1) := by decide +kernel
theorem dL_bufferedMessage_0 : decode cL_bufferedMessage 0 = .ok (.aload_n 3, 1) := by decide +kernel
theorem dL_bufferedMessage_1 : decode cL_bufferedMessage 1 = .ok (.iconst 0, 1) := by decide +kernel
theorem dL_bufferedMessage_2 : decode cL_bufferedMessage 2 = .ok (.aload_n 0, 1) := by decide +kernel
theorem dL_bufferedMessage_3 : decode cL_bufferedMessage 3 = .ok (.iload_n 1, 1) := by decide +kernel
theorem dL_bufferedMessage_4 : decode cL_bufferedMessage 4 = .ok (.iload_n 2, 1) := by decide +kernel
theorem dL_bufferedMessage_5 : decode cL_bufferedMessage 5 = .ok (.invokevirtual 87, 3) := by decide +kernel
theorem dL_bufferedMessage_8 : decode cL_bufferedMessage 8 = .ok (.i2l, 1) := by decide +kernel
theorem dL_bufferedMessage_9 : decode cL_bufferedMessage 9 = .ok (.lastore, 1) := by decide +kernel
theorem dL_bufferedMessage_10 : decode cL_bufferedMessage 10 = .ok (.goto 15, 3) := by decide +kernel
theorem dL_bufferedMessage_13 : decode cL_bufferedMessage 13 = .ok (.astore 4, 2) := by decide +kernel
theorem dL_bufferedMessage_15 : decode cL_bufferedMessage 15 = .ok (.iconst 1, 1) := by decide +kernel
theorem dL_bufferedMessage_16 : decode cL_bufferedMessage 16 = .ok (.ireturn, 1) := by decide +kernel
theorem dL_bufferedMessage_17 : decode cL_bufferedMessage 17 = .ok (.astore 4, 2) := by decide +kernel
theorem dL_bufferedMessage_19 : decode cL_bufferedMessage 19 = .ok (.iconst 2, 1) := by decide +kernel
theorem dL_bufferedMessage_20 : decode cL_bufferedMessage 20 = .ok (.ireturn, 1) := by decide +kernel
theorem dL_bufferedMessage_21 : decode cL_bufferedMessage 21 = .ok (.astore 4, 2) := by decide +kernel
theorem dL_bufferedMessage_23 : decode cL_bufferedMessage 23 = .ok (.iconst 3, 1) := by decide +kernel
theorem dL_bufferedMessage_24 : decode cL_bufferedMessage 24 = .ok (.ireturn, 1) := by decide +kernel
theorem dL_bufferedMessage_25 : decode cL_bufferedMessage 25 = .ok (.iconst 0, 1) := by decide +kernel
theorem dL_bufferedMessage_26 : decode cL_bufferedMessage 26 = .ok (.ireturn, 1) := by decide +kernel
theorem dL_missing_0 : decode cL_missing 0 = .ok (.aload_n 3, 1) := by decide +kernel
theorem dL_missing_1 : decode cL_missing 1 = .ok (.iconst 0, 1) := by decide +kernel
theorem dL_missing_2 : decode cL_missing 2 = .ok (.aload_n 0, 1) := by decide +kernel
theorem dL_missing_3 : decode cL_missing 3 = .ok (.iload_n 1, 1) := by decide +kernel
theorem dL_missing_4 : decode cL_missing 4 = .ok (.iload_n 2, 1) := by decide +kernel
theorem dL_missing_5 : decode cL_missing 5 = .ok (.invokevirtual 90, 3) := by decide +kernel
theorem dL_missing_8 : decode cL_missing 8 = .ok (.i2l, 1) := by decide +kernel
theorem dL_missing_9 : decode cL_missing 9 = .ok (.lastore, 1) := by decide +kernel
theorem dL_missing_10 : decode cL_missing 10 = .ok (.goto 11, 3) := by decide +kernel
theorem dL_missing_13 : decode cL_missing 13 = .ok (.astore 4, 2) := by decide +kernel
theorem dL_missing_15 : decode cL_missing 15 = .ok (.iconst 1, 1) := by decide +kernel
theorem dL_missing_16 : decode cL_missing 16 = .ok (.ireturn, 1) := by decide +kernel
theorem dL_missing_17 : decode cL_missing 17 = .ok (.astore 4, 2) := by decide +kernel
theorem dL_missing_19 : decode cL_missing 19 = .ok (.iconst 2, 1) := by decide +kernel
theorem dL_missing_20 : decode cL_missing 20 = .ok (.ireturn, 1) := by decide +kernel
theorem dL_missing_21 : decode cL_missing 21 = .ok (.iconst 0, 1) := by decide +kernel
theorem dL_missing_22 : decode cL_missing 22 = .ok (.ireturn, 1) := by decide +kernel
theorem dL_inTransit_0 : decode cL_inTransit 0 = .ok (.aload_n 2, 1) := by decide +kernel
theorem dL_inTransit_1 : decode cL_inTransit 1 = .ok (.iconst 0, 1) := by decide +kernel
theorem dL_inTransit_2 : decode cL_inTransit 2 = .ok (.aload_n 0, 1) := by decide +kernel
theorem dL_inTransit_3 : decode cL_inTransit 3 = .ok (.iload_n 1, 1) := by decide +kernel
theorem dL_inTransit_4 : decode cL_inTransit 4 = .ok (.invokevirtual 93, 3) := by decide +kernel
theorem dL_inTransit_7 : decode cL_inTransit 7 = .ok (.i2l, 1) := by decide +kernel
theorem dL_inTransit_8 : decode cL_inTransit 8 = .ok (.lastore, 1) := by decide +kernel
theorem dL_inTransit_9 : decode cL_inTransit 9 = .ok (.goto 9, 3) := by decide +kernel
theorem dL_inTransit_12 : decode cL_inTransit 12 = .ok (.astore_n 3, 1) := by decide +kernel
theorem dL_inTransit_13 : decode cL_inTransit 13 = .ok (.iconst 1, 1) := by decide +kernel
theorem dL_inTransit_14 : decode cL_inTransit 14 = .ok (.ireturn, 1) := by decide +kernel
theorem dL_inTransit_15 : decode cL_inTransit 15 = .ok (.astore_n 3, 1) := by decide +kernel
theorem dL_inTransit_16 : decode cL_inTransit 16 = .ok (.iconst 2, 1) := by decide +kernel
theorem dL_inTransit_17 : decode cL_inTransit 17 = .ok (.ireturn, 1) := by decide +kernel
theorem dL_inTransit_18 : decode cL_inTransit 18 = .ok (.iconst 0, 1) := by decide +kernel
theorem dL_inTransit_19 : decode cL_inTransit 19 = .ok (.ireturn, 1) := by decide +kernel
theorem dL_disagreements_0 : decode cL_disagreements 0 = .ok (.aload_n 3, 1) := by decide +kernel
theorem dL_disagreements_1 : decode cL_disagreements 1 = .ok (.iconst 0, 1) := by decide +kernel
theorem dL_disagreements_2 : decode cL_disagreements 2 = .ok (.aload_n 0, 1) := by decide +kernel
theorem dL_disagreements_3 : decode cL_disagreements 3 = .ok (.iload_n 1, 1) := by decide +kernel
theorem dL_disagreements_4 : decode cL_disagreements 4 = .ok (.iload_n 2, 1) := by decide +kernel
theorem dL_disagreements_5 : decode cL_disagreements 5 = .ok (.invokevirtual 96, 3) := by decide +kernel
theorem dL_disagreements_8 : decode cL_disagreements 8 = .ok (.i2l, 1) := by decide +kernel
theorem dL_disagreements_9 : decode cL_disagreements 9 = .ok (.lastore, 1) := by decide +kernel
theorem dL_disagreements_10 : decode cL_disagreements 10 = .ok (.goto 7, 3) := by decide +kernel
theorem dL_disagreements_13 : decode cL_disagreements 13 = .ok (.astore 4, 2) := by decide +kernel
theorem dL_disagreements_15 : decode cL_disagreements 15 = .ok (.iconst 1, 1) := by decide +kernel
theorem dL_disagreements_16 : decode cL_disagreements 16 = .ok (.ireturn, 1) := by decide +kernel
theorem dL_disagreements_17 : decode cL_disagreements 17 = .ok (.iconst 0, 1) := by decide +kernel
theorem dL_disagreements_18 : decode cL_disagreements 18 = .ok (.ireturn, 1) := by decide +kernel
theorem dL_overlap_0 : decode cL_overlap 0 = .ok (.aload_n 3, 1) := by decide +kernel
theorem dL_overlap_1 : decode cL_overlap 1 = .ok (.iconst 0, 1) := by decide +kernel
theorem dL_overlap_2 : decode cL_overlap 2 = .ok (.aload_n 0, 1) := by decide +kernel
theorem dL_overlap_3 : decode cL_overlap 3 = .ok (.iload_n 1, 1) := by decide +kernel
theorem dL_overlap_4 : decode cL_overlap 4 = .ok (.iload_n 2, 1) := by decide +kernel
theorem dL_overlap_5 : decode cL_overlap 5 = .ok (.invokevirtual 99, 3) := by decide +kernel
theorem dL_overlap_8 : decode cL_overlap 8 = .ok (.dastore, 1) := by decide +kernel
theorem dL_overlap_9 : decode cL_overlap 9 = .ok (.goto 11, 3) := by decide +kernel
theorem dL_overlap_12 : decode cL_overlap 12 = .ok (.astore 4, 2) := by decide +kernel
theorem dL_overlap_14 : decode cL_overlap 14 = .ok (.iconst 1, 1) := by decide +kernel
theorem dL_overlap_15 : decode cL_overlap 15 = .ok (.ireturn, 1) := by decide +kernel
theorem dL_overlap_16 : decode cL_overlap 16 = .ok (.astore 4, 2) := by decide +kernel
theorem dL_overlap_18 : decode cL_overlap 18 = .ok (.iconst 2, 1) := by decide +kernel
theorem dL_overlap_19 : decode cL_overlap 19 = .ok (.ireturn, 1) := by decide +kernel
theorem dL_overlap_20 : decode cL_overlap 20 = .ok (.iconst 0, 1) := by decide +kernel
theorem dL_overlap_21 : decode cL_overlap 21 = .ok (.ireturn, 1) := by decide +kernel
theorem dL_known_0 : decode cL_known 0 = .ok (.aload 4, 2) := by decide +kernel
theorem dL_known_2 : decode cL_known 2 = .ok (.iconst 0, 1) := by decide +kernel
theorem dL_known_3 : decode cL_known 3 = .ok (.aload_n 0, 1) := by decide +kernel
theorem dL_known_4 : decode cL_known 4 = .ok (.iload_n 1, 1) := by decide +kernel
theorem dL_known_5 : decode cL_known 5 = .ok (.iload_n 2, 1) := by decide +kernel
theorem dL_known_6 : decode cL_known 6 = .ok (.iload_n 3, 1) := by decide +kernel
theorem dL_known_7 : decode cL_known 7 = .ok (.invokevirtual 105, 3) := by decide +kernel
theorem dL_known_10 : decode cL_known 10 = .ok (.i2l, 1) := by decide +kernel
theorem dL_known_11 : decode cL_known 11 = .ok (.lastore, 1) := by decide +kernel
theorem dL_known_12 : decode cL_known 12 = .ok (.goto 11, 3) := by decide +kernel
theorem dL_known_15 : decode cL_known 15 = .ok (.astore 5, 2) := by decide +kernel
theorem dL_known_17 : decode cL_known 17 = .ok (.iconst 1, 1) := by decide +kernel
theorem dL_known_18 : decode cL_known 18 = .ok (.ireturn, 1) := by decide +kernel
theorem dL_known_19 : decode cL_known 19 = .ok (.astore 5, 2) := by decide +kernel
theorem dL_known_21 : decode cL_known 21 = .ok (.iconst 2, 1) := by decide +kernel
theorem dL_known_22 : decode cL_known 22 = .ok (.ireturn, 1) := by decide +kernel
theorem dL_known_23 : decode cL_known 23 = .ok (.iconst 0, 1) := by decide +kernel
theorem dL_known_24 : decode cL_known 24 = .ok (.ireturn, 1) := by decide +kernel
theorem dL_isStable_0 : decode cL_isStable 0 = .ok (.aload_n 3, 1) := by decide +kernel
theorem dL_isStable_1 : decode cL_isStable 1 = .ok (.iconst 0, 1) := by decide +kernel
theorem dL_isStable_2 : decode cL_isStable 2 = .ok (.aload_n 0, 1) := by decide +kernel
theorem dL_isStable_3 : decode cL_isStable 3 = .ok (.iload_n 1, 1) := by decide +kernel
theorem dL_isStable_4 : decode cL_isStable 4 = .ok (.iload_n 2, 1) := by decide +kernel
theorem dL_isStable_5 : decode cL_isStable 5 = .ok (.invokevirtual 109, 3) := by decide +kernel
theorem dL_isStable_8 : decode cL_isStable 8 = .ok (.ifCond .eq 7, 3) := by decide +kernel
theorem dL_isStable_11 : decode cL_isStable 11 = .ok (.lconst 1, 1) := by decide +kernel
theorem dL_isStable_12 : decode cL_isStable 12 = .ok (.goto 4, 3) := by decide +kernel
theorem dL_isStable_15 : decode cL_isStable 15 = .ok (.lconst 0, 1) := by decide +kernel
theorem dL_isStable_16 : decode cL_isStable 16 = .ok (.lastore, 1) := by decide +kernel
theorem dL_isStable_17 : decode cL_isStable 17 = .ok (.goto 15, 3) := by decide +kernel
theorem dL_isStable_20 : decode cL_isStable 20 = .ok (.astore 4, 2) := by decide +kernel
theorem dL_isStable_22 : decode cL_isStable 22 = .ok (.iconst 1, 1) := by decide +kernel
theorem dL_isStable_23 : decode cL_isStable 23 = .ok (.ireturn, 1) := by decide +kernel
theorem dL_isStable_24 : decode cL_isStable 24 = .ok (.astore 4, 2) := by decide +kernel
theorem dL_isStable_26 : decode cL_isStable 26 = .ok (.iconst 2, 1) := by decide +kernel
theorem dL_isStable_27 : decode cL_isStable 27 = .ok (.ireturn, 1) := by decide +kernel
theorem dL_isStable_28 : decode cL_isStable 28 = .ok (.astore 4, 2) := by decide +kernel
theorem dL_isStable_30 : decode cL_isStable 30 = .ok (.iconst 3, 1) := by decide +kernel
theorem dL_isStable_31 : decode cL_isStable 31 = .ok (.ireturn, 1) := by decide +kernel
theorem dL_isStable_32 : decode cL_isStable 32 = .ok (.iconst 0, 1) := by decide +kernel
theorem dL_isStable_33 : decode cL_isStable 33 = .ok (.ireturn, 1) := by decide +kernel
theorem dL_unstable_0 : decode cL_unstable 0 = .ok (.aload_n 2, 1) := by decide +kernel
theorem dL_unstable_1 : decode cL_unstable 1 = .ok (.iconst 0, 1) := by decide +kernel
theorem dL_unstable_2 : decode cL_unstable 2 = .ok (.aload_n 0, 1) := by decide +kernel
theorem dL_unstable_3 : decode cL_unstable 3 = .ok (.iload_n 1, 1) := by decide +kernel
theorem dL_unstable_4 : decode cL_unstable 4 = .ok (.invokevirtual 112, 3) := by decide +kernel
theorem dL_unstable_7 : decode cL_unstable 7 = .ok (.i2l, 1) := by decide +kernel
theorem dL_unstable_8 : decode cL_unstable 8 = .ok (.lastore, 1) := by decide +kernel
theorem dL_unstable_9 : decode cL_unstable 9 = .ok (.goto 9, 3) := by decide +kernel
theorem dL_unstable_12 : decode cL_unstable 12 = .ok (.astore_n 3, 1) := by decide +kernel
theorem dL_unstable_13 : decode cL_unstable 13 = .ok (.iconst 1, 1) := by decide +kernel
theorem dL_unstable_14 : decode cL_unstable 14 = .ok (.ireturn, 1) := by decide +kernel
theorem dL_unstable_15 : decode cL_unstable 15 = .ok (.astore_n 3, 1) := by decide +kernel
theorem dL_unstable_16 : decode cL_unstable 16 = .ok (.iconst 2, 1) := by decide +kernel
theorem dL_unstable_17 : decode cL_unstable 17 = .ok (.ireturn, 1) := by decide +kernel
theorem dL_unstable_18 : decode cL_unstable 18 = .ok (.iconst 0, 1) := by decide +kernel
theorem dL_unstable_19 : decode cL_unstable 19 = .ok (.ireturn, 1) := by decide +kernel
theorem dL_isEverywhere_0 : decode cL_isEverywhere 0 = .ok (.aload_n 2, 1) := by decide +kernel
theorem dL_isEverywhere_1 : decode cL_isEverywhere 1 = .ok (.iconst 0, 1) := by decide +kernel
theorem dL_isEverywhere_2 : decode cL_isEverywhere 2 = .ok (.aload_n 0, 1) := by decide +kernel
theorem dL_isEverywhere_3 : decode cL_isEverywhere 3 = .ok (.iload_n 1, 1) := by decide +kernel
theorem dL_isEverywhere_4 : decode cL_isEverywhere 4 = .ok (.invokevirtual 115, 3) := by decide +kernel
theorem dL_isEverywhere_7 : decode cL_isEverywhere 7 = .ok (.ifCond .eq 7, 3) := by decide +kernel
theorem dL_isEverywhere_10 : decode cL_isEverywhere 10 = .ok (.lconst 1, 1) := by decide +kernel
theorem dL_isEverywhere_11 : decode cL_isEverywhere 11 = .ok (.goto 4, 3) := by decide +kernel
theorem dL_isEverywhere_14 : decode cL_isEverywhere 14 = .ok (.lconst 0, 1) := by decide +kernel
theorem dL_isEverywhere_15 : decode cL_isEverywhere 15 = .ok (.lastore, 1) := by decide +kernel
theorem dL_isEverywhere_16 : decode cL_isEverywhere 16 = .ok (.goto 6, 3) := by decide +kernel
theorem dL_isEverywhere_19 : decode cL_isEverywhere 19 = .ok (.astore_n 3, 1) := by decide +kernel
theorem dL_isEverywhere_20 : decode cL_isEverywhere 20 = .ok (.iconst 1, 1) := by decide +kernel
theorem dL_isEverywhere_21 : decode cL_isEverywhere 21 = .ok (.ireturn, 1) := by decide +kernel
theorem dL_isEverywhere_22 : decode cL_isEverywhere 22 = .ok (.iconst 0, 1) := by decide +kernel
theorem dL_isEverywhere_23 : decode cL_isEverywhere 23 = .ok (.ireturn, 1) := by decide +kernel
theorem dL_firstUnaware_0 : decode cL_firstUnaware 0 = .ok (.aload_n 2, 1) := by decide +kernel
theorem dL_firstUnaware_1 : decode cL_firstUnaware 1 = .ok (.iconst 0, 1) := by decide +kernel
theorem dL_firstUnaware_2 : decode cL_firstUnaware 2 = .ok (.aload_n 0, 1) := by decide +kernel
theorem dL_firstUnaware_3 : decode cL_firstUnaware 3 = .ok (.iload_n 1, 1) := by decide +kernel
theorem dL_firstUnaware_4 : decode cL_firstUnaware 4 = .ok (.invokevirtual 119, 3) := by decide +kernel
theorem dL_firstUnaware_7 : decode cL_firstUnaware 7 = .ok (.i2l, 1) := by decide +kernel
theorem dL_firstUnaware_8 : decode cL_firstUnaware 8 = .ok (.lastore, 1) := by decide +kernel
theorem dL_firstUnaware_9 : decode cL_firstUnaware 9 = .ok (.goto 9, 3) := by decide +kernel
theorem dL_firstUnaware_12 : decode cL_firstUnaware 12 = .ok (.astore_n 3, 1) := by decide +kernel
theorem dL_firstUnaware_13 : decode cL_firstUnaware 13 = .ok (.iconst 1, 1) := by decide +kernel
theorem dL_firstUnaware_14 : decode cL_firstUnaware 14 = .ok (.ireturn, 1) := by decide +kernel
theorem dL_firstUnaware_15 : decode cL_firstUnaware 15 = .ok (.astore_n 3, 1) := by decide +kernel
theorem dL_firstUnaware_16 : decode cL_firstUnaware 16 = .ok (.iconst 2, 1) := by decide +kernel
theorem dL_firstUnaware_17 : decode cL_firstUnaware 17 = .ok (.ireturn, 1) := by decide +kernel
theorem dL_firstUnaware_18 : decode cL_firstUnaware 18 = .ok (.iconst 0, 1) := by decide +kernel
theorem dL_firstUnaware_19 : decode cL_firstUnaware 19 = .ok (.ireturn, 1) := by decide +kernel
theorem dL_append_0 : decode cL_append 0 = .ok (.aload_n 2, 1) := by decide +kernel
theorem dL_append_1 : decode cL_append 1 = .ok (.iconst 0, 1) := by decide +kernel
theorem dL_append_2 : decode cL_append 2 = .ok (.aload_n 0, 1) := by decide +kernel
theorem dL_append_3 : decode cL_append 3 = .ok (.iload_n 1, 1) := by decide +kernel
theorem dL_append_4 : decode cL_append 4 = .ok (.invokevirtual 122, 3) := by decide +kernel
theorem dL_append_7 : decode cL_append 7 = .ok (.i2l, 1) := by decide +kernel
theorem dL_append_8 : decode cL_append 8 = .ok (.lastore, 1) := by decide +kernel
theorem dL_append_9 : decode cL_append 9 = .ok (.goto 9, 3) := by decide +kernel
theorem dL_append_12 : decode cL_append 12 = .ok (.astore_n 3, 1) := by decide +kernel
theorem dL_append_13 : decode cL_append 13 = .ok (.iconst 1, 1) := by decide +kernel
theorem dL_append_14 : decode cL_append 14 = .ok (.ireturn, 1) := by decide +kernel
theorem dL_append_15 : decode cL_append 15 = .ok (.astore_n 3, 1) := by decide +kernel
theorem dL_append_16 : decode cL_append 16 = .ok (.iconst 2, 1) := by decide +kernel
theorem dL_append_17 : decode cL_append 17 = .ok (.ireturn, 1) := by decide +kernel
theorem dL_append_18 : decode cL_append 18 = .ok (.iconst 0, 1) := by decide +kernel
theorem dL_append_19 : decode cL_append 19 = .ok (.ireturn, 1) := by decide +kernel
theorem dL_run_0 : decode cL_run 0 = .ok (.aload_n 1, 1) := by decide +kernel
theorem dL_run_1 : decode cL_run 1 = .ok (.iconst 0, 1) := by decide +kernel
theorem dL_run_2 : decode cL_run 2 = .ok (.aload_n 0, 1) := by decide +kernel
theorem dL_run_3 : decode cL_run 3 = .ok (.invokevirtual 126, 3) := by decide +kernel
theorem dL_run_6 : decode cL_run 6 = .ok (.i2l, 1) := by decide +kernel
theorem dL_run_7 : decode cL_run 7 = .ok (.lastore, 1) := by decide +kernel
theorem dL_run_8 : decode cL_run 8 = .ok (.goto 9, 3) := by decide +kernel
theorem dL_run_11 : decode cL_run 11 = .ok (.astore_n 2, 1) := by decide +kernel
theorem dL_run_12 : decode cL_run 12 = .ok (.iconst 1, 1) := by decide +kernel
theorem dL_run_13 : decode cL_run 13 = .ok (.ireturn, 1) := by decide +kernel
theorem dL_run_14 : decode cL_run 14 = .ok (.astore_n 2, 1) := by decide +kernel
theorem dL_run_15 : decode cL_run 15 = .ok (.iconst 2, 1) := by decide +kernel
theorem dL_run_16 : decode cL_run 16 = .ok (.ireturn, 1) := by decide +kernel
theorem dL_run_17 : decode cL_run 17 = .ok (.iconst 0, 1) := by decide +kernel
theorem dL_run_18 : decode cL_run 18 = .ok (.ireturn, 1) := by decide +kernel
theorem dL_errorPosition_0 : decode cL_errorPosition 0 = .ok (.aload_n 1, 1) := by decide +kernel
theorem dL_errorPosition_1 : decode cL_errorPosition 1 = .ok (.iconst 0, 1) := by decide +kernel
theorem dL_errorPosition_2 : decode cL_errorPosition 2 = .ok (.aload_n 0, 1) := by decide +kernel
theorem dL_errorPosition_3 : decode cL_errorPosition 3 = .ok (.invokevirtual 129, 3) := by decide +kernel
theorem dL_errorPosition_6 : decode cL_errorPosition 6 = .ok (.i2l, 1) := by decide +kernel
theorem dL_errorPosition_7 : decode cL_errorPosition 7 = .ok (.lastore, 1) := by decide +kernel
theorem dL_errorPosition_8 : decode cL_errorPosition 8 = .ok (.goto 6, 3) := by decide +kernel
theorem dL_errorPosition_11 : decode cL_errorPosition 11 = .ok (.astore_n 2, 1) := by decide +kernel
theorem dL_errorPosition_12 : decode cL_errorPosition 12 = .ok (.iconst 1, 1) := by decide +kernel
theorem dL_errorPosition_13 : decode cL_errorPosition 13 = .ok (.ireturn, 1) := by decide +kernel
theorem dL_errorPosition_14 : decode cL_errorPosition 14 = .ok (.iconst 0, 1) := by decide +kernel
theorem dL_errorPosition_15 : decode cL_errorPosition 15 = .ok (.ireturn, 1) := by decide +kernel
theorem dL_restoreSnapshot_0 : decode cL_restoreSnapshot 0 = .ok (.aload_n 1, 1) := by decide +kernel
theorem dL_restoreSnapshot_1 : decode cL_restoreSnapshot 1 = .ok (.iconst 0, 1) := by decide +kernel
theorem dL_restoreSnapshot_2 : decode cL_restoreSnapshot 2 = .ok (.aload_n 0, 1) := by decide +kernel
theorem dL_restoreSnapshot_3 : decode cL_restoreSnapshot 3 = .ok (.invokevirtual 132, 3) := by decide +kernel
theorem dL_restoreSnapshot_6 : decode cL_restoreSnapshot 6 = .ok (.i2l, 1) := by decide +kernel
theorem dL_restoreSnapshot_7 : decode cL_restoreSnapshot 7 = .ok (.lastore, 1) := by decide +kernel
theorem dL_restoreSnapshot_8 : decode cL_restoreSnapshot 8 = .ok (.goto 6, 3) := by decide +kernel
theorem dL_restoreSnapshot_11 : decode cL_restoreSnapshot 11 = .ok (.astore_n 2, 1) := by decide +kernel
theorem dL_restoreSnapshot_12 : decode cL_restoreSnapshot 12 = .ok (.iconst 1, 1) := by decide +kernel
theorem dL_restoreSnapshot_13 : decode cL_restoreSnapshot 13 = .ok (.ireturn, 1) := by decide +kernel
theorem dL_restoreSnapshot_14 : decode cL_restoreSnapshot 14 = .ok (.iconst 0, 1) := by decide +kernel
theorem dL_restoreSnapshot_15 : decode cL_restoreSnapshot 15 = .ok (.ireturn, 1) := by decide +kernel
theorem dL_law_0 : decode cL_law 0 = .ok (.new 8, 3) := by decide +kernel
theorem dL_law_3 : decode cL_law 3 = .ok (.dup, 1) := by decide +kernel
theorem dL_law_4 : decode cL_law 4 = .ok (.invokespecial 135, 3) := by decide +kernel
theorem dL_law_7 : decode cL_law 7 = .ok (.astore_n 1, 1) := by decide +kernel
theorem dL_law_8 : decode cL_law 8 = .ok (.new 136, 3) := by decide +kernel
theorem dL_law_11 : decode cL_law 11 = .ok (.dup, 1) := by decide +kernel
theorem dL_law_12 : decode cL_law 12 = .ok (.invokespecial 138, 3) := by decide +kernel
theorem dL_law_15 : decode cL_law 15 = .ok (.astore_n 2, 1) := by decide +kernel
theorem dL_law_16 : decode cL_law 16 = .ok (.iconst 1, 1) := by decide +kernel
theorem dL_law_17 : decode cL_law 17 = .ok (.newarray .long, 2) := by decide +kernel
theorem dL_law_19 : decode cL_law 19 = .ok (.astore_n 3, 1) := by decide +kernel
theorem dL_law_20 : decode cL_law 20 = .ok (.iconst 1, 1) := by decide +kernel
theorem dL_law_21 : decode cL_law 21 = .ok (.newarray .double, 2) := by decide +kernel
theorem dL_law_23 : decode cL_law 23 = .ok (.astore 4, 2) := by decide +kernel
theorem dL_law_25 : decode cL_law 25 = .ok (.iconst 0, 1) := by decide +kernel
theorem dL_law_26 : decode cL_law 26 = .ok (.istore 5, 2) := by decide +kernel
theorem dL_law_28 : decode cL_law 28 = .ok (.iload 5, 2) := by decide +kernel
theorem dL_law_30 : decode cL_law 30 = .ok (.aload_n 0, 1) := by decide +kernel
theorem dL_law_31 : decode cL_law 31 = .ok (.arraylength, 1) := by decide +kernel
theorem dL_law_32 : decode cL_law 32 = .ok (.iconst 4, 1) := by decide +kernel
theorem dL_law_33 : decode cL_law 33 = .ok (.isub, 1) := by decide +kernel
theorem dL_law_34 : decode cL_law 34 = .ok (.if_icmp .gt 2465, 3) := by decide +kernel
theorem dL_law_37 : decode cL_law 37 = .ok (.aload_n 0, 1) := by decide +kernel
theorem dL_law_38 : decode cL_law 38 = .ok (.iload 5, 2) := by decide +kernel
theorem dL_law_40 : decode cL_law 40 = .ok (.iaload, 1) := by decide +kernel
theorem dL_law_41 : decode cL_law 41 = .ok (.bipush 63, 2) := by decide +kernel
theorem dL_law_43 : decode cL_law 43 = .ok (.iand, 1) := by decide +kernel
theorem dL_law_44 : decode cL_law 44 = .ok (.tableswitch 2449 0 40 #[180, 236, 249, 305, 361, 374, 430, 486, 530, 598, 666, 722, 790, 803, 871, 939, 1014, 1070, 1126, 1182, 1195, 1251, 1319, 1387, 1443, 1511, 1567, 1635, 1703, 1759, 1827, 1916, 1996, 2071, 2127, 2190, 2246, 2304, 2348, 2392, 2405], 180) := by decide +kernel
theorem dL_law_224 : decode cL_law 224 = .ok (.aload_n 1, 1) := by decide +kernel
theorem dL_law_225 : decode cL_law 225 = .ok (.aload_n 0, 1) := by decide +kernel
theorem dL_law_226 : decode cL_law 226 = .ok (.iload 5, 2) := by decide +kernel
theorem dL_law_228 : decode cL_law 228 = .ok (.iconst 1, 1) := by decide +kernel
theorem dL_law_229 : decode cL_law 229 = .ok (.iadd, 1) := by decide +kernel
theorem dL_law_230 : decode cL_law 230 = .ok (.iaload, 1) := by decide +kernel
theorem dL_law_231 : decode cL_law 231 = .ok (.aload_n 3, 1) := by decide +kernel
theorem dL_law_232 : decode cL_law 232 = .ok (.invokestatic 139, 3) := by decide +kernel
theorem dL_law_235 : decode cL_law 235 = .ok (.istore 6, 2) := by decide +kernel
theorem dL_law_237 : decode cL_law 237 = .ok (.aload_n 2, 1) := by decide +kernel
theorem dL_law_238 : decode cL_law 238 = .ok (.aload_n 0, 1) := by decide +kernel
theorem dL_law_239 : decode cL_law 239 = .ok (.iload 5, 2) := by decide +kernel
theorem dL_law_241 : decode cL_law 241 = .ok (.iconst 1, 1) := by decide +kernel
theorem dL_law_242 : decode cL_law 242 = .ok (.iadd, 1) := by decide +kernel
theorem dL_law_243 : decode cL_law 243 = .ok (.iaload, 1) := by decide +kernel
theorem dL_law_244 : decode cL_law 244 = .ok (.invokevirtual 144, 3) := by decide +kernel
theorem dL_law_247 : decode cL_law 247 = .ok (.istore 7, 2) := by decide +kernel
theorem dL_law_249 : decode cL_law 249 = .ok (.aload_n 2, 1) := by decide +kernel
theorem dL_law_250 : decode cL_law 250 = .ok (.invokevirtual 145, 3) := by decide +kernel
theorem dL_law_253 : decode cL_law 253 = .ok (.iload 6, 2) := by decide +kernel
theorem dL_law_255 : decode cL_law 255 = .ok (.if_icmp .eq 5, 3) := by decide +kernel
theorem dL_law_258 : decode cL_law 258 = .ok (.iconst 0, 1) := by decide +kernel
theorem dL_law_259 : decode cL_law 259 = .ok (.ireturn, 1) := by decide +kernel
theorem dL_law_260 : decode cL_law 260 = .ok (.iload 6, 2) := by decide +kernel
theorem dL_law_262 : decode cL_law 262 = .ok (.ifCond .ne 15, 3) := by decide +kernel
theorem dL_law_265 : decode cL_law 265 = .ok (.aload_n 3, 1) := by decide +kernel
theorem dL_law_266 : decode cL_law 266 = .ok (.iconst 0, 1) := by decide +kernel
theorem dL_law_267 : decode cL_law 267 = .ok (.laload, 1) := by decide +kernel
theorem dL_law_268 : decode cL_law 268 = .ok (.iload 7, 2) := by decide +kernel
theorem dL_law_270 : decode cL_law 270 = .ok (.i2l, 1) := by decide +kernel
theorem dL_law_271 : decode cL_law 271 = .ok (.lcmp, 1) := by decide +kernel
theorem dL_law_272 : decode cL_law 272 = .ok (.ifCond .eq 5, 3) := by decide +kernel
theorem dL_law_275 : decode cL_law 275 = .ok (.iconst 0, 1) := by decide +kernel
theorem dL_law_276 : decode cL_law 276 = .ok (.ireturn, 1) := by decide +kernel
theorem dL_law_277 : decode cL_law 277 = .ok (.goto 2216, 3) := by decide +kernel
theorem dL_law_280 : decode cL_law 280 = .ok (.aload_n 1, 1) := by decide +kernel
theorem dL_law_281 : decode cL_law 281 = .ok (.invokevirtual 148, 3) := by decide +kernel
theorem dL_law_284 : decode cL_law 284 = .ok (.aload_n 2, 1) := by decide +kernel
theorem dL_law_285 : decode cL_law 285 = .ok (.invokevirtual 151, 3) := by decide +kernel
theorem dL_law_288 : decode cL_law 288 = .ok (.if_icmp .eq 2205, 3) := by decide +kernel
theorem dL_law_291 : decode cL_law 291 = .ok (.iconst 0, 1) := by decide +kernel
theorem dL_law_292 : decode cL_law 292 = .ok (.ireturn, 1) := by decide +kernel
theorem dL_law_293 : decode cL_law 293 = .ok (.aload_n 1, 1) := by decide +kernel
theorem dL_law_294 : decode cL_law 294 = .ok (.aload_n 0, 1) := by decide +kernel
theorem dL_law_295 : decode cL_law 295 = .ok (.iload 5, 2) := by decide +kernel
theorem dL_law_297 : decode cL_law 297 = .ok (.iconst 1, 1) := by decide +kernel
theorem dL_law_298 : decode cL_law 298 = .ok (.iadd, 1) := by decide +kernel
theorem dL_law_299 : decode cL_law 299 = .ok (.iaload, 1) := by decide +kernel
theorem dL_law_300 : decode cL_law 300 = .ok (.aload_n 3, 1) := by decide +kernel
theorem dL_law_301 : decode cL_law 301 = .ok (.invokestatic 152, 3) := by decide +kernel
theorem dL_law_304 : decode cL_law 304 = .ok (.istore 6, 2) := by decide +kernel
theorem dL_law_306 : decode cL_law 306 = .ok (.aload_n 2, 1) := by decide +kernel
theorem dL_law_307 : decode cL_law 307 = .ok (.aload_n 0, 1) := by decide +kernel
theorem dL_law_308 : decode cL_law 308 = .ok (.iload 5, 2) := by decide +kernel
theorem dL_law_310 : decode cL_law 310 = .ok (.iconst 1, 1) := by decide +kernel
theorem dL_law_311 : decode cL_law 311 = .ok (.iadd, 1) := by decide +kernel
theorem dL_law_312 : decode cL_law 312 = .ok (.iaload, 1) := by decide +kernel
theorem dL_law_313 : decode cL_law 313 = .ok (.invokevirtual 154, 3) := by decide +kernel
theorem dL_law_316 : decode cL_law 316 = .ok (.istore 7, 2) := by decide +kernel
theorem dL_law_318 : decode cL_law 318 = .ok (.aload_n 2, 1) := by decide +kernel
theorem dL_law_319 : decode cL_law 319 = .ok (.invokevirtual 145, 3) := by decide +kernel
theorem dL_law_322 : decode cL_law 322 = .ok (.iload 6, 2) := by decide +kernel
theorem dL_law_324 : decode cL_law 324 = .ok (.if_icmp .eq 5, 3) := by decide +kernel
theorem dL_law_327 : decode cL_law 327 = .ok (.iconst 0, 1) := by decide +kernel
theorem dL_law_328 : decode cL_law 328 = .ok (.ireturn, 1) := by decide +kernel
theorem dL_law_329 : decode cL_law 329 = .ok (.iload 6, 2) := by decide +kernel
theorem dL_law_331 : decode cL_law 331 = .ok (.ifCond .ne 15, 3) := by decide +kernel
theorem dL_law_334 : decode cL_law 334 = .ok (.aload_n 3, 1) := by decide +kernel
theorem dL_law_335 : decode cL_law 335 = .ok (.iconst 0, 1) := by decide +kernel
theorem dL_law_336 : decode cL_law 336 = .ok (.laload, 1) := by decide +kernel
theorem dL_law_337 : decode cL_law 337 = .ok (.iload 7, 2) := by decide +kernel
theorem dL_law_339 : decode cL_law 339 = .ok (.i2l, 1) := by decide +kernel
theorem dL_law_340 : decode cL_law 340 = .ok (.lcmp, 1) := by decide +kernel
theorem dL_law_341 : decode cL_law 341 = .ok (.ifCond .eq 5, 3) := by decide +kernel
theorem dL_law_344 : decode cL_law 344 = .ok (.iconst 0, 1) := by decide +kernel
theorem dL_law_345 : decode cL_law 345 = .ok (.ireturn, 1) := by decide +kernel
theorem dL_law_346 : decode cL_law 346 = .ok (.goto 2147, 3) := by decide +kernel
theorem dL_law_349 : decode cL_law 349 = .ok (.aload_n 1, 1) := by decide +kernel
theorem dL_law_350 : decode cL_law 350 = .ok (.aload_n 0, 1) := by decide +kernel
theorem dL_law_351 : decode cL_law 351 = .ok (.iload 5, 2) := by decide +kernel
theorem dL_law_353 : decode cL_law 353 = .ok (.iconst 1, 1) := by decide +kernel
theorem dL_law_354 : decode cL_law 354 = .ok (.iadd, 1) := by decide +kernel
theorem dL_law_355 : decode cL_law 355 = .ok (.iaload, 1) := by decide +kernel
theorem dL_law_356 : decode cL_law 356 = .ok (.aload_n 3, 1) := by decide +kernel
theorem dL_law_357 : decode cL_law 357 = .ok (.invokestatic 155, 3) := by decide +kernel
theorem dL_law_360 : decode cL_law 360 = .ok (.istore 6, 2) := by decide +kernel
theorem dL_law_362 : decode cL_law 362 = .ok (.aload_n 2, 1) := by decide +kernel
theorem dL_law_363 : decode cL_law 363 = .ok (.aload_n 0, 1) := by decide +kernel
theorem dL_law_364 : decode cL_law 364 = .ok (.iload 5, 2) := by decide +kernel
theorem dL_law_366 : decode cL_law 366 = .ok (.iconst 1, 1) := by decide +kernel
theorem dL_law_367 : decode cL_law 367 = .ok (.iadd, 1) := by decide +kernel
theorem dL_law_368 : decode cL_law 368 = .ok (.iaload, 1) := by decide +kernel
theorem dL_law_369 : decode cL_law 369 = .ok (.invokevirtual 157, 3) := by decide +kernel
theorem dL_law_372 : decode cL_law 372 = .ok (.istore 7, 2) := by decide +kernel
theorem dL_law_374 : decode cL_law 374 = .ok (.aload_n 2, 1) := by decide +kernel
theorem dL_law_375 : decode cL_law 375 = .ok (.invokevirtual 145, 3) := by decide +kernel
theorem dL_law_378 : decode cL_law 378 = .ok (.iload 6, 2) := by decide +kernel
theorem dL_law_380 : decode cL_law 380 = .ok (.if_icmp .eq 5, 3) := by decide +kernel
theorem dL_law_383 : decode cL_law 383 = .ok (.iconst 0, 1) := by decide +kernel
theorem dL_law_384 : decode cL_law 384 = .ok (.ireturn, 1) := by decide +kernel
theorem dL_law_385 : decode cL_law 385 = .ok (.iload 6, 2) := by decide +kernel
theorem dL_law_387 : decode cL_law 387 = .ok (.ifCond .ne 15, 3) := by decide +kernel
theorem dL_law_390 : decode cL_law 390 = .ok (.aload_n 3, 1) := by decide +kernel
theorem dL_law_391 : decode cL_law 391 = .ok (.iconst 0, 1) := by decide +kernel
theorem dL_law_392 : decode cL_law 392 = .ok (.laload, 1) := by decide +kernel
theorem dL_law_393 : decode cL_law 393 = .ok (.iload 7, 2) := by decide +kernel
theorem dL_law_395 : decode cL_law 395 = .ok (.i2l, 1) := by decide +kernel
theorem dL_law_396 : decode cL_law 396 = .ok (.lcmp, 1) := by decide +kernel
theorem dL_law_397 : decode cL_law 397 = .ok (.ifCond .eq 5, 3) := by decide +kernel
theorem dL_law_400 : decode cL_law 400 = .ok (.iconst 0, 1) := by decide +kernel
theorem dL_law_401 : decode cL_law 401 = .ok (.ireturn, 1) := by decide +kernel
theorem dL_law_402 : decode cL_law 402 = .ok (.goto 2091, 3) := by decide +kernel
theorem dL_law_405 : decode cL_law 405 = .ok (.aload_n 1, 1) := by decide +kernel
theorem dL_law_406 : decode cL_law 406 = .ok (.invokevirtual 158, 3) := by decide +kernel
theorem dL_law_409 : decode cL_law 409 = .ok (.aload_n 2, 1) := by decide +kernel
theorem dL_law_410 : decode cL_law 410 = .ok (.invokevirtual 161, 3) := by decide +kernel
theorem dL_law_413 : decode cL_law 413 = .ok (.if_icmp .eq 2080, 3) := by decide +kernel
theorem dL_law_416 : decode cL_law 416 = .ok (.iconst 0, 1) := by decide +kernel
theorem dL_law_417 : decode cL_law 417 = .ok (.ireturn, 1) := by decide +kernel
theorem dL_law_418 : decode cL_law 418 = .ok (.aload_n 1, 1) := by decide +kernel
theorem dL_law_419 : decode cL_law 419 = .ok (.aload_n 0, 1) := by decide +kernel
theorem dL_law_420 : decode cL_law 420 = .ok (.iload 5, 2) := by decide +kernel
theorem dL_law_422 : decode cL_law 422 = .ok (.iconst 1, 1) := by decide +kernel
theorem dL_law_423 : decode cL_law 423 = .ok (.iadd, 1) := by decide +kernel
theorem dL_law_424 : decode cL_law 424 = .ok (.iaload, 1) := by decide +kernel
theorem dL_law_425 : decode cL_law 425 = .ok (.aload_n 3, 1) := by decide +kernel
theorem dL_law_426 : decode cL_law 426 = .ok (.invokestatic 162, 3) := by decide +kernel
theorem dL_law_429 : decode cL_law 429 = .ok (.istore 6, 2) := by decide +kernel
theorem dL_law_431 : decode cL_law 431 = .ok (.aload_n 2, 1) := by decide +kernel
theorem dL_law_432 : decode cL_law 432 = .ok (.aload_n 0, 1) := by decide +kernel
theorem dL_law_433 : decode cL_law 433 = .ok (.iload 5, 2) := by decide +kernel
theorem dL_law_435 : decode cL_law 435 = .ok (.iconst 1, 1) := by decide +kernel
theorem dL_law_436 : decode cL_law 436 = .ok (.iadd, 1) := by decide +kernel
theorem dL_law_437 : decode cL_law 437 = .ok (.iaload, 1) := by decide +kernel
theorem dL_law_438 : decode cL_law 438 = .ok (.invokevirtual 164, 3) := by decide +kernel
theorem dL_law_441 : decode cL_law 441 = .ok (.istore 7, 2) := by decide +kernel
theorem dL_law_443 : decode cL_law 443 = .ok (.aload_n 2, 1) := by decide +kernel
theorem dL_law_444 : decode cL_law 444 = .ok (.invokevirtual 145, 3) := by decide +kernel
theorem dL_law_447 : decode cL_law 447 = .ok (.iload 6, 2) := by decide +kernel
theorem dL_law_449 : decode cL_law 449 = .ok (.if_icmp .eq 5, 3) := by decide +kernel
theorem dL_law_452 : decode cL_law 452 = .ok (.iconst 0, 1) := by decide +kernel
theorem dL_law_453 : decode cL_law 453 = .ok (.ireturn, 1) := by decide +kernel
theorem dL_law_454 : decode cL_law 454 = .ok (.iload 6, 2) := by decide +kernel
theorem dL_law_456 : decode cL_law 456 = .ok (.ifCond .ne 15, 3) := by decide +kernel
theorem dL_law_459 : decode cL_law 459 = .ok (.aload_n 3, 1) := by decide +kernel
theorem dL_law_460 : decode cL_law 460 = .ok (.iconst 0, 1) := by decide +kernel
theorem dL_law_461 : decode cL_law 461 = .ok (.laload, 1) := by decide +kernel
theorem dL_law_462 : decode cL_law 462 = .ok (.iload 7, 2) := by decide +kernel
theorem dL_law_464 : decode cL_law 464 = .ok (.i2l, 1) := by decide +kernel
theorem dL_law_465 : decode cL_law 465 = .ok (.lcmp, 1) := by decide +kernel
theorem dL_law_466 : decode cL_law 466 = .ok (.ifCond .eq 5, 3) := by decide +kernel
theorem dL_law_469 : decode cL_law 469 = .ok (.iconst 0, 1) := by decide +kernel
theorem dL_law_470 : decode cL_law 470 = .ok (.ireturn, 1) := by decide +kernel
theorem dL_law_471 : decode cL_law 471 = .ok (.goto 2022, 3) := by decide +kernel
theorem dL_law_474 : decode cL_law 474 = .ok (.aload_n 1, 1) := by decide +kernel
theorem dL_law_475 : decode cL_law 475 = .ok (.aload_n 0, 1) := by decide +kernel
theorem dL_law_476 : decode cL_law 476 = .ok (.iload 5, 2) := by decide +kernel
theorem dL_law_478 : decode cL_law 478 = .ok (.iconst 1, 1) := by decide +kernel
theorem dL_law_479 : decode cL_law 479 = .ok (.iadd, 1) := by decide +kernel
theorem dL_law_480 : decode cL_law 480 = .ok (.iaload, 1) := by decide +kernel
theorem dL_law_481 : decode cL_law 481 = .ok (.aload_n 3, 1) := by decide +kernel
theorem dL_law_482 : decode cL_law 482 = .ok (.invokestatic 165, 3) := by decide +kernel
theorem dL_law_485 : decode cL_law 485 = .ok (.istore 6, 2) := by decide +kernel
theorem dL_law_487 : decode cL_law 487 = .ok (.aload_n 2, 1) := by decide +kernel
theorem dL_law_488 : decode cL_law 488 = .ok (.aload_n 0, 1) := by decide +kernel
theorem dL_law_489 : decode cL_law 489 = .ok (.iload 5, 2) := by decide +kernel
theorem dL_law_491 : decode cL_law 491 = .ok (.iconst 1, 1) := by decide +kernel
theorem dL_law_492 : decode cL_law 492 = .ok (.iadd, 1) := by decide +kernel
theorem dL_law_493 : decode cL_law 493 = .ok (.iaload, 1) := by decide +kernel
theorem dL_law_494 : decode cL_law 494 = .ok (.invokevirtual 167, 3) := by decide +kernel
theorem dL_law_497 : decode cL_law 497 = .ok (.istore 7, 2) := by decide +kernel
theorem dL_law_499 : decode cL_law 499 = .ok (.aload_n 2, 1) := by decide +kernel
theorem dL_law_500 : decode cL_law 500 = .ok (.invokevirtual 145, 3) := by decide +kernel
theorem dL_law_503 : decode cL_law 503 = .ok (.iload 6, 2) := by decide +kernel
theorem dL_law_505 : decode cL_law 505 = .ok (.if_icmp .eq 5, 3) := by decide +kernel
theorem dL_law_508 : decode cL_law 508 = .ok (.iconst 0, 1) := by decide +kernel
theorem dL_law_509 : decode cL_law 509 = .ok (.ireturn, 1) := by decide +kernel
theorem dL_law_510 : decode cL_law 510 = .ok (.iload 6, 2) := by decide +kernel
theorem dL_law_512 : decode cL_law 512 = .ok (.ifCond .ne 15, 3) := by decide +kernel
theorem dL_law_515 : decode cL_law 515 = .ok (.aload_n 3, 1) := by decide +kernel
theorem dL_law_516 : decode cL_law 516 = .ok (.iconst 0, 1) := by decide +kernel
theorem dL_law_517 : decode cL_law 517 = .ok (.laload, 1) := by decide +kernel
theorem dL_law_518 : decode cL_law 518 = .ok (.iload 7, 2) := by decide +kernel
theorem dL_law_520 : decode cL_law 520 = .ok (.i2l, 1) := by decide +kernel
theorem dL_law_521 : decode cL_law 521 = .ok (.lcmp, 1) := by decide +kernel
theorem dL_law_522 : decode cL_law 522 = .ok (.ifCond .eq 5, 3) := by decide +kernel
theorem dL_law_525 : decode cL_law 525 = .ok (.iconst 0, 1) := by decide +kernel
theorem dL_law_526 : decode cL_law 526 = .ok (.ireturn, 1) := by decide +kernel
theorem dL_law_527 : decode cL_law 527 = .ok (.goto 1966, 3) := by decide +kernel
theorem dL_law_530 : decode cL_law 530 = .ok (.aload_n 1, 1) := by decide +kernel
theorem dL_law_531 : decode cL_law 531 = .ok (.aload_n 3, 1) := by decide +kernel
theorem dL_law_532 : decode cL_law 532 = .ok (.invokestatic 168, 3) := by decide +kernel
theorem dL_law_535 : decode cL_law 535 = .ok (.istore 6, 2) := by decide +kernel
theorem dL_law_537 : decode cL_law 537 = .ok (.aload_n 2, 1) := by decide +kernel
theorem dL_law_538 : decode cL_law 538 = .ok (.invokevirtual 171, 3) := by decide +kernel
theorem dL_law_541 : decode cL_law 541 = .ok (.istore 7, 2) := by decide +kernel
theorem dL_law_543 : decode cL_law 543 = .ok (.aload_n 2, 1) := by decide +kernel
theorem dL_law_544 : decode cL_law 544 = .ok (.invokevirtual 145, 3) := by decide +kernel
theorem dL_law_547 : decode cL_law 547 = .ok (.iload 6, 2) := by decide +kernel
theorem dL_law_549 : decode cL_law 549 = .ok (.if_icmp .eq 5, 3) := by decide +kernel
theorem dL_law_552 : decode cL_law 552 = .ok (.iconst 0, 1) := by decide +kernel
theorem dL_law_553 : decode cL_law 553 = .ok (.ireturn, 1) := by decide +kernel
theorem dL_law_554 : decode cL_law 554 = .ok (.iload 6, 2) := by decide +kernel
theorem dL_law_556 : decode cL_law 556 = .ok (.ifCond .ne 15, 3) := by decide +kernel
theorem dL_law_559 : decode cL_law 559 = .ok (.aload_n 3, 1) := by decide +kernel
theorem dL_law_560 : decode cL_law 560 = .ok (.iconst 0, 1) := by decide +kernel
theorem dL_law_561 : decode cL_law 561 = .ok (.laload, 1) := by decide +kernel
theorem dL_law_562 : decode cL_law 562 = .ok (.iload 7, 2) := by decide +kernel
theorem dL_law_564 : decode cL_law 564 = .ok (.i2l, 1) := by decide +kernel
theorem dL_law_565 : decode cL_law 565 = .ok (.lcmp, 1) := by decide +kernel
theorem dL_law_566 : decode cL_law 566 = .ok (.ifCond .eq 5, 3) := by decide +kernel
theorem dL_law_569 : decode cL_law 569 = .ok (.iconst 0, 1) := by decide +kernel
theorem dL_law_570 : decode cL_law 570 = .ok (.ireturn, 1) := by decide +kernel
theorem dL_law_571 : decode cL_law 571 = .ok (.goto 1922, 3) := by decide +kernel
theorem dL_law_574 : decode cL_law 574 = .ok (.aload_n 1, 1) := by decide +kernel
theorem dL_law_575 : decode cL_law 575 = .ok (.aload_n 0, 1) := by decide +kernel
theorem dL_law_576 : decode cL_law 576 = .ok (.iload 5, 2) := by decide +kernel
theorem dL_law_578 : decode cL_law 578 = .ok (.iconst 1, 1) := by decide +kernel
theorem dL_law_579 : decode cL_law 579 = .ok (.iadd, 1) := by decide +kernel
theorem dL_law_580 : decode cL_law 580 = .ok (.iaload, 1) := by decide +kernel
theorem dL_law_581 : decode cL_law 581 = .ok (.aload_n 0, 1) := by decide +kernel
theorem dL_law_582 : decode cL_law 582 = .ok (.iload 5, 2) := by decide +kernel
theorem dL_law_584 : decode cL_law 584 = .ok (.iconst 2, 1) := by decide +kernel
theorem dL_law_585 : decode cL_law 585 = .ok (.iadd, 1) := by decide +kernel
theorem dL_law_586 : decode cL_law 586 = .ok (.iaload, 1) := by decide +kernel
theorem dL_law_587 : decode cL_law 587 = .ok (.aload_n 3, 1) := by decide +kernel
theorem dL_law_588 : decode cL_law 588 = .ok (.invokestatic 172, 3) := by decide +kernel
theorem dL_law_591 : decode cL_law 591 = .ok (.istore 6, 2) := by decide +kernel
theorem dL_law_593 : decode cL_law 593 = .ok (.aload_n 2, 1) := by decide +kernel
theorem dL_law_594 : decode cL_law 594 = .ok (.aload_n 0, 1) := by decide +kernel
theorem dL_law_595 : decode cL_law 595 = .ok (.iload 5, 2) := by decide +kernel
theorem dL_law_597 : decode cL_law 597 = .ok (.iconst 1, 1) := by decide +kernel
theorem dL_law_598 : decode cL_law 598 = .ok (.iadd, 1) := by decide +kernel
theorem dL_law_599 : decode cL_law 599 = .ok (.iaload, 1) := by decide +kernel
theorem dL_law_600 : decode cL_law 600 = .ok (.aload_n 0, 1) := by decide +kernel
theorem dL_law_601 : decode cL_law 601 = .ok (.iload 5, 2) := by decide +kernel
theorem dL_law_603 : decode cL_law 603 = .ok (.iconst 2, 1) := by decide +kernel
theorem dL_law_604 : decode cL_law 604 = .ok (.iadd, 1) := by decide +kernel
theorem dL_law_605 : decode cL_law 605 = .ok (.iaload, 1) := by decide +kernel
theorem dL_law_606 : decode cL_law 606 = .ok (.invokevirtual 175, 3) := by decide +kernel
theorem dL_law_609 : decode cL_law 609 = .ok (.istore 7, 2) := by decide +kernel
theorem dL_law_611 : decode cL_law 611 = .ok (.aload_n 2, 1) := by decide +kernel
theorem dL_law_612 : decode cL_law 612 = .ok (.invokevirtual 145, 3) := by decide +kernel
theorem dL_law_615 : decode cL_law 615 = .ok (.iload 6, 2) := by decide +kernel
theorem dL_law_617 : decode cL_law 617 = .ok (.if_icmp .eq 5, 3) := by decide +kernel
theorem dL_law_620 : decode cL_law 620 = .ok (.iconst 0, 1) := by decide +kernel
theorem dL_law_621 : decode cL_law 621 = .ok (.ireturn, 1) := by decide +kernel
theorem dL_law_622 : decode cL_law 622 = .ok (.iload 6, 2) := by decide +kernel
theorem dL_law_624 : decode cL_law 624 = .ok (.ifCond .ne 15, 3) := by decide +kernel
theorem dL_law_627 : decode cL_law 627 = .ok (.aload_n 3, 1) := by decide +kernel
theorem dL_law_628 : decode cL_law 628 = .ok (.iconst 0, 1) := by decide +kernel
theorem dL_law_629 : decode cL_law 629 = .ok (.laload, 1) := by decide +kernel
theorem dL_law_630 : decode cL_law 630 = .ok (.iload 7, 2) := by decide +kernel
theorem dL_law_632 : decode cL_law 632 = .ok (.i2l, 1) := by decide +kernel
theorem dL_law_633 : decode cL_law 633 = .ok (.lcmp, 1) := by decide +kernel
theorem dL_law_634 : decode cL_law 634 = .ok (.ifCond .eq 5, 3) := by decide +kernel
theorem dL_law_637 : decode cL_law 637 = .ok (.iconst 0, 1) := by decide +kernel
theorem dL_law_638 : decode cL_law 638 = .ok (.ireturn, 1) := by decide +kernel
theorem dL_law_639 : decode cL_law 639 = .ok (.goto 1854, 3) := by decide +kernel
theorem dL_law_642 : decode cL_law 642 = .ok (.aload_n 1, 1) := by decide +kernel
theorem dL_law_643 : decode cL_law 643 = .ok (.aload_n 0, 1) := by decide +kernel
theorem dL_law_644 : decode cL_law 644 = .ok (.iload 5, 2) := by decide +kernel
theorem dL_law_646 : decode cL_law 646 = .ok (.iconst 1, 1) := by decide +kernel
theorem dL_law_647 : decode cL_law 647 = .ok (.iadd, 1) := by decide +kernel
theorem dL_law_648 : decode cL_law 648 = .ok (.iaload, 1) := by decide +kernel
theorem dL_law_649 : decode cL_law 649 = .ok (.aload_n 0, 1) := by decide +kernel
theorem dL_law_650 : decode cL_law 650 = .ok (.iload 5, 2) := by decide +kernel
theorem dL_law_652 : decode cL_law 652 = .ok (.iconst 2, 1) := by decide +kernel
theorem dL_law_653 : decode cL_law 653 = .ok (.iadd, 1) := by decide +kernel
theorem dL_law_654 : decode cL_law 654 = .ok (.iaload, 1) := by decide +kernel
theorem dL_law_655 : decode cL_law 655 = .ok (.aload_n 3, 1) := by decide +kernel
theorem dL_law_656 : decode cL_law 656 = .ok (.invokestatic 176, 3) := by decide +kernel
theorem dL_law_659 : decode cL_law 659 = .ok (.istore 6, 2) := by decide +kernel
theorem dL_law_661 : decode cL_law 661 = .ok (.aload_n 2, 1) := by decide +kernel
theorem dL_law_662 : decode cL_law 662 = .ok (.aload_n 0, 1) := by decide +kernel
theorem dL_law_663 : decode cL_law 663 = .ok (.iload 5, 2) := by decide +kernel
theorem dL_law_665 : decode cL_law 665 = .ok (.iconst 1, 1) := by decide +kernel
theorem dL_law_666 : decode cL_law 666 = .ok (.iadd, 1) := by decide +kernel
theorem dL_law_667 : decode cL_law 667 = .ok (.iaload, 1) := by decide +kernel
theorem dL_law_668 : decode cL_law 668 = .ok (.aload_n 0, 1) := by decide +kernel
theorem dL_law_669 : decode cL_law 669 = .ok (.iload 5, 2) := by decide +kernel
theorem dL_law_671 : decode cL_law 671 = .ok (.iconst 2, 1) := by decide +kernel
theorem dL_law_672 : decode cL_law 672 = .ok (.iadd, 1) := by decide +kernel
theorem dL_law_673 : decode cL_law 673 = .ok (.iaload, 1) := by decide +kernel
theorem dL_law_674 : decode cL_law 674 = .ok (.invokevirtual 178, 3) := by decide +kernel
theorem dL_law_677 : decode cL_law 677 = .ok (.istore 7, 2) := by decide +kernel
theorem dL_law_679 : decode cL_law 679 = .ok (.aload_n 2, 1) := by decide +kernel
theorem dL_law_680 : decode cL_law 680 = .ok (.invokevirtual 145, 3) := by decide +kernel
theorem dL_law_683 : decode cL_law 683 = .ok (.iload 6, 2) := by decide +kernel
theorem dL_law_685 : decode cL_law 685 = .ok (.if_icmp .eq 5, 3) := by decide +kernel
theorem dL_law_688 : decode cL_law 688 = .ok (.iconst 0, 1) := by decide +kernel
theorem dL_law_689 : decode cL_law 689 = .ok (.ireturn, 1) := by decide +kernel
theorem dL_law_690 : decode cL_law 690 = .ok (.iload 6, 2) := by decide +kernel
theorem dL_law_692 : decode cL_law 692 = .ok (.ifCond .ne 15, 3) := by decide +kernel
theorem dL_law_695 : decode cL_law 695 = .ok (.aload_n 3, 1) := by decide +kernel
theorem dL_law_696 : decode cL_law 696 = .ok (.iconst 0, 1) := by decide +kernel
theorem dL_law_697 : decode cL_law 697 = .ok (.laload, 1) := by decide +kernel
theorem dL_law_698 : decode cL_law 698 = .ok (.iload 7, 2) := by decide +kernel
theorem dL_law_700 : decode cL_law 700 = .ok (.i2l, 1) := by decide +kernel
theorem dL_law_701 : decode cL_law 701 = .ok (.lcmp, 1) := by decide +kernel
theorem dL_law_702 : decode cL_law 702 = .ok (.ifCond .eq 5, 3) := by decide +kernel
theorem dL_law_705 : decode cL_law 705 = .ok (.iconst 0, 1) := by decide +kernel
theorem dL_law_706 : decode cL_law 706 = .ok (.ireturn, 1) := by decide +kernel
theorem dL_law_707 : decode cL_law 707 = .ok (.goto 1786, 3) := by decide +kernel
theorem dL_law_710 : decode cL_law 710 = .ok (.aload_n 1, 1) := by decide +kernel
theorem dL_law_711 : decode cL_law 711 = .ok (.aload_n 0, 1) := by decide +kernel
theorem dL_law_712 : decode cL_law 712 = .ok (.iload 5, 2) := by decide +kernel
theorem dL_law_714 : decode cL_law 714 = .ok (.iconst 1, 1) := by decide +kernel
theorem dL_law_715 : decode cL_law 715 = .ok (.iadd, 1) := by decide +kernel
theorem dL_law_716 : decode cL_law 716 = .ok (.iaload, 1) := by decide +kernel
theorem dL_law_717 : decode cL_law 717 = .ok (.aload_n 3, 1) := by decide +kernel
theorem dL_law_718 : decode cL_law 718 = .ok (.invokestatic 179, 3) := by decide +kernel
theorem dL_law_721 : decode cL_law 721 = .ok (.istore 6, 2) := by decide +kernel
theorem dL_law_723 : decode cL_law 723 = .ok (.aload_n 2, 1) := by decide +kernel
theorem dL_law_724 : decode cL_law 724 = .ok (.aload_n 0, 1) := by decide +kernel
theorem dL_law_725 : decode cL_law 725 = .ok (.iload 5, 2) := by decide +kernel
theorem dL_law_727 : decode cL_law 727 = .ok (.iconst 1, 1) := by decide +kernel
theorem dL_law_728 : decode cL_law 728 = .ok (.iadd, 1) := by decide +kernel
theorem dL_law_729 : decode cL_law 729 = .ok (.iaload, 1) := by decide +kernel
theorem dL_law_730 : decode cL_law 730 = .ok (.invokevirtual 181, 3) := by decide +kernel
theorem dL_law_733 : decode cL_law 733 = .ok (.istore 7, 2) := by decide +kernel
theorem dL_law_735 : decode cL_law 735 = .ok (.aload_n 2, 1) := by decide +kernel
theorem dL_law_736 : decode cL_law 736 = .ok (.invokevirtual 145, 3) := by decide +kernel
theorem dL_law_739 : decode cL_law 739 = .ok (.iload 6, 2) := by decide +kernel
theorem dL_law_741 : decode cL_law 741 = .ok (.if_icmp .eq 5, 3) := by decide +kernel
theorem dL_law_744 : decode cL_law 744 = .ok (.iconst 0, 1) := by decide +kernel
theorem dL_law_745 : decode cL_law 745 = .ok (.ireturn, 1) := by decide +kernel
theorem dL_law_746 : decode cL_law 746 = .ok (.iload 6, 2) := by decide +kernel
theorem dL_law_748 : decode cL_law 748 = .ok (.ifCond .ne 15, 3) := by decide +kernel
theorem dL_law_751 : decode cL_law 751 = .ok (.aload_n 3, 1) := by decide +kernel
theorem dL_law_752 : decode cL_law 752 = .ok (.iconst 0, 1) := by decide +kernel
theorem dL_law_753 : decode cL_law 753 = .ok (.laload, 1) := by decide +kernel
theorem dL_law_754 : decode cL_law 754 = .ok (.iload 7, 2) := by decide +kernel
theorem dL_law_756 : decode cL_law 756 = .ok (.i2l, 1) := by decide +kernel
theorem dL_law_757 : decode cL_law 757 = .ok (.lcmp, 1) := by decide +kernel
theorem dL_law_758 : decode cL_law 758 = .ok (.ifCond .eq 5, 3) := by decide +kernel
theorem dL_law_761 : decode cL_law 761 = .ok (.iconst 0, 1) := by decide +kernel
theorem dL_law_762 : decode cL_law 762 = .ok (.ireturn, 1) := by decide +kernel
theorem dL_law_763 : decode cL_law 763 = .ok (.goto 1730, 3) := by decide +kernel
theorem dL_law_766 : decode cL_law 766 = .ok (.aload_n 1, 1) := by decide +kernel
theorem dL_law_767 : decode cL_law 767 = .ok (.aload_n 0, 1) := by decide +kernel
theorem dL_law_768 : decode cL_law 768 = .ok (.iload 5, 2) := by decide +kernel
theorem dL_law_770 : decode cL_law 770 = .ok (.iconst 1, 1) := by decide +kernel
theorem dL_law_771 : decode cL_law 771 = .ok (.iadd, 1) := by decide +kernel
theorem dL_law_772 : decode cL_law 772 = .ok (.iaload, 1) := by decide +kernel
theorem dL_law_773 : decode cL_law 773 = .ok (.aload_n 0, 1) := by decide +kernel
theorem dL_law_774 : decode cL_law 774 = .ok (.iload 5, 2) := by decide +kernel
theorem dL_law_776 : decode cL_law 776 = .ok (.iconst 2, 1) := by decide +kernel
theorem dL_law_777 : decode cL_law 777 = .ok (.iadd, 1) := by decide +kernel
theorem dL_law_778 : decode cL_law 778 = .ok (.iaload, 1) := by decide +kernel
theorem dL_law_779 : decode cL_law 779 = .ok (.aload_n 3, 1) := by decide +kernel
theorem dL_law_780 : decode cL_law 780 = .ok (.invokestatic 182, 3) := by decide +kernel
theorem dL_law_783 : decode cL_law 783 = .ok (.istore 6, 2) := by decide +kernel
theorem dL_law_785 : decode cL_law 785 = .ok (.aload_n 2, 1) := by decide +kernel
theorem dL_law_786 : decode cL_law 786 = .ok (.aload_n 0, 1) := by decide +kernel
theorem dL_law_787 : decode cL_law 787 = .ok (.iload 5, 2) := by decide +kernel
theorem dL_law_789 : decode cL_law 789 = .ok (.iconst 1, 1) := by decide +kernel
theorem dL_law_790 : decode cL_law 790 = .ok (.iadd, 1) := by decide +kernel
theorem dL_law_791 : decode cL_law 791 = .ok (.iaload, 1) := by decide +kernel
theorem dL_law_792 : decode cL_law 792 = .ok (.aload_n 0, 1) := by decide +kernel
theorem dL_law_793 : decode cL_law 793 = .ok (.iload 5, 2) := by decide +kernel
theorem dL_law_795 : decode cL_law 795 = .ok (.iconst 2, 1) := by decide +kernel
theorem dL_law_796 : decode cL_law 796 = .ok (.iadd, 1) := by decide +kernel
theorem dL_law_797 : decode cL_law 797 = .ok (.iaload, 1) := by decide +kernel
theorem dL_law_798 : decode cL_law 798 = .ok (.invokevirtual 184, 3) := by decide +kernel
theorem dL_law_801 : decode cL_law 801 = .ok (.istore 7, 2) := by decide +kernel
theorem dL_law_803 : decode cL_law 803 = .ok (.aload_n 2, 1) := by decide +kernel
theorem dL_law_804 : decode cL_law 804 = .ok (.invokevirtual 145, 3) := by decide +kernel
theorem dL_law_807 : decode cL_law 807 = .ok (.iload 6, 2) := by decide +kernel
theorem dL_law_809 : decode cL_law 809 = .ok (.if_icmp .eq 5, 3) := by decide +kernel
theorem dL_law_812 : decode cL_law 812 = .ok (.iconst 0, 1) := by decide +kernel
theorem dL_law_813 : decode cL_law 813 = .ok (.ireturn, 1) := by decide +kernel
theorem dL_law_814 : decode cL_law 814 = .ok (.iload 6, 2) := by decide +kernel
theorem dL_law_816 : decode cL_law 816 = .ok (.ifCond .ne 15, 3) := by decide +kernel
theorem dL_law_819 : decode cL_law 819 = .ok (.aload_n 3, 1) := by decide +kernel
theorem dL_law_820 : decode cL_law 820 = .ok (.iconst 0, 1) := by decide +kernel
theorem dL_law_821 : decode cL_law 821 = .ok (.laload, 1) := by decide +kernel
theorem dL_law_822 : decode cL_law 822 = .ok (.iload 7, 2) := by decide +kernel
theorem dL_law_824 : decode cL_law 824 = .ok (.i2l, 1) := by decide +kernel
theorem dL_law_825 : decode cL_law 825 = .ok (.lcmp, 1) := by decide +kernel
theorem dL_law_826 : decode cL_law 826 = .ok (.ifCond .eq 5, 3) := by decide +kernel
theorem dL_law_829 : decode cL_law 829 = .ok (.iconst 0, 1) := by decide +kernel
theorem dL_law_830 : decode cL_law 830 = .ok (.ireturn, 1) := by decide +kernel
theorem dL_law_831 : decode cL_law 831 = .ok (.goto 1662, 3) := by decide +kernel
theorem dL_law_834 : decode cL_law 834 = .ok (.aload_n 1, 1) := by decide +kernel
theorem dL_law_835 : decode cL_law 835 = .ok (.invokevirtual 185, 3) := by decide +kernel
theorem dL_law_838 : decode cL_law 838 = .ok (.aload_n 2, 1) := by decide +kernel
theorem dL_law_839 : decode cL_law 839 = .ok (.invokevirtual 188, 3) := by decide +kernel
theorem dL_law_842 : decode cL_law 842 = .ok (.if_icmp .eq 1651, 3) := by decide +kernel
theorem dL_law_845 : decode cL_law 845 = .ok (.iconst 0, 1) := by decide +kernel
theorem dL_law_846 : decode cL_law 846 = .ok (.ireturn, 1) := by decide +kernel
theorem dL_law_847 : decode cL_law 847 = .ok (.aload_n 1, 1) := by decide +kernel
theorem dL_law_848 : decode cL_law 848 = .ok (.aload_n 0, 1) := by decide +kernel
theorem dL_law_849 : decode cL_law 849 = .ok (.iload 5, 2) := by decide +kernel
theorem dL_law_851 : decode cL_law 851 = .ok (.iconst 1, 1) := by decide +kernel
theorem dL_law_852 : decode cL_law 852 = .ok (.iadd, 1) := by decide +kernel
theorem dL_law_853 : decode cL_law 853 = .ok (.iaload, 1) := by decide +kernel
theorem dL_law_854 : decode cL_law 854 = .ok (.aload_n 0, 1) := by decide +kernel
theorem dL_law_855 : decode cL_law 855 = .ok (.iload 5, 2) := by decide +kernel
theorem dL_law_857 : decode cL_law 857 = .ok (.iconst 2, 1) := by decide +kernel
theorem dL_law_858 : decode cL_law 858 = .ok (.iadd, 1) := by decide +kernel
theorem dL_law_859 : decode cL_law 859 = .ok (.iaload, 1) := by decide +kernel
theorem dL_law_860 : decode cL_law 860 = .ok (.aload_n 3, 1) := by decide +kernel
theorem dL_law_861 : decode cL_law 861 = .ok (.invokestatic 189, 3) := by decide +kernel
theorem dL_law_864 : decode cL_law 864 = .ok (.istore 6, 2) := by decide +kernel
theorem dL_law_866 : decode cL_law 866 = .ok (.aload_n 2, 1) := by decide +kernel
theorem dL_law_867 : decode cL_law 867 = .ok (.aload_n 0, 1) := by decide +kernel
theorem dL_law_868 : decode cL_law 868 = .ok (.iload 5, 2) := by decide +kernel
theorem dL_law_870 : decode cL_law 870 = .ok (.iconst 1, 1) := by decide +kernel
theorem dL_law_871 : decode cL_law 871 = .ok (.iadd, 1) := by decide +kernel
theorem dL_law_872 : decode cL_law 872 = .ok (.iaload, 1) := by decide +kernel
theorem dL_law_873 : decode cL_law 873 = .ok (.aload_n 0, 1) := by decide +kernel
theorem dL_law_874 : decode cL_law 874 = .ok (.iload 5, 2) := by decide +kernel
theorem dL_law_876 : decode cL_law 876 = .ok (.iconst 2, 1) := by decide +kernel
theorem dL_law_877 : decode cL_law 877 = .ok (.iadd, 1) := by decide +kernel
theorem dL_law_878 : decode cL_law 878 = .ok (.iaload, 1) := by decide +kernel
theorem dL_law_879 : decode cL_law 879 = .ok (.invokevirtual 191, 3) := by decide +kernel
theorem dL_law_882 : decode cL_law 882 = .ok (.istore 7, 2) := by decide +kernel
theorem dL_law_884 : decode cL_law 884 = .ok (.aload_n 2, 1) := by decide +kernel
theorem dL_law_885 : decode cL_law 885 = .ok (.invokevirtual 145, 3) := by decide +kernel
theorem dL_law_888 : decode cL_law 888 = .ok (.iload 6, 2) := by decide +kernel
theorem dL_law_890 : decode cL_law 890 = .ok (.if_icmp .eq 5, 3) := by decide +kernel
theorem dL_law_893 : decode cL_law 893 = .ok (.iconst 0, 1) := by decide +kernel
theorem dL_law_894 : decode cL_law 894 = .ok (.ireturn, 1) := by decide +kernel
theorem dL_law_895 : decode cL_law 895 = .ok (.iload 6, 2) := by decide +kernel
theorem dL_law_897 : decode cL_law 897 = .ok (.ifCond .ne 15, 3) := by decide +kernel
theorem dL_law_900 : decode cL_law 900 = .ok (.aload_n 3, 1) := by decide +kernel
theorem dL_law_901 : decode cL_law 901 = .ok (.iconst 0, 1) := by decide +kernel
theorem dL_law_902 : decode cL_law 902 = .ok (.laload, 1) := by decide +kernel
theorem dL_law_903 : decode cL_law 903 = .ok (.iload 7, 2) := by decide +kernel
theorem dL_law_905 : decode cL_law 905 = .ok (.i2l, 1) := by decide +kernel
theorem dL_law_906 : decode cL_law 906 = .ok (.lcmp, 1) := by decide +kernel
theorem dL_law_907 : decode cL_law 907 = .ok (.ifCond .eq 5, 3) := by decide +kernel
theorem dL_law_910 : decode cL_law 910 = .ok (.iconst 0, 1) := by decide +kernel
theorem dL_law_911 : decode cL_law 911 = .ok (.ireturn, 1) := by decide +kernel
theorem dL_law_912 : decode cL_law 912 = .ok (.goto 1581, 3) := by decide +kernel
theorem dL_law_915 : decode cL_law 915 = .ok (.aload_n 1, 1) := by decide +kernel
theorem dL_law_916 : decode cL_law 916 = .ok (.aload_n 0, 1) := by decide +kernel
theorem dL_law_917 : decode cL_law 917 = .ok (.iload 5, 2) := by decide +kernel
theorem dL_law_919 : decode cL_law 919 = .ok (.iconst 1, 1) := by decide +kernel
theorem dL_law_920 : decode cL_law 920 = .ok (.iadd, 1) := by decide +kernel
theorem dL_law_921 : decode cL_law 921 = .ok (.iaload, 1) := by decide +kernel
theorem dL_law_922 : decode cL_law 922 = .ok (.aload_n 0, 1) := by decide +kernel
theorem dL_law_923 : decode cL_law 923 = .ok (.iload 5, 2) := by decide +kernel
theorem dL_law_925 : decode cL_law 925 = .ok (.iconst 2, 1) := by decide +kernel
theorem dL_law_926 : decode cL_law 926 = .ok (.iadd, 1) := by decide +kernel
theorem dL_law_927 : decode cL_law 927 = .ok (.iaload, 1) := by decide +kernel
theorem dL_law_928 : decode cL_law 928 = .ok (.aload_n 3, 1) := by decide +kernel
theorem dL_law_929 : decode cL_law 929 = .ok (.invokestatic 192, 3) := by decide +kernel
theorem dL_law_932 : decode cL_law 932 = .ok (.istore 6, 2) := by decide +kernel
theorem dL_law_934 : decode cL_law 934 = .ok (.aload_n 2, 1) := by decide +kernel
theorem dL_law_935 : decode cL_law 935 = .ok (.aload_n 0, 1) := by decide +kernel
theorem dL_law_936 : decode cL_law 936 = .ok (.iload 5, 2) := by decide +kernel
theorem dL_law_938 : decode cL_law 938 = .ok (.iconst 1, 1) := by decide +kernel
theorem dL_law_939 : decode cL_law 939 = .ok (.iadd, 1) := by decide +kernel
theorem dL_law_940 : decode cL_law 940 = .ok (.iaload, 1) := by decide +kernel
theorem dL_law_941 : decode cL_law 941 = .ok (.aload_n 0, 1) := by decide +kernel
theorem dL_law_942 : decode cL_law 942 = .ok (.iload 5, 2) := by decide +kernel
theorem dL_law_944 : decode cL_law 944 = .ok (.iconst 2, 1) := by decide +kernel
theorem dL_law_945 : decode cL_law 945 = .ok (.iadd, 1) := by decide +kernel
theorem dL_law_946 : decode cL_law 946 = .ok (.iaload, 1) := by decide +kernel
theorem dL_law_947 : decode cL_law 947 = .ok (.invokevirtual 194, 3) := by decide +kernel
theorem dL_law_950 : decode cL_law 950 = .ok (.istore 7, 2) := by decide +kernel
theorem dL_law_952 : decode cL_law 952 = .ok (.aload_n 2, 1) := by decide +kernel
theorem dL_law_953 : decode cL_law 953 = .ok (.invokevirtual 145, 3) := by decide +kernel
theorem dL_law_956 : decode cL_law 956 = .ok (.iload 6, 2) := by decide +kernel
theorem dL_law_958 : decode cL_law 958 = .ok (.if_icmp .eq 5, 3) := by decide +kernel
theorem dL_law_961 : decode cL_law 961 = .ok (.iconst 0, 1) := by decide +kernel
theorem dL_law_962 : decode cL_law 962 = .ok (.ireturn, 1) := by decide +kernel
theorem dL_law_963 : decode cL_law 963 = .ok (.iload 6, 2) := by decide +kernel
theorem dL_law_965 : decode cL_law 965 = .ok (.ifCond .ne 15, 3) := by decide +kernel
theorem dL_law_968 : decode cL_law 968 = .ok (.aload_n 3, 1) := by decide +kernel
theorem dL_law_969 : decode cL_law 969 = .ok (.iconst 0, 1) := by decide +kernel
theorem dL_law_970 : decode cL_law 970 = .ok (.laload, 1) := by decide +kernel
theorem dL_law_971 : decode cL_law 971 = .ok (.iload 7, 2) := by decide +kernel
theorem dL_law_973 : decode cL_law 973 = .ok (.i2l, 1) := by decide +kernel
theorem dL_law_974 : decode cL_law 974 = .ok (.lcmp, 1) := by decide +kernel
theorem dL_law_975 : decode cL_law 975 = .ok (.ifCond .eq 5, 3) := by decide +kernel
theorem dL_law_978 : decode cL_law 978 = .ok (.iconst 0, 1) := by decide +kernel
theorem dL_law_979 : decode cL_law 979 = .ok (.ireturn, 1) := by decide +kernel
theorem dL_law_980 : decode cL_law 980 = .ok (.goto 1513, 3) := by decide +kernel
theorem dL_law_983 : decode cL_law 983 = .ok (.aload_n 1, 1) := by decide +kernel
theorem dL_law_984 : decode cL_law 984 = .ok (.aload_n 0, 1) := by decide +kernel
theorem dL_law_985 : decode cL_law 985 = .ok (.iload 5, 2) := by decide +kernel
theorem dL_law_987 : decode cL_law 987 = .ok (.iconst 1, 1) := by decide +kernel
theorem dL_law_988 : decode cL_law 988 = .ok (.iadd, 1) := by decide +kernel
theorem dL_law_989 : decode cL_law 989 = .ok (.iaload, 1) := by decide +kernel
theorem dL_law_990 : decode cL_law 990 = .ok (.aload_n 0, 1) := by decide +kernel
theorem dL_law_991 : decode cL_law 991 = .ok (.iload 5, 2) := by decide +kernel
theorem dL_law_993 : decode cL_law 993 = .ok (.iconst 2, 1) := by decide +kernel
theorem dL_law_994 : decode cL_law 994 = .ok (.iadd, 1) := by decide +kernel
theorem dL_law_995 : decode cL_law 995 = .ok (.iaload, 1) := by decide +kernel
theorem dL_law_996 : decode cL_law 996 = .ok (.aload_n 3, 1) := by decide +kernel
theorem dL_law_997 : decode cL_law 997 = .ok (.invokestatic 195, 3) := by decide +kernel
theorem dL_law_1000 : decode cL_law 1000 = .ok (.istore 6, 2) := by decide +kernel
theorem dL_law_1002 : decode cL_law 1002 = .ok (.aload_n 2, 1) := by decide +kernel
theorem dL_law_1003 : decode cL_law 1003 = .ok (.aload_n 0, 1) := by decide +kernel
theorem dL_law_1004 : decode cL_law 1004 = .ok (.iload 5, 2) := by decide +kernel
theorem dL_law_1006 : decode cL_law 1006 = .ok (.iconst 1, 1) := by decide +kernel
theorem dL_law_1007 : decode cL_law 1007 = .ok (.iadd, 1) := by decide +kernel
theorem dL_law_1008 : decode cL_law 1008 = .ok (.iaload, 1) := by decide +kernel
theorem dL_law_1009 : decode cL_law 1009 = .ok (.aload_n 0, 1) := by decide +kernel
theorem dL_law_1010 : decode cL_law 1010 = .ok (.iload 5, 2) := by decide +kernel
theorem dL_law_1012 : decode cL_law 1012 = .ok (.iconst 2, 1) := by decide +kernel
theorem dL_law_1013 : decode cL_law 1013 = .ok (.iadd, 1) := by decide +kernel
theorem dL_law_1014 : decode cL_law 1014 = .ok (.iaload, 1) := by decide +kernel
theorem dL_law_1015 : decode cL_law 1015 = .ok (.invokevirtual 197, 3) := by decide +kernel
theorem dL_law_1018 : decode cL_law 1018 = .ok (.istore 7, 2) := by decide +kernel
theorem dL_law_1020 : decode cL_law 1020 = .ok (.aload_n 2, 1) := by decide +kernel
theorem dL_law_1021 : decode cL_law 1021 = .ok (.invokevirtual 145, 3) := by decide +kernel
theorem dL_law_1024 : decode cL_law 1024 = .ok (.iload 6, 2) := by decide +kernel
theorem dL_law_1026 : decode cL_law 1026 = .ok (.if_icmp .eq 5, 3) := by decide +kernel
theorem dL_law_1029 : decode cL_law 1029 = .ok (.iconst 0, 1) := by decide +kernel
theorem dL_law_1030 : decode cL_law 1030 = .ok (.ireturn, 1) := by decide +kernel
theorem dL_law_1031 : decode cL_law 1031 = .ok (.iload 6, 2) := by decide +kernel
theorem dL_law_1033 : decode cL_law 1033 = .ok (.ifCond .ne 22, 3) := by decide +kernel
theorem dL_law_1036 : decode cL_law 1036 = .ok (.aload_n 3, 1) := by decide +kernel
theorem dL_law_1037 : decode cL_law 1037 = .ok (.iconst 0, 1) := by decide +kernel
theorem dL_law_1038 : decode cL_law 1038 = .ok (.laload, 1) := by decide +kernel
theorem dL_law_1039 : decode cL_law 1039 = .ok (.iload 7, 2) := by decide +kernel
theorem dL_law_1041 : decode cL_law 1041 = .ok (.ifCond .eq 7, 3) := by decide +kernel
theorem dL_law_1044 : decode cL_law 1044 = .ok (.lconst 1, 1) := by decide +kernel
theorem dL_law_1045 : decode cL_law 1045 = .ok (.goto 4, 3) := by decide +kernel
theorem dL_law_1048 : decode cL_law 1048 = .ok (.lconst 0, 1) := by decide +kernel
theorem dL_law_1049 : decode cL_law 1049 = .ok (.lcmp, 1) := by decide +kernel
theorem dL_law_1050 : decode cL_law 1050 = .ok (.ifCond .eq 5, 3) := by decide +kernel
theorem dL_law_1053 : decode cL_law 1053 = .ok (.iconst 0, 1) := by decide +kernel
theorem dL_law_1054 : decode cL_law 1054 = .ok (.ireturn, 1) := by decide +kernel
theorem dL_law_1055 : decode cL_law 1055 = .ok (.goto 1438, 3) := by decide +kernel
theorem dL_law_1058 : decode cL_law 1058 = .ok (.aload_n 1, 1) := by decide +kernel
theorem dL_law_1059 : decode cL_law 1059 = .ok (.aload_n 0, 1) := by decide +kernel
theorem dL_law_1060 : decode cL_law 1060 = .ok (.iload 5, 2) := by decide +kernel
theorem dL_law_1062 : decode cL_law 1062 = .ok (.iconst 1, 1) := by decide +kernel
theorem dL_law_1063 : decode cL_law 1063 = .ok (.iadd, 1) := by decide +kernel
theorem dL_law_1064 : decode cL_law 1064 = .ok (.iaload, 1) := by decide +kernel
theorem dL_law_1065 : decode cL_law 1065 = .ok (.aload_n 3, 1) := by decide +kernel
theorem dL_law_1066 : decode cL_law 1066 = .ok (.invokestatic 198, 3) := by decide +kernel
theorem dL_law_1069 : decode cL_law 1069 = .ok (.istore 6, 2) := by decide +kernel
theorem dL_law_1071 : decode cL_law 1071 = .ok (.aload_n 2, 1) := by decide +kernel
theorem dL_law_1072 : decode cL_law 1072 = .ok (.aload_n 0, 1) := by decide +kernel
theorem dL_law_1073 : decode cL_law 1073 = .ok (.iload 5, 2) := by decide +kernel
theorem dL_law_1075 : decode cL_law 1075 = .ok (.iconst 1, 1) := by decide +kernel
theorem dL_law_1076 : decode cL_law 1076 = .ok (.iadd, 1) := by decide +kernel
theorem dL_law_1077 : decode cL_law 1077 = .ok (.iaload, 1) := by decide +kernel
theorem dL_law_1078 : decode cL_law 1078 = .ok (.invokevirtual 200, 3) := by decide +kernel
theorem dL_law_1081 : decode cL_law 1081 = .ok (.istore 7, 2) := by decide +kernel
theorem dL_law_1083 : decode cL_law 1083 = .ok (.aload_n 2, 1) := by decide +kernel
theorem dL_law_1084 : decode cL_law 1084 = .ok (.invokevirtual 145, 3) := by decide +kernel
theorem dL_law_1087 : decode cL_law 1087 = .ok (.iload 6, 2) := by decide +kernel
theorem dL_law_1089 : decode cL_law 1089 = .ok (.if_icmp .eq 5, 3) := by decide +kernel
theorem dL_law_1092 : decode cL_law 1092 = .ok (.iconst 0, 1) := by decide +kernel
theorem dL_law_1093 : decode cL_law 1093 = .ok (.ireturn, 1) := by decide +kernel
theorem dL_law_1094 : decode cL_law 1094 = .ok (.iload 6, 2) := by decide +kernel
theorem dL_law_1096 : decode cL_law 1096 = .ok (.ifCond .ne 15, 3) := by decide +kernel
theorem dL_law_1099 : decode cL_law 1099 = .ok (.aload_n 3, 1) := by decide +kernel
theorem dL_law_1100 : decode cL_law 1100 = .ok (.iconst 0, 1) := by decide +kernel
theorem dL_law_1101 : decode cL_law 1101 = .ok (.laload, 1) := by decide +kernel
theorem dL_law_1102 : decode cL_law 1102 = .ok (.iload 7, 2) := by decide +kernel
theorem dL_law_1104 : decode cL_law 1104 = .ok (.i2l, 1) := by decide +kernel
theorem dL_law_1105 : decode cL_law 1105 = .ok (.lcmp, 1) := by decide +kernel
theorem dL_law_1106 : decode cL_law 1106 = .ok (.ifCond .eq 5, 3) := by decide +kernel
theorem dL_law_1109 : decode cL_law 1109 = .ok (.iconst 0, 1) := by decide +kernel
theorem dL_law_1110 : decode cL_law 1110 = .ok (.ireturn, 1) := by decide +kernel
theorem dL_law_1111 : decode cL_law 1111 = .ok (.goto 1382, 3) := by decide +kernel
theorem dL_law_1114 : decode cL_law 1114 = .ok (.aload_n 1, 1) := by decide +kernel
theorem dL_law_1115 : decode cL_law 1115 = .ok (.aload_n 0, 1) := by decide +kernel
theorem dL_law_1116 : decode cL_law 1116 = .ok (.iload 5, 2) := by decide +kernel
theorem dL_law_1118 : decode cL_law 1118 = .ok (.iconst 1, 1) := by decide +kernel
theorem dL_law_1119 : decode cL_law 1119 = .ok (.iadd, 1) := by decide +kernel
theorem dL_law_1120 : decode cL_law 1120 = .ok (.iaload, 1) := by decide +kernel
theorem dL_law_1121 : decode cL_law 1121 = .ok (.aload_n 3, 1) := by decide +kernel
theorem dL_law_1122 : decode cL_law 1122 = .ok (.invokestatic 201, 3) := by decide +kernel
theorem dL_law_1125 : decode cL_law 1125 = .ok (.istore 6, 2) := by decide +kernel
theorem dL_law_1127 : decode cL_law 1127 = .ok (.aload_n 2, 1) := by decide +kernel
theorem dL_law_1128 : decode cL_law 1128 = .ok (.aload_n 0, 1) := by decide +kernel
theorem dL_law_1129 : decode cL_law 1129 = .ok (.iload 5, 2) := by decide +kernel
theorem dL_law_1131 : decode cL_law 1131 = .ok (.iconst 1, 1) := by decide +kernel
theorem dL_law_1132 : decode cL_law 1132 = .ok (.iadd, 1) := by decide +kernel
theorem dL_law_1133 : decode cL_law 1133 = .ok (.iaload, 1) := by decide +kernel
theorem dL_law_1134 : decode cL_law 1134 = .ok (.invokevirtual 203, 3) := by decide +kernel
theorem dL_law_1137 : decode cL_law 1137 = .ok (.istore 7, 2) := by decide +kernel
theorem dL_law_1139 : decode cL_law 1139 = .ok (.aload_n 2, 1) := by decide +kernel
theorem dL_law_1140 : decode cL_law 1140 = .ok (.invokevirtual 145, 3) := by decide +kernel
theorem dL_law_1143 : decode cL_law 1143 = .ok (.iload 6, 2) := by decide +kernel
theorem dL_law_1145 : decode cL_law 1145 = .ok (.if_icmp .eq 5, 3) := by decide +kernel
theorem dL_law_1148 : decode cL_law 1148 = .ok (.iconst 0, 1) := by decide +kernel
theorem dL_law_1149 : decode cL_law 1149 = .ok (.ireturn, 1) := by decide +kernel
theorem dL_law_1150 : decode cL_law 1150 = .ok (.iload 6, 2) := by decide +kernel
theorem dL_law_1152 : decode cL_law 1152 = .ok (.ifCond .ne 15, 3) := by decide +kernel
theorem dL_law_1155 : decode cL_law 1155 = .ok (.aload_n 3, 1) := by decide +kernel
theorem dL_law_1156 : decode cL_law 1156 = .ok (.iconst 0, 1) := by decide +kernel
theorem dL_law_1157 : decode cL_law 1157 = .ok (.laload, 1) := by decide +kernel
theorem dL_law_1158 : decode cL_law 1158 = .ok (.iload 7, 2) := by decide +kernel
theorem dL_law_1160 : decode cL_law 1160 = .ok (.i2l, 1) := by decide +kernel
theorem dL_law_1161 : decode cL_law 1161 = .ok (.lcmp, 1) := by decide +kernel
theorem dL_law_1162 : decode cL_law 1162 = .ok (.ifCond .eq 5, 3) := by decide +kernel
theorem dL_law_1165 : decode cL_law 1165 = .ok (.iconst 0, 1) := by decide +kernel
theorem dL_law_1166 : decode cL_law 1166 = .ok (.ireturn, 1) := by decide +kernel
theorem dL_law_1167 : decode cL_law 1167 = .ok (.goto 1326, 3) := by decide +kernel
theorem dL_law_1170 : decode cL_law 1170 = .ok (.aload_n 1, 1) := by decide +kernel
theorem dL_law_1171 : decode cL_law 1171 = .ok (.aload_n 0, 1) := by decide +kernel
theorem dL_law_1172 : decode cL_law 1172 = .ok (.iload 5, 2) := by decide +kernel
theorem dL_law_1174 : decode cL_law 1174 = .ok (.iconst 1, 1) := by decide +kernel
theorem dL_law_1175 : decode cL_law 1175 = .ok (.iadd, 1) := by decide +kernel
theorem dL_law_1176 : decode cL_law 1176 = .ok (.iaload, 1) := by decide +kernel
theorem dL_law_1177 : decode cL_law 1177 = .ok (.aload_n 3, 1) := by decide +kernel
theorem dL_law_1178 : decode cL_law 1178 = .ok (.invokestatic 204, 3) := by decide +kernel
theorem dL_law_1181 : decode cL_law 1181 = .ok (.istore 6, 2) := by decide +kernel
theorem dL_law_1183 : decode cL_law 1183 = .ok (.aload_n 2, 1) := by decide +kernel
theorem dL_law_1184 : decode cL_law 1184 = .ok (.aload_n 0, 1) := by decide +kernel
theorem dL_law_1185 : decode cL_law 1185 = .ok (.iload 5, 2) := by decide +kernel
theorem dL_law_1187 : decode cL_law 1187 = .ok (.iconst 1, 1) := by decide +kernel
theorem dL_law_1188 : decode cL_law 1188 = .ok (.iadd, 1) := by decide +kernel
theorem dL_law_1189 : decode cL_law 1189 = .ok (.iaload, 1) := by decide +kernel
theorem dL_law_1190 : decode cL_law 1190 = .ok (.invokevirtual 206, 3) := by decide +kernel
theorem dL_law_1193 : decode cL_law 1193 = .ok (.istore 7, 2) := by decide +kernel
theorem dL_law_1195 : decode cL_law 1195 = .ok (.aload_n 2, 1) := by decide +kernel
theorem dL_law_1196 : decode cL_law 1196 = .ok (.invokevirtual 145, 3) := by decide +kernel
theorem dL_law_1199 : decode cL_law 1199 = .ok (.iload 6, 2) := by decide +kernel
theorem dL_law_1201 : decode cL_law 1201 = .ok (.if_icmp .eq 5, 3) := by decide +kernel
theorem dL_law_1204 : decode cL_law 1204 = .ok (.iconst 0, 1) := by decide +kernel
theorem dL_law_1205 : decode cL_law 1205 = .ok (.ireturn, 1) := by decide +kernel
theorem dL_law_1206 : decode cL_law 1206 = .ok (.iload 6, 2) := by decide +kernel
theorem dL_law_1208 : decode cL_law 1208 = .ok (.ifCond .ne 15, 3) := by decide +kernel
theorem dL_law_1211 : decode cL_law 1211 = .ok (.aload_n 3, 1) := by decide +kernel
theorem dL_law_1212 : decode cL_law 1212 = .ok (.iconst 0, 1) := by decide +kernel
theorem dL_law_1213 : decode cL_law 1213 = .ok (.laload, 1) := by decide +kernel
theorem dL_law_1214 : decode cL_law 1214 = .ok (.iload 7, 2) := by decide +kernel
theorem dL_law_1216 : decode cL_law 1216 = .ok (.i2l, 1) := by decide +kernel
theorem dL_law_1217 : decode cL_law 1217 = .ok (.lcmp, 1) := by decide +kernel
theorem dL_law_1218 : decode cL_law 1218 = .ok (.ifCond .eq 5, 3) := by decide +kernel
theorem dL_law_1221 : decode cL_law 1221 = .ok (.iconst 0, 1) := by decide +kernel
theorem dL_law_1222 : decode cL_law 1222 = .ok (.ireturn, 1) := by decide +kernel
theorem dL_law_1223 : decode cL_law 1223 = .ok (.goto 1270, 3) := by decide +kernel
theorem dL_law_1226 : decode cL_law 1226 = .ok (.aload_n 1, 1) := by decide +kernel
theorem dL_law_1227 : decode cL_law 1227 = .ok (.invokevirtual 207, 3) := by decide +kernel
theorem dL_law_1230 : decode cL_law 1230 = .ok (.aload_n 2, 1) := by decide +kernel
theorem dL_law_1231 : decode cL_law 1231 = .ok (.invokevirtual 210, 3) := by decide +kernel
theorem dL_law_1234 : decode cL_law 1234 = .ok (.if_icmp .eq 1259, 3) := by decide +kernel
theorem dL_law_1237 : decode cL_law 1237 = .ok (.iconst 0, 1) := by decide +kernel
theorem dL_law_1238 : decode cL_law 1238 = .ok (.ireturn, 1) := by decide +kernel
theorem dL_law_1239 : decode cL_law 1239 = .ok (.aload_n 1, 1) := by decide +kernel
theorem dL_law_1240 : decode cL_law 1240 = .ok (.aload_n 0, 1) := by decide +kernel
theorem dL_law_1241 : decode cL_law 1241 = .ok (.iload 5, 2) := by decide +kernel
theorem dL_law_1243 : decode cL_law 1243 = .ok (.iconst 1, 1) := by decide +kernel
theorem dL_law_1244 : decode cL_law 1244 = .ok (.iadd, 1) := by decide +kernel
theorem dL_law_1245 : decode cL_law 1245 = .ok (.iaload, 1) := by decide +kernel
theorem dL_law_1246 : decode cL_law 1246 = .ok (.aload_n 3, 1) := by decide +kernel
theorem dL_law_1247 : decode cL_law 1247 = .ok (.invokestatic 211, 3) := by decide +kernel
theorem dL_law_1250 : decode cL_law 1250 = .ok (.istore 6, 2) := by decide +kernel
theorem dL_law_1252 : decode cL_law 1252 = .ok (.aload_n 2, 1) := by decide +kernel
theorem dL_law_1253 : decode cL_law 1253 = .ok (.aload_n 0, 1) := by decide +kernel
theorem dL_law_1254 : decode cL_law 1254 = .ok (.iload 5, 2) := by decide +kernel
theorem dL_law_1256 : decode cL_law 1256 = .ok (.iconst 1, 1) := by decide +kernel
theorem dL_law_1257 : decode cL_law 1257 = .ok (.iadd, 1) := by decide +kernel
theorem dL_law_1258 : decode cL_law 1258 = .ok (.iaload, 1) := by decide +kernel
theorem dL_law_1259 : decode cL_law 1259 = .ok (.invokevirtual 213, 3) := by decide +kernel
theorem dL_law_1262 : decode cL_law 1262 = .ok (.istore 7, 2) := by decide +kernel
theorem dL_law_1264 : decode cL_law 1264 = .ok (.aload_n 2, 1) := by decide +kernel
theorem dL_law_1265 : decode cL_law 1265 = .ok (.invokevirtual 145, 3) := by decide +kernel
theorem dL_law_1268 : decode cL_law 1268 = .ok (.iload 6, 2) := by decide +kernel
theorem dL_law_1270 : decode cL_law 1270 = .ok (.if_icmp .eq 5, 3) := by decide +kernel
theorem dL_law_1273 : decode cL_law 1273 = .ok (.iconst 0, 1) := by decide +kernel
theorem dL_law_1274 : decode cL_law 1274 = .ok (.ireturn, 1) := by decide +kernel
theorem dL_law_1275 : decode cL_law 1275 = .ok (.iload 6, 2) := by decide +kernel
theorem dL_law_1277 : decode cL_law 1277 = .ok (.ifCond .ne 15, 3) := by decide +kernel
theorem dL_law_1280 : decode cL_law 1280 = .ok (.aload_n 3, 1) := by decide +kernel
theorem dL_law_1281 : decode cL_law 1281 = .ok (.iconst 0, 1) := by decide +kernel
theorem dL_law_1282 : decode cL_law 1282 = .ok (.laload, 1) := by decide +kernel
theorem dL_law_1283 : decode cL_law 1283 = .ok (.iload 7, 2) := by decide +kernel
theorem dL_law_1285 : decode cL_law 1285 = .ok (.i2l, 1) := by decide +kernel
theorem dL_law_1286 : decode cL_law 1286 = .ok (.lcmp, 1) := by decide +kernel
theorem dL_law_1287 : decode cL_law 1287 = .ok (.ifCond .eq 5, 3) := by decide +kernel
theorem dL_law_1290 : decode cL_law 1290 = .ok (.iconst 0, 1) := by decide +kernel
theorem dL_law_1291 : decode cL_law 1291 = .ok (.ireturn, 1) := by decide +kernel
theorem dL_law_1292 : decode cL_law 1292 = .ok (.goto 1201, 3) := by decide +kernel
theorem dL_law_1295 : decode cL_law 1295 = .ok (.aload_n 1, 1) := by decide +kernel
theorem dL_law_1296 : decode cL_law 1296 = .ok (.aload_n 0, 1) := by decide +kernel
theorem dL_law_1297 : decode cL_law 1297 = .ok (.iload 5, 2) := by decide +kernel
theorem dL_law_1299 : decode cL_law 1299 = .ok (.iconst 1, 1) := by decide +kernel
theorem dL_law_1300 : decode cL_law 1300 = .ok (.iadd, 1) := by decide +kernel
theorem dL_law_1301 : decode cL_law 1301 = .ok (.iaload, 1) := by decide +kernel
theorem dL_law_1302 : decode cL_law 1302 = .ok (.aload_n 0, 1) := by decide +kernel
theorem dL_law_1303 : decode cL_law 1303 = .ok (.iload 5, 2) := by decide +kernel
theorem dL_law_1305 : decode cL_law 1305 = .ok (.iconst 2, 1) := by decide +kernel
theorem dL_law_1306 : decode cL_law 1306 = .ok (.iadd, 1) := by decide +kernel
theorem dL_law_1307 : decode cL_law 1307 = .ok (.iaload, 1) := by decide +kernel
theorem dL_law_1308 : decode cL_law 1308 = .ok (.aload_n 3, 1) := by decide +kernel
theorem dL_law_1309 : decode cL_law 1309 = .ok (.invokestatic 214, 3) := by decide +kernel
theorem dL_law_1312 : decode cL_law 1312 = .ok (.istore 6, 2) := by decide +kernel
theorem dL_law_1314 : decode cL_law 1314 = .ok (.aload_n 2, 1) := by decide +kernel
theorem dL_law_1315 : decode cL_law 1315 = .ok (.aload_n 0, 1) := by decide +kernel
theorem dL_law_1316 : decode cL_law 1316 = .ok (.iload 5, 2) := by decide +kernel
theorem dL_law_1318 : decode cL_law 1318 = .ok (.iconst 1, 1) := by decide +kernel
theorem dL_law_1319 : decode cL_law 1319 = .ok (.iadd, 1) := by decide +kernel
theorem dL_law_1320 : decode cL_law 1320 = .ok (.iaload, 1) := by decide +kernel
theorem dL_law_1321 : decode cL_law 1321 = .ok (.aload_n 0, 1) := by decide +kernel
theorem dL_law_1322 : decode cL_law 1322 = .ok (.iload 5, 2) := by decide +kernel
theorem dL_law_1324 : decode cL_law 1324 = .ok (.iconst 2, 1) := by decide +kernel
theorem dL_law_1325 : decode cL_law 1325 = .ok (.iadd, 1) := by decide +kernel
theorem dL_law_1326 : decode cL_law 1326 = .ok (.iaload, 1) := by decide +kernel
theorem dL_law_1327 : decode cL_law 1327 = .ok (.invokevirtual 216, 3) := by decide +kernel
theorem dL_law_1330 : decode cL_law 1330 = .ok (.istore 7, 2) := by decide +kernel
theorem dL_law_1332 : decode cL_law 1332 = .ok (.aload_n 2, 1) := by decide +kernel
theorem dL_law_1333 : decode cL_law 1333 = .ok (.invokevirtual 145, 3) := by decide +kernel
theorem dL_law_1336 : decode cL_law 1336 = .ok (.iload 6, 2) := by decide +kernel
theorem dL_law_1338 : decode cL_law 1338 = .ok (.if_icmp .eq 5, 3) := by decide +kernel
theorem dL_law_1341 : decode cL_law 1341 = .ok (.iconst 0, 1) := by decide +kernel
theorem dL_law_1342 : decode cL_law 1342 = .ok (.ireturn, 1) := by decide +kernel
theorem dL_law_1343 : decode cL_law 1343 = .ok (.iload 6, 2) := by decide +kernel
theorem dL_law_1345 : decode cL_law 1345 = .ok (.ifCond .ne 15, 3) := by decide +kernel
theorem dL_law_1348 : decode cL_law 1348 = .ok (.aload_n 3, 1) := by decide +kernel
theorem dL_law_1349 : decode cL_law 1349 = .ok (.iconst 0, 1) := by decide +kernel
theorem dL_law_1350 : decode cL_law 1350 = .ok (.laload, 1) := by decide +kernel
theorem dL_law_1351 : decode cL_law 1351 = .ok (.iload 7, 2) := by decide +kernel
theorem dL_law_1353 : decode cL_law 1353 = .ok (.i2l, 1) := by decide +kernel
theorem dL_law_1354 : decode cL_law 1354 = .ok (.lcmp, 1) := by decide +kernel
theorem dL_law_1355 : decode cL_law 1355 = .ok (.ifCond .eq 5, 3) := by decide +kernel
theorem dL_law_1358 : decode cL_law 1358 = .ok (.iconst 0, 1) := by decide +kernel
theorem dL_law_1359 : decode cL_law 1359 = .ok (.ireturn, 1) := by decide +kernel
theorem dL_law_1360 : decode cL_law 1360 = .ok (.goto 1133, 3) := by decide +kernel
theorem dL_law_1363 : decode cL_law 1363 = .ok (.aload_n 1, 1) := by decide +kernel
theorem dL_law_1364 : decode cL_law 1364 = .ok (.aload_n 0, 1) := by decide +kernel
theorem dL_law_1365 : decode cL_law 1365 = .ok (.iload 5, 2) := by decide +kernel
theorem dL_law_1367 : decode cL_law 1367 = .ok (.iconst 1, 1) := by decide +kernel
theorem dL_law_1368 : decode cL_law 1368 = .ok (.iadd, 1) := by decide +kernel
theorem dL_law_1369 : decode cL_law 1369 = .ok (.iaload, 1) := by decide +kernel
theorem dL_law_1370 : decode cL_law 1370 = .ok (.aload_n 0, 1) := by decide +kernel
theorem dL_law_1371 : decode cL_law 1371 = .ok (.iload 5, 2) := by decide +kernel
theorem dL_law_1373 : decode cL_law 1373 = .ok (.iconst 2, 1) := by decide +kernel
theorem dL_law_1374 : decode cL_law 1374 = .ok (.iadd, 1) := by decide +kernel
theorem dL_law_1375 : decode cL_law 1375 = .ok (.iaload, 1) := by decide +kernel
theorem dL_law_1376 : decode cL_law 1376 = .ok (.aload_n 3, 1) := by decide +kernel
theorem dL_law_1377 : decode cL_law 1377 = .ok (.invokestatic 217, 3) := by decide +kernel
theorem dL_law_1380 : decode cL_law 1380 = .ok (.istore 6, 2) := by decide +kernel
theorem dL_law_1382 : decode cL_law 1382 = .ok (.aload_n 2, 1) := by decide +kernel
theorem dL_law_1383 : decode cL_law 1383 = .ok (.aload_n 0, 1) := by decide +kernel
theorem dL_law_1384 : decode cL_law 1384 = .ok (.iload 5, 2) := by decide +kernel
theorem dL_law_1386 : decode cL_law 1386 = .ok (.iconst 1, 1) := by decide +kernel
theorem dL_law_1387 : decode cL_law 1387 = .ok (.iadd, 1) := by decide +kernel
theorem dL_law_1388 : decode cL_law 1388 = .ok (.iaload, 1) := by decide +kernel
theorem dL_law_1389 : decode cL_law 1389 = .ok (.aload_n 0, 1) := by decide +kernel
theorem dL_law_1390 : decode cL_law 1390 = .ok (.iload 5, 2) := by decide +kernel
theorem dL_law_1392 : decode cL_law 1392 = .ok (.iconst 2, 1) := by decide +kernel
theorem dL_law_1393 : decode cL_law 1393 = .ok (.iadd, 1) := by decide +kernel
theorem dL_law_1394 : decode cL_law 1394 = .ok (.iaload, 1) := by decide +kernel
theorem dL_law_1395 : decode cL_law 1395 = .ok (.invokevirtual 219, 3) := by decide +kernel
theorem dL_law_1398 : decode cL_law 1398 = .ok (.istore 7, 2) := by decide +kernel
theorem dL_law_1400 : decode cL_law 1400 = .ok (.aload_n 2, 1) := by decide +kernel
theorem dL_law_1401 : decode cL_law 1401 = .ok (.invokevirtual 145, 3) := by decide +kernel
theorem dL_law_1404 : decode cL_law 1404 = .ok (.iload 6, 2) := by decide +kernel
theorem dL_law_1406 : decode cL_law 1406 = .ok (.if_icmp .eq 5, 3) := by decide +kernel
theorem dL_law_1409 : decode cL_law 1409 = .ok (.iconst 0, 1) := by decide +kernel
theorem dL_law_1410 : decode cL_law 1410 = .ok (.ireturn, 1) := by decide +kernel
theorem dL_law_1411 : decode cL_law 1411 = .ok (.iload 6, 2) := by decide +kernel
theorem dL_law_1413 : decode cL_law 1413 = .ok (.ifCond .ne 15, 3) := by decide +kernel
theorem dL_law_1416 : decode cL_law 1416 = .ok (.aload_n 3, 1) := by decide +kernel
theorem dL_law_1417 : decode cL_law 1417 = .ok (.iconst 0, 1) := by decide +kernel
theorem dL_law_1418 : decode cL_law 1418 = .ok (.laload, 1) := by decide +kernel
theorem dL_law_1419 : decode cL_law 1419 = .ok (.iload 7, 2) := by decide +kernel
theorem dL_law_1421 : decode cL_law 1421 = .ok (.i2l, 1) := by decide +kernel
theorem dL_law_1422 : decode cL_law 1422 = .ok (.lcmp, 1) := by decide +kernel
theorem dL_law_1423 : decode cL_law 1423 = .ok (.ifCond .eq 5, 3) := by decide +kernel
theorem dL_law_1426 : decode cL_law 1426 = .ok (.iconst 0, 1) := by decide +kernel
theorem dL_law_1427 : decode cL_law 1427 = .ok (.ireturn, 1) := by decide +kernel
theorem dL_law_1428 : decode cL_law 1428 = .ok (.goto 1065, 3) := by decide +kernel
theorem dL_law_1431 : decode cL_law 1431 = .ok (.aload_n 1, 1) := by decide +kernel
theorem dL_law_1432 : decode cL_law 1432 = .ok (.aload_n 0, 1) := by decide +kernel
theorem dL_law_1433 : decode cL_law 1433 = .ok (.iload 5, 2) := by decide +kernel
theorem dL_law_1435 : decode cL_law 1435 = .ok (.iconst 1, 1) := by decide +kernel
theorem dL_law_1436 : decode cL_law 1436 = .ok (.iadd, 1) := by decide +kernel
theorem dL_law_1437 : decode cL_law 1437 = .ok (.iaload, 1) := by decide +kernel
theorem dL_law_1438 : decode cL_law 1438 = .ok (.aload_n 3, 1) := by decide +kernel
theorem dL_law_1439 : decode cL_law 1439 = .ok (.invokestatic 220, 3) := by decide +kernel
theorem dL_law_1442 : decode cL_law 1442 = .ok (.istore 6, 2) := by decide +kernel
theorem dL_law_1444 : decode cL_law 1444 = .ok (.aload_n 2, 1) := by decide +kernel
theorem dL_law_1445 : decode cL_law 1445 = .ok (.aload_n 0, 1) := by decide +kernel
theorem dL_law_1446 : decode cL_law 1446 = .ok (.iload 5, 2) := by decide +kernel
theorem dL_law_1448 : decode cL_law 1448 = .ok (.iconst 1, 1) := by decide +kernel
theorem dL_law_1449 : decode cL_law 1449 = .ok (.iadd, 1) := by decide +kernel
theorem dL_law_1450 : decode cL_law 1450 = .ok (.iaload, 1) := by decide +kernel
theorem dL_law_1451 : decode cL_law 1451 = .ok (.invokevirtual 222, 3) := by decide +kernel
theorem dL_law_1454 : decode cL_law 1454 = .ok (.istore 7, 2) := by decide +kernel
theorem dL_law_1456 : decode cL_law 1456 = .ok (.aload_n 2, 1) := by decide +kernel
theorem dL_law_1457 : decode cL_law 1457 = .ok (.invokevirtual 145, 3) := by decide +kernel
theorem dL_law_1460 : decode cL_law 1460 = .ok (.iload 6, 2) := by decide +kernel
theorem dL_law_1462 : decode cL_law 1462 = .ok (.if_icmp .eq 5, 3) := by decide +kernel
theorem dL_law_1465 : decode cL_law 1465 = .ok (.iconst 0, 1) := by decide +kernel
theorem dL_law_1466 : decode cL_law 1466 = .ok (.ireturn, 1) := by decide +kernel
theorem dL_law_1467 : decode cL_law 1467 = .ok (.iload 6, 2) := by decide +kernel
theorem dL_law_1469 : decode cL_law 1469 = .ok (.ifCond .ne 15, 3) := by decide +kernel
theorem dL_law_1472 : decode cL_law 1472 = .ok (.aload_n 3, 1) := by decide +kernel
theorem dL_law_1473 : decode cL_law 1473 = .ok (.iconst 0, 1) := by decide +kernel
theorem dL_law_1474 : decode cL_law 1474 = .ok (.laload, 1) := by decide +kernel
theorem dL_law_1475 : decode cL_law 1475 = .ok (.iload 7, 2) := by decide +kernel
theorem dL_law_1477 : decode cL_law 1477 = .ok (.i2l, 1) := by decide +kernel
theorem dL_law_1478 : decode cL_law 1478 = .ok (.lcmp, 1) := by decide +kernel
theorem dL_law_1479 : decode cL_law 1479 = .ok (.ifCond .eq 5, 3) := by decide +kernel
theorem dL_law_1482 : decode cL_law 1482 = .ok (.iconst 0, 1) := by decide +kernel
theorem dL_law_1483 : decode cL_law 1483 = .ok (.ireturn, 1) := by decide +kernel
theorem dL_law_1484 : decode cL_law 1484 = .ok (.goto 1009, 3) := by decide +kernel
theorem dL_law_1487 : decode cL_law 1487 = .ok (.aload_n 1, 1) := by decide +kernel
theorem dL_law_1488 : decode cL_law 1488 = .ok (.aload_n 0, 1) := by decide +kernel
theorem dL_law_1489 : decode cL_law 1489 = .ok (.iload 5, 2) := by decide +kernel
theorem dL_law_1491 : decode cL_law 1491 = .ok (.iconst 1, 1) := by decide +kernel
theorem dL_law_1492 : decode cL_law 1492 = .ok (.iadd, 1) := by decide +kernel
theorem dL_law_1493 : decode cL_law 1493 = .ok (.iaload, 1) := by decide +kernel
theorem dL_law_1494 : decode cL_law 1494 = .ok (.aload_n 0, 1) := by decide +kernel
theorem dL_law_1495 : decode cL_law 1495 = .ok (.iload 5, 2) := by decide +kernel
theorem dL_law_1497 : decode cL_law 1497 = .ok (.iconst 2, 1) := by decide +kernel
theorem dL_law_1498 : decode cL_law 1498 = .ok (.iadd, 1) := by decide +kernel
theorem dL_law_1499 : decode cL_law 1499 = .ok (.iaload, 1) := by decide +kernel
theorem dL_law_1500 : decode cL_law 1500 = .ok (.aload_n 3, 1) := by decide +kernel
theorem dL_law_1501 : decode cL_law 1501 = .ok (.invokestatic 223, 3) := by decide +kernel
theorem dL_law_1504 : decode cL_law 1504 = .ok (.istore 6, 2) := by decide +kernel
theorem dL_law_1506 : decode cL_law 1506 = .ok (.aload_n 2, 1) := by decide +kernel
theorem dL_law_1507 : decode cL_law 1507 = .ok (.aload_n 0, 1) := by decide +kernel
theorem dL_law_1508 : decode cL_law 1508 = .ok (.iload 5, 2) := by decide +kernel
theorem dL_law_1510 : decode cL_law 1510 = .ok (.iconst 1, 1) := by decide +kernel
theorem dL_law_1511 : decode cL_law 1511 = .ok (.iadd, 1) := by decide +kernel
theorem dL_law_1512 : decode cL_law 1512 = .ok (.iaload, 1) := by decide +kernel
theorem dL_law_1513 : decode cL_law 1513 = .ok (.aload_n 0, 1) := by decide +kernel
theorem dL_law_1514 : decode cL_law 1514 = .ok (.iload 5, 2) := by decide +kernel
theorem dL_law_1516 : decode cL_law 1516 = .ok (.iconst 2, 1) := by decide +kernel
theorem dL_law_1517 : decode cL_law 1517 = .ok (.iadd, 1) := by decide +kernel
theorem dL_law_1518 : decode cL_law 1518 = .ok (.iaload, 1) := by decide +kernel
theorem dL_law_1519 : decode cL_law 1519 = .ok (.invokevirtual 225, 3) := by decide +kernel
theorem dL_law_1522 : decode cL_law 1522 = .ok (.istore 7, 2) := by decide +kernel
theorem dL_law_1524 : decode cL_law 1524 = .ok (.aload_n 2, 1) := by decide +kernel
theorem dL_law_1525 : decode cL_law 1525 = .ok (.invokevirtual 145, 3) := by decide +kernel
theorem dL_law_1528 : decode cL_law 1528 = .ok (.iload 6, 2) := by decide +kernel
theorem dL_law_1530 : decode cL_law 1530 = .ok (.if_icmp .eq 5, 3) := by decide +kernel
theorem dL_law_1533 : decode cL_law 1533 = .ok (.iconst 0, 1) := by decide +kernel
theorem dL_law_1534 : decode cL_law 1534 = .ok (.ireturn, 1) := by decide +kernel
theorem dL_law_1535 : decode cL_law 1535 = .ok (.iload 6, 2) := by decide +kernel
theorem dL_law_1537 : decode cL_law 1537 = .ok (.ifCond .ne 15, 3) := by decide +kernel
theorem dL_law_1540 : decode cL_law 1540 = .ok (.aload_n 3, 1) := by decide +kernel
theorem dL_law_1541 : decode cL_law 1541 = .ok (.iconst 0, 1) := by decide +kernel
theorem dL_law_1542 : decode cL_law 1542 = .ok (.laload, 1) := by decide +kernel
theorem dL_law_1543 : decode cL_law 1543 = .ok (.iload 7, 2) := by decide +kernel
theorem dL_law_1545 : decode cL_law 1545 = .ok (.i2l, 1) := by decide +kernel
theorem dL_law_1546 : decode cL_law 1546 = .ok (.lcmp, 1) := by decide +kernel
theorem dL_law_1547 : decode cL_law 1547 = .ok (.ifCond .eq 5, 3) := by decide +kernel
theorem dL_law_1550 : decode cL_law 1550 = .ok (.iconst 0, 1) := by decide +kernel
theorem dL_law_1551 : decode cL_law 1551 = .ok (.ireturn, 1) := by decide +kernel
theorem dL_law_1552 : decode cL_law 1552 = .ok (.goto 941, 3) := by decide +kernel
theorem dL_law_1555 : decode cL_law 1555 = .ok (.aload_n 1, 1) := by decide +kernel
theorem dL_law_1556 : decode cL_law 1556 = .ok (.aload_n 0, 1) := by decide +kernel
theorem dL_law_1557 : decode cL_law 1557 = .ok (.iload 5, 2) := by decide +kernel
theorem dL_law_1559 : decode cL_law 1559 = .ok (.iconst 1, 1) := by decide +kernel
theorem dL_law_1560 : decode cL_law 1560 = .ok (.iadd, 1) := by decide +kernel
theorem dL_law_1561 : decode cL_law 1561 = .ok (.iaload, 1) := by decide +kernel
theorem dL_law_1562 : decode cL_law 1562 = .ok (.aload_n 3, 1) := by decide +kernel
theorem dL_law_1563 : decode cL_law 1563 = .ok (.invokestatic 226, 3) := by decide +kernel
theorem dL_law_1566 : decode cL_law 1566 = .ok (.istore 6, 2) := by decide +kernel
theorem dL_law_1568 : decode cL_law 1568 = .ok (.aload_n 2, 1) := by decide +kernel
theorem dL_law_1569 : decode cL_law 1569 = .ok (.aload_n 0, 1) := by decide +kernel
theorem dL_law_1570 : decode cL_law 1570 = .ok (.iload 5, 2) := by decide +kernel
theorem dL_law_1572 : decode cL_law 1572 = .ok (.iconst 1, 1) := by decide +kernel
theorem dL_law_1573 : decode cL_law 1573 = .ok (.iadd, 1) := by decide +kernel
theorem dL_law_1574 : decode cL_law 1574 = .ok (.iaload, 1) := by decide +kernel
theorem dL_law_1575 : decode cL_law 1575 = .ok (.invokevirtual 228, 3) := by decide +kernel
theorem dL_law_1578 : decode cL_law 1578 = .ok (.istore 7, 2) := by decide +kernel
theorem dL_law_1580 : decode cL_law 1580 = .ok (.aload_n 2, 1) := by decide +kernel
theorem dL_law_1581 : decode cL_law 1581 = .ok (.invokevirtual 145, 3) := by decide +kernel
theorem dL_law_1584 : decode cL_law 1584 = .ok (.iload 6, 2) := by decide +kernel
theorem dL_law_1586 : decode cL_law 1586 = .ok (.if_icmp .eq 5, 3) := by decide +kernel
theorem dL_law_1589 : decode cL_law 1589 = .ok (.iconst 0, 1) := by decide +kernel
theorem dL_law_1590 : decode cL_law 1590 = .ok (.ireturn, 1) := by decide +kernel
theorem dL_law_1591 : decode cL_law 1591 = .ok (.iload 6, 2) := by decide +kernel
theorem dL_law_1593 : decode cL_law 1593 = .ok (.ifCond .ne 15, 3) := by decide +kernel
theorem dL_law_1596 : decode cL_law 1596 = .ok (.aload_n 3, 1) := by decide +kernel
theorem dL_law_1597 : decode cL_law 1597 = .ok (.iconst 0, 1) := by decide +kernel
theorem dL_law_1598 : decode cL_law 1598 = .ok (.laload, 1) := by decide +kernel
theorem dL_law_1599 : decode cL_law 1599 = .ok (.iload 7, 2) := by decide +kernel
theorem dL_law_1601 : decode cL_law 1601 = .ok (.i2l, 1) := by decide +kernel
theorem dL_law_1602 : decode cL_law 1602 = .ok (.lcmp, 1) := by decide +kernel
theorem dL_law_1603 : decode cL_law 1603 = .ok (.ifCond .eq 5, 3) := by decide +kernel
theorem dL_law_1606 : decode cL_law 1606 = .ok (.iconst 0, 1) := by decide +kernel
theorem dL_law_1607 : decode cL_law 1607 = .ok (.ireturn, 1) := by decide +kernel
theorem dL_law_1608 : decode cL_law 1608 = .ok (.goto 885, 3) := by decide +kernel
theorem dL_law_1611 : decode cL_law 1611 = .ok (.aload_n 1, 1) := by decide +kernel
theorem dL_law_1612 : decode cL_law 1612 = .ok (.aload_n 0, 1) := by decide +kernel
theorem dL_law_1613 : decode cL_law 1613 = .ok (.iload 5, 2) := by decide +kernel
theorem dL_law_1615 : decode cL_law 1615 = .ok (.iconst 1, 1) := by decide +kernel
theorem dL_law_1616 : decode cL_law 1616 = .ok (.iadd, 1) := by decide +kernel
theorem dL_law_1617 : decode cL_law 1617 = .ok (.iaload, 1) := by decide +kernel
theorem dL_law_1618 : decode cL_law 1618 = .ok (.aload_n 0, 1) := by decide +kernel
theorem dL_law_1619 : decode cL_law 1619 = .ok (.iload 5, 2) := by decide +kernel
theorem dL_law_1621 : decode cL_law 1621 = .ok (.iconst 2, 1) := by decide +kernel
theorem dL_law_1622 : decode cL_law 1622 = .ok (.iadd, 1) := by decide +kernel
theorem dL_law_1623 : decode cL_law 1623 = .ok (.iaload, 1) := by decide +kernel
theorem dL_law_1624 : decode cL_law 1624 = .ok (.aload_n 3, 1) := by decide +kernel
theorem dL_law_1625 : decode cL_law 1625 = .ok (.invokestatic 229, 3) := by decide +kernel
theorem dL_law_1628 : decode cL_law 1628 = .ok (.istore 6, 2) := by decide +kernel
theorem dL_law_1630 : decode cL_law 1630 = .ok (.aload_n 2, 1) := by decide +kernel
theorem dL_law_1631 : decode cL_law 1631 = .ok (.aload_n 0, 1) := by decide +kernel
theorem dL_law_1632 : decode cL_law 1632 = .ok (.iload 5, 2) := by decide +kernel
theorem dL_law_1634 : decode cL_law 1634 = .ok (.iconst 1, 1) := by decide +kernel
theorem dL_law_1635 : decode cL_law 1635 = .ok (.iadd, 1) := by decide +kernel
theorem dL_law_1636 : decode cL_law 1636 = .ok (.iaload, 1) := by decide +kernel
theorem dL_law_1637 : decode cL_law 1637 = .ok (.aload_n 0, 1) := by decide +kernel
theorem dL_law_1638 : decode cL_law 1638 = .ok (.iload 5, 2) := by decide +kernel
theorem dL_law_1640 : decode cL_law 1640 = .ok (.iconst 2, 1) := by decide +kernel
theorem dL_law_1641 : decode cL_law 1641 = .ok (.iadd, 1) := by decide +kernel
theorem dL_law_1642 : decode cL_law 1642 = .ok (.iaload, 1) := by decide +kernel
theorem dL_law_1643 : decode cL_law 1643 = .ok (.invokevirtual 231, 3) := by decide +kernel
theorem dL_law_1646 : decode cL_law 1646 = .ok (.istore 7, 2) := by decide +kernel
theorem dL_law_1648 : decode cL_law 1648 = .ok (.aload_n 2, 1) := by decide +kernel
theorem dL_law_1649 : decode cL_law 1649 = .ok (.invokevirtual 145, 3) := by decide +kernel
theorem dL_law_1652 : decode cL_law 1652 = .ok (.iload 6, 2) := by decide +kernel
theorem dL_law_1654 : decode cL_law 1654 = .ok (.if_icmp .eq 5, 3) := by decide +kernel
theorem dL_law_1657 : decode cL_law 1657 = .ok (.iconst 0, 1) := by decide +kernel
theorem dL_law_1658 : decode cL_law 1658 = .ok (.ireturn, 1) := by decide +kernel
theorem dL_law_1659 : decode cL_law 1659 = .ok (.iload 6, 2) := by decide +kernel
theorem dL_law_1661 : decode cL_law 1661 = .ok (.ifCond .ne 15, 3) := by decide +kernel
theorem dL_law_1664 : decode cL_law 1664 = .ok (.aload_n 3, 1) := by decide +kernel
theorem dL_law_1665 : decode cL_law 1665 = .ok (.iconst 0, 1) := by decide +kernel
theorem dL_law_1666 : decode cL_law 1666 = .ok (.laload, 1) := by decide +kernel
theorem dL_law_1667 : decode cL_law 1667 = .ok (.iload 7, 2) := by decide +kernel
theorem dL_law_1669 : decode cL_law 1669 = .ok (.i2l, 1) := by decide +kernel
theorem dL_law_1670 : decode cL_law 1670 = .ok (.lcmp, 1) := by decide +kernel
theorem dL_law_1671 : decode cL_law 1671 = .ok (.ifCond .eq 5, 3) := by decide +kernel
theorem dL_law_1674 : decode cL_law 1674 = .ok (.iconst 0, 1) := by decide +kernel
theorem dL_law_1675 : decode cL_law 1675 = .ok (.ireturn, 1) := by decide +kernel
theorem dL_law_1676 : decode cL_law 1676 = .ok (.goto 817, 3) := by decide +kernel
theorem dL_law_1679 : decode cL_law 1679 = .ok (.aload_n 1, 1) := by decide +kernel
theorem dL_law_1680 : decode cL_law 1680 = .ok (.aload_n 0, 1) := by decide +kernel
theorem dL_law_1681 : decode cL_law 1681 = .ok (.iload 5, 2) := by decide +kernel
theorem dL_law_1683 : decode cL_law 1683 = .ok (.iconst 1, 1) := by decide +kernel
theorem dL_law_1684 : decode cL_law 1684 = .ok (.iadd, 1) := by decide +kernel
theorem dL_law_1685 : decode cL_law 1685 = .ok (.iaload, 1) := by decide +kernel
theorem dL_law_1686 : decode cL_law 1686 = .ok (.aload_n 0, 1) := by decide +kernel
theorem dL_law_1687 : decode cL_law 1687 = .ok (.iload 5, 2) := by decide +kernel
theorem dL_law_1689 : decode cL_law 1689 = .ok (.iconst 2, 1) := by decide +kernel
theorem dL_law_1690 : decode cL_law 1690 = .ok (.iadd, 1) := by decide +kernel
theorem dL_law_1691 : decode cL_law 1691 = .ok (.iaload, 1) := by decide +kernel
theorem dL_law_1692 : decode cL_law 1692 = .ok (.aload_n 3, 1) := by decide +kernel
theorem dL_law_1693 : decode cL_law 1693 = .ok (.invokestatic 232, 3) := by decide +kernel
theorem dL_law_1696 : decode cL_law 1696 = .ok (.istore 6, 2) := by decide +kernel
theorem dL_law_1698 : decode cL_law 1698 = .ok (.aload_n 2, 1) := by decide +kernel
theorem dL_law_1699 : decode cL_law 1699 = .ok (.aload_n 0, 1) := by decide +kernel
theorem dL_law_1700 : decode cL_law 1700 = .ok (.iload 5, 2) := by decide +kernel
theorem dL_law_1702 : decode cL_law 1702 = .ok (.iconst 1, 1) := by decide +kernel
theorem dL_law_1703 : decode cL_law 1703 = .ok (.iadd, 1) := by decide +kernel
theorem dL_law_1704 : decode cL_law 1704 = .ok (.iaload, 1) := by decide +kernel
theorem dL_law_1705 : decode cL_law 1705 = .ok (.aload_n 0, 1) := by decide +kernel
theorem dL_law_1706 : decode cL_law 1706 = .ok (.iload 5, 2) := by decide +kernel
theorem dL_law_1708 : decode cL_law 1708 = .ok (.iconst 2, 1) := by decide +kernel
theorem dL_law_1709 : decode cL_law 1709 = .ok (.iadd, 1) := by decide +kernel
theorem dL_law_1710 : decode cL_law 1710 = .ok (.iaload, 1) := by decide +kernel
theorem dL_law_1711 : decode cL_law 1711 = .ok (.invokevirtual 234, 3) := by decide +kernel
theorem dL_law_1714 : decode cL_law 1714 = .ok (.istore 7, 2) := by decide +kernel
theorem dL_law_1716 : decode cL_law 1716 = .ok (.aload_n 2, 1) := by decide +kernel
theorem dL_law_1717 : decode cL_law 1717 = .ok (.invokevirtual 145, 3) := by decide +kernel
theorem dL_law_1720 : decode cL_law 1720 = .ok (.iload 6, 2) := by decide +kernel
theorem dL_law_1722 : decode cL_law 1722 = .ok (.if_icmp .eq 5, 3) := by decide +kernel
theorem dL_law_1725 : decode cL_law 1725 = .ok (.iconst 0, 1) := by decide +kernel
theorem dL_law_1726 : decode cL_law 1726 = .ok (.ireturn, 1) := by decide +kernel
theorem dL_law_1727 : decode cL_law 1727 = .ok (.iload 6, 2) := by decide +kernel
theorem dL_law_1729 : decode cL_law 1729 = .ok (.ifCond .ne 15, 3) := by decide +kernel
theorem dL_law_1732 : decode cL_law 1732 = .ok (.aload_n 3, 1) := by decide +kernel
theorem dL_law_1733 : decode cL_law 1733 = .ok (.iconst 0, 1) := by decide +kernel
theorem dL_law_1734 : decode cL_law 1734 = .ok (.laload, 1) := by decide +kernel
theorem dL_law_1735 : decode cL_law 1735 = .ok (.iload 7, 2) := by decide +kernel
theorem dL_law_1737 : decode cL_law 1737 = .ok (.i2l, 1) := by decide +kernel
theorem dL_law_1738 : decode cL_law 1738 = .ok (.lcmp, 1) := by decide +kernel
theorem dL_law_1739 : decode cL_law 1739 = .ok (.ifCond .eq 5, 3) := by decide +kernel
theorem dL_law_1742 : decode cL_law 1742 = .ok (.iconst 0, 1) := by decide +kernel
theorem dL_law_1743 : decode cL_law 1743 = .ok (.ireturn, 1) := by decide +kernel
theorem dL_law_1744 : decode cL_law 1744 = .ok (.goto 749, 3) := by decide +kernel
theorem dL_law_1747 : decode cL_law 1747 = .ok (.aload_n 1, 1) := by decide +kernel
theorem dL_law_1748 : decode cL_law 1748 = .ok (.aload_n 0, 1) := by decide +kernel
theorem dL_law_1749 : decode cL_law 1749 = .ok (.iload 5, 2) := by decide +kernel
theorem dL_law_1751 : decode cL_law 1751 = .ok (.iconst 1, 1) := by decide +kernel
theorem dL_law_1752 : decode cL_law 1752 = .ok (.iadd, 1) := by decide +kernel
theorem dL_law_1753 : decode cL_law 1753 = .ok (.iaload, 1) := by decide +kernel
theorem dL_law_1754 : decode cL_law 1754 = .ok (.aload_n 3, 1) := by decide +kernel
theorem dL_law_1755 : decode cL_law 1755 = .ok (.invokestatic 235, 3) := by decide +kernel
theorem dL_law_1758 : decode cL_law 1758 = .ok (.istore 6, 2) := by decide +kernel
theorem dL_law_1760 : decode cL_law 1760 = .ok (.aload_n 2, 1) := by decide +kernel
theorem dL_law_1761 : decode cL_law 1761 = .ok (.aload_n 0, 1) := by decide +kernel
theorem dL_law_1762 : decode cL_law 1762 = .ok (.iload 5, 2) := by decide +kernel
theorem dL_law_1764 : decode cL_law 1764 = .ok (.iconst 1, 1) := by decide +kernel
theorem dL_law_1765 : decode cL_law 1765 = .ok (.iadd, 1) := by decide +kernel
theorem dL_law_1766 : decode cL_law 1766 = .ok (.iaload, 1) := by decide +kernel
theorem dL_law_1767 : decode cL_law 1767 = .ok (.invokevirtual 237, 3) := by decide +kernel
theorem dL_law_1770 : decode cL_law 1770 = .ok (.istore 7, 2) := by decide +kernel
theorem dL_law_1772 : decode cL_law 1772 = .ok (.aload_n 2, 1) := by decide +kernel
theorem dL_law_1773 : decode cL_law 1773 = .ok (.invokevirtual 145, 3) := by decide +kernel
theorem dL_law_1776 : decode cL_law 1776 = .ok (.iload 6, 2) := by decide +kernel
theorem dL_law_1778 : decode cL_law 1778 = .ok (.if_icmp .eq 5, 3) := by decide +kernel
theorem dL_law_1781 : decode cL_law 1781 = .ok (.iconst 0, 1) := by decide +kernel
theorem dL_law_1782 : decode cL_law 1782 = .ok (.ireturn, 1) := by decide +kernel
theorem dL_law_1783 : decode cL_law 1783 = .ok (.iload 6, 2) := by decide +kernel
theorem dL_law_1785 : decode cL_law 1785 = .ok (.ifCond .ne 15, 3) := by decide +kernel
theorem dL_law_1788 : decode cL_law 1788 = .ok (.aload_n 3, 1) := by decide +kernel
theorem dL_law_1789 : decode cL_law 1789 = .ok (.iconst 0, 1) := by decide +kernel
theorem dL_law_1790 : decode cL_law 1790 = .ok (.laload, 1) := by decide +kernel
theorem dL_law_1791 : decode cL_law 1791 = .ok (.iload 7, 2) := by decide +kernel
theorem dL_law_1793 : decode cL_law 1793 = .ok (.i2l, 1) := by decide +kernel
theorem dL_law_1794 : decode cL_law 1794 = .ok (.lcmp, 1) := by decide +kernel
theorem dL_law_1795 : decode cL_law 1795 = .ok (.ifCond .eq 5, 3) := by decide +kernel
theorem dL_law_1798 : decode cL_law 1798 = .ok (.iconst 0, 1) := by decide +kernel
theorem dL_law_1799 : decode cL_law 1799 = .ok (.ireturn, 1) := by decide +kernel
theorem dL_law_1800 : decode cL_law 1800 = .ok (.goto 693, 3) := by decide +kernel
theorem dL_law_1803 : decode cL_law 1803 = .ok (.aload_n 1, 1) := by decide +kernel
theorem dL_law_1804 : decode cL_law 1804 = .ok (.aload_n 0, 1) := by decide +kernel
theorem dL_law_1805 : decode cL_law 1805 = .ok (.iload 5, 2) := by decide +kernel
theorem dL_law_1807 : decode cL_law 1807 = .ok (.iconst 1, 1) := by decide +kernel
theorem dL_law_1808 : decode cL_law 1808 = .ok (.iadd, 1) := by decide +kernel
theorem dL_law_1809 : decode cL_law 1809 = .ok (.iaload, 1) := by decide +kernel
theorem dL_law_1810 : decode cL_law 1810 = .ok (.aload_n 0, 1) := by decide +kernel
theorem dL_law_1811 : decode cL_law 1811 = .ok (.iload 5, 2) := by decide +kernel
theorem dL_law_1813 : decode cL_law 1813 = .ok (.iconst 2, 1) := by decide +kernel
theorem dL_law_1814 : decode cL_law 1814 = .ok (.iadd, 1) := by decide +kernel
theorem dL_law_1815 : decode cL_law 1815 = .ok (.iaload, 1) := by decide +kernel
theorem dL_law_1816 : decode cL_law 1816 = .ok (.aload_n 3, 1) := by decide +kernel
theorem dL_law_1817 : decode cL_law 1817 = .ok (.invokestatic 238, 3) := by decide +kernel
theorem dL_law_1820 : decode cL_law 1820 = .ok (.istore 6, 2) := by decide +kernel
theorem dL_law_1822 : decode cL_law 1822 = .ok (.aload_n 2, 1) := by decide +kernel
theorem dL_law_1823 : decode cL_law 1823 = .ok (.aload_n 0, 1) := by decide +kernel
theorem dL_law_1824 : decode cL_law 1824 = .ok (.iload 5, 2) := by decide +kernel
theorem dL_law_1826 : decode cL_law 1826 = .ok (.iconst 1, 1) := by decide +kernel
theorem dL_law_1827 : decode cL_law 1827 = .ok (.iadd, 1) := by decide +kernel
theorem dL_law_1828 : decode cL_law 1828 = .ok (.iaload, 1) := by decide +kernel
theorem dL_law_1829 : decode cL_law 1829 = .ok (.aload_n 0, 1) := by decide +kernel
theorem dL_law_1830 : decode cL_law 1830 = .ok (.iload 5, 2) := by decide +kernel
theorem dL_law_1832 : decode cL_law 1832 = .ok (.iconst 2, 1) := by decide +kernel
theorem dL_law_1833 : decode cL_law 1833 = .ok (.iadd, 1) := by decide +kernel
theorem dL_law_1834 : decode cL_law 1834 = .ok (.iaload, 1) := by decide +kernel
theorem dL_law_1835 : decode cL_law 1835 = .ok (.invokevirtual 240, 3) := by decide +kernel
theorem dL_law_1838 : decode cL_law 1838 = .ok (.istore 7, 2) := by decide +kernel
theorem dL_law_1840 : decode cL_law 1840 = .ok (.aload_n 2, 1) := by decide +kernel
theorem dL_law_1841 : decode cL_law 1841 = .ok (.invokevirtual 145, 3) := by decide +kernel
theorem dL_law_1844 : decode cL_law 1844 = .ok (.iload 6, 2) := by decide +kernel
theorem dL_law_1846 : decode cL_law 1846 = .ok (.if_icmp .eq 5, 3) := by decide +kernel
theorem dL_law_1849 : decode cL_law 1849 = .ok (.iconst 0, 1) := by decide +kernel
theorem dL_law_1850 : decode cL_law 1850 = .ok (.ireturn, 1) := by decide +kernel
theorem dL_law_1851 : decode cL_law 1851 = .ok (.iload 6, 2) := by decide +kernel
theorem dL_law_1853 : decode cL_law 1853 = .ok (.ifCond .ne 15, 3) := by decide +kernel
theorem dL_law_1856 : decode cL_law 1856 = .ok (.aload_n 3, 1) := by decide +kernel
theorem dL_law_1857 : decode cL_law 1857 = .ok (.iconst 0, 1) := by decide +kernel
theorem dL_law_1858 : decode cL_law 1858 = .ok (.laload, 1) := by decide +kernel
theorem dL_law_1859 : decode cL_law 1859 = .ok (.iload 7, 2) := by decide +kernel
theorem dL_law_1861 : decode cL_law 1861 = .ok (.i2l, 1) := by decide +kernel
theorem dL_law_1862 : decode cL_law 1862 = .ok (.lcmp, 1) := by decide +kernel
theorem dL_law_1863 : decode cL_law 1863 = .ok (.ifCond .eq 5, 3) := by decide +kernel
theorem dL_law_1866 : decode cL_law 1866 = .ok (.iconst 0, 1) := by decide +kernel
theorem dL_law_1867 : decode cL_law 1867 = .ok (.ireturn, 1) := by decide +kernel
theorem dL_law_1868 : decode cL_law 1868 = .ok (.goto 625, 3) := by decide +kernel
theorem dL_law_1871 : decode cL_law 1871 = .ok (.aload_n 1, 1) := by decide +kernel
theorem dL_law_1872 : decode cL_law 1872 = .ok (.aload_n 0, 1) := by decide +kernel
theorem dL_law_1873 : decode cL_law 1873 = .ok (.iload 5, 2) := by decide +kernel
theorem dL_law_1875 : decode cL_law 1875 = .ok (.iconst 1, 1) := by decide +kernel
theorem dL_law_1876 : decode cL_law 1876 = .ok (.iadd, 1) := by decide +kernel
theorem dL_law_1877 : decode cL_law 1877 = .ok (.iaload, 1) := by decide +kernel
theorem dL_law_1878 : decode cL_law 1878 = .ok (.aload_n 0, 1) := by decide +kernel
theorem dL_law_1879 : decode cL_law 1879 = .ok (.iload 5, 2) := by decide +kernel
theorem dL_law_1881 : decode cL_law 1881 = .ok (.iconst 2, 1) := by decide +kernel
theorem dL_law_1882 : decode cL_law 1882 = .ok (.iadd, 1) := by decide +kernel
theorem dL_law_1883 : decode cL_law 1883 = .ok (.iaload, 1) := by decide +kernel
theorem dL_law_1884 : decode cL_law 1884 = .ok (.aload 4, 2) := by decide +kernel
theorem dL_law_1886 : decode cL_law 1886 = .ok (.invokestatic 241, 3) := by decide +kernel
theorem dL_law_1889 : decode cL_law 1889 = .ok (.istore 6, 2) := by decide +kernel
theorem dL_law_1891 : decode cL_law 1891 = .ok (.aload_n 2, 1) := by decide +kernel
theorem dL_law_1892 : decode cL_law 1892 = .ok (.aload_n 0, 1) := by decide +kernel
theorem dL_law_1893 : decode cL_law 1893 = .ok (.iload 5, 2) := by decide +kernel
theorem dL_law_1895 : decode cL_law 1895 = .ok (.iconst 1, 1) := by decide +kernel
theorem dL_law_1896 : decode cL_law 1896 = .ok (.iadd, 1) := by decide +kernel
theorem dL_law_1897 : decode cL_law 1897 = .ok (.iaload, 1) := by decide +kernel
theorem dL_law_1898 : decode cL_law 1898 = .ok (.aload_n 0, 1) := by decide +kernel
theorem dL_law_1899 : decode cL_law 1899 = .ok (.iload 5, 2) := by decide +kernel
theorem dL_law_1901 : decode cL_law 1901 = .ok (.iconst 2, 1) := by decide +kernel
theorem dL_law_1902 : decode cL_law 1902 = .ok (.iadd, 1) := by decide +kernel
theorem dL_law_1903 : decode cL_law 1903 = .ok (.iaload, 1) := by decide +kernel
theorem dL_law_1904 : decode cL_law 1904 = .ok (.invokevirtual 244, 3) := by decide +kernel
theorem dL_law_1907 : decode cL_law 1907 = .ok (.dstore 7, 2) := by decide +kernel
theorem dL_law_1909 : decode cL_law 1909 = .ok (.aload_n 2, 1) := by decide +kernel
theorem dL_law_1910 : decode cL_law 1910 = .ok (.invokevirtual 145, 3) := by decide +kernel
theorem dL_law_1913 : decode cL_law 1913 = .ok (.iload 6, 2) := by decide +kernel
theorem dL_law_1915 : decode cL_law 1915 = .ok (.if_icmp .eq 5, 3) := by decide +kernel
theorem dL_law_1918 : decode cL_law 1918 = .ok (.iconst 0, 1) := by decide +kernel
theorem dL_law_1919 : decode cL_law 1919 = .ok (.ireturn, 1) := by decide +kernel
theorem dL_law_1920 : decode cL_law 1920 = .ok (.iload 6, 2) := by decide +kernel
theorem dL_law_1922 : decode cL_law 1922 = .ok (.ifCond .ne 35, 3) := by decide +kernel
theorem dL_law_1925 : decode cL_law 1925 = .ok (.aload 4, 2) := by decide +kernel
theorem dL_law_1927 : decode cL_law 1927 = .ok (.iconst 0, 1) := by decide +kernel
theorem dL_law_1928 : decode cL_law 1928 = .ok (.daload, 1) := by decide +kernel
theorem dL_law_1929 : decode cL_law 1929 = .ok (.dload 7, 2) := by decide +kernel
theorem dL_law_1931 : decode cL_law 1931 = .ok (.dcmp .l, 1) := by decide +kernel
theorem dL_law_1932 : decode cL_law 1932 = .ok (.ifCond .eq 25, 3) := by decide +kernel
theorem dL_law_1935 : decode cL_law 1935 = .ok (.aload 4, 2) := by decide +kernel
theorem dL_law_1937 : decode cL_law 1937 = .ok (.iconst 0, 1) := by decide +kernel
theorem dL_law_1938 : decode cL_law 1938 = .ok (.daload, 1) := by decide +kernel
theorem dL_law_1939 : decode cL_law 1939 = .ok (.aload 4, 2) := by decide +kernel
theorem dL_law_1941 : decode cL_law 1941 = .ok (.iconst 0, 1) := by decide +kernel
theorem dL_law_1942 : decode cL_law 1942 = .ok (.daload, 1) := by decide +kernel
theorem dL_law_1943 : decode cL_law 1943 = .ok (.dcmp .l, 1) := by decide +kernel
theorem dL_law_1944 : decode cL_law 1944 = .ok (.ifCond .eq 11, 3) := by decide +kernel
theorem dL_law_1947 : decode cL_law 1947 = .ok (.dload 7, 2) := by decide +kernel
theorem dL_law_1949 : decode cL_law 1949 = .ok (.dload 7, 2) := by decide +kernel
theorem dL_law_1951 : decode cL_law 1951 = .ok (.dcmp .l, 1) := by decide +kernel
theorem dL_law_1952 : decode cL_law 1952 = .ok (.ifCond .ne 5, 3) := by decide +kernel
theorem dL_law_1955 : decode cL_law 1955 = .ok (.iconst 0, 1) := by decide +kernel
theorem dL_law_1956 : decode cL_law 1956 = .ok (.ireturn, 1) := by decide +kernel
theorem dL_law_1957 : decode cL_law 1957 = .ok (.goto 536, 3) := by decide +kernel
theorem dL_law_1960 : decode cL_law 1960 = .ok (.aload_n 1, 1) := by decide +kernel
theorem dL_law_1961 : decode cL_law 1961 = .ok (.aload_n 0, 1) := by decide +kernel
theorem dL_law_1962 : decode cL_law 1962 = .ok (.iload 5, 2) := by decide +kernel
theorem dL_law_1964 : decode cL_law 1964 = .ok (.iconst 1, 1) := by decide +kernel
theorem dL_law_1965 : decode cL_law 1965 = .ok (.iadd, 1) := by decide +kernel
theorem dL_law_1966 : decode cL_law 1966 = .ok (.iaload, 1) := by decide +kernel
theorem dL_law_1967 : decode cL_law 1967 = .ok (.aload_n 0, 1) := by decide +kernel
theorem dL_law_1968 : decode cL_law 1968 = .ok (.iload 5, 2) := by decide +kernel
theorem dL_law_1970 : decode cL_law 1970 = .ok (.iconst 2, 1) := by decide +kernel
theorem dL_law_1971 : decode cL_law 1971 = .ok (.iadd, 1) := by decide +kernel
theorem dL_law_1972 : decode cL_law 1972 = .ok (.iaload, 1) := by decide +kernel
theorem dL_law_1973 : decode cL_law 1973 = .ok (.aload_n 0, 1) := by decide +kernel
theorem dL_law_1974 : decode cL_law 1974 = .ok (.iload 5, 2) := by decide +kernel
theorem dL_law_1976 : decode cL_law 1976 = .ok (.iconst 3, 1) := by decide +kernel
theorem dL_law_1977 : decode cL_law 1977 = .ok (.iadd, 1) := by decide +kernel
theorem dL_law_1978 : decode cL_law 1978 = .ok (.iaload, 1) := by decide +kernel
theorem dL_law_1979 : decode cL_law 1979 = .ok (.aload_n 3, 1) := by decide +kernel
theorem dL_law_1980 : decode cL_law 1980 = .ok (.invokestatic 245, 3) := by decide +kernel
theorem dL_law_1983 : decode cL_law 1983 = .ok (.istore 6, 2) := by decide +kernel
theorem dL_law_1985 : decode cL_law 1985 = .ok (.aload_n 2, 1) := by decide +kernel
theorem dL_law_1986 : decode cL_law 1986 = .ok (.aload_n 0, 1) := by decide +kernel
theorem dL_law_1987 : decode cL_law 1987 = .ok (.iload 5, 2) := by decide +kernel
theorem dL_law_1989 : decode cL_law 1989 = .ok (.iconst 1, 1) := by decide +kernel
theorem dL_law_1990 : decode cL_law 1990 = .ok (.iadd, 1) := by decide +kernel
theorem dL_law_1991 : decode cL_law 1991 = .ok (.iaload, 1) := by decide +kernel
theorem dL_law_1992 : decode cL_law 1992 = .ok (.aload_n 0, 1) := by decide +kernel
theorem dL_law_1993 : decode cL_law 1993 = .ok (.iload 5, 2) := by decide +kernel
theorem dL_law_1995 : decode cL_law 1995 = .ok (.iconst 2, 1) := by decide +kernel
theorem dL_law_1996 : decode cL_law 1996 = .ok (.iadd, 1) := by decide +kernel
theorem dL_law_1997 : decode cL_law 1997 = .ok (.iaload, 1) := by decide +kernel
theorem dL_law_1998 : decode cL_law 1998 = .ok (.aload_n 0, 1) := by decide +kernel
theorem dL_law_1999 : decode cL_law 1999 = .ok (.iload 5, 2) := by decide +kernel
theorem dL_law_2001 : decode cL_law 2001 = .ok (.iconst 3, 1) := by decide +kernel
theorem dL_law_2002 : decode cL_law 2002 = .ok (.iadd, 1) := by decide +kernel
theorem dL_law_2003 : decode cL_law 2003 = .ok (.iaload, 1) := by decide +kernel
theorem dL_law_2004 : decode cL_law 2004 = .ok (.invokevirtual 248, 3) := by decide +kernel
theorem dL_law_2007 : decode cL_law 2007 = .ok (.istore 7, 2) := by decide +kernel
theorem dL_law_2009 : decode cL_law 2009 = .ok (.aload_n 2, 1) := by decide +kernel
theorem dL_law_2010 : decode cL_law 2010 = .ok (.invokevirtual 145, 3) := by decide +kernel
theorem dL_law_2013 : decode cL_law 2013 = .ok (.iload 6, 2) := by decide +kernel
theorem dL_law_2015 : decode cL_law 2015 = .ok (.if_icmp .eq 5, 3) := by decide +kernel
theorem dL_law_2018 : decode cL_law 2018 = .ok (.iconst 0, 1) := by decide +kernel
theorem dL_law_2019 : decode cL_law 2019 = .ok (.ireturn, 1) := by decide +kernel
theorem dL_law_2020 : decode cL_law 2020 = .ok (.iload 6, 2) := by decide +kernel
theorem dL_law_2022 : decode cL_law 2022 = .ok (.ifCond .ne 15, 3) := by decide +kernel
theorem dL_law_2025 : decode cL_law 2025 = .ok (.aload_n 3, 1) := by decide +kernel
theorem dL_law_2026 : decode cL_law 2026 = .ok (.iconst 0, 1) := by decide +kernel
theorem dL_law_2027 : decode cL_law 2027 = .ok (.laload, 1) := by decide +kernel
theorem dL_law_2028 : decode cL_law 2028 = .ok (.iload 7, 2) := by decide +kernel
theorem dL_law_2030 : decode cL_law 2030 = .ok (.i2l, 1) := by decide +kernel
theorem dL_law_2031 : decode cL_law 2031 = .ok (.lcmp, 1) := by decide +kernel
theorem dL_law_2032 : decode cL_law 2032 = .ok (.ifCond .eq 5, 3) := by decide +kernel
theorem dL_law_2035 : decode cL_law 2035 = .ok (.iconst 0, 1) := by decide +kernel
theorem dL_law_2036 : decode cL_law 2036 = .ok (.ireturn, 1) := by decide +kernel
theorem dL_law_2037 : decode cL_law 2037 = .ok (.goto 456, 3) := by decide +kernel
theorem dL_law_2040 : decode cL_law 2040 = .ok (.aload_n 1, 1) := by decide +kernel
theorem dL_law_2041 : decode cL_law 2041 = .ok (.aload_n 0, 1) := by decide +kernel
theorem dL_law_2042 : decode cL_law 2042 = .ok (.iload 5, 2) := by decide +kernel
theorem dL_law_2044 : decode cL_law 2044 = .ok (.iconst 1, 1) := by decide +kernel
theorem dL_law_2045 : decode cL_law 2045 = .ok (.iadd, 1) := by decide +kernel
theorem dL_law_2046 : decode cL_law 2046 = .ok (.iaload, 1) := by decide +kernel
theorem dL_law_2047 : decode cL_law 2047 = .ok (.aload_n 0, 1) := by decide +kernel
theorem dL_law_2048 : decode cL_law 2048 = .ok (.iload 5, 2) := by decide +kernel
theorem dL_law_2050 : decode cL_law 2050 = .ok (.iconst 2, 1) := by decide +kernel
theorem dL_law_2051 : decode cL_law 2051 = .ok (.iadd, 1) := by decide +kernel
theorem dL_law_2052 : decode cL_law 2052 = .ok (.iaload, 1) := by decide +kernel
theorem dL_law_2053 : decode cL_law 2053 = .ok (.aload_n 3, 1) := by decide +kernel
theorem dL_law_2054 : decode cL_law 2054 = .ok (.invokestatic 249, 3) := by decide +kernel
theorem dL_law_2057 : decode cL_law 2057 = .ok (.istore 6, 2) := by decide +kernel
theorem dL_law_2059 : decode cL_law 2059 = .ok (.aload_n 2, 1) := by decide +kernel
theorem dL_law_2060 : decode cL_law 2060 = .ok (.aload_n 0, 1) := by decide +kernel
theorem dL_law_2061 : decode cL_law 2061 = .ok (.iload 5, 2) := by decide +kernel
theorem dL_law_2063 : decode cL_law 2063 = .ok (.iconst 1, 1) := by decide +kernel
theorem dL_law_2064 : decode cL_law 2064 = .ok (.iadd, 1) := by decide +kernel
theorem dL_law_2065 : decode cL_law 2065 = .ok (.iaload, 1) := by decide +kernel
theorem dL_law_2066 : decode cL_law 2066 = .ok (.aload_n 0, 1) := by decide +kernel
theorem dL_law_2067 : decode cL_law 2067 = .ok (.iload 5, 2) := by decide +kernel
theorem dL_law_2069 : decode cL_law 2069 = .ok (.iconst 2, 1) := by decide +kernel
theorem dL_law_2070 : decode cL_law 2070 = .ok (.iadd, 1) := by decide +kernel
theorem dL_law_2071 : decode cL_law 2071 = .ok (.iaload, 1) := by decide +kernel
theorem dL_law_2072 : decode cL_law 2072 = .ok (.invokevirtual 251, 3) := by decide +kernel
theorem dL_law_2075 : decode cL_law 2075 = .ok (.istore 7, 2) := by decide +kernel
theorem dL_law_2077 : decode cL_law 2077 = .ok (.aload_n 2, 1) := by decide +kernel
theorem dL_law_2078 : decode cL_law 2078 = .ok (.invokevirtual 145, 3) := by decide +kernel
theorem dL_law_2081 : decode cL_law 2081 = .ok (.iload 6, 2) := by decide +kernel
theorem dL_law_2083 : decode cL_law 2083 = .ok (.if_icmp .eq 5, 3) := by decide +kernel
theorem dL_law_2086 : decode cL_law 2086 = .ok (.iconst 0, 1) := by decide +kernel
theorem dL_law_2087 : decode cL_law 2087 = .ok (.ireturn, 1) := by decide +kernel
theorem dL_law_2088 : decode cL_law 2088 = .ok (.iload 6, 2) := by decide +kernel
theorem dL_law_2090 : decode cL_law 2090 = .ok (.ifCond .ne 22, 3) := by decide +kernel
theorem dL_law_2093 : decode cL_law 2093 = .ok (.aload_n 3, 1) := by decide +kernel
theorem dL_law_2094 : decode cL_law 2094 = .ok (.iconst 0, 1) := by decide +kernel
theorem dL_law_2095 : decode cL_law 2095 = .ok (.laload, 1) := by decide +kernel
theorem dL_law_2096 : decode cL_law 2096 = .ok (.iload 7, 2) := by decide +kernel
theorem dL_law_2098 : decode cL_law 2098 = .ok (.ifCond .eq 7, 3) := by decide +kernel
theorem dL_law_2101 : decode cL_law 2101 = .ok (.lconst 1, 1) := by decide +kernel
theorem dL_law_2102 : decode cL_law 2102 = .ok (.goto 4, 3) := by decide +kernel
theorem dL_law_2105 : decode cL_law 2105 = .ok (.lconst 0, 1) := by decide +kernel
theorem dL_law_2106 : decode cL_law 2106 = .ok (.lcmp, 1) := by decide +kernel
theorem dL_law_2107 : decode cL_law 2107 = .ok (.ifCond .eq 5, 3) := by decide +kernel
theorem dL_law_2110 : decode cL_law 2110 = .ok (.iconst 0, 1) := by decide +kernel
theorem dL_law_2111 : decode cL_law 2111 = .ok (.ireturn, 1) := by decide +kernel
theorem dL_law_2112 : decode cL_law 2112 = .ok (.goto 381, 3) := by decide +kernel
theorem dL_law_2115 : decode cL_law 2115 = .ok (.aload_n 1, 1) := by decide +kernel
theorem dL_law_2116 : decode cL_law 2116 = .ok (.aload_n 0, 1) := by decide +kernel
theorem dL_law_2117 : decode cL_law 2117 = .ok (.iload 5, 2) := by decide +kernel
theorem dL_law_2119 : decode cL_law 2119 = .ok (.iconst 1, 1) := by decide +kernel
theorem dL_law_2120 : decode cL_law 2120 = .ok (.iadd, 1) := by decide +kernel
theorem dL_law_2121 : decode cL_law 2121 = .ok (.iaload, 1) := by decide +kernel
theorem dL_law_2122 : decode cL_law 2122 = .ok (.aload_n 3, 1) := by decide +kernel
theorem dL_law_2123 : decode cL_law 2123 = .ok (.invokestatic 252, 3) := by decide +kernel
theorem dL_law_2126 : decode cL_law 2126 = .ok (.istore 6, 2) := by decide +kernel
theorem dL_law_2128 : decode cL_law 2128 = .ok (.aload_n 2, 1) := by decide +kernel
theorem dL_law_2129 : decode cL_law 2129 = .ok (.aload_n 0, 1) := by decide +kernel
theorem dL_law_2130 : decode cL_law 2130 = .ok (.iload 5, 2) := by decide +kernel
theorem dL_law_2132 : decode cL_law 2132 = .ok (.iconst 1, 1) := by decide +kernel
theorem dL_law_2133 : decode cL_law 2133 = .ok (.iadd, 1) := by decide +kernel
theorem dL_law_2134 : decode cL_law 2134 = .ok (.iaload, 1) := by decide +kernel
theorem dL_law_2135 : decode cL_law 2135 = .ok (.invokevirtual 254, 3) := by decide +kernel
theorem dL_law_2138 : decode cL_law 2138 = .ok (.istore 7, 2) := by decide +kernel
theorem dL_law_2140 : decode cL_law 2140 = .ok (.aload_n 2, 1) := by decide +kernel
theorem dL_law_2141 : decode cL_law 2141 = .ok (.invokevirtual 145, 3) := by decide +kernel
theorem dL_law_2144 : decode cL_law 2144 = .ok (.iload 6, 2) := by decide +kernel
theorem dL_law_2146 : decode cL_law 2146 = .ok (.if_icmp .eq 5, 3) := by decide +kernel
theorem dL_law_2149 : decode cL_law 2149 = .ok (.iconst 0, 1) := by decide +kernel
theorem dL_law_2150 : decode cL_law 2150 = .ok (.ireturn, 1) := by decide +kernel
theorem dL_law_2151 : decode cL_law 2151 = .ok (.iload 6, 2) := by decide +kernel
theorem dL_law_2153 : decode cL_law 2153 = .ok (.ifCond .ne 15, 3) := by decide +kernel
theorem dL_law_2156 : decode cL_law 2156 = .ok (.aload_n 3, 1) := by decide +kernel
theorem dL_law_2157 : decode cL_law 2157 = .ok (.iconst 0, 1) := by decide +kernel
theorem dL_law_2158 : decode cL_law 2158 = .ok (.laload, 1) := by decide +kernel
theorem dL_law_2159 : decode cL_law 2159 = .ok (.iload 7, 2) := by decide +kernel
theorem dL_law_2161 : decode cL_law 2161 = .ok (.i2l, 1) := by decide +kernel
theorem dL_law_2162 : decode cL_law 2162 = .ok (.lcmp, 1) := by decide +kernel
theorem dL_law_2163 : decode cL_law 2163 = .ok (.ifCond .eq 5, 3) := by decide +kernel
theorem dL_law_2166 : decode cL_law 2166 = .ok (.iconst 0, 1) := by decide +kernel
theorem dL_law_2167 : decode cL_law 2167 = .ok (.ireturn, 1) := by decide +kernel
theorem dL_law_2168 : decode cL_law 2168 = .ok (.goto 325, 3) := by decide +kernel
theorem dL_law_2171 : decode cL_law 2171 = .ok (.aload_n 1, 1) := by decide +kernel
theorem dL_law_2172 : decode cL_law 2172 = .ok (.aload_n 0, 1) := by decide +kernel
theorem dL_law_2173 : decode cL_law 2173 = .ok (.iload 5, 2) := by decide +kernel
theorem dL_law_2175 : decode cL_law 2175 = .ok (.iconst 1, 1) := by decide +kernel
theorem dL_law_2176 : decode cL_law 2176 = .ok (.iadd, 1) := by decide +kernel
theorem dL_law_2177 : decode cL_law 2177 = .ok (.iaload, 1) := by decide +kernel
theorem dL_law_2178 : decode cL_law 2178 = .ok (.aload_n 3, 1) := by decide +kernel
theorem dL_law_2179 : decode cL_law 2179 = .ok (.invokestatic 255, 3) := by decide +kernel
theorem dL_law_2182 : decode cL_law 2182 = .ok (.istore 6, 2) := by decide +kernel
theorem dL_law_2184 : decode cL_law 2184 = .ok (.aload_n 2, 1) := by decide +kernel
theorem dL_law_2185 : decode cL_law 2185 = .ok (.aload_n 0, 1) := by decide +kernel
theorem dL_law_2186 : decode cL_law 2186 = .ok (.iload 5, 2) := by decide +kernel
theorem dL_law_2188 : decode cL_law 2188 = .ok (.iconst 1, 1) := by decide +kernel
theorem dL_law_2189 : decode cL_law 2189 = .ok (.iadd, 1) := by decide +kernel
theorem dL_law_2190 : decode cL_law 2190 = .ok (.iaload, 1) := by decide +kernel
theorem dL_law_2191 : decode cL_law 2191 = .ok (.invokevirtual 257, 3) := by decide +kernel
theorem dL_law_2194 : decode cL_law 2194 = .ok (.istore 7, 2) := by decide +kernel
theorem dL_law_2196 : decode cL_law 2196 = .ok (.aload_n 2, 1) := by decide +kernel
theorem dL_law_2197 : decode cL_law 2197 = .ok (.invokevirtual 145, 3) := by decide +kernel
theorem dL_law_2200 : decode cL_law 2200 = .ok (.iload 6, 2) := by decide +kernel
theorem dL_law_2202 : decode cL_law 2202 = .ok (.if_icmp .eq 5, 3) := by decide +kernel
theorem dL_law_2205 : decode cL_law 2205 = .ok (.iconst 0, 1) := by decide +kernel
theorem dL_law_2206 : decode cL_law 2206 = .ok (.ireturn, 1) := by decide +kernel
theorem dL_law_2207 : decode cL_law 2207 = .ok (.iload 6, 2) := by decide +kernel
theorem dL_law_2209 : decode cL_law 2209 = .ok (.ifCond .ne 22, 3) := by decide +kernel
theorem dL_law_2212 : decode cL_law 2212 = .ok (.aload_n 3, 1) := by decide +kernel
theorem dL_law_2213 : decode cL_law 2213 = .ok (.iconst 0, 1) := by decide +kernel
theorem dL_law_2214 : decode cL_law 2214 = .ok (.laload, 1) := by decide +kernel
theorem dL_law_2215 : decode cL_law 2215 = .ok (.iload 7, 2) := by decide +kernel
theorem dL_law_2217 : decode cL_law 2217 = .ok (.ifCond .eq 7, 3) := by decide +kernel
theorem dL_law_2220 : decode cL_law 2220 = .ok (.lconst 1, 1) := by decide +kernel
theorem dL_law_2221 : decode cL_law 2221 = .ok (.goto 4, 3) := by decide +kernel
theorem dL_law_2224 : decode cL_law 2224 = .ok (.lconst 0, 1) := by decide +kernel
theorem dL_law_2225 : decode cL_law 2225 = .ok (.lcmp, 1) := by decide +kernel
theorem dL_law_2226 : decode cL_law 2226 = .ok (.ifCond .eq 5, 3) := by decide +kernel
theorem dL_law_2229 : decode cL_law 2229 = .ok (.iconst 0, 1) := by decide +kernel
theorem dL_law_2230 : decode cL_law 2230 = .ok (.ireturn, 1) := by decide +kernel
theorem dL_law_2231 : decode cL_law 2231 = .ok (.goto 262, 3) := by decide +kernel
theorem dL_law_2234 : decode cL_law 2234 = .ok (.aload_n 1, 1) := by decide +kernel
theorem dL_law_2235 : decode cL_law 2235 = .ok (.aload_n 0, 1) := by decide +kernel
theorem dL_law_2236 : decode cL_law 2236 = .ok (.iload 5, 2) := by decide +kernel
theorem dL_law_2238 : decode cL_law 2238 = .ok (.iconst 1, 1) := by decide +kernel
theorem dL_law_2239 : decode cL_law 2239 = .ok (.iadd, 1) := by decide +kernel
theorem dL_law_2240 : decode cL_law 2240 = .ok (.iaload, 1) := by decide +kernel
theorem dL_law_2241 : decode cL_law 2241 = .ok (.aload_n 3, 1) := by decide +kernel
theorem dL_law_2242 : decode cL_law 2242 = .ok (.invokestatic 258, 3) := by decide +kernel
theorem dL_law_2245 : decode cL_law 2245 = .ok (.istore 6, 2) := by decide +kernel
theorem dL_law_2247 : decode cL_law 2247 = .ok (.aload_n 2, 1) := by decide +kernel
theorem dL_law_2248 : decode cL_law 2248 = .ok (.aload_n 0, 1) := by decide +kernel
theorem dL_law_2249 : decode cL_law 2249 = .ok (.iload 5, 2) := by decide +kernel
theorem dL_law_2251 : decode cL_law 2251 = .ok (.iconst 1, 1) := by decide +kernel
theorem dL_law_2252 : decode cL_law 2252 = .ok (.iadd, 1) := by decide +kernel
theorem dL_law_2253 : decode cL_law 2253 = .ok (.iaload, 1) := by decide +kernel
theorem dL_law_2254 : decode cL_law 2254 = .ok (.invokevirtual 260, 3) := by decide +kernel
theorem dL_law_2257 : decode cL_law 2257 = .ok (.istore 7, 2) := by decide +kernel
theorem dL_law_2259 : decode cL_law 2259 = .ok (.aload_n 2, 1) := by decide +kernel
theorem dL_law_2260 : decode cL_law 2260 = .ok (.invokevirtual 145, 3) := by decide +kernel
theorem dL_law_2263 : decode cL_law 2263 = .ok (.iload 6, 2) := by decide +kernel
theorem dL_law_2265 : decode cL_law 2265 = .ok (.if_icmp .eq 5, 3) := by decide +kernel
theorem dL_law_2268 : decode cL_law 2268 = .ok (.iconst 0, 1) := by decide +kernel
theorem dL_law_2269 : decode cL_law 2269 = .ok (.ireturn, 1) := by decide +kernel
theorem dL_law_2270 : decode cL_law 2270 = .ok (.iload 6, 2) := by decide +kernel
theorem dL_law_2272 : decode cL_law 2272 = .ok (.ifCond .ne 15, 3) := by decide +kernel
theorem dL_law_2275 : decode cL_law 2275 = .ok (.aload_n 3, 1) := by decide +kernel
theorem dL_law_2276 : decode cL_law 2276 = .ok (.iconst 0, 1) := by decide +kernel
theorem dL_law_2277 : decode cL_law 2277 = .ok (.laload, 1) := by decide +kernel
theorem dL_law_2278 : decode cL_law 2278 = .ok (.iload 7, 2) := by decide +kernel
theorem dL_law_2280 : decode cL_law 2280 = .ok (.i2l, 1) := by decide +kernel
theorem dL_law_2281 : decode cL_law 2281 = .ok (.lcmp, 1) := by decide +kernel
theorem dL_law_2282 : decode cL_law 2282 = .ok (.ifCond .eq 5, 3) := by decide +kernel
theorem dL_law_2285 : decode cL_law 2285 = .ok (.iconst 0, 1) := by decide +kernel
theorem dL_law_2286 : decode cL_law 2286 = .ok (.ireturn, 1) := by decide +kernel
theorem dL_law_2287 : decode cL_law 2287 = .ok (.goto 206, 3) := by decide +kernel
theorem dL_law_2290 : decode cL_law 2290 = .ok (.aload_n 1, 1) := by decide +kernel
theorem dL_law_2291 : decode cL_law 2291 = .ok (.aload_n 0, 1) := by decide +kernel
theorem dL_law_2292 : decode cL_law 2292 = .ok (.iload 5, 2) := by decide +kernel
theorem dL_law_2294 : decode cL_law 2294 = .ok (.iconst 1, 1) := by decide +kernel
theorem dL_law_2295 : decode cL_law 2295 = .ok (.iadd, 1) := by decide +kernel
theorem dL_law_2296 : decode cL_law 2296 = .ok (.iaload, 1) := by decide +kernel
theorem dL_law_2297 : decode cL_law 2297 = .ok (.i2c, 1) := by decide +kernel
theorem dL_law_2298 : decode cL_law 2298 = .ok (.aload_n 3, 1) := by decide +kernel
theorem dL_law_2299 : decode cL_law 2299 = .ok (.invokestatic 261, 3) := by decide +kernel
theorem dL_law_2302 : decode cL_law 2302 = .ok (.istore 6, 2) := by decide +kernel
theorem dL_law_2304 : decode cL_law 2304 = .ok (.aload_n 2, 1) := by decide +kernel
theorem dL_law_2305 : decode cL_law 2305 = .ok (.aload_n 0, 1) := by decide +kernel
theorem dL_law_2306 : decode cL_law 2306 = .ok (.iload 5, 2) := by decide +kernel
theorem dL_law_2308 : decode cL_law 2308 = .ok (.iconst 1, 1) := by decide +kernel
theorem dL_law_2309 : decode cL_law 2309 = .ok (.iadd, 1) := by decide +kernel
theorem dL_law_2310 : decode cL_law 2310 = .ok (.iaload, 1) := by decide +kernel
theorem dL_law_2311 : decode cL_law 2311 = .ok (.i2c, 1) := by decide +kernel
theorem dL_law_2312 : decode cL_law 2312 = .ok (.invokevirtual 264, 3) := by decide +kernel
theorem dL_law_2315 : decode cL_law 2315 = .ok (.istore 7, 2) := by decide +kernel
theorem dL_law_2317 : decode cL_law 2317 = .ok (.aload_n 2, 1) := by decide +kernel
theorem dL_law_2318 : decode cL_law 2318 = .ok (.invokevirtual 145, 3) := by decide +kernel
theorem dL_law_2321 : decode cL_law 2321 = .ok (.iload 6, 2) := by decide +kernel
theorem dL_law_2323 : decode cL_law 2323 = .ok (.if_icmp .eq 5, 3) := by decide +kernel
theorem dL_law_2326 : decode cL_law 2326 = .ok (.iconst 0, 1) := by decide +kernel
theorem dL_law_2327 : decode cL_law 2327 = .ok (.ireturn, 1) := by decide +kernel
theorem dL_law_2328 : decode cL_law 2328 = .ok (.iload 6, 2) := by decide +kernel
theorem dL_law_2330 : decode cL_law 2330 = .ok (.ifCond .ne 15, 3) := by decide +kernel
theorem dL_law_2333 : decode cL_law 2333 = .ok (.aload_n 3, 1) := by decide +kernel
theorem dL_law_2334 : decode cL_law 2334 = .ok (.iconst 0, 1) := by decide +kernel
theorem dL_law_2335 : decode cL_law 2335 = .ok (.laload, 1) := by decide +kernel
theorem dL_law_2336 : decode cL_law 2336 = .ok (.iload 7, 2) := by decide +kernel
theorem dL_law_2338 : decode cL_law 2338 = .ok (.i2l, 1) := by decide +kernel
theorem dL_law_2339 : decode cL_law 2339 = .ok (.lcmp, 1) := by decide +kernel
theorem dL_law_2340 : decode cL_law 2340 = .ok (.ifCond .eq 5, 3) := by decide +kernel
theorem dL_law_2343 : decode cL_law 2343 = .ok (.iconst 0, 1) := by decide +kernel
theorem dL_law_2344 : decode cL_law 2344 = .ok (.ireturn, 1) := by decide +kernel
theorem dL_law_2345 : decode cL_law 2345 = .ok (.goto 148, 3) := by decide +kernel
theorem dL_law_2348 : decode cL_law 2348 = .ok (.aload_n 1, 1) := by decide +kernel
theorem dL_law_2349 : decode cL_law 2349 = .ok (.aload_n 3, 1) := by decide +kernel
theorem dL_law_2350 : decode cL_law 2350 = .ok (.invokestatic 265, 3) := by decide +kernel
theorem dL_law_2353 : decode cL_law 2353 = .ok (.istore 6, 2) := by decide +kernel
theorem dL_law_2355 : decode cL_law 2355 = .ok (.aload_n 2, 1) := by decide +kernel
theorem dL_law_2356 : decode cL_law 2356 = .ok (.invokevirtual 267, 3) := by decide +kernel
theorem dL_law_2359 : decode cL_law 2359 = .ok (.istore 7, 2) := by decide +kernel
theorem dL_law_2361 : decode cL_law 2361 = .ok (.aload_n 2, 1) := by decide +kernel
theorem dL_law_2362 : decode cL_law 2362 = .ok (.invokevirtual 145, 3) := by decide +kernel
theorem dL_law_2365 : decode cL_law 2365 = .ok (.iload 6, 2) := by decide +kernel
theorem dL_law_2367 : decode cL_law 2367 = .ok (.if_icmp .eq 5, 3) := by decide +kernel
theorem dL_law_2370 : decode cL_law 2370 = .ok (.iconst 0, 1) := by decide +kernel
theorem dL_law_2371 : decode cL_law 2371 = .ok (.ireturn, 1) := by decide +kernel
theorem dL_law_2372 : decode cL_law 2372 = .ok (.iload 6, 2) := by decide +kernel
theorem dL_law_2374 : decode cL_law 2374 = .ok (.ifCond .ne 15, 3) := by decide +kernel
theorem dL_law_2377 : decode cL_law 2377 = .ok (.aload_n 3, 1) := by decide +kernel
theorem dL_law_2378 : decode cL_law 2378 = .ok (.iconst 0, 1) := by decide +kernel
theorem dL_law_2379 : decode cL_law 2379 = .ok (.laload, 1) := by decide +kernel
theorem dL_law_2380 : decode cL_law 2380 = .ok (.iload 7, 2) := by decide +kernel
theorem dL_law_2382 : decode cL_law 2382 = .ok (.i2l, 1) := by decide +kernel
theorem dL_law_2383 : decode cL_law 2383 = .ok (.lcmp, 1) := by decide +kernel
theorem dL_law_2384 : decode cL_law 2384 = .ok (.ifCond .eq 5, 3) := by decide +kernel
theorem dL_law_2387 : decode cL_law 2387 = .ok (.iconst 0, 1) := by decide +kernel
theorem dL_law_2388 : decode cL_law 2388 = .ok (.ireturn, 1) := by decide +kernel
theorem dL_law_2389 : decode cL_law 2389 = .ok (.goto 104, 3) := by decide +kernel
theorem dL_law_2392 : decode cL_law 2392 = .ok (.aload_n 1, 1) := by decide +kernel
theorem dL_law_2393 : decode cL_law 2393 = .ok (.aload_n 3, 1) := by decide +kernel
theorem dL_law_2394 : decode cL_law 2394 = .ok (.invokestatic 268, 3) := by decide +kernel
theorem dL_law_2397 : decode cL_law 2397 = .ok (.istore 6, 2) := by decide +kernel
theorem dL_law_2399 : decode cL_law 2399 = .ok (.aload_n 2, 1) := by decide +kernel
theorem dL_law_2400 : decode cL_law 2400 = .ok (.invokevirtual 270, 3) := by decide +kernel
theorem dL_law_2403 : decode cL_law 2403 = .ok (.istore 7, 2) := by decide +kernel
theorem dL_law_2405 : decode cL_law 2405 = .ok (.aload_n 2, 1) := by decide +kernel
theorem dL_law_2406 : decode cL_law 2406 = .ok (.invokevirtual 145, 3) := by decide +kernel
theorem dL_law_2409 : decode cL_law 2409 = .ok (.iload 6, 2) := by decide +kernel
theorem dL_law_2411 : decode cL_law 2411 = .ok (.if_icmp .eq 5, 3) := by decide +kernel
theorem dL_law_2414 : decode cL_law 2414 = .ok (.iconst 0, 1) := by decide +kernel
theorem dL_law_2415 : decode cL_law 2415 = .ok (.ireturn, 1) := by decide +kernel
theorem dL_law_2416 : decode cL_law 2416 = .ok (.iload 6, 2) := by decide +kernel
theorem dL_law_2418 : decode cL_law 2418 = .ok (.ifCond .ne 15, 3) := by decide +kernel
theorem dL_law_2421 : decode cL_law 2421 = .ok (.aload_n 3, 1) := by decide +kernel
theorem dL_law_2422 : decode cL_law 2422 = .ok (.iconst 0, 1) := by decide +kernel
theorem dL_law_2423 : decode cL_law 2423 = .ok (.laload, 1) := by decide +kernel
theorem dL_law_2424 : decode cL_law 2424 = .ok (.iload 7, 2) := by decide +kernel
theorem dL_law_2426 : decode cL_law 2426 = .ok (.i2l, 1) := by decide +kernel
theorem dL_law_2427 : decode cL_law 2427 = .ok (.lcmp, 1) := by decide +kernel
theorem dL_law_2428 : decode cL_law 2428 = .ok (.ifCond .eq 5, 3) := by decide +kernel
theorem dL_law_2431 : decode cL_law 2431 = .ok (.iconst 0, 1) := by decide +kernel
theorem dL_law_2432 : decode cL_law 2432 = .ok (.ireturn, 1) := by decide +kernel
theorem dL_law_2433 : decode cL_law 2433 = .ok (.goto 60, 3) := by decide +kernel
theorem dL_law_2436 : decode cL_law 2436 = .ok (.aload_n 1, 1) := by decide +kernel
theorem dL_law_2437 : decode cL_law 2437 = .ok (.invokevirtual 271, 3) := by decide +kernel
theorem dL_law_2440 : decode cL_law 2440 = .ok (.aload_n 2, 1) := by decide +kernel
theorem dL_law_2441 : decode cL_law 2441 = .ok (.invokevirtual 274, 3) := by decide +kernel
theorem dL_law_2444 : decode cL_law 2444 = .ok (.if_icmp .eq 49, 3) := by decide +kernel
theorem dL_law_2447 : decode cL_law 2447 = .ok (.iconst 0, 1) := by decide +kernel
theorem dL_law_2448 : decode cL_law 2448 = .ok (.ireturn, 1) := by decide +kernel
theorem dL_law_2449 : decode cL_law 2449 = .ok (.aload_n 1, 1) := by decide +kernel
theorem dL_law_2450 : decode cL_law 2450 = .ok (.aload_n 3, 1) := by decide +kernel
theorem dL_law_2451 : decode cL_law 2451 = .ok (.invokestatic 275, 3) := by decide +kernel
theorem dL_law_2454 : decode cL_law 2454 = .ok (.istore 6, 2) := by decide +kernel
theorem dL_law_2456 : decode cL_law 2456 = .ok (.aload_n 2, 1) := by decide +kernel
theorem dL_law_2457 : decode cL_law 2457 = .ok (.invokevirtual 277, 3) := by decide +kernel
theorem dL_law_2460 : decode cL_law 2460 = .ok (.istore 7, 2) := by decide +kernel
theorem dL_law_2462 : decode cL_law 2462 = .ok (.aload_n 2, 1) := by decide +kernel
theorem dL_law_2463 : decode cL_law 2463 = .ok (.invokevirtual 145, 3) := by decide +kernel
theorem dL_law_2466 : decode cL_law 2466 = .ok (.iload 6, 2) := by decide +kernel
theorem dL_law_2468 : decode cL_law 2468 = .ok (.if_icmp .eq 5, 3) := by decide +kernel
theorem dL_law_2471 : decode cL_law 2471 = .ok (.iconst 0, 1) := by decide +kernel
theorem dL_law_2472 : decode cL_law 2472 = .ok (.ireturn, 1) := by decide +kernel
theorem dL_law_2473 : decode cL_law 2473 = .ok (.iload 6, 2) := by decide +kernel
theorem dL_law_2475 : decode cL_law 2475 = .ok (.ifCond .ne 15, 3) := by decide +kernel
theorem dL_law_2478 : decode cL_law 2478 = .ok (.aload_n 3, 1) := by decide +kernel
theorem dL_law_2479 : decode cL_law 2479 = .ok (.iconst 0, 1) := by decide +kernel
theorem dL_law_2480 : decode cL_law 2480 = .ok (.laload, 1) := by decide +kernel
theorem dL_law_2481 : decode cL_law 2481 = .ok (.iload 7, 2) := by decide +kernel
theorem dL_law_2483 : decode cL_law 2483 = .ok (.i2l, 1) := by decide +kernel
theorem dL_law_2484 : decode cL_law 2484 = .ok (.lcmp, 1) := by decide +kernel
theorem dL_law_2485 : decode cL_law 2485 = .ok (.ifCond .eq 5, 3) := by decide +kernel
theorem dL_law_2488 : decode cL_law 2488 = .ok (.iconst 0, 1) := by decide +kernel
theorem dL_law_2489 : decode cL_law 2489 = .ok (.ireturn, 1) := by decide +kernel
theorem dL_law_2490 : decode cL_law 2490 = .ok (.goto 3, 3) := by decide +kernel
theorem dL_law_2493 : decode cL_law 2493 = .ok (.iinc 5 4, 3) := by decide +kernel
theorem dL_law_2496 : decode cL_law 2496 = .ok (.goto (-2468), 3) := by decide +kernel
theorem dL_law_2499 : decode cL_law 2499 = .ok (.iconst 1, 1) := by decide +kernel
theorem dL_law_2500 : decode cL_law 2500 = .ok (.ireturn, 1) := by decide +kernel
