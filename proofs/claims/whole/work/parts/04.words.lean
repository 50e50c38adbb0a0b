/-- the good words of the tables: the words of every method here -/
def gws : List Cond := lw_tbl.filter goodWord
theorem gws_in {w : Cond} (h : w ∈ gws) : w ∈ lw_tbl := (List.mem_filter.mp h).1
theorem kw {w : Cond} (i : Nat) (h : tables_1[i]? = some w) (hg : goodWord w = true) : w ∈ gws := List.mem_filter.mpr ⟨List.mem_append_right _ (List.mem_of_getElem? h), hg⟩
theorem kp {y : MethodName} (i n : Nat) (h : lw_privs[i]? = some (y, n)) : Cond.selects y.cls y y ∈ gws := List.mem_filter.mpr ⟨List.mem_append_left _ (List.mem_map.mpr ⟨(y, n), List.mem_of_getElem? h, rfl⟩), rfl⟩
theorem gws_good {c c' : Cond} (hc : c' ∈ gws) : GoodIn (c :: gws) (c' :: gws) := by
  intro w hw
  rcases List.mem_cons.mp hw with rfl | hw
  · exact ⟨List.mem_cons_of_mem _ hc, good_of_word (List.mem_filter.mp hc).2⟩
  · exact ⟨List.mem_cons_of_mem _ hw, good_of_word (List.mem_filter.mp hw).2⟩
theorem gws_good0 {c' : Cond} (hc : c' ∈ gws) : GoodIn gws (c' :: gws) := by
  intro w hw
  rcases List.mem_cons.mp hw with rfl | hw
  · exact ⟨hc, good_of_word (List.mem_filter.mp hc).2⟩
  · exact ⟨hw, good_of_word (List.mem_filter.mp hw).2⟩
theorem kt1 {w : Cond} (i : Nat) (h : tables_1_1[i]? = some w) (hg : goodWord w = true) : w ∈ gws := List.mem_filter.mpr ⟨List.mem_append_right _ (List.mem_append_left _ (List.mem_of_getElem? h)), hg⟩
theorem kt2 {w : Cond} (i : Nat) (h : tables_1_2[i]? = some w) (hg : goodWord w = true) : w ∈ gws := List.mem_filter.mpr ⟨List.mem_append_right _ (List.mem_append_right _ (List.mem_append_left _ (List.mem_of_getElem? h))), hg⟩
theorem kt3 {w : Cond} (i : Nat) (h : tables_1_3[i]? = some w) (hg : goodWord w = true) : w ∈ gws := List.mem_filter.mpr ⟨List.mem_append_right _ (List.mem_append_right _ (List.mem_append_right _ (List.mem_append_left _ (List.mem_of_getElem? h)))), hg⟩
theorem kt4 {w : Cond} (i : Nat) (h : tables_1_4[i]? = some w) (hg : goodWord w = true) : w ∈ gws := List.mem_filter.mpr ⟨List.mem_append_right _ (List.mem_append_right _ (List.mem_append_right _ (List.mem_append_right _ (List.mem_append_left _ (List.mem_of_getElem? h))))), hg⟩
theorem kt5 {w : Cond} (i : Nat) (h : tables_1_5[i]? = some w) (hg : goodWord w = true) : w ∈ gws := List.mem_filter.mpr ⟨List.mem_append_right _ (List.mem_append_right _ (List.mem_append_right _ (List.mem_append_right _ (List.mem_append_right _ (List.mem_append_left _ (List.mem_of_getElem? h)))))), hg⟩
theorem kt6 {w : Cond} (i : Nat) (h : tables_1_6[i]? = some w) (hg : goodWord w = true) : w ∈ gws := List.mem_filter.mpr ⟨List.mem_append_right _ (List.mem_append_right _ (List.mem_append_right _ (List.mem_append_right _ (List.mem_append_right _ (List.mem_append_right _ (List.mem_append_left _ (List.mem_of_getElem? h))))))), hg⟩
theorem kt7 {w : Cond} (i : Nat) (h : tables_1_7[i]? = some w) (hg : goodWord w = true) : w ∈ gws := List.mem_filter.mpr ⟨List.mem_append_right _ (List.mem_append_right _ (List.mem_append_right _ (List.mem_append_right _ (List.mem_append_right _ (List.mem_append_right _ (List.mem_append_right _ (List.mem_of_getElem? h))))))), hg⟩
theorem kp_0 : Cond.selects "java/lang/Throwable" (⟨"java/lang/Throwable", "fillInStackTrace", "(I)Ljava/lang/Throwable;"⟩ : MethodName) ⟨"java/lang/Throwable", "fillInStackTrace", "(I)Ljava/lang/Throwable;"⟩ ∈ gws := kp (y := ⟨"java/lang/Throwable", "fillInStackTrace", "(I)Ljava/lang/Throwable;"⟩) 0 6 (by decide +kernel)
theorem kp_1 : Cond.selects "Leasehall" (⟨"Leasehall", "knownServer", "(I)LLeasehall$Server;"⟩ : MethodName) ⟨"Leasehall", "knownServer", "(I)LLeasehall$Server;"⟩ ∈ gws := kp (y := ⟨"Leasehall", "knownServer", "(I)LLeasehall$Server;"⟩) 1 20 (by decide +kernel)
theorem kp_2 : Cond.selects "java/util/ArrayList" (⟨"java/util/ArrayList", "add", "(Ljava/lang/Object;[Ljava/lang/Object;I)V"⟩ : MethodName) ⟨"java/util/ArrayList", "add", "(Ljava/lang/Object;[Ljava/lang/Object;I)V"⟩ ∈ gws := kp (y := ⟨"java/util/ArrayList", "add", "(Ljava/lang/Object;[Ljava/lang/Object;I)V"⟩) 2 3 (by decide +kernel)
theorem kp_3 : Cond.selects "java/util/ArrayList" (⟨"java/util/ArrayList", "grow", "()[Ljava/lang/Object;"⟩ : MethodName) ⟨"java/util/ArrayList", "grow", "()[Ljava/lang/Object;"⟩ ∈ gws := kp (y := ⟨"java/util/ArrayList", "grow", "()[Ljava/lang/Object;"⟩) 3 3 (by decide +kernel)
theorem kp_4 : Cond.selects "java/util/ArrayList" (⟨"java/util/ArrayList", "grow", "(I)[Ljava/lang/Object;"⟩ : MethodName) ⟨"java/util/ArrayList", "grow", "(I)[Ljava/lang/Object;"⟩ ∈ gws := kp (y := ⟨"java/util/ArrayList", "grow", "(I)[Ljava/lang/Object;"⟩) 4 3 (by decide +kernel)
theorem kp_5 : Cond.selects "Leasehall" (⟨"Leasehall", "known", "(I)LLeasehall$Session;"⟩ : MethodName) ⟨"Leasehall", "known", "(I)LLeasehall$Session;"⟩ ∈ gws := kp (y := ⟨"Leasehall", "known", "(I)LLeasehall$Session;"⟩) 5 20 (by decide +kernel)
theorem kp_6 : Cond.selects "Leasehall" (⟨"Leasehall", "mustLive", "(LLeasehall$Session;)V"⟩ : MethodName) ⟨"Leasehall", "mustLive", "(LLeasehall$Session;)V"⟩ ∈ gws := kp (y := ⟨"Leasehall", "mustLive", "(LLeasehall$Session;)V"⟩) 6 20 (by decide +kernel)
theorem kp_7 : Cond.selects "Leasehall" (⟨"Leasehall", "forgetLocks", "(LLeasehall$Session;)V"⟩ : MethodName) ⟨"Leasehall", "forgetLocks", "(LLeasehall$Session;)V"⟩ ∈ gws := kp (y := ⟨"Leasehall", "forgetLocks", "(LLeasehall$Session;)V"⟩) 7 20 (by decide +kernel)
theorem kp_8 : Cond.selects "Leasehall" (⟨"Leasehall", "believe", "(LLeasehall$Session;IZ)V"⟩ : MethodName) ⟨"Leasehall", "believe", "(LLeasehall$Session;IZ)V"⟩ ∈ gws := kp (y := ⟨"Leasehall", "believe", "(LLeasehall$Session;IZ)V"⟩) 8 20 (by decide +kernel)
theorem kp_9 : Cond.selects "Leasehall" (⟨"Leasehall", "endSession", "(LLeasehall$Session;)I"⟩ : MethodName) ⟨"Leasehall", "endSession", "(LLeasehall$Session;)I"⟩ ∈ gws := kp (y := ⟨"Leasehall", "endSession", "(LLeasehall$Session;)I"⟩) 9 20 (by decide +kernel)
theorem kp_10 : Cond.selects "Leasehall" (⟨"Leasehall", "letHeldGo", "(II)I"⟩ : MethodName) ⟨"Leasehall", "letHeldGo", "(II)I"⟩ ∈ gws := kp (y := ⟨"Leasehall", "letHeldGo", "(II)I"⟩) 10 20 (by decide +kernel)
theorem kp_11 : Cond.selects "Leasehall" (⟨"Leasehall", "letGo", "(I)I"⟩ : MethodName) ⟨"Leasehall", "letGo", "(I)I"⟩ ∈ gws := kp (y := ⟨"Leasehall", "letGo", "(I)I"⟩) 11 20 (by decide +kernel)
theorem kp_12 : Cond.selects "Leasehall" (⟨"Leasehall", "record", "(III)V"⟩ : MethodName) ⟨"Leasehall", "record", "(III)V"⟩ ∈ gws := kp (y := ⟨"Leasehall", "record", "(III)V"⟩) 12 20 (by decide +kernel)
theorem kp_13 : Cond.selects "Leasehall$Tree" (⟨"Leasehall$Tree", "appear", "(III)V"⟩ : MethodName) ⟨"Leasehall$Tree", "appear", "(III)V"⟩ ∈ gws := kp (y := ⟨"Leasehall$Tree", "appear", "(III)V"⟩) 13 10 (by decide +kernel)
theorem kp_14 : Cond.selects "Leasehall$Tree" (⟨"Leasehall$Tree", "giveRights", "(IIZ)V"⟩ : MethodName) ⟨"Leasehall$Tree", "giveRights", "(IIZ)V"⟩ ∈ gws := kp (y := ⟨"Leasehall$Tree", "giveRights", "(IIZ)V"⟩) 14 10 (by decide +kernel)
theorem kp_15 : Cond.selects "Leasehall" (⟨"Leasehall", "commit", "()V"⟩ : MethodName) ⟨"Leasehall", "commit", "()V"⟩ ∈ gws := kp (y := ⟨"Leasehall", "commit", "()V"⟩) 15 20 (by decide +kernel)
theorem kp_16 : Cond.selects "Leasehall" (⟨"Leasehall", "wake", "(LLeasehall$Session;)V"⟩ : MethodName) ⟨"Leasehall", "wake", "(LLeasehall$Session;)V"⟩ ∈ gws := kp (y := ⟨"Leasehall", "wake", "(LLeasehall$Session;)V"⟩) 16 20 (by decide +kernel)
theorem kp_17 : Cond.selects "Leasehall" (⟨"Leasehall", "catchUp", "(LLeasehall$Server;I)I"⟩ : MethodName) ⟨"Leasehall", "catchUp", "(LLeasehall$Server;I)I"⟩ ∈ gws := kp (y := ⟨"Leasehall", "catchUp", "(LLeasehall$Server;I)I"⟩) 17 20 (by decide +kernel)
theorem kp_18 : Cond.selects "Leasehall" (⟨"Leasehall", "lapseSessions", "()V"⟩ : MethodName) ⟨"Leasehall", "lapseSessions", "()V"⟩ ∈ gws := kp (y := ⟨"Leasehall", "lapseSessions", "()V"⟩) 18 20 (by decide +kernel)
theorem kp_19 : Cond.selects "Leasehall" (⟨"Leasehall", "lapseLeases", "()V"⟩ : MethodName) ⟨"Leasehall", "lapseLeases", "()V"⟩ ∈ gws := kp (y := ⟨"Leasehall", "lapseLeases", "()V"⟩) 19 20 (by decide +kernel)
theorem kp_20 : Cond.selects "Leasehall" (⟨"Leasehall", "knownLease", "(I)LLeasehall$Lease;"⟩ : MethodName) ⟨"Leasehall", "knownLease", "(I)LLeasehall$Lease;"⟩ ∈ gws := kp (y := ⟨"Leasehall", "knownLease", "(I)LLeasehall$Lease;"⟩) 20 20 (by decide +kernel)
theorem kp_21 : Cond.selects "Leasehall" (⟨"Leasehall", "nextAct", "(LLeasehall$Session;)LLeasehall$Act;"⟩ : MethodName) ⟨"Leasehall", "nextAct", "(LLeasehall$Session;)LLeasehall$Act;"⟩ ∈ gws := kp (y := ⟨"Leasehall", "nextAct", "(LLeasehall$Session;)LLeasehall$Act;"⟩) 21 20 (by decide +kernel)
theorem kp_22 : Cond.selects "Leasehall" (⟨"Leasehall", "submit", "(LLeasehall$Session;LLeasehall$Act;)I"⟩ : MethodName) ⟨"Leasehall", "submit", "(LLeasehall$Session;LLeasehall$Act;)I"⟩ ∈ gws := kp (y := ⟨"Leasehall", "submit", "(LLeasehall$Session;LLeasehall$Act;)I"⟩) 22 20 (by decide +kernel)
theorem kp_23 : Cond.selects "Leasehall" (⟨"Leasehall", "begin", "()V"⟩ : MethodName) ⟨"Leasehall", "begin", "()V"⟩ ∈ gws := kp (y := ⟨"Leasehall", "begin", "()V"⟩) 23 20 (by decide +kernel)
theorem kp_24 : Cond.selects "Leasehall" (⟨"Leasehall", "perform", "(LLeasehall$Session;LLeasehall$Act;)I"⟩ : MethodName) ⟨"Leasehall", "perform", "(LLeasehall$Session;LLeasehall$Act;)I"⟩ ∈ gws := kp (y := ⟨"Leasehall", "perform", "(LLeasehall$Session;LLeasehall$Act;)I"⟩) 24 20 (by decide +kernel)
theorem kp_25 : Cond.selects "Leasehall" (⟨"Leasehall", "tryMake", "(LLeasehall$Session;LLeasehall$Act;)I"⟩ : MethodName) ⟨"Leasehall", "tryMake", "(LLeasehall$Session;LLeasehall$Act;)I"⟩ ∈ gws := kp (y := ⟨"Leasehall", "tryMake", "(LLeasehall$Session;LLeasehall$Act;)I"⟩) 25 20 (by decide +kernel)
theorem kp_26 : Cond.selects "Leasehall" (⟨"Leasehall", "isQuotaUsed", "(I)Z"⟩ : MethodName) ⟨"Leasehall", "isQuotaUsed", "(I)Z"⟩ ∈ gws := kp (y := ⟨"Leasehall", "isQuotaUsed", "(I)Z"⟩) 26 20 (by decide +kernel)
theorem kp_27 : Cond.selects "Leasehall" (⟨"Leasehall", "trySet", "(LLeasehall$Session;LLeasehall$Act;)I"⟩ : MethodName) ⟨"Leasehall", "trySet", "(LLeasehall$Session;LLeasehall$Act;)I"⟩ ∈ gws := kp (y := ⟨"Leasehall", "trySet", "(LLeasehall$Session;LLeasehall$Act;)I"⟩) 27 20 (by decide +kernel)
theorem kp_28 : Cond.selects "Leasehall" (⟨"Leasehall", "tryDelete", "(LLeasehall$Session;LLeasehall$Act;)I"⟩ : MethodName) ⟨"Leasehall", "tryDelete", "(LLeasehall$Session;LLeasehall$Act;)I"⟩ ∈ gws := kp (y := ⟨"Leasehall", "tryDelete", "(LLeasehall$Session;LLeasehall$Act;)I"⟩) 28 20 (by decide +kernel)
theorem kp_29 : Cond.selects "Leasehall" (⟨"Leasehall", "tryCheck", "(LLeasehall$Session;LLeasehall$Act;)I"⟩ : MethodName) ⟨"Leasehall", "tryCheck", "(LLeasehall$Session;LLeasehall$Act;)I"⟩ ∈ gws := kp (y := ⟨"Leasehall", "tryCheck", "(LLeasehall$Session;LLeasehall$Act;)I"⟩) 29 20 (by decide +kernel)
theorem kp_30 : Cond.selects "Leasehall" (⟨"Leasehall", "tryRights", "(LLeasehall$Session;LLeasehall$Act;)I"⟩ : MethodName) ⟨"Leasehall", "tryRights", "(LLeasehall$Session;LLeasehall$Act;)I"⟩ ∈ gws := kp (y := ⟨"Leasehall", "tryRights", "(LLeasehall$Session;LLeasehall$Act;)I"⟩) 30 20 (by decide +kernel)
theorem kp_31 : Cond.selects "Leasehall" (⟨"Leasehall", "settle", "(LLeasehall$Session;)Z"⟩ : MethodName) ⟨"Leasehall", "settle", "(LLeasehall$Session;)Z"⟩ ∈ gws := kp (y := ⟨"Leasehall", "settle", "(LLeasehall$Session;)Z"⟩) 31 20 (by decide +kernel)
theorem kp_32 : Cond.selects "Leasehall" (⟨"Leasehall", "undo", "()V"⟩ : MethodName) ⟨"Leasehall", "undo", "()V"⟩ ∈ gws := kp (y := ⟨"Leasehall", "undo", "()V"⟩) 32 20 (by decide +kernel)
theorem kp_33 : Cond.selects "Leasehall" (⟨"Leasehall", "performAll", "(LLeasehall$Session;)I"⟩ : MethodName) ⟨"Leasehall", "performAll", "(LLeasehall$Session;)I"⟩ ∈ gws := kp (y := ⟨"Leasehall", "performAll", "(LLeasehall$Session;)I"⟩) 33 20 (by decide +kernel)
theorem kp_34 : Cond.selects "Leasehall" (⟨"Leasehall", "tellWatches", "(LLeasehall$Session;)V"⟩ : MethodName) ⟨"Leasehall", "tellWatches", "(LLeasehall$Session;)V"⟩ ∈ gws := kp (y := ⟨"Leasehall", "tellWatches", "(LLeasehall$Session;)V"⟩) 34 20 (by decide +kernel)
theorem kp_35 : Cond.selects "Leasehall$Session" (⟨"Leasehall$Session", "watchesFor", "(IIILLeasehall$Births;)Z"⟩ : MethodName) ⟨"Leasehall$Session", "watchesFor", "(IIILLeasehall$Births;)Z"⟩ ∈ gws := kp (y := ⟨"Leasehall$Session", "watchesFor", "(IIILLeasehall$Births;)Z"⟩) 35 16 (by decide +kernel)
theorem kp_36 : Cond.selects "Leasehall$Row" (⟨"Leasehall$Row", "makeRoom", "()V"⟩ : MethodName) ⟨"Leasehall$Row", "makeRoom", "()V"⟩ ∈ gws := kp (y := ⟨"Leasehall$Row", "makeRoom", "()V"⟩) 36 3 (by decide +kernel)
theorem kp_37 : Cond.selects "Leasehall" (⟨"Leasehall", "mustBeChange", "(I)V"⟩ : MethodName) ⟨"Leasehall", "mustBeChange", "(I)V"⟩ ∈ gws := kp (y := ⟨"Leasehall", "mustBeChange", "(I)V"⟩) 37 20 (by decide +kernel)
theorem kp_38 : Cond.selects "Leasehall" (⟨"Leasehall", "mustBeKept", "(I)V"⟩ : MethodName) ⟨"Leasehall", "mustBeKept", "(I)V"⟩ ∈ gws := kp (y := ⟨"Leasehall", "mustBeKept", "(I)V"⟩) 38 20 (by decide +kernel)
theorem kp_39 : Cond.selects "LeasehallModel" (⟨"LeasehallModel", "in", "(III)Z"⟩ : MethodName) ⟨"LeasehallModel", "in", "(III)Z"⟩ ∈ gws := kp (y := ⟨"LeasehallModel", "in", "(III)Z"⟩) 39 58 (by decide +kernel)
theorem kp_40 : Cond.selects "LeasehallModel" (⟨"LeasehallModel", "holds", "(I)Z"⟩ : MethodName) ⟨"LeasehallModel", "holds", "(I)Z"⟩ ∈ gws := kp (y := ⟨"LeasehallModel", "holds", "(I)Z"⟩) 40 58 (by decide +kernel)
theorem kp_41 : Cond.selects "LeasehallModel" (⟨"LeasehallModel", "isSession", "(I)Z"⟩ : MethodName) ⟨"LeasehallModel", "isSession", "(I)Z"⟩ ∈ gws := kp (y := ⟨"LeasehallModel", "isSession", "(I)Z"⟩) 41 58 (by decide +kernel)
theorem kp_42 : Cond.selects "LeasehallModel" (⟨"LeasehallModel", "ended", "(I)Z"⟩ : MethodName) ⟨"LeasehallModel", "ended", "(I)Z"⟩ ∈ gws := kp (y := ⟨"LeasehallModel", "ended", "(I)Z"⟩) 42 58 (by decide +kernel)
theorem kp_43 : Cond.selects "LeasehallModel" (⟨"LeasehallModel", "stop", "(I)I"⟩ : MethodName) ⟨"LeasehallModel", "stop", "(I)I"⟩ ∈ gws := kp (y := ⟨"LeasehallModel", "stop", "(I)I"⟩) 43 58 (by decide +kernel)
theorem kp_44 : Cond.selects "LeasehallModel" (⟨"LeasehallModel", "ends", "(II)I"⟩ : MethodName) ⟨"LeasehallModel", "ends", "(II)I"⟩ ∈ gws := kp (y := ⟨"LeasehallModel", "ends", "(II)I"⟩) 44 58 (by decide +kernel)
theorem kp_45 : Cond.selects "LeasehallModel" (⟨"LeasehallModel", "begin", "()V"⟩ : MethodName) ⟨"LeasehallModel", "begin", "()V"⟩ ∈ gws := kp (y := ⟨"LeasehallModel", "begin", "()V"⟩) 45 58 (by decide +kernel)
theorem kp_46 : Cond.selects "LeasehallModel" (⟨"LeasehallModel", "copy", "(II)V"⟩ : MethodName) ⟨"LeasehallModel", "copy", "(II)V"⟩ ∈ gws := kp (y := ⟨"LeasehallModel", "copy", "(II)V"⟩) 46 58 (by decide +kernel)
theorem kp_47 : Cond.selects "LeasehallModel" (⟨"LeasehallModel", "goes", "(I)I"⟩ : MethodName) ⟨"LeasehallModel", "goes", "(I)I"⟩ ∈ gws := kp (y := ⟨"LeasehallModel", "goes", "(I)I"⟩) 47 58 (by decide +kernel)
theorem kp_48 : Cond.selects "LeasehallModel" (⟨"LeasehallModel", "step", "(IIII)V"⟩ : MethodName) ⟨"LeasehallModel", "step", "(IIII)V"⟩ ∈ gws := kp (y := ⟨"LeasehallModel", "step", "(IIII)V"⟩) 48 58 (by decide +kernel)
theorem kp_49 : Cond.selects "LeasehallModel" (⟨"LeasehallModel", "log", "(IIII)V"⟩ : MethodName) ⟨"LeasehallModel", "log", "(IIII)V"⟩ ∈ gws := kp (y := ⟨"LeasehallModel", "log", "(IIII)V"⟩) 49 58 (by decide +kernel)
theorem kp_50 : Cond.selects "LeasehallModel" (⟨"LeasehallModel", "apply", "(II)V"⟩ : MethodName) ⟨"LeasehallModel", "apply", "(II)V"⟩ ∈ gws := kp (y := ⟨"LeasehallModel", "apply", "(II)V"⟩) 50 58 (by decide +kernel)
theorem kp_51 : Cond.selects "LeasehallModel" (⟨"LeasehallModel", "children", "(II)I"⟩ : MethodName) ⟨"LeasehallModel", "children", "(II)I"⟩ ∈ gws := kp (y := ⟨"LeasehallModel", "children", "(II)I"⟩) 51 58 (by decide +kernel)
theorem kp_52 : Cond.selects "LeasehallModel" (⟨"LeasehallModel", "commit", "()V"⟩ : MethodName) ⟨"LeasehallModel", "commit", "()V"⟩ ∈ gws := kp (y := ⟨"LeasehallModel", "commit", "()V"⟩) 52 58 (by decide +kernel)
theorem kp_53 : Cond.selects "LeasehallModel" (⟨"LeasehallModel", "follows", "(II)V"⟩ : MethodName) ⟨"LeasehallModel", "follows", "(II)V"⟩ ∈ gws := kp (y := ⟨"LeasehallModel", "follows", "(II)V"⟩) 53 58 (by decide +kernel)
theorem kp_54 : Cond.selects "LeasehallModel" (⟨"LeasehallModel", "notice", "(II)V"⟩ : MethodName) ⟨"LeasehallModel", "notice", "(II)V"⟩ ∈ gws := kp (y := ⟨"LeasehallModel", "notice", "(II)V"⟩) 54 58 (by decide +kernel)
theorem kp_55 : Cond.selects "LeasehallModel" (⟨"LeasehallModel", "watched", "(II)V"⟩ : MethodName) ⟨"LeasehallModel", "watched", "(II)V"⟩ ∈ gws := kp (y := ⟨"LeasehallModel", "watched", "(II)V"⟩) 55 58 (by decide +kernel)
theorem kp_56 : Cond.selects "LeasehallModel" (⟨"LeasehallModel", "isBelow", "(II)Z"⟩ : MethodName) ⟨"LeasehallModel", "isBelow", "(II)Z"⟩ ∈ gws := kp (y := ⟨"LeasehallModel", "isBelow", "(II)Z"⟩) 56 58 (by decide +kernel)
theorem kp_57 : Cond.selects "LeasehallModel" (⟨"LeasehallModel", "tell", "(II)V"⟩ : MethodName) ⟨"LeasehallModel", "tell", "(II)V"⟩ ∈ gws := kp (y := ⟨"LeasehallModel", "tell", "(II)V"⟩) 57 58 (by decide +kernel)
theorem kp_58 : Cond.selects "LeasehallModel" (⟨"LeasehallModel", "does", "(I)V"⟩ : MethodName) ⟨"LeasehallModel", "does", "(I)V"⟩ ∈ gws := kp (y := ⟨"LeasehallModel", "does", "(I)V"⟩) 58 58 (by decide +kernel)
theorem kp_59 : Cond.selects "LeasehallModel" (⟨"LeasehallModel", "barred", "(I)Z"⟩ : MethodName) ⟨"LeasehallModel", "barred", "(I)Z"⟩ ∈ gws := kp (y := ⟨"LeasehallModel", "barred", "(I)Z"⟩) 59 58 (by decide +kernel)
theorem kp_60 : Cond.selects "LeasehallModel" (⟨"LeasehallModel", "act", "(IIIIIIII)I"⟩ : MethodName) ⟨"LeasehallModel", "act", "(IIIIIIII)I"⟩ ∈ gws := kp (y := ⟨"LeasehallModel", "act", "(IIIIIIII)I"⟩) 60 58 (by decide +kernel)
theorem kp_61 : Cond.selects "LeasehallModel" (⟨"LeasehallModel", "acts", "(IIIIIIII)I"⟩ : MethodName) ⟨"LeasehallModel", "acts", "(IIIIIIII)I"⟩ ∈ gws := kp (y := ⟨"LeasehallModel", "acts", "(IIIIIIII)I"⟩) 61 58 (by decide +kernel)
theorem kp_62 : Cond.selects "LeasehallModel" (⟨"LeasehallModel", "makes", "(IIIIIII)I"⟩ : MethodName) ⟨"LeasehallModel", "makes", "(IIIIIII)I"⟩ ∈ gws := kp (y := ⟨"LeasehallModel", "makes", "(IIIIIII)I"⟩) 62 58 (by decide +kernel)
theorem kp_63 : Cond.selects "LeasehallModel" (⟨"LeasehallModel", "isThere", "(II)Z"⟩ : MethodName) ⟨"LeasehallModel", "isThere", "(II)Z"⟩ ∈ gws := kp (y := ⟨"LeasehallModel", "isThere", "(II)Z"⟩) 63 58 (by decide +kernel)
theorem kp_64 : Cond.selects "LeasehallModel" (⟨"LeasehallModel", "may", "(II)Z"⟩ : MethodName) ⟨"LeasehallModel", "may", "(II)Z"⟩ ∈ gws := kp (y := ⟨"LeasehallModel", "may", "(II)Z"⟩) 64 58 (by decide +kernel)
theorem kp_65 : Cond.selects "LeasehallModel" (⟨"LeasehallModel", "named", "(II)I"⟩ : MethodName) ⟨"LeasehallModel", "named", "(II)I"⟩ ∈ gws := kp (y := ⟨"LeasehallModel", "named", "(II)I"⟩) 65 58 (by decide +kernel)
theorem kp_66 : Cond.selects "LeasehallModel" (⟨"LeasehallModel", "fills", "(I)Z"⟩ : MethodName) ⟨"LeasehallModel", "fills", "(I)Z"⟩ ∈ gws := kp (y := ⟨"LeasehallModel", "fills", "(I)Z"⟩) 66 58 (by decide +kernel)
theorem kp_67 : Cond.selects "LeasehallModel" (⟨"LeasehallModel", "below", "(I)I"⟩ : MethodName) ⟨"LeasehallModel", "below", "(I)I"⟩ ∈ gws := kp (y := ⟨"LeasehallModel", "below", "(I)I"⟩) 67 58 (by decide +kernel)
theorem kp_68 : Cond.selects "LeasehallModel" (⟨"LeasehallModel", "sets", "(IIII)I"⟩ : MethodName) ⟨"LeasehallModel", "sets", "(IIII)I"⟩ ∈ gws := kp (y := ⟨"LeasehallModel", "sets", "(IIII)I"⟩) 68 58 (by decide +kernel)
theorem kp_69 : Cond.selects "LeasehallModel" (⟨"LeasehallModel", "deletes", "(III)I"⟩ : MethodName) ⟨"LeasehallModel", "deletes", "(III)I"⟩ ∈ gws := kp (y := ⟨"LeasehallModel", "deletes", "(III)I"⟩) 69 58 (by decide +kernel)
theorem kp_70 : Cond.selects "LeasehallModel" (⟨"LeasehallModel", "gives", "(IIIII)I"⟩ : MethodName) ⟨"LeasehallModel", "gives", "(IIIII)I"⟩ ∈ gws := kp (y := ⟨"LeasehallModel", "gives", "(IIIII)I"⟩) 70 58 (by decide +kernel)
theorem kp_71 : Cond.selects "LeasehallModel" (⟨"LeasehallModel", "checks", "(III)I"⟩ : MethodName) ⟨"LeasehallModel", "checks", "(III)I"⟩ ∈ gws := kp (y := ⟨"LeasehallModel", "checks", "(III)I"⟩) 71 58 (by decide +kernel)
theorem kp_72 : Cond.selects "LeasehallModel" (⟨"LeasehallModel", "settles", "(I)Z"⟩ : MethodName) ⟨"LeasehallModel", "settles", "(I)Z"⟩ ∈ gws := kp (y := ⟨"LeasehallModel", "settles", "(I)Z"⟩) 72 58 (by decide +kernel)
theorem kp_73 : Cond.selects "LeasehallModel" (⟨"LeasehallModel", "undo", "()V"⟩ : MethodName) ⟨"LeasehallModel", "undo", "()V"⟩ ∈ gws := kp (y := ⟨"LeasehallModel", "undo", "()V"⟩) 73 58 (by decide +kernel)
theorem kp_74 : Cond.selects "LeasehallModel" (⟨"LeasehallModel", "sees", "(II)I"⟩ : MethodName) ⟨"LeasehallModel", "sees", "(II)I"⟩ ∈ gws := kp (y := ⟨"LeasehallModel", "sees", "(II)I"⟩) 74 58 (by decide +kernel)
theorem kp_75 : Cond.selects "LeasehallModel" (⟨"LeasehallModel", "childAt", "(IIII)I"⟩ : MethodName) ⟨"LeasehallModel", "childAt", "(IIII)I"⟩ ∈ gws := kp (y := ⟨"LeasehallModel", "childAt", "(IIII)I"⟩) 75 58 (by decide +kernel)
theorem kw_0 : (Jvm.Cond.initialized "LeasehallLaw") ∈ gws := kt1 0 rfl rfl
theorem kw_1 : (Jvm.Cond.initialized "Leasehall") ∈ gws := kt1 1 rfl rfl
theorem kw_2 : (Jvm.Cond.initialized "Leasehall$Births") ∈ gws := kt1 2 rfl rfl
theorem kw_3 : (Jvm.Cond.initialized "Leasehall$Tree") ∈ gws := kt1 3 rfl rfl
theorem kw_4 : (Jvm.Cond.initialized "Leasehall$Log") ∈ gws := kt1 4 rfl rfl
theorem kw_5 : (Jvm.Cond.initialized "java/util/AbstractCollection") ∈ gws := kt1 5 rfl rfl
theorem kw_6 : (Jvm.Cond.initialized "java/util/AbstractList") ∈ gws := kt1 6 rfl rfl
theorem kw_7 : (Jvm.Cond.initialized "java/util/ArrayList") ∈ gws := kt1 7 rfl rfl
theorem kw_8 : (Jvm.Cond.initialized "Leasehall$Act") ∈ gws := kt1 8 rfl rfl
theorem kw_9 : (Jvm.Cond.initialized "Leasehall$Server") ∈ gws := kt1 9 rfl rfl
theorem kw_10 : (Jvm.Cond.initialized "java/util/Arrays") ∈ gws := kt1 10 rfl rfl
theorem kw_11 : (Jvm.Cond.initialized "LeasehallModel") ∈ gws := kt1 11 rfl rfl
theorem kw_12 : (Jvm.Cond.initialized "java/lang/Throwable") ∈ gws := kt1 12 rfl rfl
theorem kw_13 : (Jvm.Cond.initialized "java/lang/Exception") ∈ gws := kt1 13 rfl rfl
theorem kw_14 : (Jvm.Cond.initialized "java/lang/RuntimeException") ∈ gws := kt1 14 rfl rfl
theorem kw_15 : (Jvm.Cond.initialized "java/lang/IndexOutOfBoundsException") ∈ gws := kt1 15 rfl rfl
theorem kw_16 : (Jvm.Cond.initialized "java/lang/IllegalArgumentException") ∈ gws := kt1 16 rfl rfl
theorem kw_17 : (Jvm.Cond.initialized "java/lang/IllegalStateException") ∈ gws := kt1 17 rfl rfl
theorem kw_18 : (Jvm.Cond.initialized "Leasehall$Session") ∈ gws := kt1 18 rfl rfl
theorem kw_19 : (Jvm.Cond.initialized "Leasehall$Row") ∈ gws := kt1 19 rfl rfl
theorem kw_20 : (Jvm.Cond.initialized "jdk/internal/util/ArraysSupport") ∈ gws := kt1 20 rfl rfl
theorem kw_21 : (Jvm.Cond.initialized "java/lang/Math") ∈ gws := kt1 21 rfl rfl
theorem kw_22 : (Jvm.Cond.initialized "java/lang/System") ∈ gws := kt1 22 rfl rfl
theorem kw_23 : (Jvm.Cond.initialized "java/util/Objects") ∈ gws := kt1 23 rfl rfl
theorem kw_24 : (Jvm.Cond.initialized "jdk/internal/util/Preconditions") ∈ gws := kt1 24 rfl rfl
theorem kw_25 : (Jvm.Cond.initialized "Leasehall$Lease") ∈ gws := kt1 25 rfl rfl
theorem kw_26 : (Jvm.Cond.classLink "LeasehallLaw" (8 : Nat) "Leasehall") ∈ gws := kt1 26 rfl rfl
theorem kw_27 : (Jvm.Cond.instantiable "Leasehall" (20 : Nat)) ∈ gws := kt1 27 rfl rfl
theorem kw_28 : (Jvm.Cond.methodLink "LeasehallLaw" (122 : Nat) ({ cls := "Leasehall", name := "<init>", desc := "()V" } : Jvm.MethodName)) ∈ gws := kt1 28 rfl rfl
theorem kw_29 : (Jvm.Cond.instanceMethod ({ cls := "Leasehall", name := "<init>", desc := "()V" } : Jvm.MethodName)) ∈ gws := kt1 29 rfl rfl
theorem kw_30 : (Jvm.Cond.code ({ cls := "Leasehall", name := "<init>", desc := "()V" } : Jvm.MethodName) prog_1_method_1_code (2 : Nat) (Option.none : Option Jvm.ClassFile.FieldType)) ∈ gws := kt1 30 rfl rfl
theorem kw_31 : (Jvm.Cond.methodLink "Leasehall" (1 : Nat) ({ cls := "java/lang/Object", name := "<init>", desc := "()V" } : Jvm.MethodName)) ∈ gws := kt1 31 rfl rfl
theorem kw_32 : (Jvm.Cond.instanceMethod ({ cls := "java/lang/Object", name := "<init>", desc := "()V" } : Jvm.MethodName)) ∈ gws := kt1 32 rfl rfl
theorem kw_33 : (Jvm.Cond.code ({ cls := "java/lang/Object", name := "<init>", desc := "()V" } : Jvm.MethodName) object_method_1_code (1 : Nat) (Option.none : Option Jvm.ClassFile.FieldType)) ∈ gws := kt1 33 rfl rfl
theorem kw_34 : (Jvm.Cond.classLink "Leasehall" (7 : Nat) "Leasehall$Births") ∈ gws := kt1 34 rfl rfl
theorem kw_35 : (Jvm.Cond.instantiable "Leasehall$Births" (6 : Nat)) ∈ gws := kt1 35 rfl rfl
theorem kw_36 : (Jvm.Cond.methodLink "Leasehall" (9 : Nat) ({ cls := "Leasehall$Births", name := "<init>", desc := "()V" } : Jvm.MethodName)) ∈ gws := kt1 36 rfl rfl
theorem kw_37 : (Jvm.Cond.instanceMethod ({ cls := "Leasehall$Births", name := "<init>", desc := "()V" } : Jvm.MethodName)) ∈ gws := kt1 37 rfl rfl
theorem kw_38 : (Jvm.Cond.code ({ cls := "Leasehall$Births", name := "<init>", desc := "()V" } : Jvm.MethodName) prog_3_method_1_code (1 : Nat) (Option.none : Option Jvm.ClassFile.FieldType)) ∈ gws := kt1 38 rfl rfl
theorem kw_39 : (Jvm.Cond.methodLink "Leasehall$Births" (3 : Nat) ({ cls := "java/lang/Object", name := "<init>", desc := "()V" } : Jvm.MethodName)) ∈ gws := kt1 39 rfl rfl
theorem kw_40 : (Jvm.Cond.fieldLink "Leasehall$Births" (9 : Nat) "Leasehall$Births" "parent" "[I") ∈ gws := kt1 40 rfl rfl
theorem kw_41 : (Jvm.Cond.fieldLink "Leasehall$Tree" (50 : Nat) "Leasehall$Births" "parent" "[I") ∈ gws := kt1 41 rfl rfl
theorem kw_42 : (Jvm.Cond.fieldLink "Leasehall$Session" (82 : Nat) "Leasehall$Births" "parent" "[I") ∈ gws := kt1 42 rfl rfl
theorem kw_43 : (Jvm.Cond.fieldLink "Leasehall" (479 : Nat) "Leasehall$Births" "parent" "[I") ∈ gws := kt1 43 rfl rfl
theorem kw_44 : (Jvm.Cond.fieldLink "Leasehall$Births" (15 : Nat) "Leasehall$Births" "name" "[I") ∈ gws := kt1 44 rfl rfl
theorem kw_45 : (Jvm.Cond.fieldLink "Leasehall$Tree" (61 : Nat) "Leasehall$Births" "name" "[I") ∈ gws := kt1 45 rfl rfl
theorem kw_46 : (Jvm.Cond.fieldLink "Leasehall$Births" (18 : Nat) "Leasehall$Births" "kind" "[I") ∈ gws := kt1 46 rfl rfl
theorem kw_47 : (Jvm.Cond.fieldLink "Leasehall$Tree" (71 : Nat) "Leasehall$Births" "kind" "[I") ∈ gws := kt1 47 rfl rfl
theorem kw_48 : (Jvm.Cond.fieldLink "Leasehall" (488 : Nat) "Leasehall$Births" "kind" "[I") ∈ gws := kt1 48 rfl rfl
theorem kw_49 : (Jvm.Cond.fieldLink "Leasehall$Births" (21 : Nat) "Leasehall$Births" "holder" "[I") ∈ gws := kt1 49 rfl rfl
theorem kw_50 : (Jvm.Cond.fieldLink "Leasehall$Tree" (88 : Nat) "Leasehall$Births" "holder" "[I") ∈ gws := kt1 50 rfl rfl
theorem kw_51 : (Jvm.Cond.fieldLink "Leasehall" (505 : Nat) "Leasehall$Births" "holder" "[I") ∈ gws := kt1 51 rfl rfl
theorem kw_52 : (Jvm.Cond.fieldLink "Leasehall$Births" (24 : Nat) "Leasehall$Births" "change" "[I") ∈ gws := kt1 52 rfl rfl
theorem kw_53 : (Jvm.Cond.fieldLink "Leasehall$Tree" (74 : Nat) "Leasehall$Births" "change" "[I") ∈ gws := kt1 53 rfl rfl
theorem kw_54 : (Jvm.Cond.fieldLink "Leasehall$Births" (27 : Nat) "Leasehall$Births" "made" "I") ∈ gws := kt1 54 rfl rfl
theorem kw_55 : (Jvm.Cond.fieldLink "Leasehall" (424 : Nat) "Leasehall$Births" "made" "I") ∈ gws := kt1 55 rfl rfl
theorem kw_56 : (Jvm.Cond.laysFinal "Leasehall$Births" "Leasehall$Births" "parent" "[I") ∈ gws := kt1 56 rfl rfl
theorem kw_57 : (Jvm.Cond.soleField "Leasehall$Births" "parent") ∈ gws := kt1 57 rfl rfl
theorem kw_58 : (Jvm.Cond.laysFinal "Leasehall$Births" "Leasehall$Births" "name" "[I") ∈ gws := kt1 58 rfl rfl
theorem kw_59 : (Jvm.Cond.soleField "Leasehall$Births" "name") ∈ gws := kt1 59 rfl rfl
theorem kw_60 : (Jvm.Cond.laysFinal "Leasehall$Births" "Leasehall$Births" "kind" "[I") ∈ gws := kt1 60 rfl rfl
theorem kw_61 : (Jvm.Cond.soleField "Leasehall$Births" "kind") ∈ gws := kt1 61 rfl rfl
theorem kw_62 : (Jvm.Cond.laysFinal "Leasehall$Births" "Leasehall$Births" "holder" "[I") ∈ gws := kt1 62 rfl rfl
theorem kw_63 : (Jvm.Cond.soleField "Leasehall$Births" "holder") ∈ gws := kt1 63 rfl rfl
theorem kw_64 : (Jvm.Cond.laysFinal "Leasehall$Births" "Leasehall$Births" "change" "[I") ∈ gws := kt1 64 rfl rfl
theorem kw_65 : (Jvm.Cond.soleField "Leasehall$Births" "change") ∈ gws := kt1 65 rfl rfl
theorem kw_66 : (Jvm.Cond.lays "Leasehall$Births" "Leasehall$Births" "made" "I") ∈ gws := kt1 66 rfl rfl
theorem kw_67 : (Jvm.Cond.soleField "Leasehall$Births" "made") ∈ gws := kt1 67 rfl rfl
theorem kw_69 : (Jvm.Cond.arrayClass Jvm.ClassFile.FieldType.int) ∈ gws := kt1 69 rfl rfl
theorem kw_70 : (Jvm.Cond.classLink "Leasehall" (16 : Nat) "Leasehall$Server") ∈ gws := kt1 70 rfl rfl
theorem kw_72 : (Jvm.Cond.classLink "Leasehall" (22 : Nat) "Leasehall$Tree") ∈ gws := kt1 72 rfl rfl
theorem kw_73 : (Jvm.Cond.instantiable "Leasehall$Tree" (10 : Nat)) ∈ gws := kt1 73 rfl rfl
theorem kw_74 : (Jvm.Cond.methodLink "Leasehall" (24 : Nat) ({ cls := "Leasehall$Tree", name := "<init>", desc := "(LLeasehall$Births;)V" } : Jvm.MethodName)) ∈ gws := kt1 74 rfl rfl
theorem kw_75 : (Jvm.Cond.instanceMethod ({ cls := "Leasehall$Tree", name := "<init>", desc := "(LLeasehall$Births;)V" } : Jvm.MethodName)) ∈ gws := kt1 75 rfl rfl
theorem kw_76 : (Jvm.Cond.code ({ cls := "Leasehall$Tree", name := "<init>", desc := "(LLeasehall$Births;)V" } : Jvm.MethodName) prog_9_method_1_code (2 : Nat) (Option.none : Option Jvm.ClassFile.FieldType)) ∈ gws := kt1 76 rfl rfl
theorem kw_77 : (Jvm.Cond.methodLink "Leasehall$Tree" (3 : Nat) ({ cls := "java/lang/Object", name := "<init>", desc := "()V" } : Jvm.MethodName)) ∈ gws := kt1 77 rfl rfl
theorem kw_78 : (Jvm.Cond.fieldLink "Leasehall$Tree" (40 : Nat) "Leasehall$Tree" "births" "LLeasehall$Births;") ∈ gws := kt1 78 rfl rfl
theorem kw_79 : (Jvm.Cond.fieldLink "Leasehall$Tree" (9 : Nat) "Leasehall$Tree" "here" "[Z") ∈ gws := kt1 79 rfl rfl
theorem kw_80 : (Jvm.Cond.fieldLink "Leasehall" (352 : Nat) "Leasehall$Tree" "here" "[Z") ∈ gws := kt1 80 rfl rfl
theorem kw_81 : (Jvm.Cond.fieldLink "Leasehall$Tree" (15 : Nat) "Leasehall$Tree" "value" "[I") ∈ gws := kt1 81 rfl rfl
theorem kw_82 : (Jvm.Cond.fieldLink "Leasehall" (341 : Nat) "Leasehall$Tree" "value" "[I") ∈ gws := kt1 82 rfl rfl
theorem kw_83 : (Jvm.Cond.fieldLink "Leasehall$Tree" (19 : Nat) "Leasehall$Tree" "valueVersion" "[I") ∈ gws := kt1 83 rfl rfl
theorem kw_84 : (Jvm.Cond.fieldLink "Leasehall" (476 : Nat) "Leasehall$Tree" "valueVersion" "[I") ∈ gws := kt1 84 rfl rfl
theorem kw_85 : (Jvm.Cond.fieldLink "Leasehall$Tree" (22 : Nat) "Leasehall$Tree" "childVersion" "[I") ∈ gws := kt1 85 rfl rfl
theorem kw_86 : (Jvm.Cond.fieldLink "Leasehall$Tree" (25 : Nat) "Leasehall$Tree" "rightsVersion" "[I") ∈ gws := kt1 86 rfl rfl
theorem kw_87 : (Jvm.Cond.fieldLink "Leasehall$Tree" (28 : Nat) "Leasehall$Tree" "rights" "[I") ∈ gws := kt1 87 rfl rfl
theorem kw_88 : (Jvm.Cond.fieldLink "Leasehall$Tree" (31 : Nat) "Leasehall$Tree" "numbered" "[I") ∈ gws := kt1 88 rfl rfl
theorem kw_89 : (Jvm.Cond.fieldLink "Leasehall" (458 : Nat) "Leasehall$Tree" "numbered" "[I") ∈ gws := kt1 89 rfl rfl
theorem kw_90 : (Jvm.Cond.fieldLink "Leasehall$Tree" (34 : Nat) "Leasehall$Tree" "below" "[I") ∈ gws := kt1 90 rfl rfl
theorem kw_91 : (Jvm.Cond.fieldLink "Leasehall" (485 : Nat) "Leasehall$Tree" "below" "[I") ∈ gws := kt1 91 rfl rfl
theorem kw_92 : (Jvm.Cond.fieldLink "Leasehall$Tree" (37 : Nat) "Leasehall$Tree" "given" "[Z") ∈ gws := kt1 92 rfl rfl
theorem kw_93 : (Jvm.Cond.laysFinal "Leasehall$Tree" "Leasehall$Tree" "births" "LLeasehall$Births;") ∈ gws := kt1 93 rfl rfl
theorem kw_94 : (Jvm.Cond.soleField "Leasehall$Tree" "births") ∈ gws := kt1 94 rfl rfl
theorem kw_95 : (Jvm.Cond.laysFinal "Leasehall$Tree" "Leasehall$Tree" "here" "[Z") ∈ gws := kt1 95 rfl rfl
theorem kw_96 : (Jvm.Cond.soleField "Leasehall$Tree" "here") ∈ gws := kt1 96 rfl rfl
theorem kw_97 : (Jvm.Cond.laysFinal "Leasehall$Tree" "Leasehall$Tree" "value" "[I") ∈ gws := kt1 97 rfl rfl
theorem kw_98 : (Jvm.Cond.soleField "Leasehall$Tree" "value") ∈ gws := kt1 98 rfl rfl
theorem kw_99 : (Jvm.Cond.laysFinal "Leasehall$Tree" "Leasehall$Tree" "valueVersion" "[I") ∈ gws := kt1 99 rfl rfl
theorem kw_100 : (Jvm.Cond.soleField "Leasehall$Tree" "valueVersion") ∈ gws := kt1 100 rfl rfl
theorem kw_101 : (Jvm.Cond.laysFinal "Leasehall$Tree" "Leasehall$Tree" "childVersion" "[I") ∈ gws := kt1 101 rfl rfl
theorem kw_102 : (Jvm.Cond.soleField "Leasehall$Tree" "childVersion") ∈ gws := kt1 102 rfl rfl
theorem kw_103 : (Jvm.Cond.laysFinal "Leasehall$Tree" "Leasehall$Tree" "rightsVersion" "[I") ∈ gws := kt1 103 rfl rfl
theorem kw_104 : (Jvm.Cond.soleField "Leasehall$Tree" "rightsVersion") ∈ gws := kt1 104 rfl rfl
theorem kw_105 : (Jvm.Cond.laysFinal "Leasehall$Tree" "Leasehall$Tree" "rights" "[I") ∈ gws := kt1 105 rfl rfl
theorem kw_106 : (Jvm.Cond.soleField "Leasehall$Tree" "rights") ∈ gws := kt1 106 rfl rfl
theorem kw_107 : (Jvm.Cond.laysFinal "Leasehall$Tree" "Leasehall$Tree" "numbered" "[I") ∈ gws := kt1 107 rfl rfl
theorem kw_108 : (Jvm.Cond.soleField "Leasehall$Tree" "numbered") ∈ gws := kt1 108 rfl rfl
theorem kw_109 : (Jvm.Cond.laysFinal "Leasehall$Tree" "Leasehall$Tree" "below" "[I") ∈ gws := kt1 109 rfl rfl
theorem kw_110 : (Jvm.Cond.soleField "Leasehall$Tree" "below") ∈ gws := kt1 110 rfl rfl
theorem kw_111 : (Jvm.Cond.laysFinal "Leasehall$Tree" "Leasehall$Tree" "given" "[Z") ∈ gws := kt1 111 rfl rfl
theorem kw_112 : (Jvm.Cond.soleField "Leasehall$Tree" "given") ∈ gws := kt1 112 rfl rfl
theorem kw_114 : (Jvm.Cond.arrayClass Jvm.ClassFile.FieldType.boolean) ∈ gws := kt1 114 rfl rfl
theorem kw_115 : (Jvm.Cond.classLink "Leasehall" (37 : Nat) "Leasehall$Log") ∈ gws := kt1 115 rfl rfl
theorem kw_116 : (Jvm.Cond.instantiable "Leasehall$Log" (5 : Nat)) ∈ gws := kt1 116 rfl rfl
theorem kw_118 : (Jvm.Cond.instanceMethod ({ cls := "Leasehall$Log", name := "<init>", desc := "()V" } : Jvm.MethodName)) ∈ gws := kt1 118 rfl rfl
theorem kw_119 : (Jvm.Cond.code ({ cls := "Leasehall$Log", name := "<init>", desc := "()V" } : Jvm.MethodName) prog_5_method_1_code (1 : Nat) (Option.none : Option Jvm.ClassFile.FieldType)) ∈ gws := kt1 119 rfl rfl
theorem kw_120 : (Jvm.Cond.methodLink "Leasehall$Log" (3 : Nat) ({ cls := "java/lang/Object", name := "<init>", desc := "()V" } : Jvm.MethodName)) ∈ gws := kt1 120 rfl rfl
theorem kw_121 : (Jvm.Cond.fieldLink "Leasehall$Log" (9 : Nat) "Leasehall$Log" "change" "[I") ∈ gws := kt1 121 rfl rfl
theorem kw_122 : (Jvm.Cond.fieldLink "Leasehall" (358 : Nat) "Leasehall$Log" "change" "[I") ∈ gws := kt1 122 rfl rfl
theorem kw_123 : (Jvm.Cond.fieldLink "Leasehall$Log" (15 : Nat) "Leasehall$Log" "kind" "[I") ∈ gws := kt1 123 rfl rfl
theorem kw_124 : (Jvm.Cond.fieldLink "Leasehall" (367 : Nat) "Leasehall$Log" "kind" "[I") ∈ gws := kt1 124 rfl rfl
theorem kw_125 : (Jvm.Cond.fieldLink "Leasehall$Log" (18 : Nat) "Leasehall$Log" "node" "[I") ∈ gws := kt1 125 rfl rfl
theorem kw_126 : (Jvm.Cond.fieldLink "Leasehall" (361 : Nat) "Leasehall$Log" "node" "[I") ∈ gws := kt1 126 rfl rfl
theorem kw_127 : (Jvm.Cond.fieldLink "Leasehall$Log" (21 : Nat) "Leasehall$Log" "number" "[I") ∈ gws := kt1 127 rfl rfl
theorem kw_128 : (Jvm.Cond.fieldLink "Leasehall" (370 : Nat) "Leasehall$Log" "number" "[I") ∈ gws := kt1 128 rfl rfl
theorem kw_129 : (Jvm.Cond.fieldLink "Leasehall$Log" (24 : Nat) "Leasehall$Log" "size" "I") ∈ gws := kt1 129 rfl rfl
theorem kw_130 : (Jvm.Cond.fieldLink "Leasehall" (356 : Nat) "Leasehall$Log" "size" "I") ∈ gws := kt1 130 rfl rfl
theorem kw_131 : (Jvm.Cond.laysFinal "Leasehall$Log" "Leasehall$Log" "change" "[I") ∈ gws := kt1 131 rfl rfl
theorem kw_132 : (Jvm.Cond.soleField "Leasehall$Log" "change") ∈ gws := kt1 132 rfl rfl
theorem kw_133 : (Jvm.Cond.laysFinal "Leasehall$Log" "Leasehall$Log" "kind" "[I") ∈ gws := kt1 133 rfl rfl
theorem kw_134 : (Jvm.Cond.soleField "Leasehall$Log" "kind") ∈ gws := kt1 134 rfl rfl
theorem kw_135 : (Jvm.Cond.laysFinal "Leasehall$Log" "Leasehall$Log" "node" "[I") ∈ gws := kt1 135 rfl rfl
theorem kw_136 : (Jvm.Cond.soleField "Leasehall$Log" "node") ∈ gws := kt1 136 rfl rfl
theorem kw_137 : (Jvm.Cond.laysFinal "Leasehall$Log" "Leasehall$Log" "number" "[I") ∈ gws := kt1 137 rfl rfl
theorem kw_138 : (Jvm.Cond.soleField "Leasehall$Log" "number") ∈ gws := kt1 138 rfl rfl
theorem kw_139 : (Jvm.Cond.lays "Leasehall$Log" "Leasehall$Log" "size" "I") ∈ gws := kt1 139 rfl rfl
theorem kw_140 : (Jvm.Cond.soleField "Leasehall$Log" "size") ∈ gws := kt1 140 rfl rfl
theorem kw_142 : (Jvm.Cond.classLink "Leasehall" (47 : Nat) "java/util/ArrayList") ∈ gws := kt1 142 rfl rfl
theorem kw_143 : (Jvm.Cond.instantiable "java/util/ArrayList" (3 : Nat)) ∈ gws := kt1 143 rfl rfl
theorem kw_144 : (Jvm.Cond.methodLink "Leasehall" (49 : Nat) ({ cls := "java/util/ArrayList", name := "<init>", desc := "()V" } : Jvm.MethodName)) ∈ gws := kt1 144 rfl rfl
theorem kw_145 : (Jvm.Cond.instanceMethod ({ cls := "java/util/ArrayList", name := "<init>", desc := "()V" } : Jvm.MethodName)) ∈ gws := kt1 145 rfl rfl
theorem kw_146 : (Jvm.Cond.code ({ cls := "java/util/ArrayList", name := "<init>", desc := "()V" } : Jvm.MethodName) prog_26_method_2_code (1 : Nat) (Option.none : Option Jvm.ClassFile.FieldType)) ∈ gws := kt1 146 rfl rfl
theorem kw_147 : (Jvm.Cond.methodLink "java/util/ArrayList" (1 : Nat) ({ cls := "java/util/AbstractList", name := "<init>", desc := "()V" } : Jvm.MethodName)) ∈ gws := kt1 147 rfl rfl
theorem kw_148 : (Jvm.Cond.instanceMethod ({ cls := "java/util/AbstractList", name := "<init>", desc := "()V" } : Jvm.MethodName)) ∈ gws := kt1 148 rfl rfl
theorem kw_149 : (Jvm.Cond.code ({ cls := "java/util/AbstractList", name := "<init>", desc := "()V" } : Jvm.MethodName) prog_25_method_1_code (1 : Nat) (Option.none : Option Jvm.ClassFile.FieldType)) ∈ gws := kt1 149 rfl rfl
theorem kw_150 : (Jvm.Cond.methodLink "java/util/AbstractList" (1 : Nat) ({ cls := "java/util/AbstractCollection", name := "<init>", desc := "()V" } : Jvm.MethodName)) ∈ gws := kt1 150 rfl rfl
theorem kw_151 : (Jvm.Cond.instanceMethod ({ cls := "java/util/AbstractCollection", name := "<init>", desc := "()V" } : Jvm.MethodName)) ∈ gws := kt1 151 rfl rfl
theorem kw_152 : (Jvm.Cond.code ({ cls := "java/util/AbstractCollection", name := "<init>", desc := "()V" } : Jvm.MethodName) prog_24_method_1_code (1 : Nat) (Option.none : Option Jvm.ClassFile.FieldType)) ∈ gws := kt1 152 rfl rfl
theorem kw_153 : (Jvm.Cond.methodLink "java/util/AbstractCollection" (1 : Nat) ({ cls := "java/lang/Object", name := "<init>", desc := "()V" } : Jvm.MethodName)) ∈ gws := kt1 153 rfl rfl
theorem kw_154 : (Jvm.Cond.fieldLink "java/util/ArrayList" (39 : Nat) "java/util/ArrayList" "DEFAULTCAPACITY_EMPTY_ELEMENTDATA" "[Ljava/lang/Object;") ∈ gws := kt1 154 rfl rfl
theorem kw_156 : (Jvm.Cond.fieldLink "java/util/ArrayList" (9 : Nat) "java/util/ArrayList" "elementData" "[Ljava/lang/Object;") ∈ gws := kt1 156 rfl rfl
theorem kw_157 : (Jvm.Cond.fieldLink "java/util/ArrayList" (48 : Nat) "java/util/ArrayList" "size" "I") ∈ gws := kt1 157 rfl rfl
theorem kw_158 : (Jvm.Cond.fieldLink "java/util/AbstractList" (7 : Nat) "java/util/AbstractList" "modCount" "I") ∈ gws := kt1 158 rfl rfl
theorem kw_159 : (Jvm.Cond.fieldLink "java/util/ArrayList" (63 : Nat) "java/util/ArrayList" "modCount" "I") ∈ gws := kt1 159 rfl rfl
theorem kw_161 : (Jvm.Cond.lays "java/util/ArrayList" "java/util/ArrayList" "elementData" "[Ljava/lang/Object;") ∈ gws := kt1 161 rfl rfl
theorem kw_162 : (Jvm.Cond.soleField "java/util/ArrayList" "elementData") ∈ gws := kt1 162 rfl rfl
theorem kw_163 : (Jvm.Cond.lays "java/util/ArrayList" "java/util/ArrayList" "size" "I") ∈ gws := kt1 163 rfl rfl
theorem kw_164 : (Jvm.Cond.soleField "java/util/ArrayList" "size") ∈ gws := kt1 164 rfl rfl
theorem kw_165 : (Jvm.Cond.lays "java/util/ArrayList" "java/util/AbstractList" "modCount" "I") ∈ gws := kt1 165 rfl rfl
theorem kw_166 : (Jvm.Cond.soleField "java/util/AbstractList" "modCount") ∈ gws := kt1 166 rfl rfl
theorem kw_168 : (Jvm.Cond.classLink "Leasehall" (57 : Nat) "Leasehall$Act") ∈ gws := kt1 168 rfl rfl
theorem kw_169 : (Jvm.Cond.instantiable "Leasehall$Act" (7 : Nat)) ∈ gws := kt1 169 rfl rfl
theorem kw_171 : (Jvm.Cond.instanceMethod ({ cls := "Leasehall$Act", name := "<init>", desc := "()V" } : Jvm.MethodName)) ∈ gws := kt1 171 rfl rfl
theorem kw_172 : (Jvm.Cond.code ({ cls := "Leasehall$Act", name := "<init>", desc := "()V" } : Jvm.MethodName) prog_2_method_1_code (1 : Nat) (Option.none : Option Jvm.ClassFile.FieldType)) ∈ gws := kt1 172 rfl rfl
theorem kw_173 : (Jvm.Cond.methodLink "Leasehall$Act" (3 : Nat) ({ cls := "java/lang/Object", name := "<init>", desc := "()V" } : Jvm.MethodName)) ∈ gws := kt1 173 rfl rfl
theorem kw_174 : (Jvm.Cond.fieldLink "Leasehall$Act" (9 : Nat) "Leasehall$Act" "kind" "I") ∈ gws := kt1 174 rfl rfl
theorem kw_175 : (Jvm.Cond.fieldLink "Leasehall" (427 : Nat) "Leasehall$Act" "kind" "I") ∈ gws := kt1 175 rfl rfl
theorem kw_176 : (Jvm.Cond.fieldLink "Leasehall$Act" (15 : Nat) "Leasehall$Act" "node" "I") ∈ gws := kt1 176 rfl rfl
theorem kw_177 : (Jvm.Cond.fieldLink "Leasehall$Births" (31 : Nat) "Leasehall$Act" "node" "I") ∈ gws := kt1 177 rfl rfl
theorem kw_178 : (Jvm.Cond.fieldLink "Leasehall" (444 : Nat) "Leasehall$Act" "node" "I") ∈ gws := kt1 178 rfl rfl
theorem kw_179 : (Jvm.Cond.fieldLink "Leasehall$Act" (18 : Nat) "Leasehall$Act" "name" "I") ∈ gws := kt1 179 rfl rfl
theorem kw_180 : (Jvm.Cond.fieldLink "Leasehall" (446 : Nat) "Leasehall$Act" "name" "I") ∈ gws := kt1 180 rfl rfl
theorem kw_181 : (Jvm.Cond.fieldLink "Leasehall$Act" (21 : Nat) "Leasehall$Act" "number" "I") ∈ gws := kt1 181 rfl rfl
theorem kw_182 : (Jvm.Cond.fieldLink "Leasehall" (464 : Nat) "Leasehall$Act" "number" "I") ∈ gws := kt1 182 rfl rfl
theorem kw_183 : (Jvm.Cond.fieldLink "Leasehall$Act" (24 : Nat) "Leasehall$Act" "version" "I") ∈ gws := kt1 183 rfl rfl
theorem kw_184 : (Jvm.Cond.fieldLink "Leasehall" (470 : Nat) "Leasehall$Act" "version" "I") ∈ gws := kt1 184 rfl rfl
theorem kw_185 : (Jvm.Cond.fieldLink "Leasehall$Act" (27 : Nat) "Leasehall$Act" "nodeKind" "I") ∈ gws := kt1 185 rfl rfl
theorem kw_186 : (Jvm.Cond.fieldLink "Leasehall$Births" (36 : Nat) "Leasehall$Act" "nodeKind" "I") ∈ gws := kt1 186 rfl rfl
theorem kw_187 : (Jvm.Cond.fieldLink "Leasehall$Act" (30 : Nat) "Leasehall$Act" "holder" "I") ∈ gws := kt1 187 rfl rfl
theorem kw_188 : (Jvm.Cond.fieldLink "Leasehall$Births" (39 : Nat) "Leasehall$Act" "holder" "I") ∈ gws := kt1 188 rfl rfl
theorem kw_189 : (Jvm.Cond.fieldLink "Leasehall" (223 : Nat) "Leasehall$Act" "holder" "I") ∈ gws := kt1 189 rfl rfl
theorem kw_190 : (Jvm.Cond.lays "Leasehall$Act" "Leasehall$Act" "kind" "I") ∈ gws := kt1 190 rfl rfl
theorem kw_191 : (Jvm.Cond.soleField "Leasehall$Act" "kind") ∈ gws := kt1 191 rfl rfl
theorem kw_192 : (Jvm.Cond.lays "Leasehall$Act" "Leasehall$Act" "node" "I") ∈ gws := kt1 192 rfl rfl
theorem kw_193 : (Jvm.Cond.soleField "Leasehall$Act" "node") ∈ gws := kt1 193 rfl rfl
theorem kw_194 : (Jvm.Cond.lays "Leasehall$Act" "Leasehall$Act" "name" "I") ∈ gws := kt1 194 rfl rfl
theorem kw_195 : (Jvm.Cond.soleField "Leasehall$Act" "name") ∈ gws := kt1 195 rfl rfl
theorem kw_196 : (Jvm.Cond.lays "Leasehall$Act" "Leasehall$Act" "number" "I") ∈ gws := kt1 196 rfl rfl
theorem kw_197 : (Jvm.Cond.soleField "Leasehall$Act" "number") ∈ gws := kt1 197 rfl rfl
theorem kw_198 : (Jvm.Cond.lays "Leasehall$Act" "Leasehall$Act" "version" "I") ∈ gws := kt1 198 rfl rfl
theorem kw_199 : (Jvm.Cond.soleField "Leasehall$Act" "version") ∈ gws := kt1 199 rfl rfl
theorem kw_200 : (Jvm.Cond.lays "Leasehall$Act" "Leasehall$Act" "nodeKind" "I") ∈ gws := kt1 200 rfl rfl
theorem kw_201 : (Jvm.Cond.soleField "Leasehall$Act" "nodeKind") ∈ gws := kt1 201 rfl rfl
theorem kw_202 : (Jvm.Cond.lays "Leasehall$Act" "Leasehall$Act" "holder" "I") ∈ gws := kt1 202 rfl rfl
theorem kw_203 : (Jvm.Cond.soleField "Leasehall$Act" "holder") ∈ gws := kt1 203 rfl rfl
theorem kw_205 : (Jvm.Cond.instantiable "Leasehall$Server" (3 : Nat)) ∈ gws := kt1 205 rfl rfl
theorem kw_206 : (Jvm.Cond.methodLink "Leasehall" (97 : Nat) ({ cls := "Leasehall$Server", name := "<init>", desc := "(LLeasehall$Tree;)V" } : Jvm.MethodName)) ∈ gws := kt1 206 rfl rfl
theorem kw_207 : (Jvm.Cond.instanceMethod ({ cls := "Leasehall$Server", name := "<init>", desc := "(LLeasehall$Tree;)V" } : Jvm.MethodName)) ∈ gws := kt1 207 rfl rfl
theorem kw_208 : (Jvm.Cond.code ({ cls := "Leasehall$Server", name := "<init>", desc := "(LLeasehall$Tree;)V" } : Jvm.MethodName) prog_7_method_1_code (2 : Nat) (Option.none : Option Jvm.ClassFile.FieldType)) ∈ gws := kt1 208 rfl rfl
theorem kw_209 : (Jvm.Cond.methodLink "Leasehall$Server" (1 : Nat) ({ cls := "java/lang/Object", name := "<init>", desc := "()V" } : Jvm.MethodName)) ∈ gws := kt1 209 rfl rfl
theorem kw_210 : (Jvm.Cond.fieldLink "Leasehall$Server" (16 : Nat) "Leasehall$Server" "tree" "LLeasehall$Tree;") ∈ gws := kt1 210 rfl rfl
theorem kw_211 : (Jvm.Cond.fieldLink "Leasehall" (277 : Nat) "Leasehall$Server" "tree" "LLeasehall$Tree;") ∈ gws := kt1 211 rfl rfl
theorem kw_212 : (Jvm.Cond.fieldLink "Leasehall$Server" (7 : Nat) "Leasehall$Server" "changes" "I") ∈ gws := kt1 212 rfl rfl
theorem kw_213 : (Jvm.Cond.fieldLink "Leasehall" (166 : Nat) "Leasehall$Server" "changes" "I") ∈ gws := kt1 213 rfl rfl
theorem kw_214 : (Jvm.Cond.fieldLink "Leasehall$Server" (13 : Nat) "Leasehall$Server" "steps" "I") ∈ gws := kt1 214 rfl rfl
theorem kw_215 : (Jvm.Cond.fieldLink "Leasehall$Session" (67 : Nat) "Leasehall$Server" "steps" "I") ∈ gws := kt1 215 rfl rfl
theorem kw_216 : (Jvm.Cond.fieldLink "Leasehall" (391 : Nat) "Leasehall$Server" "steps" "I") ∈ gws := kt1 216 rfl rfl
theorem kw_217 : (Jvm.Cond.laysFinal "Leasehall$Server" "Leasehall$Server" "tree" "LLeasehall$Tree;") ∈ gws := kt1 217 rfl rfl
theorem kw_218 : (Jvm.Cond.soleField "Leasehall$Server" "tree") ∈ gws := kt1 218 rfl rfl
theorem kw_219 : (Jvm.Cond.lays "Leasehall$Server" "Leasehall$Server" "changes" "I") ∈ gws := kt1 219 rfl rfl
theorem kw_220 : (Jvm.Cond.soleField "Leasehall$Server" "changes") ∈ gws := kt1 220 rfl rfl
theorem kw_221 : (Jvm.Cond.lays "Leasehall$Server" "Leasehall$Server" "steps" "I") ∈ gws := kt1 221 rfl rfl
theorem kw_222 : (Jvm.Cond.soleField "Leasehall$Server" "steps") ∈ gws := kt1 222 rfl rfl
theorem kw_224 : (Jvm.Cond.methodLink "Leasehall" (100 : Nat) ({ cls := "java/util/Arrays", name := "fill", desc := "([II)V" } : Jvm.MethodName)) ∈ gws := kt1 224 rfl rfl
theorem kw_225 : (Jvm.Cond.static ({ cls := "java/util/Arrays", name := "fill", desc := "([II)V" } : Jvm.MethodName)) ∈ gws := kt1 225 rfl rfl
theorem kw_226 : (Jvm.Cond.code ({ cls := "java/util/Arrays", name := "fill", desc := "([II)V" } : Jvm.MethodName) prog_27_method_103_code (4 : Nat) (Option.none : Option Jvm.ClassFile.FieldType)) ∈ gws := kt1 226 rfl rfl
theorem kw_227 : (Jvm.Cond.fieldLink "Leasehall" (10 : Nat) "Leasehall" "births" "LLeasehall$Births;") ∈ gws := kt1 227 rfl rfl
theorem kw_228 : (Jvm.Cond.fieldLink "Leasehall" (18 : Nat) "Leasehall" "servers" "[LLeasehall$Server;") ∈ gws := kt1 228 rfl rfl
theorem kw_229 : (Jvm.Cond.fieldLink "Leasehall" (27 : Nat) "Leasehall" "truth" "LLeasehall$Tree;") ∈ gws := kt1 229 rfl rfl
theorem kw_230 : (Jvm.Cond.fieldLink "Leasehall" (31 : Nat) "Leasehall" "before" "LLeasehall$Tree;") ∈ gws := kt1 230 rfl rfl
theorem kw_231 : (Jvm.Cond.fieldLink "Leasehall" (34 : Nat) "Leasehall" "oldest" "LLeasehall$Tree;") ∈ gws := kt1 231 rfl rfl
theorem kw_232 : (Jvm.Cond.fieldLink "Leasehall" (40 : Nat) "Leasehall" "log" "LLeasehall$Log;") ∈ gws := kt1 232 rfl rfl
theorem kw_233 : (Jvm.Cond.fieldLink "Leasehall" (44 : Nat) "Leasehall" "kept" "LLeasehall$Tree;") ∈ gws := kt1 233 rfl rfl
theorem kw_234 : (Jvm.Cond.fieldLink "Leasehall" (50 : Nat) "Leasehall" "sessions" "Ljava/util/ArrayList;") ∈ gws := kt1 234 rfl rfl
theorem kw_235 : (Jvm.Cond.fieldLink "Leasehall" (54 : Nat) "Leasehall" "leases" "Ljava/util/ArrayList;") ∈ gws := kt1 235 rfl rfl
theorem kw_236 : (Jvm.Cond.fieldLink "Leasehall" (60 : Nat) "Leasehall" "loneAct" "LLeasehall$Act;") ∈ gws := kt1 236 rfl rfl
theorem kw_237 : (Jvm.Cond.fieldLink "Leasehall" (64 : Nat) "Leasehall" "quotas" "[I") ∈ gws := kt1 237 rfl rfl
theorem kw_238 : (Jvm.Cond.fieldLink "Leasehall" (68 : Nat) "Leasehall" "beliefs" "[I") ∈ gws := kt1 238 rfl rfl
theorem kw_239 : (Jvm.Cond.fieldLink "Leasehall" (71 : Nat) "Leasehall" "hasKept" "Z") ∈ gws := kt1 239 rfl rfl
theorem kw_240 : (Jvm.Cond.fieldLink "Leasehall" (75 : Nat) "Leasehall" "madeBefore" "I") ∈ gws := kt2 0 rfl rfl
theorem kw_241 : (Jvm.Cond.fieldLink "Leasehall" (79 : Nat) "Leasehall" "now" "I") ∈ gws := kt2 1 rfl rfl
theorem kw_242 : (Jvm.Cond.fieldLink "Leasehall" (82 : Nat) "Leasehall" "lastChange" "I") ∈ gws := kt2 2 rfl rfl
theorem kw_243 : (Jvm.Cond.fieldLink "Leasehall" (85 : Nat) "Leasehall" "compacted" "I") ∈ gws := kt2 3 rfl rfl
theorem kw_244 : (Jvm.Cond.fieldLink "Leasehall" (88 : Nat) "Leasehall" "losing" "I") ∈ gws := kt2 4 rfl rfl
theorem kw_245 : (Jvm.Cond.fieldLink "Leasehall" (91 : Nat) "Leasehall" "greatestFence" "I") ∈ gws := kt2 5 rfl rfl
theorem kw_246 : (Jvm.Cond.fieldLink "Leasehall" (94 : Nat) "Leasehall" "storedNumber" "I") ∈ gws := kt2 6 rfl rfl
theorem kw_247 : (Jvm.Cond.laysFinal "Leasehall" "Leasehall" "births" "LLeasehall$Births;") ∈ gws := kt2 7 rfl rfl
theorem kw_248 : (Jvm.Cond.soleField "Leasehall" "births") ∈ gws := kt2 8 rfl rfl
theorem kw_249 : (Jvm.Cond.laysFinal "Leasehall" "Leasehall" "servers" "[LLeasehall$Server;") ∈ gws := kt2 9 rfl rfl
theorem kw_250 : (Jvm.Cond.soleField "Leasehall" "servers") ∈ gws := kt2 10 rfl rfl
theorem kw_251 : (Jvm.Cond.laysFinal "Leasehall" "Leasehall" "truth" "LLeasehall$Tree;") ∈ gws := kt2 11 rfl rfl
theorem kw_252 : (Jvm.Cond.soleField "Leasehall" "truth") ∈ gws := kt2 12 rfl rfl
theorem kw_253 : (Jvm.Cond.laysFinal "Leasehall" "Leasehall" "before" "LLeasehall$Tree;") ∈ gws := kt2 13 rfl rfl
theorem kw_254 : (Jvm.Cond.soleField "Leasehall" "before") ∈ gws := kt2 14 rfl rfl
theorem kw_255 : (Jvm.Cond.laysFinal "Leasehall" "Leasehall" "oldest" "LLeasehall$Tree;") ∈ gws := kt2 15 rfl rfl
theorem kw_256 : (Jvm.Cond.soleField "Leasehall" "oldest") ∈ gws := kt2 16 rfl rfl
theorem kw_257 : (Jvm.Cond.laysFinal "Leasehall" "Leasehall" "log" "LLeasehall$Log;") ∈ gws := kt2 17 rfl rfl
theorem kw_258 : (Jvm.Cond.soleField "Leasehall" "log") ∈ gws := kt2 18 rfl rfl
theorem kw_259 : (Jvm.Cond.laysFinal "Leasehall" "Leasehall" "kept" "LLeasehall$Tree;") ∈ gws := kt2 19 rfl rfl
theorem kw_260 : (Jvm.Cond.soleField "Leasehall" "kept") ∈ gws := kt2 20 rfl rfl
theorem kw_261 : (Jvm.Cond.laysFinal "Leasehall" "Leasehall" "sessions" "Ljava/util/ArrayList;") ∈ gws := kt2 21 rfl rfl
theorem kw_262 : (Jvm.Cond.soleField "Leasehall" "sessions") ∈ gws := kt2 22 rfl rfl
theorem kw_263 : (Jvm.Cond.laysFinal "Leasehall" "Leasehall" "leases" "Ljava/util/ArrayList;") ∈ gws := kt2 23 rfl rfl
theorem kw_264 : (Jvm.Cond.soleField "Leasehall" "leases") ∈ gws := kt2 24 rfl rfl
theorem kw_265 : (Jvm.Cond.laysFinal "Leasehall" "Leasehall" "loneAct" "LLeasehall$Act;") ∈ gws := kt2 25 rfl rfl
theorem kw_266 : (Jvm.Cond.soleField "Leasehall" "loneAct") ∈ gws := kt2 26 rfl rfl
theorem kw_267 : (Jvm.Cond.laysFinal "Leasehall" "Leasehall" "quotas" "[I") ∈ gws := kt2 27 rfl rfl
theorem kw_268 : (Jvm.Cond.soleField "Leasehall" "quotas") ∈ gws := kt2 28 rfl rfl
theorem kw_269 : (Jvm.Cond.laysFinal "Leasehall" "Leasehall" "beliefs" "[I") ∈ gws := kt2 29 rfl rfl
theorem kw_270 : (Jvm.Cond.soleField "Leasehall" "beliefs") ∈ gws := kt2 30 rfl rfl
theorem kw_271 : (Jvm.Cond.lays "Leasehall" "Leasehall" "hasKept" "Z") ∈ gws := kt2 31 rfl rfl
theorem kw_272 : (Jvm.Cond.soleField "Leasehall" "hasKept") ∈ gws := kt2 32 rfl rfl
theorem kw_273 : (Jvm.Cond.lays "Leasehall" "Leasehall" "madeBefore" "I") ∈ gws := kt2 33 rfl rfl
theorem kw_274 : (Jvm.Cond.soleField "Leasehall" "madeBefore") ∈ gws := kt2 34 rfl rfl
theorem kw_275 : (Jvm.Cond.lays "Leasehall" "Leasehall" "now" "I") ∈ gws := kt2 35 rfl rfl
theorem kw_276 : (Jvm.Cond.soleField "Leasehall" "now") ∈ gws := kt2 36 rfl rfl
theorem kw_277 : (Jvm.Cond.lays "Leasehall" "Leasehall" "lastChange" "I") ∈ gws := kt2 37 rfl rfl
theorem kw_278 : (Jvm.Cond.soleField "Leasehall" "lastChange") ∈ gws := kt2 38 rfl rfl
theorem kw_279 : (Jvm.Cond.lays "Leasehall" "Leasehall" "compacted" "I") ∈ gws := kt2 39 rfl rfl
theorem kw_280 : (Jvm.Cond.soleField "Leasehall" "compacted") ∈ gws := kt2 40 rfl rfl
theorem kw_281 : (Jvm.Cond.lays "Leasehall" "Leasehall" "losing" "I") ∈ gws := kt2 41 rfl rfl
theorem kw_282 : (Jvm.Cond.soleField "Leasehall" "losing") ∈ gws := kt2 42 rfl rfl
theorem kw_283 : (Jvm.Cond.lays "Leasehall" "Leasehall" "greatestFence" "I") ∈ gws := kt2 43 rfl rfl
theorem kw_284 : (Jvm.Cond.soleField "Leasehall" "greatestFence") ∈ gws := kt2 44 rfl rfl
theorem kw_285 : (Jvm.Cond.lays "Leasehall" "Leasehall" "storedNumber" "I") ∈ gws := kt2 45 rfl rfl
theorem kw_286 : (Jvm.Cond.soleField "Leasehall" "storedNumber") ∈ gws := kt2 46 rfl rfl
theorem kw_288 : (Jvm.Cond.methodLink "LeasehallLaw" (189 : Nat) ({ cls := "Leasehall", name := "lose", desc := "(Z)V" } : Jvm.MethodName)) ∈ gws := kt2 48 rfl rfl
theorem kw_289 : (Jvm.Cond.instanceMethod ({ cls := "Leasehall", name := "lose", desc := "(Z)V" } : Jvm.MethodName)) ∈ gws := kt2 49 rfl rfl
theorem kw_290 : (Jvm.Cond.selects "Leasehall" ({ cls := "Leasehall", name := "lose", desc := "(Z)V" } : Jvm.MethodName) ({ cls := "Leasehall", name := "lose", desc := "(Z)V" } : Jvm.MethodName)) ∈ gws := kt2 50 rfl rfl
theorem kw_291 : (Jvm.Cond.code ({ cls := "Leasehall", name := "lose", desc := "(Z)V" } : Jvm.MethodName) prog_1_method_19_code (2 : Nat) (Option.none : Option Jvm.ClassFile.FieldType)) ∈ gws := kt2 51 rfl rfl
theorem kw_292 : (Jvm.Cond.methodLink "LeasehallLaw" (219 : Nat) ({ cls := "Leasehall", name := "believers", desc := "(I)I" } : Jvm.MethodName)) ∈ gws := kt2 52 rfl rfl
theorem kw_293 : (Jvm.Cond.instanceMethod ({ cls := "Leasehall", name := "believers", desc := "(I)I" } : Jvm.MethodName)) ∈ gws := kt2 53 rfl rfl
theorem kw_294 : (Jvm.Cond.selects "Leasehall" ({ cls := "Leasehall", name := "believers", desc := "(I)I" } : Jvm.MethodName) ({ cls := "Leasehall", name := "believers", desc := "(I)I" } : Jvm.MethodName)) ∈ gws := kt2 54 rfl rfl
theorem kw_295 : (Jvm.Cond.code ({ cls := "Leasehall", name := "believers", desc := "(I)I" } : Jvm.MethodName) prog_1_method_28_code (2 : Nat) (Option.some Jvm.ClassFile.FieldType.int)) ∈ gws := kt2 55 rfl rfl
theorem kw_296 : (Jvm.Cond.methodLink "Leasehall" (106 : Nat) ({ cls := "Leasehall", name := "isWithin", desc := "(III)Z" } : Jvm.MethodName)) ∈ gws := kt2 56 rfl rfl
theorem kw_297 : (Jvm.Cond.static ({ cls := "Leasehall", name := "isWithin", desc := "(III)Z" } : Jvm.MethodName)) ∈ gws := kt2 57 rfl rfl
theorem kw_298 : (Jvm.Cond.code ({ cls := "Leasehall", name := "isWithin", desc := "(III)Z" } : Jvm.MethodName) prog_1_method_39_code (3 : Nat) (Option.some Jvm.ClassFile.FieldType.boolean)) ∈ gws := kt2 58 rfl rfl
theorem kw_299 : (Jvm.Cond.methodLink "LeasehallLaw" (232 : Nat) ({ cls := "Leasehall", name := "stored", desc := "()I" } : Jvm.MethodName)) ∈ gws := kt2 59 rfl rfl
theorem kw_300 : (Jvm.Cond.instanceMethod ({ cls := "Leasehall", name := "stored", desc := "()I" } : Jvm.MethodName)) ∈ gws := kt2 60 rfl rfl
theorem kw_301 : (Jvm.Cond.selects "Leasehall" ({ cls := "Leasehall", name := "stored", desc := "()I" } : Jvm.MethodName) ({ cls := "Leasehall", name := "stored", desc := "()I" } : Jvm.MethodName)) ∈ gws := kt2 61 rfl rfl
theorem kw_302 : (Jvm.Cond.code ({ cls := "Leasehall", name := "stored", desc := "()I" } : Jvm.MethodName) prog_1_method_32_code (1 : Nat) (Option.some Jvm.ClassFile.FieldType.int)) ∈ gws := kt2 62 rfl rfl
theorem kw_303 : (Jvm.Cond.methodLink "LeasehallLaw" (245 : Nat) ({ cls := "Leasehall", name := "snapshot", desc := "()I" } : Jvm.MethodName)) ∈ gws := kt2 63 rfl rfl
theorem kw_304 : (Jvm.Cond.instanceMethod ({ cls := "Leasehall", name := "snapshot", desc := "()I" } : Jvm.MethodName)) ∈ gws := kt2 64 rfl rfl
theorem kw_305 : (Jvm.Cond.selects "Leasehall" ({ cls := "Leasehall", name := "snapshot", desc := "()I" } : Jvm.MethodName) ({ cls := "Leasehall", name := "snapshot", desc := "()I" } : Jvm.MethodName)) ∈ gws := kt2 65 rfl rfl
theorem kw_306 : (Jvm.Cond.code ({ cls := "Leasehall", name := "snapshot", desc := "()I" } : Jvm.MethodName) prog_1_method_36_code (1 : Nat) (Option.some Jvm.ClassFile.FieldType.int)) ∈ gws := kt2 66 rfl rfl
theorem kw_307 : (Jvm.Cond.methodLink "Leasehall" (378 : Nat) ({ cls := "Leasehall$Tree", name := "copyFrom", desc := "(LLeasehall$Tree;)V" } : Jvm.MethodName)) ∈ gws := kt2 67 rfl rfl
theorem kw_308 : (Jvm.Cond.instanceMethod ({ cls := "Leasehall$Tree", name := "copyFrom", desc := "(LLeasehall$Tree;)V" } : Jvm.MethodName)) ∈ gws := kt2 68 rfl rfl
theorem kw_309 : (Jvm.Cond.selects "Leasehall$Tree" ({ cls := "Leasehall$Tree", name := "copyFrom", desc := "(LLeasehall$Tree;)V" } : Jvm.MethodName) ({ cls := "Leasehall$Tree", name := "copyFrom", desc := "(LLeasehall$Tree;)V" } : Jvm.MethodName)) ∈ gws := kt2 69 rfl rfl
theorem kw_310 : (Jvm.Cond.code ({ cls := "Leasehall$Tree", name := "copyFrom", desc := "(LLeasehall$Tree;)V" } : Jvm.MethodName) prog_9_method_2_code (3 : Nat) (Option.none : Option Jvm.ClassFile.FieldType)) ∈ gws := kt2 70 rfl rfl
theorem kw_311 : (Jvm.Cond.methodLink "Leasehall" (271 : Nat) ({ cls := "Leasehall$Tree", name := "belowOf", desc := "(I)I" } : Jvm.MethodName)) ∈ gws := kt2 71 rfl rfl
theorem kw_312 : (Jvm.Cond.instanceMethod ({ cls := "Leasehall$Tree", name := "belowOf", desc := "(I)I" } : Jvm.MethodName)) ∈ gws := kt2 72 rfl rfl
theorem kw_313 : (Jvm.Cond.selects "Leasehall$Tree" ({ cls := "Leasehall$Tree", name := "belowOf", desc := "(I)I" } : Jvm.MethodName) ({ cls := "Leasehall$Tree", name := "belowOf", desc := "(I)I" } : Jvm.MethodName)) ∈ gws := kt2 73 rfl rfl
theorem kw_314 : (Jvm.Cond.code ({ cls := "Leasehall$Tree", name := "belowOf", desc := "(I)I" } : Jvm.MethodName) prog_9_method_23_code (2 : Nat) (Option.some Jvm.ClassFile.FieldType.int)) ∈ gws := kt2 74 rfl rfl
theorem kw_315 : (Jvm.Cond.methodLink "Leasehall$Tree" (103 : Nat) ({ cls := "Leasehall$Tree", name := "countBelow", desc := "()V" } : Jvm.MethodName)) ∈ gws := kt2 75 rfl rfl
theorem kw_316 : (Jvm.Cond.instanceMethod ({ cls := "Leasehall$Tree", name := "countBelow", desc := "()V" } : Jvm.MethodName)) ∈ gws := kt2 76 rfl rfl
theorem kw_317 : (Jvm.Cond.selects "Leasehall$Tree" ({ cls := "Leasehall$Tree", name := "countBelow", desc := "()V" } : Jvm.MethodName) ({ cls := "Leasehall$Tree", name := "countBelow", desc := "()V" } : Jvm.MethodName)) ∈ gws := kt2 77 rfl rfl
theorem kw_318 : (Jvm.Cond.code ({ cls := "Leasehall$Tree", name := "countBelow", desc := "()V" } : Jvm.MethodName) prog_9_method_22_code (2 : Nat) (Option.none : Option Jvm.ClassFile.FieldType)) ∈ gws := kt2 78 rfl rfl
theorem kw_319 : (Jvm.Cond.methodLink "Leasehall$Tree" (97 : Nat) ({ cls := "java/util/Arrays", name := "fill", desc := "([II)V" } : Jvm.MethodName)) ∈ gws := kt2 79 rfl rfl
theorem kw_320 : (Jvm.Cond.methodLink "LeasehallLaw" (253 : Nat) ({ cls := "Leasehall", name := "changes", desc := "()I" } : Jvm.MethodName)) ∈ gws := kt2 80 rfl rfl
theorem kw_321 : (Jvm.Cond.instanceMethod ({ cls := "Leasehall", name := "changes", desc := "()I" } : Jvm.MethodName)) ∈ gws := kt2 81 rfl rfl
theorem kw_322 : (Jvm.Cond.selects "Leasehall" ({ cls := "Leasehall", name := "changes", desc := "()I" } : Jvm.MethodName) ({ cls := "Leasehall", name := "changes", desc := "()I" } : Jvm.MethodName)) ∈ gws := kt2 82 rfl rfl
theorem kw_323 : (Jvm.Cond.code ({ cls := "Leasehall", name := "changes", desc := "()I" } : Jvm.MethodName) prog_1_method_38_code (1 : Nat) (Option.some Jvm.ClassFile.FieldType.int)) ∈ gws := kt2 83 rfl rfl
theorem kw_324 : (Jvm.Cond.methodLink "LeasehallLaw" (126 : Nat) ({ cls := "LeasehallLaw", name := "open", desc := "(LLeasehall;III[J)I" } : Jvm.MethodName)) ∈ gws := kt2 84 rfl rfl
theorem kw_325 : (Jvm.Cond.static ({ cls := "LeasehallLaw", name := "open", desc := "(LLeasehall;III[J)I" } : Jvm.MethodName)) ∈ gws := kt2 85 rfl rfl
theorem kw_326 : (Jvm.Cond.codeWith ({ cls := "LeasehallLaw", name := "open", desc := "(LLeasehall;III[J)I" } : Jvm.MethodName) method_3_code (6 : Nat) (Option.some Jvm.ClassFile.FieldType.int) [((0 : Nat), (12 : Nat), (15 : Nat), (13 : Nat)), ((0 : Nat), (12 : Nat), (19 : Nat), (15 : Nat)), ((0 : Nat), (12 : Nat), (23 : Nat), (17 : Nat))]) ∈ gws := kt2 86 rfl rfl
theorem kw_327 : (Jvm.Cond.classLink "LeasehallLaw" (13 : Nat) "java/lang/IndexOutOfBoundsException") ∈ gws := kt2 87 rfl rfl
theorem kw_328 : (Jvm.Cond.classLink "LeasehallLaw" (15 : Nat) "java/lang/IllegalArgumentException") ∈ gws := kt2 88 rfl rfl
theorem kw_329 : (Jvm.Cond.classLink "LeasehallLaw" (17 : Nat) "java/lang/IllegalStateException") ∈ gws := kt2 89 rfl rfl
theorem kw_330 : (Jvm.Cond.methodLink "LeasehallLaw" (7 : Nat) ({ cls := "Leasehall", name := "open", desc := "(III)I" } : Jvm.MethodName)) ∈ gws := kt2 90 rfl rfl
theorem kw_331 : (Jvm.Cond.instanceMethod ({ cls := "Leasehall", name := "open", desc := "(III)I" } : Jvm.MethodName)) ∈ gws := kt2 91 rfl rfl
theorem kw_332 : (Jvm.Cond.selects "Leasehall" ({ cls := "Leasehall", name := "open", desc := "(III)I" } : Jvm.MethodName) ({ cls := "Leasehall", name := "open", desc := "(III)I" } : Jvm.MethodName)) ∈ gws := kt2 92 rfl rfl
theorem kw_333 : (Jvm.Cond.code ({ cls := "Leasehall", name := "open", desc := "(III)I" } : Jvm.MethodName) prog_1_method_2_code (6 : Nat) (Option.some Jvm.ClassFile.FieldType.int)) ∈ gws := kt2 93 rfl rfl
theorem kw_334 : (Jvm.Cond.classLink "Leasehall" (110 : Nat) "java/lang/IndexOutOfBoundsException") ∈ gws := kt2 94 rfl rfl
theorem kw_335 : (Jvm.Cond.instantiable "java/lang/IndexOutOfBoundsException" (6 : Nat)) ∈ gws := kt2 95 rfl rfl
theorem kw_343 : (Jvm.Cond.selects "java/lang/IndexOutOfBoundsException" ({ cls := "java/lang/Throwable", name := "fillInStackTrace", desc := "(I)Ljava/lang/Throwable;" } : Jvm.MethodName) ({ cls := "java/lang/Throwable", name := "fillInStackTrace", desc := "(I)Ljava/lang/Throwable;" } : Jvm.MethodName)) ∈ gws := kt2 103 rfl rfl
theorem kw_344 : (Jvm.Cond.selects "java/lang/IndexOutOfBoundsException" ({ cls := "java/lang/Throwable", name := "fillInStackTrace", desc := "()Ljava/lang/Throwable;" } : Jvm.MethodName) ({ cls := "java/lang/Throwable", name := "fillInStackTrace", desc := "()Ljava/lang/Throwable;" } : Jvm.MethodName)) ∈ gws := kt2 104 rfl rfl
theorem kw_345 : (Jvm.Cond.lays "java/lang/IndexOutOfBoundsException" "java/lang/Throwable" "cause" "Ljava/lang/Throwable;") ∈ gws := kt2 105 rfl rfl
theorem kw_346 : (Jvm.Cond.lays "java/lang/Throwable" "java/lang/Throwable" "cause" "Ljava/lang/Throwable;") ∈ gws := kt2 106 rfl rfl
theorem kw_347 : (Jvm.Cond.lays "java/lang/IndexOutOfBoundsException" "java/lang/Throwable" "stackTrace" "[Ljava/lang/StackTraceElement;") ∈ gws := kt2 107 rfl rfl
theorem kw_348 : (Jvm.Cond.lays "java/lang/Throwable" "java/lang/Throwable" "stackTrace" "[Ljava/lang/StackTraceElement;") ∈ gws := kt2 108 rfl rfl
theorem kw_349 : (Jvm.Cond.lays "java/lang/IndexOutOfBoundsException" "java/lang/Throwable" "suppressedExceptions" "Ljava/util/List;") ∈ gws := kt2 109 rfl rfl
theorem kw_350 : (Jvm.Cond.lays "java/lang/Throwable" "java/lang/Throwable" "suppressedExceptions" "Ljava/util/List;") ∈ gws := kt2 110 rfl rfl
theorem kw_351 : (Jvm.Cond.lays "java/lang/IndexOutOfBoundsException" "java/lang/Throwable" "detailMessage" "Ljava/lang/String;") ∈ gws := kt2 111 rfl rfl
theorem kw_352 : (Jvm.Cond.lays "java/lang/Throwable" "java/lang/Throwable" "detailMessage" "Ljava/lang/String;") ∈ gws := kt2 112 rfl rfl
theorem kw_353 : (Jvm.Cond.lays "java/lang/IndexOutOfBoundsException" "java/lang/Throwable" "backtrace" "Ljava/lang/Object;") ∈ gws := kt2 113 rfl rfl
theorem kw_354 : (Jvm.Cond.lays "java/lang/Throwable" "java/lang/Throwable" "backtrace" "Ljava/lang/Object;") ∈ gws := kt2 114 rfl rfl
theorem kw_355 : (Jvm.Cond.fieldLink "java/lang/Throwable" (198 : Nat) "java/lang/Throwable" "backtrace" "Ljava/lang/Object;") ∈ gws := kt2 115 rfl rfl
theorem kw_357 : (Jvm.Cond.instanceMethod ({ cls := "java/lang/Throwable", name := "<init>", desc := "()V" } : Jvm.MethodName)) ∈ gws := kt2 117 rfl rfl
theorem kw_358 : (Jvm.Cond.code ({ cls := "java/lang/Throwable", name := "<init>", desc := "()V" } : Jvm.MethodName) prog_23_method_1_code (1 : Nat) (Option.none : Option Jvm.ClassFile.FieldType)) ∈ gws := kt2 118 rfl rfl
theorem kw_359 : (Jvm.Cond.methodLink "java/lang/Throwable" (1 : Nat) ({ cls := "java/lang/Object", name := "<init>", desc := "()V" } : Jvm.MethodName)) ∈ gws := kt2 119 rfl rfl
theorem kw_360 : (Jvm.Cond.fieldLink "java/lang/Throwable" (13 : Nat) "java/lang/Throwable" "UNASSIGNED_STACK" "[Ljava/lang/StackTraceElement;") ∈ gws := kt2 120 rfl rfl
theorem kw_362 : (Jvm.Cond.fieldLink "java/lang/Throwable" (20 : Nat) "java/lang/Throwable" "SUPPRESSED_SENTINEL" "Ljava/util/List;") ∈ gws := kt2 122 rfl rfl
theorem kw_364 : (Jvm.Cond.methodLink "java/lang/Throwable" (27 : Nat) ({ cls := "java/lang/Throwable", name := "fillInStackTrace", desc := "()Ljava/lang/Throwable;" } : Jvm.MethodName)) ∈ gws := kt2 124 rfl rfl
theorem kw_365 : (Jvm.Cond.instanceMethod ({ cls := "java/lang/Throwable", name := "fillInStackTrace", desc := "()Ljava/lang/Throwable;" } : Jvm.MethodName)) ∈ gws := kt2 125 rfl rfl
theorem kw_367 : (Jvm.Cond.selects "java/lang/IllegalArgumentException" ({ cls := "java/lang/Throwable", name := "fillInStackTrace", desc := "()Ljava/lang/Throwable;" } : Jvm.MethodName) ({ cls := "java/lang/Throwable", name := "fillInStackTrace", desc := "()Ljava/lang/Throwable;" } : Jvm.MethodName)) ∈ gws := kt2 127 rfl rfl
theorem kw_368 : (Jvm.Cond.selects "java/lang/IllegalStateException" ({ cls := "java/lang/Throwable", name := "fillInStackTrace", desc := "()Ljava/lang/Throwable;" } : Jvm.MethodName) ({ cls := "java/lang/Throwable", name := "fillInStackTrace", desc := "()Ljava/lang/Throwable;" } : Jvm.MethodName)) ∈ gws := kt2 128 rfl rfl
theorem kw_370 : (Jvm.Cond.methodLink "java/lang/Throwable" (202 : Nat) ({ cls := "java/lang/Throwable", name := "fillInStackTrace", desc := "(I)Ljava/lang/Throwable;" } : Jvm.MethodName)) ∈ gws := kt2 130 rfl rfl
theorem kw_372 : (Jvm.Cond.instanceMethod ({ cls := "java/lang/Throwable", name := "fillInStackTrace", desc := "(I)Ljava/lang/Throwable;" } : Jvm.MethodName)) ∈ gws := kt2 132 rfl rfl
theorem kw_373 : (Jvm.Cond.instantiable "java/lang/Throwable" (6 : Nat)) ∈ gws := kt2 133 rfl rfl
theorem kw_376 : (Jvm.Cond.methodLink "Leasehall" (114 : Nat) ({ cls := "java/lang/IndexOutOfBoundsException", name := "<init>", desc := "(Ljava/lang/String;)V" } : Jvm.MethodName)) ∈ gws := kt2 136 rfl rfl
theorem kw_377 : (Jvm.Cond.instanceMethod ({ cls := "java/lang/IndexOutOfBoundsException", name := "<init>", desc := "(Ljava/lang/String;)V" } : Jvm.MethodName)) ∈ gws := kt2 137 rfl rfl
theorem kw_378 : (Jvm.Cond.code ({ cls := "java/lang/IndexOutOfBoundsException", name := "<init>", desc := "(Ljava/lang/String;)V" } : Jvm.MethodName) prog_17_method_2_code (2 : Nat) (Option.none : Option Jvm.ClassFile.FieldType)) ∈ gws := kt2 138 rfl rfl
theorem kw_379 : (Jvm.Cond.methodLink "java/lang/IndexOutOfBoundsException" (7 : Nat) ({ cls := "java/lang/RuntimeException", name := "<init>", desc := "(Ljava/lang/String;)V" } : Jvm.MethodName)) ∈ gws := kt2 139 rfl rfl
theorem kw_380 : (Jvm.Cond.instanceMethod ({ cls := "java/lang/RuntimeException", name := "<init>", desc := "(Ljava/lang/String;)V" } : Jvm.MethodName)) ∈ gws := kt2 140 rfl rfl
theorem kw_381 : (Jvm.Cond.code ({ cls := "java/lang/RuntimeException", name := "<init>", desc := "(Ljava/lang/String;)V" } : Jvm.MethodName) prog_20_method_2_code (2 : Nat) (Option.none : Option Jvm.ClassFile.FieldType)) ∈ gws := kt2 141 rfl rfl
theorem kw_382 : (Jvm.Cond.methodLink "java/lang/RuntimeException" (7 : Nat) ({ cls := "java/lang/Exception", name := "<init>", desc := "(Ljava/lang/String;)V" } : Jvm.MethodName)) ∈ gws := kt2 142 rfl rfl
theorem kw_383 : (Jvm.Cond.instanceMethod ({ cls := "java/lang/Exception", name := "<init>", desc := "(Ljava/lang/String;)V" } : Jvm.MethodName)) ∈ gws := kt2 143 rfl rfl
theorem kw_384 : (Jvm.Cond.code ({ cls := "java/lang/Exception", name := "<init>", desc := "(Ljava/lang/String;)V" } : Jvm.MethodName) prog_14_method_2_code (2 : Nat) (Option.none : Option Jvm.ClassFile.FieldType)) ∈ gws := kt2 144 rfl rfl
theorem kw_385 : (Jvm.Cond.methodLink "java/lang/Exception" (7 : Nat) ({ cls := "java/lang/Throwable", name := "<init>", desc := "(Ljava/lang/String;)V" } : Jvm.MethodName)) ∈ gws := kt2 145 rfl rfl
theorem kw_386 : (Jvm.Cond.instanceMethod ({ cls := "java/lang/Throwable", name := "<init>", desc := "(Ljava/lang/String;)V" } : Jvm.MethodName)) ∈ gws := kt2 146 rfl rfl
theorem kw_387 : (Jvm.Cond.code ({ cls := "java/lang/Throwable", name := "<init>", desc := "(Ljava/lang/String;)V" } : Jvm.MethodName) prog_23_method_2_code (2 : Nat) (Option.none : Option Jvm.ClassFile.FieldType)) ∈ gws := kt2 147 rfl rfl
theorem kw_389 : (Jvm.Cond.fieldLink "java/lang/Throwable" (31 : Nat) "java/lang/Throwable" "detailMessage" "Ljava/lang/String;") ∈ gws := kt2 149 rfl rfl
theorem kw_390 : (Jvm.Cond.fieldLink "java/lang/Throwable" (7 : Nat) "java/lang/Throwable" "cause" "Ljava/lang/Throwable;") ∈ gws := kt2 150 rfl rfl
theorem kw_391 : (Jvm.Cond.fieldLink "java/lang/Throwable" (17 : Nat) "java/lang/Throwable" "stackTrace" "[Ljava/lang/StackTraceElement;") ∈ gws := kt2 151 rfl rfl
theorem kw_392 : (Jvm.Cond.fieldLink "java/lang/Throwable" (24 : Nat) "java/lang/Throwable" "suppressedExceptions" "Ljava/util/List;") ∈ gws := kt2 152 rfl rfl
theorem kw_393 : (Jvm.Cond.soleField "java/lang/Throwable" "backtrace") ∈ gws := kt2 153 rfl rfl
theorem kw_394 : (Jvm.Cond.soleField "java/lang/Throwable" "detailMessage") ∈ gws := kt2 154 rfl rfl
theorem kw_395 : (Jvm.Cond.soleField "java/lang/Throwable" "cause") ∈ gws := kt2 155 rfl rfl
theorem kw_396 : (Jvm.Cond.soleField "java/lang/Throwable" "stackTrace") ∈ gws := kt2 156 rfl rfl
theorem kw_397 : (Jvm.Cond.lays "java/lang/IndexOutOfBoundsException" "java/lang/Throwable" "depth" "I") ∈ gws := kt2 157 rfl rfl
theorem kw_398 : (Jvm.Cond.soleField "java/lang/Throwable" "depth") ∈ gws := kt2 158 rfl rfl
theorem kw_399 : (Jvm.Cond.soleField "java/lang/Throwable" "suppressedExceptions") ∈ gws := kt2 159 rfl rfl
theorem kw_401 : (Jvm.Cond.arrayClass Jvm.ClassFile.FieldType.byte) ∈ gws := kt2 161 rfl rfl
theorem kw_402 : (Jvm.Cond.methodLink "Leasehall" (117 : Nat) ({ cls := "Leasehall", name := "knownServer", desc := "(I)LLeasehall$Server;" } : Jvm.MethodName)) ∈ gws := kt2 162 rfl rfl
theorem kw_404 : (Jvm.Cond.instanceMethod ({ cls := "Leasehall", name := "knownServer", desc := "(I)LLeasehall$Server;" } : Jvm.MethodName)) ∈ gws := kt2 164 rfl rfl
theorem kw_405 : (Jvm.Cond.code ({ cls := "Leasehall", name := "knownServer", desc := "(I)LLeasehall$Server;" } : Jvm.MethodName) prog_1_method_41_code (2 : Nat) (Option.some (Jvm.ClassFile.FieldType.object "Leasehall$Server"))) ∈ gws := kt2 165 rfl rfl
theorem kw_407 : (Jvm.Cond.classLink "Leasehall" (121 : Nat) "java/lang/IllegalArgumentException") ∈ gws := kt2 167 rfl rfl
theorem kw_408 : (Jvm.Cond.instantiable "java/lang/IllegalArgumentException" (6 : Nat)) ∈ gws := kt2 168 rfl rfl
theorem kw_410 : (Jvm.Cond.selects "java/lang/IllegalArgumentException" ({ cls := "java/lang/Throwable", name := "fillInStackTrace", desc := "(I)Ljava/lang/Throwable;" } : Jvm.MethodName) ({ cls := "java/lang/Throwable", name := "fillInStackTrace", desc := "(I)Ljava/lang/Throwable;" } : Jvm.MethodName)) ∈ gws := kt2 170 rfl rfl
theorem kw_411 : (Jvm.Cond.lays "java/lang/IllegalArgumentException" "java/lang/Throwable" "cause" "Ljava/lang/Throwable;") ∈ gws := kt2 171 rfl rfl
theorem kw_412 : (Jvm.Cond.lays "java/lang/IllegalArgumentException" "java/lang/Throwable" "stackTrace" "[Ljava/lang/StackTraceElement;") ∈ gws := kt2 172 rfl rfl
theorem kw_413 : (Jvm.Cond.lays "java/lang/IllegalArgumentException" "java/lang/Throwable" "suppressedExceptions" "Ljava/util/List;") ∈ gws := kt2 173 rfl rfl
theorem kw_414 : (Jvm.Cond.lays "java/lang/IllegalArgumentException" "java/lang/Throwable" "detailMessage" "Ljava/lang/String;") ∈ gws := kt2 174 rfl rfl
theorem kw_415 : (Jvm.Cond.lays "java/lang/IllegalArgumentException" "java/lang/Throwable" "backtrace" "Ljava/lang/Object;") ∈ gws := kt2 175 rfl rfl
theorem kw_417 : (Jvm.Cond.methodLink "Leasehall" (125 : Nat) ({ cls := "java/lang/IllegalArgumentException", name := "<init>", desc := "(Ljava/lang/String;)V" } : Jvm.MethodName)) ∈ gws := kt2 177 rfl rfl
theorem kw_418 : (Jvm.Cond.instanceMethod ({ cls := "java/lang/IllegalArgumentException", name := "<init>", desc := "(Ljava/lang/String;)V" } : Jvm.MethodName)) ∈ gws := kt2 178 rfl rfl
theorem kw_419 : (Jvm.Cond.code ({ cls := "java/lang/IllegalArgumentException", name := "<init>", desc := "(Ljava/lang/String;)V" } : Jvm.MethodName) prog_15_method_2_code (2 : Nat) (Option.none : Option Jvm.ClassFile.FieldType)) ∈ gws := kt2 179 rfl rfl
theorem kw_420 : (Jvm.Cond.methodLink "java/lang/IllegalArgumentException" (7 : Nat) ({ cls := "java/lang/RuntimeException", name := "<init>", desc := "(Ljava/lang/String;)V" } : Jvm.MethodName)) ∈ gws := kt2 180 rfl rfl
theorem kw_421 : (Jvm.Cond.lays "java/lang/IllegalArgumentException" "java/lang/Throwable" "depth" "I") ∈ gws := kt2 181 rfl rfl
theorem kw_423 : (Jvm.Cond.methodLink "Leasehall" (126 : Nat) ({ cls := "java/util/ArrayList", name := "size", desc := "()I" } : Jvm.MethodName)) ∈ gws := kt2 183 rfl rfl
theorem kw_424 : (Jvm.Cond.instanceMethod ({ cls := "java/util/ArrayList", name := "size", desc := "()I" } : Jvm.MethodName)) ∈ gws := kt2 184 rfl rfl
theorem kw_425 : (Jvm.Cond.selects "java/util/ArrayList" ({ cls := "java/util/ArrayList", name := "size", desc := "()I" } : Jvm.MethodName) ({ cls := "java/util/ArrayList", name := "size", desc := "()I" } : Jvm.MethodName)) ∈ gws := kt2 185 rfl rfl
theorem kw_426 : (Jvm.Cond.code ({ cls := "java/util/ArrayList", name := "size", desc := "()I" } : Jvm.MethodName) prog_26_method_8_code (1 : Nat) (Option.some Jvm.ClassFile.FieldType.int)) ∈ gws := kt2 186 rfl rfl
theorem kw_427 : (Jvm.Cond.classLink "Leasehall" (130 : Nat) "java/lang/IllegalStateException") ∈ gws := kt2 187 rfl rfl
theorem kw_428 : (Jvm.Cond.instantiable "java/lang/IllegalStateException" (6 : Nat)) ∈ gws := kt2 188 rfl rfl
theorem kw_430 : (Jvm.Cond.selects "java/lang/IllegalStateException" ({ cls := "java/lang/Throwable", name := "fillInStackTrace", desc := "(I)Ljava/lang/Throwable;" } : Jvm.MethodName) ({ cls := "java/lang/Throwable", name := "fillInStackTrace", desc := "(I)Ljava/lang/Throwable;" } : Jvm.MethodName)) ∈ gws := kt2 190 rfl rfl
theorem kw_431 : (Jvm.Cond.lays "java/lang/IllegalStateException" "java/lang/Throwable" "cause" "Ljava/lang/Throwable;") ∈ gws := kt2 191 rfl rfl
theorem kw_432 : (Jvm.Cond.lays "java/lang/IllegalStateException" "java/lang/Throwable" "stackTrace" "[Ljava/lang/StackTraceElement;") ∈ gws := kt2 192 rfl rfl
theorem kw_433 : (Jvm.Cond.lays "java/lang/IllegalStateException" "java/lang/Throwable" "suppressedExceptions" "Ljava/util/List;") ∈ gws := kt2 193 rfl rfl
theorem kw_434 : (Jvm.Cond.lays "java/lang/IllegalStateException" "java/lang/Throwable" "detailMessage" "Ljava/lang/String;") ∈ gws := kt2 194 rfl rfl
theorem kw_435 : (Jvm.Cond.lays "java/lang/IllegalStateException" "java/lang/Throwable" "backtrace" "Ljava/lang/Object;") ∈ gws := kt2 195 rfl rfl
theorem kw_437 : (Jvm.Cond.methodLink "Leasehall" (134 : Nat) ({ cls := "java/lang/IllegalStateException", name := "<init>", desc := "(Ljava/lang/String;)V" } : Jvm.MethodName)) ∈ gws := kt2 197 rfl rfl
theorem kw_438 : (Jvm.Cond.instanceMethod ({ cls := "java/lang/IllegalStateException", name := "<init>", desc := "(Ljava/lang/String;)V" } : Jvm.MethodName)) ∈ gws := kt2 198 rfl rfl
theorem kw_439 : (Jvm.Cond.code ({ cls := "java/lang/IllegalStateException", name := "<init>", desc := "(Ljava/lang/String;)V" } : Jvm.MethodName) prog_16_method_2_code (2 : Nat) (Option.none : Option Jvm.ClassFile.FieldType)) ∈ gws := kt2 199 rfl rfl
theorem kw_440 : (Jvm.Cond.methodLink "java/lang/IllegalStateException" (7 : Nat) ({ cls := "java/lang/RuntimeException", name := "<init>", desc := "(Ljava/lang/String;)V" } : Jvm.MethodName)) ∈ gws := kt2 200 rfl rfl
theorem kw_441 : (Jvm.Cond.lays "java/lang/IllegalStateException" "java/lang/Throwable" "depth" "I") ∈ gws := kt2 201 rfl rfl
theorem kw_443 : (Jvm.Cond.classLink "Leasehall" (135 : Nat) "Leasehall$Session") ∈ gws := kt2 203 rfl rfl
theorem kw_444 : (Jvm.Cond.instantiable "Leasehall$Session" (16 : Nat)) ∈ gws := kt2 204 rfl rfl
theorem kw_445 : (Jvm.Cond.methodLink "Leasehall" (137 : Nat) ({ cls := "Leasehall$Session", name := "<init>", desc := "(IILLeasehall$Server;II)V" } : Jvm.MethodName)) ∈ gws := kt2 205 rfl rfl
theorem kw_446 : (Jvm.Cond.instanceMethod ({ cls := "Leasehall$Session", name := "<init>", desc := "(IILLeasehall$Server;II)V" } : Jvm.MethodName)) ∈ gws := kt2 206 rfl rfl
theorem kw_447 : (Jvm.Cond.code ({ cls := "Leasehall$Session", name := "<init>", desc := "(IILLeasehall$Server;II)V" } : Jvm.MethodName) prog_8_method_1_code (7 : Nat) (Option.none : Option Jvm.ClassFile.FieldType)) ∈ gws := kt2 207 rfl rfl
theorem kw_448 : (Jvm.Cond.methodLink "Leasehall$Session" (3 : Nat) ({ cls := "java/lang/Object", name := "<init>", desc := "()V" } : Jvm.MethodName)) ∈ gws := kt2 208 rfl rfl
theorem kw_449 : (Jvm.Cond.classLink "Leasehall$Session" (9 : Nat) "Leasehall$Act") ∈ gws := kt2 209 rfl rfl
theorem kw_451 : (Jvm.Cond.classLink "Leasehall$Session" (27 : Nat) "Leasehall$Row") ∈ gws := kt2 211 rfl rfl
theorem kw_452 : (Jvm.Cond.instantiable "Leasehall$Row" (3 : Nat)) ∈ gws := kt2 212 rfl rfl
theorem kw_454 : (Jvm.Cond.instanceMethod ({ cls := "Leasehall$Row", name := "<init>", desc := "()V" } : Jvm.MethodName)) ∈ gws := kt2 214 rfl rfl
theorem kw_455 : (Jvm.Cond.code ({ cls := "Leasehall$Row", name := "<init>", desc := "()V" } : Jvm.MethodName) prog_6_method_1_code (1 : Nat) (Option.none : Option Jvm.ClassFile.FieldType)) ∈ gws := kt2 215 rfl rfl
theorem kw_456 : (Jvm.Cond.methodLink "Leasehall$Row" (3 : Nat) ({ cls := "java/lang/Object", name := "<init>", desc := "()V" } : Jvm.MethodName)) ∈ gws := kt2 216 rfl rfl
theorem kw_457 : (Jvm.Cond.fieldLink "Leasehall$Row" (9 : Nat) "Leasehall$Row" "told" "[I") ∈ gws := kt2 217 rfl rfl
theorem kw_458 : (Jvm.Cond.fieldLink "Leasehall$Row" (15 : Nat) "Leasehall$Row" "first" "I") ∈ gws := kt2 218 rfl rfl
theorem kw_459 : (Jvm.Cond.fieldLink "Leasehall$Row" (19 : Nat) "Leasehall$Row" "end" "I") ∈ gws := kt2 219 rfl rfl
theorem kw_460 : (Jvm.Cond.lays "Leasehall$Row" "Leasehall$Row" "told" "[I") ∈ gws := kt2 220 rfl rfl
theorem kw_461 : (Jvm.Cond.soleField "Leasehall$Row" "told") ∈ gws := kt2 221 rfl rfl
theorem kw_462 : (Jvm.Cond.lays "Leasehall$Row" "Leasehall$Row" "first" "I") ∈ gws := kt2 222 rfl rfl
theorem kw_463 : (Jvm.Cond.soleField "Leasehall$Row" "first") ∈ gws := kt2 223 rfl rfl
theorem kw_464 : (Jvm.Cond.lays "Leasehall$Row" "Leasehall$Row" "end" "I") ∈ gws := kt2 224 rfl rfl
theorem kw_465 : (Jvm.Cond.soleField "Leasehall$Row" "end") ∈ gws := kt2 225 rfl rfl
theorem kw_468 : (Jvm.Cond.fieldLink "Leasehall$Session" (51 : Nat) "Leasehall$Session" "number" "I") ∈ gws := kt2 228 rfl rfl
theorem kw_469 : (Jvm.Cond.fieldLink "Leasehall" (504 : Nat) "Leasehall$Session" "number" "I") ∈ gws := kt2 229 rfl rfl
theorem kw_470 : (Jvm.Cond.fieldLink "Leasehall$Session" (54 : Nat) "Leasehall$Session" "person" "I") ∈ gws := kt2 230 rfl rfl
theorem kw_471 : (Jvm.Cond.fieldLink "Leasehall" (280 : Nat) "Leasehall$Session" "person" "I") ∈ gws := kt2 231 rfl rfl
theorem kw_472 : (Jvm.Cond.fieldLink "Leasehall$Session" (61 : Nat) "Leasehall$Session" "patience" "I") ∈ gws := kt2 232 rfl rfl
theorem kw_473 : (Jvm.Cond.fieldLink "Leasehall" (498 : Nat) "Leasehall$Session" "patience" "I") ∈ gws := kt2 233 rfl rfl
theorem kw_474 : (Jvm.Cond.fieldLink "Leasehall$Session" (11 : Nat) "Leasehall$Session" "acts" "[LLeasehall$Act;") ∈ gws := kt2 234 rfl rfl
theorem kw_475 : (Jvm.Cond.fieldLink "Leasehall" (414 : Nat) "Leasehall$Session" "acts" "[LLeasehall$Act;") ∈ gws := kt2 235 rfl rfl
theorem kw_476 : (Jvm.Cond.fieldLink "Leasehall$Session" (17 : Nat) "Leasehall$Session" "answers" "[I") ∈ gws := kt2 236 rfl rfl
theorem kw_477 : (Jvm.Cond.fieldLink "Leasehall" (264 : Nat) "Leasehall$Session" "answers" "[I") ∈ gws := kt2 237 rfl rfl
theorem kw_478 : (Jvm.Cond.fieldLink "Leasehall$Session" (21 : Nat) "Leasehall$Session" "watchNode" "[I") ∈ gws := kt2 238 rfl rfl
theorem kw_479 : (Jvm.Cond.fieldLink "Leasehall$Session" (24 : Nat) "Leasehall$Session" "watchKind" "[I") ∈ gws := kt2 239 rfl rfl
theorem kw_480 : (Jvm.Cond.fieldLink "Leasehall$Session" (30 : Nat) "Leasehall$Session" "row" "LLeasehall$Row;") ∈ gws := kt3 0 rfl rfl
theorem kw_481 : (Jvm.Cond.fieldLink "Leasehall" (304 : Nat) "Leasehall$Session" "row" "LLeasehall$Row;") ∈ gws := kt3 1 rfl rfl
theorem kw_482 : (Jvm.Cond.fieldLink "Leasehall$Session" (57 : Nat) "Leasehall$Session" "server" "LLeasehall$Server;") ∈ gws := kt3 2 rfl rfl
theorem kw_483 : (Jvm.Cond.fieldLink "Leasehall" (162 : Nat) "Leasehall$Session" "server" "LLeasehall$Server;") ∈ gws := kt3 3 rfl rfl
theorem kw_484 : (Jvm.Cond.fieldLink "Leasehall$Session" (64 : Nat) "Leasehall$Session" "last" "I") ∈ gws := kt3 4 rfl rfl
theorem kw_485 : (Jvm.Cond.fieldLink "Leasehall" (238 : Nat) "Leasehall$Session" "last" "I") ∈ gws := kt3 5 rfl rfl
theorem kw_486 : (Jvm.Cond.fieldLink "Leasehall$Session" (72 : Nat) "Leasehall$Session" "steps" "I") ∈ gws := kt3 6 rfl rfl
theorem kw_487 : (Jvm.Cond.fieldLink "Leasehall" (507 : Nat) "Leasehall$Session" "steps" "I") ∈ gws := kt3 7 rfl rfl
theorem kw_488 : (Jvm.Cond.fieldLink "Leasehall$Session" (34 : Nat) "Leasehall$Session" "watches" "I") ∈ gws := kt3 8 rfl rfl
theorem kw_489 : (Jvm.Cond.fieldLink "Leasehall" (296 : Nat) "Leasehall$Session" "watches" "I") ∈ gws := kt3 9 rfl rfl
theorem kw_490 : (Jvm.Cond.fieldLink "Leasehall$Session" (38 : Nat) "Leasehall$Session" "gathered" "I") ∈ gws := kt3 10 rfl rfl
theorem kw_491 : (Jvm.Cond.fieldLink "Leasehall" (244 : Nat) "Leasehall$Session" "gathered" "I") ∈ gws := kt3 11 rfl rfl
theorem kw_492 : (Jvm.Cond.fieldLink "Leasehall$Session" (41 : Nat) "Leasehall$Session" "answered" "I") ∈ gws := kt3 12 rfl rfl
theorem kw_493 : (Jvm.Cond.fieldLink "Leasehall" (255 : Nat) "Leasehall$Session" "answered" "I") ∈ gws := kt3 13 rfl rfl
theorem kw_494 : (Jvm.Cond.fieldLink "Leasehall$Session" (44 : Nat) "Leasehall$Session" "gathers" "Z") ∈ gws := kt3 14 rfl rfl
theorem kw_495 : (Jvm.Cond.fieldLink "Leasehall" (241 : Nat) "Leasehall$Session" "gathers" "Z") ∈ gws := kt3 15 rfl rfl
theorem kw_496 : (Jvm.Cond.fieldLink "Leasehall$Session" (48 : Nat) "Leasehall$Session" "ended" "Z") ∈ gws := kt3 16 rfl rfl
theorem kw_497 : (Jvm.Cond.fieldLink "Leasehall" (387 : Nat) "Leasehall$Session" "ended" "Z") ∈ gws := kt3 17 rfl rfl
theorem kw_498 : (Jvm.Cond.laysFinal "Leasehall$Session" "Leasehall$Session" "number" "I") ∈ gws := kt3 18 rfl rfl
theorem kw_499 : (Jvm.Cond.soleField "Leasehall$Session" "number") ∈ gws := kt3 19 rfl rfl
theorem kw_500 : (Jvm.Cond.laysFinal "Leasehall$Session" "Leasehall$Session" "person" "I") ∈ gws := kt3 20 rfl rfl
theorem kw_501 : (Jvm.Cond.soleField "Leasehall$Session" "person") ∈ gws := kt3 21 rfl rfl
theorem kw_502 : (Jvm.Cond.laysFinal "Leasehall$Session" "Leasehall$Session" "patience" "I") ∈ gws := kt3 22 rfl rfl
theorem kw_503 : (Jvm.Cond.soleField "Leasehall$Session" "patience") ∈ gws := kt3 23 rfl rfl
theorem kw_504 : (Jvm.Cond.laysFinal "Leasehall$Session" "Leasehall$Session" "acts" "[LLeasehall$Act;") ∈ gws := kt3 24 rfl rfl
theorem kw_505 : (Jvm.Cond.soleField "Leasehall$Session" "acts") ∈ gws := kt3 25 rfl rfl
theorem kw_506 : (Jvm.Cond.laysFinal "Leasehall$Session" "Leasehall$Session" "answers" "[I") ∈ gws := kt3 26 rfl rfl
theorem kw_507 : (Jvm.Cond.soleField "Leasehall$Session" "answers") ∈ gws := kt3 27 rfl rfl
theorem kw_508 : (Jvm.Cond.laysFinal "Leasehall$Session" "Leasehall$Session" "watchNode" "[I") ∈ gws := kt3 28 rfl rfl
theorem kw_509 : (Jvm.Cond.soleField "Leasehall$Session" "watchNode") ∈ gws := kt3 29 rfl rfl
theorem kw_510 : (Jvm.Cond.laysFinal "Leasehall$Session" "Leasehall$Session" "watchKind" "[I") ∈ gws := kt3 30 rfl rfl
theorem kw_511 : (Jvm.Cond.soleField "Leasehall$Session" "watchKind") ∈ gws := kt3 31 rfl rfl
theorem kw_512 : (Jvm.Cond.laysFinal "Leasehall$Session" "Leasehall$Session" "row" "LLeasehall$Row;") ∈ gws := kt3 32 rfl rfl
theorem kw_513 : (Jvm.Cond.soleField "Leasehall$Session" "row") ∈ gws := kt3 33 rfl rfl
theorem kw_514 : (Jvm.Cond.lays "Leasehall$Session" "Leasehall$Session" "server" "LLeasehall$Server;") ∈ gws := kt3 34 rfl rfl
theorem kw_515 : (Jvm.Cond.soleField "Leasehall$Session" "server") ∈ gws := kt3 35 rfl rfl
theorem kw_516 : (Jvm.Cond.lays "Leasehall$Session" "Leasehall$Session" "last" "I") ∈ gws := kt3 36 rfl rfl
theorem kw_517 : (Jvm.Cond.soleField "Leasehall$Session" "last") ∈ gws := kt3 37 rfl rfl
theorem kw_518 : (Jvm.Cond.lays "Leasehall$Session" "Leasehall$Session" "steps" "I") ∈ gws := kt3 38 rfl rfl
theorem kw_519 : (Jvm.Cond.soleField "Leasehall$Session" "steps") ∈ gws := kt3 39 rfl rfl
theorem kw_520 : (Jvm.Cond.lays "Leasehall$Session" "Leasehall$Session" "watches" "I") ∈ gws := kt3 40 rfl rfl
theorem kw_521 : (Jvm.Cond.soleField "Leasehall$Session" "watches") ∈ gws := kt3 41 rfl rfl
theorem kw_522 : (Jvm.Cond.lays "Leasehall$Session" "Leasehall$Session" "gathered" "I") ∈ gws := kt3 42 rfl rfl
theorem kw_523 : (Jvm.Cond.soleField "Leasehall$Session" "gathered") ∈ gws := kt3 43 rfl rfl
theorem kw_524 : (Jvm.Cond.lays "Leasehall$Session" "Leasehall$Session" "answered" "I") ∈ gws := kt3 44 rfl rfl
theorem kw_525 : (Jvm.Cond.soleField "Leasehall$Session" "answered") ∈ gws := kt3 45 rfl rfl
theorem kw_526 : (Jvm.Cond.lays "Leasehall$Session" "Leasehall$Session" "gathers" "Z") ∈ gws := kt3 46 rfl rfl
theorem kw_527 : (Jvm.Cond.soleField "Leasehall$Session" "gathers") ∈ gws := kt3 47 rfl rfl
theorem kw_528 : (Jvm.Cond.lays "Leasehall$Session" "Leasehall$Session" "ended" "Z") ∈ gws := kt3 48 rfl rfl
theorem kw_529 : (Jvm.Cond.soleField "Leasehall$Session" "ended") ∈ gws := kt3 49 rfl rfl
theorem kw_531 : (Jvm.Cond.methodLink "Leasehall" (140 : Nat) ({ cls := "java/util/ArrayList", name := "add", desc := "(Ljava/lang/Object;)Z" } : Jvm.MethodName)) ∈ gws := kt3 51 rfl rfl
theorem kw_532 : (Jvm.Cond.instanceMethod ({ cls := "java/util/ArrayList", name := "add", desc := "(Ljava/lang/Object;)Z" } : Jvm.MethodName)) ∈ gws := kt3 52 rfl rfl
theorem kw_533 : (Jvm.Cond.selects "java/util/ArrayList" ({ cls := "java/util/ArrayList", name := "add", desc := "(Ljava/lang/Object;)Z" } : Jvm.MethodName) ({ cls := "java/util/ArrayList", name := "add", desc := "(Ljava/lang/Object;)Z" } : Jvm.MethodName)) ∈ gws := kt3 53 rfl rfl
theorem kw_534 : (Jvm.Cond.code ({ cls := "java/util/ArrayList", name := "add", desc := "(Ljava/lang/Object;)Z" } : Jvm.MethodName) prog_26_method_25_code (2 : Nat) (Option.some Jvm.ClassFile.FieldType.boolean)) ∈ gws := kt3 54 rfl rfl
theorem kw_535 : (Jvm.Cond.methodLink "java/util/ArrayList" (131 : Nat) ({ cls := "java/util/ArrayList", name := "add", desc := "(Ljava/lang/Object;[Ljava/lang/Object;I)V" } : Jvm.MethodName)) ∈ gws := kt3 55 rfl rfl
theorem kw_537 : (Jvm.Cond.instanceMethod ({ cls := "java/util/ArrayList", name := "add", desc := "(Ljava/lang/Object;[Ljava/lang/Object;I)V" } : Jvm.MethodName)) ∈ gws := kt3 57 rfl rfl
theorem kw_538 : (Jvm.Cond.code ({ cls := "java/util/ArrayList", name := "add", desc := "(Ljava/lang/Object;[Ljava/lang/Object;I)V" } : Jvm.MethodName) prog_26_method_24_code (4 : Nat) (Option.none : Option Jvm.ClassFile.FieldType)) ∈ gws := kt3 58 rfl rfl
theorem kw_539 : (Jvm.Cond.methodLink "java/util/ArrayList" (129 : Nat) ({ cls := "java/util/ArrayList", name := "grow", desc := "()[Ljava/lang/Object;" } : Jvm.MethodName)) ∈ gws := kt3 59 rfl rfl
theorem kw_541 : (Jvm.Cond.instanceMethod ({ cls := "java/util/ArrayList", name := "grow", desc := "()[Ljava/lang/Object;" } : Jvm.MethodName)) ∈ gws := kt3 61 rfl rfl
theorem kw_542 : (Jvm.Cond.code ({ cls := "java/util/ArrayList", name := "grow", desc := "()[Ljava/lang/Object;" } : Jvm.MethodName) prog_26_method_7_code (1 : Nat) (Option.some (Jvm.ClassFile.FieldType.array (Jvm.ClassFile.FieldType.object "java/lang/Object")))) ∈ gws := kt3 62 rfl rfl
theorem kw_543 : (Jvm.Cond.methodLink "java/util/ArrayList" (69 : Nat) ({ cls := "java/util/ArrayList", name := "grow", desc := "(I)[Ljava/lang/Object;" } : Jvm.MethodName)) ∈ gws := kt3 63 rfl rfl
theorem kw_545 : (Jvm.Cond.instanceMethod ({ cls := "java/util/ArrayList", name := "grow", desc := "(I)[Ljava/lang/Object;" } : Jvm.MethodName)) ∈ gws := kt3 65 rfl rfl
theorem kw_546 : (Jvm.Cond.code ({ cls := "java/util/ArrayList", name := "grow", desc := "(I)[Ljava/lang/Object;" } : Jvm.MethodName) prog_26_method_6_code (4 : Nat) (Option.some (Jvm.ClassFile.FieldType.array (Jvm.ClassFile.FieldType.object "java/lang/Object")))) ∈ gws := kt3 66 rfl rfl
theorem kw_547 : (Jvm.Cond.methodLink "java/util/ArrayList" (73 : Nat) ({ cls := "jdk/internal/util/ArraysSupport", name := "newLength", desc := "(III)I" } : Jvm.MethodName)) ∈ gws := kt3 67 rfl rfl
theorem kw_548 : (Jvm.Cond.static ({ cls := "jdk/internal/util/ArraysSupport", name := "newLength", desc := "(III)I" } : Jvm.MethodName)) ∈ gws := kt3 68 rfl rfl
theorem kw_549 : (Jvm.Cond.code ({ cls := "jdk/internal/util/ArraysSupport", name := "newLength", desc := "(III)I" } : Jvm.MethodName) prog_33_method_27_code (4 : Nat) (Option.some Jvm.ClassFile.FieldType.int)) ∈ gws := kt3 69 rfl rfl
theorem kw_550 : (Jvm.Cond.methodLink "jdk/internal/util/ArraysSupport" (194 : Nat) ({ cls := "java/lang/Math", name := "max", desc := "(II)I" } : Jvm.MethodName)) ∈ gws := kt3 70 rfl rfl
theorem kw_551 : (Jvm.Cond.static ({ cls := "java/lang/Math", name := "max", desc := "(II)I" } : Jvm.MethodName)) ∈ gws := kt3 71 rfl rfl
theorem kw_552 : (Jvm.Cond.code ({ cls := "java/lang/Math", name := "max", desc := "(II)I" } : Jvm.MethodName) prog_19_method_65_code (2 : Nat) (Option.some Jvm.ClassFile.FieldType.int)) ∈ gws := kt3 72 rfl rfl
theorem kw_554 : (Jvm.Cond.methodLink "jdk/internal/util/ArraysSupport" (201 : Nat) ({ cls := "jdk/internal/util/ArraysSupport", name := "hugeLength", desc := "(II)I" } : Jvm.MethodName)) ∈ gws := kt3 74 rfl rfl
theorem kw_555 : (Jvm.Cond.static ({ cls := "jdk/internal/util/ArraysSupport", name := "hugeLength", desc := "(II)I" } : Jvm.MethodName)) ∈ gws := kt3 75 rfl rfl
theorem kw_556 : (Jvm.Cond.code ({ cls := "jdk/internal/util/ArraysSupport", name := "hugeLength", desc := "(II)I" } : Jvm.MethodName) prog_33_method_28_code (3 : Nat) (Option.some Jvm.ClassFile.FieldType.int)) ∈ gws := kt3 76 rfl rfl
theorem kw_557 : (Jvm.Cond.methodLink "java/util/ArrayList" (66 : Nat) ({ cls := "java/util/Arrays", name := "copyOf", desc := "([Ljava/lang/Object;I)[Ljava/lang/Object;" } : Jvm.MethodName)) ∈ gws := kt3 77 rfl rfl
theorem kw_558 : (Jvm.Cond.static ({ cls := "java/util/Arrays", name := "copyOf", desc := "([Ljava/lang/Object;I)[Ljava/lang/Object;" } : Jvm.MethodName)) ∈ gws := kt3 78 rfl rfl
theorem kw_559 : (Jvm.Cond.code ({ cls := "java/util/Arrays", name := "copyOf", desc := "([Ljava/lang/Object;I)[Ljava/lang/Object;" } : Jvm.MethodName) prog_27_method_119_code (2 : Nat) (Option.some (Jvm.ClassFile.FieldType.array (Jvm.ClassFile.FieldType.object "java/lang/Object")))) ∈ gws := kt3 79 rfl rfl
theorem kw_560 : (Jvm.Cond.methodLink "java/util/Arrays" (86 : Nat) ({ cls := "java/lang/Object", name := "getClass", desc := "()Ljava/lang/Class;" } : Jvm.MethodName)) ∈ gws := kt3 80 rfl rfl
theorem kw_561 : (Jvm.Cond.instanceMethod ({ cls := "java/lang/Object", name := "getClass", desc := "()Ljava/lang/Class;" } : Jvm.MethodName)) ∈ gws := kt3 81 rfl rfl
theorem kw_563 : (Jvm.Cond.selects "Leasehall" ({ cls := "java/lang/Object", name := "getClass", desc := "()Ljava/lang/Class;" } : Jvm.MethodName) ({ cls := "java/lang/Object", name := "getClass", desc := "()Ljava/lang/Class;" } : Jvm.MethodName)) ∈ gws := kt3 83 rfl rfl
theorem kw_564 : (Jvm.Cond.selects "Leasehall$Act" ({ cls := "java/lang/Object", name := "getClass", desc := "()Ljava/lang/Class;" } : Jvm.MethodName) ({ cls := "java/lang/Object", name := "getClass", desc := "()Ljava/lang/Class;" } : Jvm.MethodName)) ∈ gws := kt3 84 rfl rfl
theorem kw_565 : (Jvm.Cond.selects "Leasehall$Births" ({ cls := "java/lang/Object", name := "getClass", desc := "()Ljava/lang/Class;" } : Jvm.MethodName) ({ cls := "java/lang/Object", name := "getClass", desc := "()Ljava/lang/Class;" } : Jvm.MethodName)) ∈ gws := kt3 85 rfl rfl
theorem kw_566 : (Jvm.Cond.selects "Leasehall$Lease" ({ cls := "java/lang/Object", name := "getClass", desc := "()Ljava/lang/Class;" } : Jvm.MethodName) ({ cls := "java/lang/Object", name := "getClass", desc := "()Ljava/lang/Class;" } : Jvm.MethodName)) ∈ gws := kt3 86 rfl rfl
theorem kw_567 : (Jvm.Cond.selects "Leasehall$Log" ({ cls := "java/lang/Object", name := "getClass", desc := "()Ljava/lang/Class;" } : Jvm.MethodName) ({ cls := "java/lang/Object", name := "getClass", desc := "()Ljava/lang/Class;" } : Jvm.MethodName)) ∈ gws := kt3 87 rfl rfl
theorem kw_568 : (Jvm.Cond.selects "Leasehall$Row" ({ cls := "java/lang/Object", name := "getClass", desc := "()Ljava/lang/Class;" } : Jvm.MethodName) ({ cls := "java/lang/Object", name := "getClass", desc := "()Ljava/lang/Class;" } : Jvm.MethodName)) ∈ gws := kt3 88 rfl rfl
theorem kw_569 : (Jvm.Cond.selects "Leasehall$Server" ({ cls := "java/lang/Object", name := "getClass", desc := "()Ljava/lang/Class;" } : Jvm.MethodName) ({ cls := "java/lang/Object", name := "getClass", desc := "()Ljava/lang/Class;" } : Jvm.MethodName)) ∈ gws := kt3 89 rfl rfl
theorem kw_570 : (Jvm.Cond.selects "Leasehall$Session" ({ cls := "java/lang/Object", name := "getClass", desc := "()Ljava/lang/Class;" } : Jvm.MethodName) ({ cls := "java/lang/Object", name := "getClass", desc := "()Ljava/lang/Class;" } : Jvm.MethodName)) ∈ gws := kt3 90 rfl rfl
theorem kw_571 : (Jvm.Cond.selects "Leasehall$Tree" ({ cls := "java/lang/Object", name := "getClass", desc := "()Ljava/lang/Class;" } : Jvm.MethodName) ({ cls := "java/lang/Object", name := "getClass", desc := "()Ljava/lang/Class;" } : Jvm.MethodName)) ∈ gws := kt3 91 rfl rfl
theorem kw_572 : (Jvm.Cond.selects "LeasehallModel" ({ cls := "java/lang/Object", name := "getClass", desc := "()Ljava/lang/Class;" } : Jvm.MethodName) ({ cls := "java/lang/Object", name := "getClass", desc := "()Ljava/lang/Class;" } : Jvm.MethodName)) ∈ gws := kt3 92 rfl rfl
theorem kw_573 : (Jvm.Cond.selects "java/lang/IllegalArgumentException" ({ cls := "java/lang/Object", name := "getClass", desc := "()Ljava/lang/Class;" } : Jvm.MethodName) ({ cls := "java/lang/Object", name := "getClass", desc := "()Ljava/lang/Class;" } : Jvm.MethodName)) ∈ gws := kt3 93 rfl rfl
theorem kw_574 : (Jvm.Cond.selects "java/lang/IllegalStateException" ({ cls := "java/lang/Object", name := "getClass", desc := "()Ljava/lang/Class;" } : Jvm.MethodName) ({ cls := "java/lang/Object", name := "getClass", desc := "()Ljava/lang/Class;" } : Jvm.MethodName)) ∈ gws := kt3 94 rfl rfl
theorem kw_575 : (Jvm.Cond.selects "java/lang/IndexOutOfBoundsException" ({ cls := "java/lang/Object", name := "getClass", desc := "()Ljava/lang/Class;" } : Jvm.MethodName) ({ cls := "java/lang/Object", name := "getClass", desc := "()Ljava/lang/Class;" } : Jvm.MethodName)) ∈ gws := kt3 95 rfl rfl
theorem kw_576 : (Jvm.Cond.selects "java/util/ArrayList" ({ cls := "java/lang/Object", name := "getClass", desc := "()Ljava/lang/Class;" } : Jvm.MethodName) ({ cls := "java/lang/Object", name := "getClass", desc := "()Ljava/lang/Class;" } : Jvm.MethodName)) ∈ gws := kt3 96 rfl rfl
theorem kw_578 : (Jvm.Cond.methodLink "java/util/Arrays" (300 : Nat) ({ cls := "java/util/Arrays", name := "copyOf", desc := "([Ljava/lang/Object;ILjava/lang/Class;)[Ljava/lang/Object;" } : Jvm.MethodName)) ∈ gws := kt3 98 rfl rfl
theorem kw_579 : (Jvm.Cond.static ({ cls := "java/util/Arrays", name := "copyOf", desc := "([Ljava/lang/Object;ILjava/lang/Class;)[Ljava/lang/Object;" } : Jvm.MethodName)) ∈ gws := kt3 99 rfl rfl
theorem kw_580 : (Jvm.Cond.code ({ cls := "java/util/Arrays", name := "copyOf", desc := "([Ljava/lang/Object;ILjava/lang/Class;)[Ljava/lang/Object;" } : Jvm.MethodName) prog_27_method_120_code (4 : Nat) (Option.some (Jvm.ClassFile.FieldType.array (Jvm.ClassFile.FieldType.object "java/lang/Object")))) ∈ gws := kt3 100 rfl rfl
theorem kw_581 : (Jvm.Cond.classLink "java/util/Arrays" (110 : Nat) "[Ljava/lang/Object;") ∈ gws := kt3 101 rfl rfl
theorem kw_583 : (Jvm.Cond.classLink "java/util/Arrays" (2 : Nat) "java/lang/Object") ∈ gws := kt3 103 rfl rfl
theorem kw_584 : (Jvm.Cond.methodLink "java/util/Arrays" (304 : Nat) ({ cls := "java/lang/Math", name := "min", desc := "(II)I" } : Jvm.MethodName)) ∈ gws := kt3 104 rfl rfl
theorem kw_585 : (Jvm.Cond.static ({ cls := "java/lang/Math", name := "min", desc := "(II)I" } : Jvm.MethodName)) ∈ gws := kt3 105 rfl rfl
theorem kw_586 : (Jvm.Cond.code ({ cls := "java/lang/Math", name := "min", desc := "(II)I" } : Jvm.MethodName) prog_19_method_69_code (2 : Nat) (Option.some Jvm.ClassFile.FieldType.int)) ∈ gws := kt3 106 rfl rfl
theorem kw_587 : (Jvm.Cond.methodLink "java/util/Arrays" (150 : Nat) ({ cls := "java/lang/System", name := "arraycopy", desc := "(Ljava/lang/Object;ILjava/lang/Object;II)V" } : Jvm.MethodName)) ∈ gws := kt3 107 rfl rfl
theorem kw_588 : (Jvm.Cond.static ({ cls := "java/lang/System", name := "arraycopy", desc := "(Ljava/lang/Object;ILjava/lang/Object;II)V" } : Jvm.MethodName)) ∈ gws := kt3 108 rfl rfl
theorem kw_590 : (Jvm.Cond.methodLink "java/util/ArrayList" (79 : Nat) ({ cls := "java/lang/Math", name := "max", desc := "(II)I" } : Jvm.MethodName)) ∈ gws := kt3 110 rfl rfl
theorem kw_591 : (Jvm.Cond.classLink "java/util/ArrayList" (7 : Nat) "java/lang/Object") ∈ gws := kt3 111 rfl rfl
theorem kw_592 : (Jvm.Cond.methodLink "LeasehallLaw" (135 : Nat) ({ cls := "LeasehallLaw", name := "close", desc := "(LLeasehall;I[J)I" } : Jvm.MethodName)) ∈ gws := kt3 112 rfl rfl
theorem kw_593 : (Jvm.Cond.static ({ cls := "LeasehallLaw", name := "close", desc := "(LLeasehall;I[J)I" } : Jvm.MethodName)) ∈ gws := kt3 113 rfl rfl
theorem kw_594 : (Jvm.Cond.codeWith ({ cls := "LeasehallLaw", name := "close", desc := "(LLeasehall;I[J)I" } : Jvm.MethodName) method_4_code (4 : Nat) (Option.some Jvm.ClassFile.FieldType.int) [((0 : Nat), (9 : Nat), (12 : Nat), (13 : Nat)), ((0 : Nat), (9 : Nat), (15 : Nat), (17 : Nat))]) ∈ gws := kt3 114 rfl rfl
theorem kw_595 : (Jvm.Cond.methodLink "LeasehallLaw" (19 : Nat) ({ cls := "Leasehall", name := "close", desc := "(I)I" } : Jvm.MethodName)) ∈ gws := kt3 115 rfl rfl
theorem kw_596 : (Jvm.Cond.instanceMethod ({ cls := "Leasehall", name := "close", desc := "(I)I" } : Jvm.MethodName)) ∈ gws := kt3 116 rfl rfl
theorem kw_597 : (Jvm.Cond.selects "Leasehall" ({ cls := "Leasehall", name := "close", desc := "(I)I" } : Jvm.MethodName) ({ cls := "Leasehall", name := "close", desc := "(I)I" } : Jvm.MethodName)) ∈ gws := kt3 117 rfl rfl
theorem kw_598 : (Jvm.Cond.code ({ cls := "Leasehall", name := "close", desc := "(I)I" } : Jvm.MethodName) prog_1_method_3_code (3 : Nat) (Option.some Jvm.ClassFile.FieldType.int)) ∈ gws := kt3 118 rfl rfl
theorem kw_599 : (Jvm.Cond.methodLink "Leasehall" (144 : Nat) ({ cls := "Leasehall", name := "known", desc := "(I)LLeasehall$Session;" } : Jvm.MethodName)) ∈ gws := kt3 119 rfl rfl
theorem kw_601 : (Jvm.Cond.instanceMethod ({ cls := "Leasehall", name := "known", desc := "(I)LLeasehall$Session;" } : Jvm.MethodName)) ∈ gws := kt3 121 rfl rfl
theorem kw_602 : (Jvm.Cond.code ({ cls := "Leasehall", name := "known", desc := "(I)LLeasehall$Session;" } : Jvm.MethodName) prog_1_method_40_code (2 : Nat) (Option.some (Jvm.ClassFile.FieldType.object "Leasehall$Session"))) ∈ gws := kt3 122 rfl rfl
theorem kw_604 : (Jvm.Cond.methodLink "Leasehall" (383 : Nat) ({ cls := "java/util/ArrayList", name := "get", desc := "(I)Ljava/lang/Object;" } : Jvm.MethodName)) ∈ gws := kt3 124 rfl rfl
theorem kw_605 : (Jvm.Cond.instanceMethod ({ cls := "java/util/ArrayList", name := "get", desc := "(I)Ljava/lang/Object;" } : Jvm.MethodName)) ∈ gws := kt3 125 rfl rfl
theorem kw_606 : (Jvm.Cond.selects "java/util/ArrayList" ({ cls := "java/util/ArrayList", name := "get", desc := "(I)Ljava/lang/Object;" } : Jvm.MethodName) ({ cls := "java/util/ArrayList", name := "get", desc := "(I)Ljava/lang/Object;" } : Jvm.MethodName)) ∈ gws := kt3 126 rfl rfl
theorem kw_607 : (Jvm.Cond.code ({ cls := "java/util/ArrayList", name := "get", desc := "(I)Ljava/lang/Object;" } : Jvm.MethodName) prog_26_method_20_code (2 : Nat) (Option.some (Jvm.ClassFile.FieldType.object "java/lang/Object"))) ∈ gws := kt3 127 rfl rfl
theorem kw_608 : (Jvm.Cond.methodLink "java/util/ArrayList" (118 : Nat) ({ cls := "java/util/Objects", name := "checkIndex", desc := "(II)I" } : Jvm.MethodName)) ∈ gws := kt3 128 rfl rfl
theorem kw_609 : (Jvm.Cond.static ({ cls := "java/util/Objects", name := "checkIndex", desc := "(II)I" } : Jvm.MethodName)) ∈ gws := kt3 129 rfl rfl
theorem kw_610 : (Jvm.Cond.code ({ cls := "java/util/Objects", name := "checkIndex", desc := "(II)I" } : Jvm.MethodName) prog_30_method_17_code (2 : Nat) (Option.some Jvm.ClassFile.FieldType.int)) ∈ gws := kt3 130 rfl rfl
theorem kw_611 : (Jvm.Cond.methodLink "java/util/Objects" (105 : Nat) ({ cls := "jdk/internal/util/Preconditions", name := "checkIndex", desc := "(IILjava/util/function/BiFunction;)I" } : Jvm.MethodName)) ∈ gws := kt3 131 rfl rfl
theorem kw_612 : (Jvm.Cond.static ({ cls := "jdk/internal/util/Preconditions", name := "checkIndex", desc := "(IILjava/util/function/BiFunction;)I" } : Jvm.MethodName)) ∈ gws := kt3 132 rfl rfl
theorem kw_613 : (Jvm.Cond.code ({ cls := "jdk/internal/util/Preconditions", name := "checkIndex", desc := "(IILjava/util/function/BiFunction;)I" } : Jvm.MethodName) prog_34_method_11_code (3 : Nat) (Option.some Jvm.ClassFile.FieldType.int)) ∈ gws := kt3 133 rfl rfl
theorem kw_614 : (Jvm.Cond.methodLink "java/util/ArrayList" (123 : Nat) ({ cls := "java/util/ArrayList", name := "elementData", desc := "(I)Ljava/lang/Object;" } : Jvm.MethodName)) ∈ gws := kt3 134 rfl rfl
theorem kw_615 : (Jvm.Cond.instanceMethod ({ cls := "java/util/ArrayList", name := "elementData", desc := "(I)Ljava/lang/Object;" } : Jvm.MethodName)) ∈ gws := kt3 135 rfl rfl
theorem kw_616 : (Jvm.Cond.selects "java/util/ArrayList" ({ cls := "java/util/ArrayList", name := "elementData", desc := "(I)Ljava/lang/Object;" } : Jvm.MethodName) ({ cls := "java/util/ArrayList", name := "elementData", desc := "(I)Ljava/lang/Object;" } : Jvm.MethodName)) ∈ gws := kt3 136 rfl rfl
theorem kw_617 : (Jvm.Cond.code ({ cls := "java/util/ArrayList", name := "elementData", desc := "(I)Ljava/lang/Object;" } : Jvm.MethodName) prog_26_method_18_code (2 : Nat) (Option.some (Jvm.ClassFile.FieldType.object "java/lang/Object"))) ∈ gws := kt3 137 rfl rfl
theorem kw_618 : (Jvm.Cond.methodLink "Leasehall" (148 : Nat) ({ cls := "Leasehall", name := "mustLive", desc := "(LLeasehall$Session;)V" } : Jvm.MethodName)) ∈ gws := kt3 138 rfl rfl
theorem kw_620 : (Jvm.Cond.instanceMethod ({ cls := "Leasehall", name := "mustLive", desc := "(LLeasehall$Session;)V" } : Jvm.MethodName)) ∈ gws := kt3 140 rfl rfl
theorem kw_621 : (Jvm.Cond.code ({ cls := "Leasehall", name := "mustLive", desc := "(LLeasehall$Session;)V" } : Jvm.MethodName) prog_1_method_43_code (2 : Nat) (Option.none : Option Jvm.ClassFile.FieldType)) ∈ gws := kt3 141 rfl rfl
theorem kw_622 : (Jvm.Cond.methodLink "Leasehall" (152 : Nat) ({ cls := "Leasehall", name := "forgetLocks", desc := "(LLeasehall$Session;)V" } : Jvm.MethodName)) ∈ gws := kt3 142 rfl rfl
theorem kw_624 : (Jvm.Cond.instanceMethod ({ cls := "Leasehall", name := "forgetLocks", desc := "(LLeasehall$Session;)V" } : Jvm.MethodName)) ∈ gws := kt3 144 rfl rfl
theorem kw_625 : (Jvm.Cond.code ({ cls := "Leasehall", name := "forgetLocks", desc := "(LLeasehall$Session;)V" } : Jvm.MethodName) prog_1_method_73_code (3 : Nat) (Option.none : Option Jvm.ClassFile.FieldType)) ∈ gws := kt3 145 rfl rfl
theorem kw_626 : (Jvm.Cond.methodLink "Leasehall" (316 : Nat) ({ cls := "Leasehall", name := "believe", desc := "(LLeasehall$Session;IZ)V" } : Jvm.MethodName)) ∈ gws := kt3 146 rfl rfl
theorem kw_628 : (Jvm.Cond.instanceMethod ({ cls := "Leasehall", name := "believe", desc := "(LLeasehall$Session;IZ)V" } : Jvm.MethodName)) ∈ gws := kt3 148 rfl rfl
theorem kw_629 : (Jvm.Cond.code ({ cls := "Leasehall", name := "believe", desc := "(LLeasehall$Session;IZ)V" } : Jvm.MethodName) prog_1_method_72_code (5 : Nat) (Option.none : Option Jvm.ClassFile.FieldType)) ∈ gws := kt3 149 rfl rfl
theorem kw_631 : (Jvm.Cond.methodLink "Leasehall" (155 : Nat) ({ cls := "Leasehall", name := "endSession", desc := "(LLeasehall$Session;)I" } : Jvm.MethodName)) ∈ gws := kt3 151 rfl rfl
theorem kw_633 : (Jvm.Cond.instanceMethod ({ cls := "Leasehall", name := "endSession", desc := "(LLeasehall$Session;)I" } : Jvm.MethodName)) ∈ gws := kt3 153 rfl rfl
theorem kw_634 : (Jvm.Cond.code ({ cls := "Leasehall", name := "endSession", desc := "(LLeasehall$Session;)I" } : Jvm.MethodName) prog_1_method_69_code (2 : Nat) (Option.some Jvm.ClassFile.FieldType.int)) ∈ gws := kt3 154 rfl rfl
theorem kw_635 : (Jvm.Cond.methodLink "Leasehall" (501 : Nat) ({ cls := "Leasehall", name := "letHeldGo", desc := "(II)I" } : Jvm.MethodName)) ∈ gws := kt3 155 rfl rfl
theorem kw_637 : (Jvm.Cond.instanceMethod ({ cls := "Leasehall", name := "letHeldGo", desc := "(II)I" } : Jvm.MethodName)) ∈ gws := kt3 157 rfl rfl
theorem kw_638 : (Jvm.Cond.code ({ cls := "Leasehall", name := "letHeldGo", desc := "(II)I" } : Jvm.MethodName) prog_1_method_70_code (5 : Nat) (Option.some Jvm.ClassFile.FieldType.int)) ∈ gws := kt3 158 rfl rfl
theorem kw_639 : (Jvm.Cond.methodLink "Leasehall" (323 : Nat) ({ cls := "Leasehall", name := "letGo", desc := "(I)I" } : Jvm.MethodName)) ∈ gws := kt3 159 rfl rfl
theorem kw_641 : (Jvm.Cond.instanceMethod ({ cls := "Leasehall", name := "letGo", desc := "(I)I" } : Jvm.MethodName)) ∈ gws := kt3 161 rfl rfl
theorem kw_642 : (Jvm.Cond.code ({ cls := "Leasehall", name := "letGo", desc := "(I)I" } : Jvm.MethodName) prog_1_method_64_code (4 : Nat) (Option.some Jvm.ClassFile.FieldType.int)) ∈ gws := kt3 162 rfl rfl
theorem kw_643 : (Jvm.Cond.methodLink "Leasehall" (466 : Nat) ({ cls := "Leasehall", name := "record", desc := "(III)V" } : Jvm.MethodName)) ∈ gws := kt3 163 rfl rfl
theorem kw_645 : (Jvm.Cond.instanceMethod ({ cls := "Leasehall", name := "record", desc := "(III)V" } : Jvm.MethodName)) ∈ gws := kt3 165 rfl rfl
theorem kw_646 : (Jvm.Cond.code ({ cls := "Leasehall", name := "record", desc := "(III)V" } : Jvm.MethodName) prog_1_method_65_code (4 : Nat) (Option.none : Option Jvm.ClassFile.FieldType)) ∈ gws := kt3 166 rfl rfl
theorem kw_647 : (Jvm.Cond.methodLink "Leasehall" (489 : Nat) ({ cls := "Leasehall$Log", name := "add", desc := "(IIII)Z" } : Jvm.MethodName)) ∈ gws := kt3 167 rfl rfl
theorem kw_648 : (Jvm.Cond.instanceMethod ({ cls := "Leasehall$Log", name := "add", desc := "(IIII)Z" } : Jvm.MethodName)) ∈ gws := kt3 168 rfl rfl
theorem kw_649 : (Jvm.Cond.selects "Leasehall$Log" ({ cls := "Leasehall$Log", name := "add", desc := "(IIII)Z" } : Jvm.MethodName) ({ cls := "Leasehall$Log", name := "add", desc := "(IIII)Z" } : Jvm.MethodName)) ∈ gws := kt3 169 rfl rfl
theorem kw_650 : (Jvm.Cond.code ({ cls := "Leasehall$Log", name := "add", desc := "(IIII)Z" } : Jvm.MethodName) prog_5_method_2_code (5 : Nat) (Option.some Jvm.ClassFile.FieldType.boolean)) ∈ gws := kt3 170 rfl rfl
theorem kw_651 : (Jvm.Cond.methodLink "Leasehall" (492 : Nat) ({ cls := "Leasehall$Tree", name := "apply", desc := "(III)V" } : Jvm.MethodName)) ∈ gws := kt3 171 rfl rfl
theorem kw_652 : (Jvm.Cond.instanceMethod ({ cls := "Leasehall$Tree", name := "apply", desc := "(III)V" } : Jvm.MethodName)) ∈ gws := kt3 172 rfl rfl
theorem kw_653 : (Jvm.Cond.selects "Leasehall$Tree" ({ cls := "Leasehall$Tree", name := "apply", desc := "(III)V" } : Jvm.MethodName) ({ cls := "Leasehall$Tree", name := "apply", desc := "(III)V" } : Jvm.MethodName)) ∈ gws := kt3 173 rfl rfl
theorem kw_654 : (Jvm.Cond.code ({ cls := "Leasehall$Tree", name := "apply", desc := "(III)V" } : Jvm.MethodName) prog_9_method_4_code (4 : Nat) (Option.none : Option Jvm.ClassFile.FieldType)) ∈ gws := kt3 174 rfl rfl
theorem kw_655 : (Jvm.Cond.methodLink "Leasehall$Tree" (53 : Nat) ({ cls := "Leasehall$Tree", name := "appear", desc := "(III)V" } : Jvm.MethodName)) ∈ gws := kt3 175 rfl rfl
theorem kw_657 : (Jvm.Cond.instanceMethod ({ cls := "Leasehall$Tree", name := "appear", desc := "(III)V" } : Jvm.MethodName)) ∈ gws := kt3 177 rfl rfl
theorem kw_658 : (Jvm.Cond.code ({ cls := "Leasehall$Tree", name := "appear", desc := "(III)V" } : Jvm.MethodName) prog_9_method_5_code (4 : Nat) (Option.none : Option Jvm.ClassFile.FieldType)) ∈ gws := kt3 178 rfl rfl
theorem kw_659 : (Jvm.Cond.methodLink "Leasehall$Tree" (57 : Nat) ({ cls := "Leasehall$Tree", name := "giveRights", desc := "(IIZ)V" } : Jvm.MethodName)) ∈ gws := kt3 179 rfl rfl
theorem kw_661 : (Jvm.Cond.instanceMethod ({ cls := "Leasehall$Tree", name := "giveRights", desc := "(IIZ)V" } : Jvm.MethodName)) ∈ gws := kt3 181 rfl rfl
theorem kw_662 : (Jvm.Cond.code ({ cls := "Leasehall$Tree", name := "giveRights", desc := "(IIZ)V" } : Jvm.MethodName) prog_9_method_6_code (6 : Nat) (Option.none : Option Jvm.ClassFile.FieldType)) ∈ gws := kt3 182 rfl rfl
theorem kw_663 : (Jvm.Cond.methodLink "Leasehall" (331 : Nat) ({ cls := "Leasehall$Tree", name := "childrenOf", desc := "(I)I" } : Jvm.MethodName)) ∈ gws := kt3 183 rfl rfl
theorem kw_664 : (Jvm.Cond.instanceMethod ({ cls := "Leasehall$Tree", name := "childrenOf", desc := "(I)I" } : Jvm.MethodName)) ∈ gws := kt3 184 rfl rfl
theorem kw_665 : (Jvm.Cond.selects "Leasehall$Tree" ({ cls := "Leasehall$Tree", name := "childrenOf", desc := "(I)I" } : Jvm.MethodName) ({ cls := "Leasehall$Tree", name := "childrenOf", desc := "(I)I" } : Jvm.MethodName)) ∈ gws := kt3 185 rfl rfl
theorem kw_666 : (Jvm.Cond.code ({ cls := "Leasehall$Tree", name := "childrenOf", desc := "(I)I" } : Jvm.MethodName) prog_9_method_13_code (4 : Nat) (Option.some Jvm.ClassFile.FieldType.int)) ∈ gws := kt3 186 rfl rfl
theorem kw_667 : (Jvm.Cond.methodLink "Leasehall$Tree" (77 : Nat) ({ cls := "Leasehall$Tree", name := "isChild", desc := "(II)Z" } : Jvm.MethodName)) ∈ gws := kt3 187 rfl rfl
theorem kw_668 : (Jvm.Cond.instanceMethod ({ cls := "Leasehall$Tree", name := "isChild", desc := "(II)Z" } : Jvm.MethodName)) ∈ gws := kt3 188 rfl rfl
theorem kw_669 : (Jvm.Cond.selects "Leasehall$Tree" ({ cls := "Leasehall$Tree", name := "isChild", desc := "(II)Z" } : Jvm.MethodName) ({ cls := "Leasehall$Tree", name := "isChild", desc := "(II)Z" } : Jvm.MethodName)) ∈ gws := kt3 189 rfl rfl
theorem kw_670 : (Jvm.Cond.code ({ cls := "Leasehall$Tree", name := "isChild", desc := "(II)Z" } : Jvm.MethodName) prog_9_method_12_code (3 : Nat) (Option.some Jvm.ClassFile.FieldType.boolean)) ∈ gws := kt3 190 rfl rfl
theorem kw_671 : (Jvm.Cond.methodLink "Leasehall" (326 : Nat) ({ cls := "Leasehall", name := "commit", desc := "()V" } : Jvm.MethodName)) ∈ gws := kt3 191 rfl rfl
theorem kw_673 : (Jvm.Cond.instanceMethod ({ cls := "Leasehall", name := "commit", desc := "()V" } : Jvm.MethodName)) ∈ gws := kt3 193 rfl rfl
theorem kw_674 : (Jvm.Cond.code ({ cls := "Leasehall", name := "commit", desc := "()V" } : Jvm.MethodName) prog_1_method_55_code (2 : Nat) (Option.none : Option Jvm.ClassFile.FieldType)) ∈ gws := kt3 194 rfl rfl
theorem kw_675 : (Jvm.Cond.methodLink "LeasehallLaw" (139 : Nat) ({ cls := "LeasehallLaw", name := "ping", desc := "(LLeasehall;I[J)I" } : Jvm.MethodName)) ∈ gws := kt3 195 rfl rfl
theorem kw_676 : (Jvm.Cond.static ({ cls := "LeasehallLaw", name := "ping", desc := "(LLeasehall;I[J)I" } : Jvm.MethodName)) ∈ gws := kt3 196 rfl rfl
theorem kw_677 : (Jvm.Cond.codeWith ({ cls := "LeasehallLaw", name := "ping", desc := "(LLeasehall;I[J)I" } : Jvm.MethodName) method_5_code (4 : Nat) (Option.some Jvm.ClassFile.FieldType.int) [((0 : Nat), (9 : Nat), (12 : Nat), (13 : Nat)), ((0 : Nat), (9 : Nat), (15 : Nat), (17 : Nat))]) ∈ gws := kt3 197 rfl rfl
theorem kw_678 : (Jvm.Cond.methodLink "LeasehallLaw" (23 : Nat) ({ cls := "Leasehall", name := "ping", desc := "(I)I" } : Jvm.MethodName)) ∈ gws := kt3 198 rfl rfl
theorem kw_679 : (Jvm.Cond.instanceMethod ({ cls := "Leasehall", name := "ping", desc := "(I)I" } : Jvm.MethodName)) ∈ gws := kt3 199 rfl rfl
theorem kw_680 : (Jvm.Cond.selects "Leasehall" ({ cls := "Leasehall", name := "ping", desc := "(I)I" } : Jvm.MethodName) ({ cls := "Leasehall", name := "ping", desc := "(I)I" } : Jvm.MethodName)) ∈ gws := kt3 200 rfl rfl
theorem kw_681 : (Jvm.Cond.code ({ cls := "Leasehall", name := "ping", desc := "(I)I" } : Jvm.MethodName) prog_1_method_4_code (3 : Nat) (Option.some Jvm.ClassFile.FieldType.int)) ∈ gws := kt3 201 rfl rfl
theorem kw_682 : (Jvm.Cond.methodLink "Leasehall" (159 : Nat) ({ cls := "Leasehall", name := "wake", desc := "(LLeasehall$Session;)V" } : Jvm.MethodName)) ∈ gws := kt3 202 rfl rfl
theorem kw_684 : (Jvm.Cond.instanceMethod ({ cls := "Leasehall", name := "wake", desc := "(LLeasehall$Session;)V" } : Jvm.MethodName)) ∈ gws := kt3 204 rfl rfl
theorem kw_685 : (Jvm.Cond.code ({ cls := "Leasehall", name := "wake", desc := "(LLeasehall$Session;)V" } : Jvm.MethodName) prog_1_method_44_code (2 : Nat) (Option.none : Option Jvm.ClassFile.FieldType)) ∈ gws := kt3 205 rfl rfl
theorem kw_686 : (Jvm.Cond.methodLink "LeasehallLaw" (142 : Nat) ({ cls := "LeasehallLaw", name := "move", desc := "(LLeasehall;II[J)I" } : Jvm.MethodName)) ∈ gws := kt3 206 rfl rfl
theorem kw_687 : (Jvm.Cond.static ({ cls := "LeasehallLaw", name := "move", desc := "(LLeasehall;II[J)I" } : Jvm.MethodName)) ∈ gws := kt3 207 rfl rfl
theorem kw_688 : (Jvm.Cond.codeWith ({ cls := "LeasehallLaw", name := "move", desc := "(LLeasehall;II[J)I" } : Jvm.MethodName) method_6_code (5 : Nat) (Option.some Jvm.ClassFile.FieldType.int) [((0 : Nat), (17 : Nat), (20 : Nat), (13 : Nat)), ((0 : Nat), (17 : Nat), (24 : Nat), (17 : Nat))]) ∈ gws := kt3 208 rfl rfl
theorem kw_689 : (Jvm.Cond.methodLink "LeasehallLaw" (26 : Nat) ({ cls := "Leasehall", name := "move", desc := "(II)Z" } : Jvm.MethodName)) ∈ gws := kt3 209 rfl rfl
theorem kw_690 : (Jvm.Cond.instanceMethod ({ cls := "Leasehall", name := "move", desc := "(II)Z" } : Jvm.MethodName)) ∈ gws := kt3 210 rfl rfl
theorem kw_691 : (Jvm.Cond.selects "Leasehall" ({ cls := "Leasehall", name := "move", desc := "(II)Z" } : Jvm.MethodName) ({ cls := "Leasehall", name := "move", desc := "(II)Z" } : Jvm.MethodName)) ∈ gws := kt3 211 rfl rfl
theorem kw_692 : (Jvm.Cond.code ({ cls := "Leasehall", name := "move", desc := "(II)Z" } : Jvm.MethodName) prog_1_method_5_code (5 : Nat) (Option.some Jvm.ClassFile.FieldType.boolean)) ∈ gws := kt3 212 rfl rfl
theorem kw_693 : (Jvm.Cond.methodLink "LeasehallLaw" (146 : Nat) ({ cls := "LeasehallLaw", name := "sync", desc := "(LLeasehall;I[J)I" } : Jvm.MethodName)) ∈ gws := kt3 213 rfl rfl
theorem kw_694 : (Jvm.Cond.static ({ cls := "LeasehallLaw", name := "sync", desc := "(LLeasehall;I[J)I" } : Jvm.MethodName)) ∈ gws := kt3 214 rfl rfl
theorem kw_695 : (Jvm.Cond.codeWith ({ cls := "LeasehallLaw", name := "sync", desc := "(LLeasehall;I[J)I" } : Jvm.MethodName) method_7_code (4 : Nat) (Option.some Jvm.ClassFile.FieldType.int) [((0 : Nat), (9 : Nat), (12 : Nat), (13 : Nat)), ((0 : Nat), (9 : Nat), (15 : Nat), (17 : Nat))]) ∈ gws := kt3 215 rfl rfl
theorem kw_696 : (Jvm.Cond.methodLink "LeasehallLaw" (30 : Nat) ({ cls := "Leasehall", name := "sync", desc := "(I)I" } : Jvm.MethodName)) ∈ gws := kt3 216 rfl rfl
theorem kw_697 : (Jvm.Cond.instanceMethod ({ cls := "Leasehall", name := "sync", desc := "(I)I" } : Jvm.MethodName)) ∈ gws := kt3 217 rfl rfl
theorem kw_698 : (Jvm.Cond.selects "Leasehall" ({ cls := "Leasehall", name := "sync", desc := "(I)I" } : Jvm.MethodName) ({ cls := "Leasehall", name := "sync", desc := "(I)I" } : Jvm.MethodName)) ∈ gws := kt3 218 rfl rfl
theorem kw_699 : (Jvm.Cond.code ({ cls := "Leasehall", name := "sync", desc := "(I)I" } : Jvm.MethodName) prog_1_method_6_code (3 : Nat) (Option.some Jvm.ClassFile.FieldType.int)) ∈ gws := kt3 219 rfl rfl
theorem kw_700 : (Jvm.Cond.methodLink "Leasehall" (169 : Nat) ({ cls := "Leasehall", name := "catchUp", desc := "(LLeasehall$Server;I)I" } : Jvm.MethodName)) ∈ gws := kt3 220 rfl rfl
theorem kw_702 : (Jvm.Cond.instanceMethod ({ cls := "Leasehall", name := "catchUp", desc := "(LLeasehall$Server;I)I" } : Jvm.MethodName)) ∈ gws := kt3 222 rfl rfl
theorem kw_703 : (Jvm.Cond.code ({ cls := "Leasehall", name := "catchUp", desc := "(LLeasehall$Server;I)I" } : Jvm.MethodName) prog_1_method_66_code (5 : Nat) (Option.some Jvm.ClassFile.FieldType.int)) ∈ gws := kt3 223 rfl rfl
theorem kw_704 : (Jvm.Cond.methodLink "Leasehall" (495 : Nat) ({ cls := "java/lang/Math", name := "min", desc := "(II)I" } : Jvm.MethodName)) ∈ gws := kt3 224 rfl rfl
theorem kw_705 : (Jvm.Cond.methodLink "LeasehallLaw" (149 : Nat) ({ cls := "LeasehallLaw", name := "follow", desc := "(LLeasehall;II[J)I" } : Jvm.MethodName)) ∈ gws := kt3 225 rfl rfl
theorem kw_706 : (Jvm.Cond.static ({ cls := "LeasehallLaw", name := "follow", desc := "(LLeasehall;II[J)I" } : Jvm.MethodName)) ∈ gws := kt3 226 rfl rfl
theorem kw_707 : (Jvm.Cond.codeWith ({ cls := "LeasehallLaw", name := "follow", desc := "(LLeasehall;II[J)I" } : Jvm.MethodName) method_8_code (5 : Nat) (Option.some Jvm.ClassFile.FieldType.int) [((0 : Nat), (10 : Nat), (13 : Nat), (13 : Nat)), ((0 : Nat), (10 : Nat), (17 : Nat), (15 : Nat))]) ∈ gws := kt3 227 rfl rfl
theorem kw_708 : (Jvm.Cond.methodLink "LeasehallLaw" (33 : Nat) ({ cls := "Leasehall", name := "follow", desc := "(II)I" } : Jvm.MethodName)) ∈ gws := kt3 228 rfl rfl
theorem kw_709 : (Jvm.Cond.instanceMethod ({ cls := "Leasehall", name := "follow", desc := "(II)I" } : Jvm.MethodName)) ∈ gws := kt3 229 rfl rfl
theorem kw_710 : (Jvm.Cond.selects "Leasehall" ({ cls := "Leasehall", name := "follow", desc := "(II)I" } : Jvm.MethodName) ({ cls := "Leasehall", name := "follow", desc := "(II)I" } : Jvm.MethodName)) ∈ gws := kt3 230 rfl rfl
theorem kw_711 : (Jvm.Cond.code ({ cls := "Leasehall", name := "follow", desc := "(II)I" } : Jvm.MethodName) prog_1_method_7_code (4 : Nat) (Option.some Jvm.ClassFile.FieldType.int)) ∈ gws := kt3 231 rfl rfl
theorem kw_713 : (Jvm.Cond.methodLink "LeasehallLaw" (152 : Nat) ({ cls := "LeasehallLaw", name := "pass", desc := "(LLeasehall;I[J)I" } : Jvm.MethodName)) ∈ gws := kt3 233 rfl rfl
theorem kw_714 : (Jvm.Cond.static ({ cls := "LeasehallLaw", name := "pass", desc := "(LLeasehall;I[J)I" } : Jvm.MethodName)) ∈ gws := kt3 234 rfl rfl
theorem kw_715 : (Jvm.Cond.codeWith ({ cls := "LeasehallLaw", name := "pass", desc := "(LLeasehall;I[J)I" } : Jvm.MethodName) method_9_code (4 : Nat) (Option.some Jvm.ClassFile.FieldType.int) [((0 : Nat), (9 : Nat), (12 : Nat), (15 : Nat))]) ∈ gws := kt3 235 rfl rfl
theorem kw_716 : (Jvm.Cond.methodLink "LeasehallLaw" (37 : Nat) ({ cls := "Leasehall", name := "pass", desc := "(I)I" } : Jvm.MethodName)) ∈ gws := kt3 236 rfl rfl
theorem kw_717 : (Jvm.Cond.instanceMethod ({ cls := "Leasehall", name := "pass", desc := "(I)I" } : Jvm.MethodName)) ∈ gws := kt3 237 rfl rfl
theorem kw_718 : (Jvm.Cond.selects "Leasehall" ({ cls := "Leasehall", name := "pass", desc := "(I)I" } : Jvm.MethodName) ({ cls := "Leasehall", name := "pass", desc := "(I)I" } : Jvm.MethodName)) ∈ gws := kt3 238 rfl rfl
theorem kw_719 : (Jvm.Cond.code ({ cls := "Leasehall", name := "pass", desc := "(I)I" } : Jvm.MethodName) prog_1_method_8_code (3 : Nat) (Option.some Jvm.ClassFile.FieldType.int)) ∈ gws := kt3 239 rfl rfl
theorem kw_721 : (Jvm.Cond.methodLink "Leasehall" (177 : Nat) ({ cls := "Leasehall", name := "lapseSessions", desc := "()V" } : Jvm.MethodName)) ∈ gws := kt4 1 rfl rfl
theorem kw_723 : (Jvm.Cond.instanceMethod ({ cls := "Leasehall", name := "lapseSessions", desc := "()V" } : Jvm.MethodName)) ∈ gws := kt4 3 rfl rfl
theorem kw_724 : (Jvm.Cond.code ({ cls := "Leasehall", name := "lapseSessions", desc := "()V" } : Jvm.MethodName) prog_1_method_67_code (3 : Nat) (Option.none : Option Jvm.ClassFile.FieldType)) ∈ gws := kt4 4 rfl rfl
theorem kw_725 : (Jvm.Cond.methodLink "Leasehall" (180 : Nat) ({ cls := "Leasehall", name := "lapseLeases", desc := "()V" } : Jvm.MethodName)) ∈ gws := kt4 5 rfl rfl
theorem kw_727 : (Jvm.Cond.instanceMethod ({ cls := "Leasehall", name := "lapseLeases", desc := "()V" } : Jvm.MethodName)) ∈ gws := kt4 7 rfl rfl
theorem kw_728 : (Jvm.Cond.code ({ cls := "Leasehall", name := "lapseLeases", desc := "()V" } : Jvm.MethodName) prog_1_method_68_code (3 : Nat) (Option.none : Option Jvm.ClassFile.FieldType)) ∈ gws := kt4 8 rfl rfl
theorem kw_729 : (Jvm.Cond.classLink "Leasehall" (185 : Nat) "Leasehall$Lease") ∈ gws := kt4 9 rfl rfl
theorem kw_730 : (Jvm.Cond.methodLink "LeasehallLaw" (155 : Nat) ({ cls := "LeasehallLaw", name := "lease", desc := "(LLeasehall;I[J)I" } : Jvm.MethodName)) ∈ gws := kt4 10 rfl rfl
theorem kw_731 : (Jvm.Cond.static ({ cls := "LeasehallLaw", name := "lease", desc := "(LLeasehall;I[J)I" } : Jvm.MethodName)) ∈ gws := kt4 11 rfl rfl
theorem kw_732 : (Jvm.Cond.codeWith ({ cls := "LeasehallLaw", name := "lease", desc := "(LLeasehall;I[J)I" } : Jvm.MethodName) method_10_code (4 : Nat) (Option.some Jvm.ClassFile.FieldType.int) [((0 : Nat), (9 : Nat), (12 : Nat), (15 : Nat)), ((0 : Nat), (9 : Nat), (15 : Nat), (17 : Nat))]) ∈ gws := kt4 12 rfl rfl
theorem kw_733 : (Jvm.Cond.methodLink "LeasehallLaw" (40 : Nat) ({ cls := "Leasehall", name := "lease", desc := "(I)I" } : Jvm.MethodName)) ∈ gws := kt4 13 rfl rfl
theorem kw_734 : (Jvm.Cond.instanceMethod ({ cls := "Leasehall", name := "lease", desc := "(I)I" } : Jvm.MethodName)) ∈ gws := kt4 14 rfl rfl
theorem kw_735 : (Jvm.Cond.selects "Leasehall" ({ cls := "Leasehall", name := "lease", desc := "(I)I" } : Jvm.MethodName) ({ cls := "Leasehall", name := "lease", desc := "(I)I" } : Jvm.MethodName)) ∈ gws := kt4 15 rfl rfl
theorem kw_736 : (Jvm.Cond.code ({ cls := "Leasehall", name := "lease", desc := "(I)I" } : Jvm.MethodName) prog_1_method_9_code (2 : Nat) (Option.some Jvm.ClassFile.FieldType.int)) ∈ gws := kt4 16 rfl rfl
theorem kw_738 : (Jvm.Cond.instantiable "Leasehall$Lease" (3 : Nat)) ∈ gws := kt4 18 rfl rfl
theorem kw_739 : (Jvm.Cond.methodLink "Leasehall" (187 : Nat) ({ cls := "Leasehall$Lease", name := "<init>", desc := "(II)V" } : Jvm.MethodName)) ∈ gws := kt4 19 rfl rfl
theorem kw_740 : (Jvm.Cond.instanceMethod ({ cls := "Leasehall$Lease", name := "<init>", desc := "(II)V" } : Jvm.MethodName)) ∈ gws := kt4 20 rfl rfl
theorem kw_741 : (Jvm.Cond.code ({ cls := "Leasehall$Lease", name := "<init>", desc := "(II)V" } : Jvm.MethodName) prog_4_method_1_code (3 : Nat) (Option.none : Option Jvm.ClassFile.FieldType)) ∈ gws := kt4 21 rfl rfl
theorem kw_742 : (Jvm.Cond.methodLink "Leasehall$Lease" (1 : Nat) ({ cls := "java/lang/Object", name := "<init>", desc := "()V" } : Jvm.MethodName)) ∈ gws := kt4 22 rfl rfl
theorem kw_743 : (Jvm.Cond.fieldLink "Leasehall$Lease" (13 : Nat) "Leasehall$Lease" "time" "I") ∈ gws := kt4 23 rfl rfl
theorem kw_744 : (Jvm.Cond.fieldLink "Leasehall" (199 : Nat) "Leasehall$Lease" "time" "I") ∈ gws := kt4 24 rfl rfl
theorem kw_745 : (Jvm.Cond.fieldLink "Leasehall$Lease" (17 : Nat) "Leasehall$Lease" "until" "I") ∈ gws := kt4 25 rfl rfl
theorem kw_746 : (Jvm.Cond.fieldLink "Leasehall" (202 : Nat) "Leasehall$Lease" "until" "I") ∈ gws := kt4 26 rfl rfl
theorem kw_747 : (Jvm.Cond.fieldLink "Leasehall$Lease" (7 : Nat) "Leasehall$Lease" "ended" "Z") ∈ gws := kt4 27 rfl rfl
theorem kw_748 : (Jvm.Cond.fieldLink "Leasehall" (194 : Nat) "Leasehall$Lease" "ended" "Z") ∈ gws := kt4 28 rfl rfl
theorem kw_749 : (Jvm.Cond.laysFinal "Leasehall$Lease" "Leasehall$Lease" "time" "I") ∈ gws := kt4 29 rfl rfl
theorem kw_750 : (Jvm.Cond.soleField "Leasehall$Lease" "time") ∈ gws := kt4 30 rfl rfl
theorem kw_751 : (Jvm.Cond.lays "Leasehall$Lease" "Leasehall$Lease" "until" "I") ∈ gws := kt4 31 rfl rfl
theorem kw_752 : (Jvm.Cond.soleField "Leasehall$Lease" "until") ∈ gws := kt4 32 rfl rfl
theorem kw_753 : (Jvm.Cond.lays "Leasehall$Lease" "Leasehall$Lease" "ended" "Z") ∈ gws := kt4 33 rfl rfl
theorem kw_754 : (Jvm.Cond.soleField "Leasehall$Lease" "ended") ∈ gws := kt4 34 rfl rfl
theorem kw_756 : (Jvm.Cond.methodLink "LeasehallLaw" (158 : Nat) ({ cls := "LeasehallLaw", name := "renew", desc := "(LLeasehall;I[J)I" } : Jvm.MethodName)) ∈ gws := kt4 36 rfl rfl
theorem kw_757 : (Jvm.Cond.static ({ cls := "LeasehallLaw", name := "renew", desc := "(LLeasehall;I[J)I" } : Jvm.MethodName)) ∈ gws := kt4 37 rfl rfl
theorem kw_758 : (Jvm.Cond.codeWith ({ cls := "LeasehallLaw", name := "renew", desc := "(LLeasehall;I[J)I" } : Jvm.MethodName) method_11_code (4 : Nat) (Option.some Jvm.ClassFile.FieldType.int) [((0 : Nat), (9 : Nat), (12 : Nat), (13 : Nat)), ((0 : Nat), (9 : Nat), (15 : Nat), (17 : Nat))]) ∈ gws := kt4 38 rfl rfl
theorem kw_759 : (Jvm.Cond.methodLink "LeasehallLaw" (43 : Nat) ({ cls := "Leasehall", name := "renew", desc := "(I)I" } : Jvm.MethodName)) ∈ gws := kt4 39 rfl rfl
theorem kw_760 : (Jvm.Cond.instanceMethod ({ cls := "Leasehall", name := "renew", desc := "(I)I" } : Jvm.MethodName)) ∈ gws := kt4 40 rfl rfl
theorem kw_761 : (Jvm.Cond.selects "Leasehall" ({ cls := "Leasehall", name := "renew", desc := "(I)I" } : Jvm.MethodName) ({ cls := "Leasehall", name := "renew", desc := "(I)I" } : Jvm.MethodName)) ∈ gws := kt4 41 rfl rfl
theorem kw_762 : (Jvm.Cond.code ({ cls := "Leasehall", name := "renew", desc := "(I)I" } : Jvm.MethodName) prog_1_method_10_code (3 : Nat) (Option.some Jvm.ClassFile.FieldType.int)) ∈ gws := kt4 42 rfl rfl
theorem kw_763 : (Jvm.Cond.methodLink "Leasehall" (190 : Nat) ({ cls := "Leasehall", name := "knownLease", desc := "(I)LLeasehall$Lease;" } : Jvm.MethodName)) ∈ gws := kt4 43 rfl rfl
theorem kw_765 : (Jvm.Cond.instanceMethod ({ cls := "Leasehall", name := "knownLease", desc := "(I)LLeasehall$Lease;" } : Jvm.MethodName)) ∈ gws := kt4 45 rfl rfl
theorem kw_766 : (Jvm.Cond.code ({ cls := "Leasehall", name := "knownLease", desc := "(I)LLeasehall$Lease;" } : Jvm.MethodName) prog_1_method_42_code (2 : Nat) (Option.some (Jvm.ClassFile.FieldType.object "Leasehall$Lease"))) ∈ gws := kt4 46 rfl rfl
theorem kw_769 : (Jvm.Cond.methodLink "LeasehallLaw" (161 : Nat) ({ cls := "LeasehallLaw", name := "make", desc := "(LLeasehall;IIIZIII[J)I" } : Jvm.MethodName)) ∈ gws := kt4 49 rfl rfl
theorem kw_770 : (Jvm.Cond.static ({ cls := "LeasehallLaw", name := "make", desc := "(LLeasehall;IIIZIII[J)I" } : Jvm.MethodName)) ∈ gws := kt4 50 rfl rfl
theorem kw_771 : (Jvm.Cond.codeWith ({ cls := "LeasehallLaw", name := "make", desc := "(LLeasehall;IIIZIII[J)I" } : Jvm.MethodName) method_12_code (10 : Nat) (Option.some Jvm.ClassFile.FieldType.int) [((0 : Nat), (20 : Nat), (23 : Nat), (13 : Nat)), ((0 : Nat), (20 : Nat), (27 : Nat), (15 : Nat)), ((0 : Nat), (20 : Nat), (31 : Nat), (17 : Nat))]) ∈ gws := kt4 51 rfl rfl
theorem kw_772 : (Jvm.Cond.methodLink "LeasehallLaw" (46 : Nat) ({ cls := "Leasehall", name := "make", desc := "(IIIZIII)I" } : Jvm.MethodName)) ∈ gws := kt4 52 rfl rfl
theorem kw_773 : (Jvm.Cond.instanceMethod ({ cls := "Leasehall", name := "make", desc := "(IIIZIII)I" } : Jvm.MethodName)) ∈ gws := kt4 53 rfl rfl
theorem kw_774 : (Jvm.Cond.selects "Leasehall" ({ cls := "Leasehall", name := "make", desc := "(IIIZIII)I" } : Jvm.MethodName) ({ cls := "Leasehall", name := "make", desc := "(IIIZIII)I" } : Jvm.MethodName)) ∈ gws := kt4 54 rfl rfl
theorem kw_775 : (Jvm.Cond.code ({ cls := "Leasehall", name := "make", desc := "(IIIZIII)I" } : Jvm.MethodName) prog_1_method_11_code (11 : Nat) (Option.some Jvm.ClassFile.FieldType.int)) ∈ gws := kt4 55 rfl rfl
theorem kw_776 : (Jvm.Cond.methodLink "Leasehall" (205 : Nat) ({ cls := "Leasehall", name := "mustBeName", desc := "(IZ)V" } : Jvm.MethodName)) ∈ gws := kt4 56 rfl rfl
theorem kw_777 : (Jvm.Cond.static ({ cls := "Leasehall", name := "mustBeName", desc := "(IZ)V" } : Jvm.MethodName)) ∈ gws := kt4 57 rfl rfl
theorem kw_778 : (Jvm.Cond.code ({ cls := "Leasehall", name := "mustBeName", desc := "(IZ)V" } : Jvm.MethodName) prog_1_method_46_code (2 : Nat) (Option.none : Option Jvm.ClassFile.FieldType)) ∈ gws := kt4 58 rfl rfl
theorem kw_780 : (Jvm.Cond.methodLink "Leasehall" (209 : Nat) ({ cls := "Leasehall", name := "mustBeValue", desc := "(I)V" } : Jvm.MethodName)) ∈ gws := kt4 60 rfl rfl
theorem kw_781 : (Jvm.Cond.static ({ cls := "Leasehall", name := "mustBeValue", desc := "(I)V" } : Jvm.MethodName)) ∈ gws := kt4 61 rfl rfl
theorem kw_782 : (Jvm.Cond.code ({ cls := "Leasehall", name := "mustBeValue", desc := "(I)V" } : Jvm.MethodName) prog_1_method_47_code (1 : Nat) (Option.none : Option Jvm.ClassFile.FieldType)) ∈ gws := kt4 62 rfl rfl
theorem kw_785 : (Jvm.Cond.methodLink "Leasehall" (215 : Nat) ({ cls := "Leasehall", name := "nextAct", desc := "(LLeasehall$Session;)LLeasehall$Act;" } : Jvm.MethodName)) ∈ gws := kt4 65 rfl rfl
theorem kw_787 : (Jvm.Cond.instanceMethod ({ cls := "Leasehall", name := "nextAct", desc := "(LLeasehall$Session;)LLeasehall$Act;" } : Jvm.MethodName)) ∈ gws := kt4 67 rfl rfl
theorem kw_788 : (Jvm.Cond.code ({ cls := "Leasehall", name := "nextAct", desc := "(LLeasehall$Session;)LLeasehall$Act;" } : Jvm.MethodName) prog_1_method_50_code (2 : Nat) (Option.some (Jvm.ClassFile.FieldType.object "Leasehall$Act"))) ∈ gws := kt4 68 rfl rfl
theorem kw_790 : (Jvm.Cond.methodLink "Leasehall" (219 : Nat) ({ cls := "Leasehall$Act", name := "toMake", desc := "(IIII)V" } : Jvm.MethodName)) ∈ gws := kt4 70 rfl rfl
theorem kw_791 : (Jvm.Cond.instanceMethod ({ cls := "Leasehall$Act", name := "toMake", desc := "(IIII)V" } : Jvm.MethodName)) ∈ gws := kt4 71 rfl rfl
theorem kw_792 : (Jvm.Cond.selects "Leasehall$Act" ({ cls := "Leasehall$Act", name := "toMake", desc := "(IIII)V" } : Jvm.MethodName) ({ cls := "Leasehall$Act", name := "toMake", desc := "(IIII)V" } : Jvm.MethodName)) ∈ gws := kt4 72 rfl rfl
theorem kw_793 : (Jvm.Cond.code ({ cls := "Leasehall$Act", name := "toMake", desc := "(IIII)V" } : Jvm.MethodName) prog_2_method_2_code (5 : Nat) (Option.none : Option Jvm.ClassFile.FieldType)) ∈ gws := kt4 73 rfl rfl
theorem kw_794 : (Jvm.Cond.methodLink "Leasehall$Act" (33 : Nat) ({ cls := "Leasehall$Act", name := "toDo", desc := "(IIII)V" } : Jvm.MethodName)) ∈ gws := kt4 74 rfl rfl
theorem kw_795 : (Jvm.Cond.instanceMethod ({ cls := "Leasehall$Act", name := "toDo", desc := "(IIII)V" } : Jvm.MethodName)) ∈ gws := kt4 75 rfl rfl
theorem kw_796 : (Jvm.Cond.selects "Leasehall$Act" ({ cls := "Leasehall$Act", name := "toDo", desc := "(IIII)V" } : Jvm.MethodName) ({ cls := "Leasehall$Act", name := "toDo", desc := "(IIII)V" } : Jvm.MethodName)) ∈ gws := kt4 76 rfl rfl
theorem kw_797 : (Jvm.Cond.code ({ cls := "Leasehall$Act", name := "toDo", desc := "(IIII)V" } : Jvm.MethodName) prog_2_method_3_code (5 : Nat) (Option.none : Option Jvm.ClassFile.FieldType)) ∈ gws := kt4 77 rfl rfl
theorem kw_798 : (Jvm.Cond.methodLink "Leasehall" (226 : Nat) ({ cls := "Leasehall", name := "submit", desc := "(LLeasehall$Session;LLeasehall$Act;)I" } : Jvm.MethodName)) ∈ gws := kt4 78 rfl rfl
theorem kw_800 : (Jvm.Cond.instanceMethod ({ cls := "Leasehall", name := "submit", desc := "(LLeasehall$Session;LLeasehall$Act;)I" } : Jvm.MethodName)) ∈ gws := kt4 80 rfl rfl
theorem kw_801 : (Jvm.Cond.code ({ cls := "Leasehall", name := "submit", desc := "(LLeasehall$Session;LLeasehall$Act;)I" } : Jvm.MethodName) prog_1_method_51_code (4 : Nat) (Option.some Jvm.ClassFile.FieldType.int)) ∈ gws := kt4 81 rfl rfl
theorem kw_802 : (Jvm.Cond.methodLink "Leasehall" (418 : Nat) ({ cls := "Leasehall", name := "begin", desc := "()V" } : Jvm.MethodName)) ∈ gws := kt4 82 rfl rfl
theorem kw_804 : (Jvm.Cond.instanceMethod ({ cls := "Leasehall", name := "begin", desc := "()V" } : Jvm.MethodName)) ∈ gws := kt4 84 rfl rfl
theorem kw_805 : (Jvm.Cond.code ({ cls := "Leasehall", name := "begin", desc := "()V" } : Jvm.MethodName) prog_1_method_53_code (1 : Nat) (Option.none : Option Jvm.ClassFile.FieldType)) ∈ gws := kt4 85 rfl rfl
theorem kw_806 : (Jvm.Cond.methodLink "Leasehall" (421 : Nat) ({ cls := "Leasehall", name := "perform", desc := "(LLeasehall$Session;LLeasehall$Act;)I" } : Jvm.MethodName)) ∈ gws := kt4 86 rfl rfl
theorem kw_808 : (Jvm.Cond.instanceMethod ({ cls := "Leasehall", name := "perform", desc := "(LLeasehall$Session;LLeasehall$Act;)I" } : Jvm.MethodName)) ∈ gws := kt4 88 rfl rfl
theorem kw_809 : (Jvm.Cond.code ({ cls := "Leasehall", name := "perform", desc := "(LLeasehall$Session;LLeasehall$Act;)I" } : Jvm.MethodName) prog_1_method_57_code (3 : Nat) (Option.some Jvm.ClassFile.FieldType.int)) ∈ gws := kt4 89 rfl rfl
theorem kw_810 : (Jvm.Cond.methodLink "Leasehall" (429 : Nat) ({ cls := "Leasehall", name := "tryMake", desc := "(LLeasehall$Session;LLeasehall$Act;)I" } : Jvm.MethodName)) ∈ gws := kt4 90 rfl rfl
theorem kw_812 : (Jvm.Cond.instanceMethod ({ cls := "Leasehall", name := "tryMake", desc := "(LLeasehall$Session;LLeasehall$Act;)I" } : Jvm.MethodName)) ∈ gws := kt4 92 rfl rfl
theorem kw_813 : (Jvm.Cond.code ({ cls := "Leasehall", name := "tryMake", desc := "(LLeasehall$Session;LLeasehall$Act;)I" } : Jvm.MethodName) prog_1_method_58_code (6 : Nat) (Option.some Jvm.ClassFile.FieldType.int)) ∈ gws := kt4 93 rfl rfl
theorem kw_814 : (Jvm.Cond.methodLink "Leasehall" (267 : Nat) ({ cls := "Leasehall$Tree", name := "holds", desc := "(I)Z" } : Jvm.MethodName)) ∈ gws := kt4 94 rfl rfl
theorem kw_815 : (Jvm.Cond.instanceMethod ({ cls := "Leasehall$Tree", name := "holds", desc := "(I)Z" } : Jvm.MethodName)) ∈ gws := kt4 95 rfl rfl
theorem kw_816 : (Jvm.Cond.selects "Leasehall$Tree" ({ cls := "Leasehall$Tree", name := "holds", desc := "(I)Z" } : Jvm.MethodName) ({ cls := "Leasehall$Tree", name := "holds", desc := "(I)Z" } : Jvm.MethodName)) ∈ gws := kt4 96 rfl rfl
theorem kw_817 : (Jvm.Cond.code ({ cls := "Leasehall$Tree", name := "holds", desc := "(I)Z" } : Jvm.MethodName) prog_9_method_7_code (2 : Nat) (Option.some Jvm.ClassFile.FieldType.boolean)) ∈ gws := kt4 97 rfl rfl
theorem kw_818 : (Jvm.Cond.methodLink "Leasehall" (334 : Nat) ({ cls := "Leasehall$Tree", name := "mayWrite", desc := "(II)Z" } : Jvm.MethodName)) ∈ gws := kt4 98 rfl rfl
theorem kw_819 : (Jvm.Cond.instanceMethod ({ cls := "Leasehall$Tree", name := "mayWrite", desc := "(II)Z" } : Jvm.MethodName)) ∈ gws := kt4 99 rfl rfl
theorem kw_820 : (Jvm.Cond.selects "Leasehall$Tree" ({ cls := "Leasehall$Tree", name := "mayWrite", desc := "(II)Z" } : Jvm.MethodName) ({ cls := "Leasehall$Tree", name := "mayWrite", desc := "(II)Z" } : Jvm.MethodName)) ∈ gws := kt4 100 rfl rfl
theorem kw_821 : (Jvm.Cond.code ({ cls := "Leasehall$Tree", name := "mayWrite", desc := "(II)Z" } : Jvm.MethodName) prog_9_method_8_code (3 : Nat) (Option.some Jvm.ClassFile.FieldType.boolean)) ∈ gws := kt4 101 rfl rfl
theorem kw_822 : (Jvm.Cond.methodLink "Leasehall" (449 : Nat) ({ cls := "Leasehall$Tree", name := "hasChildNamed", desc := "(II)Z" } : Jvm.MethodName)) ∈ gws := kt4 102 rfl rfl
theorem kw_823 : (Jvm.Cond.instanceMethod ({ cls := "Leasehall$Tree", name := "hasChildNamed", desc := "(II)Z" } : Jvm.MethodName)) ∈ gws := kt4 103 rfl rfl
theorem kw_824 : (Jvm.Cond.selects "Leasehall$Tree" ({ cls := "Leasehall$Tree", name := "hasChildNamed", desc := "(II)Z" } : Jvm.MethodName) ({ cls := "Leasehall$Tree", name := "hasChildNamed", desc := "(II)Z" } : Jvm.MethodName)) ∈ gws := kt4 104 rfl rfl
theorem kw_825 : (Jvm.Cond.code ({ cls := "Leasehall$Tree", name := "hasChildNamed", desc := "(II)Z" } : Jvm.MethodName) prog_9_method_14_code (4 : Nat) (Option.some Jvm.ClassFile.FieldType.boolean)) ∈ gws := kt4 105 rfl rfl
theorem kw_826 : (Jvm.Cond.methodLink "Leasehall" (452 : Nat) ({ cls := "Leasehall$Births", name := "isHeld", desc := "(I)Z" } : Jvm.MethodName)) ∈ gws := kt4 106 rfl rfl
theorem kw_827 : (Jvm.Cond.instanceMethod ({ cls := "Leasehall$Births", name := "isHeld", desc := "(I)Z" } : Jvm.MethodName)) ∈ gws := kt4 107 rfl rfl
theorem kw_828 : (Jvm.Cond.selects "Leasehall$Births" ({ cls := "Leasehall$Births", name := "isHeld", desc := "(I)Z" } : Jvm.MethodName) ({ cls := "Leasehall$Births", name := "isHeld", desc := "(I)Z" } : Jvm.MethodName)) ∈ gws := kt4 108 rfl rfl
theorem kw_829 : (Jvm.Cond.code ({ cls := "Leasehall$Births", name := "isHeld", desc := "(I)Z" } : Jvm.MethodName) prog_3_method_3_code (2 : Nat) (Option.some Jvm.ClassFile.FieldType.boolean)) ∈ gws := kt4 109 rfl rfl
theorem kw_830 : (Jvm.Cond.methodLink "Leasehall" (455 : Nat) ({ cls := "Leasehall", name := "isQuotaUsed", desc := "(I)Z" } : Jvm.MethodName)) ∈ gws := kt4 110 rfl rfl
theorem kw_832 : (Jvm.Cond.instanceMethod ({ cls := "Leasehall", name := "isQuotaUsed", desc := "(I)Z" } : Jvm.MethodName)) ∈ gws := kt4 112 rfl rfl
theorem kw_833 : (Jvm.Cond.code ({ cls := "Leasehall", name := "isQuotaUsed", desc := "(I)Z" } : Jvm.MethodName) prog_1_method_63_code (4 : Nat) (Option.some Jvm.ClassFile.FieldType.boolean)) ∈ gws := kt4 113 rfl rfl
theorem kw_834 : (Jvm.Cond.methodLink "Leasehall" (482 : Nat) ({ cls := "Leasehall$Tree", name := "countBelow", desc := "()V" } : Jvm.MethodName)) ∈ gws := kt4 114 rfl rfl
theorem kw_835 : (Jvm.Cond.methodLink "Leasehall" (461 : Nat) ({ cls := "Leasehall$Births", name := "add", desc := "(LLeasehall$Act;II)V" } : Jvm.MethodName)) ∈ gws := kt4 115 rfl rfl
theorem kw_836 : (Jvm.Cond.instanceMethod ({ cls := "Leasehall$Births", name := "add", desc := "(LLeasehall$Act;II)V" } : Jvm.MethodName)) ∈ gws := kt4 116 rfl rfl
theorem kw_837 : (Jvm.Cond.selects "Leasehall$Births" ({ cls := "Leasehall$Births", name := "add", desc := "(LLeasehall$Act;II)V" } : Jvm.MethodName) ({ cls := "Leasehall$Births", name := "add", desc := "(LLeasehall$Act;II)V" } : Jvm.MethodName)) ∈ gws := kt4 117 rfl rfl
theorem kw_838 : (Jvm.Cond.code ({ cls := "Leasehall$Births", name := "add", desc := "(LLeasehall$Act;II)V" } : Jvm.MethodName) prog_3_method_2_code (4 : Nat) (Option.none : Option Jvm.ClassFile.FieldType)) ∈ gws := kt4 118 rfl rfl
theorem kw_839 : (Jvm.Cond.methodLink "Leasehall" (432 : Nat) ({ cls := "Leasehall", name := "trySet", desc := "(LLeasehall$Session;LLeasehall$Act;)I" } : Jvm.MethodName)) ∈ gws := kt4 119 rfl rfl
theorem kw_841 : (Jvm.Cond.instanceMethod ({ cls := "Leasehall", name := "trySet", desc := "(LLeasehall$Session;LLeasehall$Act;)I" } : Jvm.MethodName)) ∈ gws := kt4 121 rfl rfl
theorem kw_842 : (Jvm.Cond.code ({ cls := "Leasehall", name := "trySet", desc := "(LLeasehall$Session;LLeasehall$Act;)I" } : Jvm.MethodName) prog_1_method_59_code (4 : Nat) (Option.some Jvm.ClassFile.FieldType.int)) ∈ gws := kt4 122 rfl rfl
theorem kw_843 : (Jvm.Cond.methodLink "Leasehall" (473 : Nat) ({ cls := "Leasehall$Tree", name := "hasVersion", desc := "(II)Z" } : Jvm.MethodName)) ∈ gws := kt4 123 rfl rfl
theorem kw_844 : (Jvm.Cond.instanceMethod ({ cls := "Leasehall$Tree", name := "hasVersion", desc := "(II)Z" } : Jvm.MethodName)) ∈ gws := kt4 124 rfl rfl
theorem kw_845 : (Jvm.Cond.selects "Leasehall$Tree" ({ cls := "Leasehall$Tree", name := "hasVersion", desc := "(II)Z" } : Jvm.MethodName) ({ cls := "Leasehall$Tree", name := "hasVersion", desc := "(II)Z" } : Jvm.MethodName)) ∈ gws := kt4 125 rfl rfl
theorem kw_846 : (Jvm.Cond.code ({ cls := "Leasehall$Tree", name := "hasVersion", desc := "(II)Z" } : Jvm.MethodName) prog_9_method_9_code (3 : Nat) (Option.some Jvm.ClassFile.FieldType.boolean)) ∈ gws := kt4 126 rfl rfl
theorem kw_847 : (Jvm.Cond.methodLink "Leasehall" (435 : Nat) ({ cls := "Leasehall", name := "tryDelete", desc := "(LLeasehall$Session;LLeasehall$Act;)I" } : Jvm.MethodName)) ∈ gws := kt4 127 rfl rfl
theorem kw_849 : (Jvm.Cond.instanceMethod ({ cls := "Leasehall", name := "tryDelete", desc := "(LLeasehall$Session;LLeasehall$Act;)I" } : Jvm.MethodName)) ∈ gws := kt4 129 rfl rfl
theorem kw_850 : (Jvm.Cond.code ({ cls := "Leasehall", name := "tryDelete", desc := "(LLeasehall$Session;LLeasehall$Act;)I" } : Jvm.MethodName) prog_1_method_60_code (4 : Nat) (Option.some Jvm.ClassFile.FieldType.int)) ∈ gws := kt4 130 rfl rfl
theorem kw_851 : (Jvm.Cond.methodLink "Leasehall" (438 : Nat) ({ cls := "Leasehall", name := "tryCheck", desc := "(LLeasehall$Session;LLeasehall$Act;)I" } : Jvm.MethodName)) ∈ gws := kt4 131 rfl rfl
theorem kw_853 : (Jvm.Cond.instanceMethod ({ cls := "Leasehall", name := "tryCheck", desc := "(LLeasehall$Session;LLeasehall$Act;)I" } : Jvm.MethodName)) ∈ gws := kt4 133 rfl rfl
theorem kw_854 : (Jvm.Cond.code ({ cls := "Leasehall", name := "tryCheck", desc := "(LLeasehall$Session;LLeasehall$Act;)I" } : Jvm.MethodName) prog_1_method_62_code (4 : Nat) (Option.some Jvm.ClassFile.FieldType.int)) ∈ gws := kt4 134 rfl rfl
theorem kw_855 : (Jvm.Cond.methodLink "Leasehall" (283 : Nat) ({ cls := "Leasehall$Tree", name := "readingRefused", desc := "(II)I" } : Jvm.MethodName)) ∈ gws := kt4 135 rfl rfl
theorem kw_856 : (Jvm.Cond.instanceMethod ({ cls := "Leasehall$Tree", name := "readingRefused", desc := "(II)I" } : Jvm.MethodName)) ∈ gws := kt4 136 rfl rfl
theorem kw_857 : (Jvm.Cond.selects "Leasehall$Tree" ({ cls := "Leasehall$Tree", name := "readingRefused", desc := "(II)I" } : Jvm.MethodName) ({ cls := "Leasehall$Tree", name := "readingRefused", desc := "(II)I" } : Jvm.MethodName)) ∈ gws := kt4 137 rfl rfl
theorem kw_858 : (Jvm.Cond.code ({ cls := "Leasehall$Tree", name := "readingRefused", desc := "(II)I" } : Jvm.MethodName) prog_9_method_10_code (3 : Nat) (Option.some Jvm.ClassFile.FieldType.int)) ∈ gws := kt4 138 rfl rfl
theorem kw_859 : (Jvm.Cond.methodLink "Leasehall$Tree" (64 : Nat) ({ cls := "Leasehall$Tree", name := "holds", desc := "(I)Z" } : Jvm.MethodName)) ∈ gws := kt4 139 rfl rfl
theorem kw_860 : (Jvm.Cond.methodLink "Leasehall" (287 : Nat) ({ cls := "Leasehall$Tree", name := "told", desc := "(II)I" } : Jvm.MethodName)) ∈ gws := kt4 140 rfl rfl
theorem kw_861 : (Jvm.Cond.instanceMethod ({ cls := "Leasehall$Tree", name := "told", desc := "(II)I" } : Jvm.MethodName)) ∈ gws := kt4 141 rfl rfl
theorem kw_862 : (Jvm.Cond.selects "Leasehall$Tree" ({ cls := "Leasehall$Tree", name := "told", desc := "(II)I" } : Jvm.MethodName) ({ cls := "Leasehall$Tree", name := "told", desc := "(II)I" } : Jvm.MethodName)) ∈ gws := kt4 142 rfl rfl
theorem kw_863 : (Jvm.Cond.code ({ cls := "Leasehall$Tree", name := "told", desc := "(II)I" } : Jvm.MethodName) prog_9_method_11_code (3 : Nat) (Option.some Jvm.ClassFile.FieldType.int)) ∈ gws := kt4 143 rfl rfl
theorem kw_864 : (Jvm.Cond.methodLink "Leasehall$Tree" (67 : Nat) ({ cls := "Leasehall$Tree", name := "childrenOf", desc := "(I)I" } : Jvm.MethodName)) ∈ gws := kt4 144 rfl rfl
theorem kw_865 : (Jvm.Cond.methodLink "Leasehall" (441 : Nat) ({ cls := "Leasehall", name := "tryRights", desc := "(LLeasehall$Session;LLeasehall$Act;)I" } : Jvm.MethodName)) ∈ gws := kt4 145 rfl rfl
theorem kw_867 : (Jvm.Cond.instanceMethod ({ cls := "Leasehall", name := "tryRights", desc := "(LLeasehall$Session;LLeasehall$Act;)I" } : Jvm.MethodName)) ∈ gws := kt4 147 rfl rfl
theorem kw_868 : (Jvm.Cond.code ({ cls := "Leasehall", name := "tryRights", desc := "(LLeasehall$Session;LLeasehall$Act;)I" } : Jvm.MethodName) prog_1_method_61_code (4 : Nat) (Option.some Jvm.ClassFile.FieldType.int)) ∈ gws := kt4 148 rfl rfl
theorem kw_869 : (Jvm.Cond.methodLink "Leasehall" (258 : Nat) ({ cls := "Leasehall", name := "settle", desc := "(LLeasehall$Session;)Z" } : Jvm.MethodName)) ∈ gws := kt4 149 rfl rfl
theorem kw_871 : (Jvm.Cond.instanceMethod ({ cls := "Leasehall", name := "settle", desc := "(LLeasehall$Session;)Z" } : Jvm.MethodName)) ∈ gws := kt4 151 rfl rfl
theorem kw_872 : (Jvm.Cond.code ({ cls := "Leasehall", name := "settle", desc := "(LLeasehall$Session;)Z" } : Jvm.MethodName) prog_1_method_56_code (3 : Nat) (Option.some Jvm.ClassFile.FieldType.boolean)) ∈ gws := kt4 152 rfl rfl
theorem kw_873 : (Jvm.Cond.methodLink "Leasehall" (252 : Nat) ({ cls := "Leasehall", name := "undo", desc := "()V" } : Jvm.MethodName)) ∈ gws := kt4 153 rfl rfl
theorem kw_875 : (Jvm.Cond.instanceMethod ({ cls := "Leasehall", name := "undo", desc := "()V" } : Jvm.MethodName)) ∈ gws := kt4 155 rfl rfl
theorem kw_876 : (Jvm.Cond.code ({ cls := "Leasehall", name := "undo", desc := "()V" } : Jvm.MethodName) prog_1_method_54_code (1 : Nat) (Option.none : Option Jvm.ClassFile.FieldType)) ∈ gws := kt4 156 rfl rfl
theorem kw_877 : (Jvm.Cond.methodLink "LeasehallLaw" (165 : Nat) ({ cls := "LeasehallLaw", name := "set", desc := "(LLeasehall;IIII[J)I" } : Jvm.MethodName)) ∈ gws := kt4 157 rfl rfl
theorem kw_878 : (Jvm.Cond.static ({ cls := "LeasehallLaw", name := "set", desc := "(LLeasehall;IIII[J)I" } : Jvm.MethodName)) ∈ gws := kt4 158 rfl rfl
theorem kw_879 : (Jvm.Cond.codeWith ({ cls := "LeasehallLaw", name := "set", desc := "(LLeasehall;IIII[J)I" } : Jvm.MethodName) method_13_code (7 : Nat) (Option.some Jvm.ClassFile.FieldType.int) [((0 : Nat), (14 : Nat), (17 : Nat), (13 : Nat)), ((0 : Nat), (14 : Nat), (21 : Nat), (15 : Nat)), ((0 : Nat), (14 : Nat), (25 : Nat), (17 : Nat))]) ∈ gws := kt4 159 rfl rfl
theorem kw_880 : (Jvm.Cond.methodLink "LeasehallLaw" (50 : Nat) ({ cls := "Leasehall", name := "set", desc := "(IIII)I" } : Jvm.MethodName)) ∈ gws := kt4 160 rfl rfl
theorem kw_881 : (Jvm.Cond.instanceMethod ({ cls := "Leasehall", name := "set", desc := "(IIII)I" } : Jvm.MethodName)) ∈ gws := kt4 161 rfl rfl
theorem kw_882 : (Jvm.Cond.selects "Leasehall" ({ cls := "Leasehall", name := "set", desc := "(IIII)I" } : Jvm.MethodName) ({ cls := "Leasehall", name := "set", desc := "(IIII)I" } : Jvm.MethodName)) ∈ gws := kt4 162 rfl rfl
theorem kw_883 : (Jvm.Cond.code ({ cls := "Leasehall", name := "set", desc := "(IIII)I" } : Jvm.MethodName) prog_1_method_12_code (7 : Nat) (Option.some Jvm.ClassFile.FieldType.int)) ∈ gws := kt4 163 rfl rfl
theorem kw_884 : (Jvm.Cond.methodLink "Leasehall" (230 : Nat) ({ cls := "Leasehall$Act", name := "toDo", desc := "(IIII)V" } : Jvm.MethodName)) ∈ gws := kt4 164 rfl rfl
theorem kw_885 : (Jvm.Cond.methodLink "LeasehallLaw" (169 : Nat) ({ cls := "LeasehallLaw", name := "delete", desc := "(LLeasehall;III[J)I" } : Jvm.MethodName)) ∈ gws := kt4 165 rfl rfl
theorem kw_886 : (Jvm.Cond.static ({ cls := "LeasehallLaw", name := "delete", desc := "(LLeasehall;III[J)I" } : Jvm.MethodName)) ∈ gws := kt4 166 rfl rfl
theorem kw_887 : (Jvm.Cond.codeWith ({ cls := "LeasehallLaw", name := "delete", desc := "(LLeasehall;III[J)I" } : Jvm.MethodName) method_14_code (6 : Nat) (Option.some Jvm.ClassFile.FieldType.int) [((0 : Nat), (12 : Nat), (15 : Nat), (13 : Nat)), ((0 : Nat), (12 : Nat), (19 : Nat), (17 : Nat))]) ∈ gws := kt4 167 rfl rfl
theorem kw_888 : (Jvm.Cond.methodLink "LeasehallLaw" (54 : Nat) ({ cls := "Leasehall", name := "delete", desc := "(III)I" } : Jvm.MethodName)) ∈ gws := kt4 168 rfl rfl
theorem kw_889 : (Jvm.Cond.instanceMethod ({ cls := "Leasehall", name := "delete", desc := "(III)I" } : Jvm.MethodName)) ∈ gws := kt4 169 rfl rfl
theorem kw_890 : (Jvm.Cond.selects "Leasehall" ({ cls := "Leasehall", name := "delete", desc := "(III)I" } : Jvm.MethodName) ({ cls := "Leasehall", name := "delete", desc := "(III)I" } : Jvm.MethodName)) ∈ gws := kt4 170 rfl rfl
theorem kw_891 : (Jvm.Cond.code ({ cls := "Leasehall", name := "delete", desc := "(III)I" } : Jvm.MethodName) prog_1_method_13_code (6 : Nat) (Option.some Jvm.ClassFile.FieldType.int)) ∈ gws := kt4 171 rfl rfl
theorem kw_892 : (Jvm.Cond.methodLink "LeasehallLaw" (172 : Nat) ({ cls := "LeasehallLaw", name := "rights", desc := "(LLeasehall;IIIIZ[J)I" } : Jvm.MethodName)) ∈ gws := kt4 172 rfl rfl
theorem kw_893 : (Jvm.Cond.static ({ cls := "LeasehallLaw", name := "rights", desc := "(LLeasehall;IIIIZ[J)I" } : Jvm.MethodName)) ∈ gws := kt4 173 rfl rfl
theorem kw_894 : (Jvm.Cond.codeWith ({ cls := "LeasehallLaw", name := "rights", desc := "(LLeasehall;IIIIZ[J)I" } : Jvm.MethodName) method_15_code (8 : Nat) (Option.some Jvm.ClassFile.FieldType.int) [((0 : Nat), (16 : Nat), (19 : Nat), (13 : Nat)), ((0 : Nat), (16 : Nat), (23 : Nat), (15 : Nat)), ((0 : Nat), (16 : Nat), (27 : Nat), (17 : Nat))]) ∈ gws := kt4 174 rfl rfl
theorem kw_895 : (Jvm.Cond.methodLink "LeasehallLaw" (57 : Nat) ({ cls := "Leasehall", name := "rights", desc := "(IIIIZ)I" } : Jvm.MethodName)) ∈ gws := kt4 175 rfl rfl
theorem kw_896 : (Jvm.Cond.instanceMethod ({ cls := "Leasehall", name := "rights", desc := "(IIIIZ)I" } : Jvm.MethodName)) ∈ gws := kt4 176 rfl rfl
theorem kw_897 : (Jvm.Cond.selects "Leasehall" ({ cls := "Leasehall", name := "rights", desc := "(IIIIZ)I" } : Jvm.MethodName) ({ cls := "Leasehall", name := "rights", desc := "(IIIIZ)I" } : Jvm.MethodName)) ∈ gws := kt4 177 rfl rfl
theorem kw_898 : (Jvm.Cond.code ({ cls := "Leasehall", name := "rights", desc := "(IIIIZ)I" } : Jvm.MethodName) prog_1_method_14_code (8 : Nat) (Option.some Jvm.ClassFile.FieldType.int)) ∈ gws := kt4 178 rfl rfl
theorem kw_900 : (Jvm.Cond.methodLink "LeasehallLaw" (176 : Nat) ({ cls := "LeasehallLaw", name := "check", desc := "(LLeasehall;III[J)I" } : Jvm.MethodName)) ∈ gws := kt4 180 rfl rfl
theorem kw_901 : (Jvm.Cond.static ({ cls := "LeasehallLaw", name := "check", desc := "(LLeasehall;III[J)I" } : Jvm.MethodName)) ∈ gws := kt4 181 rfl rfl
theorem kw_902 : (Jvm.Cond.codeWith ({ cls := "LeasehallLaw", name := "check", desc := "(LLeasehall;III[J)I" } : Jvm.MethodName) method_16_code (6 : Nat) (Option.some Jvm.ClassFile.FieldType.int) [((0 : Nat), (12 : Nat), (15 : Nat), (13 : Nat)), ((0 : Nat), (12 : Nat), (19 : Nat), (17 : Nat))]) ∈ gws := kt4 182 rfl rfl
theorem kw_903 : (Jvm.Cond.methodLink "LeasehallLaw" (61 : Nat) ({ cls := "Leasehall", name := "check", desc := "(III)I" } : Jvm.MethodName)) ∈ gws := kt4 183 rfl rfl
theorem kw_904 : (Jvm.Cond.instanceMethod ({ cls := "Leasehall", name := "check", desc := "(III)I" } : Jvm.MethodName)) ∈ gws := kt4 184 rfl rfl
theorem kw_905 : (Jvm.Cond.selects "Leasehall" ({ cls := "Leasehall", name := "check", desc := "(III)I" } : Jvm.MethodName) ({ cls := "Leasehall", name := "check", desc := "(III)I" } : Jvm.MethodName)) ∈ gws := kt4 185 rfl rfl
theorem kw_906 : (Jvm.Cond.code ({ cls := "Leasehall", name := "check", desc := "(III)I" } : Jvm.MethodName) prog_1_method_15_code (6 : Nat) (Option.some Jvm.ClassFile.FieldType.int)) ∈ gws := kt4 186 rfl rfl
theorem kw_907 : (Jvm.Cond.methodLink "LeasehallLaw" (179 : Nat) ({ cls := "LeasehallLaw", name := "gather", desc := "(LLeasehall;I)I" } : Jvm.MethodName)) ∈ gws := kt4 187 rfl rfl
theorem kw_908 : (Jvm.Cond.static ({ cls := "LeasehallLaw", name := "gather", desc := "(LLeasehall;I)I" } : Jvm.MethodName)) ∈ gws := kt4 188 rfl rfl
theorem kw_909 : (Jvm.Cond.codeWith ({ cls := "LeasehallLaw", name := "gather", desc := "(LLeasehall;I)I" } : Jvm.MethodName) method_17_code (3 : Nat) (Option.some Jvm.ClassFile.FieldType.int) [((0 : Nat), (5 : Nat), (8 : Nat), (13 : Nat)), ((0 : Nat), (5 : Nat), (11 : Nat), (17 : Nat))]) ∈ gws := kt4 189 rfl rfl
theorem kw_910 : (Jvm.Cond.methodLink "LeasehallLaw" (64 : Nat) ({ cls := "Leasehall", name := "gather", desc := "(I)V" } : Jvm.MethodName)) ∈ gws := kt4 190 rfl rfl
theorem kw_911 : (Jvm.Cond.instanceMethod ({ cls := "Leasehall", name := "gather", desc := "(I)V" } : Jvm.MethodName)) ∈ gws := kt4 191 rfl rfl
theorem kw_912 : (Jvm.Cond.selects "Leasehall" ({ cls := "Leasehall", name := "gather", desc := "(I)V" } : Jvm.MethodName) ({ cls := "Leasehall", name := "gather", desc := "(I)V" } : Jvm.MethodName)) ∈ gws := kt4 192 rfl rfl
theorem kw_913 : (Jvm.Cond.code ({ cls := "Leasehall", name := "gather", desc := "(I)V" } : Jvm.MethodName) prog_1_method_16_code (3 : Nat) (Option.none : Option Jvm.ClassFile.FieldType)) ∈ gws := kt4 193 rfl rfl
theorem kw_914 : (Jvm.Cond.methodLink "Leasehall" (235 : Nat) ({ cls := "Leasehall", name := "mustNotGather", desc := "(LLeasehall$Session;)V" } : Jvm.MethodName)) ∈ gws := kt4 194 rfl rfl
theorem kw_915 : (Jvm.Cond.static ({ cls := "Leasehall", name := "mustNotGather", desc := "(LLeasehall$Session;)V" } : Jvm.MethodName)) ∈ gws := kt4 195 rfl rfl
theorem kw_916 : (Jvm.Cond.code ({ cls := "Leasehall", name := "mustNotGather", desc := "(LLeasehall$Session;)V" } : Jvm.MethodName) prog_1_method_45_code (1 : Nat) (Option.none : Option Jvm.ClassFile.FieldType)) ∈ gws := kt4 196 rfl rfl
theorem kw_918 : (Jvm.Cond.methodLink "LeasehallLaw" (183 : Nat) ({ cls := "LeasehallLaw", name := "done", desc := "(LLeasehall;I[J)I" } : Jvm.MethodName)) ∈ gws := kt4 198 rfl rfl
theorem kw_919 : (Jvm.Cond.static ({ cls := "LeasehallLaw", name := "done", desc := "(LLeasehall;I[J)I" } : Jvm.MethodName)) ∈ gws := kt4 199 rfl rfl
theorem kw_920 : (Jvm.Cond.codeWith ({ cls := "LeasehallLaw", name := "done", desc := "(LLeasehall;I[J)I" } : Jvm.MethodName) method_18_code (4 : Nat) (Option.some Jvm.ClassFile.FieldType.int) [((0 : Nat), (9 : Nat), (12 : Nat), (13 : Nat)), ((0 : Nat), (9 : Nat), (15 : Nat), (17 : Nat))]) ∈ gws := kt4 200 rfl rfl
theorem kw_921 : (Jvm.Cond.methodLink "LeasehallLaw" (68 : Nat) ({ cls := "Leasehall", name := "done", desc := "(I)I" } : Jvm.MethodName)) ∈ gws := kt4 201 rfl rfl
theorem kw_922 : (Jvm.Cond.instanceMethod ({ cls := "Leasehall", name := "done", desc := "(I)I" } : Jvm.MethodName)) ∈ gws := kt4 202 rfl rfl
theorem kw_923 : (Jvm.Cond.selects "Leasehall" ({ cls := "Leasehall", name := "done", desc := "(I)I" } : Jvm.MethodName) ({ cls := "Leasehall", name := "done", desc := "(I)I" } : Jvm.MethodName)) ∈ gws := kt4 203 rfl rfl
theorem kw_924 : (Jvm.Cond.code ({ cls := "Leasehall", name := "done", desc := "(I)I" } : Jvm.MethodName) prog_1_method_17_code (4 : Nat) (Option.some Jvm.ClassFile.FieldType.int)) ∈ gws := kt4 204 rfl rfl
theorem kw_926 : (Jvm.Cond.methodLink "Leasehall" (249 : Nat) ({ cls := "Leasehall", name := "performAll", desc := "(LLeasehall$Session;)I" } : Jvm.MethodName)) ∈ gws := kt4 206 rfl rfl
theorem kw_928 : (Jvm.Cond.instanceMethod ({ cls := "Leasehall", name := "performAll", desc := "(LLeasehall$Session;)I" } : Jvm.MethodName)) ∈ gws := kt4 208 rfl rfl
theorem kw_929 : (Jvm.Cond.code ({ cls := "Leasehall", name := "performAll", desc := "(LLeasehall$Session;)I" } : Jvm.MethodName) prog_1_method_52_code (4 : Nat) (Option.some Jvm.ClassFile.FieldType.int)) ∈ gws := kt4 209 rfl rfl
theorem kw_930 : (Jvm.Cond.methodLink "LeasehallLaw" (186 : Nat) ({ cls := "LeasehallLaw", name := "answer", desc := "(LLeasehall;II[J)I" } : Jvm.MethodName)) ∈ gws := kt4 210 rfl rfl
theorem kw_931 : (Jvm.Cond.static ({ cls := "LeasehallLaw", name := "answer", desc := "(LLeasehall;II[J)I" } : Jvm.MethodName)) ∈ gws := kt4 211 rfl rfl
theorem kw_932 : (Jvm.Cond.codeWith ({ cls := "LeasehallLaw", name := "answer", desc := "(LLeasehall;II[J)I" } : Jvm.MethodName) method_19_code (5 : Nat) (Option.some Jvm.ClassFile.FieldType.int) [((0 : Nat), (10 : Nat), (13 : Nat), (13 : Nat))]) ∈ gws := kt4 212 rfl rfl
theorem kw_933 : (Jvm.Cond.methodLink "LeasehallLaw" (71 : Nat) ({ cls := "Leasehall", name := "answer", desc := "(II)I" } : Jvm.MethodName)) ∈ gws := kt4 213 rfl rfl
theorem kw_934 : (Jvm.Cond.instanceMethod ({ cls := "Leasehall", name := "answer", desc := "(II)I" } : Jvm.MethodName)) ∈ gws := kt4 214 rfl rfl
theorem kw_935 : (Jvm.Cond.selects "Leasehall" ({ cls := "Leasehall", name := "answer", desc := "(II)I" } : Jvm.MethodName) ({ cls := "Leasehall", name := "answer", desc := "(II)I" } : Jvm.MethodName)) ∈ gws := kt4 215 rfl rfl
theorem kw_936 : (Jvm.Cond.code ({ cls := "Leasehall", name := "answer", desc := "(II)I" } : Jvm.MethodName) prog_1_method_18_code (4 : Nat) (Option.some Jvm.ClassFile.FieldType.int)) ∈ gws := kt4 216 rfl rfl
theorem kw_938 : (Jvm.Cond.methodLink "LeasehallLaw" (194 : Nat) ({ cls := "LeasehallLaw", name := "quota", desc := "(LLeasehall;II[J)I" } : Jvm.MethodName)) ∈ gws := kt4 218 rfl rfl
theorem kw_939 : (Jvm.Cond.static ({ cls := "LeasehallLaw", name := "quota", desc := "(LLeasehall;II[J)I" } : Jvm.MethodName)) ∈ gws := kt4 219 rfl rfl
theorem kw_940 : (Jvm.Cond.codeWith ({ cls := "LeasehallLaw", name := "quota", desc := "(LLeasehall;II[J)I" } : Jvm.MethodName) method_20_code (5 : Nat) (Option.some Jvm.ClassFile.FieldType.int) [((0 : Nat), (10 : Nat), (13 : Nat), (15 : Nat))]) ∈ gws := kt4 220 rfl rfl
theorem kw_941 : (Jvm.Cond.methodLink "LeasehallLaw" (74 : Nat) ({ cls := "Leasehall", name := "quota", desc := "(II)I" } : Jvm.MethodName)) ∈ gws := kt4 221 rfl rfl
theorem kw_942 : (Jvm.Cond.instanceMethod ({ cls := "Leasehall", name := "quota", desc := "(II)I" } : Jvm.MethodName)) ∈ gws := kt4 222 rfl rfl
theorem kw_943 : (Jvm.Cond.selects "Leasehall" ({ cls := "Leasehall", name := "quota", desc := "(II)I" } : Jvm.MethodName) ({ cls := "Leasehall", name := "quota", desc := "(II)I" } : Jvm.MethodName)) ∈ gws := kt4 223 rfl rfl
theorem kw_944 : (Jvm.Cond.code ({ cls := "Leasehall", name := "quota", desc := "(II)I" } : Jvm.MethodName) prog_1_method_20_code (3 : Nat) (Option.some Jvm.ClassFile.FieldType.int)) ∈ gws := kt4 224 rfl rfl
theorem kw_945 : (Jvm.Cond.methodLink "LeasehallLaw" (197 : Nat) ({ cls := "LeasehallLaw", name := "read", desc := "(LLeasehall;III[J)I" } : Jvm.MethodName)) ∈ gws := kt4 225 rfl rfl
theorem kw_946 : (Jvm.Cond.static ({ cls := "LeasehallLaw", name := "read", desc := "(LLeasehall;III[J)I" } : Jvm.MethodName)) ∈ gws := kt4 226 rfl rfl
theorem kw_947 : (Jvm.Cond.codeWith ({ cls := "LeasehallLaw", name := "read", desc := "(LLeasehall;III[J)I" } : Jvm.MethodName) method_21_code (6 : Nat) (Option.some Jvm.ClassFile.FieldType.int) [((0 : Nat), (12 : Nat), (15 : Nat), (13 : Nat)), ((0 : Nat), (12 : Nat), (19 : Nat), (15 : Nat)), ((0 : Nat), (12 : Nat), (23 : Nat), (17 : Nat))]) ∈ gws := kt4 227 rfl rfl
theorem kw_948 : (Jvm.Cond.methodLink "LeasehallLaw" (77 : Nat) ({ cls := "Leasehall", name := "read", desc := "(III)I" } : Jvm.MethodName)) ∈ gws := kt4 228 rfl rfl
theorem kw_949 : (Jvm.Cond.instanceMethod ({ cls := "Leasehall", name := "read", desc := "(III)I" } : Jvm.MethodName)) ∈ gws := kt4 229 rfl rfl
theorem kw_950 : (Jvm.Cond.selects "Leasehall" ({ cls := "Leasehall", name := "read", desc := "(III)I" } : Jvm.MethodName) ({ cls := "Leasehall", name := "read", desc := "(III)I" } : Jvm.MethodName)) ∈ gws := kt4 230 rfl rfl
theorem kw_951 : (Jvm.Cond.code ({ cls := "Leasehall", name := "read", desc := "(III)I" } : Jvm.MethodName) prog_1_method_21_code (7 : Nat) (Option.some Jvm.ClassFile.FieldType.int)) ∈ gws := kt4 231 rfl rfl
theorem kw_953 : (Jvm.Cond.methodLink "LeasehallLaw" (200 : Nat) ({ cls := "LeasehallLaw", name := "child", desc := "(LLeasehall;III[J)I" } : Jvm.MethodName)) ∈ gws := kt4 233 rfl rfl
theorem kw_954 : (Jvm.Cond.static ({ cls := "LeasehallLaw", name := "child", desc := "(LLeasehall;III[J)I" } : Jvm.MethodName)) ∈ gws := kt4 234 rfl rfl
theorem kw_955 : (Jvm.Cond.codeWith ({ cls := "LeasehallLaw", name := "child", desc := "(LLeasehall;III[J)I" } : Jvm.MethodName) method_22_code (6 : Nat) (Option.some Jvm.ClassFile.FieldType.int) [((0 : Nat), (12 : Nat), (15 : Nat), (13 : Nat)), ((0 : Nat), (12 : Nat), (19 : Nat), (17 : Nat))]) ∈ gws := kt4 235 rfl rfl
theorem kw_956 : (Jvm.Cond.methodLink "LeasehallLaw" (80 : Nat) ({ cls := "Leasehall", name := "child", desc := "(III)I" } : Jvm.MethodName)) ∈ gws := kt4 236 rfl rfl
theorem kw_957 : (Jvm.Cond.instanceMethod ({ cls := "Leasehall", name := "child", desc := "(III)I" } : Jvm.MethodName)) ∈ gws := kt4 237 rfl rfl
theorem kw_958 : (Jvm.Cond.selects "Leasehall" ({ cls := "Leasehall", name := "child", desc := "(III)I" } : Jvm.MethodName) ({ cls := "Leasehall", name := "child", desc := "(III)I" } : Jvm.MethodName)) ∈ gws := kt4 238 rfl rfl
theorem kw_959 : (Jvm.Cond.code ({ cls := "Leasehall", name := "child", desc := "(III)I" } : Jvm.MethodName) prog_1_method_22_code (7 : Nat) (Option.some Jvm.ClassFile.FieldType.int)) ∈ gws := kt4 239 rfl rfl
theorem kw_960 : (Jvm.Cond.methodLink "Leasehall" (290 : Nat) ({ cls := "Leasehall$Tree", name := "childAt", desc := "(II)I" } : Jvm.MethodName)) ∈ gws := kt5 0 rfl rfl
theorem kw_961 : (Jvm.Cond.instanceMethod ({ cls := "Leasehall$Tree", name := "childAt", desc := "(II)I" } : Jvm.MethodName)) ∈ gws := kt5 1 rfl rfl
theorem kw_962 : (Jvm.Cond.selects "Leasehall$Tree" ({ cls := "Leasehall$Tree", name := "childAt", desc := "(II)I" } : Jvm.MethodName) ({ cls := "Leasehall$Tree", name := "childAt", desc := "(II)I" } : Jvm.MethodName)) ∈ gws := kt5 2 rfl rfl
theorem kw_963 : (Jvm.Cond.code ({ cls := "Leasehall$Tree", name := "childAt", desc := "(II)I" } : Jvm.MethodName) prog_9_method_17_code (5 : Nat) (Option.some Jvm.ClassFile.FieldType.int)) ∈ gws := kt5 3 rfl rfl
theorem kw_964 : (Jvm.Cond.methodLink "Leasehall$Tree" (85 : Nat) ({ cls := "Leasehall$Tree", name := "firstChild", desc := "(I)I" } : Jvm.MethodName)) ∈ gws := kt5 4 rfl rfl
theorem kw_965 : (Jvm.Cond.instanceMethod ({ cls := "Leasehall$Tree", name := "firstChild", desc := "(I)I" } : Jvm.MethodName)) ∈ gws := kt5 5 rfl rfl
theorem kw_966 : (Jvm.Cond.selects "Leasehall$Tree" ({ cls := "Leasehall$Tree", name := "firstChild", desc := "(I)I" } : Jvm.MethodName) ({ cls := "Leasehall$Tree", name := "firstChild", desc := "(I)I" } : Jvm.MethodName)) ∈ gws := kt5 6 rfl rfl
theorem kw_967 : (Jvm.Cond.code ({ cls := "Leasehall$Tree", name := "firstChild", desc := "(I)I" } : Jvm.MethodName) prog_9_method_16_code (2 : Nat) (Option.some Jvm.ClassFile.FieldType.int)) ∈ gws := kt5 7 rfl rfl
theorem kw_968 : (Jvm.Cond.methodLink "Leasehall$Tree" (81 : Nat) ({ cls := "Leasehall$Tree", name := "nextChild", desc := "(II)I" } : Jvm.MethodName)) ∈ gws := kt5 8 rfl rfl
theorem kw_969 : (Jvm.Cond.instanceMethod ({ cls := "Leasehall$Tree", name := "nextChild", desc := "(II)I" } : Jvm.MethodName)) ∈ gws := kt5 9 rfl rfl
theorem kw_970 : (Jvm.Cond.selects "Leasehall$Tree" ({ cls := "Leasehall$Tree", name := "nextChild", desc := "(II)I" } : Jvm.MethodName) ({ cls := "Leasehall$Tree", name := "nextChild", desc := "(II)I" } : Jvm.MethodName)) ∈ gws := kt5 10 rfl rfl
theorem kw_971 : (Jvm.Cond.code ({ cls := "Leasehall$Tree", name := "nextChild", desc := "(II)I" } : Jvm.MethodName) prog_9_method_15_code (5 : Nat) (Option.some Jvm.ClassFile.FieldType.int)) ∈ gws := kt5 11 rfl rfl
theorem kw_972 : (Jvm.Cond.methodLink "LeasehallLaw" (203 : Nat) ({ cls := "LeasehallLaw", name := "watch", desc := "(LLeasehall;III[J)I" } : Jvm.MethodName)) ∈ gws := kt5 12 rfl rfl
theorem kw_973 : (Jvm.Cond.static ({ cls := "LeasehallLaw", name := "watch", desc := "(LLeasehall;III[J)I" } : Jvm.MethodName)) ∈ gws := kt5 13 rfl rfl
theorem kw_974 : (Jvm.Cond.codeWith ({ cls := "LeasehallLaw", name := "watch", desc := "(LLeasehall;III[J)I" } : Jvm.MethodName) method_23_code (6 : Nat) (Option.some Jvm.ClassFile.FieldType.int) [((0 : Nat), (12 : Nat), (15 : Nat), (13 : Nat)), ((0 : Nat), (12 : Nat), (19 : Nat), (15 : Nat)), ((0 : Nat), (12 : Nat), (23 : Nat), (17 : Nat))]) ∈ gws := kt5 14 rfl rfl
theorem kw_975 : (Jvm.Cond.methodLink "LeasehallLaw" (83 : Nat) ({ cls := "Leasehall", name := "watch", desc := "(III)I" } : Jvm.MethodName)) ∈ gws := kt5 15 rfl rfl
theorem kw_976 : (Jvm.Cond.instanceMethod ({ cls := "Leasehall", name := "watch", desc := "(III)I" } : Jvm.MethodName)) ∈ gws := kt5 16 rfl rfl
theorem kw_977 : (Jvm.Cond.selects "Leasehall" ({ cls := "Leasehall", name := "watch", desc := "(III)I" } : Jvm.MethodName) ({ cls := "Leasehall", name := "watch", desc := "(III)I" } : Jvm.MethodName)) ∈ gws := kt5 17 rfl rfl
theorem kw_978 : (Jvm.Cond.code ({ cls := "Leasehall", name := "watch", desc := "(III)I" } : Jvm.MethodName) prog_1_method_23_code (6 : Nat) (Option.some Jvm.ClassFile.FieldType.int)) ∈ gws := kt5 18 rfl rfl
theorem kw_979 : (Jvm.Cond.methodLink "Leasehall" (293 : Nat) ({ cls := "Leasehall", name := "tellWatches", desc := "(LLeasehall$Session;)V" } : Jvm.MethodName)) ∈ gws := kt5 19 rfl rfl
theorem kw_981 : (Jvm.Cond.instanceMethod ({ cls := "Leasehall", name := "tellWatches", desc := "(LLeasehall$Session;)V" } : Jvm.MethodName)) ∈ gws := kt5 21 rfl rfl
theorem kw_982 : (Jvm.Cond.code ({ cls := "Leasehall", name := "tellWatches", desc := "(LLeasehall$Session;)V" } : Jvm.MethodName) prog_1_method_71_code (3 : Nat) (Option.none : Option Jvm.ClassFile.FieldType)) ∈ gws := kt5 22 rfl rfl
theorem kw_983 : (Jvm.Cond.methodLink "Leasehall" (364 : Nat) ({ cls := "Leasehall$Log", name := "tells", desc := "(I)Z" } : Jvm.MethodName)) ∈ gws := kt5 23 rfl rfl
theorem kw_984 : (Jvm.Cond.instanceMethod ({ cls := "Leasehall$Log", name := "tells", desc := "(I)Z" } : Jvm.MethodName)) ∈ gws := kt5 24 rfl rfl
theorem kw_985 : (Jvm.Cond.selects "Leasehall$Log" ({ cls := "Leasehall$Log", name := "tells", desc := "(I)Z" } : Jvm.MethodName) ({ cls := "Leasehall$Log", name := "tells", desc := "(I)Z" } : Jvm.MethodName)) ∈ gws := kt5 25 rfl rfl
theorem kw_986 : (Jvm.Cond.code ({ cls := "Leasehall$Log", name := "tells", desc := "(I)Z" } : Jvm.MethodName) prog_5_method_3_code (2 : Nat) (Option.some Jvm.ClassFile.FieldType.boolean)) ∈ gws := kt5 26 rfl rfl
theorem kw_987 : (Jvm.Cond.methodLink "Leasehall" (508 : Nat) ({ cls := "Leasehall$Session", name := "hearOf", desc := "(IILLeasehall$Births;)V" } : Jvm.MethodName)) ∈ gws := kt5 27 rfl rfl
theorem kw_988 : (Jvm.Cond.instanceMethod ({ cls := "Leasehall$Session", name := "hearOf", desc := "(IILLeasehall$Births;)V" } : Jvm.MethodName)) ∈ gws := kt5 28 rfl rfl
theorem kw_989 : (Jvm.Cond.selects "Leasehall$Session" ({ cls := "Leasehall$Session", name := "hearOf", desc := "(IILLeasehall$Births;)V" } : Jvm.MethodName) ({ cls := "Leasehall$Session", name := "hearOf", desc := "(IILLeasehall$Births;)V" } : Jvm.MethodName)) ∈ gws := kt5 29 rfl rfl
theorem kw_990 : (Jvm.Cond.code ({ cls := "Leasehall$Session", name := "hearOf", desc := "(IILLeasehall$Births;)V" } : Jvm.MethodName) prog_8_method_3_code (7 : Nat) (Option.none : Option Jvm.ClassFile.FieldType)) ∈ gws := kt5 30 rfl rfl
theorem kw_991 : (Jvm.Cond.methodLink "Leasehall$Session" (74 : Nat) ({ cls := "Leasehall$Session", name := "watchesFor", desc := "(IIILLeasehall$Births;)Z" } : Jvm.MethodName)) ∈ gws := kt5 31 rfl rfl
theorem kw_993 : (Jvm.Cond.instanceMethod ({ cls := "Leasehall$Session", name := "watchesFor", desc := "(IIILLeasehall$Births;)Z" } : Jvm.MethodName)) ∈ gws := kt5 33 rfl rfl
theorem kw_994 : (Jvm.Cond.code ({ cls := "Leasehall$Session", name := "watchesFor", desc := "(IIILLeasehall$Births;)Z" } : Jvm.MethodName) prog_8_method_4_code (6 : Nat) (Option.some Jvm.ClassFile.FieldType.boolean)) ∈ gws := kt5 34 rfl rfl
theorem kw_995 : (Jvm.Cond.methodLink "Leasehall$Session" (87 : Nat) ({ cls := "Leasehall$Births", name := "isWithinBranch", desc := "(II)Z" } : Jvm.MethodName)) ∈ gws := kt5 35 rfl rfl
theorem kw_996 : (Jvm.Cond.instanceMethod ({ cls := "Leasehall$Births", name := "isWithinBranch", desc := "(II)Z" } : Jvm.MethodName)) ∈ gws := kt5 36 rfl rfl
theorem kw_997 : (Jvm.Cond.selects "Leasehall$Births" ({ cls := "Leasehall$Births", name := "isWithinBranch", desc := "(II)Z" } : Jvm.MethodName) ({ cls := "Leasehall$Births", name := "isWithinBranch", desc := "(II)Z" } : Jvm.MethodName)) ∈ gws := kt5 37 rfl rfl
theorem kw_998 : (Jvm.Cond.code ({ cls := "Leasehall$Births", name := "isWithinBranch", desc := "(II)Z" } : Jvm.MethodName) prog_3_method_4_code (5 : Nat) (Option.some Jvm.ClassFile.FieldType.boolean)) ∈ gws := kt5 38 rfl rfl
theorem kw_999 : (Jvm.Cond.methodLink "Leasehall$Session" (78 : Nat) ({ cls := "Leasehall$Row", name := "add", desc := "(I)V" } : Jvm.MethodName)) ∈ gws := kt5 39 rfl rfl
theorem kw_1000 : (Jvm.Cond.instanceMethod ({ cls := "Leasehall$Row", name := "add", desc := "(I)V" } : Jvm.MethodName)) ∈ gws := kt5 40 rfl rfl
theorem kw_1001 : (Jvm.Cond.selects "Leasehall$Row" ({ cls := "Leasehall$Row", name := "add", desc := "(I)V" } : Jvm.MethodName) ({ cls := "Leasehall$Row", name := "add", desc := "(I)V" } : Jvm.MethodName)) ∈ gws := kt5 41 rfl rfl
theorem kw_1002 : (Jvm.Cond.code ({ cls := "Leasehall$Row", name := "add", desc := "(I)V" } : Jvm.MethodName) prog_6_method_2_code (2 : Nat) (Option.none : Option Jvm.ClassFile.FieldType)) ∈ gws := kt5 42 rfl rfl
theorem kw_1003 : (Jvm.Cond.methodLink "Leasehall$Row" (22 : Nat) ({ cls := "Leasehall$Row", name := "makeRoom", desc := "()V" } : Jvm.MethodName)) ∈ gws := kt5 43 rfl rfl
theorem kw_1005 : (Jvm.Cond.instanceMethod ({ cls := "Leasehall$Row", name := "makeRoom", desc := "()V" } : Jvm.MethodName)) ∈ gws := kt5 45 rfl rfl
theorem kw_1006 : (Jvm.Cond.code ({ cls := "Leasehall$Row", name := "makeRoom", desc := "()V" } : Jvm.MethodName) prog_6_method_3_code (1 : Nat) (Option.none : Option Jvm.ClassFile.FieldType)) ∈ gws := kt5 46 rfl rfl
theorem kw_1007 : (Jvm.Cond.methodLink "Leasehall$Row" (25 : Nat) ({ cls := "java/lang/System", name := "arraycopy", desc := "(Ljava/lang/Object;ILjava/lang/Object;II)V" } : Jvm.MethodName)) ∈ gws := kt5 47 rfl rfl
theorem kw_1008 : (Jvm.Cond.methodLink "Leasehall$Row" (31 : Nat) ({ cls := "java/util/Arrays", name := "copyOf", desc := "([II)[I" } : Jvm.MethodName)) ∈ gws := kt5 48 rfl rfl
theorem kw_1009 : (Jvm.Cond.static ({ cls := "java/util/Arrays", name := "copyOf", desc := "([II)[I" } : Jvm.MethodName)) ∈ gws := kt5 49 rfl rfl
theorem kw_1010 : (Jvm.Cond.code ({ cls := "java/util/Arrays", name := "copyOf", desc := "([II)[I" } : Jvm.MethodName) prog_27_method_123_code (3 : Nat) (Option.some (Jvm.ClassFile.FieldType.array Jvm.ClassFile.FieldType.int))) ∈ gws := kt5 50 rfl rfl
theorem kw_1011 : (Jvm.Cond.methodLink "java/util/Arrays" (316 : Nat) ({ cls := "[I", name := "clone", desc := "()Ljava/lang/Object;" } : Jvm.MethodName)) ∈ gws := kt5 51 rfl rfl
theorem kw_1014 : (Jvm.Cond.instanceMethod ({ cls := "java/lang/Object", name := "clone", desc := "()Ljava/lang/Object;" } : Jvm.MethodName)) ∈ gws := kt5 54 rfl rfl
theorem kw_1015 : (Jvm.Cond.selects "[I" ({ cls := "[I", name := "clone", desc := "()Ljava/lang/Object;" } : Jvm.MethodName) ({ cls := "java/lang/Object", name := "clone", desc := "()Ljava/lang/Object;" } : Jvm.MethodName)) ∈ gws := kt5 55 rfl rfl
theorem kw_1017 : (Jvm.Cond.classLink "java/util/Arrays" (317 : Nat) "[I") ∈ gws := kt5 57 rfl rfl
theorem kw_1019 : (Jvm.Cond.methodLink "Leasehall" (301 : Nat) ({ cls := "Leasehall$Session", name := "addWatch", desc := "(II)I" } : Jvm.MethodName)) ∈ gws := kt5 59 rfl rfl
theorem kw_1020 : (Jvm.Cond.instanceMethod ({ cls := "Leasehall$Session", name := "addWatch", desc := "(II)I" } : Jvm.MethodName)) ∈ gws := kt5 60 rfl rfl
theorem kw_1021 : (Jvm.Cond.selects "Leasehall$Session" ({ cls := "Leasehall$Session", name := "addWatch", desc := "(II)I" } : Jvm.MethodName) ({ cls := "Leasehall$Session", name := "addWatch", desc := "(II)I" } : Jvm.MethodName)) ∈ gws := kt5 61 rfl rfl
theorem kw_1022 : (Jvm.Cond.code ({ cls := "Leasehall$Session", name := "addWatch", desc := "(II)I" } : Jvm.MethodName) prog_8_method_2_code (3 : Nat) (Option.some Jvm.ClassFile.FieldType.int)) ∈ gws := kt5 62 rfl rfl
theorem kw_1023 : (Jvm.Cond.methodLink "LeasehallLaw" (206 : Nat) ({ cls := "LeasehallLaw", name := "hear", desc := "(LLeasehall;I[J)I" } : Jvm.MethodName)) ∈ gws := kt5 63 rfl rfl
theorem kw_1024 : (Jvm.Cond.static ({ cls := "LeasehallLaw", name := "hear", desc := "(LLeasehall;I[J)I" } : Jvm.MethodName)) ∈ gws := kt5 64 rfl rfl
theorem kw_1025 : (Jvm.Cond.codeWith ({ cls := "LeasehallLaw", name := "hear", desc := "(LLeasehall;I[J)I" } : Jvm.MethodName) method_24_code (4 : Nat) (Option.some Jvm.ClassFile.FieldType.int) [((0 : Nat), (9 : Nat), (12 : Nat), (13 : Nat)), ((0 : Nat), (9 : Nat), (15 : Nat), (17 : Nat))]) ∈ gws := kt5 65 rfl rfl
theorem kw_1026 : (Jvm.Cond.methodLink "LeasehallLaw" (86 : Nat) ({ cls := "Leasehall", name := "hear", desc := "(I)I" } : Jvm.MethodName)) ∈ gws := kt5 66 rfl rfl
theorem kw_1027 : (Jvm.Cond.instanceMethod ({ cls := "Leasehall", name := "hear", desc := "(I)I" } : Jvm.MethodName)) ∈ gws := kt5 67 rfl rfl
theorem kw_1028 : (Jvm.Cond.selects "Leasehall" ({ cls := "Leasehall", name := "hear", desc := "(I)I" } : Jvm.MethodName) ({ cls := "Leasehall", name := "hear", desc := "(I)I" } : Jvm.MethodName)) ∈ gws := kt5 68 rfl rfl
theorem kw_1029 : (Jvm.Cond.code ({ cls := "Leasehall", name := "hear", desc := "(I)I" } : Jvm.MethodName) prog_1_method_24_code (3 : Nat) (Option.some Jvm.ClassFile.FieldType.int)) ∈ gws := kt5 69 rfl rfl
theorem kw_1030 : (Jvm.Cond.methodLink "Leasehall" (308 : Nat) ({ cls := "Leasehall$Row", name := "takeOldest", desc := "()I" } : Jvm.MethodName)) ∈ gws := kt5 70 rfl rfl
theorem kw_1031 : (Jvm.Cond.instanceMethod ({ cls := "Leasehall$Row", name := "takeOldest", desc := "()I" } : Jvm.MethodName)) ∈ gws := kt5 71 rfl rfl
theorem kw_1032 : (Jvm.Cond.selects "Leasehall$Row" ({ cls := "Leasehall$Row", name := "takeOldest", desc := "()I" } : Jvm.MethodName) ({ cls := "Leasehall$Row", name := "takeOldest", desc := "()I" } : Jvm.MethodName)) ∈ gws := kt5 72 rfl rfl
theorem kw_1033 : (Jvm.Cond.code ({ cls := "Leasehall$Row", name := "takeOldest", desc := "()I" } : Jvm.MethodName) prog_6_method_4_code (2 : Nat) (Option.some Jvm.ClassFile.FieldType.int)) ∈ gws := kt5 73 rfl rfl
theorem kw_1034 : (Jvm.Cond.methodLink "LeasehallLaw" (209 : Nat) ({ cls := "LeasehallLaw", name := "want", desc := "(LLeasehall;IIZ[J)I" } : Jvm.MethodName)) ∈ gws := kt5 74 rfl rfl
theorem kw_1035 : (Jvm.Cond.static ({ cls := "LeasehallLaw", name := "want", desc := "(LLeasehall;IIZ[J)I" } : Jvm.MethodName)) ∈ gws := kt5 75 rfl rfl
theorem kw_1036 : (Jvm.Cond.codeWith ({ cls := "LeasehallLaw", name := "want", desc := "(LLeasehall;IIZ[J)I" } : Jvm.MethodName) method_25_code (6 : Nat) (Option.some Jvm.ClassFile.FieldType.int) [((0 : Nat), (12 : Nat), (15 : Nat), (13 : Nat)), ((0 : Nat), (12 : Nat), (19 : Nat), (17 : Nat))]) ∈ gws := kt5 76 rfl rfl
theorem kw_1037 : (Jvm.Cond.methodLink "LeasehallLaw" (89 : Nat) ({ cls := "Leasehall", name := "want", desc := "(IIZ)I" } : Jvm.MethodName)) ∈ gws := kt5 77 rfl rfl
theorem kw_1038 : (Jvm.Cond.instanceMethod ({ cls := "Leasehall", name := "want", desc := "(IIZ)I" } : Jvm.MethodName)) ∈ gws := kt5 78 rfl rfl
theorem kw_1039 : (Jvm.Cond.selects "Leasehall" ({ cls := "Leasehall", name := "want", desc := "(IIZ)I" } : Jvm.MethodName) ({ cls := "Leasehall", name := "want", desc := "(IIZ)I" } : Jvm.MethodName)) ∈ gws := kt5 79 rfl rfl
theorem kw_1040 : (Jvm.Cond.code ({ cls := "Leasehall", name := "want", desc := "(IIZ)I" } : Jvm.MethodName) prog_1_method_25_code (5 : Nat) (Option.some Jvm.ClassFile.FieldType.int)) ∈ gws := kt5 80 rfl rfl
theorem kw_1041 : (Jvm.Cond.methodLink "LeasehallLaw" (213 : Nat) ({ cls := "LeasehallLaw", name := "has", desc := "(LLeasehall;II[J)I" } : Jvm.MethodName)) ∈ gws := kt5 81 rfl rfl
theorem kw_1042 : (Jvm.Cond.static ({ cls := "LeasehallLaw", name := "has", desc := "(LLeasehall;II[J)I" } : Jvm.MethodName)) ∈ gws := kt5 82 rfl rfl
theorem kw_1043 : (Jvm.Cond.codeWith ({ cls := "LeasehallLaw", name := "has", desc := "(LLeasehall;II[J)I" } : Jvm.MethodName) method_26_code (5 : Nat) (Option.some Jvm.ClassFile.FieldType.int) [((0 : Nat), (10 : Nat), (13 : Nat), (13 : Nat)), ((0 : Nat), (10 : Nat), (17 : Nat), (17 : Nat))]) ∈ gws := kt5 83 rfl rfl
theorem kw_1044 : (Jvm.Cond.methodLink "LeasehallLaw" (93 : Nat) ({ cls := "Leasehall", name := "has", desc := "(II)I" } : Jvm.MethodName)) ∈ gws := kt5 84 rfl rfl
theorem kw_1045 : (Jvm.Cond.instanceMethod ({ cls := "Leasehall", name := "has", desc := "(II)I" } : Jvm.MethodName)) ∈ gws := kt5 85 rfl rfl
theorem kw_1046 : (Jvm.Cond.selects "Leasehall" ({ cls := "Leasehall", name := "has", desc := "(II)I" } : Jvm.MethodName) ({ cls := "Leasehall", name := "has", desc := "(II)I" } : Jvm.MethodName)) ∈ gws := kt5 86 rfl rfl
theorem kw_1047 : (Jvm.Cond.code ({ cls := "Leasehall", name := "has", desc := "(II)I" } : Jvm.MethodName) prog_1_method_26_code (5 : Nat) (Option.some Jvm.ClassFile.FieldType.int)) ∈ gws := kt5 87 rfl rfl
theorem kw_1048 : (Jvm.Cond.methodLink "Leasehall" (313 : Nat) ({ cls := "Leasehall$Tree", name := "fenceOf", desc := "(II)I" } : Jvm.MethodName)) ∈ gws := kt5 88 rfl rfl
theorem kw_1049 : (Jvm.Cond.instanceMethod ({ cls := "Leasehall$Tree", name := "fenceOf", desc := "(II)I" } : Jvm.MethodName)) ∈ gws := kt5 89 rfl rfl
theorem kw_1050 : (Jvm.Cond.selects "Leasehall$Tree" ({ cls := "Leasehall$Tree", name := "fenceOf", desc := "(II)I" } : Jvm.MethodName) ({ cls := "Leasehall$Tree", name := "fenceOf", desc := "(II)I" } : Jvm.MethodName)) ∈ gws := kt5 90 rfl rfl
theorem kw_1051 : (Jvm.Cond.code ({ cls := "Leasehall$Tree", name := "fenceOf", desc := "(II)I" } : Jvm.MethodName) prog_9_method_21_code (7 : Nat) (Option.some Jvm.ClassFile.FieldType.int)) ∈ gws := kt5 91 rfl rfl
theorem kw_1052 : (Jvm.Cond.methodLink "Leasehall$Tree" (94 : Nat) ({ cls := "Leasehall$Tree", name := "firstOf", desc := "(II)I" } : Jvm.MethodName)) ∈ gws := kt5 92 rfl rfl
theorem kw_1053 : (Jvm.Cond.instanceMethod ({ cls := "Leasehall$Tree", name := "firstOf", desc := "(II)I" } : Jvm.MethodName)) ∈ gws := kt5 93 rfl rfl
theorem kw_1054 : (Jvm.Cond.selects "Leasehall$Tree" ({ cls := "Leasehall$Tree", name := "firstOf", desc := "(II)I" } : Jvm.MethodName) ({ cls := "Leasehall$Tree", name := "firstOf", desc := "(II)I" } : Jvm.MethodName)) ∈ gws := kt5 94 rfl rfl
theorem kw_1055 : (Jvm.Cond.code ({ cls := "Leasehall$Tree", name := "firstOf", desc := "(II)I" } : Jvm.MethodName) prog_9_method_20_code (5 : Nat) (Option.some Jvm.ClassFile.FieldType.int)) ∈ gws := kt5 95 rfl rfl
theorem kw_1056 : (Jvm.Cond.methodLink "Leasehall$Tree" (91 : Nat) ({ cls := "Leasehall$Tree", name := "isOfSession", desc := "(II)Z" } : Jvm.MethodName)) ∈ gws := kt5 96 rfl rfl
theorem kw_1057 : (Jvm.Cond.instanceMethod ({ cls := "Leasehall$Tree", name := "isOfSession", desc := "(II)Z" } : Jvm.MethodName)) ∈ gws := kt5 97 rfl rfl
theorem kw_1058 : (Jvm.Cond.selects "Leasehall$Tree" ({ cls := "Leasehall$Tree", name := "isOfSession", desc := "(II)Z" } : Jvm.MethodName) ({ cls := "Leasehall$Tree", name := "isOfSession", desc := "(II)Z" } : Jvm.MethodName)) ∈ gws := kt5 98 rfl rfl
theorem kw_1059 : (Jvm.Cond.code ({ cls := "Leasehall$Tree", name := "isOfSession", desc := "(II)Z" } : Jvm.MethodName) prog_9_method_19_code (3 : Nat) (Option.some Jvm.ClassFile.FieldType.boolean)) ∈ gws := kt5 99 rfl rfl
theorem kw_1060 : (Jvm.Cond.methodLink "LeasehallLaw" (216 : Nat) ({ cls := "LeasehallLaw", name := "giveUp", desc := "(LLeasehall;II[J)I" } : Jvm.MethodName)) ∈ gws := kt5 100 rfl rfl
theorem kw_1061 : (Jvm.Cond.static ({ cls := "LeasehallLaw", name := "giveUp", desc := "(LLeasehall;II[J)I" } : Jvm.MethodName)) ∈ gws := kt5 101 rfl rfl
theorem kw_1062 : (Jvm.Cond.codeWith ({ cls := "LeasehallLaw", name := "giveUp", desc := "(LLeasehall;II[J)I" } : Jvm.MethodName) method_27_code (5 : Nat) (Option.some Jvm.ClassFile.FieldType.int) [((0 : Nat), (10 : Nat), (13 : Nat), (13 : Nat)), ((0 : Nat), (10 : Nat), (17 : Nat), (17 : Nat))]) ∈ gws := kt5 102 rfl rfl
theorem kw_1063 : (Jvm.Cond.methodLink "LeasehallLaw" (96 : Nat) ({ cls := "Leasehall", name := "giveUp", desc := "(II)I" } : Jvm.MethodName)) ∈ gws := kt5 103 rfl rfl
theorem kw_1064 : (Jvm.Cond.instanceMethod ({ cls := "Leasehall", name := "giveUp", desc := "(II)I" } : Jvm.MethodName)) ∈ gws := kt5 104 rfl rfl
theorem kw_1065 : (Jvm.Cond.selects "Leasehall" ({ cls := "Leasehall", name := "giveUp", desc := "(II)I" } : Jvm.MethodName) ({ cls := "Leasehall", name := "giveUp", desc := "(II)I" } : Jvm.MethodName)) ∈ gws := kt5 105 rfl rfl
theorem kw_1066 : (Jvm.Cond.code ({ cls := "Leasehall", name := "giveUp", desc := "(II)I" } : Jvm.MethodName) prog_1_method_27_code (6 : Nat) (Option.some Jvm.ClassFile.FieldType.int)) ∈ gws := kt5 106 rfl rfl
theorem kw_1067 : (Jvm.Cond.methodLink "Leasehall" (320 : Nat) ({ cls := "Leasehall$Tree", name := "firstOf", desc := "(II)I" } : Jvm.MethodName)) ∈ gws := kt5 107 rfl rfl
theorem kw_1068 : (Jvm.Cond.methodLink "LeasehallLaw" (223 : Nat) ({ cls := "LeasehallLaw", name := "isOpen", desc := "(LLeasehall;III[J)I" } : Jvm.MethodName)) ∈ gws := kt5 108 rfl rfl
theorem kw_1069 : (Jvm.Cond.static ({ cls := "LeasehallLaw", name := "isOpen", desc := "(LLeasehall;III[J)I" } : Jvm.MethodName)) ∈ gws := kt5 109 rfl rfl
theorem kw_1070 : (Jvm.Cond.codeWith ({ cls := "LeasehallLaw", name := "isOpen", desc := "(LLeasehall;III[J)I" } : Jvm.MethodName) method_28_code (6 : Nat) (Option.some Jvm.ClassFile.FieldType.int) [((0 : Nat), (19 : Nat), (22 : Nat), (13 : Nat)), ((0 : Nat), (19 : Nat), (26 : Nat), (15 : Nat)), ((0 : Nat), (19 : Nat), (30 : Nat), (17 : Nat))]) ∈ gws := kt5 110 rfl rfl
theorem kw_1071 : (Jvm.Cond.methodLink "LeasehallLaw" (99 : Nat) ({ cls := "Leasehall", name := "isOpen", desc := "(III)Z" } : Jvm.MethodName)) ∈ gws := kt5 111 rfl rfl
theorem kw_1072 : (Jvm.Cond.instanceMethod ({ cls := "Leasehall", name := "isOpen", desc := "(III)Z" } : Jvm.MethodName)) ∈ gws := kt5 112 rfl rfl
theorem kw_1073 : (Jvm.Cond.selects "Leasehall" ({ cls := "Leasehall", name := "isOpen", desc := "(III)Z" } : Jvm.MethodName) ({ cls := "Leasehall", name := "isOpen", desc := "(III)Z" } : Jvm.MethodName)) ∈ gws := kt5 113 rfl rfl
theorem kw_1074 : (Jvm.Cond.code ({ cls := "Leasehall", name := "isOpen", desc := "(III)Z" } : Jvm.MethodName) prog_1_method_29_code (5 : Nat) (Option.some Jvm.ClassFile.FieldType.boolean)) ∈ gws := kt5 114 rfl rfl
theorem kw_1076 : (Jvm.Cond.methodLink "LeasehallLaw" (226 : Nat) ({ cls := "LeasehallLaw", name := "takeFirst", desc := "(LLeasehall;II[J)I" } : Jvm.MethodName)) ∈ gws := kt5 116 rfl rfl
theorem kw_1077 : (Jvm.Cond.static ({ cls := "LeasehallLaw", name := "takeFirst", desc := "(LLeasehall;II[J)I" } : Jvm.MethodName)) ∈ gws := kt5 117 rfl rfl
theorem kw_1078 : (Jvm.Cond.codeWith ({ cls := "LeasehallLaw", name := "takeFirst", desc := "(LLeasehall;II[J)I" } : Jvm.MethodName) method_29_code (5 : Nat) (Option.some Jvm.ClassFile.FieldType.int) [((0 : Nat), (10 : Nat), (13 : Nat), (13 : Nat)), ((0 : Nat), (10 : Nat), (17 : Nat), (17 : Nat))]) ∈ gws := kt5 118 rfl rfl
theorem kw_1079 : (Jvm.Cond.methodLink "LeasehallLaw" (103 : Nat) ({ cls := "Leasehall", name := "takeFirst", desc := "(II)I" } : Jvm.MethodName)) ∈ gws := kt5 119 rfl rfl
theorem kw_1080 : (Jvm.Cond.instanceMethod ({ cls := "Leasehall", name := "takeFirst", desc := "(II)I" } : Jvm.MethodName)) ∈ gws := kt5 120 rfl rfl
theorem kw_1081 : (Jvm.Cond.selects "Leasehall" ({ cls := "Leasehall", name := "takeFirst", desc := "(II)I" } : Jvm.MethodName) ({ cls := "Leasehall", name := "takeFirst", desc := "(II)I" } : Jvm.MethodName)) ∈ gws := kt5 121 rfl rfl
theorem kw_1082 : (Jvm.Cond.code ({ cls := "Leasehall", name := "takeFirst", desc := "(II)I" } : Jvm.MethodName) prog_1_method_30_code (7 : Nat) (Option.some Jvm.ClassFile.FieldType.int)) ∈ gws := kt5 122 rfl rfl
theorem kw_1083 : (Jvm.Cond.methodLink "Leasehall" (338 : Nat) ({ cls := "Leasehall$Tree", name := "firstWithoutChildren", desc := "(I)I" } : Jvm.MethodName)) ∈ gws := kt5 123 rfl rfl
theorem kw_1084 : (Jvm.Cond.instanceMethod ({ cls := "Leasehall$Tree", name := "firstWithoutChildren", desc := "(I)I" } : Jvm.MethodName)) ∈ gws := kt5 124 rfl rfl
theorem kw_1085 : (Jvm.Cond.selects "Leasehall$Tree" ({ cls := "Leasehall$Tree", name := "firstWithoutChildren", desc := "(I)I" } : Jvm.MethodName) ({ cls := "Leasehall$Tree", name := "firstWithoutChildren", desc := "(I)I" } : Jvm.MethodName)) ∈ gws := kt5 125 rfl rfl
theorem kw_1086 : (Jvm.Cond.code ({ cls := "Leasehall$Tree", name := "firstWithoutChildren", desc := "(I)I" } : Jvm.MethodName) prog_9_method_18_code (4 : Nat) (Option.some Jvm.ClassFile.FieldType.int)) ∈ gws := kt5 126 rfl rfl
theorem kw_1087 : (Jvm.Cond.methodLink "LeasehallLaw" (229 : Nat) ({ cls := "LeasehallLaw", name := "store", desc := "(LLeasehall;II[J)I" } : Jvm.MethodName)) ∈ gws := kt5 127 rfl rfl
theorem kw_1088 : (Jvm.Cond.static ({ cls := "LeasehallLaw", name := "store", desc := "(LLeasehall;II[J)I" } : Jvm.MethodName)) ∈ gws := kt5 128 rfl rfl
theorem kw_1089 : (Jvm.Cond.codeWith ({ cls := "LeasehallLaw", name := "store", desc := "(LLeasehall;II[J)I" } : Jvm.MethodName) method_30_code (5 : Nat) (Option.some Jvm.ClassFile.FieldType.int) [((0 : Nat), (17 : Nat), (20 : Nat), (15 : Nat))]) ∈ gws := kt5 129 rfl rfl
theorem kw_1090 : (Jvm.Cond.methodLink "LeasehallLaw" (106 : Nat) ({ cls := "Leasehall", name := "store", desc := "(II)Z" } : Jvm.MethodName)) ∈ gws := kt5 130 rfl rfl
theorem kw_1091 : (Jvm.Cond.instanceMethod ({ cls := "Leasehall", name := "store", desc := "(II)Z" } : Jvm.MethodName)) ∈ gws := kt5 131 rfl rfl
theorem kw_1092 : (Jvm.Cond.selects "Leasehall" ({ cls := "Leasehall", name := "store", desc := "(II)Z" } : Jvm.MethodName) ({ cls := "Leasehall", name := "store", desc := "(II)Z" } : Jvm.MethodName)) ∈ gws := kt5 132 rfl rfl
theorem kw_1093 : (Jvm.Cond.code ({ cls := "Leasehall", name := "store", desc := "(II)Z" } : Jvm.MethodName) prog_1_method_31_code (3 : Nat) (Option.some Jvm.ClassFile.FieldType.boolean)) ∈ gws := kt5 133 rfl rfl
theorem kw_1095 : (Jvm.Cond.methodLink "LeasehallLaw" (236 : Nat) ({ cls := "LeasehallLaw", name := "valueAt", desc := "(LLeasehall;II[J)I" } : Jvm.MethodName)) ∈ gws := kt5 135 rfl rfl
theorem kw_1096 : (Jvm.Cond.static ({ cls := "LeasehallLaw", name := "valueAt", desc := "(LLeasehall;II[J)I" } : Jvm.MethodName)) ∈ gws := kt5 136 rfl rfl
theorem kw_1097 : (Jvm.Cond.codeWith ({ cls := "LeasehallLaw", name := "valueAt", desc := "(LLeasehall;II[J)I" } : Jvm.MethodName) method_31_code (5 : Nat) (Option.some Jvm.ClassFile.FieldType.int) [((0 : Nat), (10 : Nat), (13 : Nat), (15 : Nat)), ((0 : Nat), (10 : Nat), (17 : Nat), (17 : Nat))]) ∈ gws := kt5 137 rfl rfl
theorem kw_1098 : (Jvm.Cond.methodLink "LeasehallLaw" (109 : Nat) ({ cls := "Leasehall", name := "valueAt", desc := "(II)I" } : Jvm.MethodName)) ∈ gws := kt5 138 rfl rfl
theorem kw_1099 : (Jvm.Cond.instanceMethod ({ cls := "Leasehall", name := "valueAt", desc := "(II)I" } : Jvm.MethodName)) ∈ gws := kt5 139 rfl rfl
theorem kw_1100 : (Jvm.Cond.selects "Leasehall" ({ cls := "Leasehall", name := "valueAt", desc := "(II)I" } : Jvm.MethodName) ({ cls := "Leasehall", name := "valueAt", desc := "(II)I" } : Jvm.MethodName)) ∈ gws := kt5 140 rfl rfl
theorem kw_1101 : (Jvm.Cond.code ({ cls := "Leasehall", name := "valueAt", desc := "(II)I" } : Jvm.MethodName) prog_1_method_33_code (5 : Nat) (Option.some Jvm.ClassFile.FieldType.int)) ∈ gws := kt5 141 rfl rfl
theorem kw_1102 : (Jvm.Cond.methodLink "Leasehall" (346 : Nat) ({ cls := "Leasehall", name := "mustBeChange", desc := "(I)V" } : Jvm.MethodName)) ∈ gws := kt5 142 rfl rfl
theorem kw_1104 : (Jvm.Cond.instanceMethod ({ cls := "Leasehall", name := "mustBeChange", desc := "(I)V" } : Jvm.MethodName)) ∈ gws := kt5 144 rfl rfl
theorem kw_1105 : (Jvm.Cond.code ({ cls := "Leasehall", name := "mustBeChange", desc := "(I)V" } : Jvm.MethodName) prog_1_method_48_code (2 : Nat) (Option.none : Option Jvm.ClassFile.FieldType)) ∈ gws := kt5 145 rfl rfl
theorem kw_1107 : (Jvm.Cond.methodLink "Leasehall" (349 : Nat) ({ cls := "Leasehall", name := "mustBeKept", desc := "(I)V" } : Jvm.MethodName)) ∈ gws := kt5 147 rfl rfl
theorem kw_1109 : (Jvm.Cond.instanceMethod ({ cls := "Leasehall", name := "mustBeKept", desc := "(I)V" } : Jvm.MethodName)) ∈ gws := kt5 149 rfl rfl
theorem kw_1110 : (Jvm.Cond.code ({ cls := "Leasehall", name := "mustBeKept", desc := "(I)V" } : Jvm.MethodName) prog_1_method_49_code (2 : Nat) (Option.none : Option Jvm.ClassFile.FieldType)) ∈ gws := kt5 150 rfl rfl
theorem kw_1112 : (Jvm.Cond.methodLink "LeasehallLaw" (239 : Nat) ({ cls := "LeasehallLaw", name := "changedAt", desc := "(LLeasehall;III[J)I" } : Jvm.MethodName)) ∈ gws := kt5 152 rfl rfl
theorem kw_1113 : (Jvm.Cond.static ({ cls := "LeasehallLaw", name := "changedAt", desc := "(LLeasehall;III[J)I" } : Jvm.MethodName)) ∈ gws := kt5 153 rfl rfl
theorem kw_1114 : (Jvm.Cond.codeWith ({ cls := "LeasehallLaw", name := "changedAt", desc := "(LLeasehall;III[J)I" } : Jvm.MethodName) method_32_code (6 : Nat) (Option.some Jvm.ClassFile.FieldType.int) [((0 : Nat), (12 : Nat), (15 : Nat), (13 : Nat)), ((0 : Nat), (12 : Nat), (19 : Nat), (15 : Nat)), ((0 : Nat), (12 : Nat), (23 : Nat), (17 : Nat))]) ∈ gws := kt5 154 rfl rfl
theorem kw_1115 : (Jvm.Cond.methodLink "LeasehallLaw" (112 : Nat) ({ cls := "Leasehall", name := "changedAt", desc := "(III)I" } : Jvm.MethodName)) ∈ gws := kt5 155 rfl rfl
theorem kw_1116 : (Jvm.Cond.instanceMethod ({ cls := "Leasehall", name := "changedAt", desc := "(III)I" } : Jvm.MethodName)) ∈ gws := kt5 156 rfl rfl
theorem kw_1117 : (Jvm.Cond.selects "Leasehall" ({ cls := "Leasehall", name := "changedAt", desc := "(III)I" } : Jvm.MethodName) ({ cls := "Leasehall", name := "changedAt", desc := "(III)I" } : Jvm.MethodName)) ∈ gws := kt5 157 rfl rfl
theorem kw_1118 : (Jvm.Cond.code ({ cls := "Leasehall", name := "changedAt", desc := "(III)I" } : Jvm.MethodName) prog_1_method_34_code (7 : Nat) (Option.some Jvm.ClassFile.FieldType.int)) ∈ gws := kt5 158 rfl rfl
theorem kw_1119 : (Jvm.Cond.methodLink "LeasehallLaw" (242 : Nat) ({ cls := "LeasehallLaw", name := "compact", desc := "(LLeasehall;I[J)I" } : Jvm.MethodName)) ∈ gws := kt5 159 rfl rfl
theorem kw_1120 : (Jvm.Cond.static ({ cls := "LeasehallLaw", name := "compact", desc := "(LLeasehall;I[J)I" } : Jvm.MethodName)) ∈ gws := kt5 160 rfl rfl
theorem kw_1121 : (Jvm.Cond.codeWith ({ cls := "LeasehallLaw", name := "compact", desc := "(LLeasehall;I[J)I" } : Jvm.MethodName) method_33_code (4 : Nat) (Option.some Jvm.ClassFile.FieldType.int) [((0 : Nat), (9 : Nat), (12 : Nat), (15 : Nat))]) ∈ gws := kt5 161 rfl rfl
theorem kw_1122 : (Jvm.Cond.methodLink "LeasehallLaw" (115 : Nat) ({ cls := "Leasehall", name := "compact", desc := "(I)I" } : Jvm.MethodName)) ∈ gws := kt5 162 rfl rfl
theorem kw_1123 : (Jvm.Cond.instanceMethod ({ cls := "Leasehall", name := "compact", desc := "(I)I" } : Jvm.MethodName)) ∈ gws := kt5 163 rfl rfl
theorem kw_1124 : (Jvm.Cond.selects "Leasehall" ({ cls := "Leasehall", name := "compact", desc := "(I)I" } : Jvm.MethodName) ({ cls := "Leasehall", name := "compact", desc := "(I)I" } : Jvm.MethodName)) ∈ gws := kt5 164 rfl rfl
theorem kw_1125 : (Jvm.Cond.code ({ cls := "Leasehall", name := "compact", desc := "(I)I" } : Jvm.MethodName) prog_1_method_35_code (2 : Nat) (Option.some Jvm.ClassFile.FieldType.int)) ∈ gws := kt5 165 rfl rfl
theorem kw_1126 : (Jvm.Cond.methodLink "Leasehall" (373 : Nat) ({ cls := "java/lang/Math", name := "max", desc := "(II)I" } : Jvm.MethodName)) ∈ gws := kt5 166 rfl rfl
theorem kw_1127 : (Jvm.Cond.methodLink "LeasehallLaw" (249 : Nat) ({ cls := "LeasehallLaw", name := "restore", desc := "(LLeasehall;[J)I" } : Jvm.MethodName)) ∈ gws := kt5 167 rfl rfl
theorem kw_1128 : (Jvm.Cond.static ({ cls := "LeasehallLaw", name := "restore", desc := "(LLeasehall;[J)I" } : Jvm.MethodName)) ∈ gws := kt5 168 rfl rfl
theorem kw_1129 : (Jvm.Cond.codeWith ({ cls := "LeasehallLaw", name := "restore", desc := "(LLeasehall;[J)I" } : Jvm.MethodName) method_34_code (3 : Nat) (Option.some Jvm.ClassFile.FieldType.int) [((0 : Nat), (8 : Nat), (11 : Nat), (17 : Nat))]) ∈ gws := kt5 169 rfl rfl
theorem kw_1130 : (Jvm.Cond.methodLink "LeasehallLaw" (118 : Nat) ({ cls := "Leasehall", name := "restore", desc := "()I" } : Jvm.MethodName)) ∈ gws := kt5 170 rfl rfl
theorem kw_1131 : (Jvm.Cond.instanceMethod ({ cls := "Leasehall", name := "restore", desc := "()I" } : Jvm.MethodName)) ∈ gws := kt5 171 rfl rfl
theorem kw_1132 : (Jvm.Cond.selects "Leasehall" ({ cls := "Leasehall", name := "restore", desc := "()I" } : Jvm.MethodName) ({ cls := "Leasehall", name := "restore", desc := "()I" } : Jvm.MethodName)) ∈ gws := kt5 172 rfl rfl
theorem kw_1133 : (Jvm.Cond.code ({ cls := "Leasehall", name := "restore", desc := "()I" } : Jvm.MethodName) prog_1_method_37_code (2 : Nat) (Option.some Jvm.ClassFile.FieldType.int)) ∈ gws := kt5 173 rfl rfl
theorem kw_1135 : (Jvm.Cond.methodLink "Leasehall" (388 : Nat) ({ cls := "Leasehall$Tree", name := "dropHeld", desc := "()V" } : Jvm.MethodName)) ∈ gws := kt5 175 rfl rfl
theorem kw_1136 : (Jvm.Cond.instanceMethod ({ cls := "Leasehall$Tree", name := "dropHeld", desc := "()V" } : Jvm.MethodName)) ∈ gws := kt5 176 rfl rfl
theorem kw_1137 : (Jvm.Cond.selects "Leasehall$Tree" ({ cls := "Leasehall$Tree", name := "dropHeld", desc := "()V" } : Jvm.MethodName) ({ cls := "Leasehall$Tree", name := "dropHeld", desc := "()V" } : Jvm.MethodName)) ∈ gws := kt5 177 rfl rfl
theorem kw_1138 : (Jvm.Cond.code ({ cls := "Leasehall$Tree", name := "dropHeld", desc := "()V" } : Jvm.MethodName) prog_9_method_3_code (2 : Nat) (Option.none : Option Jvm.ClassFile.FieldType)) ∈ gws := kt5 178 rfl rfl
theorem kw_1139 : (Jvm.Cond.methodLink "Leasehall$Tree" (44 : Nat) ({ cls := "Leasehall$Births", name := "isHeld", desc := "(I)Z" } : Jvm.MethodName)) ∈ gws := kt5 179 rfl rfl
theorem kw_1140 : (Jvm.Cond.classLink "LeasehallLaw" (123 : Nat) "LeasehallModel") ∈ gws := kt5 180 rfl rfl
theorem kw_1141 : (Jvm.Cond.instantiable "LeasehallModel" (58 : Nat)) ∈ gws := kt5 181 rfl rfl
theorem kw_1142 : (Jvm.Cond.methodLink "LeasehallLaw" (125 : Nat) ({ cls := "LeasehallModel", name := "<init>", desc := "()V" } : Jvm.MethodName)) ∈ gws := kt5 182 rfl rfl
theorem kw_1143 : (Jvm.Cond.instanceMethod ({ cls := "LeasehallModel", name := "<init>", desc := "()V" } : Jvm.MethodName)) ∈ gws := kt5 183 rfl rfl
theorem kw_1144 : (Jvm.Cond.code ({ cls := "LeasehallModel", name := "<init>", desc := "()V" } : Jvm.MethodName) prog_11_method_1_code (2 : Nat) (Option.none : Option Jvm.ClassFile.FieldType)) ∈ gws := kt5 184 rfl rfl
theorem kw_1145 : (Jvm.Cond.methodLink "LeasehallModel" (1 : Nat) ({ cls := "java/lang/Object", name := "<init>", desc := "()V" } : Jvm.MethodName)) ∈ gws := kt5 185 rfl rfl
theorem kw_1148 : (Jvm.Cond.fieldLink "LeasehallModel" (7 : Nat) "LeasehallModel" "parent" "[I") ∈ gws := kt5 188 rfl rfl
theorem kw_1149 : (Jvm.Cond.fieldLink "LeasehallModel" (13 : Nat) "LeasehallModel" "name" "[I") ∈ gws := kt5 189 rfl rfl
theorem kw_1150 : (Jvm.Cond.fieldLink "LeasehallModel" (16 : Nat) "LeasehallModel" "kind" "[I") ∈ gws := kt5 190 rfl rfl
theorem kw_1151 : (Jvm.Cond.fieldLink "LeasehallModel" (19 : Nat) "LeasehallModel" "whose" "[I") ∈ gws := kt5 191 rfl rfl
theorem kw_1152 : (Jvm.Cond.fieldLink "LeasehallModel" (22 : Nat) "LeasehallModel" "born" "[I") ∈ gws := kt5 192 rfl rfl
theorem kw_1153 : (Jvm.Cond.fieldLink "LeasehallModel" (25 : Nat) "LeasehallModel" "counted" "[I") ∈ gws := kt5 193 rfl rfl
theorem kw_1154 : (Jvm.Cond.fieldLink "LeasehallModel" (28 : Nat) "LeasehallModel" "quota" "[I") ∈ gws := kt5 194 rfl rfl
theorem kw_1155 : (Jvm.Cond.fieldLink "LeasehallModel" (141 : Nat) "LeasehallModel" "nodes" "I") ∈ gws := kt5 195 rfl rfl
theorem kw_1156 : (Jvm.Cond.fieldLink "LeasehallModel" (31 : Nat) "LeasehallModel" "is" "[I") ∈ gws := kt5 196 rfl rfl
theorem kw_1157 : (Jvm.Cond.fieldLink "LeasehallModel" (34 : Nat) "LeasehallModel" "val" "[I") ∈ gws := kt5 197 rfl rfl
theorem kw_1158 : (Jvm.Cond.fieldLink "LeasehallModel" (37 : Nat) "LeasehallModel" "vv" "[I") ∈ gws := kt5 198 rfl rfl
theorem kw_1159 : (Jvm.Cond.fieldLink "LeasehallModel" (40 : Nat) "LeasehallModel" "cv" "[I") ∈ gws := kt5 199 rfl rfl
theorem kw_1160 : (Jvm.Cond.fieldLink "LeasehallModel" (43 : Nat) "LeasehallModel" "rv" "[I") ∈ gws := kt5 200 rfl rfl
theorem kw_1161 : (Jvm.Cond.fieldLink "LeasehallModel" (46 : Nat) "LeasehallModel" "rr" "[I") ∈ gws := kt5 201 rfl rfl
theorem kw_1162 : (Jvm.Cond.fieldLink "LeasehallModel" (49 : Nat) "LeasehallModel" "rw" "[I") ∈ gws := kt5 202 rfl rfl
theorem kw_1163 : (Jvm.Cond.fieldLink "LeasehallModel" (52 : Nat) "LeasehallModel" "keptCount" "[I") ∈ gws := kt5 203 rfl rfl
theorem kw_1164 : (Jvm.Cond.fieldLink "LeasehallModel" (55 : Nat) "LeasehallModel" "wasCount" "[I") ∈ gws := kt5 204 rfl rfl
theorem kw_1165 : (Jvm.Cond.fieldLink "LeasehallModel" (308 : Nat) "LeasehallModel" "isKept" "Z") ∈ gws := kt5 205 rfl rfl
theorem kw_1166 : (Jvm.Cond.fieldLink "LeasehallModel" (175 : Nat) "LeasehallModel" "wasNodes" "I") ∈ gws := kt5 206 rfl rfl
theorem kw_1167 : (Jvm.Cond.fieldLink "LeasehallModel" (178 : Nat) "LeasehallModel" "wasSteps" "I") ∈ gws := kt5 207 rfl rfl
theorem kw_1168 : (Jvm.Cond.fieldLink "LeasehallModel" (59 : Nat) "LeasehallModel" "sc" "[I") ∈ gws := kt5 208 rfl rfl
theorem kw_1169 : (Jvm.Cond.fieldLink "LeasehallModel" (62 : Nat) "LeasehallModel" "sk" "[I") ∈ gws := kt5 209 rfl rfl
theorem kw_1170 : (Jvm.Cond.fieldLink "LeasehallModel" (65 : Nat) "LeasehallModel" "sn" "[I") ∈ gws := kt5 210 rfl rfl
theorem kw_1171 : (Jvm.Cond.fieldLink "LeasehallModel" (68 : Nat) "LeasehallModel" "sv" "[I") ∈ gws := kt5 211 rfl rfl
theorem kw_1172 : (Jvm.Cond.fieldLink "LeasehallModel" (71 : Nat) "LeasehallModel" "sw" "[I") ∈ gws := kt5 212 rfl rfl
theorem kw_1173 : (Jvm.Cond.fieldLink "LeasehallModel" (158 : Nat) "LeasehallModel" "steps" "I") ∈ gws := kt5 213 rfl rfl
theorem kw_1174 : (Jvm.Cond.fieldLink "LeasehallModel" (181 : Nat) "LeasehallModel" "last" "I") ∈ gws := kt5 214 rfl rfl
theorem kw_1175 : (Jvm.Cond.fieldLink "LeasehallModel" (161 : Nat) "LeasehallModel" "now" "I") ∈ gws := kt5 215 rfl rfl
theorem kw_1176 : (Jvm.Cond.fieldLink "LeasehallModel" (305 : Nat) "LeasehallModel" "compacted" "I") ∈ gws := kt5 216 rfl rfl
theorem kw_1177 : (Jvm.Cond.fieldLink "LeasehallModel" (74 : Nat) "LeasehallModel" "pos" "[I") ∈ gws := kt5 217 rfl rfl
theorem kw_1178 : (Jvm.Cond.fieldLink "LeasehallModel" (77 : Nat) "LeasehallModel" "got" "[I") ∈ gws := kt5 218 rfl rfl
theorem kw_1179 : (Jvm.Cond.fieldLink "LeasehallModel" (80 : Nat) "LeasehallModel" "zp" "[I") ∈ gws := kt5 219 rfl rfl
theorem kw_1180 : (Jvm.Cond.fieldLink "LeasehallModel" (83 : Nat) "LeasehallModel" "zs" "[I") ∈ gws := kt5 220 rfl rfl
theorem kw_1181 : (Jvm.Cond.fieldLink "LeasehallModel" (86 : Nat) "LeasehallModel" "zt" "[I") ∈ gws := kt5 221 rfl rfl
theorem kw_1182 : (Jvm.Cond.fieldLink "LeasehallModel" (89 : Nat) "LeasehallModel" "zl" "[I") ∈ gws := kt5 222 rfl rfl
theorem kw_1183 : (Jvm.Cond.fieldLink "LeasehallModel" (92 : Nat) "LeasehallModel" "ze" "[I") ∈ gws := kt5 223 rfl rfl
theorem kw_1184 : (Jvm.Cond.fieldLink "LeasehallModel" (95 : Nat) "LeasehallModel" "zg" "[I") ∈ gws := kt5 224 rfl rfl
theorem kw_1185 : (Jvm.Cond.fieldLink "LeasehallModel" (98 : Nat) "LeasehallModel" "zn" "[I") ∈ gws := kt5 225 rfl rfl
theorem kw_1186 : (Jvm.Cond.fieldLink "LeasehallModel" (101 : Nat) "LeasehallModel" "za" "[I") ∈ gws := kt5 226 rfl rfl
theorem kw_1187 : (Jvm.Cond.fieldLink "LeasehallModel" (104 : Nat) "LeasehallModel" "answers" "[I") ∈ gws := kt5 227 rfl rfl
theorem kw_1188 : (Jvm.Cond.fieldLink "LeasehallModel" (107 : Nat) "LeasehallModel" "answered" "[I") ∈ gws := kt5 228 rfl rfl
theorem kw_1189 : (Jvm.Cond.fieldLink "LeasehallModel" (110 : Nat) "LeasehallModel" "wn" "[I") ∈ gws := kt5 229 rfl rfl
theorem kw_1190 : (Jvm.Cond.fieldLink "LeasehallModel" (113 : Nat) "LeasehallModel" "wk" "[I") ∈ gws := kt5 230 rfl rfl
theorem kw_1191 : (Jvm.Cond.fieldLink "LeasehallModel" (116 : Nat) "LeasehallModel" "watches" "[I") ∈ gws := kt5 231 rfl rfl
theorem kw_1192 : (Jvm.Cond.fieldLink "LeasehallModel" (120 : Nat) "LeasehallModel" "told" "[I") ∈ gws := kt5 232 rfl rfl
theorem kw_1193 : (Jvm.Cond.fieldLink "LeasehallModel" (123 : Nat) "LeasehallModel" "heard" "[I") ∈ gws := kt5 233 rfl rfl
theorem kw_1194 : (Jvm.Cond.fieldLink "LeasehallModel" (126 : Nat) "LeasehallModel" "tells" "[I") ∈ gws := kt5 234 rfl rfl
theorem kw_1195 : (Jvm.Cond.fieldLink "LeasehallModel" (129 : Nat) "LeasehallModel" "believes" "[I") ∈ gws := kt5 235 rfl rfl
theorem kw_1196 : (Jvm.Cond.fieldLink "LeasehallModel" (148 : Nat) "LeasehallModel" "sessions" "I") ∈ gws := kt5 236 rfl rfl
theorem kw_1197 : (Jvm.Cond.fieldLink "LeasehallModel" (132 : Nat) "LeasehallModel" "lt" "[I") ∈ gws := kt5 237 rfl rfl
theorem kw_1198 : (Jvm.Cond.fieldLink "LeasehallModel" (135 : Nat) "LeasehallModel" "lr" "[I") ∈ gws := kt5 238 rfl rfl
theorem kw_1199 : (Jvm.Cond.fieldLink "LeasehallModel" (138 : Nat) "LeasehallModel" "le" "[I") ∈ gws := kt5 239 rfl rfl
theorem kw_1200 : (Jvm.Cond.fieldLink "LeasehallModel" (284 : Nat) "LeasehallModel" "leases" "I") ∈ gws := kt6 0 rfl rfl
theorem kw_1201 : (Jvm.Cond.fieldLink "LeasehallModel" (155 : Nat) "LeasehallModel" "time" "I") ∈ gws := kt6 1 rfl rfl
theorem kw_1202 : (Jvm.Cond.fieldLink "LeasehallModel" (246 : Nat) "LeasehallModel" "losing" "I") ∈ gws := kt6 2 rfl rfl
theorem kw_1203 : (Jvm.Cond.fieldLink "LeasehallModel" (299 : Nat) "LeasehallModel" "fence" "I") ∈ gws := kt6 3 rfl rfl
theorem kw_1204 : (Jvm.Cond.fieldLink "LeasehallModel" (302 : Nat) "LeasehallModel" "stored" "I") ∈ gws := kt6 4 rfl rfl
theorem kw_1205 : (Jvm.Cond.fieldLink "LeasehallModel" (145 : Nat) "LeasehallModel" "thrown" "I") ∈ gws := kt6 5 rfl rfl
theorem kw_1206 : (Jvm.Cond.laysFinal "LeasehallModel" "LeasehallModel" "parent" "[I") ∈ gws := kt6 6 rfl rfl
theorem kw_1207 : (Jvm.Cond.soleField "LeasehallModel" "parent") ∈ gws := kt6 7 rfl rfl
theorem kw_1208 : (Jvm.Cond.laysFinal "LeasehallModel" "LeasehallModel" "name" "[I") ∈ gws := kt6 8 rfl rfl
theorem kw_1209 : (Jvm.Cond.soleField "LeasehallModel" "name") ∈ gws := kt6 9 rfl rfl
theorem kw_1210 : (Jvm.Cond.laysFinal "LeasehallModel" "LeasehallModel" "kind" "[I") ∈ gws := kt6 10 rfl rfl
theorem kw_1211 : (Jvm.Cond.soleField "LeasehallModel" "kind") ∈ gws := kt6 11 rfl rfl
theorem kw_1212 : (Jvm.Cond.laysFinal "LeasehallModel" "LeasehallModel" "whose" "[I") ∈ gws := kt6 12 rfl rfl
theorem kw_1213 : (Jvm.Cond.soleField "LeasehallModel" "whose") ∈ gws := kt6 13 rfl rfl
theorem kw_1214 : (Jvm.Cond.laysFinal "LeasehallModel" "LeasehallModel" "born" "[I") ∈ gws := kt6 14 rfl rfl
theorem kw_1215 : (Jvm.Cond.soleField "LeasehallModel" "born") ∈ gws := kt6 15 rfl rfl
theorem kw_1216 : (Jvm.Cond.laysFinal "LeasehallModel" "LeasehallModel" "counted" "[I") ∈ gws := kt6 16 rfl rfl
theorem kw_1217 : (Jvm.Cond.soleField "LeasehallModel" "counted") ∈ gws := kt6 17 rfl rfl
theorem kw_1218 : (Jvm.Cond.laysFinal "LeasehallModel" "LeasehallModel" "quota" "[I") ∈ gws := kt6 18 rfl rfl
theorem kw_1219 : (Jvm.Cond.soleField "LeasehallModel" "quota") ∈ gws := kt6 19 rfl rfl
theorem kw_1220 : (Jvm.Cond.lays "LeasehallModel" "LeasehallModel" "nodes" "I") ∈ gws := kt6 20 rfl rfl
theorem kw_1221 : (Jvm.Cond.soleField "LeasehallModel" "nodes") ∈ gws := kt6 21 rfl rfl
theorem kw_1222 : (Jvm.Cond.laysFinal "LeasehallModel" "LeasehallModel" "is" "[I") ∈ gws := kt6 22 rfl rfl
theorem kw_1223 : (Jvm.Cond.soleField "LeasehallModel" "is") ∈ gws := kt6 23 rfl rfl
theorem kw_1224 : (Jvm.Cond.laysFinal "LeasehallModel" "LeasehallModel" "val" "[I") ∈ gws := kt6 24 rfl rfl
theorem kw_1225 : (Jvm.Cond.soleField "LeasehallModel" "val") ∈ gws := kt6 25 rfl rfl
theorem kw_1226 : (Jvm.Cond.laysFinal "LeasehallModel" "LeasehallModel" "vv" "[I") ∈ gws := kt6 26 rfl rfl
theorem kw_1227 : (Jvm.Cond.soleField "LeasehallModel" "vv") ∈ gws := kt6 27 rfl rfl
theorem kw_1228 : (Jvm.Cond.laysFinal "LeasehallModel" "LeasehallModel" "cv" "[I") ∈ gws := kt6 28 rfl rfl
theorem kw_1229 : (Jvm.Cond.soleField "LeasehallModel" "cv") ∈ gws := kt6 29 rfl rfl
theorem kw_1230 : (Jvm.Cond.laysFinal "LeasehallModel" "LeasehallModel" "rv" "[I") ∈ gws := kt6 30 rfl rfl
theorem kw_1231 : (Jvm.Cond.soleField "LeasehallModel" "rv") ∈ gws := kt6 31 rfl rfl
theorem kw_1232 : (Jvm.Cond.laysFinal "LeasehallModel" "LeasehallModel" "rr" "[I") ∈ gws := kt6 32 rfl rfl
theorem kw_1233 : (Jvm.Cond.soleField "LeasehallModel" "rr") ∈ gws := kt6 33 rfl rfl
theorem kw_1234 : (Jvm.Cond.laysFinal "LeasehallModel" "LeasehallModel" "rw" "[I") ∈ gws := kt6 34 rfl rfl
theorem kw_1235 : (Jvm.Cond.soleField "LeasehallModel" "rw") ∈ gws := kt6 35 rfl rfl
theorem kw_1236 : (Jvm.Cond.laysFinal "LeasehallModel" "LeasehallModel" "keptCount" "[I") ∈ gws := kt6 36 rfl rfl
theorem kw_1237 : (Jvm.Cond.soleField "LeasehallModel" "keptCount") ∈ gws := kt6 37 rfl rfl
theorem kw_1238 : (Jvm.Cond.laysFinal "LeasehallModel" "LeasehallModel" "wasCount" "[I") ∈ gws := kt6 38 rfl rfl
theorem kw_1239 : (Jvm.Cond.soleField "LeasehallModel" "wasCount") ∈ gws := kt6 39 rfl rfl
theorem kw_1240 : (Jvm.Cond.lays "LeasehallModel" "LeasehallModel" "isKept" "Z") ∈ gws := kt6 40 rfl rfl
theorem kw_1241 : (Jvm.Cond.soleField "LeasehallModel" "isKept") ∈ gws := kt6 41 rfl rfl
theorem kw_1242 : (Jvm.Cond.lays "LeasehallModel" "LeasehallModel" "wasNodes" "I") ∈ gws := kt6 42 rfl rfl
theorem kw_1243 : (Jvm.Cond.soleField "LeasehallModel" "wasNodes") ∈ gws := kt6 43 rfl rfl
theorem kw_1244 : (Jvm.Cond.lays "LeasehallModel" "LeasehallModel" "wasSteps" "I") ∈ gws := kt6 44 rfl rfl
theorem kw_1245 : (Jvm.Cond.soleField "LeasehallModel" "wasSteps") ∈ gws := kt6 45 rfl rfl
theorem kw_1246 : (Jvm.Cond.laysFinal "LeasehallModel" "LeasehallModel" "sc" "[I") ∈ gws := kt6 46 rfl rfl
theorem kw_1247 : (Jvm.Cond.soleField "LeasehallModel" "sc") ∈ gws := kt6 47 rfl rfl
theorem kw_1248 : (Jvm.Cond.laysFinal "LeasehallModel" "LeasehallModel" "sk" "[I") ∈ gws := kt6 48 rfl rfl
theorem kw_1249 : (Jvm.Cond.soleField "LeasehallModel" "sk") ∈ gws := kt6 49 rfl rfl
theorem kw_1250 : (Jvm.Cond.laysFinal "LeasehallModel" "LeasehallModel" "sn" "[I") ∈ gws := kt6 50 rfl rfl
theorem kw_1251 : (Jvm.Cond.soleField "LeasehallModel" "sn") ∈ gws := kt6 51 rfl rfl
theorem kw_1252 : (Jvm.Cond.laysFinal "LeasehallModel" "LeasehallModel" "sv" "[I") ∈ gws := kt6 52 rfl rfl
theorem kw_1253 : (Jvm.Cond.soleField "LeasehallModel" "sv") ∈ gws := kt6 53 rfl rfl
theorem kw_1254 : (Jvm.Cond.laysFinal "LeasehallModel" "LeasehallModel" "sw" "[I") ∈ gws := kt6 54 rfl rfl
theorem kw_1255 : (Jvm.Cond.soleField "LeasehallModel" "sw") ∈ gws := kt6 55 rfl rfl
theorem kw_1256 : (Jvm.Cond.lays "LeasehallModel" "LeasehallModel" "steps" "I") ∈ gws := kt6 56 rfl rfl
theorem kw_1257 : (Jvm.Cond.soleField "LeasehallModel" "steps") ∈ gws := kt6 57 rfl rfl
theorem kw_1258 : (Jvm.Cond.lays "LeasehallModel" "LeasehallModel" "last" "I") ∈ gws := kt6 58 rfl rfl
theorem kw_1259 : (Jvm.Cond.soleField "LeasehallModel" "last") ∈ gws := kt6 59 rfl rfl
theorem kw_1260 : (Jvm.Cond.lays "LeasehallModel" "LeasehallModel" "now" "I") ∈ gws := kt6 60 rfl rfl
theorem kw_1261 : (Jvm.Cond.soleField "LeasehallModel" "now") ∈ gws := kt6 61 rfl rfl
theorem kw_1262 : (Jvm.Cond.lays "LeasehallModel" "LeasehallModel" "compacted" "I") ∈ gws := kt6 62 rfl rfl
theorem kw_1263 : (Jvm.Cond.soleField "LeasehallModel" "compacted") ∈ gws := kt6 63 rfl rfl
theorem kw_1264 : (Jvm.Cond.laysFinal "LeasehallModel" "LeasehallModel" "pos" "[I") ∈ gws := kt6 64 rfl rfl
theorem kw_1265 : (Jvm.Cond.soleField "LeasehallModel" "pos") ∈ gws := kt6 65 rfl rfl
theorem kw_1266 : (Jvm.Cond.laysFinal "LeasehallModel" "LeasehallModel" "got" "[I") ∈ gws := kt6 66 rfl rfl
theorem kw_1267 : (Jvm.Cond.soleField "LeasehallModel" "got") ∈ gws := kt6 67 rfl rfl
theorem kw_1268 : (Jvm.Cond.laysFinal "LeasehallModel" "LeasehallModel" "zp" "[I") ∈ gws := kt6 68 rfl rfl
theorem kw_1269 : (Jvm.Cond.soleField "LeasehallModel" "zp") ∈ gws := kt6 69 rfl rfl
theorem kw_1270 : (Jvm.Cond.laysFinal "LeasehallModel" "LeasehallModel" "zs" "[I") ∈ gws := kt6 70 rfl rfl
theorem kw_1271 : (Jvm.Cond.soleField "LeasehallModel" "zs") ∈ gws := kt6 71 rfl rfl
theorem kw_1272 : (Jvm.Cond.laysFinal "LeasehallModel" "LeasehallModel" "zt" "[I") ∈ gws := kt6 72 rfl rfl
theorem kw_1273 : (Jvm.Cond.soleField "LeasehallModel" "zt") ∈ gws := kt6 73 rfl rfl
theorem kw_1274 : (Jvm.Cond.laysFinal "LeasehallModel" "LeasehallModel" "zl" "[I") ∈ gws := kt6 74 rfl rfl
theorem kw_1275 : (Jvm.Cond.soleField "LeasehallModel" "zl") ∈ gws := kt6 75 rfl rfl
theorem kw_1276 : (Jvm.Cond.laysFinal "LeasehallModel" "LeasehallModel" "ze" "[I") ∈ gws := kt6 76 rfl rfl
theorem kw_1277 : (Jvm.Cond.soleField "LeasehallModel" "ze") ∈ gws := kt6 77 rfl rfl
theorem kw_1278 : (Jvm.Cond.laysFinal "LeasehallModel" "LeasehallModel" "zg" "[I") ∈ gws := kt6 78 rfl rfl
theorem kw_1279 : (Jvm.Cond.soleField "LeasehallModel" "zg") ∈ gws := kt6 79 rfl rfl
theorem kw_1280 : (Jvm.Cond.laysFinal "LeasehallModel" "LeasehallModel" "zn" "[I") ∈ gws := kt6 80 rfl rfl
theorem kw_1281 : (Jvm.Cond.soleField "LeasehallModel" "zn") ∈ gws := kt6 81 rfl rfl
theorem kw_1282 : (Jvm.Cond.laysFinal "LeasehallModel" "LeasehallModel" "za" "[I") ∈ gws := kt6 82 rfl rfl
theorem kw_1283 : (Jvm.Cond.soleField "LeasehallModel" "za") ∈ gws := kt6 83 rfl rfl
theorem kw_1284 : (Jvm.Cond.laysFinal "LeasehallModel" "LeasehallModel" "answers" "[I") ∈ gws := kt6 84 rfl rfl
theorem kw_1285 : (Jvm.Cond.soleField "LeasehallModel" "answers") ∈ gws := kt6 85 rfl rfl
theorem kw_1286 : (Jvm.Cond.laysFinal "LeasehallModel" "LeasehallModel" "answered" "[I") ∈ gws := kt6 86 rfl rfl
theorem kw_1287 : (Jvm.Cond.soleField "LeasehallModel" "answered") ∈ gws := kt6 87 rfl rfl
theorem kw_1288 : (Jvm.Cond.laysFinal "LeasehallModel" "LeasehallModel" "wn" "[I") ∈ gws := kt6 88 rfl rfl
theorem kw_1289 : (Jvm.Cond.soleField "LeasehallModel" "wn") ∈ gws := kt6 89 rfl rfl
theorem kw_1290 : (Jvm.Cond.laysFinal "LeasehallModel" "LeasehallModel" "wk" "[I") ∈ gws := kt6 90 rfl rfl
theorem kw_1291 : (Jvm.Cond.soleField "LeasehallModel" "wk") ∈ gws := kt6 91 rfl rfl
theorem kw_1292 : (Jvm.Cond.laysFinal "LeasehallModel" "LeasehallModel" "watches" "[I") ∈ gws := kt6 92 rfl rfl
theorem kw_1293 : (Jvm.Cond.soleField "LeasehallModel" "watches") ∈ gws := kt6 93 rfl rfl
theorem kw_1294 : (Jvm.Cond.laysFinal "LeasehallModel" "LeasehallModel" "told" "[I") ∈ gws := kt6 94 rfl rfl
theorem kw_1295 : (Jvm.Cond.soleField "LeasehallModel" "told") ∈ gws := kt6 95 rfl rfl
theorem kw_1296 : (Jvm.Cond.laysFinal "LeasehallModel" "LeasehallModel" "heard" "[I") ∈ gws := kt6 96 rfl rfl
theorem kw_1297 : (Jvm.Cond.soleField "LeasehallModel" "heard") ∈ gws := kt6 97 rfl rfl
theorem kw_1298 : (Jvm.Cond.laysFinal "LeasehallModel" "LeasehallModel" "tells" "[I") ∈ gws := kt6 98 rfl rfl
theorem kw_1299 : (Jvm.Cond.soleField "LeasehallModel" "tells") ∈ gws := kt6 99 rfl rfl
theorem kw_1300 : (Jvm.Cond.laysFinal "LeasehallModel" "LeasehallModel" "believes" "[I") ∈ gws := kt6 100 rfl rfl
theorem kw_1301 : (Jvm.Cond.soleField "LeasehallModel" "believes") ∈ gws := kt6 101 rfl rfl
theorem kw_1302 : (Jvm.Cond.lays "LeasehallModel" "LeasehallModel" "sessions" "I") ∈ gws := kt6 102 rfl rfl
theorem kw_1303 : (Jvm.Cond.soleField "LeasehallModel" "sessions") ∈ gws := kt6 103 rfl rfl
theorem kw_1304 : (Jvm.Cond.laysFinal "LeasehallModel" "LeasehallModel" "lt" "[I") ∈ gws := kt6 104 rfl rfl
theorem kw_1305 : (Jvm.Cond.soleField "LeasehallModel" "lt") ∈ gws := kt6 105 rfl rfl
theorem kw_1306 : (Jvm.Cond.laysFinal "LeasehallModel" "LeasehallModel" "lr" "[I") ∈ gws := kt6 106 rfl rfl
theorem kw_1307 : (Jvm.Cond.soleField "LeasehallModel" "lr") ∈ gws := kt6 107 rfl rfl
theorem kw_1308 : (Jvm.Cond.laysFinal "LeasehallModel" "LeasehallModel" "le" "[I") ∈ gws := kt6 108 rfl rfl
theorem kw_1309 : (Jvm.Cond.soleField "LeasehallModel" "le") ∈ gws := kt6 109 rfl rfl
theorem kw_1310 : (Jvm.Cond.lays "LeasehallModel" "LeasehallModel" "leases" "I") ∈ gws := kt6 110 rfl rfl
theorem kw_1311 : (Jvm.Cond.soleField "LeasehallModel" "leases") ∈ gws := kt6 111 rfl rfl
theorem kw_1312 : (Jvm.Cond.lays "LeasehallModel" "LeasehallModel" "time" "I") ∈ gws := kt6 112 rfl rfl
theorem kw_1313 : (Jvm.Cond.soleField "LeasehallModel" "time") ∈ gws := kt6 113 rfl rfl
theorem kw_1314 : (Jvm.Cond.lays "LeasehallModel" "LeasehallModel" "losing" "I") ∈ gws := kt6 114 rfl rfl
theorem kw_1315 : (Jvm.Cond.soleField "LeasehallModel" "losing") ∈ gws := kt6 115 rfl rfl
theorem kw_1316 : (Jvm.Cond.lays "LeasehallModel" "LeasehallModel" "fence" "I") ∈ gws := kt6 116 rfl rfl
theorem kw_1317 : (Jvm.Cond.soleField "LeasehallModel" "fence") ∈ gws := kt6 117 rfl rfl
theorem kw_1318 : (Jvm.Cond.lays "LeasehallModel" "LeasehallModel" "stored" "I") ∈ gws := kt6 118 rfl rfl
theorem kw_1319 : (Jvm.Cond.soleField "LeasehallModel" "stored") ∈ gws := kt6 119 rfl rfl
theorem kw_1320 : (Jvm.Cond.lays "LeasehallModel" "LeasehallModel" "thrown" "I") ∈ gws := kt6 120 rfl rfl
theorem kw_1321 : (Jvm.Cond.soleField "LeasehallModel" "thrown") ∈ gws := kt6 121 rfl rfl
theorem kw_1323 : (Jvm.Cond.methodLink "LeasehallLaw" (132 : Nat) ({ cls := "LeasehallModel", name := "thrown", desc := "()I" } : Jvm.MethodName)) ∈ gws := kt6 123 rfl rfl
theorem kw_1324 : (Jvm.Cond.instanceMethod ({ cls := "LeasehallModel", name := "thrown", desc := "()I" } : Jvm.MethodName)) ∈ gws := kt6 124 rfl rfl
theorem kw_1325 : (Jvm.Cond.selects "LeasehallModel" ({ cls := "LeasehallModel", name := "thrown", desc := "()I" } : Jvm.MethodName) ({ cls := "LeasehallModel", name := "thrown", desc := "()I" } : Jvm.MethodName)) ∈ gws := kt6 125 rfl rfl
theorem kw_1326 : (Jvm.Cond.code ({ cls := "LeasehallModel", name := "thrown", desc := "()I" } : Jvm.MethodName) prog_11_method_2_code (1 : Nat) (Option.some Jvm.ClassFile.FieldType.int)) ∈ gws := kt6 126 rfl rfl
theorem kw_1327 : (Jvm.Cond.methodLink "LeasehallLaw" (131 : Nat) ({ cls := "LeasehallModel", name := "open", desc := "(III)I" } : Jvm.MethodName)) ∈ gws := kt6 127 rfl rfl
theorem kw_1328 : (Jvm.Cond.instanceMethod ({ cls := "LeasehallModel", name := "open", desc := "(III)I" } : Jvm.MethodName)) ∈ gws := kt6 128 rfl rfl
theorem kw_1329 : (Jvm.Cond.selects "LeasehallModel" ({ cls := "LeasehallModel", name := "open", desc := "(III)I" } : Jvm.MethodName) ({ cls := "LeasehallModel", name := "open", desc := "(III)I" } : Jvm.MethodName)) ∈ gws := kt6 129 rfl rfl
theorem kw_1330 : (Jvm.Cond.code ({ cls := "LeasehallModel", name := "open", desc := "(III)I" } : Jvm.MethodName) prog_11_method_36_code (4 : Nat) (Option.some Jvm.ClassFile.FieldType.int)) ∈ gws := kt6 130 rfl rfl
theorem kw_1331 : (Jvm.Cond.methodLink "LeasehallModel" (151 : Nat) ({ cls := "LeasehallModel", name := "in", desc := "(III)Z" } : Jvm.MethodName)) ∈ gws := kt6 131 rfl rfl
theorem kw_1333 : (Jvm.Cond.instanceMethod ({ cls := "LeasehallModel", name := "in", desc := "(III)Z" } : Jvm.MethodName)) ∈ gws := kt6 133 rfl rfl
theorem kw_1334 : (Jvm.Cond.code ({ cls := "LeasehallModel", name := "in", desc := "(III)Z" } : Jvm.MethodName) prog_11_method_4_code (4 : Nat) (Option.some Jvm.ClassFile.FieldType.boolean)) ∈ gws := kt6 134 rfl rfl
theorem kw_1335 : (Jvm.Cond.methodLink "LeasehallModel" (272 : Nat) ({ cls := "LeasehallModel", name := "holds", desc := "(I)Z" } : Jvm.MethodName)) ∈ gws := kt6 135 rfl rfl
theorem kw_1337 : (Jvm.Cond.instanceMethod ({ cls := "LeasehallModel", name := "holds", desc := "(I)Z" } : Jvm.MethodName)) ∈ gws := kt6 137 rfl rfl
theorem kw_1338 : (Jvm.Cond.code ({ cls := "LeasehallModel", name := "holds", desc := "(I)Z" } : Jvm.MethodName) prog_11_method_3_code (2 : Nat) (Option.some Jvm.ClassFile.FieldType.boolean)) ∈ gws := kt6 138 rfl rfl
theorem kw_1339 : (Jvm.Cond.methodLink "LeasehallLaw" (138 : Nat) ({ cls := "LeasehallModel", name := "close", desc := "(I)I" } : Jvm.MethodName)) ∈ gws := kt6 139 rfl rfl
theorem kw_1340 : (Jvm.Cond.instanceMethod ({ cls := "LeasehallModel", name := "close", desc := "(I)I" } : Jvm.MethodName)) ∈ gws := kt6 140 rfl rfl
theorem kw_1341 : (Jvm.Cond.selects "LeasehallModel" ({ cls := "LeasehallModel", name := "close", desc := "(I)I" } : Jvm.MethodName) ({ cls := "LeasehallModel", name := "close", desc := "(I)I" } : Jvm.MethodName)) ∈ gws := kt6 141 rfl rfl
theorem kw_1342 : (Jvm.Cond.code ({ cls := "LeasehallModel", name := "close", desc := "(I)I" } : Jvm.MethodName) prog_11_method_39_code (3 : Nat) (Option.some Jvm.ClassFile.FieldType.int)) ∈ gws := kt6 142 rfl rfl
theorem kw_1343 : (Jvm.Cond.methodLink "LeasehallModel" (278 : Nat) ({ cls := "LeasehallModel", name := "isSession", desc := "(I)Z" } : Jvm.MethodName)) ∈ gws := kt6 143 rfl rfl
theorem kw_1345 : (Jvm.Cond.instanceMethod ({ cls := "LeasehallModel", name := "isSession", desc := "(I)Z" } : Jvm.MethodName)) ∈ gws := kt6 145 rfl rfl
theorem kw_1346 : (Jvm.Cond.code ({ cls := "LeasehallModel", name := "isSession", desc := "(I)Z" } : Jvm.MethodName) prog_11_method_5_code (2 : Nat) (Option.some Jvm.ClassFile.FieldType.boolean)) ∈ gws := kt6 146 rfl rfl
theorem kw_1347 : (Jvm.Cond.methodLink "LeasehallModel" (269 : Nat) ({ cls := "LeasehallModel", name := "ended", desc := "(I)Z" } : Jvm.MethodName)) ∈ gws := kt6 147 rfl rfl
theorem kw_1349 : (Jvm.Cond.instanceMethod ({ cls := "LeasehallModel", name := "ended", desc := "(I)Z" } : Jvm.MethodName)) ∈ gws := kt6 149 rfl rfl
theorem kw_1350 : (Jvm.Cond.code ({ cls := "LeasehallModel", name := "ended", desc := "(I)Z" } : Jvm.MethodName) prog_11_method_7_code (3 : Nat) (Option.some Jvm.ClassFile.FieldType.boolean)) ∈ gws := kt6 150 rfl rfl
theorem kw_1351 : (Jvm.Cond.methodLink "LeasehallModel" (281 : Nat) ({ cls := "LeasehallModel", name := "stop", desc := "(I)I" } : Jvm.MethodName)) ∈ gws := kt6 151 rfl rfl
theorem kw_1353 : (Jvm.Cond.instanceMethod ({ cls := "LeasehallModel", name := "stop", desc := "(I)I" } : Jvm.MethodName)) ∈ gws := kt6 153 rfl rfl
theorem kw_1354 : (Jvm.Cond.code ({ cls := "LeasehallModel", name := "stop", desc := "(I)I" } : Jvm.MethodName) prog_11_method_38_code (2 : Nat) (Option.some Jvm.ClassFile.FieldType.int)) ∈ gws := kt6 154 rfl rfl
theorem kw_1355 : (Jvm.Cond.methodLink "LeasehallModel" (275 : Nat) ({ cls := "LeasehallModel", name := "ends", desc := "(II)I" } : Jvm.MethodName)) ∈ gws := kt6 155 rfl rfl
theorem kw_1357 : (Jvm.Cond.instanceMethod ({ cls := "LeasehallModel", name := "ends", desc := "(II)I" } : Jvm.MethodName)) ∈ gws := kt6 157 rfl rfl
theorem kw_1358 : (Jvm.Cond.code ({ cls := "LeasehallModel", name := "ends", desc := "(II)I" } : Jvm.MethodName) prog_11_method_37_code (5 : Nat) (Option.some Jvm.ClassFile.FieldType.int)) ∈ gws := kt6 158 rfl rfl
theorem kw_1359 : (Jvm.Cond.methodLink "LeasehallModel" (259 : Nat) ({ cls := "LeasehallModel", name := "begin", desc := "()V" } : Jvm.MethodName)) ∈ gws := kt6 159 rfl rfl
theorem kw_1361 : (Jvm.Cond.instanceMethod ({ cls := "LeasehallModel", name := "begin", desc := "()V" } : Jvm.MethodName)) ∈ gws := kt6 161 rfl rfl
theorem kw_1362 : (Jvm.Cond.code ({ cls := "LeasehallModel", name := "begin", desc := "()V" } : Jvm.MethodName) prog_11_method_13_code (2 : Nat) (Option.none : Option Jvm.ClassFile.FieldType)) ∈ gws := kt6 162 rfl rfl
theorem kw_1363 : (Jvm.Cond.methodLink "LeasehallModel" (172 : Nat) ({ cls := "LeasehallModel", name := "copy", desc := "(II)V" } : Jvm.MethodName)) ∈ gws := kt6 163 rfl rfl
theorem kw_1365 : (Jvm.Cond.instanceMethod ({ cls := "LeasehallModel", name := "copy", desc := "(II)V" } : Jvm.MethodName)) ∈ gws := kt6 165 rfl rfl
theorem kw_1366 : (Jvm.Cond.code ({ cls := "LeasehallModel", name := "copy", desc := "(II)V" } : Jvm.MethodName) prog_11_method_9_code (6 : Nat) (Option.none : Option Jvm.ClassFile.FieldType)) ∈ gws := kt6 166 rfl rfl
theorem kw_1367 : (Jvm.Cond.methodLink "LeasehallModel" (224 : Nat) ({ cls := "LeasehallModel", name := "goes", desc := "(I)I" } : Jvm.MethodName)) ∈ gws := kt6 167 rfl rfl
theorem kw_1369 : (Jvm.Cond.instanceMethod ({ cls := "LeasehallModel", name := "goes", desc := "(I)I" } : Jvm.MethodName)) ∈ gws := kt6 169 rfl rfl
theorem kw_1370 : (Jvm.Cond.code ({ cls := "LeasehallModel", name := "goes", desc := "(I)I" } : Jvm.MethodName) prog_11_method_28_code (5 : Nat) (Option.some Jvm.ClassFile.FieldType.int)) ∈ gws := kt6 170 rfl rfl
theorem kw_1371 : (Jvm.Cond.methodLink "LeasehallModel" (218 : Nat) ({ cls := "LeasehallModel", name := "step", desc := "(IIII)V" } : Jvm.MethodName)) ∈ gws := kt6 171 rfl rfl
theorem kw_1373 : (Jvm.Cond.instanceMethod ({ cls := "LeasehallModel", name := "step", desc := "(IIII)V" } : Jvm.MethodName)) ∈ gws := kt6 173 rfl rfl
theorem kw_1374 : (Jvm.Cond.code ({ cls := "LeasehallModel", name := "step", desc := "(IIII)V" } : Jvm.MethodName) prog_11_method_12_code (5 : Nat) (Option.none : Option Jvm.ClassFile.FieldType)) ∈ gws := kt6 174 rfl rfl
theorem kw_1375 : (Jvm.Cond.methodLink "LeasehallModel" (164 : Nat) ({ cls := "LeasehallModel", name := "log", desc := "(IIII)V" } : Jvm.MethodName)) ∈ gws := kt6 175 rfl rfl
theorem kw_1377 : (Jvm.Cond.instanceMethod ({ cls := "LeasehallModel", name := "log", desc := "(IIII)V" } : Jvm.MethodName)) ∈ gws := kt6 177 rfl rfl
theorem kw_1378 : (Jvm.Cond.code ({ cls := "LeasehallModel", name := "log", desc := "(IIII)V" } : Jvm.MethodName) prog_11_method_11_code (5 : Nat) (Option.none : Option Jvm.ClassFile.FieldType)) ∈ gws := kt6 178 rfl rfl
theorem kw_1379 : (Jvm.Cond.methodLink "LeasehallModel" (168 : Nat) ({ cls := "LeasehallModel", name := "apply", desc := "(II)V" } : Jvm.MethodName)) ∈ gws := kt6 179 rfl rfl
theorem kw_1381 : (Jvm.Cond.instanceMethod ({ cls := "LeasehallModel", name := "apply", desc := "(II)V" } : Jvm.MethodName)) ∈ gws := kt6 181 rfl rfl
theorem kw_1382 : (Jvm.Cond.code ({ cls := "LeasehallModel", name := "apply", desc := "(II)V" } : Jvm.MethodName) prog_11_method_10_code (5 : Nat) (Option.none : Option Jvm.ClassFile.FieldType)) ∈ gws := kt6 182 rfl rfl
theorem kw_1383 : (Jvm.Cond.methodLink "LeasehallModel" (221 : Nat) ({ cls := "LeasehallModel", name := "children", desc := "(II)I" } : Jvm.MethodName)) ∈ gws := kt6 183 rfl rfl
theorem kw_1385 : (Jvm.Cond.instanceMethod ({ cls := "LeasehallModel", name := "children", desc := "(II)I" } : Jvm.MethodName)) ∈ gws := kt6 185 rfl rfl
theorem kw_1386 : (Jvm.Cond.code ({ cls := "LeasehallModel", name := "children", desc := "(II)I" } : Jvm.MethodName) prog_11_method_21_code (5 : Nat) (Option.some Jvm.ClassFile.FieldType.int)) ∈ gws := kt6 186 rfl rfl
theorem kw_1387 : (Jvm.Cond.methodLink "LeasehallModel" (252 : Nat) ({ cls := "LeasehallModel", name := "commit", desc := "()V" } : Jvm.MethodName)) ∈ gws := kt6 187 rfl rfl
theorem kw_1389 : (Jvm.Cond.instanceMethod ({ cls := "LeasehallModel", name := "commit", desc := "()V" } : Jvm.MethodName)) ∈ gws := kt6 189 rfl rfl
theorem kw_1390 : (Jvm.Cond.code ({ cls := "LeasehallModel", name := "commit", desc := "()V" } : Jvm.MethodName) prog_11_method_20_code (1 : Nat) (Option.none : Option Jvm.ClassFile.FieldType)) ∈ gws := kt6 190 rfl rfl
theorem kw_1391 : (Jvm.Cond.methodLink "LeasehallModel" (197 : Nat) ({ cls := "LeasehallModel", name := "follows", desc := "(II)V" } : Jvm.MethodName)) ∈ gws := kt6 191 rfl rfl
theorem kw_1393 : (Jvm.Cond.instanceMethod ({ cls := "LeasehallModel", name := "follows", desc := "(II)V" } : Jvm.MethodName)) ∈ gws := kt6 193 rfl rfl
theorem kw_1394 : (Jvm.Cond.code ({ cls := "LeasehallModel", name := "follows", desc := "(II)V" } : Jvm.MethodName) prog_11_method_19_code (3 : Nat) (Option.none : Option Jvm.ClassFile.FieldType)) ∈ gws := kt6 194 rfl rfl
theorem kw_1395 : (Jvm.Cond.methodLink "LeasehallModel" (194 : Nat) ({ cls := "LeasehallModel", name := "notice", desc := "(II)V" } : Jvm.MethodName)) ∈ gws := kt6 195 rfl rfl
theorem kw_1397 : (Jvm.Cond.instanceMethod ({ cls := "LeasehallModel", name := "notice", desc := "(II)V" } : Jvm.MethodName)) ∈ gws := kt6 197 rfl rfl
theorem kw_1398 : (Jvm.Cond.code ({ cls := "LeasehallModel", name := "notice", desc := "(II)V" } : Jvm.MethodName) prog_11_method_18_code (4 : Nat) (Option.none : Option Jvm.ClassFile.FieldType)) ∈ gws := kt6 198 rfl rfl
theorem kw_1399 : (Jvm.Cond.methodLink "LeasehallModel" (191 : Nat) ({ cls := "LeasehallModel", name := "watched", desc := "(II)V" } : Jvm.MethodName)) ∈ gws := kt6 199 rfl rfl
theorem kw_1401 : (Jvm.Cond.instanceMethod ({ cls := "LeasehallModel", name := "watched", desc := "(II)V" } : Jvm.MethodName)) ∈ gws := kt6 201 rfl rfl
theorem kw_1402 : (Jvm.Cond.code ({ cls := "LeasehallModel", name := "watched", desc := "(II)V" } : Jvm.MethodName) prog_11_method_17_code (10 : Nat) (Option.none : Option Jvm.ClassFile.FieldType)) ∈ gws := kt6 202 rfl rfl
theorem kw_1403 : (Jvm.Cond.methodLink "LeasehallModel" (184 : Nat) ({ cls := "LeasehallModel", name := "isBelow", desc := "(II)Z" } : Jvm.MethodName)) ∈ gws := kt6 203 rfl rfl
theorem kw_1405 : (Jvm.Cond.instanceMethod ({ cls := "LeasehallModel", name := "isBelow", desc := "(II)Z" } : Jvm.MethodName)) ∈ gws := kt6 205 rfl rfl
theorem kw_1406 : (Jvm.Cond.code ({ cls := "LeasehallModel", name := "isBelow", desc := "(II)Z" } : Jvm.MethodName) prog_11_method_15_code (4 : Nat) (Option.some Jvm.ClassFile.FieldType.boolean)) ∈ gws := kt6 206 rfl rfl
theorem kw_1407 : (Jvm.Cond.methodLink "LeasehallModel" (188 : Nat) ({ cls := "LeasehallModel", name := "tell", desc := "(II)V" } : Jvm.MethodName)) ∈ gws := kt6 207 rfl rfl
theorem kw_1409 : (Jvm.Cond.instanceMethod ({ cls := "LeasehallModel", name := "tell", desc := "(II)V" } : Jvm.MethodName)) ∈ gws := kt6 209 rfl rfl
theorem kw_1410 : (Jvm.Cond.code ({ cls := "LeasehallModel", name := "tell", desc := "(II)V" } : Jvm.MethodName) prog_11_method_16_code (3 : Nat) (Option.none : Option Jvm.ClassFile.FieldType)) ∈ gws := kt6 210 rfl rfl
theorem kw_1411 : (Jvm.Cond.methodLink "LeasehallLaw" (141 : Nat) ({ cls := "LeasehallModel", name := "ping", desc := "(I)I" } : Jvm.MethodName)) ∈ gws := kt6 211 rfl rfl
theorem kw_1412 : (Jvm.Cond.instanceMethod ({ cls := "LeasehallModel", name := "ping", desc := "(I)I" } : Jvm.MethodName)) ∈ gws := kt6 212 rfl rfl
theorem kw_1413 : (Jvm.Cond.selects "LeasehallModel" ({ cls := "LeasehallModel", name := "ping", desc := "(I)I" } : Jvm.MethodName) ({ cls := "LeasehallModel", name := "ping", desc := "(I)I" } : Jvm.MethodName)) ∈ gws := kt6 213 rfl rfl
theorem kw_1414 : (Jvm.Cond.code ({ cls := "LeasehallModel", name := "ping", desc := "(I)I" } : Jvm.MethodName) prog_11_method_40_code (2 : Nat) (Option.some Jvm.ClassFile.FieldType.int)) ∈ gws := kt6 214 rfl rfl
theorem kw_1415 : (Jvm.Cond.methodLink "LeasehallModel" (255 : Nat) ({ cls := "LeasehallModel", name := "does", desc := "(I)V" } : Jvm.MethodName)) ∈ gws := kt6 215 rfl rfl
theorem kw_1417 : (Jvm.Cond.instanceMethod ({ cls := "LeasehallModel", name := "does", desc := "(I)V" } : Jvm.MethodName)) ∈ gws := kt6 217 rfl rfl
theorem kw_1418 : (Jvm.Cond.code ({ cls := "LeasehallModel", name := "does", desc := "(I)V" } : Jvm.MethodName) prog_11_method_8_code (2 : Nat) (Option.none : Option Jvm.ClassFile.FieldType)) ∈ gws := kt6 218 rfl rfl
theorem kw_1419 : (Jvm.Cond.methodLink "LeasehallLaw" (145 : Nat) ({ cls := "LeasehallModel", name := "move", desc := "(II)Z" } : Jvm.MethodName)) ∈ gws := kt6 219 rfl rfl
theorem kw_1420 : (Jvm.Cond.instanceMethod ({ cls := "LeasehallModel", name := "move", desc := "(II)Z" } : Jvm.MethodName)) ∈ gws := kt6 220 rfl rfl
theorem kw_1421 : (Jvm.Cond.selects "LeasehallModel" ({ cls := "LeasehallModel", name := "move", desc := "(II)Z" } : Jvm.MethodName) ({ cls := "LeasehallModel", name := "move", desc := "(II)Z" } : Jvm.MethodName)) ∈ gws := kt6 221 rfl rfl
theorem kw_1422 : (Jvm.Cond.code ({ cls := "LeasehallModel", name := "move", desc := "(II)Z" } : Jvm.MethodName) prog_11_method_41_code (5 : Nat) (Option.some Jvm.ClassFile.FieldType.boolean)) ∈ gws := kt6 222 rfl rfl
theorem kw_1423 : (Jvm.Cond.methodLink "LeasehallLaw" (148 : Nat) ({ cls := "LeasehallModel", name := "sync", desc := "(I)I" } : Jvm.MethodName)) ∈ gws := kt6 223 rfl rfl
theorem kw_1424 : (Jvm.Cond.instanceMethod ({ cls := "LeasehallModel", name := "sync", desc := "(I)I" } : Jvm.MethodName)) ∈ gws := kt6 224 rfl rfl
theorem kw_1425 : (Jvm.Cond.selects "LeasehallModel" ({ cls := "LeasehallModel", name := "sync", desc := "(I)I" } : Jvm.MethodName) ({ cls := "LeasehallModel", name := "sync", desc := "(I)I" } : Jvm.MethodName)) ∈ gws := kt6 225 rfl rfl
theorem kw_1426 : (Jvm.Cond.code ({ cls := "LeasehallModel", name := "sync", desc := "(I)I" } : Jvm.MethodName) prog_11_method_42_code (3 : Nat) (Option.some Jvm.ClassFile.FieldType.int)) ∈ gws := kt6 226 rfl rfl
theorem kw_1427 : (Jvm.Cond.methodLink "LeasehallLaw" (151 : Nat) ({ cls := "LeasehallModel", name := "follow", desc := "(II)I" } : Jvm.MethodName)) ∈ gws := kt6 227 rfl rfl
theorem kw_1428 : (Jvm.Cond.instanceMethod ({ cls := "LeasehallModel", name := "follow", desc := "(II)I" } : Jvm.MethodName)) ∈ gws := kt6 228 rfl rfl
theorem kw_1429 : (Jvm.Cond.selects "LeasehallModel" ({ cls := "LeasehallModel", name := "follow", desc := "(II)I" } : Jvm.MethodName) ({ cls := "LeasehallModel", name := "follow", desc := "(II)I" } : Jvm.MethodName)) ∈ gws := kt6 229 rfl rfl
theorem kw_1430 : (Jvm.Cond.code ({ cls := "LeasehallModel", name := "follow", desc := "(II)I" } : Jvm.MethodName) prog_11_method_43_code (5 : Nat) (Option.some Jvm.ClassFile.FieldType.int)) ∈ gws := kt6 230 rfl rfl
theorem kw_1431 : (Jvm.Cond.methodLink "LeasehallLaw" (154 : Nat) ({ cls := "LeasehallModel", name := "pass", desc := "(I)I" } : Jvm.MethodName)) ∈ gws := kt6 231 rfl rfl
theorem kw_1432 : (Jvm.Cond.instanceMethod ({ cls := "LeasehallModel", name := "pass", desc := "(I)I" } : Jvm.MethodName)) ∈ gws := kt6 232 rfl rfl
theorem kw_1433 : (Jvm.Cond.selects "LeasehallModel" ({ cls := "LeasehallModel", name := "pass", desc := "(I)I" } : Jvm.MethodName) ({ cls := "LeasehallModel", name := "pass", desc := "(I)I" } : Jvm.MethodName)) ∈ gws := kt6 233 rfl rfl
theorem kw_1434 : (Jvm.Cond.code ({ cls := "LeasehallModel", name := "pass", desc := "(I)I" } : Jvm.MethodName) prog_11_method_44_code (5 : Nat) (Option.some Jvm.ClassFile.FieldType.int)) ∈ gws := kt6 234 rfl rfl
theorem kw_1435 : (Jvm.Cond.methodLink "LeasehallLaw" (157 : Nat) ({ cls := "LeasehallModel", name := "lease", desc := "(I)I" } : Jvm.MethodName)) ∈ gws := kt6 235 rfl rfl
theorem kw_1436 : (Jvm.Cond.instanceMethod ({ cls := "LeasehallModel", name := "lease", desc := "(I)I" } : Jvm.MethodName)) ∈ gws := kt6 236 rfl rfl
theorem kw_1437 : (Jvm.Cond.selects "LeasehallModel" ({ cls := "LeasehallModel", name := "lease", desc := "(I)I" } : Jvm.MethodName) ({ cls := "LeasehallModel", name := "lease", desc := "(I)I" } : Jvm.MethodName)) ∈ gws := kt6 237 rfl rfl
theorem kw_1438 : (Jvm.Cond.code ({ cls := "LeasehallModel", name := "lease", desc := "(I)I" } : Jvm.MethodName) prog_11_method_45_code (2 : Nat) (Option.some Jvm.ClassFile.FieldType.int)) ∈ gws := kt6 238 rfl rfl
theorem kw_1439 : (Jvm.Cond.methodLink "LeasehallLaw" (160 : Nat) ({ cls := "LeasehallModel", name := "renew", desc := "(I)I" } : Jvm.MethodName)) ∈ gws := kt6 239 rfl rfl
theorem kw_1440 : (Jvm.Cond.instanceMethod ({ cls := "LeasehallModel", name := "renew", desc := "(I)I" } : Jvm.MethodName)) ∈ gws := kt7 0 rfl rfl
theorem kw_1441 : (Jvm.Cond.selects "LeasehallModel" ({ cls := "LeasehallModel", name := "renew", desc := "(I)I" } : Jvm.MethodName) ({ cls := "LeasehallModel", name := "renew", desc := "(I)I" } : Jvm.MethodName)) ∈ gws := kt7 1 rfl rfl
theorem kw_1442 : (Jvm.Cond.code ({ cls := "LeasehallModel", name := "renew", desc := "(I)I" } : Jvm.MethodName) prog_11_method_46_code (2 : Nat) (Option.some Jvm.ClassFile.FieldType.int)) ∈ gws := kt7 2 rfl rfl
theorem kw_1443 : (Jvm.Cond.methodLink "LeasehallLaw" (164 : Nat) ({ cls := "LeasehallModel", name := "make", desc := "(IIIZIII)I" } : Jvm.MethodName)) ∈ gws := kt7 3 rfl rfl
theorem kw_1444 : (Jvm.Cond.instanceMethod ({ cls := "LeasehallModel", name := "make", desc := "(IIIZIII)I" } : Jvm.MethodName)) ∈ gws := kt7 4 rfl rfl
theorem kw_1445 : (Jvm.Cond.selects "LeasehallModel" ({ cls := "LeasehallModel", name := "make", desc := "(IIIZIII)I" } : Jvm.MethodName) ({ cls := "LeasehallModel", name := "make", desc := "(IIIZIII)I" } : Jvm.MethodName)) ∈ gws := kt7 5 rfl rfl
theorem kw_1446 : (Jvm.Cond.code ({ cls := "LeasehallModel", name := "make", desc := "(IIIZIII)I" } : Jvm.MethodName) prog_11_method_47_code (10 : Nat) (Option.some Jvm.ClassFile.FieldType.int)) ∈ gws := kt7 6 rfl rfl
theorem kw_1447 : (Jvm.Cond.methodLink "LeasehallModel" (287 : Nat) ({ cls := "LeasehallModel", name := "barred", desc := "(I)Z" } : Jvm.MethodName)) ∈ gws := kt7 7 rfl rfl
theorem kw_1449 : (Jvm.Cond.instanceMethod ({ cls := "LeasehallModel", name := "barred", desc := "(I)Z" } : Jvm.MethodName)) ∈ gws := kt7 9 rfl rfl
theorem kw_1450 : (Jvm.Cond.code ({ cls := "LeasehallModel", name := "barred", desc := "(I)Z" } : Jvm.MethodName) prog_11_method_35_code (2 : Nat) (Option.some Jvm.ClassFile.FieldType.boolean)) ∈ gws := kt7 10 rfl rfl
theorem kw_1451 : (Jvm.Cond.methodLink "LeasehallModel" (290 : Nat) ({ cls := "LeasehallModel", name := "act", desc := "(IIIIIIII)I" } : Jvm.MethodName)) ∈ gws := kt7 11 rfl rfl
theorem kw_1453 : (Jvm.Cond.instanceMethod ({ cls := "LeasehallModel", name := "act", desc := "(IIIIIIII)I" } : Jvm.MethodName)) ∈ gws := kt7 13 rfl rfl
theorem kw_1454 : (Jvm.Cond.code ({ cls := "LeasehallModel", name := "act", desc := "(IIIIIIII)I" } : Jvm.MethodName) prog_11_method_34_code (10 : Nat) (Option.some Jvm.ClassFile.FieldType.int)) ∈ gws := kt7 14 rfl rfl
theorem kw_1455 : (Jvm.Cond.methodLink "LeasehallModel" (262 : Nat) ({ cls := "LeasehallModel", name := "acts", desc := "(IIIIIIII)I" } : Jvm.MethodName)) ∈ gws := kt7 15 rfl rfl
theorem kw_1457 : (Jvm.Cond.instanceMethod ({ cls := "LeasehallModel", name := "acts", desc := "(IIIIIIII)I" } : Jvm.MethodName)) ∈ gws := kt7 17 rfl rfl
theorem kw_1458 : (Jvm.Cond.code ({ cls := "LeasehallModel", name := "acts", desc := "(IIIIIIII)I" } : Jvm.MethodName) prog_11_method_32_code (9 : Nat) (Option.some Jvm.ClassFile.FieldType.int)) ∈ gws := kt7 18 rfl rfl
theorem kw_1459 : (Jvm.Cond.methodLink "LeasehallModel" (227 : Nat) ({ cls := "LeasehallModel", name := "makes", desc := "(IIIIIII)I" } : Jvm.MethodName)) ∈ gws := kt7 19 rfl rfl
theorem kw_1461 : (Jvm.Cond.instanceMethod ({ cls := "LeasehallModel", name := "makes", desc := "(IIIIIII)I" } : Jvm.MethodName)) ∈ gws := kt7 21 rfl rfl
theorem kw_1462 : (Jvm.Cond.code ({ cls := "LeasehallModel", name := "makes", desc := "(IIIIIII)I" } : Jvm.MethodName) prog_11_method_26_code (9 : Nat) (Option.some Jvm.ClassFile.FieldType.int)) ∈ gws := kt7 22 rfl rfl
theorem kw_1463 : (Jvm.Cond.methodLink "LeasehallModel" (204 : Nat) ({ cls := "LeasehallModel", name := "isThere", desc := "(II)Z" } : Jvm.MethodName)) ∈ gws := kt7 23 rfl rfl
theorem kw_1465 : (Jvm.Cond.instanceMethod ({ cls := "LeasehallModel", name := "isThere", desc := "(II)Z" } : Jvm.MethodName)) ∈ gws := kt7 25 rfl rfl
theorem kw_1466 : (Jvm.Cond.code ({ cls := "LeasehallModel", name := "isThere", desc := "(II)Z" } : Jvm.MethodName) prog_11_method_6_code (3 : Nat) (Option.some Jvm.ClassFile.FieldType.boolean)) ∈ gws := kt7 26 rfl rfl
theorem kw_1467 : (Jvm.Cond.methodLink "LeasehallModel" (207 : Nat) ({ cls := "LeasehallModel", name := "may", desc := "(II)Z" } : Jvm.MethodName)) ∈ gws := kt7 27 rfl rfl
theorem kw_1469 : (Jvm.Cond.instanceMethod ({ cls := "LeasehallModel", name := "may", desc := "(II)Z" } : Jvm.MethodName)) ∈ gws := kt7 29 rfl rfl
theorem kw_1470 : (Jvm.Cond.code ({ cls := "LeasehallModel", name := "may", desc := "(II)Z" } : Jvm.MethodName) prog_11_method_25_code (3 : Nat) (Option.some Jvm.ClassFile.FieldType.boolean)) ∈ gws := kt7 30 rfl rfl
theorem kw_1471 : (Jvm.Cond.methodLink "LeasehallModel" (210 : Nat) ({ cls := "LeasehallModel", name := "named", desc := "(II)I" } : Jvm.MethodName)) ∈ gws := kt7 31 rfl rfl
theorem kw_1473 : (Jvm.Cond.instanceMethod ({ cls := "LeasehallModel", name := "named", desc := "(II)I" } : Jvm.MethodName)) ∈ gws := kt7 33 rfl rfl
theorem kw_1474 : (Jvm.Cond.code ({ cls := "LeasehallModel", name := "named", desc := "(II)I" } : Jvm.MethodName) prog_11_method_23_code (5 : Nat) (Option.some Jvm.ClassFile.FieldType.int)) ∈ gws := kt7 34 rfl rfl
theorem kw_1475 : (Jvm.Cond.methodLink "LeasehallModel" (214 : Nat) ({ cls := "LeasehallModel", name := "fills", desc := "(I)Z" } : Jvm.MethodName)) ∈ gws := kt7 35 rfl rfl
theorem kw_1477 : (Jvm.Cond.instanceMethod ({ cls := "LeasehallModel", name := "fills", desc := "(I)Z" } : Jvm.MethodName)) ∈ gws := kt7 37 rfl rfl
theorem kw_1478 : (Jvm.Cond.code ({ cls := "LeasehallModel", name := "fills", desc := "(I)Z" } : Jvm.MethodName) prog_11_method_24_code (4 : Nat) (Option.some Jvm.ClassFile.FieldType.boolean)) ∈ gws := kt7 38 rfl rfl
theorem kw_1479 : (Jvm.Cond.methodLink "LeasehallModel" (200 : Nat) ({ cls := "LeasehallModel", name := "below", desc := "(I)I" } : Jvm.MethodName)) ∈ gws := kt7 39 rfl rfl
theorem kw_1481 : (Jvm.Cond.instanceMethod ({ cls := "LeasehallModel", name := "below", desc := "(I)I" } : Jvm.MethodName)) ∈ gws := kt7 41 rfl rfl
theorem kw_1482 : (Jvm.Cond.code ({ cls := "LeasehallModel", name := "below", desc := "(I)I" } : Jvm.MethodName) prog_11_method_22_code (4 : Nat) (Option.some Jvm.ClassFile.FieldType.int)) ∈ gws := kt7 42 rfl rfl
theorem kw_1483 : (Jvm.Cond.methodLink "LeasehallModel" (231 : Nat) ({ cls := "LeasehallModel", name := "sets", desc := "(IIII)I" } : Jvm.MethodName)) ∈ gws := kt7 43 rfl rfl
theorem kw_1485 : (Jvm.Cond.instanceMethod ({ cls := "LeasehallModel", name := "sets", desc := "(IIII)I" } : Jvm.MethodName)) ∈ gws := kt7 45 rfl rfl
theorem kw_1486 : (Jvm.Cond.code ({ cls := "LeasehallModel", name := "sets", desc := "(IIII)I" } : Jvm.MethodName) prog_11_method_27_code (5 : Nat) (Option.some Jvm.ClassFile.FieldType.int)) ∈ gws := kt7 46 rfl rfl
theorem kw_1487 : (Jvm.Cond.methodLink "LeasehallModel" (235 : Nat) ({ cls := "LeasehallModel", name := "deletes", desc := "(III)I" } : Jvm.MethodName)) ∈ gws := kt7 47 rfl rfl
theorem kw_1489 : (Jvm.Cond.instanceMethod ({ cls := "LeasehallModel", name := "deletes", desc := "(III)I" } : Jvm.MethodName)) ∈ gws := kt7 49 rfl rfl
theorem kw_1490 : (Jvm.Cond.code ({ cls := "LeasehallModel", name := "deletes", desc := "(III)I" } : Jvm.MethodName) prog_11_method_29_code (4 : Nat) (Option.some Jvm.ClassFile.FieldType.int)) ∈ gws := kt7 50 rfl rfl
theorem kw_1491 : (Jvm.Cond.methodLink "LeasehallModel" (239 : Nat) ({ cls := "LeasehallModel", name := "gives", desc := "(IIIII)I" } : Jvm.MethodName)) ∈ gws := kt7 51 rfl rfl
theorem kw_1493 : (Jvm.Cond.instanceMethod ({ cls := "LeasehallModel", name := "gives", desc := "(IIIII)I" } : Jvm.MethodName)) ∈ gws := kt7 53 rfl rfl
theorem kw_1494 : (Jvm.Cond.code ({ cls := "LeasehallModel", name := "gives", desc := "(IIIII)I" } : Jvm.MethodName) prog_11_method_30_code (8 : Nat) (Option.some Jvm.ClassFile.FieldType.int)) ∈ gws := kt7 54 rfl rfl
theorem kw_1495 : (Jvm.Cond.methodLink "LeasehallModel" (243 : Nat) ({ cls := "LeasehallModel", name := "checks", desc := "(III)I" } : Jvm.MethodName)) ∈ gws := kt7 55 rfl rfl
theorem kw_1497 : (Jvm.Cond.instanceMethod ({ cls := "LeasehallModel", name := "checks", desc := "(III)I" } : Jvm.MethodName)) ∈ gws := kt7 57 rfl rfl
theorem kw_1498 : (Jvm.Cond.code ({ cls := "LeasehallModel", name := "checks", desc := "(III)I" } : Jvm.MethodName) prog_11_method_31_code (4 : Nat) (Option.some Jvm.ClassFile.FieldType.int)) ∈ gws := kt7 58 rfl rfl
theorem kw_1499 : (Jvm.Cond.methodLink "LeasehallModel" (266 : Nat) ({ cls := "LeasehallModel", name := "settles", desc := "(I)Z" } : Jvm.MethodName)) ∈ gws := kt7 59 rfl rfl
theorem kw_1501 : (Jvm.Cond.instanceMethod ({ cls := "LeasehallModel", name := "settles", desc := "(I)Z" } : Jvm.MethodName)) ∈ gws := kt7 61 rfl rfl
theorem kw_1502 : (Jvm.Cond.code ({ cls := "LeasehallModel", name := "settles", desc := "(I)Z" } : Jvm.MethodName) prog_11_method_33_code (3 : Nat) (Option.some Jvm.ClassFile.FieldType.boolean)) ∈ gws := kt7 62 rfl rfl
theorem kw_1503 : (Jvm.Cond.methodLink "LeasehallModel" (249 : Nat) ({ cls := "LeasehallModel", name := "undo", desc := "()V" } : Jvm.MethodName)) ∈ gws := kt7 63 rfl rfl
theorem kw_1505 : (Jvm.Cond.instanceMethod ({ cls := "LeasehallModel", name := "undo", desc := "()V" } : Jvm.MethodName)) ∈ gws := kt7 65 rfl rfl
theorem kw_1506 : (Jvm.Cond.code ({ cls := "LeasehallModel", name := "undo", desc := "()V" } : Jvm.MethodName) prog_11_method_14_code (2 : Nat) (Option.none : Option Jvm.ClassFile.FieldType)) ∈ gws := kt7 66 rfl rfl
theorem kw_1507 : (Jvm.Cond.methodLink "LeasehallLaw" (168 : Nat) ({ cls := "LeasehallModel", name := "set", desc := "(IIII)I" } : Jvm.MethodName)) ∈ gws := kt7 67 rfl rfl
theorem kw_1508 : (Jvm.Cond.instanceMethod ({ cls := "LeasehallModel", name := "set", desc := "(IIII)I" } : Jvm.MethodName)) ∈ gws := kt7 68 rfl rfl
theorem kw_1509 : (Jvm.Cond.selects "LeasehallModel" ({ cls := "LeasehallModel", name := "set", desc := "(IIII)I" } : Jvm.MethodName) ({ cls := "LeasehallModel", name := "set", desc := "(IIII)I" } : Jvm.MethodName)) ∈ gws := kt7 69 rfl rfl
theorem kw_1510 : (Jvm.Cond.code ({ cls := "LeasehallModel", name := "set", desc := "(IIII)I" } : Jvm.MethodName) prog_11_method_48_code (5 : Nat) (Option.some Jvm.ClassFile.FieldType.int)) ∈ gws := kt7 70 rfl rfl
theorem kw_1511 : (Jvm.Cond.methodLink "LeasehallLaw" (171 : Nat) ({ cls := "LeasehallModel", name := "delete", desc := "(III)I" } : Jvm.MethodName)) ∈ gws := kt7 71 rfl rfl
theorem kw_1512 : (Jvm.Cond.instanceMethod ({ cls := "LeasehallModel", name := "delete", desc := "(III)I" } : Jvm.MethodName)) ∈ gws := kt7 72 rfl rfl
theorem kw_1513 : (Jvm.Cond.selects "LeasehallModel" ({ cls := "LeasehallModel", name := "delete", desc := "(III)I" } : Jvm.MethodName) ({ cls := "LeasehallModel", name := "delete", desc := "(III)I" } : Jvm.MethodName)) ∈ gws := kt7 73 rfl rfl
theorem kw_1514 : (Jvm.Cond.code ({ cls := "LeasehallModel", name := "delete", desc := "(III)I" } : Jvm.MethodName) prog_11_method_49_code (4 : Nat) (Option.some Jvm.ClassFile.FieldType.int)) ∈ gws := kt7 74 rfl rfl
theorem kw_1515 : (Jvm.Cond.methodLink "LeasehallLaw" (175 : Nat) ({ cls := "LeasehallModel", name := "rights", desc := "(IIIIZ)I" } : Jvm.MethodName)) ∈ gws := kt7 75 rfl rfl
theorem kw_1516 : (Jvm.Cond.instanceMethod ({ cls := "LeasehallModel", name := "rights", desc := "(IIIIZ)I" } : Jvm.MethodName)) ∈ gws := kt7 76 rfl rfl
theorem kw_1517 : (Jvm.Cond.selects "LeasehallModel" ({ cls := "LeasehallModel", name := "rights", desc := "(IIIIZ)I" } : Jvm.MethodName) ({ cls := "LeasehallModel", name := "rights", desc := "(IIIIZ)I" } : Jvm.MethodName)) ∈ gws := kt7 77 rfl rfl
theorem kw_1518 : (Jvm.Cond.code ({ cls := "LeasehallModel", name := "rights", desc := "(IIIIZ)I" } : Jvm.MethodName) prog_11_method_50_code (7 : Nat) (Option.some Jvm.ClassFile.FieldType.int)) ∈ gws := kt7 78 rfl rfl
theorem kw_1519 : (Jvm.Cond.methodLink "LeasehallLaw" (178 : Nat) ({ cls := "LeasehallModel", name := "check", desc := "(III)I" } : Jvm.MethodName)) ∈ gws := kt7 79 rfl rfl
theorem kw_1520 : (Jvm.Cond.instanceMethod ({ cls := "LeasehallModel", name := "check", desc := "(III)I" } : Jvm.MethodName)) ∈ gws := kt7 80 rfl rfl
theorem kw_1521 : (Jvm.Cond.selects "LeasehallModel" ({ cls := "LeasehallModel", name := "check", desc := "(III)I" } : Jvm.MethodName) ({ cls := "LeasehallModel", name := "check", desc := "(III)I" } : Jvm.MethodName)) ∈ gws := kt7 81 rfl rfl
theorem kw_1522 : (Jvm.Cond.code ({ cls := "LeasehallModel", name := "check", desc := "(III)I" } : Jvm.MethodName) prog_11_method_51_code (4 : Nat) (Option.some Jvm.ClassFile.FieldType.int)) ∈ gws := kt7 82 rfl rfl
theorem kw_1523 : (Jvm.Cond.methodLink "LeasehallLaw" (182 : Nat) ({ cls := "LeasehallModel", name := "gather", desc := "(I)V" } : Jvm.MethodName)) ∈ gws := kt7 83 rfl rfl
theorem kw_1524 : (Jvm.Cond.instanceMethod ({ cls := "LeasehallModel", name := "gather", desc := "(I)V" } : Jvm.MethodName)) ∈ gws := kt7 84 rfl rfl
theorem kw_1525 : (Jvm.Cond.selects "LeasehallModel" ({ cls := "LeasehallModel", name := "gather", desc := "(I)V" } : Jvm.MethodName) ({ cls := "LeasehallModel", name := "gather", desc := "(I)V" } : Jvm.MethodName)) ∈ gws := kt7 85 rfl rfl
theorem kw_1526 : (Jvm.Cond.code ({ cls := "LeasehallModel", name := "gather", desc := "(I)V" } : Jvm.MethodName) prog_11_method_52_code (2 : Nat) (Option.none : Option Jvm.ClassFile.FieldType)) ∈ gws := kt7 86 rfl rfl
theorem kw_1527 : (Jvm.Cond.methodLink "LeasehallLaw" (185 : Nat) ({ cls := "LeasehallModel", name := "done", desc := "(I)I" } : Jvm.MethodName)) ∈ gws := kt7 87 rfl rfl
theorem kw_1528 : (Jvm.Cond.instanceMethod ({ cls := "LeasehallModel", name := "done", desc := "(I)I" } : Jvm.MethodName)) ∈ gws := kt7 88 rfl rfl
theorem kw_1529 : (Jvm.Cond.selects "LeasehallModel" ({ cls := "LeasehallModel", name := "done", desc := "(I)I" } : Jvm.MethodName) ({ cls := "LeasehallModel", name := "done", desc := "(I)I" } : Jvm.MethodName)) ∈ gws := kt7 89 rfl rfl
theorem kw_1530 : (Jvm.Cond.code ({ cls := "LeasehallModel", name := "done", desc := "(I)I" } : Jvm.MethodName) prog_11_method_53_code (6 : Nat) (Option.some Jvm.ClassFile.FieldType.int)) ∈ gws := kt7 90 rfl rfl
theorem kw_1531 : (Jvm.Cond.methodLink "LeasehallLaw" (188 : Nat) ({ cls := "LeasehallModel", name := "answer", desc := "(II)I" } : Jvm.MethodName)) ∈ gws := kt7 91 rfl rfl
theorem kw_1532 : (Jvm.Cond.instanceMethod ({ cls := "LeasehallModel", name := "answer", desc := "(II)I" } : Jvm.MethodName)) ∈ gws := kt7 92 rfl rfl
theorem kw_1533 : (Jvm.Cond.selects "LeasehallModel" ({ cls := "LeasehallModel", name := "answer", desc := "(II)I" } : Jvm.MethodName) ({ cls := "LeasehallModel", name := "answer", desc := "(II)I" } : Jvm.MethodName)) ∈ gws := kt7 93 rfl rfl
theorem kw_1534 : (Jvm.Cond.code ({ cls := "LeasehallModel", name := "answer", desc := "(II)I" } : Jvm.MethodName) prog_11_method_54_code (3 : Nat) (Option.some Jvm.ClassFile.FieldType.int)) ∈ gws := kt7 94 rfl rfl
theorem kw_1535 : (Jvm.Cond.methodLink "LeasehallLaw" (193 : Nat) ({ cls := "LeasehallModel", name := "lose", desc := "(Z)V" } : Jvm.MethodName)) ∈ gws := kt7 95 rfl rfl
theorem kw_1536 : (Jvm.Cond.instanceMethod ({ cls := "LeasehallModel", name := "lose", desc := "(Z)V" } : Jvm.MethodName)) ∈ gws := kt7 96 rfl rfl
theorem kw_1537 : (Jvm.Cond.selects "LeasehallModel" ({ cls := "LeasehallModel", name := "lose", desc := "(Z)V" } : Jvm.MethodName) ({ cls := "LeasehallModel", name := "lose", desc := "(Z)V" } : Jvm.MethodName)) ∈ gws := kt7 97 rfl rfl
theorem kw_1538 : (Jvm.Cond.code ({ cls := "LeasehallModel", name := "lose", desc := "(Z)V" } : Jvm.MethodName) prog_11_method_55_code (2 : Nat) (Option.none : Option Jvm.ClassFile.FieldType)) ∈ gws := kt7 98 rfl rfl
theorem kw_1539 : (Jvm.Cond.methodLink "LeasehallLaw" (196 : Nat) ({ cls := "LeasehallModel", name := "quota", desc := "(II)I" } : Jvm.MethodName)) ∈ gws := kt7 99 rfl rfl
theorem kw_1540 : (Jvm.Cond.instanceMethod ({ cls := "LeasehallModel", name := "quota", desc := "(II)I" } : Jvm.MethodName)) ∈ gws := kt7 100 rfl rfl
theorem kw_1541 : (Jvm.Cond.selects "LeasehallModel" ({ cls := "LeasehallModel", name := "quota", desc := "(II)I" } : Jvm.MethodName) ({ cls := "LeasehallModel", name := "quota", desc := "(II)I" } : Jvm.MethodName)) ∈ gws := kt7 101 rfl rfl
theorem kw_1542 : (Jvm.Cond.code ({ cls := "LeasehallModel", name := "quota", desc := "(II)I" } : Jvm.MethodName) prog_11_method_56_code (3 : Nat) (Option.some Jvm.ClassFile.FieldType.int)) ∈ gws := kt7 102 rfl rfl
theorem kw_1543 : (Jvm.Cond.methodLink "LeasehallLaw" (199 : Nat) ({ cls := "LeasehallModel", name := "read", desc := "(III)I" } : Jvm.MethodName)) ∈ gws := kt7 103 rfl rfl
theorem kw_1544 : (Jvm.Cond.instanceMethod ({ cls := "LeasehallModel", name := "read", desc := "(III)I" } : Jvm.MethodName)) ∈ gws := kt7 104 rfl rfl
theorem kw_1545 : (Jvm.Cond.selects "LeasehallModel" ({ cls := "LeasehallModel", name := "read", desc := "(III)I" } : Jvm.MethodName) ({ cls := "LeasehallModel", name := "read", desc := "(III)I" } : Jvm.MethodName)) ∈ gws := kt7 105 rfl rfl
theorem kw_1546 : (Jvm.Cond.code ({ cls := "LeasehallModel", name := "read", desc := "(III)I" } : Jvm.MethodName) prog_11_method_58_code (6 : Nat) (Option.some Jvm.ClassFile.FieldType.int)) ∈ gws := kt7 106 rfl rfl
theorem kw_1547 : (Jvm.Cond.methodLink "LeasehallModel" (293 : Nat) ({ cls := "LeasehallModel", name := "sees", desc := "(II)I" } : Jvm.MethodName)) ∈ gws := kt7 107 rfl rfl
theorem kw_1549 : (Jvm.Cond.instanceMethod ({ cls := "LeasehallModel", name := "sees", desc := "(II)I" } : Jvm.MethodName)) ∈ gws := kt7 109 rfl rfl
theorem kw_1550 : (Jvm.Cond.code ({ cls := "LeasehallModel", name := "sees", desc := "(II)I" } : Jvm.MethodName) prog_11_method_57_code (4 : Nat) (Option.some Jvm.ClassFile.FieldType.int)) ∈ gws := kt7 110 rfl rfl
theorem kw_1551 : (Jvm.Cond.methodLink "LeasehallLaw" (202 : Nat) ({ cls := "LeasehallModel", name := "child", desc := "(III)I" } : Jvm.MethodName)) ∈ gws := kt7 111 rfl rfl
theorem kw_1552 : (Jvm.Cond.instanceMethod ({ cls := "LeasehallModel", name := "child", desc := "(III)I" } : Jvm.MethodName)) ∈ gws := kt7 112 rfl rfl
theorem kw_1553 : (Jvm.Cond.selects "LeasehallModel" ({ cls := "LeasehallModel", name := "child", desc := "(III)I" } : Jvm.MethodName) ({ cls := "LeasehallModel", name := "child", desc := "(III)I" } : Jvm.MethodName)) ∈ gws := kt7 113 rfl rfl
theorem kw_1554 : (Jvm.Cond.code ({ cls := "LeasehallModel", name := "child", desc := "(III)I" } : Jvm.MethodName) prog_11_method_60_code (5 : Nat) (Option.some Jvm.ClassFile.FieldType.int)) ∈ gws := kt7 114 rfl rfl
theorem kw_1555 : (Jvm.Cond.methodLink "LeasehallModel" (296 : Nat) ({ cls := "LeasehallModel", name := "childAt", desc := "(IIII)I" } : Jvm.MethodName)) ∈ gws := kt7 115 rfl rfl
theorem kw_1557 : (Jvm.Cond.instanceMethod ({ cls := "LeasehallModel", name := "childAt", desc := "(IIII)I" } : Jvm.MethodName)) ∈ gws := kt7 117 rfl rfl
theorem kw_1558 : (Jvm.Cond.code ({ cls := "LeasehallModel", name := "childAt", desc := "(IIII)I" } : Jvm.MethodName) prog_11_method_59_code (10 : Nat) (Option.some Jvm.ClassFile.FieldType.int)) ∈ gws := kt7 118 rfl rfl
theorem kw_1559 : (Jvm.Cond.methodLink "LeasehallLaw" (205 : Nat) ({ cls := "LeasehallModel", name := "watch", desc := "(III)I" } : Jvm.MethodName)) ∈ gws := kt7 119 rfl rfl
theorem kw_1560 : (Jvm.Cond.instanceMethod ({ cls := "LeasehallModel", name := "watch", desc := "(III)I" } : Jvm.MethodName)) ∈ gws := kt7 120 rfl rfl
theorem kw_1561 : (Jvm.Cond.selects "LeasehallModel" ({ cls := "LeasehallModel", name := "watch", desc := "(III)I" } : Jvm.MethodName) ({ cls := "LeasehallModel", name := "watch", desc := "(III)I" } : Jvm.MethodName)) ∈ gws := kt7 121 rfl rfl
theorem kw_1562 : (Jvm.Cond.code ({ cls := "LeasehallModel", name := "watch", desc := "(III)I" } : Jvm.MethodName) prog_11_method_61_code (5 : Nat) (Option.some Jvm.ClassFile.FieldType.int)) ∈ gws := kt7 122 rfl rfl
theorem kw_1563 : (Jvm.Cond.methodLink "LeasehallLaw" (208 : Nat) ({ cls := "LeasehallModel", name := "hear", desc := "(I)I" } : Jvm.MethodName)) ∈ gws := kt7 123 rfl rfl
theorem kw_1564 : (Jvm.Cond.instanceMethod ({ cls := "LeasehallModel", name := "hear", desc := "(I)I" } : Jvm.MethodName)) ∈ gws := kt7 124 rfl rfl
theorem kw_1565 : (Jvm.Cond.selects "LeasehallModel" ({ cls := "LeasehallModel", name := "hear", desc := "(I)I" } : Jvm.MethodName) ({ cls := "LeasehallModel", name := "hear", desc := "(I)I" } : Jvm.MethodName)) ∈ gws := kt7 125 rfl rfl
theorem kw_1566 : (Jvm.Cond.code ({ cls := "LeasehallModel", name := "hear", desc := "(I)I" } : Jvm.MethodName) prog_11_method_62_code (2 : Nat) (Option.some Jvm.ClassFile.FieldType.int)) ∈ gws := kt7 126 rfl rfl
theorem kw_1567 : (Jvm.Cond.methodLink "LeasehallLaw" (212 : Nat) ({ cls := "LeasehallModel", name := "want", desc := "(IIZ)I" } : Jvm.MethodName)) ∈ gws := kt7 127 rfl rfl
theorem kw_1568 : (Jvm.Cond.instanceMethod ({ cls := "LeasehallModel", name := "want", desc := "(IIZ)I" } : Jvm.MethodName)) ∈ gws := kt7 128 rfl rfl
theorem kw_1569 : (Jvm.Cond.selects "LeasehallModel" ({ cls := "LeasehallModel", name := "want", desc := "(IIZ)I" } : Jvm.MethodName) ({ cls := "LeasehallModel", name := "want", desc := "(IIZ)I" } : Jvm.MethodName)) ∈ gws := kt7 129 rfl rfl
theorem kw_1570 : (Jvm.Cond.code ({ cls := "LeasehallModel", name := "want", desc := "(IIZ)I" } : Jvm.MethodName) prog_11_method_63_code (4 : Nat) (Option.some Jvm.ClassFile.FieldType.int)) ∈ gws := kt7 130 rfl rfl
theorem kw_1571 : (Jvm.Cond.methodLink "LeasehallLaw" (215 : Nat) ({ cls := "LeasehallModel", name := "has", desc := "(II)I" } : Jvm.MethodName)) ∈ gws := kt7 131 rfl rfl
theorem kw_1572 : (Jvm.Cond.instanceMethod ({ cls := "LeasehallModel", name := "has", desc := "(II)I" } : Jvm.MethodName)) ∈ gws := kt7 132 rfl rfl
theorem kw_1573 : (Jvm.Cond.selects "LeasehallModel" ({ cls := "LeasehallModel", name := "has", desc := "(II)I" } : Jvm.MethodName) ({ cls := "LeasehallModel", name := "has", desc := "(II)I" } : Jvm.MethodName)) ∈ gws := kt7 133 rfl rfl
theorem kw_1574 : (Jvm.Cond.code ({ cls := "LeasehallModel", name := "has", desc := "(II)I" } : Jvm.MethodName) prog_11_method_64_code (8 : Nat) (Option.some Jvm.ClassFile.FieldType.int)) ∈ gws := kt7 134 rfl rfl
theorem kw_1575 : (Jvm.Cond.methodLink "LeasehallLaw" (218 : Nat) ({ cls := "LeasehallModel", name := "giveUp", desc := "(II)I" } : Jvm.MethodName)) ∈ gws := kt7 135 rfl rfl
theorem kw_1576 : (Jvm.Cond.instanceMethod ({ cls := "LeasehallModel", name := "giveUp", desc := "(II)I" } : Jvm.MethodName)) ∈ gws := kt7 136 rfl rfl
theorem kw_1577 : (Jvm.Cond.selects "LeasehallModel" ({ cls := "LeasehallModel", name := "giveUp", desc := "(II)I" } : Jvm.MethodName) ({ cls := "LeasehallModel", name := "giveUp", desc := "(II)I" } : Jvm.MethodName)) ∈ gws := kt7 137 rfl rfl
theorem kw_1578 : (Jvm.Cond.code ({ cls := "LeasehallModel", name := "giveUp", desc := "(II)I" } : Jvm.MethodName) prog_11_method_65_code (5 : Nat) (Option.some Jvm.ClassFile.FieldType.int)) ∈ gws := kt7 138 rfl rfl
theorem kw_1579 : (Jvm.Cond.methodLink "LeasehallLaw" (222 : Nat) ({ cls := "LeasehallModel", name := "believers", desc := "(I)I" } : Jvm.MethodName)) ∈ gws := kt7 139 rfl rfl
theorem kw_1580 : (Jvm.Cond.instanceMethod ({ cls := "LeasehallModel", name := "believers", desc := "(I)I" } : Jvm.MethodName)) ∈ gws := kt7 140 rfl rfl
theorem kw_1581 : (Jvm.Cond.selects "LeasehallModel" ({ cls := "LeasehallModel", name := "believers", desc := "(I)I" } : Jvm.MethodName) ({ cls := "LeasehallModel", name := "believers", desc := "(I)I" } : Jvm.MethodName)) ∈ gws := kt7 141 rfl rfl
theorem kw_1582 : (Jvm.Cond.code ({ cls := "LeasehallModel", name := "believers", desc := "(I)I" } : Jvm.MethodName) prog_11_method_66_code (4 : Nat) (Option.some Jvm.ClassFile.FieldType.int)) ∈ gws := kt7 142 rfl rfl
theorem kw_1583 : (Jvm.Cond.methodLink "LeasehallLaw" (225 : Nat) ({ cls := "LeasehallModel", name := "isOpen", desc := "(III)Z" } : Jvm.MethodName)) ∈ gws := kt7 143 rfl rfl
theorem kw_1584 : (Jvm.Cond.instanceMethod ({ cls := "LeasehallModel", name := "isOpen", desc := "(III)Z" } : Jvm.MethodName)) ∈ gws := kt7 144 rfl rfl
theorem kw_1585 : (Jvm.Cond.selects "LeasehallModel" ({ cls := "LeasehallModel", name := "isOpen", desc := "(III)Z" } : Jvm.MethodName) ({ cls := "LeasehallModel", name := "isOpen", desc := "(III)Z" } : Jvm.MethodName)) ∈ gws := kt7 145 rfl rfl
theorem kw_1586 : (Jvm.Cond.code ({ cls := "LeasehallModel", name := "isOpen", desc := "(III)Z" } : Jvm.MethodName) prog_11_method_67_code (4 : Nat) (Option.some Jvm.ClassFile.FieldType.boolean)) ∈ gws := kt7 146 rfl rfl
theorem kw_1587 : (Jvm.Cond.methodLink "LeasehallLaw" (228 : Nat) ({ cls := "LeasehallModel", name := "takeFirst", desc := "(II)I" } : Jvm.MethodName)) ∈ gws := kt7 147 rfl rfl
theorem kw_1588 : (Jvm.Cond.instanceMethod ({ cls := "LeasehallModel", name := "takeFirst", desc := "(II)I" } : Jvm.MethodName)) ∈ gws := kt7 148 rfl rfl
theorem kw_1589 : (Jvm.Cond.selects "LeasehallModel" ({ cls := "LeasehallModel", name := "takeFirst", desc := "(II)I" } : Jvm.MethodName) ({ cls := "LeasehallModel", name := "takeFirst", desc := "(II)I" } : Jvm.MethodName)) ∈ gws := kt7 149 rfl rfl
theorem kw_1590 : (Jvm.Cond.code ({ cls := "LeasehallModel", name := "takeFirst", desc := "(II)I" } : Jvm.MethodName) prog_11_method_68_code (6 : Nat) (Option.some Jvm.ClassFile.FieldType.int)) ∈ gws := kt7 150 rfl rfl
theorem kw_1591 : (Jvm.Cond.methodLink "LeasehallLaw" (231 : Nat) ({ cls := "LeasehallModel", name := "store", desc := "(II)Z" } : Jvm.MethodName)) ∈ gws := kt7 151 rfl rfl
theorem kw_1592 : (Jvm.Cond.instanceMethod ({ cls := "LeasehallModel", name := "store", desc := "(II)Z" } : Jvm.MethodName)) ∈ gws := kt7 152 rfl rfl
theorem kw_1593 : (Jvm.Cond.selects "LeasehallModel" ({ cls := "LeasehallModel", name := "store", desc := "(II)Z" } : Jvm.MethodName) ({ cls := "LeasehallModel", name := "store", desc := "(II)Z" } : Jvm.MethodName)) ∈ gws := kt7 153 rfl rfl
theorem kw_1594 : (Jvm.Cond.code ({ cls := "LeasehallModel", name := "store", desc := "(II)Z" } : Jvm.MethodName) prog_11_method_69_code (3 : Nat) (Option.some Jvm.ClassFile.FieldType.boolean)) ∈ gws := kt7 154 rfl rfl
theorem kw_1595 : (Jvm.Cond.methodLink "LeasehallLaw" (235 : Nat) ({ cls := "LeasehallModel", name := "stored", desc := "()I" } : Jvm.MethodName)) ∈ gws := kt7 155 rfl rfl
theorem kw_1596 : (Jvm.Cond.instanceMethod ({ cls := "LeasehallModel", name := "stored", desc := "()I" } : Jvm.MethodName)) ∈ gws := kt7 156 rfl rfl
theorem kw_1597 : (Jvm.Cond.selects "LeasehallModel" ({ cls := "LeasehallModel", name := "stored", desc := "()I" } : Jvm.MethodName) ({ cls := "LeasehallModel", name := "stored", desc := "()I" } : Jvm.MethodName)) ∈ gws := kt7 157 rfl rfl
theorem kw_1598 : (Jvm.Cond.code ({ cls := "LeasehallModel", name := "stored", desc := "()I" } : Jvm.MethodName) prog_11_method_70_code (1 : Nat) (Option.some Jvm.ClassFile.FieldType.int)) ∈ gws := kt7 158 rfl rfl
theorem kw_1599 : (Jvm.Cond.methodLink "LeasehallLaw" (238 : Nat) ({ cls := "LeasehallModel", name := "valueAt", desc := "(II)I" } : Jvm.MethodName)) ∈ gws := kt7 159 rfl rfl
theorem kw_1600 : (Jvm.Cond.instanceMethod ({ cls := "LeasehallModel", name := "valueAt", desc := "(II)I" } : Jvm.MethodName)) ∈ gws := kt7 160 rfl rfl
theorem kw_1601 : (Jvm.Cond.selects "LeasehallModel" ({ cls := "LeasehallModel", name := "valueAt", desc := "(II)I" } : Jvm.MethodName) ({ cls := "LeasehallModel", name := "valueAt", desc := "(II)I" } : Jvm.MethodName)) ∈ gws := kt7 161 rfl rfl
theorem kw_1602 : (Jvm.Cond.code ({ cls := "LeasehallModel", name := "valueAt", desc := "(II)I" } : Jvm.MethodName) prog_11_method_71_code (5 : Nat) (Option.some Jvm.ClassFile.FieldType.int)) ∈ gws := kt7 162 rfl rfl
theorem kw_1603 : (Jvm.Cond.methodLink "LeasehallLaw" (241 : Nat) ({ cls := "LeasehallModel", name := "changedAt", desc := "(III)I" } : Jvm.MethodName)) ∈ gws := kt7 163 rfl rfl
theorem kw_1604 : (Jvm.Cond.instanceMethod ({ cls := "LeasehallModel", name := "changedAt", desc := "(III)I" } : Jvm.MethodName)) ∈ gws := kt7 164 rfl rfl
theorem kw_1605 : (Jvm.Cond.selects "LeasehallModel" ({ cls := "LeasehallModel", name := "changedAt", desc := "(III)I" } : Jvm.MethodName) ({ cls := "LeasehallModel", name := "changedAt", desc := "(III)I" } : Jvm.MethodName)) ∈ gws := kt7 165 rfl rfl
theorem kw_1606 : (Jvm.Cond.code ({ cls := "LeasehallModel", name := "changedAt", desc := "(III)I" } : Jvm.MethodName) prog_11_method_72_code (7 : Nat) (Option.some Jvm.ClassFile.FieldType.int)) ∈ gws := kt7 166 rfl rfl
theorem kw_1607 : (Jvm.Cond.methodLink "LeasehallLaw" (244 : Nat) ({ cls := "LeasehallModel", name := "compact", desc := "(I)I" } : Jvm.MethodName)) ∈ gws := kt7 167 rfl rfl
theorem kw_1608 : (Jvm.Cond.instanceMethod ({ cls := "LeasehallModel", name := "compact", desc := "(I)I" } : Jvm.MethodName)) ∈ gws := kt7 168 rfl rfl
theorem kw_1609 : (Jvm.Cond.selects "LeasehallModel" ({ cls := "LeasehallModel", name := "compact", desc := "(I)I" } : Jvm.MethodName) ({ cls := "LeasehallModel", name := "compact", desc := "(I)I" } : Jvm.MethodName)) ∈ gws := kt7 169 rfl rfl
theorem kw_1610 : (Jvm.Cond.code ({ cls := "LeasehallModel", name := "compact", desc := "(I)I" } : Jvm.MethodName) prog_11_method_73_code (2 : Nat) (Option.some Jvm.ClassFile.FieldType.int)) ∈ gws := kt7 170 rfl rfl
theorem kw_1611 : (Jvm.Cond.methodLink "LeasehallLaw" (248 : Nat) ({ cls := "LeasehallModel", name := "snapshot", desc := "()I" } : Jvm.MethodName)) ∈ gws := kt7 171 rfl rfl
theorem kw_1612 : (Jvm.Cond.instanceMethod ({ cls := "LeasehallModel", name := "snapshot", desc := "()I" } : Jvm.MethodName)) ∈ gws := kt7 172 rfl rfl
theorem kw_1613 : (Jvm.Cond.selects "LeasehallModel" ({ cls := "LeasehallModel", name := "snapshot", desc := "()I" } : Jvm.MethodName) ({ cls := "LeasehallModel", name := "snapshot", desc := "()I" } : Jvm.MethodName)) ∈ gws := kt7 173 rfl rfl
theorem kw_1614 : (Jvm.Cond.code ({ cls := "LeasehallModel", name := "snapshot", desc := "()I" } : Jvm.MethodName) prog_11_method_74_code (3 : Nat) (Option.some Jvm.ClassFile.FieldType.int)) ∈ gws := kt7 174 rfl rfl
theorem kw_1615 : (Jvm.Cond.methodLink "LeasehallLaw" (252 : Nat) ({ cls := "LeasehallModel", name := "restore", desc := "()I" } : Jvm.MethodName)) ∈ gws := kt7 175 rfl rfl
theorem kw_1616 : (Jvm.Cond.instanceMethod ({ cls := "LeasehallModel", name := "restore", desc := "()I" } : Jvm.MethodName)) ∈ gws := kt7 176 rfl rfl
theorem kw_1617 : (Jvm.Cond.selects "LeasehallModel" ({ cls := "LeasehallModel", name := "restore", desc := "()I" } : Jvm.MethodName) ({ cls := "LeasehallModel", name := "restore", desc := "()I" } : Jvm.MethodName)) ∈ gws := kt7 177 rfl rfl
theorem kw_1618 : (Jvm.Cond.code ({ cls := "LeasehallModel", name := "restore", desc := "()I" } : Jvm.MethodName) prog_11_method_75_code (2 : Nat) (Option.some Jvm.ClassFile.FieldType.int)) ∈ gws := kt7 178 rfl rfl
theorem kw_1619 : (Jvm.Cond.methodLink "LeasehallLaw" (256 : Nat) ({ cls := "LeasehallModel", name := "changes", desc := "()I" } : Jvm.MethodName)) ∈ gws := kt7 179 rfl rfl
theorem kw_1620 : (Jvm.Cond.instanceMethod ({ cls := "LeasehallModel", name := "changes", desc := "()I" } : Jvm.MethodName)) ∈ gws := kt7 180 rfl rfl
theorem kw_1621 : (Jvm.Cond.selects "LeasehallModel" ({ cls := "LeasehallModel", name := "changes", desc := "()I" } : Jvm.MethodName) ({ cls := "LeasehallModel", name := "changes", desc := "()I" } : Jvm.MethodName)) ∈ gws := kt7 181 rfl rfl
theorem kw_1622 : (Jvm.Cond.code ({ cls := "LeasehallModel", name := "changes", desc := "()I" } : Jvm.MethodName) prog_11_method_76_code (1 : Nat) (Option.some Jvm.ClassFile.FieldType.int)) ∈ gws := kt7 182 rfl rfl
theorem kw_1623 : (Jvm.Cond.arrayClass Jvm.ClassFile.FieldType.long) ∈ gws := kt7 183 rfl rfl
theorem kw_1642 : (Jvm.Cond.selects "[Ljava/lang/Object;" ({ cls := "java/lang/Object", name := "getClass", desc := "()Ljava/lang/Class;" } : Jvm.MethodName) ({ cls := "java/lang/Object", name := "getClass", desc := "()Ljava/lang/Class;" } : Jvm.MethodName)) ∈ gws := kt7 202 rfl rfl
