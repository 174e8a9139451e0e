def NSE : String := "java/util/NoSuchElementException"
def RTE : String := "java/lang/RuntimeException"
def nsN : List String := ["java/lang/Exception"]
theorem nw0_0 : (.initialized Bundle.tN : Cond) ∈ BIG := wq_big (t := 1) (i := 22) (by decide +kernel) rfl
theorem nw0_1 : (.superclass Bundle.tN "java/lang/Object" : Cond) ∈ BIG := wq_big (t := 6) (i := 114) (by decide +kernel) rfl
theorem nw0_2 : (.instanceMethod Bundle.tFill : Cond) ∈ BIG := wq_big (t := 6) (i := 123) (by decide +kernel) rfl
theorem nw0_3 : (.codeSync Bundle.tFill LibCode.Throwable.Fill.code 1 (some (.object Bundle.tN)) : Cond) ∈ BIG := wq_big (t := 6) (i := 125) (by decide +kernel) rfl
theorem nw0_4 : (.instanceMethod Bundle.tFill0 : Cond) ∈ BIG := wq_big (t := 6) (i := 128) (by decide +kernel) rfl
theorem nw0_5 : (.native Bundle.tFill0 : Cond) ∈ BIG := wq_big (t := 6) (i := 130) (by decide +kernel) rfl
theorem nw0_6 : (.instanceMethod Bundle.tInit0 : Cond) ∈ BIG := wq_big (t := 6) (i := 115) (by decide +kernel) rfl
theorem nw0_7 : (.code Bundle.tInit0 LibCode.Throwable.Init0.code 1 none : Cond) ∈ BIG := wq_big (t := 6) (i := 116) (by decide +kernel) rfl
theorem nw0_8 : (.instanceMethod Bundle.oInit : Cond) ∈ BIG := wq_big (t := 1) (i := 32) (by decide +kernel) rfl
theorem nw0_9 : (.code Bundle.oInit ⟨#[0xb1]⟩ 1 none : Cond) ∈ BIG := wq_big (t := 1) (i := 33) (by decide +kernel) rfl
theorem nw0_10 : (.methodLink Bundle.tN 1 Bundle.oInit : Cond) ∈ BIG := wq_big (t := 6) (i := 117) (by decide +kernel) rfl
theorem nw0_11 : (.methodLink Bundle.tN 27 Bundle.tFill : Cond) ∈ BIG := wq_big (t := 6) (i := 122) (by decide +kernel) rfl
theorem nw0_12 : (.methodLink Bundle.tN 202 Bundle.tFill0 : Cond) ∈ BIG := wq_big (t := 6) (i := 126) (by decide +kernel) rfl
theorem nw0_13 : (.fieldLink Bundle.tN 7 Bundle.tN "cause" "Ljava/lang/Throwable;" : Cond) ∈ BIG := wq_big (t := 6) (i := 146) (by decide +kernel) rfl
theorem nw0_14 : (.lays Bundle.tN Bundle.tN "cause" "Ljava/lang/Throwable;" : Cond) ∈ BIG := wq_big (t := 6) (i := 104) (by decide +kernel) rfl
theorem nw0_15 : (.fieldLink Bundle.tN 17 Bundle.tN "stackTrace" Bundle.steD : Cond) ∈ BIG := wq_big (t := 6) (i := 147) (by decide +kernel) rfl
theorem nw0_16 : (.lays Bundle.tN Bundle.tN "stackTrace" Bundle.steD : Cond) ∈ BIG := wq_big (t := 6) (i := 106) (by decide +kernel) rfl
theorem nw0_17 : (.fieldLink Bundle.tN 24 Bundle.tN "suppressedExceptions" Bundle.listD : Cond) ∈ BIG := wq_big (t := 6) (i := 148) (by decide +kernel) rfl
theorem nw0_18 : (.lays Bundle.tN Bundle.tN "suppressedExceptions" Bundle.listD : Cond) ∈ BIG := wq_big (t := 6) (i := 108) (by decide +kernel) rfl
theorem nw0_19 : (.fieldLink Bundle.tN 13 Bundle.tN "UNASSIGNED_STACK" Bundle.steD : Cond) ∈ BIG := wq_big (t := 6) (i := 118) (by decide +kernel) rfl
theorem nw0_21 : (.fieldLink Bundle.tN 20 Bundle.tN "SUPPRESSED_SENTINEL" Bundle.listD : Cond) ∈ BIG := wq_big (t := 6) (i := 120) (by decide +kernel) rfl
theorem nw0_23 : (.lays Bundle.tN Bundle.tN "detailMessage" "Ljava/lang/String;" : Cond) ∈ BIG := wq_big (t := 6) (i := 110) (by decide +kernel) rfl
theorem nw1_0 : (.instanceMethod (Bundle.initS Bundle.tN) : Cond) ∈ BIG := wq_big (t := 6) (i := 142) (by decide +kernel) rfl
theorem nw1_1 : (.code (Bundle.initS Bundle.tN) LibCode.Throwable.InitS.code 2 none : Cond) ∈ BIG := wq_big (t := 6) (i := 143) (by decide +kernel) rfl
theorem nw1_2 : (.fieldLink Bundle.tN 31 Bundle.tN "detailMessage" "Ljava/lang/String;" : Cond) ∈ BIG := wq_big (t := 6) (i := 145) (by decide +kernel) rfl
theorem nw1_3 : (.lays Bundle.tN Bundle.tN "detailMessage" "Ljava/lang/String;" : Cond) ∈ BIG := wq_big (t := 6) (i := 110) (by decide +kernel) rfl
theorem nw2_0 : (.instanceMethod (Bundle.initS NSE) : Cond) ∈ BIG := wq_big (t := 6) (i := 133) (by decide +kernel) rfl
theorem nw2_1 : (.code (Bundle.initS NSE) prog_30_method_4_code 2 none : Cond) ∈ BIG := wq_big (t := 6) (i := 134) (by decide +kernel) rfl
theorem nw2_2 : (.methodLink NSE 13 (Bundle.initS RTE) : Cond) ∈ BIG := wq_big (t := 6) (i := 135) (by decide +kernel) rfl
theorem nw2_3 : (.instanceMethod (Bundle.initS RTE) : Cond) ∈ BIG := wq_big (t := 6) (i := 136) (by decide +kernel) rfl
theorem nw3_0 : (.instanceMethod (Bundle.initS RTE) : Cond) ∈ BIG := wq_big (t := 6) (i := 136) (by decide +kernel) rfl
theorem nw3_1 : (.code (Bundle.initS RTE) Bundle.six 2 none : Cond) ∈ BIG := wq_big (t := 6) (i := 137) (by decide +kernel) rfl
theorem nw3_2 : (.methodLink RTE 7 (Bundle.initS "java/lang/Exception") : Cond) ∈ BIG := wq_big (t := 6) (i := 138) (by decide +kernel) rfl
theorem nw3_3 : (.instanceMethod (Bundle.initS "java/lang/Exception") : Cond) ∈ BIG := wq_big (t := 6) (i := 139) (by decide +kernel) rfl
theorem nw4_0 : (.instanceMethod (Bundle.initS "java/lang/Exception") : Cond) ∈ BIG := wq_big (t := 6) (i := 139) (by decide +kernel) rfl
theorem nw4_1 : (.code (Bundle.initS "java/lang/Exception") Bundle.six 2 none : Cond) ∈ BIG := wq_big (t := 6) (i := 140) (by decide +kernel) rfl
theorem nw4_2 : (.methodLink "java/lang/Exception" 7 (Bundle.initS Bundle.tN) : Cond) ∈ BIG := wq_big (t := 6) (i := 141) (by decide +kernel) rfl
theorem nw4_3 : (.instanceMethod (Bundle.initS Bundle.tN) : Cond) ∈ BIG := wq_big (t := 6) (i := 142) (by decide +kernel) rfl
theorem nw5_0 : (.methodLink RX10 364 (Bundle.initS NSE) : Cond) ∈ BIG := wq_big (t := 6) (i := 132) (by decide +kernel) rfl
theorem nw5_1 : (.instantiable NSE 6 : Cond) ∈ BIG := wq_big (t := 6) (i := 93) (by decide +kernel) rfl
theorem nw5_2 : (.selects NSE Bundle.tFill0 Bundle.tFill0 : Cond) ∈ BIG := wq_big (t := 6) (i := 101) (by decide +kernel) rfl
theorem nw5_3 : (.selects NSE Bundle.tFill Bundle.tFill : Cond) ∈ BIG := wq_big (t := 6) (i := 102) (by decide +kernel) rfl
theorem nw5_4 : (.lays NSE Bundle.tN "cause" "Ljava/lang/Throwable;" : Cond) ∈ BIG := wq_big (t := 6) (i := 103) (by decide +kernel) rfl
theorem nw5_5 : (.lays NSE Bundle.tN "stackTrace" Bundle.steD : Cond) ∈ BIG := wq_big (t := 6) (i := 105) (by decide +kernel) rfl
theorem nw5_6 : (.lays NSE Bundle.tN "suppressedExceptions" Bundle.listD : Cond) ∈ BIG := wq_big (t := 6) (i := 107) (by decide +kernel) rfl
theorem nw5_7 : (.lays NSE Bundle.tN "detailMessage" "Ljava/lang/String;" : Cond) ∈ BIG := wq_big (t := 6) (i := 109) (by decide +kernel) rfl
theorem nw5_10 : (.fieldLink Bundle.tN 198 Bundle.tN "backtrace" "Ljava/lang/Object;" : Cond) ∈ BIG := wq_big (t := 6) (i := 113) (by decide +kernel) rfl
theorem nw5_11 : (.lays Bundle.tN Bundle.tN "backtrace" "Ljava/lang/Object;" : Cond) ∈ BIG := wq_big (t := 6) (i := 112) (by decide +kernel) rfl
theorem nw5_12 : (.lays NSE Bundle.tN "backtrace" "Ljava/lang/Object;" : Cond) ∈ BIG := wq_big (t := 6) (i := 111) (by decide +kernel) rfl
theorem nwK : (.classLink RX10 360 NSE : Cond) ∈ BIG := wq_big (t := 6) (i := 92) (by decide +kernel) rfl
theorem nwI : (.initialized NSE : Cond) ∈ BIG := wq_big (t := 1) (i := 25) (by decide +kernel) rfl
theorem nwC : (.classLink RL 13 NSE : Cond) ∈ BIG := wq_big (t := 6) (i := 83) (by decide +kernel) rfl
theorem nw_all {E : En} {s st : State} {H : Heap} {args : Array Value} (hts : ∀ w ∈ BIG, w.before args st = true) (hT : Tb E s H) (hvm : s.vm = st.vm) (hhp : s.heap = H) : (∀ w ∈ nt_at RX10 364 NSE RTE 13 prog_30_method_4_code nsN, w.before args s = true) ∧ (Cond.classLink RX10 360 NSE).before args s = true ∧ (Cond.initialized NSE).before args s = true := by
  have hW0 : st.WarmedH s.vm := by rw [hvm]; exact State.WarmedH.refl st
  have big : ∀ w ∈ BIG, w.before args s = true := fun w hw => word_at hW0 (BIG_good w hw).2 (hts w hw)
  rw [← hhp] at hT
  obtain ⟨-, -, -, -, -, -, -, -, -, -, hU, hN, -, hd1, hd2, hd3⟩ := hT
  refine ⟨?_, big _ nwK, big _ nwI⟩
  unfold nt_at
  refine List.forall_mem_append.mpr ⟨?_, List.forall_mem_append.mpr ⟨?_, List.forall_mem_append.mpr ⟨?_, List.forall_mem_append.mpr ⟨List.forall_mem_append.mpr ⟨?_, ?_⟩, ?_⟩⟩⟩⟩
  · exact List.forall_mem_cons.mpr ⟨big _ nw0_0, List.forall_mem_cons.mpr ⟨big _ nw0_1, List.forall_mem_cons.mpr ⟨big _ nw0_2, List.forall_mem_cons.mpr ⟨big _ nw0_3, List.forall_mem_cons.mpr ⟨big _ nw0_4, List.forall_mem_cons.mpr ⟨big _ nw0_5, List.forall_mem_cons.mpr ⟨big _ nw0_6, List.forall_mem_cons.mpr ⟨big _ nw0_7, List.forall_mem_cons.mpr ⟨big _ nw0_8, List.forall_mem_cons.mpr ⟨big _ nw0_9, List.forall_mem_cons.mpr ⟨big _ nw0_10, List.forall_mem_cons.mpr ⟨big _ nw0_11, List.forall_mem_cons.mpr ⟨big _ nw0_12, List.forall_mem_cons.mpr ⟨big _ nw0_13, List.forall_mem_cons.mpr ⟨big _ nw0_14, List.forall_mem_cons.mpr ⟨big _ nw0_15, List.forall_mem_cons.mpr ⟨big _ nw0_16, List.forall_mem_cons.mpr ⟨big _ nw0_17, List.forall_mem_cons.mpr ⟨big _ nw0_18, List.forall_mem_cons.mpr ⟨big _ nw0_19, List.forall_mem_cons.mpr ⟨hU.2.word, List.forall_mem_cons.mpr ⟨big _ nw0_21, List.forall_mem_cons.mpr ⟨hN.2.word, List.forall_mem_cons.mpr ⟨big _ nw0_23, fun _ h => nomatch h⟩⟩⟩⟩⟩⟩⟩⟩⟩⟩⟩⟩⟩⟩⟩⟩⟩⟩⟩⟩⟩⟩⟩⟩
  · exact List.forall_mem_cons.mpr ⟨big _ nw1_0, List.forall_mem_cons.mpr ⟨big _ nw1_1, List.forall_mem_cons.mpr ⟨big _ nw1_2, List.forall_mem_cons.mpr ⟨big _ nw1_3, fun _ h => nomatch h⟩⟩⟩⟩
  · exact List.forall_mem_cons.mpr ⟨big _ nw2_0, List.forall_mem_cons.mpr ⟨big _ nw2_1, List.forall_mem_cons.mpr ⟨big _ nw2_2, List.forall_mem_cons.mpr ⟨big _ nw2_3, List.forall_mem_cons.mpr ⟨va_Nw.use rfl hd1, fun _ h => nomatch h⟩⟩⟩⟩⟩
  · exact List.forall_mem_cons.mpr ⟨big _ nw3_0, List.forall_mem_cons.mpr ⟨big _ nw3_1, List.forall_mem_cons.mpr ⟨big _ nw3_2, List.forall_mem_cons.mpr ⟨big _ nw3_3, List.forall_mem_cons.mpr ⟨va_Nw.use rfl hd2, fun _ h => nomatch h⟩⟩⟩⟩⟩
  · exact List.forall_mem_cons.mpr ⟨big _ nw4_0, List.forall_mem_cons.mpr ⟨big _ nw4_1, List.forall_mem_cons.mpr ⟨big _ nw4_2, List.forall_mem_cons.mpr ⟨big _ nw4_3, List.forall_mem_cons.mpr ⟨va_Nw.use rfl hd3, fun _ h => nomatch h⟩⟩⟩⟩⟩
  · exact List.forall_mem_cons.mpr ⟨big _ nw5_0, List.forall_mem_cons.mpr ⟨big _ nw5_1, List.forall_mem_cons.mpr ⟨big _ nw5_2, List.forall_mem_cons.mpr ⟨big _ nw5_3, List.forall_mem_cons.mpr ⟨big _ nw5_4, List.forall_mem_cons.mpr ⟨big _ nw5_5, List.forall_mem_cons.mpr ⟨big _ nw5_6, List.forall_mem_cons.mpr ⟨big _ nw5_7, List.forall_mem_cons.mpr ⟨vx_isRefq hU.1, List.forall_mem_cons.mpr ⟨vx_isRefq hN.1, List.forall_mem_cons.mpr ⟨big _ nw5_10, List.forall_mem_cons.mpr ⟨big _ nw5_11, List.forall_mem_cons.mpr ⟨big _ nw5_12, fun _ h => nomatch h⟩⟩⟩⟩⟩⟩⟩⟩⟩⟩⟩⟩⟩
