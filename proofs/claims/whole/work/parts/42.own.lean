/-! throw new E(): the words; arraycopy's frame -/
theorem am_cpw : nativeFrameWords "java/lang/System" "arraycopy" 5 ≤ 100 := by decide +kernel
set_option maxRecDepth 100000 in
theorem am_ownk0 : ∀ w ∈ Bundle.ownAtoms0 "RunwayDesk" 49 "java/lang/IllegalArgumentException" ["java/lang/RuntimeException", "java/lang/Exception"], (w ∈ tables_1 ∧ am_mv w = true) ∨ w ∈ [Cond.isRef (.static "java/lang/Throwable" "UNASSIGNED_STACK" "[Ljava/lang/StackTraceElement;"), Cond.isRef (.static "java/lang/Throwable" "SUPPRESSED_SENTINEL" "Ljava/util/List;")] := by decide +kernel
theorem am_own0 {s0 U : State} {args : Array Value} (h0 : am_W0 s0) (hU : am_Root s0 U) : ∀ w ∈ Bundle.ownAtoms0 "RunwayDesk" 49 "java/lang/IllegalArgumentException" ["java/lang/RuntimeException", "java/lang/Exception"], w.before args U = true := by
  intro w hw
  rcases am_ownk0 w hw with ⟨h1, h2⟩ | h1
  · exact am_hts h0 hU w (am_in h1 h2)
  · obtain ⟨a0, h3, h4, h5, -⟩ := h0
    rcases List.mem_cons.mp h1 with rfl | h1
    · exact am_isref hU (h3 _ (List.mem_append_right _ (List.mem_of_getElem? (i := 309) (by decide +kernel)))) h4
    · rw [List.mem_singleton.mp h1]
      exact am_isref hU (h3 _ (List.mem_append_right _ (List.mem_of_getElem? (i := 311) (by decide +kernel)))) h5
set_option maxRecDepth 100000 in
theorem am_ownk1 : ∀ w ∈ Bundle.ownAtoms0 "RunwayDesk" 60 "java/lang/IllegalStateException" ["java/lang/RuntimeException", "java/lang/Exception"], (w ∈ tables_1 ∧ am_mv w = true) ∨ w ∈ [Cond.isRef (.static "java/lang/Throwable" "UNASSIGNED_STACK" "[Ljava/lang/StackTraceElement;"), Cond.isRef (.static "java/lang/Throwable" "SUPPRESSED_SENTINEL" "Ljava/util/List;")] := by decide +kernel
theorem am_own1 {s0 U : State} {args : Array Value} (h0 : am_W0 s0) (hU : am_Root s0 U) : ∀ w ∈ Bundle.ownAtoms0 "RunwayDesk" 60 "java/lang/IllegalStateException" ["java/lang/RuntimeException", "java/lang/Exception"], w.before args U = true := by
  intro w hw
  rcases am_ownk1 w hw with ⟨h1, h2⟩ | h1
  · exact am_hts h0 hU w (am_in h1 h2)
  · obtain ⟨a0, h3, h4, h5, -⟩ := h0
    rcases List.mem_cons.mp h1 with rfl | h1
    · exact am_isref hU (h3 _ (List.mem_append_right _ (List.mem_of_getElem? (i := 309) (by decide +kernel)))) h4
    · rw [List.mem_singleton.mp h1]
      exact am_isref hU (h3 _ (List.mem_append_right _ (List.mem_of_getElem? (i := 311) (by decide +kernel)))) h5
set_option maxRecDepth 100000 in
theorem am_ownk2 : ∀ w ∈ Bundle.ownAtoms0 "RunwayDesk" 166 "java/util/NoSuchElementException" ["java/lang/RuntimeException", "java/lang/Exception"], (w ∈ tables_1 ∧ am_mv w = true) ∨ w ∈ [Cond.isRef (.static "java/lang/Throwable" "UNASSIGNED_STACK" "[Ljava/lang/StackTraceElement;"), Cond.isRef (.static "java/lang/Throwable" "SUPPRESSED_SENTINEL" "Ljava/util/List;")] := by decide +kernel
theorem am_own2 {s0 U : State} {args : Array Value} (h0 : am_W0 s0) (hU : am_Root s0 U) : ∀ w ∈ Bundle.ownAtoms0 "RunwayDesk" 166 "java/util/NoSuchElementException" ["java/lang/RuntimeException", "java/lang/Exception"], w.before args U = true := by
  intro w hw
  rcases am_ownk2 w hw with ⟨h1, h2⟩ | h1
  · exact am_hts h0 hU w (am_in h1 h2)
  · obtain ⟨a0, h3, h4, h5, -⟩ := h0
    rcases List.mem_cons.mp h1 with rfl | h1
    · exact am_isref hU (h3 _ (List.mem_append_right _ (List.mem_of_getElem? (i := 309) (by decide +kernel)))) h4
    · rw [List.mem_singleton.mp h1]
      exact am_isref hU (h3 _ (List.mem_append_right _ (List.mem_of_getElem? (i := 311) (by decide +kernel)))) h5
set_option maxRecDepth 100000 in
theorem am_ownk3 : ∀ w ∈ Bundle.ownAtoms0 "RunwayDesk" 131 "java/lang/IndexOutOfBoundsException" ["java/lang/RuntimeException", "java/lang/Exception"], (w ∈ tables_1 ∧ am_mv w = true) ∨ w ∈ [Cond.isRef (.static "java/lang/Throwable" "UNASSIGNED_STACK" "[Ljava/lang/StackTraceElement;"), Cond.isRef (.static "java/lang/Throwable" "SUPPRESSED_SENTINEL" "Ljava/util/List;")] := by decide +kernel
theorem am_own3 {s0 U : State} {args : Array Value} (h0 : am_W0 s0) (hU : am_Root s0 U) : ∀ w ∈ Bundle.ownAtoms0 "RunwayDesk" 131 "java/lang/IndexOutOfBoundsException" ["java/lang/RuntimeException", "java/lang/Exception"], w.before args U = true := by
  intro w hw
  rcases am_ownk3 w hw with ⟨h1, h2⟩ | h1
  · exact am_hts h0 hU w (am_in h1 h2)
  · obtain ⟨a0, h3, h4, h5, -⟩ := h0
    rcases List.mem_cons.mp h1 with rfl | h1
    · exact am_isref hU (h3 _ (List.mem_append_right _ (List.mem_of_getElem? (i := 309) (by decide +kernel)))) h4
    · rw [List.mem_singleton.mp h1]
      exact am_isref hU (h3 _ (List.mem_append_right _ (List.mem_of_getElem? (i := 311) (by decide +kernel)))) h5
