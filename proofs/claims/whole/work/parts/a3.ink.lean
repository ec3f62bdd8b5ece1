/-! ink: what is thrown. -/
def nsE : String := "java/util/NoSuchElementException"
def nsN : List String := ["java/lang/RuntimeException", "java/lang/Exception"]
def nsW : List Cond := vx_atS "DotScreens" 136 nsE nsN
theorem ns_good : ∀ w ∈ Cond.classLink "DotScreens" 132 nsE :: Cond.initialized nsE :: nsW, vx_ot w = true := by decide +kernel
theorem ns_x0 : ∀ w ∈ nsW.filter goodWord, w ∈ lw_tbl := by decide +kernel
theorem ns_in : ∀ w ∈ nsW.filter goodWord, w ∈ px_T := fun w h => px_inT (ns_x0 w h) (List.mem_filter.mp h).2
theorem t1 : (nsW.filter (fun w => !goodWord w)).length = 1 := by decide +kernel
theorem t2 : nsW.filter (fun w => !goodWord w) = [.castable nsE nsE] := by decide +kernel
theorem t3 : goodWord (.castable nsE nsE) = true := by decide +kernel
theorem t4 : goodWord (.selects nsE Bundle.tFill Bundle.tFill) = true := by decide +kernel
theorem t5 : goodWord (.lays nsE Bundle.tN "cause" "Ljava/lang/Throwable;") = true := by decide +kernel
theorem t6 : goodWord (.superclass Bundle.tN "java/lang/Object") = true := by decide +kernel
theorem t7 : goodWord (.codeSync Bundle.tFill Bundle.Fill.code 1 (some (.object Bundle.tN))) = true := by decide +kernel
theorem t8 : goodWord (.native Bundle.tFill0) = true := by decide +kernel
theorem ns_fit : Bundle.fit nsE = true ∧ ∀ n ∈ nsN, Bundle.fit n = true := by decide +kernel
theorem ns_l1 : Cond.classLink "DotScreens" 132 nsE ∈ px_T := by decide +kernel
theorem ns_l2 : Cond.initialized nsE ∈ px_T := by decide +kernel
