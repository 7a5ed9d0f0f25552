/-! WHAT THE EXCEPTIONS NEED of the tables -/
def ex_ow (k : Nat) : List Cond := Jvm.Bundle.ownAtoms "FlitTorus" (if k = 1 then 163 else 179) (if k = 1 then "java/lang/IllegalArgumentException" else "java/lang/IllegalStateException") ["java/lang/RuntimeException", "java/lang/Exception"]
def ex_st (a : Cond) : Bool := match a with
  | .isRef (.static "java/lang/Throwable" "UNASSIGNED_STACK" "[Ljava/lang/StackTraceElement;") => true
  | .isRef (.static "java/lang/Throwable" "SUPPRESSED_SENTINEL" "Ljava/util/List;") => true
  | _ => false
theorem ex_ow1 : ∀ a ∈ ex_ow 1, a ∈ lw_tbl ∨ ex_st a = true := by decide +kernel
theorem ex_ow2 : ∀ a ∈ ex_ow 2, a ∈ lw_tbl ∨ ex_st a = true := by decide +kernel
