/-! ===== man's two throws: their words ===== -/
abbrev eI : String := "java/lang/IndexOutOfBoundsException"
abbrev eN : String := "java/util/NoSuchElementException"
def eUp : List String := ["java/lang/RuntimeException", "java/lang/Exception"]
def zTI : List Cond := vx_atS RX9 137 eI eUp
def zTN : List Cond := zn_at RX9 173 eN 13 prog_27_method_4_code eUp
set_option maxRecDepth 20000 in
theorem zTI_in : ∀ w ∈ zTI, w ∈ lw_tbl := by decide +kernel
set_option maxRecDepth 20000 in
theorem zTN_in : ∀ w ∈ zTN, w ∈ lw_tbl := by decide +kernel
def zBd : List Cond := [.castable eI eI, .castable eN eN, .declares (Bundle.initS "java/lang/RuntimeException"), .declares (Bundle.initS "java/lang/Exception"), .declares (Bundle.initS "java/lang/Throwable")]
theorem zTI_bad : ∀ w ∈ zTI.filter (fun w => !goodWord w), w ∈ zBd := by decide +kernel
theorem zTN_bad : ∀ w ∈ zTN.filter (fun w => !goodWord w), w ∈ zBd := by decide +kernel
theorem zTI_ot : ∀ w ∈ Cond.classLink RX9 133 eI :: Cond.initialized eI :: zTI, vx_ot w = true := by decide +kernel
theorem zTN_ot : ∀ w ∈ Cond.classLink RX9 169 eN :: Cond.initialized eN :: zTN, vx_ot w = true := by decide +kernel
theorem zBd_in : ∀ w ∈ zBd, w ∈ lw_tbl := by decide +kernel
