/-! the law by its chunks -/
theorem ckL_0 : kL_law_0.all (c_op 20 298 false cL_law (some FieldType.boolean)) = true := by decide +kernel
theorem ckL_1 : kL_law_1.all (c_op 20 298 false cL_law (some FieldType.boolean)) = true := by decide +kernel
