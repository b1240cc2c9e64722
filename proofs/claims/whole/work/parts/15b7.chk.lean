/-! the law by its chunks -/
theorem ckL_4 : kL_law_4.all (c_op 20 298 false cL_law (some FieldType.boolean)) = true := by decide +kernel
theorem ckL_5 : kL_law_5.all (c_op 20 298 false cL_law (some FieldType.boolean)) = true := by decide +kernel
