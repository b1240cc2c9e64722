/-! the law by its chunks -/
theorem ckL_3 : kL_law_3.all (c_op 20 298 false cL_law (some FieldType.boolean)) = true := by decide +kernel
