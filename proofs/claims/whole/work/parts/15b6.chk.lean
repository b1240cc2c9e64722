/-! the law by its chunks -/
theorem ckL_2 : kL_law_2.all (c_op 20 298 false cL_law (some FieldType.boolean)) = true := by decide +kernel
