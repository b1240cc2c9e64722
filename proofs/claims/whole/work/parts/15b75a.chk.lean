theorem ckL_5_0 : (kL_law_5.take 40).all (c_op 20 298 false cL_law (some FieldType.boolean)) = true := by decide +kernel
theorem ckL_5_40 : ((kL_law_5.drop 40).take 40).all (c_op 20 298 false cL_law (some FieldType.boolean)) = true := by decide +kernel
theorem ckL_5_80 : ((kL_law_5.drop 80).take 40).all (c_op 20 298 false cL_law (some FieldType.boolean)) = true := by decide +kernel
