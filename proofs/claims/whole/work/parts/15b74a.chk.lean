theorem ckL_4_0 : (kL_law_4.take 40).all (c_op 20 298 false cL_law (some FieldType.boolean)) = true := by decide +kernel
theorem ckL_4_40 : ((kL_law_4.drop 40).take 40).all (c_op 20 298 false cL_law (some FieldType.boolean)) = true := by decide +kernel
theorem ckL_4_80 : ((kL_law_4.drop 80).take 40).all (c_op 20 298 false cL_law (some FieldType.boolean)) = true := by decide +kernel
