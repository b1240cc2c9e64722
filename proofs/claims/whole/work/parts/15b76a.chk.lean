theorem ckL_6_0 : (kL_law_6.take 40).all (c_op 20 298 false cL_law (some FieldType.boolean)) = true := by decide +kernel
theorem ckL_6_40 : ((kL_law_6.drop 40).take 40).all (c_op 20 298 false cL_law (some FieldType.boolean)) = true := by decide +kernel
theorem ckL_6_80 : ((kL_law_6.drop 80).take 40).all (c_op 20 298 false cL_law (some FieldType.boolean)) = true := by decide +kernel
