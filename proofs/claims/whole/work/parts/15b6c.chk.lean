theorem ckL_3_120 : ((kL_law_3.drop 120).take 40).all (c_op 20 298 false cL_law (some FieldType.boolean)) = true := by decide +kernel
theorem ckL_3_160 : (kL_law_3.drop 160).all (c_op 20 298 false cL_law (some FieldType.boolean)) = true := by decide +kernel
theorem ckL_3 : kL_law_3.all (c_op 20 298 false cL_law (some FieldType.boolean)) = true := c_all2 40 ckL_3_0 (c_all3 40 40 ckL_3_40 (c_all3 80 40 ckL_3_80 (c_all3 120 40 ckL_3_120 (ckL_3_160))))
