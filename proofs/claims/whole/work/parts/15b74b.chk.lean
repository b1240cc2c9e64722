theorem ckL_4_120 : ((kL_law_4.drop 120).take 40).all (c_op 20 298 false cL_law (some FieldType.boolean)) = true := by decide +kernel
theorem ckL_4_160 : (kL_law_4.drop 160).all (c_op 20 298 false cL_law (some FieldType.boolean)) = true := by decide +kernel
theorem ckL_4 : kL_law_4.all (c_op 20 298 false cL_law (some FieldType.boolean)) = true := c_all2 40 ckL_4_0 (c_all3 40 40 ckL_4_40 (c_all3 80 40 ckL_4_80 (c_all3 120 40 ckL_4_120 (ckL_4_160))))
