theorem ckL_7 : kL_law_7.all (c_op 20 298 false cL_law (some FieldType.boolean)) = true := by decide +kernel
