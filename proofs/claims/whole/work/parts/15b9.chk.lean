theorem ck_L_law : c_meth 20 298 false qL_law = true := by
  show (kL_law_0 ++ (kL_law_1 ++ (kL_law_2 ++ (kL_law_3 ++ (kL_law_4 ++ (kL_law_5 ++ (kL_law_6 ++ (kL_law_7)))))))).all (c_op 20 298 false cL_law (some FieldType.boolean)) = true
  simp only [List.all_append, ckL_0, ckL_1, ckL_2, ckL_3, ckL_4, ckL_5, ckL_6, ckL_7, Bool.and_self]
