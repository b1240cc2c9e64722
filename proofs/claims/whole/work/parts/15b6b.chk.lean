theorem c_all2 {α : Type} {f : α → Bool} {l : List α} (n : Nat) (h1 : (l.take n).all f = true) (h2 : (l.drop n).all f = true) : l.all f = true := by
  rw [← List.take_append_drop n l, List.all_append, h1, h2]; rfl
theorem c_all3 {α : Type} {f : α → Bool} {l : List α} (i n : Nat) (h1 : ((l.drop i).take n).all f = true) (h2 : (l.drop (i + n)).all f = true) : (l.drop i).all f = true := c_all2 n h1 (by rw [List.drop_drop]; exact h2)
theorem ckL_3_0 : (kL_law_3.take 40).all (c_op 20 298 false cL_law (some FieldType.boolean)) = true := by decide +kernel
theorem ckL_3_40 : ((kL_law_3.drop 40).take 40).all (c_op 20 298 false cL_law (some FieldType.boolean)) = true := by decide +kernel
theorem ckL_3_80 : ((kL_law_3.drop 80).take 40).all (c_op 20 298 false cL_law (some FieldType.boolean)) = true := by decide +kernel
