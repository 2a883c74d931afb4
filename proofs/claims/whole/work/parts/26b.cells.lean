theorem cb_int : componentBytes FieldType.int = 4 := rfl
theorem cb_long : componentBytes FieldType.long = 8 := rfl
theorem cb_boolean : componentBytes FieldType.boolean = 1 := rfl
theorem ac_int (n : Nat) (cA : ClassId) : vp_cell cA (n, .inl (fun _ => nI 0)) = arrV cA n (fun _ => defaultValue FieldType.int) := by rw [vp_cell_i, nI_0]; rfl
theorem ac_long (n : Nat) (cA : ClassId) : vp_cell cA (n, .inr (.inl (fun _ => 0))) = arrV cA n (fun _ => defaultValue FieldType.long) := by rw [vp_cell_l]; rfl
theorem ac_boolean (n : Nat) (cA : ClassId) : vp_cell cA (n, .inl (fun _ => bI false)) = arrV cA n (fun _ => defaultValue FieldType.boolean) := by rw [vp_cell_i]; rfl
