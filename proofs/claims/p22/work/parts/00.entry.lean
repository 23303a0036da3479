/-! what the class file of the law says of its entry: it has a table of one row; the word for a method without a table is false of it -/
theorem p22_no : classFile.hasCode x code maxLocals ret = false := by decide +kernel
theorem p22_with : classFile.hasCodeWith x code maxLocals ret [(166, 182, 185, 31)] = true := by decide +kernel
/-- so no launch with this class file meets the claim's premises -/
theorem p22_empty (l : Launch) : ¬ Lists l classFile x code maxLocals ret tables_1 room_1 := by
  intro h
  obtain ⟨-, hf, hc, -⟩ := h
  have h1 := hc.1 (x, code, maxLocals, ret) (List.mem_append_left _ (List.mem_of_getElem? (i := 0) rfl))
  dsimp only at h1
  rw [hf] at h1
  have h2 : classFile.hasCode x code maxLocals ret = true := by simpa using h1
  rw [p22_no] at h2
  cases h2
