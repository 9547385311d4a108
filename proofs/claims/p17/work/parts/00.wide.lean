/-! arrays over arrays: their class is there -/
theorem ov_class {args : Array Value} {s : State} {t : FieldType} (h : (Cond.arrayOver (.array t)).before args s = true) : ∃ cA : ClassId, s.vm.findClass ("[" ++ (FieldType.array t).toString) = some cA := by
  obtain ⟨comp, cA, k, h1, h2, h3, h4⟩ := Cond.arrayOver_specA h
  exact ⟨cA, h4⟩
