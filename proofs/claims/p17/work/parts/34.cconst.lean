/-! constants of the class -/
theorem kc_80 : rg (80) (80) (80 : Int32) := ⟨by decide, by decide⟩
theorem kc_212 : rg (212) (212) (212 : Int32) := ⟨by decide, by decide⟩
theorem kc_480 : rg (480) (480) (480 : Int32) := ⟨by decide, by decide⟩
theorem kc_8388608 : rg (8388608) (8388608) (8388608 : Int32) := ⟨by decide, by decide⟩
theorem kc_2147483639 : rg (2147483639) (2147483639) (2147483639 : Int32) := ⟨by decide, by decide⟩
