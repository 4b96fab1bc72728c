/-! words with long bytes -/
set_option maxRecDepth 100000 in
theorem jw_434 : (Jvm.Cond.code ({ cls := "CoreLeasesLaw", name := "told", desc := "(LCoreLeases;I[I[I[I[I[I[I[I[I)Z" } : Jvm.MethodName) method_17_code (21 : Nat) (Option.some Jvm.ClassFile.FieldType.boolean)) ∈ jall := jt 434 rfl rfl
set_option maxRecDepth 100000 in
theorem jw_709 : (Jvm.Cond.code ({ cls := "CoreLeasesLaw", name := "act", desc := "(LCoreLeases;III[I[I[I[I[I[I[I[I)Z" } : Jvm.MethodName) method_22_code (19 : Nat) (Option.some Jvm.ClassFile.FieldType.boolean)) ∈ jall := jt 709 rfl rfl
