theorem inX1 : ∀ w ∈ u_ws RX1 TX1 4, w ∈ WA := by decide +kernel
theorem owX1 : ∀ k, k < 4 → (TX1 k).1 = "CookieServer$Entries" := by decide +kernel
theorem dfX1 : ∀ j, j < 4 → defaultValue (tyX1 j) = vp_V [.null, .null, .null, .int 0] j := by decide +kernel
theorem inX2 : ∀ w ∈ u_ws RX2 TX2 2, w ∈ WA := by decide +kernel
theorem owX2 : ∀ k, k < 2 → (TX2 k).1 = "CookieServer$History" := by decide +kernel
theorem dfX2 : ∀ j, j < 2 → defaultValue (tyX2 j) = vp_V [.null, .int 0] j := by decide +kernel
theorem inX3 : ∀ w ∈ u_ws RX3 TX3 1, w ∈ WA := by decide +kernel
theorem owX3 : ∀ k, k < 1 → (TX3 k).1 = "CookieServer$Openings" := by decide +kernel
theorem dfX3 : ∀ j, j < 1 → defaultValue (tyX3 j) = vp_V [.null] j := by decide +kernel
theorem inX4 : ∀ w ∈ u_ws RX4 TX4 2, w ∈ WA := by decide +kernel
theorem owX4 : ∀ k, k < 2 → (TX4 k).1 = "CookieServer$Ports" := by decide +kernel
theorem dfX4 : ∀ j, j < 2 → defaultValue (tyX4 j) = vp_V [.null, .int 0] j := by decide +kernel
theorem inX5 : ∀ w ∈ u_ws RX5 TX5 7, w ∈ WA := by decide +kernel
theorem owX5 : ∀ k, k < 7 → (TX5 k).1 = "CookieServer$Service" := by decide +kernel
theorem dfX5 : ∀ j, j < 7 → defaultValue (tyX5 j) = vp_V [.null, .null, .null, .null, .int 0, .int 0, .int 0] j := by decide +kernel
theorem inX6 : ∀ w ∈ u_ws RX6 TX6 9, w ∈ WA := by decide +kernel
theorem owX6 : ∀ k, k < 9 → (TX6 k).1 = "CookieServer$State" := by decide +kernel
theorem dfX6 : ∀ j, j < 9 → defaultValue (tyX6 j) = vp_V [.int 0, .int 0, .int 0, .int 0, .null, .null, .null, .null, .null] j := by decide +kernel
theorem inX7 : ∀ w ∈ u_ws RX7 TX7 3, w ∈ WA := by decide +kernel
theorem owX7 : ∀ k, k < 3 → (TX7 k).1 = "CookieServer$UsedCookies" := by decide +kernel
theorem dfX7 : ∀ j, j < 3 → defaultValue (tyX7 j) = vp_V [.null, .null, .int 0] j := by decide +kernel
theorem inX8 : ∀ w ∈ u_ws RX8 TX8 3, w ∈ WA := by decide +kernel
theorem owX8 : ∀ k, k < 3 → (TX8 k).1 = "CookieServer" := by decide +kernel
theorem dfX8 : ∀ j, j < 3 → defaultValue (tyX8 j) = vp_V [.null, .null, .null] j := by decide +kernel
theorem inX9 : ∀ w ∈ u_ws RX9 TX9 5, w ∈ WA := by decide +kernel
theorem owX9 : ∀ k, k < 5 → (TX9 k).1 = "CookieServerModel" := by decide +kernel
theorem dfX9 : ∀ j, j < 5 → defaultValue (tyX9 j) = vp_V [.null, .null, .int 0, .null, .long 0] j := by decide +kernel
section WDS
theorem wd_2 : (Jvm.Cond.selects "CookieServer$Entries" ({ cls := "CookieServer$Entries", name := "move", desc := "(II)V" } : Jvm.MethodName) ({ cls := "CookieServer$Entries", name := "move", desc := "(II)V" } : Jvm.MethodName)) ∈ WA := WA_of (i := 2) (by decide +kernel) (by decide +kernel)
theorem wd_3 : (Jvm.Cond.selects "CookieServer$Entries" ({ cls := "CookieServer$Entries", name := "find", desc := "(I)I" } : Jvm.MethodName) ({ cls := "CookieServer$Entries", name := "find", desc := "(I)I" } : Jvm.MethodName)) ∈ WA := WA_of (i := 3) (by decide +kernel) (by decide +kernel)
theorem wd_35 : (Jvm.Cond.initialized "CookieServer$Entries") ∈ WA := WA_of (i := 35) (by decide +kernel) (by decide +kernel)
theorem wd_75 : (Jvm.Cond.fieldLink "CookieServer$Entries" (9 : Nat) "CookieServer$Entries" "places" "[I") ∈ WA := WA_of (i := 75) (by decide +kernel) (by decide +kernel)
theorem wd_76 : (Jvm.Cond.fieldLink "CookieServer$Entries" (15 : Nat) "CookieServer$Entries" "cookies" "[I") ∈ WA := WA_of (i := 76) (by decide +kernel) (by decide +kernel)
theorem wd_77 : (Jvm.Cond.fieldLink "CookieServer$Entries" (18 : Nat) "CookieServer$Entries" "ticks" "[I") ∈ WA := WA_of (i := 77) (by decide +kernel) (by decide +kernel)
theorem wd_78 : (Jvm.Cond.fieldLink "CookieServer$Entries" (21 : Nat) "CookieServer$Entries" "count" "I") ∈ WA := WA_of (i := 78) (by decide +kernel) (by decide +kernel)
theorem wd_282 : (Jvm.Cond.code ({ cls := "CookieServer$Entries", name := "expire", desc := "(I)V" } : Jvm.MethodName) prog_3_method_8_code (4 : Nat) (Option.none : Option Jvm.ClassFile.FieldType)) ∈ WA := WA_of (i := 282) (by decide +kernel) (by decide +kernel)
theorem wd_283 : (Jvm.Cond.methodLink "CookieServer$Entries" (35 : Nat) ({ cls := "CookieServer$Entries", name := "move", desc := "(II)V" } : Jvm.MethodName)) ∈ WA := WA_of (i := 283) (by decide +kernel) (by decide +kernel)
theorem wd_285 : (Jvm.Cond.instanceMethod ({ cls := "CookieServer$Entries", name := "move", desc := "(II)V" } : Jvm.MethodName)) ∈ WA := WA_of (i := 285) (by decide +kernel) (by decide +kernel)
theorem wd_286 : (Jvm.Cond.code ({ cls := "CookieServer$Entries", name := "move", desc := "(II)V" } : Jvm.MethodName) prog_3_method_9_code (3 : Nat) (Option.none : Option Jvm.ClassFile.FieldType)) ∈ WA := WA_of (i := 286) (by decide +kernel) (by decide +kernel)
theorem wd_353 : (Jvm.Cond.code ({ cls := "CookieServer$Entries", name := "keep", desc := "(IIIZ)V" } : Jvm.MethodName) prog_3_method_6_code (6 : Nat) (Option.none : Option Jvm.ClassFile.FieldType)) ∈ WA := WA_of (i := 353) (by decide +kernel) (by decide +kernel)
theorem wd_354 : (Jvm.Cond.methodLink "CookieServer$Entries" (31 : Nat) ({ cls := "CookieServer$Entries", name := "find", desc := "(I)I" } : Jvm.MethodName)) ∈ WA := WA_of (i := 354) (by decide +kernel) (by decide +kernel)
theorem wd_356 : (Jvm.Cond.instanceMethod ({ cls := "CookieServer$Entries", name := "find", desc := "(I)I" } : Jvm.MethodName)) ∈ WA := WA_of (i := 356) (by decide +kernel) (by decide +kernel)
theorem wd_357 : (Jvm.Cond.code ({ cls := "CookieServer$Entries", name := "find", desc := "(I)I" } : Jvm.MethodName) prog_3_method_3_code (3 : Nat) (Option.some Jvm.ClassFile.FieldType.int)) ∈ WA := WA_of (i := 357) (by decide +kernel) (by decide +kernel)
theorem wd_373 : (Jvm.Cond.code ({ cls := "CookieServer$Entries", name := "holds", desc := "(II)Z" } : Jvm.MethodName) prog_3_method_4_code (4 : Nat) (Option.some Jvm.ClassFile.FieldType.boolean)) ∈ WA := WA_of (i := 373) (by decide +kernel) (by decide +kernel)
theorem wd_377 : (Jvm.Cond.code ({ cls := "CookieServer$Entries", name := "drop", desc := "(I)V" } : Jvm.MethodName) prog_3_method_7_code (4 : Nat) (Option.none : Option Jvm.ClassFile.FieldType)) ∈ WA := WA_of (i := 377) (by decide +kernel) (by decide +kernel)
theorem wd_468 : (Jvm.Cond.code ({ cls := "CookieServer$Entries", name := "ageOf", desc := "(II)I" } : Jvm.MethodName) prog_3_method_5_code (4 : Nat) (Option.some Jvm.ClassFile.FieldType.int)) ∈ WA := WA_of (i := 468) (by decide +kernel) (by decide +kernel)
end WDS
