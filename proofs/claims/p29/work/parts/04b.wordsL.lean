set_option maxRecDepth 100000 in
theorem aw_193 : Cond.code yL_draw cL_draw 2 (some (Jvm.ClassFile.FieldType.int)) ∈ AW := aw_mem (i := 193) (by first | rfl | decide +kernel) (by first | rfl | decide +kernel)
set_option maxRecDepth 100000 in
theorem aw_198 : Cond.code yL_errors cL_errors 6 (some (Jvm.ClassFile.FieldType.boolean)) ∈ AW := aw_mem (i := 198) (by first | rfl | decide +kernel) (by first | rfl | decide +kernel)
set_option maxRecDepth 100000 in
theorem aw_201 : Cond.code yL_now cL_now 5 (some (Jvm.ClassFile.FieldType.long)) ∈ AW := aw_mem (i := 201) (by first | rfl | decide +kernel) (by first | rfl | decide +kernel)
set_option maxRecDepth 100000 in
theorem aw_665 : Cond.code yL_kept cL_kept 22 (some (Jvm.ClassFile.FieldType.boolean)) ∈ AW := aw_mem (i := 665) (by first | rfl | decide +kernel) (by first | rfl | decide +kernel)
set_option maxRecDepth 100000 in
theorem aw_669 : Cond.code yL_in cL_in 6 (some (Jvm.ClassFile.FieldType.boolean)) ∈ AW := aw_mem (i := 669) (by first | rfl | decide +kernel) (by first | rfl | decide +kernel)
set_option maxRecDepth 100000 in
theorem aw_682 : Cond.code yL_follows cL_follows 23 (some (Jvm.ClassFile.FieldType.boolean)) ∈ AW := aw_mem (i := 682) (by first | rfl | decide +kernel) (by first | rfl | decide +kernel)
set_option maxRecDepth 100000 in
theorem aw_760 : Cond.code yL_alike cL_alike 3 (some (Jvm.ClassFile.FieldType.boolean)) ∈ AW := aw_mem (i := 760) (by first | rfl | decide +kernel) (by first | rfl | decide +kernel)
set_option maxRecDepth 100000 in
theorem aw_830 : Cond.code yL_act cL_act 4 (some (Jvm.ClassFile.FieldType.long)) ∈ AW := aw_mem (i := 830) (by first | rfl | decide +kernel) (by first | rfl | decide +kernel)
set_option maxRecDepth 100000 in
theorem aw_833 : Cond.code yL_told cL_told 5 (some (Jvm.ClassFile.FieldType.long)) ∈ AW := aw_mem (i := 833) (by first | rfl | decide +kernel) (by first | rfl | decide +kernel)
set_option maxRecDepth 100000 in
theorem aw_844 : Cond.code yL_says cL_says 4 (some (Jvm.ClassFile.FieldType.boolean)) ∈ AW := aw_mem (i := 844) (by first | rfl | decide +kernel) (by first | rfl | decide +kernel)
set_option maxRecDepth 100000 in
theorem aw_882 : Cond.code yL_wipes cL_wipes 3 (some (Jvm.ClassFile.FieldType.boolean)) ∈ AW := aw_mem (i := 882) (by first | rfl | decide +kernel) (by first | rfl | decide +kernel)
