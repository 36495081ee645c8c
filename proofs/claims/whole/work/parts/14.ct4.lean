theorem mw_670 : .classLink RCL 7 RC0 ∈ wAll := wa (tb_1 _ (List.mem_of_getElem? (i := 11) rfl)) rfl
theorem mw_671 : .instantiable RC0 5 ∈ wAll := wa (tb_1 _ (List.mem_of_getElem? (i := 12) rfl)) rfl
theorem mw_672 : .code yC0_init cC0_init 1 none ∈ wAll := wa (tb_1 _ (List.mem_of_getElem? (i := 15) rfl)) rfl
theorem mw_673 : .methodLink RCL 9 yC0_init ∈ wAll := wa (tb_1 _ (List.mem_of_getElem? (i := 13) rfl)) rfl
theorem mw_674 : .instanceMethod yC0_init ∈ wAll := wa (tb_1 _ (List.mem_of_getElem? (i := 14) rfl)) rfl
theorem mw_675 : .classLink RCL 10 RCM ∈ wAll := wa (tb_3 _ (List.mem_of_getElem? (i := 79) rfl)) rfl
theorem mw_676 : .instantiable RCM 23 ∈ wAll := wa (tb_3 _ (List.mem_of_getElem? (i := 80) rfl)) rfl
theorem mw_677 : .code yCM_init cCM_init 1 none ∈ wAll := wa (tb_3 _ (List.mem_of_getElem? (i := 83) rfl)) rfl
theorem mw_678 : .methodLink RCL 12 yCM_init ∈ wAll := wa (tb_3 _ (List.mem_of_getElem? (i := 81) rfl)) rfl
theorem mw_679 : .instanceMethod yCM_init ∈ wAll := wa (tb_3 _ (List.mem_of_getElem? (i := 82) rfl)) rfl
theorem dCL_law_0 : decode code 0 = .ok (.new 7, 3) := by decide +kernel
theorem dCL_law_3 : decode code 3 = .ok (.dup, 1) := by decide +kernel
theorem dCL_law_4 : decode code 4 = .ok (.invokespecial 9, 3) := by decide +kernel
theorem dCL_law_7 : decode code 7 = .ok (.astore_n 1, 1) := by decide +kernel
theorem dCL_law_8 : decode code 8 = .ok (.new 10, 3) := by decide +kernel
theorem dCL_law_11 : decode code 11 = .ok (.dup, 1) := by decide +kernel
theorem dCL_law_12 : decode code 12 = .ok (.invokespecial 12, 3) := by decide +kernel
theorem dCL_law_15 : decode code 15 = .ok (.astore_n 2, 1) := by decide +kernel
theorem dCL_law_16 : decode code 16 = .ok (.iconst 0, 1) := by decide +kernel
theorem dCL_law_17 : decode code 17 = .ok (.istore_n 3, 1) := by decide +kernel
