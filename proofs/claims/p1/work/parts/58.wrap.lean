theorem wd_695 : (Jvm.Cond.classLink "StreamSplitterLaw" (13 : Nat) "java/lang/IllegalArgumentException") ∈ lw_ok := List.mem_filter.mpr ⟨List.mem_of_getElem? (i := 695) (by decide +kernel), rfl⟩
theorem wd_696 : (Jvm.Cond.methodLink "StreamSplitterLaw" (7 : Nat) ({ cls := "StreamSplitter", name := "feed", desc := "(IJ)I" } : Jvm.MethodName)) ∈ lw_ok := List.mem_filter.mpr ⟨List.mem_of_getElem? (i := 696) (by decide +kernel), rfl⟩
theorem wd_697 : (Jvm.Cond.instanceMethod ({ cls := "StreamSplitter", name := "feed", desc := "(IJ)I" } : Jvm.MethodName)) ∈ lw_ok := List.mem_filter.mpr ⟨List.mem_of_getElem? (i := 697) (by decide +kernel), rfl⟩
theorem wd_698 : (Jvm.Cond.selects "StreamSplitter" ({ cls := "StreamSplitter", name := "feed", desc := "(IJ)I" } : Jvm.MethodName) ({ cls := "StreamSplitter", name := "feed", desc := "(IJ)I" } : Jvm.MethodName)) ∈ lw_ok := List.mem_filter.mpr ⟨List.mem_of_getElem? (i := 698) (by decide +kernel), rfl⟩
set_option maxRecDepth 100000 in
theorem wd_699 : (Jvm.Cond.code ({ cls := "StreamSplitter", name := "feed", desc := "(IJ)I" } : Jvm.MethodName) prog_1_method_2_code (6 : Nat) (Option.some Jvm.ClassFile.FieldType.int)) ∈ lw_ok := List.mem_filter.mpr ⟨List.mem_of_getElem? (i := 699) (by rfl), rfl⟩
theorem wd_702 : (Jvm.Cond.castable "java/lang/IllegalArgumentException" "java/lang/IllegalArgumentException") ∈ lw_ok := List.mem_filter.mpr ⟨List.mem_of_getElem? (i := 702) (by decide +kernel), rfl⟩
theorem wd_770 : (Jvm.Cond.classLink "StreamSplitterLaw" (19 : Nat) "java/lang/IndexOutOfBoundsException") ∈ lw_ok := List.mem_filter.mpr ⟨List.mem_of_getElem? (i := 770) (by decide +kernel), rfl⟩
theorem wd_771 : (Jvm.Cond.methodLink "StreamSplitterLaw" (15 : Nat) ({ cls := "StreamSplitter", name := "spoil", desc := "(II)I" } : Jvm.MethodName)) ∈ lw_ok := List.mem_filter.mpr ⟨List.mem_of_getElem? (i := 771) (by decide +kernel), rfl⟩
theorem wd_772 : (Jvm.Cond.instanceMethod ({ cls := "StreamSplitter", name := "spoil", desc := "(II)I" } : Jvm.MethodName)) ∈ lw_ok := List.mem_filter.mpr ⟨List.mem_of_getElem? (i := 772) (by decide +kernel), rfl⟩
theorem wd_773 : (Jvm.Cond.selects "StreamSplitter" ({ cls := "StreamSplitter", name := "spoil", desc := "(II)I" } : Jvm.MethodName) ({ cls := "StreamSplitter", name := "spoil", desc := "(II)I" } : Jvm.MethodName)) ∈ lw_ok := List.mem_filter.mpr ⟨List.mem_of_getElem? (i := 773) (by decide +kernel), rfl⟩
set_option maxRecDepth 100000 in
theorem wd_774 : (Jvm.Cond.code ({ cls := "StreamSplitter", name := "spoil", desc := "(II)I" } : Jvm.MethodName) prog_1_method_3_code (5 : Nat) (Option.some Jvm.ClassFile.FieldType.int)) ∈ lw_ok := List.mem_filter.mpr ⟨List.mem_of_getElem? (i := 774) (by rfl), rfl⟩
theorem wd_777 : (Jvm.Cond.castable "java/lang/IndexOutOfBoundsException" "java/lang/IndexOutOfBoundsException") ∈ lw_ok := List.mem_filter.mpr ⟨List.mem_of_getElem? (i := 777) (by decide +kernel), rfl⟩
theorem wd_799 : (Jvm.Cond.methodLink "StreamSplitterLaw" (21 : Nat) ({ cls := "StreamSplitter", name := "drop", desc := "(II)I" } : Jvm.MethodName)) ∈ lw_ok := List.mem_filter.mpr ⟨List.mem_of_getElem? (i := 799) (by decide +kernel), rfl⟩
theorem wd_800 : (Jvm.Cond.instanceMethod ({ cls := "StreamSplitter", name := "drop", desc := "(II)I" } : Jvm.MethodName)) ∈ lw_ok := List.mem_filter.mpr ⟨List.mem_of_getElem? (i := 800) (by decide +kernel), rfl⟩
theorem wd_801 : (Jvm.Cond.selects "StreamSplitter" ({ cls := "StreamSplitter", name := "drop", desc := "(II)I" } : Jvm.MethodName) ({ cls := "StreamSplitter", name := "drop", desc := "(II)I" } : Jvm.MethodName)) ∈ lw_ok := List.mem_filter.mpr ⟨List.mem_of_getElem? (i := 801) (by decide +kernel), rfl⟩
set_option maxRecDepth 100000 in
theorem wd_802 : (Jvm.Cond.code ({ cls := "StreamSplitter", name := "drop", desc := "(II)I" } : Jvm.MethodName) prog_1_method_5_code (4 : Nat) (Option.some Jvm.ClassFile.FieldType.int)) ∈ lw_ok := List.mem_filter.mpr ⟨List.mem_of_getElem? (i := 802) (by rfl), rfl⟩
theorem wd_807 : (Jvm.Cond.methodLink "StreamSplitterLaw" (24 : Nat) ({ cls := "StreamSplitter", name := "seal", desc := "(II)V" } : Jvm.MethodName)) ∈ lw_ok := List.mem_filter.mpr ⟨List.mem_of_getElem? (i := 807) (by decide +kernel), rfl⟩
theorem wd_808 : (Jvm.Cond.instanceMethod ({ cls := "StreamSplitter", name := "seal", desc := "(II)V" } : Jvm.MethodName)) ∈ lw_ok := List.mem_filter.mpr ⟨List.mem_of_getElem? (i := 808) (by decide +kernel), rfl⟩
theorem wd_809 : (Jvm.Cond.selects "StreamSplitter" ({ cls := "StreamSplitter", name := "seal", desc := "(II)V" } : Jvm.MethodName) ({ cls := "StreamSplitter", name := "seal", desc := "(II)V" } : Jvm.MethodName)) ∈ lw_ok := List.mem_filter.mpr ⟨List.mem_of_getElem? (i := 809) (by decide +kernel), rfl⟩
set_option maxRecDepth 100000 in
theorem wd_810 : (Jvm.Cond.code ({ cls := "StreamSplitter", name := "seal", desc := "(II)V" } : Jvm.MethodName) prog_1_method_6_code (6 : Nat) (Option.none : Option Jvm.ClassFile.FieldType)) ∈ lw_ok := List.mem_filter.mpr ⟨List.mem_of_getElem? (i := 810) (by rfl), rfl⟩
theorem wd_815 : (Jvm.Cond.methodLink "StreamSplitterLaw" (28 : Nat) ({ cls := "StreamSplitter", name := "told", desc := "(I)I" } : Jvm.MethodName)) ∈ lw_ok := List.mem_filter.mpr ⟨List.mem_of_getElem? (i := 815) (by decide +kernel), rfl⟩
theorem wd_816 : (Jvm.Cond.instanceMethod ({ cls := "StreamSplitter", name := "told", desc := "(I)I" } : Jvm.MethodName)) ∈ lw_ok := List.mem_filter.mpr ⟨List.mem_of_getElem? (i := 816) (by decide +kernel), rfl⟩
theorem wd_817 : (Jvm.Cond.selects "StreamSplitter" ({ cls := "StreamSplitter", name := "told", desc := "(I)I" } : Jvm.MethodName) ({ cls := "StreamSplitter", name := "told", desc := "(I)I" } : Jvm.MethodName)) ∈ lw_ok := List.mem_filter.mpr ⟨List.mem_of_getElem? (i := 817) (by decide +kernel), rfl⟩
set_option maxRecDepth 100000 in
theorem wd_818 : (Jvm.Cond.code ({ cls := "StreamSplitter", name := "told", desc := "(I)I" } : Jvm.MethodName) prog_1_method_8_code (2 : Nat) (Option.some Jvm.ClassFile.FieldType.int)) ∈ lw_ok := List.mem_filter.mpr ⟨List.mem_of_getElem? (i := 818) (by rfl), rfl⟩
theorem wd_824 : (Jvm.Cond.methodLink "StreamSplitterLaw" (32 : Nat) ({ cls := "StreamSplitter", name := "programme", desc := "(II)I" } : Jvm.MethodName)) ∈ lw_ok := List.mem_filter.mpr ⟨List.mem_of_getElem? (i := 824) (by decide +kernel), rfl⟩
theorem wd_825 : (Jvm.Cond.instanceMethod ({ cls := "StreamSplitter", name := "programme", desc := "(II)I" } : Jvm.MethodName)) ∈ lw_ok := List.mem_filter.mpr ⟨List.mem_of_getElem? (i := 825) (by decide +kernel), rfl⟩
theorem wd_826 : (Jvm.Cond.selects "StreamSplitter" ({ cls := "StreamSplitter", name := "programme", desc := "(II)I" } : Jvm.MethodName) ({ cls := "StreamSplitter", name := "programme", desc := "(II)I" } : Jvm.MethodName)) ∈ lw_ok := List.mem_filter.mpr ⟨List.mem_of_getElem? (i := 826) (by decide +kernel), rfl⟩
set_option maxRecDepth 100000 in
theorem wd_827 : (Jvm.Cond.code ({ cls := "StreamSplitter", name := "programme", desc := "(II)I" } : Jvm.MethodName) prog_1_method_9_code (4 : Nat) (Option.some Jvm.ClassFile.FieldType.int)) ∈ lw_ok := List.mem_filter.mpr ⟨List.mem_of_getElem? (i := 827) (by rfl), rfl⟩
theorem wd_837 : (Jvm.Cond.methodLink "StreamSplitterLaw" (35 : Nat) ({ cls := "StreamSplitter", name := "stream", desc := "(II)I" } : Jvm.MethodName)) ∈ lw_ok := List.mem_filter.mpr ⟨List.mem_of_getElem? (i := 837) (by decide +kernel), rfl⟩
theorem wd_838 : (Jvm.Cond.instanceMethod ({ cls := "StreamSplitter", name := "stream", desc := "(II)I" } : Jvm.MethodName)) ∈ lw_ok := List.mem_filter.mpr ⟨List.mem_of_getElem? (i := 838) (by decide +kernel), rfl⟩
theorem wd_839 : (Jvm.Cond.selects "StreamSplitter" ({ cls := "StreamSplitter", name := "stream", desc := "(II)I" } : Jvm.MethodName) ({ cls := "StreamSplitter", name := "stream", desc := "(II)I" } : Jvm.MethodName)) ∈ lw_ok := List.mem_filter.mpr ⟨List.mem_of_getElem? (i := 839) (by decide +kernel), rfl⟩
set_option maxRecDepth 100000 in
theorem wd_840 : (Jvm.Cond.code ({ cls := "StreamSplitter", name := "stream", desc := "(II)I" } : Jvm.MethodName) prog_1_method_10_code (5 : Nat) (Option.some Jvm.ClassFile.FieldType.int)) ∈ lw_ok := List.mem_filter.mpr ⟨List.mem_of_getElem? (i := 840) (by rfl), rfl⟩
theorem wd_847 : (Jvm.Cond.methodLink "StreamSplitterLaw" (38 : Nat) ({ cls := "StreamSplitter", name := "now", desc := "(I)J" } : Jvm.MethodName)) ∈ lw_ok := List.mem_filter.mpr ⟨List.mem_of_getElem? (i := 847) (by decide +kernel), rfl⟩
theorem wd_848 : (Jvm.Cond.instanceMethod ({ cls := "StreamSplitter", name := "now", desc := "(I)J" } : Jvm.MethodName)) ∈ lw_ok := List.mem_filter.mpr ⟨List.mem_of_getElem? (i := 848) (by decide +kernel), rfl⟩
theorem wd_849 : (Jvm.Cond.selects "StreamSplitter" ({ cls := "StreamSplitter", name := "now", desc := "(I)J" } : Jvm.MethodName) ({ cls := "StreamSplitter", name := "now", desc := "(I)J" } : Jvm.MethodName)) ∈ lw_ok := List.mem_filter.mpr ⟨List.mem_of_getElem? (i := 849) (by decide +kernel), rfl⟩
set_option maxRecDepth 100000 in
theorem wd_850 : (Jvm.Cond.code ({ cls := "StreamSplitter", name := "now", desc := "(I)J" } : Jvm.MethodName) prog_1_method_11_code (3 : Nat) (Option.some Jvm.ClassFile.FieldType.long)) ∈ lw_ok := List.mem_filter.mpr ⟨List.mem_of_getElem? (i := 850) (by rfl), rfl⟩
theorem wd_854 : (Jvm.Cond.methodLink "StreamSplitterLaw" (42 : Nat) ({ cls := "StreamSplitter", name := "order", desc := "(III)J" } : Jvm.MethodName)) ∈ lw_ok := List.mem_filter.mpr ⟨List.mem_of_getElem? (i := 854) (by decide +kernel), rfl⟩
theorem wd_855 : (Jvm.Cond.instanceMethod ({ cls := "StreamSplitter", name := "order", desc := "(III)J" } : Jvm.MethodName)) ∈ lw_ok := List.mem_filter.mpr ⟨List.mem_of_getElem? (i := 855) (by decide +kernel), rfl⟩
theorem wd_856 : (Jvm.Cond.selects "StreamSplitter" ({ cls := "StreamSplitter", name := "order", desc := "(III)J" } : Jvm.MethodName) ({ cls := "StreamSplitter", name := "order", desc := "(III)J" } : Jvm.MethodName)) ∈ lw_ok := List.mem_filter.mpr ⟨List.mem_of_getElem? (i := 856) (by decide +kernel), rfl⟩
set_option maxRecDepth 100000 in
theorem wd_857 : (Jvm.Cond.code ({ cls := "StreamSplitter", name := "order", desc := "(III)J" } : Jvm.MethodName) prog_1_method_12_code (6 : Nat) (Option.some Jvm.ClassFile.FieldType.long)) ∈ lw_ok := List.mem_filter.mpr ⟨List.mem_of_getElem? (i := 857) (by rfl), rfl⟩
theorem wd_865 : (Jvm.Cond.methodLink "StreamSplitterLaw" (46 : Nat) ({ cls := "StreamSplitter", name := "piece", desc := "(II)J" } : Jvm.MethodName)) ∈ lw_ok := List.mem_filter.mpr ⟨List.mem_of_getElem? (i := 865) (by decide +kernel), rfl⟩
theorem wd_866 : (Jvm.Cond.instanceMethod ({ cls := "StreamSplitter", name := "piece", desc := "(II)J" } : Jvm.MethodName)) ∈ lw_ok := List.mem_filter.mpr ⟨List.mem_of_getElem? (i := 866) (by decide +kernel), rfl⟩
theorem wd_867 : (Jvm.Cond.selects "StreamSplitter" ({ cls := "StreamSplitter", name := "piece", desc := "(II)J" } : Jvm.MethodName) ({ cls := "StreamSplitter", name := "piece", desc := "(II)J" } : Jvm.MethodName)) ∈ lw_ok := List.mem_filter.mpr ⟨List.mem_of_getElem? (i := 867) (by decide +kernel), rfl⟩
set_option maxRecDepth 100000 in
theorem wd_868 : (Jvm.Cond.code ({ cls := "StreamSplitter", name := "piece", desc := "(II)J" } : Jvm.MethodName) prog_1_method_13_code (4 : Nat) (Option.some Jvm.ClassFile.FieldType.long)) ∈ lw_ok := List.mem_filter.mpr ⟨List.mem_of_getElem? (i := 868) (by rfl), rfl⟩
theorem wd_877 : (Jvm.Cond.methodLink "StreamSplitterLaw" (50 : Nat) ({ cls := "StreamSplitter", name := "clock", desc := "(I)J" } : Jvm.MethodName)) ∈ lw_ok := List.mem_filter.mpr ⟨List.mem_of_getElem? (i := 877) (by decide +kernel), rfl⟩
theorem wd_878 : (Jvm.Cond.instanceMethod ({ cls := "StreamSplitter", name := "clock", desc := "(I)J" } : Jvm.MethodName)) ∈ lw_ok := List.mem_filter.mpr ⟨List.mem_of_getElem? (i := 878) (by decide +kernel), rfl⟩
theorem wd_879 : (Jvm.Cond.selects "StreamSplitter" ({ cls := "StreamSplitter", name := "clock", desc := "(I)J" } : Jvm.MethodName) ({ cls := "StreamSplitter", name := "clock", desc := "(I)J" } : Jvm.MethodName)) ∈ lw_ok := List.mem_filter.mpr ⟨List.mem_of_getElem? (i := 879) (by decide +kernel), rfl⟩
set_option maxRecDepth 100000 in
theorem wd_880 : (Jvm.Cond.code ({ cls := "StreamSplitter", name := "clock", desc := "(I)J" } : Jvm.MethodName) prog_1_method_14_code (3 : Nat) (Option.some Jvm.ClassFile.FieldType.long)) ∈ lw_ok := List.mem_filter.mpr ⟨List.mem_of_getElem? (i := 880) (by rfl), rfl⟩
theorem wd_889 : (Jvm.Cond.methodLink "StreamSplitterLaw" (53 : Nat) ({ cls := "StreamSplitter", name := "plan", desc := "(II)I" } : Jvm.MethodName)) ∈ lw_ok := List.mem_filter.mpr ⟨List.mem_of_getElem? (i := 889) (by decide +kernel), rfl⟩
theorem wd_890 : (Jvm.Cond.instanceMethod ({ cls := "StreamSplitter", name := "plan", desc := "(II)I" } : Jvm.MethodName)) ∈ lw_ok := List.mem_filter.mpr ⟨List.mem_of_getElem? (i := 890) (by decide +kernel), rfl⟩
theorem wd_891 : (Jvm.Cond.selects "StreamSplitter" ({ cls := "StreamSplitter", name := "plan", desc := "(II)I" } : Jvm.MethodName) ({ cls := "StreamSplitter", name := "plan", desc := "(II)I" } : Jvm.MethodName)) ∈ lw_ok := List.mem_filter.mpr ⟨List.mem_of_getElem? (i := 891) (by decide +kernel), rfl⟩
set_option maxRecDepth 100000 in
theorem wd_892 : (Jvm.Cond.code ({ cls := "StreamSplitter", name := "plan", desc := "(II)I" } : Jvm.MethodName) prog_1_method_15_code (3 : Nat) (Option.some Jvm.ClassFile.FieldType.int)) ∈ lw_ok := List.mem_filter.mpr ⟨List.mem_of_getElem? (i := 892) (by rfl), rfl⟩
theorem wd_922 : (Jvm.Cond.methodLink "StreamSplitterLaw" (56 : Nat) ({ cls := "StreamSplitter", name := "addStream", desc := "(III)I" } : Jvm.MethodName)) ∈ lw_ok := List.mem_filter.mpr ⟨List.mem_of_getElem? (i := 922) (by decide +kernel), rfl⟩
theorem wd_923 : (Jvm.Cond.instanceMethod ({ cls := "StreamSplitter", name := "addStream", desc := "(III)I" } : Jvm.MethodName)) ∈ lw_ok := List.mem_filter.mpr ⟨List.mem_of_getElem? (i := 923) (by decide +kernel), rfl⟩
theorem wd_924 : (Jvm.Cond.selects "StreamSplitter" ({ cls := "StreamSplitter", name := "addStream", desc := "(III)I" } : Jvm.MethodName) ({ cls := "StreamSplitter", name := "addStream", desc := "(III)I" } : Jvm.MethodName)) ∈ lw_ok := List.mem_filter.mpr ⟨List.mem_of_getElem? (i := 924) (by decide +kernel), rfl⟩
set_option maxRecDepth 100000 in
theorem wd_925 : (Jvm.Cond.code ({ cls := "StreamSplitter", name := "addStream", desc := "(III)I" } : Jvm.MethodName) prog_1_method_16_code (5 : Nat) (Option.some Jvm.ClassFile.FieldType.int)) ∈ lw_ok := List.mem_filter.mpr ⟨List.mem_of_getElem? (i := 925) (by rfl), rfl⟩
theorem wd_932 : (Jvm.Cond.methodLink "StreamSplitterLaw" (60 : Nat) ({ cls := "StreamSplitter", name := "writeTables", desc := "(I)I" } : Jvm.MethodName)) ∈ lw_ok := List.mem_filter.mpr ⟨List.mem_of_getElem? (i := 932) (by decide +kernel), rfl⟩
theorem wd_933 : (Jvm.Cond.instanceMethod ({ cls := "StreamSplitter", name := "writeTables", desc := "(I)I" } : Jvm.MethodName)) ∈ lw_ok := List.mem_filter.mpr ⟨List.mem_of_getElem? (i := 933) (by decide +kernel), rfl⟩
theorem wd_934 : (Jvm.Cond.selects "StreamSplitter" ({ cls := "StreamSplitter", name := "writeTables", desc := "(I)I" } : Jvm.MethodName) ({ cls := "StreamSplitter", name := "writeTables", desc := "(I)I" } : Jvm.MethodName)) ∈ lw_ok := List.mem_filter.mpr ⟨List.mem_of_getElem? (i := 934) (by decide +kernel), rfl⟩
set_option maxRecDepth 100000 in
theorem wd_935 : (Jvm.Cond.code ({ cls := "StreamSplitter", name := "writeTables", desc := "(I)I" } : Jvm.MethodName) prog_1_method_18_code (4 : Nat) (Option.some Jvm.ClassFile.FieldType.int)) ∈ lw_ok := List.mem_filter.mpr ⟨List.mem_of_getElem? (i := 935) (by rfl), rfl⟩
theorem wd_1033 : (Jvm.Cond.methodLink "StreamSplitterLaw" (63 : Nat) ({ cls := "StreamSplitter", name := "writePiece", desc := "(IJIIZ)I" } : Jvm.MethodName)) ∈ lw_ok := List.mem_filter.mpr ⟨List.mem_of_getElem? (i := 1033) (by decide +kernel), rfl⟩
theorem wd_1034 : (Jvm.Cond.instanceMethod ({ cls := "StreamSplitter", name := "writePiece", desc := "(IJIIZ)I" } : Jvm.MethodName)) ∈ lw_ok := List.mem_filter.mpr ⟨List.mem_of_getElem? (i := 1034) (by decide +kernel), rfl⟩
theorem wd_1035 : (Jvm.Cond.selects "StreamSplitter" ({ cls := "StreamSplitter", name := "writePiece", desc := "(IJIIZ)I" } : Jvm.MethodName) ({ cls := "StreamSplitter", name := "writePiece", desc := "(IJIIZ)I" } : Jvm.MethodName)) ∈ lw_ok := List.mem_filter.mpr ⟨List.mem_of_getElem? (i := 1035) (by decide +kernel), rfl⟩
set_option maxRecDepth 100000 in
theorem wd_1036 : (Jvm.Cond.code ({ cls := "StreamSplitter", name := "writePiece", desc := "(IJIIZ)I" } : Jvm.MethodName) prog_1_method_19_code (9 : Nat) (Option.some Jvm.ClassFile.FieldType.int)) ∈ lw_ok := List.mem_filter.mpr ⟨List.mem_of_getElem? (i := 1036) (by rfl), rfl⟩
theorem wd_1056 : (Jvm.Cond.methodLink "StreamSplitterLaw" (67 : Nat) ({ cls := "StreamSplitter", name := "writeOrder", desc := "(IIIJJ)I" } : Jvm.MethodName)) ∈ lw_ok := List.mem_filter.mpr ⟨List.mem_of_getElem? (i := 1056) (by decide +kernel), rfl⟩
theorem wd_1057 : (Jvm.Cond.instanceMethod ({ cls := "StreamSplitter", name := "writeOrder", desc := "(IIIJJ)I" } : Jvm.MethodName)) ∈ lw_ok := List.mem_filter.mpr ⟨List.mem_of_getElem? (i := 1057) (by decide +kernel), rfl⟩
theorem wd_1058 : (Jvm.Cond.selects "StreamSplitter" ({ cls := "StreamSplitter", name := "writeOrder", desc := "(IIIJJ)I" } : Jvm.MethodName) ({ cls := "StreamSplitter", name := "writeOrder", desc := "(IIIJJ)I" } : Jvm.MethodName)) ∈ lw_ok := List.mem_filter.mpr ⟨List.mem_of_getElem? (i := 1058) (by decide +kernel), rfl⟩
set_option maxRecDepth 100000 in
theorem wd_1059 : (Jvm.Cond.code ({ cls := "StreamSplitter", name := "writeOrder", desc := "(IIIJJ)I" } : Jvm.MethodName) prog_1_method_20_code (9 : Nat) (Option.some Jvm.ClassFile.FieldType.int)) ∈ lw_ok := List.mem_filter.mpr ⟨List.mem_of_getElem? (i := 1059) (by rfl), rfl⟩
theorem hd_SS_addStream : y_SS_addStream.cls ≠ "java/lang/invoke/MethodHandle" ∧ y_SS_addStream.cls ≠ "java/lang/invoke/VarHandle" ∧ (parseMethodDescriptor y_SS_addStream.desc).map (fun d => d.parameters.length) = some 3 := by decide +kernel
theorem hd_SS_clock : y_SS_clock.cls ≠ "java/lang/invoke/MethodHandle" ∧ y_SS_clock.cls ≠ "java/lang/invoke/VarHandle" ∧ (parseMethodDescriptor y_SS_clock.desc).map (fun d => d.parameters.length) = some 1 := by decide +kernel
theorem hd_SS_drop : y_SS_drop.cls ≠ "java/lang/invoke/MethodHandle" ∧ y_SS_drop.cls ≠ "java/lang/invoke/VarHandle" ∧ (parseMethodDescriptor y_SS_drop.desc).map (fun d => d.parameters.length) = some 2 := by decide +kernel
theorem hd_SS_feed : y_SS_feed.cls ≠ "java/lang/invoke/MethodHandle" ∧ y_SS_feed.cls ≠ "java/lang/invoke/VarHandle" ∧ (parseMethodDescriptor y_SS_feed.desc).map (fun d => d.parameters.length) = some 2 := by decide +kernel
theorem hd_SS_now : y_SS_now.cls ≠ "java/lang/invoke/MethodHandle" ∧ y_SS_now.cls ≠ "java/lang/invoke/VarHandle" ∧ (parseMethodDescriptor y_SS_now.desc).map (fun d => d.parameters.length) = some 1 := by decide +kernel
theorem hd_SS_order : y_SS_order.cls ≠ "java/lang/invoke/MethodHandle" ∧ y_SS_order.cls ≠ "java/lang/invoke/VarHandle" ∧ (parseMethodDescriptor y_SS_order.desc).map (fun d => d.parameters.length) = some 3 := by decide +kernel
theorem hd_SS_piece : y_SS_piece.cls ≠ "java/lang/invoke/MethodHandle" ∧ y_SS_piece.cls ≠ "java/lang/invoke/VarHandle" ∧ (parseMethodDescriptor y_SS_piece.desc).map (fun d => d.parameters.length) = some 2 := by decide +kernel
theorem hd_SS_plan : y_SS_plan.cls ≠ "java/lang/invoke/MethodHandle" ∧ y_SS_plan.cls ≠ "java/lang/invoke/VarHandle" ∧ (parseMethodDescriptor y_SS_plan.desc).map (fun d => d.parameters.length) = some 2 := by decide +kernel
theorem hd_SS_programme : y_SS_programme.cls ≠ "java/lang/invoke/MethodHandle" ∧ y_SS_programme.cls ≠ "java/lang/invoke/VarHandle" ∧ (parseMethodDescriptor y_SS_programme.desc).map (fun d => d.parameters.length) = some 2 := by decide +kernel
theorem hd_SS_seal : y_SS_seal.cls ≠ "java/lang/invoke/MethodHandle" ∧ y_SS_seal.cls ≠ "java/lang/invoke/VarHandle" ∧ (parseMethodDescriptor y_SS_seal.desc).map (fun d => d.parameters.length) = some 2 := by decide +kernel
theorem hd_SS_spoil : y_SS_spoil.cls ≠ "java/lang/invoke/MethodHandle" ∧ y_SS_spoil.cls ≠ "java/lang/invoke/VarHandle" ∧ (parseMethodDescriptor y_SS_spoil.desc).map (fun d => d.parameters.length) = some 2 := by decide +kernel
theorem hd_SS_stream : y_SS_stream.cls ≠ "java/lang/invoke/MethodHandle" ∧ y_SS_stream.cls ≠ "java/lang/invoke/VarHandle" ∧ (parseMethodDescriptor y_SS_stream.desc).map (fun d => d.parameters.length) = some 2 := by decide +kernel
theorem hd_SS_told : y_SS_told.cls ≠ "java/lang/invoke/MethodHandle" ∧ y_SS_told.cls ≠ "java/lang/invoke/VarHandle" ∧ (parseMethodDescriptor y_SS_told.desc).map (fun d => d.parameters.length) = some 1 := by decide +kernel
theorem hd_SS_writeOrder : y_SS_writeOrder.cls ≠ "java/lang/invoke/MethodHandle" ∧ y_SS_writeOrder.cls ≠ "java/lang/invoke/VarHandle" ∧ (parseMethodDescriptor y_SS_writeOrder.desc).map (fun d => d.parameters.length) = some 5 := by decide +kernel
theorem hd_SS_writePiece : y_SS_writePiece.cls ≠ "java/lang/invoke/MethodHandle" ∧ y_SS_writePiece.cls ≠ "java/lang/invoke/VarHandle" ∧ (parseMethodDescriptor y_SS_writePiece.desc).map (fun d => d.parameters.length) = some 5 := by decide +kernel
theorem hd_SS_writeTables : y_SS_writeTables.cls ≠ "java/lang/invoke/MethodHandle" ∧ y_SS_writeTables.cls ≠ "java/lang/invoke/VarHandle" ∧ (parseMethodDescriptor y_SS_writeTables.desc).map (fun d => d.parameters.length) = some 1 := by decide +kernel
theorem d_Law_addStream_0 : decode b_Law_addStream 0 = .ok (.aload 4, 2) := by decide +kernel
theorem d_Law_addStream_2 : decode b_Law_addStream 2 = .ok (.iconst 0, 1) := by decide +kernel
theorem d_Law_addStream_3 : decode b_Law_addStream 3 = .ok (.aload_n 0, 1) := by decide +kernel
theorem d_Law_addStream_4 : decode b_Law_addStream 4 = .ok (.iload_n 1, 1) := by decide +kernel
theorem d_Law_addStream_5 : decode b_Law_addStream 5 = .ok (.iload_n 2, 1) := by decide +kernel
theorem d_Law_addStream_6 : decode b_Law_addStream 6 = .ok (.iload_n 3, 1) := by decide +kernel
theorem d_Law_addStream_7 : decode b_Law_addStream 7 = .ok (.invokevirtual 56, 3) := by decide +kernel
theorem d_Law_addStream_15 : decode b_Law_addStream 15 = .ok (.astore 5, 2) := by decide +kernel
theorem d_Law_addStream_17 : decode b_Law_addStream 17 = .ok (.iconst 1, 1) := by decide +kernel
theorem d_Law_addStream_18 : decode b_Law_addStream 18 = .ok (.ireturn, 1) := by decide +kernel
theorem d_Law_clock_0 : decode b_Law_clock 0 = .ok (.aload_n 2, 1) := by decide +kernel
theorem d_Law_clock_1 : decode b_Law_clock 1 = .ok (.iconst 0, 1) := by decide +kernel
theorem d_Law_clock_2 : decode b_Law_clock 2 = .ok (.aload_n 0, 1) := by decide +kernel
theorem d_Law_clock_3 : decode b_Law_clock 3 = .ok (.iload_n 1, 1) := by decide +kernel
theorem d_Law_clock_4 : decode b_Law_clock 4 = .ok (.invokevirtual 50, 3) := by decide +kernel
theorem d_Law_clock_7 : decode b_Law_clock 7 = .ok (.lastore, 1) := by decide +kernel
theorem d_Law_clock_8 : decode b_Law_clock 8 = .ok (.goto 6, 3) := by decide +kernel
theorem d_Law_clock_11 : decode b_Law_clock 11 = .ok (.astore_n 3, 1) := by decide +kernel
theorem d_Law_clock_12 : decode b_Law_clock 12 = .ok (.iconst 1, 1) := by decide +kernel
theorem d_Law_clock_13 : decode b_Law_clock 13 = .ok (.ireturn, 1) := by decide +kernel
theorem d_Law_clock_14 : decode b_Law_clock 14 = .ok (.iconst 0, 1) := by decide +kernel
theorem d_Law_clock_15 : decode b_Law_clock 15 = .ok (.ireturn, 1) := by decide +kernel
theorem d_Law_drop_0 : decode b_Law_drop 0 = .ok (.aload_n 3, 1) := by decide +kernel
theorem d_Law_drop_1 : decode b_Law_drop 1 = .ok (.iconst 0, 1) := by decide +kernel
theorem d_Law_drop_2 : decode b_Law_drop 2 = .ok (.aload_n 0, 1) := by decide +kernel
theorem d_Law_drop_3 : decode b_Law_drop 3 = .ok (.iload_n 1, 1) := by decide +kernel
theorem d_Law_drop_4 : decode b_Law_drop 4 = .ok (.iload_n 2, 1) := by decide +kernel
theorem d_Law_drop_5 : decode b_Law_drop 5 = .ok (.invokevirtual 21, 3) := by decide +kernel
theorem d_Law_drop_8 : decode b_Law_drop 8 = .ok (.i2l, 1) := by decide +kernel
theorem d_Law_drop_9 : decode b_Law_drop 9 = .ok (.lastore, 1) := by decide +kernel
theorem d_Law_drop_10 : decode b_Law_drop 10 = .ok (.goto 7, 3) := by decide +kernel
theorem d_Law_drop_13 : decode b_Law_drop 13 = .ok (.astore 4, 2) := by decide +kernel
theorem d_Law_drop_15 : decode b_Law_drop 15 = .ok (.iconst 1, 1) := by decide +kernel
theorem d_Law_drop_16 : decode b_Law_drop 16 = .ok (.ireturn, 1) := by decide +kernel
theorem d_Law_drop_17 : decode b_Law_drop 17 = .ok (.iconst 0, 1) := by decide +kernel
theorem d_Law_drop_18 : decode b_Law_drop 18 = .ok (.ireturn, 1) := by decide +kernel
theorem d_Law_feed_0 : decode b_Law_feed 0 = .ok (.aload 4, 2) := by decide +kernel
theorem d_Law_feed_2 : decode b_Law_feed 2 = .ok (.iconst 0, 1) := by decide +kernel
theorem d_Law_feed_3 : decode b_Law_feed 3 = .ok (.aload_n 0, 1) := by decide +kernel
theorem d_Law_feed_4 : decode b_Law_feed 4 = .ok (.iload_n 1, 1) := by decide +kernel
theorem d_Law_feed_5 : decode b_Law_feed 5 = .ok (.lload_n 2, 1) := by decide +kernel
theorem d_Law_feed_6 : decode b_Law_feed 6 = .ok (.invokevirtual 7, 3) := by decide +kernel
theorem d_Law_feed_9 : decode b_Law_feed 9 = .ok (.i2l, 1) := by decide +kernel
theorem d_Law_feed_10 : decode b_Law_feed 10 = .ok (.lastore, 1) := by decide +kernel
theorem d_Law_feed_11 : decode b_Law_feed 11 = .ok (.goto 7, 3) := by decide +kernel
theorem d_Law_feed_14 : decode b_Law_feed 14 = .ok (.astore 5, 2) := by decide +kernel
theorem d_Law_feed_16 : decode b_Law_feed 16 = .ok (.iconst 1, 1) := by decide +kernel
theorem d_Law_feed_17 : decode b_Law_feed 17 = .ok (.ireturn, 1) := by decide +kernel
theorem d_Law_feed_18 : decode b_Law_feed 18 = .ok (.iconst 0, 1) := by decide +kernel
theorem d_Law_feed_19 : decode b_Law_feed 19 = .ok (.ireturn, 1) := by decide +kernel
theorem d_Law_now_0 : decode b_Law_now 0 = .ok (.aload_n 2, 1) := by decide +kernel
theorem d_Law_now_1 : decode b_Law_now 1 = .ok (.iconst 0, 1) := by decide +kernel
theorem d_Law_now_2 : decode b_Law_now 2 = .ok (.aload_n 0, 1) := by decide +kernel
theorem d_Law_now_3 : decode b_Law_now 3 = .ok (.iload_n 1, 1) := by decide +kernel
theorem d_Law_now_4 : decode b_Law_now 4 = .ok (.invokevirtual 38, 3) := by decide +kernel
theorem d_Law_now_11 : decode b_Law_now 11 = .ok (.astore_n 3, 1) := by decide +kernel
theorem d_Law_now_12 : decode b_Law_now 12 = .ok (.iconst 1, 1) := by decide +kernel
theorem d_Law_now_13 : decode b_Law_now 13 = .ok (.ireturn, 1) := by decide +kernel
theorem d_Law_order_0 : decode b_Law_order 0 = .ok (.aload 4, 2) := by decide +kernel
theorem d_Law_order_2 : decode b_Law_order 2 = .ok (.iconst 0, 1) := by decide +kernel
theorem d_Law_order_3 : decode b_Law_order 3 = .ok (.aload_n 0, 1) := by decide +kernel
theorem d_Law_order_4 : decode b_Law_order 4 = .ok (.iload_n 1, 1) := by decide +kernel
theorem d_Law_order_5 : decode b_Law_order 5 = .ok (.iload_n 2, 1) := by decide +kernel
theorem d_Law_order_6 : decode b_Law_order 6 = .ok (.iload_n 3, 1) := by decide +kernel
theorem d_Law_order_7 : decode b_Law_order 7 = .ok (.invokevirtual 42, 3) := by decide +kernel
theorem d_Law_order_14 : decode b_Law_order 14 = .ok (.astore 5, 2) := by decide +kernel
theorem d_Law_order_16 : decode b_Law_order 16 = .ok (.iconst 1, 1) := by decide +kernel
theorem d_Law_order_17 : decode b_Law_order 17 = .ok (.ireturn, 1) := by decide +kernel
theorem d_Law_order_18 : decode b_Law_order 18 = .ok (.astore 5, 2) := by decide +kernel
theorem d_Law_order_20 : decode b_Law_order 20 = .ok (.iconst 2, 1) := by decide +kernel
theorem d_Law_order_21 : decode b_Law_order 21 = .ok (.ireturn, 1) := by decide +kernel
theorem d_Law_piece_0 : decode b_Law_piece 0 = .ok (.aload_n 3, 1) := by decide +kernel
theorem d_Law_piece_1 : decode b_Law_piece 1 = .ok (.iconst 0, 1) := by decide +kernel
theorem d_Law_piece_2 : decode b_Law_piece 2 = .ok (.aload_n 0, 1) := by decide +kernel
theorem d_Law_piece_3 : decode b_Law_piece 3 = .ok (.iload_n 1, 1) := by decide +kernel
theorem d_Law_piece_4 : decode b_Law_piece 4 = .ok (.iload_n 2, 1) := by decide +kernel
theorem d_Law_piece_5 : decode b_Law_piece 5 = .ok (.invokevirtual 46, 3) := by decide +kernel
theorem d_Law_piece_8 : decode b_Law_piece 8 = .ok (.lastore, 1) := by decide +kernel
theorem d_Law_piece_9 : decode b_Law_piece 9 = .ok (.goto 7, 3) := by decide +kernel
theorem d_Law_piece_12 : decode b_Law_piece 12 = .ok (.astore 4, 2) := by decide +kernel
theorem d_Law_piece_14 : decode b_Law_piece 14 = .ok (.iconst 1, 1) := by decide +kernel
theorem d_Law_piece_15 : decode b_Law_piece 15 = .ok (.ireturn, 1) := by decide +kernel
theorem d_Law_piece_16 : decode b_Law_piece 16 = .ok (.iconst 0, 1) := by decide +kernel
theorem d_Law_piece_17 : decode b_Law_piece 17 = .ok (.ireturn, 1) := by decide +kernel
theorem d_Law_plan_0 : decode b_Law_plan 0 = .ok (.aload_n 3, 1) := by decide +kernel
theorem d_Law_plan_1 : decode b_Law_plan 1 = .ok (.iconst 0, 1) := by decide +kernel
theorem d_Law_plan_2 : decode b_Law_plan 2 = .ok (.aload_n 0, 1) := by decide +kernel
theorem d_Law_plan_3 : decode b_Law_plan 3 = .ok (.iload_n 1, 1) := by decide +kernel
theorem d_Law_plan_4 : decode b_Law_plan 4 = .ok (.iload_n 2, 1) := by decide +kernel
theorem d_Law_plan_5 : decode b_Law_plan 5 = .ok (.invokevirtual 53, 3) := by decide +kernel
theorem d_Law_plan_8 : decode b_Law_plan 8 = .ok (.i2l, 1) := by decide +kernel
theorem d_Law_plan_9 : decode b_Law_plan 9 = .ok (.lastore, 1) := by decide +kernel
theorem d_Law_plan_10 : decode b_Law_plan 10 = .ok (.goto 7, 3) := by decide +kernel
theorem d_Law_plan_13 : decode b_Law_plan 13 = .ok (.astore 4, 2) := by decide +kernel
theorem d_Law_plan_15 : decode b_Law_plan 15 = .ok (.iconst 1, 1) := by decide +kernel
theorem d_Law_plan_16 : decode b_Law_plan 16 = .ok (.ireturn, 1) := by decide +kernel
theorem d_Law_plan_17 : decode b_Law_plan 17 = .ok (.iconst 0, 1) := by decide +kernel
theorem d_Law_plan_18 : decode b_Law_plan 18 = .ok (.ireturn, 1) := by decide +kernel
theorem d_Law_programme_0 : decode b_Law_programme 0 = .ok (.aload_n 3, 1) := by decide +kernel
theorem d_Law_programme_1 : decode b_Law_programme 1 = .ok (.iconst 0, 1) := by decide +kernel
theorem d_Law_programme_2 : decode b_Law_programme 2 = .ok (.aload_n 0, 1) := by decide +kernel
theorem d_Law_programme_3 : decode b_Law_programme 3 = .ok (.iload_n 1, 1) := by decide +kernel
theorem d_Law_programme_4 : decode b_Law_programme 4 = .ok (.iload_n 2, 1) := by decide +kernel
theorem d_Law_programme_5 : decode b_Law_programme 5 = .ok (.invokevirtual 32, 3) := by decide +kernel
theorem d_Law_programme_13 : decode b_Law_programme 13 = .ok (.astore 4, 2) := by decide +kernel
theorem d_Law_programme_15 : decode b_Law_programme 15 = .ok (.iconst 1, 1) := by decide +kernel
theorem d_Law_programme_16 : decode b_Law_programme 16 = .ok (.ireturn, 1) := by decide +kernel
theorem d_Law_programme_17 : decode b_Law_programme 17 = .ok (.astore 4, 2) := by decide +kernel
theorem d_Law_programme_19 : decode b_Law_programme 19 = .ok (.iconst 2, 1) := by decide +kernel
theorem d_Law_programme_20 : decode b_Law_programme 20 = .ok (.ireturn, 1) := by decide +kernel
theorem d_Law_seal_0 : decode b_Law_seal 0 = .ok (.aload_n 0, 1) := by decide +kernel
theorem d_Law_seal_1 : decode b_Law_seal 1 = .ok (.iload_n 1, 1) := by decide +kernel
theorem d_Law_seal_2 : decode b_Law_seal 2 = .ok (.iload_n 2, 1) := by decide +kernel
theorem d_Law_seal_3 : decode b_Law_seal 3 = .ok (.invokevirtual 24, 3) := by decide +kernel
theorem d_Law_seal_6 : decode b_Law_seal 6 = .ok (.goto 6, 3) := by decide +kernel
theorem d_Law_seal_9 : decode b_Law_seal 9 = .ok (.astore_n 3, 1) := by decide +kernel
theorem d_Law_seal_10 : decode b_Law_seal 10 = .ok (.iconst 1, 1) := by decide +kernel
theorem d_Law_seal_11 : decode b_Law_seal 11 = .ok (.ireturn, 1) := by decide +kernel
theorem d_Law_seal_12 : decode b_Law_seal 12 = .ok (.iconst 0, 1) := by decide +kernel
theorem d_Law_seal_13 : decode b_Law_seal 13 = .ok (.ireturn, 1) := by decide +kernel
theorem d_Law_spoil_0 : decode b_Law_spoil 0 = .ok (.aload_n 3, 1) := by decide +kernel
theorem d_Law_spoil_1 : decode b_Law_spoil 1 = .ok (.iconst 0, 1) := by decide +kernel
theorem d_Law_spoil_2 : decode b_Law_spoil 2 = .ok (.aload_n 0, 1) := by decide +kernel
theorem d_Law_spoil_3 : decode b_Law_spoil 3 = .ok (.iload_n 1, 1) := by decide +kernel
theorem d_Law_spoil_4 : decode b_Law_spoil 4 = .ok (.iload_n 2, 1) := by decide +kernel
theorem d_Law_spoil_5 : decode b_Law_spoil 5 = .ok (.invokevirtual 15, 3) := by decide +kernel
theorem d_Law_spoil_8 : decode b_Law_spoil 8 = .ok (.i2l, 1) := by decide +kernel
theorem d_Law_spoil_9 : decode b_Law_spoil 9 = .ok (.lastore, 1) := by decide +kernel
theorem d_Law_spoil_10 : decode b_Law_spoil 10 = .ok (.goto 11, 3) := by decide +kernel
theorem d_Law_spoil_13 : decode b_Law_spoil 13 = .ok (.astore 4, 2) := by decide +kernel
theorem d_Law_spoil_15 : decode b_Law_spoil 15 = .ok (.iconst 1, 1) := by decide +kernel
theorem d_Law_spoil_16 : decode b_Law_spoil 16 = .ok (.ireturn, 1) := by decide +kernel
theorem d_Law_spoil_17 : decode b_Law_spoil 17 = .ok (.astore 4, 2) := by decide +kernel
theorem d_Law_spoil_19 : decode b_Law_spoil 19 = .ok (.iconst 2, 1) := by decide +kernel
theorem d_Law_spoil_20 : decode b_Law_spoil 20 = .ok (.ireturn, 1) := by decide +kernel
theorem d_Law_spoil_21 : decode b_Law_spoil 21 = .ok (.iconst 0, 1) := by decide +kernel
theorem d_Law_spoil_22 : decode b_Law_spoil 22 = .ok (.ireturn, 1) := by decide +kernel
theorem d_Law_stream_0 : decode b_Law_stream 0 = .ok (.aload_n 3, 1) := by decide +kernel
theorem d_Law_stream_1 : decode b_Law_stream 1 = .ok (.iconst 0, 1) := by decide +kernel
theorem d_Law_stream_2 : decode b_Law_stream 2 = .ok (.aload_n 0, 1) := by decide +kernel
theorem d_Law_stream_3 : decode b_Law_stream 3 = .ok (.iload_n 1, 1) := by decide +kernel
theorem d_Law_stream_4 : decode b_Law_stream 4 = .ok (.iload_n 2, 1) := by decide +kernel
theorem d_Law_stream_5 : decode b_Law_stream 5 = .ok (.invokevirtual 35, 3) := by decide +kernel
theorem d_Law_stream_13 : decode b_Law_stream 13 = .ok (.astore 4, 2) := by decide +kernel
theorem d_Law_stream_15 : decode b_Law_stream 15 = .ok (.iconst 1, 1) := by decide +kernel
theorem d_Law_stream_16 : decode b_Law_stream 16 = .ok (.ireturn, 1) := by decide +kernel
theorem d_Law_told_0 : decode b_Law_told 0 = .ok (.aload_n 2, 1) := by decide +kernel
theorem d_Law_told_1 : decode b_Law_told 1 = .ok (.iconst 0, 1) := by decide +kernel
theorem d_Law_told_2 : decode b_Law_told 2 = .ok (.aload_n 0, 1) := by decide +kernel
theorem d_Law_told_3 : decode b_Law_told 3 = .ok (.iload_n 1, 1) := by decide +kernel
theorem d_Law_told_4 : decode b_Law_told 4 = .ok (.invokevirtual 28, 3) := by decide +kernel
theorem d_Law_told_7 : decode b_Law_told 7 = .ok (.i2l, 1) := by decide +kernel
theorem d_Law_told_8 : decode b_Law_told 8 = .ok (.lastore, 1) := by decide +kernel
theorem d_Law_told_9 : decode b_Law_told 9 = .ok (.goto 6, 3) := by decide +kernel
theorem d_Law_told_12 : decode b_Law_told 12 = .ok (.astore_n 3, 1) := by decide +kernel
theorem d_Law_told_13 : decode b_Law_told 13 = .ok (.iconst 1, 1) := by decide +kernel
theorem d_Law_told_14 : decode b_Law_told 14 = .ok (.ireturn, 1) := by decide +kernel
theorem d_Law_told_15 : decode b_Law_told 15 = .ok (.iconst 0, 1) := by decide +kernel
theorem d_Law_told_16 : decode b_Law_told 16 = .ok (.ireturn, 1) := by decide +kernel
theorem d_Law_writeOrder_0 : decode b_Law_writeOrder 0 = .ok (.aload 8, 2) := by decide +kernel
theorem d_Law_writeOrder_2 : decode b_Law_writeOrder 2 = .ok (.iconst 0, 1) := by decide +kernel
theorem d_Law_writeOrder_3 : decode b_Law_writeOrder 3 = .ok (.aload_n 0, 1) := by decide +kernel
theorem d_Law_writeOrder_4 : decode b_Law_writeOrder 4 = .ok (.iload_n 1, 1) := by decide +kernel
theorem d_Law_writeOrder_5 : decode b_Law_writeOrder 5 = .ok (.iload_n 2, 1) := by decide +kernel
theorem d_Law_writeOrder_6 : decode b_Law_writeOrder 6 = .ok (.iload_n 3, 1) := by decide +kernel
theorem d_Law_writeOrder_7 : decode b_Law_writeOrder 7 = .ok (.lload 4, 2) := by decide +kernel
theorem d_Law_writeOrder_9 : decode b_Law_writeOrder 9 = .ok (.lload 6, 2) := by decide +kernel
theorem d_Law_writeOrder_11 : decode b_Law_writeOrder 11 = .ok (.invokevirtual 67, 3) := by decide +kernel
theorem d_Law_writeOrder_14 : decode b_Law_writeOrder 14 = .ok (.i2l, 1) := by decide +kernel
theorem d_Law_writeOrder_15 : decode b_Law_writeOrder 15 = .ok (.lastore, 1) := by decide +kernel
theorem d_Law_writeOrder_16 : decode b_Law_writeOrder 16 = .ok (.goto 7, 3) := by decide +kernel
theorem d_Law_writeOrder_19 : decode b_Law_writeOrder 19 = .ok (.astore 9, 2) := by decide +kernel
theorem d_Law_writeOrder_21 : decode b_Law_writeOrder 21 = .ok (.iconst 1, 1) := by decide +kernel
theorem d_Law_writeOrder_22 : decode b_Law_writeOrder 22 = .ok (.ireturn, 1) := by decide +kernel
theorem d_Law_writeOrder_23 : decode b_Law_writeOrder 23 = .ok (.iconst 0, 1) := by decide +kernel
theorem d_Law_writeOrder_24 : decode b_Law_writeOrder 24 = .ok (.ireturn, 1) := by decide +kernel
theorem d_Law_writePiece_0 : decode b_Law_writePiece 0 = .ok (.aload 7, 2) := by decide +kernel
theorem d_Law_writePiece_2 : decode b_Law_writePiece 2 = .ok (.iconst 0, 1) := by decide +kernel
theorem d_Law_writePiece_3 : decode b_Law_writePiece 3 = .ok (.aload_n 0, 1) := by decide +kernel
theorem d_Law_writePiece_4 : decode b_Law_writePiece 4 = .ok (.iload_n 1, 1) := by decide +kernel
theorem d_Law_writePiece_5 : decode b_Law_writePiece 5 = .ok (.lload_n 2, 1) := by decide +kernel
theorem d_Law_writePiece_6 : decode b_Law_writePiece 6 = .ok (.iload 4, 2) := by decide +kernel
theorem d_Law_writePiece_8 : decode b_Law_writePiece 8 = .ok (.iload 5, 2) := by decide +kernel
theorem d_Law_writePiece_10 : decode b_Law_writePiece 10 = .ok (.iload 6, 2) := by decide +kernel
theorem d_Law_writePiece_12 : decode b_Law_writePiece 12 = .ok (.invokevirtual 63, 3) := by decide +kernel
theorem d_Law_writePiece_15 : decode b_Law_writePiece 15 = .ok (.i2l, 1) := by decide +kernel
theorem d_Law_writePiece_16 : decode b_Law_writePiece 16 = .ok (.lastore, 1) := by decide +kernel
theorem d_Law_writePiece_17 : decode b_Law_writePiece 17 = .ok (.goto 7, 3) := by decide +kernel
theorem d_Law_writePiece_20 : decode b_Law_writePiece 20 = .ok (.astore 8, 2) := by decide +kernel
theorem d_Law_writePiece_22 : decode b_Law_writePiece 22 = .ok (.iconst 1, 1) := by decide +kernel
theorem d_Law_writePiece_23 : decode b_Law_writePiece 23 = .ok (.ireturn, 1) := by decide +kernel
theorem d_Law_writePiece_24 : decode b_Law_writePiece 24 = .ok (.iconst 0, 1) := by decide +kernel
theorem d_Law_writePiece_25 : decode b_Law_writePiece 25 = .ok (.ireturn, 1) := by decide +kernel
theorem d_Law_writeTables_0 : decode b_Law_writeTables 0 = .ok (.aload_n 2, 1) := by decide +kernel
theorem d_Law_writeTables_1 : decode b_Law_writeTables 1 = .ok (.iconst 0, 1) := by decide +kernel
theorem d_Law_writeTables_2 : decode b_Law_writeTables 2 = .ok (.aload_n 0, 1) := by decide +kernel
theorem d_Law_writeTables_3 : decode b_Law_writeTables 3 = .ok (.iload_n 1, 1) := by decide +kernel
theorem d_Law_writeTables_4 : decode b_Law_writeTables 4 = .ok (.invokevirtual 60, 3) := by decide +kernel
theorem d_Law_writeTables_7 : decode b_Law_writeTables 7 = .ok (.i2l, 1) := by decide +kernel
theorem d_Law_writeTables_8 : decode b_Law_writeTables 8 = .ok (.lastore, 1) := by decide +kernel
theorem d_Law_writeTables_9 : decode b_Law_writeTables 9 = .ok (.goto 6, 3) := by decide +kernel
theorem d_Law_writeTables_12 : decode b_Law_writeTables 12 = .ok (.astore_n 3, 1) := by decide +kernel
theorem d_Law_writeTables_13 : decode b_Law_writeTables 13 = .ok (.iconst 1, 1) := by decide +kernel
theorem d_Law_writeTables_14 : decode b_Law_writeTables 14 = .ok (.ireturn, 1) := by decide +kernel
theorem d_Law_writeTables_15 : decode b_Law_writeTables 15 = .ok (.iconst 0, 1) := by decide +kernel
theorem d_Law_writeTables_16 : decode b_Law_writeTables 16 = .ok (.ireturn, 1) := by decide +kernel
/-! what a refusal excludes -/
theorem dr_no {n a b : Nat} {i c : Int32} (hn : n ≤ 9400) (h : a + b ≤ n) (hi : i = nI a) (hc : c = nI b) (hbad : i < 0 ∨ c < 0 ∨ nI n - i < c) : False := by
  subst hi; subst hc
  rcases hbad with z | z | z
  · exact nI_pos (by omega) z
  · exact nI_pos (by omega) z
  · rw [pk_sub (by omega)] at z
    exact nI_nlt (by omega) (by omega) z
theorem sl_no {n a b : Nat} {i c : Int32} (hn : n ≤ 9400) (h : a + b + 4 ≤ n) (hi : i = nI a) (hc : c = nI (a + b)) (hbad : i < 0 ∨ c < i ∨ nI n - 4 < c) : False := by
  subst hi; subst hc
  rcases hbad with z | z | z
  · exact nI_pos (by omega) z
  · exact nI_nlt (by omega) (by omega) z
  · rw [show (4 : Int32) = nI 4 from rfl, pk_sub (by omega)] at z
    exact nI_nlt (by omega) (by omega) z

set_option maxHeartbeats 4000000 in
set_option maxRecDepth 100000 in
theorem c_Law_feed_bad (l : Launch) (D : va_G) (hfl : l.stackTraces = false) (B0 : State) (hG : zG B0) (sz : Nat) (cB : ClassId) (h d rc ln tb ct dp tp : Nat) (a n : Nat) (f : Nat → Int32) (c : Int32) (b : Int64) (cJ : ClassId) (o9 : Nat) (g9 : Nat → Int64) (hn : n ≤ 9400) (hbad : c < 1 ∨ 8 < c) : Met l y_Law_feed [Cond.codeWith y_Law_feed b_Law_feed 6 (some .int) [(0, 11, 14, 13)]] ({ frames := 7, cells := 1, slots := 6, locals := 107 }) (zMo [.ref h, .int c, .long b, .ref o9] D [(h, .inr (11, [.ref rc, .ref d])), (rc, .inr (4, [.ref tp, .ref ln, .ref tb, .ref ct, .ref dp])), (tp, .inr (0, [.ref a, .int (nI n)])), (a, .inl (cB, 9400, .inl f)), (o9, .inl (cJ, 1, .inr (.inl g9)))] [(cB, .byte), (cJ, .long)] sz B0) (va_Qi (fun r0 (_ : Unit) => r0 = 1) (fun (_u : Unit) t => zW D (va_A [(h, .inr (11, [.ref rc, .ref d])), (rc, .inr (4, [.ref tp, .ref ln, .ref tb, .ref ct, .ref dp])), (tp, .inr (0, [.ref a, .int (nI n)])), (a, .inl (cB, 9400, .inl f)), (o9, .inl (cJ, 1, .inr (.inl g9)))] sz) [(h, .inr (11, [.ref rc, .ref d])), (rc, .inr (4, [.ref tp, .ref ln, .ref tb, .ref ct, .ref dp])), (tp, .inr (0, [.ref a, .int (nI n)])), (a, .inl (cB, 9400, .inl f)), (o9, .inl (cJ, 1, .inr (.inl g9)))] [(cB, .byte), (cJ, .long)] t) (va_A [(h, .inr (11, [.ref rc, .ref d])), (rc, .inr (4, [.ref tp, .ref ln, .ref tb, .ref ct, .ref dp])), (tp, .inr (0, [.ref a, .int (nI n)])), (a, .inl (cB, 9400, .inl f)), (o9, .inl (cJ, 1, .inr (.inl g9)))] sz)) 1 6 (va_A [(h, .inr (11, [.ref rc, .ref d])), (rc, .inr (4, [.ref tp, .ref ln, .ref tb, .ref ct, .ref dp])), (tp, .inr (0, [.ref a, .int (nI n)])), (a, .inl (cB, 9400, .inl f)), (o9, .inl (cJ, 1, .inr (.inl g9)))] sz) := by
  refine va_MetW (cc := b_Law_feed) (maxL := 6) (ret := (some .int)) (hh := [(0, 11, 14, 13)]) (by decide) rfl ?_
  intro p e s m args below meth cd s₁ Bd hml hv
  obtain ⟨rfl, hsz, hP, hK, hN, hD0, hO⟩ := hv
  have hx := Bd.exec
  have hb := Bd.bytes
  have hr := Bd.returns
  have hts := hN.use (a := ([.ref h, .int c, .long b, .ref o9]).toArray)
  have hown : s.vm.findClass R_Law = some m.cls := findClass_of_methodNamed Bd.named
  have hlocks := Bd.notSynchronized
  have htab := z_tab Bd
  subst hsz
  have hD := hD0.self (sz := s.heap.size)
  have hAO := z_AO hD0 hO
  clear hD0
  have hA : ∀ q : Nat, s.heap.size ≤ q → va_A [(h, .inr (11, [.ref rc, .ref d])), (rc, .inr (4, [.ref tp, .ref ln, .ref tb, .ref ct, .ref dp])), (tp, .inr (0, [.ref a, .int (nI n)])), (a, .inl (cB, 9400, .inl f)), (o9, .inl (cJ, 1, .inr (.inl g9)))] s.heap.size q := fun q h => Or.inr h
  have hS : va_S (va_A [(h, .inr (11, [.ref rc, .ref d])), (rc, .inr (4, [.ref tp, .ref ln, .ref tb, .ref ct, .ref dp])), (tp, .inr (0, [.ref a, .int (nI n)])), (a, .inl (cB, 9400, .inl f)), (o9, .inl (cJ, 1, .inr (.inl g9)))] s.heap.size) s.heap s.heap [] := va_S.rf
  generalize hAe : va_A [(h, .inr (11, [.ref rc, .ref d])), (rc, .inr (4, [.ref tp, .ref ln, .ref tb, .ref ct, .ref dp])), (tp, .inr (0, [.ref a, .int (nI n)])), (a, .inl (cB, 9400, .inl f)), (o9, .inl (cJ, 1, .inr (.inl g9)))] s.heap.size = A at hD hA hS hAO ⊢
  have hP : va_P D classes [(h, .inr (11, [.ref rc, .ref d])), (rc, .inr (4, [.ref tp, .ref ln, .ref tb, .ref ct, .ref dp])), (tp, .inr (0, [.ref a, .int (nI n)])), (a, .inl (cB, 9400, .inl f)), (o9, .inl (cJ, 1, .inr (.inl g9)))] s.heap := hP
  have hl := lv_entry ([.ref h, .int c, .long b, .ref o9]) (n := 6) (Nat.le_of_ble_eq_true rfl)
  rw [lg_entry_eq]
  generalize (lg_sl ([.ref h, .int c, .long b, .ref o9]) ++ List.replicate (6 - (lg_sl ([.ref h, .int c, .long b, .ref o9])).length) Slot.unset).toArray = ls at hl ⊢
  have hl : lv_has ls 6 [(0, .ref h), (1, .int c), (2, .long b), (4, .ref o9)] := hl
  refine lv_aload hx hb d_Law_feed_0 (lv_at hl 3 rfl) ?_
  refine lv_iconst (v := 0) hx hb d_Law_feed_2 (by decide) ?_
  refine lv_aload_n hx hb d_Law_feed_3 rfl (lv_at hl 0 rfl) ?_
  refine lv_iload_n hx hb d_Law_feed_4 rfl (lv_at hl 1 rfl) ?_
  refine lv_lload_n hx hb d_Law_feed_5 rfl (lv_at hl 2 rfl) ?_
  have hPc := hP.sub (ws' := [(h, .inr (11, [.ref rc, .ref d])), (rc, .inr (4, [.ref tp, .ref ln, .ref tb, .ref ct, .ref dp])), (tp, .inr (0, [.ref a, .int (nI n)])), (a, .inl (cB, 9400, .inl f))]) [0, 1, 2, 3] rfl
  have hKc := hK.sub (tys' := [(cB, .byte)]) [0] rfl
  have hDc := hD.sub (ws' := [(h, .inr (11, [.ref rc, .ref d])), (rc, .inr (4, [.ref tp, .ref ln, .ref tb, .ref ct, .ref dp])), (tp, .inr (0, [.ref a, .int (nI n)])), (a, .inl (cB, 9400, .inl f))]) [0, 1, 2, 3] (by decide) rfl
  have hFc := va_free (wc := [(h, .inr (11, [.ref rc, .ref d])), (rc, .inr (4, [.ref tp, .ref ln, .ref tb, .ref ct, .ref dp])), (tp, .inr (0, [.ref a, .int (nI n)])), (a, .inl (cB, 9400, .inl f))]) hD hS hA [0, 1, 2, 3] rfl
  refine z_callVTi (As := [.int c, .long b]) (rest := [.int 0, .ref o9]) ⟨hx, hb, hml, hown, hts⟩ (c_SS_feed l D hfl B0 hG s.heap.size cB h d rc ln tb ct dp tp a n f c b hn) (z_cV hN wd_699 wd_59 wd_696 hd_SS_feed rfl rfl ⟨Nat.le_of_ble_eq_true rfl, Nat.le_of_ble_eq_true rfl⟩ wd_697 wd_698) (z_preVo (va_recv (ci := 11) (q0 := 0) hK hP rfl rfl) hPc hKc hN hDc hO hS hAO) rfl hl.1 rfl (lv_room (Nat.le_of_ble_eq_true rfl)) d_Law_feed_6 ⟨Nat.le_of_ble_eq_true rfl, Nat.le_of_ble_eq_true rfl⟩ hS (fun q _ h => hFc q h) hFc (fun r9 u9 t H locs ht hvm e6 hB hz1 hk1 hS => ?_) (fun X x H locs eX hcx hz1 hk1 hS => ?_)
  · exact absurd e6 (fun z => hbad.elim z.1 z.2.1)
  · obtain ⟨rfl, -⟩ := eX
    have hP : va_P D classes [(h, .inr (11, [.ref rc, .ref d])), (rc, .inr (4, [.ref tp, .ref ln, .ref tb, .ref ct, .ref dp])), (tp, .inr (0, [.ref a, .int (nI n)])), (a, .inl (cB, 9400, .inl f)), (o9, .inl (cJ, 1, .inr (.inl g9)))] H := z_Pkept hP hk1
    refine z_catch1h htab (by decide) (by decide) hown (hts _ wd_695) (hts _ wd_702) hcx ?_
    clear hcx hz1 hk1
    refine lv_astore (lv' := [(5, .ref x), (0, .ref h), (1, .int c), (2, .long b), (4, .ref o9)]) hx hb d_Law_feed_14 hl (by decide) rfl (fun ls hl => ?_)
    refine lv_iconst (v := 1) hx hb d_Law_feed_16 (by decide) ?_
    have hP9 := hP.sub (ws' := [(h, .inr (11, [.ref rc, .ref d])), (rc, .inr (4, [.ref tp, .ref ln, .ref tb, .ref ct, .ref dp])), (tp, .inr (0, [.ref a, .int (nI n)])), (a, .inl (cB, 9400, .inl f)), (o9, .inl (cJ, 1, .inr (.inl g9)))]) [0, 1, 2, 3, 4] rfl
    have hD9 := hD.sub (ws' := [(h, .inr (11, [.ref rc, .ref d])), (rc, .inr (4, [.ref tp, .ref ln, .ref tb, .ref ct, .ref dp])), (tp, .inr (0, [.ref a, .int (nI n)])), (a, .inl (cB, 9400, .inl f)), (o9, .inl (cJ, 1, .inr (.inl g9)))]) [0, 1, 2, 3, 4] (by decide) rfl
    have hK9 := hK.sub (tys' := [(cB, .byte), (cJ, .long)]) [0, 1] rfl
    refine W.widen (k := 1) (n := 6) (by omega) (by omega) ?_
    exact W.iret (v := 1) hx hb hr (fun t ht hW => ⟨⟨_, (), rfl, rfl, ⟨by rw [ht]; exact hP9, va_K.moved hW.alike hK9, hD9⟩⟩, hS.F ht⟩) hS.2.2 d_Law_feed_17
set_option maxHeartbeats 4000000 in
set_option maxRecDepth 100000 in
theorem c_Law_feed_ok (l : Launch) (D : va_G) (hfl : l.stackTraces = false) (B0 : State) (hG : zG B0) (sz : Nat) (cB : ClassId) (h d rc ln tb ct dp tp : Nat) (a n : Nat) (f : Nat → Int32) (c : Int32) (b : Int64) (cJ : ClassId) (o9 : Nat) (g9 : Nat → Int64) (hn : n ≤ 9400) (hok : ¬ (c < 1 ∨ 8 < c)) : Met l y_Law_feed [Cond.codeWith y_Law_feed b_Law_feed 6 (some .int) [(0, 11, 14, 13)]] ({ frames := 7, cells := 1, slots := 6, locals := 107 }) (zMo [.ref h, .int c, .long b, .ref o9] D [(h, .inr (11, [.ref rc, .ref d])), (rc, .inr (4, [.ref tp, .ref ln, .ref tb, .ref ct, .ref dp])), (tp, .inr (0, [.ref a, .int (nI n)])), (a, .inl (cB, 9400, .inl f)), (o9, .inl (cJ, 1, .inr (.inl g9)))] [(cB, .byte), (cJ, .long)] sz B0) (va_Qi (fun r0 (u : (Nat) × Int32) => r0 = 0 ∧ (fun r (u : Nat) => ¬ c < 1 ∧ ¬ 8 < c ∧ (if n + c.toNatClampNeg ≤ 9400 then u = c.toNatClampNeg ∧ r = nI (n + u) else u = 0 ∧ r = -1)) u.2 u.1) (fun (u : (Nat) × Int32) t => zW D (va_A [(h, .inr (11, [.ref rc, .ref d])), (rc, .inr (4, [.ref tp, .ref ln, .ref tb, .ref ct, .ref dp])), (tp, .inr (0, [.ref a, .int (nI n)])), (a, .inl (cB, 9400, .inl f)), (o9, .inl (cJ, 1, .inr (.inl g9)))] sz) [(h, .inr (11, [.ref rc, .ref d])), (rc, .inr (4, [.ref tp, .ref ln, .ref tb, .ref ct, .ref dp])), (tp, .inr (0, [.ref a, .int (nI (n + u.1))])), (a, .inl (cB, 9400, .inl (fd_f f n b u.1))), (o9, .inl (cJ, 1, .inr (.inl (vp_updL g9 0 u.2.toInt64))))] [(cB, .byte), (cJ, .long)] t) (va_A [(h, .inr (11, [.ref rc, .ref d])), (rc, .inr (4, [.ref tp, .ref ln, .ref tb, .ref ct, .ref dp])), (tp, .inr (0, [.ref a, .int (nI n)])), (a, .inl (cB, 9400, .inl f)), (o9, .inl (cJ, 1, .inr (.inl g9)))] sz)) 1 6 (va_A [(h, .inr (11, [.ref rc, .ref d])), (rc, .inr (4, [.ref tp, .ref ln, .ref tb, .ref ct, .ref dp])), (tp, .inr (0, [.ref a, .int (nI n)])), (a, .inl (cB, 9400, .inl f)), (o9, .inl (cJ, 1, .inr (.inl g9)))] sz) := by
  refine va_MetW (cc := b_Law_feed) (maxL := 6) (ret := (some .int)) (hh := [(0, 11, 14, 13)]) (by decide) rfl ?_
  intro p e s m args below meth cd s₁ Bd hml hv
  obtain ⟨rfl, hsz, hP, hK, hN, hD0, hO⟩ := hv
  have hx := Bd.exec
  have hb := Bd.bytes
  have hr := Bd.returns
  have hts := hN.use (a := ([.ref h, .int c, .long b, .ref o9]).toArray)
  have hown : s.vm.findClass R_Law = some m.cls := findClass_of_methodNamed Bd.named
  have hlocks := Bd.notSynchronized
  have htab := z_tab Bd
  subst hsz
  have hD := hD0.self (sz := s.heap.size)
  have hAO := z_AO hD0 hO
  clear hD0
  have hA : ∀ q : Nat, s.heap.size ≤ q → va_A [(h, .inr (11, [.ref rc, .ref d])), (rc, .inr (4, [.ref tp, .ref ln, .ref tb, .ref ct, .ref dp])), (tp, .inr (0, [.ref a, .int (nI n)])), (a, .inl (cB, 9400, .inl f)), (o9, .inl (cJ, 1, .inr (.inl g9)))] s.heap.size q := fun q h => Or.inr h
  have hS : va_S (va_A [(h, .inr (11, [.ref rc, .ref d])), (rc, .inr (4, [.ref tp, .ref ln, .ref tb, .ref ct, .ref dp])), (tp, .inr (0, [.ref a, .int (nI n)])), (a, .inl (cB, 9400, .inl f)), (o9, .inl (cJ, 1, .inr (.inl g9)))] s.heap.size) s.heap s.heap [] := va_S.rf
  generalize hAe : va_A [(h, .inr (11, [.ref rc, .ref d])), (rc, .inr (4, [.ref tp, .ref ln, .ref tb, .ref ct, .ref dp])), (tp, .inr (0, [.ref a, .int (nI n)])), (a, .inl (cB, 9400, .inl f)), (o9, .inl (cJ, 1, .inr (.inl g9)))] s.heap.size = A at hD hA hS hAO ⊢
  have hP : va_P D classes [(h, .inr (11, [.ref rc, .ref d])), (rc, .inr (4, [.ref tp, .ref ln, .ref tb, .ref ct, .ref dp])), (tp, .inr (0, [.ref a, .int (nI n)])), (a, .inl (cB, 9400, .inl f)), (o9, .inl (cJ, 1, .inr (.inl g9)))] s.heap := hP
  have hl := lv_entry ([.ref h, .int c, .long b, .ref o9]) (n := 6) (Nat.le_of_ble_eq_true rfl)
  rw [lg_entry_eq]
  generalize (lg_sl ([.ref h, .int c, .long b, .ref o9]) ++ List.replicate (6 - (lg_sl ([.ref h, .int c, .long b, .ref o9])).length) Slot.unset).toArray = ls at hl ⊢
  have hl : lv_has ls 6 [(0, .ref h), (1, .int c), (2, .long b), (4, .ref o9)] := hl
  refine lv_aload hx hb d_Law_feed_0 (lv_at hl 3 rfl) ?_
  refine lv_iconst (v := 0) hx hb d_Law_feed_2 (by decide) ?_
  refine lv_aload_n hx hb d_Law_feed_3 rfl (lv_at hl 0 rfl) ?_
  refine lv_iload_n hx hb d_Law_feed_4 rfl (lv_at hl 1 rfl) ?_
  refine lv_lload_n hx hb d_Law_feed_5 rfl (lv_at hl 2 rfl) ?_
  have hPc := hP.sub (ws' := [(h, .inr (11, [.ref rc, .ref d])), (rc, .inr (4, [.ref tp, .ref ln, .ref tb, .ref ct, .ref dp])), (tp, .inr (0, [.ref a, .int (nI n)])), (a, .inl (cB, 9400, .inl f))]) [0, 1, 2, 3] rfl
  have hKc := hK.sub (tys' := [(cB, .byte)]) [0] rfl
  have hDc := hD.sub (ws' := [(h, .inr (11, [.ref rc, .ref d])), (rc, .inr (4, [.ref tp, .ref ln, .ref tb, .ref ct, .ref dp])), (tp, .inr (0, [.ref a, .int (nI n)])), (a, .inl (cB, 9400, .inl f))]) [0, 1, 2, 3] (by decide) rfl
  have hFc := va_free (wc := [(h, .inr (11, [.ref rc, .ref d])), (rc, .inr (4, [.ref tp, .ref ln, .ref tb, .ref ct, .ref dp])), (tp, .inr (0, [.ref a, .int (nI n)])), (a, .inl (cB, 9400, .inl f))]) hD hS hA [0, 1, 2, 3] rfl
  refine z_callVTi (As := [.int c, .long b]) (rest := [.int 0, .ref o9]) ⟨hx, hb, hml, hown, hts⟩ (c_SS_feed l D hfl B0 hG s.heap.size cB h d rc ln tb ct dp tp a n f c b hn) (z_cV hN wd_699 wd_59 wd_696 hd_SS_feed rfl rfl ⟨Nat.le_of_ble_eq_true rfl, Nat.le_of_ble_eq_true rfl⟩ wd_697 wd_698) (z_preVo (va_recv (ci := 11) (q0 := 0) hK hP rfl rfl) hPc hKc hN hDc hO hS hAO) rfl hl.1 rfl (lv_room (Nat.le_of_ble_eq_true rfl)) d_Law_feed_6 ⟨Nat.le_of_ble_eq_true rfl, Nat.le_of_ble_eq_true rfl⟩ hS (fun q _ h => hFc q h) hFc (fun r9 u9 t H locs ht hvm e6 hB hz1 hk1 hS => ?_) (fun X x H locs eX hcx hz1 hk1 hS => ?_)
  · obtain ⟨hP1, hK1, hD1⟩ := hB
    rw [ht] at hP1
    obtain ⟨hP, hD⟩ := va_join (wr := [(o9, .inl (cJ, 1, .inr (.inl g9)))]) (w1 := [(h, .inr (11, [.ref rc, .ref d])), (rc, .inr (4, [.ref tp, .ref ln, .ref tb, .ref ct, .ref dp])), (tp, .inr (0, [.ref a, .int (nI (n + u9))])), (a, .inl (cB, 9400, .inl (fd_f f n b u9)))]) hP hD [0, 1, 2, 3] [4] rfl rfl (by decide) (by decide) hk1 hFc hP1 hD1
    clear hk1 hP1 hD1 hFc hPc hDc hz1
    have hP : va_P D classes [(o9, .inl (cJ, 1, .inr (.inl g9))), (h, .inr (11, [.ref rc, .ref d])), (rc, .inr (4, [.ref tp, .ref ln, .ref tb, .ref ct, .ref dp])), (tp, .inr (0, [.ref a, .int (nI (n + u9))])), (a, .inl (cB, 9400, .inl (fd_f f n b u9)))] H := hP
    have hD : va_D A [(o9, .inl (cJ, 1, .inr (.inl g9))), (h, .inr (11, [.ref rc, .ref d])), (rc, .inr (4, [.ref tp, .ref ln, .ref tb, .ref ct, .ref dp])), (tp, .inr (0, [.ref a, .int (nI (n + u9))])), (a, .inl (cB, 9400, .inl (fd_f f n b u9)))] := hD
    refine lv_i2l (v := r9.toInt64) hx hb d_Law_feed_9 rfl ?_
    refine z_last hx hb hK hP hD hS 0 1 rfl rfl 0 rfl (by decide) (by decide) d_Law_feed_10 (fun H locs hP hD hS => ?_)
    have hP : va_P D classes [(o9, .inl (cJ, 1, .inr (.inl (vp_updL g9 0 r9.toInt64)))), (h, .inr (11, [.ref rc, .ref d])), (rc, .inr (4, [.ref tp, .ref ln, .ref tb, .ref ct, .ref dp])), (tp, .inr (0, [.ref a, .int (nI (n + u9))])), (a, .inl (cB, 9400, .inl (fd_f f n b u9)))] H := hP
    have hD : va_D A [(o9, .inl (cJ, 1, .inr (.inl (vp_updL g9 0 r9.toInt64)))), (h, .inr (11, [.ref rc, .ref d])), (rc, .inr (4, [.ref tp, .ref ln, .ref tb, .ref ct, .ref dp])), (tp, .inr (0, [.ref a, .int (nI (n + u9))])), (a, .inl (cB, 9400, .inl (fd_f f n b u9)))] := hD
    refine lv_goto (tgt := 18) hx hb d_Law_feed_11 rfl ?_
    refine lv_iconst (v := 0) hx hb d_Law_feed_18 (by decide) ?_
    have hP9 := hP.sub (ws' := [(h, .inr (11, [.ref rc, .ref d])), (rc, .inr (4, [.ref tp, .ref ln, .ref tb, .ref ct, .ref dp])), (tp, .inr (0, [.ref a, .int (nI (n + u9))])), (a, .inl (cB, 9400, .inl (fd_f f n b u9))), (o9, .inl (cJ, 1, .inr (.inl (vp_updL g9 0 r9.toInt64))))]) [1, 2, 3, 4, 0] rfl
    have hD9 := hD.sub (ws' := [(h, .inr (11, [.ref rc, .ref d])), (rc, .inr (4, [.ref tp, .ref ln, .ref tb, .ref ct, .ref dp])), (tp, .inr (0, [.ref a, .int (nI (n + u9))])), (a, .inl (cB, 9400, .inl (fd_f f n b u9))), (o9, .inl (cJ, 1, .inr (.inl (vp_updL g9 0 r9.toInt64))))]) [1, 2, 3, 4, 0] (by decide) rfl
    have hK9 := hK.sub (tys' := [(cB, .byte), (cJ, .long)]) [0, 1] rfl
    refine W.widen (k := 1) (n := 6) (by omega) (by omega) ?_
    exact W.iret (v := 0) hx hb hr (fun t ht hW => ⟨⟨_, (u9, r9), rfl, ⟨rfl, e6⟩, ⟨by rw [ht]; exact hP9, va_K.moved hW.alike hK9, hD9⟩⟩, hS.F ht⟩) hS.2.2 d_Law_feed_19
  · exact absurd eX (fun z => hok z.2)
set_option maxHeartbeats 4000000 in
set_option maxRecDepth 100000 in
theorem c_Law_spoil_badB (l : Launch) (D : va_G) (hfl : l.stackTraces = false) (B0 : State) (hG : zG B0) (sz : Nat) (cB : ClassId) (h d rc ln tb ct dp tp : Nat) (a n : Nat) (f : Nat → Int32) (i v : Int32) (cJ : ClassId) (o9 : Nat) (g9 : Nat → Int64) (hn : n ≤ 9400) (hbad : i < 0 ∨ nI n ≤ i) : Met l y_Law_spoil [Cond.codeWith y_Law_spoil b_Law_spoil 5 (some .int) [(0, 10, 13, 19), (0, 10, 17, 13)]] ({ frames := 7, cells := 1, slots := 6, locals := 106 }) (zMo [.ref h, .int i, .int v, .ref o9] D [(h, .inr (11, [.ref rc, .ref d])), (rc, .inr (4, [.ref tp, .ref ln, .ref tb, .ref ct, .ref dp])), (tp, .inr (0, [.ref a, .int (nI n)])), (a, .inl (cB, 9400, .inl f)), (o9, .inl (cJ, 1, .inr (.inl g9)))] [(cB, .byte), (cJ, .long)] sz B0) (va_Qi (fun r0 (_ : Unit) => r0 = 1) (fun (_u : Unit) t => zW D (va_A [(h, .inr (11, [.ref rc, .ref d])), (rc, .inr (4, [.ref tp, .ref ln, .ref tb, .ref ct, .ref dp])), (tp, .inr (0, [.ref a, .int (nI n)])), (a, .inl (cB, 9400, .inl f)), (o9, .inl (cJ, 1, .inr (.inl g9)))] sz) [(h, .inr (11, [.ref rc, .ref d])), (rc, .inr (4, [.ref tp, .ref ln, .ref tb, .ref ct, .ref dp])), (tp, .inr (0, [.ref a, .int (nI n)])), (a, .inl (cB, 9400, .inl f)), (o9, .inl (cJ, 1, .inr (.inl g9)))] [(cB, .byte), (cJ, .long)] t) (va_A [(h, .inr (11, [.ref rc, .ref d])), (rc, .inr (4, [.ref tp, .ref ln, .ref tb, .ref ct, .ref dp])), (tp, .inr (0, [.ref a, .int (nI n)])), (a, .inl (cB, 9400, .inl f)), (o9, .inl (cJ, 1, .inr (.inl g9)))] sz)) 1 6 (va_A [(h, .inr (11, [.ref rc, .ref d])), (rc, .inr (4, [.ref tp, .ref ln, .ref tb, .ref ct, .ref dp])), (tp, .inr (0, [.ref a, .int (nI n)])), (a, .inl (cB, 9400, .inl f)), (o9, .inl (cJ, 1, .inr (.inl g9)))] sz) := by
  refine va_MetW (cc := b_Law_spoil) (maxL := 5) (ret := (some .int)) (hh := [(0, 10, 13, 19), (0, 10, 17, 13)]) (by decide) rfl ?_
  intro p e s m args below meth cd s₁ Bd hml hv
  obtain ⟨rfl, hsz, hP, hK, hN, hD0, hO⟩ := hv
  have hx := Bd.exec
  have hb := Bd.bytes
  have hr := Bd.returns
  have hts := hN.use (a := ([.ref h, .int i, .int v, .ref o9]).toArray)
  have hown : s.vm.findClass R_Law = some m.cls := findClass_of_methodNamed Bd.named
  have hlocks := Bd.notSynchronized
  have htab := z_tab Bd
  subst hsz
  have hD := hD0.self (sz := s.heap.size)
  have hAO := z_AO hD0 hO
  clear hD0
  have hA : ∀ q : Nat, s.heap.size ≤ q → va_A [(h, .inr (11, [.ref rc, .ref d])), (rc, .inr (4, [.ref tp, .ref ln, .ref tb, .ref ct, .ref dp])), (tp, .inr (0, [.ref a, .int (nI n)])), (a, .inl (cB, 9400, .inl f)), (o9, .inl (cJ, 1, .inr (.inl g9)))] s.heap.size q := fun q h => Or.inr h
  have hS : va_S (va_A [(h, .inr (11, [.ref rc, .ref d])), (rc, .inr (4, [.ref tp, .ref ln, .ref tb, .ref ct, .ref dp])), (tp, .inr (0, [.ref a, .int (nI n)])), (a, .inl (cB, 9400, .inl f)), (o9, .inl (cJ, 1, .inr (.inl g9)))] s.heap.size) s.heap s.heap [] := va_S.rf
  generalize hAe : va_A [(h, .inr (11, [.ref rc, .ref d])), (rc, .inr (4, [.ref tp, .ref ln, .ref tb, .ref ct, .ref dp])), (tp, .inr (0, [.ref a, .int (nI n)])), (a, .inl (cB, 9400, .inl f)), (o9, .inl (cJ, 1, .inr (.inl g9)))] s.heap.size = A at hD hA hS hAO ⊢
  have hP : va_P D classes [(h, .inr (11, [.ref rc, .ref d])), (rc, .inr (4, [.ref tp, .ref ln, .ref tb, .ref ct, .ref dp])), (tp, .inr (0, [.ref a, .int (nI n)])), (a, .inl (cB, 9400, .inl f)), (o9, .inl (cJ, 1, .inr (.inl g9)))] s.heap := hP
  have hl := lv_entry ([.ref h, .int i, .int v, .ref o9]) (n := 5) (Nat.le_of_ble_eq_true rfl)
  rw [lg_entry_eq]
  generalize (lg_sl ([.ref h, .int i, .int v, .ref o9]) ++ List.replicate (5 - (lg_sl ([.ref h, .int i, .int v, .ref o9])).length) Slot.unset).toArray = ls at hl ⊢
  have hl : lv_has ls 5 [(0, .ref h), (1, .int i), (2, .int v), (3, .ref o9)] := hl
  refine lv_aload_n hx hb d_Law_spoil_0 rfl (lv_at hl 3 rfl) ?_
  refine lv_iconst (v := 0) hx hb d_Law_spoil_1 (by decide) ?_
  refine lv_aload_n hx hb d_Law_spoil_2 rfl (lv_at hl 0 rfl) ?_
  refine lv_iload_n hx hb d_Law_spoil_3 rfl (lv_at hl 1 rfl) ?_
  refine lv_iload_n hx hb d_Law_spoil_4 rfl (lv_at hl 2 rfl) ?_
  have hPc := hP.sub (ws' := [(h, .inr (11, [.ref rc, .ref d])), (rc, .inr (4, [.ref tp, .ref ln, .ref tb, .ref ct, .ref dp])), (tp, .inr (0, [.ref a, .int (nI n)])), (a, .inl (cB, 9400, .inl f))]) [0, 1, 2, 3] rfl
  have hKc := hK.sub (tys' := [(cB, .byte)]) [0] rfl
  have hDc := hD.sub (ws' := [(h, .inr (11, [.ref rc, .ref d])), (rc, .inr (4, [.ref tp, .ref ln, .ref tb, .ref ct, .ref dp])), (tp, .inr (0, [.ref a, .int (nI n)])), (a, .inl (cB, 9400, .inl f))]) [0, 1, 2, 3] (by decide) rfl
  have hFc := va_free (wc := [(h, .inr (11, [.ref rc, .ref d])), (rc, .inr (4, [.ref tp, .ref ln, .ref tb, .ref ct, .ref dp])), (tp, .inr (0, [.ref a, .int (nI n)])), (a, .inl (cB, 9400, .inl f))]) hD hS hA [0, 1, 2, 3] rfl
  refine z_callVTi (As := [.int i, .int v]) (rest := [.int 0, .ref o9]) ⟨hx, hb, hml, hown, hts⟩ (c_SS_spoil l D hfl B0 hG s.heap.size cB h d rc ln tb ct dp tp a n f i v hn) (z_cV hN wd_774 wd_59 wd_771 hd_SS_spoil rfl rfl ⟨Nat.le_of_ble_eq_true rfl, Nat.le_of_ble_eq_true rfl⟩ wd_772 wd_773) (z_preVo (va_recv (ci := 11) (q0 := 0) hK hP rfl rfl) hPc hKc hN hDc hO hS hAO) rfl hl.1 rfl (lv_room (Nat.le_of_ble_eq_true rfl)) d_Law_spoil_5 ⟨Nat.le_of_ble_eq_true rfl, Nat.le_of_ble_eq_true rfl⟩ hS (fun q _ h => hFc q h) hFc (fun r9 u9 t H locs ht hvm e5 hB hz1 hk1 hS => ?_) (fun X x H locs eX hcx hz1 hk1 hS => ?_)
  · exact absurd e5 (fun z => by obtain ⟨z1, z2, -⟩ := z; subst z2; exact hbad.elim (nI_pos (by omega)) (nI_ge z1 (by omega)))
  · obtain rfl : X = xB := eX.elim (fun z => z.1) (fun z => absurd hbad (fun q => q.elim z.2.1 z.2.2.1))
    have hP : va_P D classes [(h, .inr (11, [.ref rc, .ref d])), (rc, .inr (4, [.ref tp, .ref ln, .ref tb, .ref ct, .ref dp])), (tp, .inr (0, [.ref a, .int (nI n)])), (a, .inl (cB, 9400, .inl f)), (o9, .inl (cJ, 1, .inr (.inl g9)))] H := z_Pkept hP hk1
    refine z_catch1h htab (by decide) (by decide) hown (hts _ wd_770) (hts _ wd_777) hcx ?_
    clear hcx hz1 hk1
    refine lv_astore (lv' := [(4, .ref x), (0, .ref h), (1, .int i), (2, .int v), (3, .ref o9)]) hx hb d_Law_spoil_13 hl (by decide) rfl (fun ls hl => ?_)
    refine lv_iconst (v := 1) hx hb d_Law_spoil_15 (by decide) ?_
    have hP9 := hP.sub (ws' := [(h, .inr (11, [.ref rc, .ref d])), (rc, .inr (4, [.ref tp, .ref ln, .ref tb, .ref ct, .ref dp])), (tp, .inr (0, [.ref a, .int (nI n)])), (a, .inl (cB, 9400, .inl f)), (o9, .inl (cJ, 1, .inr (.inl g9)))]) [0, 1, 2, 3, 4] rfl
    have hD9 := hD.sub (ws' := [(h, .inr (11, [.ref rc, .ref d])), (rc, .inr (4, [.ref tp, .ref ln, .ref tb, .ref ct, .ref dp])), (tp, .inr (0, [.ref a, .int (nI n)])), (a, .inl (cB, 9400, .inl f)), (o9, .inl (cJ, 1, .inr (.inl g9)))]) [0, 1, 2, 3, 4] (by decide) rfl
    have hK9 := hK.sub (tys' := [(cB, .byte), (cJ, .long)]) [0, 1] rfl
    refine W.widen (k := 1) (n := 6) (by omega) (by omega) ?_
    exact W.iret (v := 1) hx hb hr (fun t ht hW => ⟨⟨_, (), rfl, rfl, ⟨by rw [ht]; exact hP9, va_K.moved hW.alike hK9, hD9⟩⟩, hS.F ht⟩) hS.2.2 d_Law_spoil_16
set_option maxHeartbeats 4000000 in
set_option maxRecDepth 100000 in
theorem c_Law_spoil_badA (l : Launch) (D : va_G) (hfl : l.stackTraces = false) (B0 : State) (hG : zG B0) (sz : Nat) (cB : ClassId) (h d rc ln tb ct dp tp : Nat) (a n : Nat) (f : Nat → Int32) (i v : Int32) (cJ : ClassId) (o9 : Nat) (g9 : Nat → Int64) (hn : n ≤ 9400) (hin1 : ¬ i < 0) (hin2 : ¬ nI n ≤ i) (hbad : v < 0 ∨ 255 < v) : Met l y_Law_spoil [Cond.codeWith y_Law_spoil b_Law_spoil 5 (some .int) [(0, 10, 13, 19), (0, 10, 17, 13)]] ({ frames := 7, cells := 1, slots := 6, locals := 106 }) (zMo [.ref h, .int i, .int v, .ref o9] D [(h, .inr (11, [.ref rc, .ref d])), (rc, .inr (4, [.ref tp, .ref ln, .ref tb, .ref ct, .ref dp])), (tp, .inr (0, [.ref a, .int (nI n)])), (a, .inl (cB, 9400, .inl f)), (o9, .inl (cJ, 1, .inr (.inl g9)))] [(cB, .byte), (cJ, .long)] sz B0) (va_Qi (fun r0 (_ : Unit) => r0 = 2) (fun (_u : Unit) t => zW D (va_A [(h, .inr (11, [.ref rc, .ref d])), (rc, .inr (4, [.ref tp, .ref ln, .ref tb, .ref ct, .ref dp])), (tp, .inr (0, [.ref a, .int (nI n)])), (a, .inl (cB, 9400, .inl f)), (o9, .inl (cJ, 1, .inr (.inl g9)))] sz) [(h, .inr (11, [.ref rc, .ref d])), (rc, .inr (4, [.ref tp, .ref ln, .ref tb, .ref ct, .ref dp])), (tp, .inr (0, [.ref a, .int (nI n)])), (a, .inl (cB, 9400, .inl f)), (o9, .inl (cJ, 1, .inr (.inl g9)))] [(cB, .byte), (cJ, .long)] t) (va_A [(h, .inr (11, [.ref rc, .ref d])), (rc, .inr (4, [.ref tp, .ref ln, .ref tb, .ref ct, .ref dp])), (tp, .inr (0, [.ref a, .int (nI n)])), (a, .inl (cB, 9400, .inl f)), (o9, .inl (cJ, 1, .inr (.inl g9)))] sz)) 1 6 (va_A [(h, .inr (11, [.ref rc, .ref d])), (rc, .inr (4, [.ref tp, .ref ln, .ref tb, .ref ct, .ref dp])), (tp, .inr (0, [.ref a, .int (nI n)])), (a, .inl (cB, 9400, .inl f)), (o9, .inl (cJ, 1, .inr (.inl g9)))] sz) := by
  refine va_MetW (cc := b_Law_spoil) (maxL := 5) (ret := (some .int)) (hh := [(0, 10, 13, 19), (0, 10, 17, 13)]) (by decide) rfl ?_
  intro p e s m args below meth cd s₁ Bd hml hv
  obtain ⟨rfl, hsz, hP, hK, hN, hD0, hO⟩ := hv
  have hx := Bd.exec
  have hb := Bd.bytes
  have hr := Bd.returns
  have hts := hN.use (a := ([.ref h, .int i, .int v, .ref o9]).toArray)
  have hown : s.vm.findClass R_Law = some m.cls := findClass_of_methodNamed Bd.named
  have hlocks := Bd.notSynchronized
  have htab := z_tab Bd
  subst hsz
  have hD := hD0.self (sz := s.heap.size)
  have hAO := z_AO hD0 hO
  clear hD0
  have hA : ∀ q : Nat, s.heap.size ≤ q → va_A [(h, .inr (11, [.ref rc, .ref d])), (rc, .inr (4, [.ref tp, .ref ln, .ref tb, .ref ct, .ref dp])), (tp, .inr (0, [.ref a, .int (nI n)])), (a, .inl (cB, 9400, .inl f)), (o9, .inl (cJ, 1, .inr (.inl g9)))] s.heap.size q := fun q h => Or.inr h
  have hS : va_S (va_A [(h, .inr (11, [.ref rc, .ref d])), (rc, .inr (4, [.ref tp, .ref ln, .ref tb, .ref ct, .ref dp])), (tp, .inr (0, [.ref a, .int (nI n)])), (a, .inl (cB, 9400, .inl f)), (o9, .inl (cJ, 1, .inr (.inl g9)))] s.heap.size) s.heap s.heap [] := va_S.rf
  generalize hAe : va_A [(h, .inr (11, [.ref rc, .ref d])), (rc, .inr (4, [.ref tp, .ref ln, .ref tb, .ref ct, .ref dp])), (tp, .inr (0, [.ref a, .int (nI n)])), (a, .inl (cB, 9400, .inl f)), (o9, .inl (cJ, 1, .inr (.inl g9)))] s.heap.size = A at hD hA hS hAO ⊢
  have hP : va_P D classes [(h, .inr (11, [.ref rc, .ref d])), (rc, .inr (4, [.ref tp, .ref ln, .ref tb, .ref ct, .ref dp])), (tp, .inr (0, [.ref a, .int (nI n)])), (a, .inl (cB, 9400, .inl f)), (o9, .inl (cJ, 1, .inr (.inl g9)))] s.heap := hP
  have hl := lv_entry ([.ref h, .int i, .int v, .ref o9]) (n := 5) (Nat.le_of_ble_eq_true rfl)
  rw [lg_entry_eq]
  generalize (lg_sl ([.ref h, .int i, .int v, .ref o9]) ++ List.replicate (5 - (lg_sl ([.ref h, .int i, .int v, .ref o9])).length) Slot.unset).toArray = ls at hl ⊢
  have hl : lv_has ls 5 [(0, .ref h), (1, .int i), (2, .int v), (3, .ref o9)] := hl
  refine lv_aload_n hx hb d_Law_spoil_0 rfl (lv_at hl 3 rfl) ?_
  refine lv_iconst (v := 0) hx hb d_Law_spoil_1 (by decide) ?_
  refine lv_aload_n hx hb d_Law_spoil_2 rfl (lv_at hl 0 rfl) ?_
  refine lv_iload_n hx hb d_Law_spoil_3 rfl (lv_at hl 1 rfl) ?_
  refine lv_iload_n hx hb d_Law_spoil_4 rfl (lv_at hl 2 rfl) ?_
  have hPc := hP.sub (ws' := [(h, .inr (11, [.ref rc, .ref d])), (rc, .inr (4, [.ref tp, .ref ln, .ref tb, .ref ct, .ref dp])), (tp, .inr (0, [.ref a, .int (nI n)])), (a, .inl (cB, 9400, .inl f))]) [0, 1, 2, 3] rfl
  have hKc := hK.sub (tys' := [(cB, .byte)]) [0] rfl
  have hDc := hD.sub (ws' := [(h, .inr (11, [.ref rc, .ref d])), (rc, .inr (4, [.ref tp, .ref ln, .ref tb, .ref ct, .ref dp])), (tp, .inr (0, [.ref a, .int (nI n)])), (a, .inl (cB, 9400, .inl f))]) [0, 1, 2, 3] (by decide) rfl
  have hFc := va_free (wc := [(h, .inr (11, [.ref rc, .ref d])), (rc, .inr (4, [.ref tp, .ref ln, .ref tb, .ref ct, .ref dp])), (tp, .inr (0, [.ref a, .int (nI n)])), (a, .inl (cB, 9400, .inl f))]) hD hS hA [0, 1, 2, 3] rfl
  refine z_callVTi (As := [.int i, .int v]) (rest := [.int 0, .ref o9]) ⟨hx, hb, hml, hown, hts⟩ (c_SS_spoil l D hfl B0 hG s.heap.size cB h d rc ln tb ct dp tp a n f i v hn) (z_cV hN wd_774 wd_59 wd_771 hd_SS_spoil rfl rfl ⟨Nat.le_of_ble_eq_true rfl, Nat.le_of_ble_eq_true rfl⟩ wd_772 wd_773) (z_preVo (va_recv (ci := 11) (q0 := 0) hK hP rfl rfl) hPc hKc hN hDc hO hS hAO) rfl hl.1 rfl (lv_room (Nat.le_of_ble_eq_true rfl)) d_Law_spoil_5 ⟨Nat.le_of_ble_eq_true rfl, Nat.le_of_ble_eq_true rfl⟩ hS (fun q _ h => hFc q h) hFc (fun r9 u9 t H locs ht hvm e5 hB hz1 hk1 hS => ?_) (fun X x H locs eX hcx hz1 hk1 hS => ?_)
  · exact absurd e5 (fun z => hbad.elim z.2.2.1 z.2.2.2.1)
  · obtain rfl : X = xA := eX.elim (fun z => absurd z.2 (fun q => q.elim hin1 hin2)) (fun z => z.1)
    have hP : va_P D classes [(h, .inr (11, [.ref rc, .ref d])), (rc, .inr (4, [.ref tp, .ref ln, .ref tb, .ref ct, .ref dp])), (tp, .inr (0, [.ref a, .int (nI n)])), (a, .inl (cB, 9400, .inl f)), (o9, .inl (cJ, 1, .inr (.inl g9)))] H := z_Pkept hP hk1
    refine z_catch2N htab (by decide) (by decide) (by decide) (by decide) hown (hts _ wd_770) (hts _ wd_695) (z_no hG hO (by decide +kernel)) (hts _ wd_702) hcx ?_
    clear hcx hz1 hk1
    refine lv_astore (lv' := [(4, .ref x), (0, .ref h), (1, .int i), (2, .int v), (3, .ref o9)]) hx hb d_Law_spoil_17 hl (by decide) rfl (fun ls hl => ?_)
    refine lv_iconst (v := 2) hx hb d_Law_spoil_19 (by decide) ?_
    have hP9 := hP.sub (ws' := [(h, .inr (11, [.ref rc, .ref d])), (rc, .inr (4, [.ref tp, .ref ln, .ref tb, .ref ct, .ref dp])), (tp, .inr (0, [.ref a, .int (nI n)])), (a, .inl (cB, 9400, .inl f)), (o9, .inl (cJ, 1, .inr (.inl g9)))]) [0, 1, 2, 3, 4] rfl
    have hD9 := hD.sub (ws' := [(h, .inr (11, [.ref rc, .ref d])), (rc, .inr (4, [.ref tp, .ref ln, .ref tb, .ref ct, .ref dp])), (tp, .inr (0, [.ref a, .int (nI n)])), (a, .inl (cB, 9400, .inl f)), (o9, .inl (cJ, 1, .inr (.inl g9)))]) [0, 1, 2, 3, 4] (by decide) rfl
    have hK9 := hK.sub (tys' := [(cB, .byte), (cJ, .long)]) [0, 1] rfl
    refine W.widen (k := 1) (n := 6) (by omega) (by omega) ?_
    exact W.iret (v := 2) hx hb hr (fun t ht hW => ⟨⟨_, (), rfl, rfl, ⟨by rw [ht]; exact hP9, va_K.moved hW.alike hK9, hD9⟩⟩, hS.F ht⟩) hS.2.2 d_Law_spoil_20
set_option maxHeartbeats 4000000 in
set_option maxRecDepth 100000 in
theorem c_Law_spoil_ok (l : Launch) (D : va_G) (hfl : l.stackTraces = false) (B0 : State) (hG : zG B0) (sz : Nat) (cB : ClassId) (h d rc ln tb ct dp tp : Nat) (a n : Nat) (f : Nat → Int32) (i v : Int32) (cJ : ClassId) (o9 : Nat) (g9 : Nat → Int64) (hn : n ≤ 9400) (hin1 : ¬ i < 0) (hin2 : ¬ nI n ≤ i) (hok : ¬ (v < 0 ∨ 255 < v)) : Met l y_Law_spoil [Cond.codeWith y_Law_spoil b_Law_spoil 5 (some .int) [(0, 10, 13, 19), (0, 10, 17, 13)]] ({ frames := 7, cells := 1, slots := 6, locals := 106 }) (zMo [.ref h, .int i, .int v, .ref o9] D [(h, .inr (11, [.ref rc, .ref d])), (rc, .inr (4, [.ref tp, .ref ln, .ref tb, .ref ct, .ref dp])), (tp, .inr (0, [.ref a, .int (nI n)])), (a, .inl (cB, 9400, .inl f)), (o9, .inl (cJ, 1, .inr (.inl g9)))] [(cB, .byte), (cJ, .long)] sz B0) (va_Qi (fun r0 (u : (Nat) × Int32) => r0 = 0 ∧ (fun r (u : Nat) => u < n ∧ i = nI u ∧ ¬ v < 0 ∧ ¬ 255 < v ∧ r = rw_at f n 9400 i) u.2 u.1) (fun (u : (Nat) × Int32) t => zW D (va_A [(h, .inr (11, [.ref rc, .ref d])), (rc, .inr (4, [.ref tp, .ref ln, .ref tb, .ref ct, .ref dp])), (tp, .inr (0, [.ref a, .int (nI n)])), (a, .inl (cB, 9400, .inl f)), (o9, .inl (cJ, 1, .inr (.inl g9)))] sz) [(h, .inr (11, [.ref rc, .ref d])), (rc, .inr (4, [.ref tp, .ref ln, .ref tb, .ref ct, .ref dp])), (tp, .inr (0, [.ref a, .int (nI n)])), (a, .inl (cB, 9400, .inl (upd f u.1 (by8 v)))), (o9, .inl (cJ, 1, .inr (.inl (vp_updL g9 0 u.2.toInt64))))] [(cB, .byte), (cJ, .long)] t) (va_A [(h, .inr (11, [.ref rc, .ref d])), (rc, .inr (4, [.ref tp, .ref ln, .ref tb, .ref ct, .ref dp])), (tp, .inr (0, [.ref a, .int (nI n)])), (a, .inl (cB, 9400, .inl f)), (o9, .inl (cJ, 1, .inr (.inl g9)))] sz)) 1 6 (va_A [(h, .inr (11, [.ref rc, .ref d])), (rc, .inr (4, [.ref tp, .ref ln, .ref tb, .ref ct, .ref dp])), (tp, .inr (0, [.ref a, .int (nI n)])), (a, .inl (cB, 9400, .inl f)), (o9, .inl (cJ, 1, .inr (.inl g9)))] sz) := by
  refine va_MetW (cc := b_Law_spoil) (maxL := 5) (ret := (some .int)) (hh := [(0, 10, 13, 19), (0, 10, 17, 13)]) (by decide) rfl ?_
  intro p e s m args below meth cd s₁ Bd hml hv
  obtain ⟨rfl, hsz, hP, hK, hN, hD0, hO⟩ := hv
  have hx := Bd.exec
  have hb := Bd.bytes
  have hr := Bd.returns
  have hts := hN.use (a := ([.ref h, .int i, .int v, .ref o9]).toArray)
  have hown : s.vm.findClass R_Law = some m.cls := findClass_of_methodNamed Bd.named
  have hlocks := Bd.notSynchronized
  have htab := z_tab Bd
  subst hsz
  have hD := hD0.self (sz := s.heap.size)
  have hAO := z_AO hD0 hO
  clear hD0
  have hA : ∀ q : Nat, s.heap.size ≤ q → va_A [(h, .inr (11, [.ref rc, .ref d])), (rc, .inr (4, [.ref tp, .ref ln, .ref tb, .ref ct, .ref dp])), (tp, .inr (0, [.ref a, .int (nI n)])), (a, .inl (cB, 9400, .inl f)), (o9, .inl (cJ, 1, .inr (.inl g9)))] s.heap.size q := fun q h => Or.inr h
  have hS : va_S (va_A [(h, .inr (11, [.ref rc, .ref d])), (rc, .inr (4, [.ref tp, .ref ln, .ref tb, .ref ct, .ref dp])), (tp, .inr (0, [.ref a, .int (nI n)])), (a, .inl (cB, 9400, .inl f)), (o9, .inl (cJ, 1, .inr (.inl g9)))] s.heap.size) s.heap s.heap [] := va_S.rf
  generalize hAe : va_A [(h, .inr (11, [.ref rc, .ref d])), (rc, .inr (4, [.ref tp, .ref ln, .ref tb, .ref ct, .ref dp])), (tp, .inr (0, [.ref a, .int (nI n)])), (a, .inl (cB, 9400, .inl f)), (o9, .inl (cJ, 1, .inr (.inl g9)))] s.heap.size = A at hD hA hS hAO ⊢
  have hP : va_P D classes [(h, .inr (11, [.ref rc, .ref d])), (rc, .inr (4, [.ref tp, .ref ln, .ref tb, .ref ct, .ref dp])), (tp, .inr (0, [.ref a, .int (nI n)])), (a, .inl (cB, 9400, .inl f)), (o9, .inl (cJ, 1, .inr (.inl g9)))] s.heap := hP
  have hl := lv_entry ([.ref h, .int i, .int v, .ref o9]) (n := 5) (Nat.le_of_ble_eq_true rfl)
  rw [lg_entry_eq]
  generalize (lg_sl ([.ref h, .int i, .int v, .ref o9]) ++ List.replicate (5 - (lg_sl ([.ref h, .int i, .int v, .ref o9])).length) Slot.unset).toArray = ls at hl ⊢
  have hl : lv_has ls 5 [(0, .ref h), (1, .int i), (2, .int v), (3, .ref o9)] := hl
  refine lv_aload_n hx hb d_Law_spoil_0 rfl (lv_at hl 3 rfl) ?_
  refine lv_iconst (v := 0) hx hb d_Law_spoil_1 (by decide) ?_
  refine lv_aload_n hx hb d_Law_spoil_2 rfl (lv_at hl 0 rfl) ?_
  refine lv_iload_n hx hb d_Law_spoil_3 rfl (lv_at hl 1 rfl) ?_
  refine lv_iload_n hx hb d_Law_spoil_4 rfl (lv_at hl 2 rfl) ?_
  have hPc := hP.sub (ws' := [(h, .inr (11, [.ref rc, .ref d])), (rc, .inr (4, [.ref tp, .ref ln, .ref tb, .ref ct, .ref dp])), (tp, .inr (0, [.ref a, .int (nI n)])), (a, .inl (cB, 9400, .inl f))]) [0, 1, 2, 3] rfl
  have hKc := hK.sub (tys' := [(cB, .byte)]) [0] rfl
  have hDc := hD.sub (ws' := [(h, .inr (11, [.ref rc, .ref d])), (rc, .inr (4, [.ref tp, .ref ln, .ref tb, .ref ct, .ref dp])), (tp, .inr (0, [.ref a, .int (nI n)])), (a, .inl (cB, 9400, .inl f))]) [0, 1, 2, 3] (by decide) rfl
  have hFc := va_free (wc := [(h, .inr (11, [.ref rc, .ref d])), (rc, .inr (4, [.ref tp, .ref ln, .ref tb, .ref ct, .ref dp])), (tp, .inr (0, [.ref a, .int (nI n)])), (a, .inl (cB, 9400, .inl f))]) hD hS hA [0, 1, 2, 3] rfl
  refine z_callVTi (As := [.int i, .int v]) (rest := [.int 0, .ref o9]) ⟨hx, hb, hml, hown, hts⟩ (c_SS_spoil l D hfl B0 hG s.heap.size cB h d rc ln tb ct dp tp a n f i v hn) (z_cV hN wd_774 wd_59 wd_771 hd_SS_spoil rfl rfl ⟨Nat.le_of_ble_eq_true rfl, Nat.le_of_ble_eq_true rfl⟩ wd_772 wd_773) (z_preVo (va_recv (ci := 11) (q0 := 0) hK hP rfl rfl) hPc hKc hN hDc hO hS hAO) rfl hl.1 rfl (lv_room (Nat.le_of_ble_eq_true rfl)) d_Law_spoil_5 ⟨Nat.le_of_ble_eq_true rfl, Nat.le_of_ble_eq_true rfl⟩ hS (fun q _ h => hFc q h) hFc (fun r9 u9 t H locs ht hvm e5 hB hz1 hk1 hS => ?_) (fun X x H locs eX hcx hz1 hk1 hS => ?_)
  · obtain ⟨hP1, hK1, hD1⟩ := hB
    rw [ht] at hP1
    obtain ⟨hP, hD⟩ := va_join (wr := [(o9, .inl (cJ, 1, .inr (.inl g9)))]) (w1 := [(h, .inr (11, [.ref rc, .ref d])), (rc, .inr (4, [.ref tp, .ref ln, .ref tb, .ref ct, .ref dp])), (tp, .inr (0, [.ref a, .int (nI n)])), (a, .inl (cB, 9400, .inl (upd f u9 (by8 v))))]) hP hD [0, 1, 2, 3] [4] rfl rfl (by decide) (by decide) hk1 hFc hP1 hD1
    clear hk1 hP1 hD1 hFc hPc hDc hz1
    have hP : va_P D classes [(o9, .inl (cJ, 1, .inr (.inl g9))), (h, .inr (11, [.ref rc, .ref d])), (rc, .inr (4, [.ref tp, .ref ln, .ref tb, .ref ct, .ref dp])), (tp, .inr (0, [.ref a, .int (nI n)])), (a, .inl (cB, 9400, .inl (upd f u9 (by8 v))))] H := hP
    have hD : va_D A [(o9, .inl (cJ, 1, .inr (.inl g9))), (h, .inr (11, [.ref rc, .ref d])), (rc, .inr (4, [.ref tp, .ref ln, .ref tb, .ref ct, .ref dp])), (tp, .inr (0, [.ref a, .int (nI n)])), (a, .inl (cB, 9400, .inl (upd f u9 (by8 v))))] := hD
    refine lv_i2l (v := r9.toInt64) hx hb d_Law_spoil_8 rfl ?_
    refine z_last hx hb hK hP hD hS 0 1 rfl rfl 0 rfl (by decide) (by decide) d_Law_spoil_9 (fun H locs hP hD hS => ?_)
    have hP : va_P D classes [(o9, .inl (cJ, 1, .inr (.inl (vp_updL g9 0 r9.toInt64)))), (h, .inr (11, [.ref rc, .ref d])), (rc, .inr (4, [.ref tp, .ref ln, .ref tb, .ref ct, .ref dp])), (tp, .inr (0, [.ref a, .int (nI n)])), (a, .inl (cB, 9400, .inl (upd f u9 (by8 v))))] H := hP
    have hD : va_D A [(o9, .inl (cJ, 1, .inr (.inl (vp_updL g9 0 r9.toInt64)))), (h, .inr (11, [.ref rc, .ref d])), (rc, .inr (4, [.ref tp, .ref ln, .ref tb, .ref ct, .ref dp])), (tp, .inr (0, [.ref a, .int (nI n)])), (a, .inl (cB, 9400, .inl (upd f u9 (by8 v))))] := hD
    refine lv_goto (tgt := 21) hx hb d_Law_spoil_10 rfl ?_
    refine lv_iconst (v := 0) hx hb d_Law_spoil_21 (by decide) ?_
    have hP9 := hP.sub (ws' := [(h, .inr (11, [.ref rc, .ref d])), (rc, .inr (4, [.ref tp, .ref ln, .ref tb, .ref ct, .ref dp])), (tp, .inr (0, [.ref a, .int (nI n)])), (a, .inl (cB, 9400, .inl (upd f u9 (by8 v)))), (o9, .inl (cJ, 1, .inr (.inl (vp_updL g9 0 r9.toInt64))))]) [1, 2, 3, 4, 0] rfl
    have hD9 := hD.sub (ws' := [(h, .inr (11, [.ref rc, .ref d])), (rc, .inr (4, [.ref tp, .ref ln, .ref tb, .ref ct, .ref dp])), (tp, .inr (0, [.ref a, .int (nI n)])), (a, .inl (cB, 9400, .inl (upd f u9 (by8 v)))), (o9, .inl (cJ, 1, .inr (.inl (vp_updL g9 0 r9.toInt64))))]) [1, 2, 3, 4, 0] (by decide) rfl
    have hK9 := hK.sub (tys' := [(cB, .byte), (cJ, .long)]) [0, 1] rfl
    refine W.widen (k := 1) (n := 6) (by omega) (by omega) ?_
    exact W.iret (v := 0) hx hb hr (fun t ht hW => ⟨⟨_, (u9, r9), rfl, ⟨rfl, e5⟩, ⟨by rw [ht]; exact hP9, va_K.moved hW.alike hK9, hD9⟩⟩, hS.F ht⟩) hS.2.2 d_Law_spoil_22
  · exact absurd eX (fun z => z.elim (fun z => z.2.elim hin1 hin2) (fun z => hok z.2.2.2))
set_option maxHeartbeats 4000000 in
set_option maxRecDepth 100000 in
theorem c_Law_drop_bad (l : Launch) (D : va_G) (hfl : l.stackTraces = false) (B0 : State) (hG : zG B0) (sz : Nat) (cB : ClassId) (h d rc ln tb ct dp tp : Nat) (a n : Nat) (f : Nat → Int32) (i c : Int32) (cJ : ClassId) (o9 : Nat) (g9 : Nat → Int64) (hn : n ≤ 9400) (hf : sb_Fit f) (hbad : i < 0 ∨ c < 0 ∨ nI n - i < c) : Met l y_Law_drop [Cond.codeWith y_Law_drop b_Law_drop 5 (some .int) [(0, 10, 13, 19)]] ({ frames := 7, cells := 1, slots := 6, locals := 105 }) (zMo [.ref h, .int i, .int c, .ref o9] D [(h, .inr (11, [.ref rc, .ref d])), (rc, .inr (4, [.ref tp, .ref ln, .ref tb, .ref ct, .ref dp])), (tp, .inr (0, [.ref a, .int (nI n)])), (a, .inl (cB, 9400, .inl f)), (o9, .inl (cJ, 1, .inr (.inl g9)))] [(cB, .byte), (cJ, .long)] sz B0) (va_Qi (fun r0 (_ : Unit) => r0 = 1) (fun (_u : Unit) t => zW D (va_A [(h, .inr (11, [.ref rc, .ref d])), (rc, .inr (4, [.ref tp, .ref ln, .ref tb, .ref ct, .ref dp])), (tp, .inr (0, [.ref a, .int (nI n)])), (a, .inl (cB, 9400, .inl f)), (o9, .inl (cJ, 1, .inr (.inl g9)))] sz) [(h, .inr (11, [.ref rc, .ref d])), (rc, .inr (4, [.ref tp, .ref ln, .ref tb, .ref ct, .ref dp])), (tp, .inr (0, [.ref a, .int (nI n)])), (a, .inl (cB, 9400, .inl f)), (o9, .inl (cJ, 1, .inr (.inl g9)))] [(cB, .byte), (cJ, .long)] t) (va_A [(h, .inr (11, [.ref rc, .ref d])), (rc, .inr (4, [.ref tp, .ref ln, .ref tb, .ref ct, .ref dp])), (tp, .inr (0, [.ref a, .int (nI n)])), (a, .inl (cB, 9400, .inl f)), (o9, .inl (cJ, 1, .inr (.inl g9)))] sz)) 1 6 (va_A [(h, .inr (11, [.ref rc, .ref d])), (rc, .inr (4, [.ref tp, .ref ln, .ref tb, .ref ct, .ref dp])), (tp, .inr (0, [.ref a, .int (nI n)])), (a, .inl (cB, 9400, .inl f)), (o9, .inl (cJ, 1, .inr (.inl g9)))] sz) := by
  refine va_MetW (cc := b_Law_drop) (maxL := 5) (ret := (some .int)) (hh := [(0, 10, 13, 19)]) (by decide) rfl ?_
  intro p e s m args below meth cd s₁ Bd hml hv
  obtain ⟨rfl, hsz, hP, hK, hN, hD0, hO⟩ := hv
  have hx := Bd.exec
  have hb := Bd.bytes
  have hr := Bd.returns
  have hts := hN.use (a := ([.ref h, .int i, .int c, .ref o9]).toArray)
  have hown : s.vm.findClass R_Law = some m.cls := findClass_of_methodNamed Bd.named
  have hlocks := Bd.notSynchronized
  have htab := z_tab Bd
  subst hsz
  have hD := hD0.self (sz := s.heap.size)
  have hAO := z_AO hD0 hO
  clear hD0
  have hA : ∀ q : Nat, s.heap.size ≤ q → va_A [(h, .inr (11, [.ref rc, .ref d])), (rc, .inr (4, [.ref tp, .ref ln, .ref tb, .ref ct, .ref dp])), (tp, .inr (0, [.ref a, .int (nI n)])), (a, .inl (cB, 9400, .inl f)), (o9, .inl (cJ, 1, .inr (.inl g9)))] s.heap.size q := fun q h => Or.inr h
  have hS : va_S (va_A [(h, .inr (11, [.ref rc, .ref d])), (rc, .inr (4, [.ref tp, .ref ln, .ref tb, .ref ct, .ref dp])), (tp, .inr (0, [.ref a, .int (nI n)])), (a, .inl (cB, 9400, .inl f)), (o9, .inl (cJ, 1, .inr (.inl g9)))] s.heap.size) s.heap s.heap [] := va_S.rf
  generalize hAe : va_A [(h, .inr (11, [.ref rc, .ref d])), (rc, .inr (4, [.ref tp, .ref ln, .ref tb, .ref ct, .ref dp])), (tp, .inr (0, [.ref a, .int (nI n)])), (a, .inl (cB, 9400, .inl f)), (o9, .inl (cJ, 1, .inr (.inl g9)))] s.heap.size = A at hD hA hS hAO ⊢
  have hP : va_P D classes [(h, .inr (11, [.ref rc, .ref d])), (rc, .inr (4, [.ref tp, .ref ln, .ref tb, .ref ct, .ref dp])), (tp, .inr (0, [.ref a, .int (nI n)])), (a, .inl (cB, 9400, .inl f)), (o9, .inl (cJ, 1, .inr (.inl g9)))] s.heap := hP
  have hl := lv_entry ([.ref h, .int i, .int c, .ref o9]) (n := 5) (Nat.le_of_ble_eq_true rfl)
  rw [lg_entry_eq]
  generalize (lg_sl ([.ref h, .int i, .int c, .ref o9]) ++ List.replicate (5 - (lg_sl ([.ref h, .int i, .int c, .ref o9])).length) Slot.unset).toArray = ls at hl ⊢
  have hl : lv_has ls 5 [(0, .ref h), (1, .int i), (2, .int c), (3, .ref o9)] := hl
  refine lv_aload_n hx hb d_Law_drop_0 rfl (lv_at hl 3 rfl) ?_
  refine lv_iconst (v := 0) hx hb d_Law_drop_1 (by decide) ?_
  refine lv_aload_n hx hb d_Law_drop_2 rfl (lv_at hl 0 rfl) ?_
  refine lv_iload_n hx hb d_Law_drop_3 rfl (lv_at hl 1 rfl) ?_
  refine lv_iload_n hx hb d_Law_drop_4 rfl (lv_at hl 2 rfl) ?_
  have hPc := hP.sub (ws' := [(h, .inr (11, [.ref rc, .ref d])), (rc, .inr (4, [.ref tp, .ref ln, .ref tb, .ref ct, .ref dp])), (tp, .inr (0, [.ref a, .int (nI n)])), (a, .inl (cB, 9400, .inl f))]) [0, 1, 2, 3] rfl
  have hKc := hK.sub (tys' := [(cB, .byte)]) [0] rfl
  have hDc := hD.sub (ws' := [(h, .inr (11, [.ref rc, .ref d])), (rc, .inr (4, [.ref tp, .ref ln, .ref tb, .ref ct, .ref dp])), (tp, .inr (0, [.ref a, .int (nI n)])), (a, .inl (cB, 9400, .inl f))]) [0, 1, 2, 3] (by decide) rfl
  have hFc := va_free (wc := [(h, .inr (11, [.ref rc, .ref d])), (rc, .inr (4, [.ref tp, .ref ln, .ref tb, .ref ct, .ref dp])), (tp, .inr (0, [.ref a, .int (nI n)])), (a, .inl (cB, 9400, .inl f))]) hD hS hA [0, 1, 2, 3] rfl
  refine z_callVTi (As := [.int i, .int c]) (rest := [.int 0, .ref o9]) ⟨hx, hb, hml, hown, hts⟩ (c_SS_drop l D hfl B0 hG s.heap.size cB h d rc ln tb ct dp tp a n f i c hn hf) (z_cV hN wd_802 wd_59 wd_799 hd_SS_drop rfl rfl ⟨Nat.le_of_ble_eq_true rfl, Nat.le_of_ble_eq_true rfl⟩ wd_800 wd_801) (z_preVo (va_recv (ci := 11) (q0 := 0) hK hP rfl rfl) hPc hKc hN hDc hO hS hAO) rfl hl.1 rfl (lv_room (Nat.le_of_ble_eq_true rfl)) d_Law_drop_5 ⟨Nat.le_of_ble_eq_true rfl, Nat.le_of_ble_eq_true rfl⟩ hS (fun q _ h => hFc q h) hFc (fun r9 u9 t H locs ht hvm e5 hB hz1 hk1 hS => ?_) (fun X x H locs eX hcx hz1 hk1 hS => ?_)
  · exact absurd e5 (fun z => dr_no hn z.1 z.2.1 z.2.2.1 hbad)
  · obtain ⟨rfl, -⟩ := eX
    have hP : va_P D classes [(h, .inr (11, [.ref rc, .ref d])), (rc, .inr (4, [.ref tp, .ref ln, .ref tb, .ref ct, .ref dp])), (tp, .inr (0, [.ref a, .int (nI n)])), (a, .inl (cB, 9400, .inl f)), (o9, .inl (cJ, 1, .inr (.inl g9)))] H := z_Pkept hP hk1
    refine z_catch1h htab (by decide) (by decide) hown (hts _ wd_770) (hts _ wd_777) hcx ?_
    clear hcx hz1 hk1
    refine lv_astore (lv' := [(4, .ref x), (0, .ref h), (1, .int i), (2, .int c), (3, .ref o9)]) hx hb d_Law_drop_13 hl (by decide) rfl (fun ls hl => ?_)
    refine lv_iconst (v := 1) hx hb d_Law_drop_15 (by decide) ?_
    have hP9 := hP.sub (ws' := [(h, .inr (11, [.ref rc, .ref d])), (rc, .inr (4, [.ref tp, .ref ln, .ref tb, .ref ct, .ref dp])), (tp, .inr (0, [.ref a, .int (nI n)])), (a, .inl (cB, 9400, .inl f)), (o9, .inl (cJ, 1, .inr (.inl g9)))]) [0, 1, 2, 3, 4] rfl
    have hD9 := hD.sub (ws' := [(h, .inr (11, [.ref rc, .ref d])), (rc, .inr (4, [.ref tp, .ref ln, .ref tb, .ref ct, .ref dp])), (tp, .inr (0, [.ref a, .int (nI n)])), (a, .inl (cB, 9400, .inl f)), (o9, .inl (cJ, 1, .inr (.inl g9)))]) [0, 1, 2, 3, 4] (by decide) rfl
    have hK9 := hK.sub (tys' := [(cB, .byte), (cJ, .long)]) [0, 1] rfl
    refine W.widen (k := 1) (n := 6) (by omega) (by omega) ?_
    exact W.iret (v := 1) hx hb hr (fun t ht hW => ⟨⟨_, (), rfl, rfl, ⟨by rw [ht]; exact hP9, va_K.moved hW.alike hK9, hD9⟩⟩, hS.F ht⟩) hS.2.2 d_Law_drop_16
set_option maxHeartbeats 4000000 in
set_option maxRecDepth 100000 in
theorem c_Law_drop_ok (l : Launch) (D : va_G) (hfl : l.stackTraces = false) (B0 : State) (hG : zG B0) (sz : Nat) (cB : ClassId) (h d rc ln tb ct dp tp : Nat) (a n : Nat) (f : Nat → Int32) (i c : Int32) (cJ : ClassId) (o9 : Nat) (g9 : Nat → Int64) (hn : n ≤ 9400) (hf : sb_Fit f) (hok : ¬ (i < 0 ∨ c < 0 ∨ nI n - i < c)) : Met l y_Law_drop [Cond.codeWith y_Law_drop b_Law_drop 5 (some .int) [(0, 10, 13, 19)]] ({ frames := 7, cells := 1, slots := 6, locals := 105 }) (zMo [.ref h, .int i, .int c, .ref o9] D [(h, .inr (11, [.ref rc, .ref d])), (rc, .inr (4, [.ref tp, .ref ln, .ref tb, .ref ct, .ref dp])), (tp, .inr (0, [.ref a, .int (nI n)])), (a, .inl (cB, 9400, .inl f)), (o9, .inl (cJ, 1, .inr (.inl g9)))] [(cB, .byte), (cJ, .long)] sz B0) (va_Qi (fun r0 (u : (Nat × Nat) × Int32) => r0 = 0 ∧ (fun r (u : Nat × Nat) => u.1 + u.2 ≤ n ∧ i = nI u.1 ∧ c = nI u.2 ∧ r = nI (n - u.2)) u.2 u.1) (fun (u : (Nat × Nat) × Int32) t => zW D (va_A [(h, .inr (11, [.ref rc, .ref d])), (rc, .inr (4, [.ref tp, .ref ln, .ref tb, .ref ct, .ref dp])), (tp, .inr (0, [.ref a, .int (nI n)])), (a, .inl (cB, 9400, .inl f)), (o9, .inl (cJ, 1, .inr (.inl g9)))] sz) [(h, .inr (11, [.ref rc, .ref d])), (rc, .inr (4, [.ref tp, .ref ln, .ref tb, .ref ct, .ref dp])), (tp, .inr (0, [.ref a, .int (nI (n - u.1.2))])), (a, .inl (cB, 9400, .inl (va_cpy f f (u.1.1 + u.1.2) u.1.1 (n - u.1.1 - u.1.2)))), (o9, .inl (cJ, 1, .inr (.inl (vp_updL g9 0 u.2.toInt64))))] [(cB, .byte), (cJ, .long)] t) (va_A [(h, .inr (11, [.ref rc, .ref d])), (rc, .inr (4, [.ref tp, .ref ln, .ref tb, .ref ct, .ref dp])), (tp, .inr (0, [.ref a, .int (nI n)])), (a, .inl (cB, 9400, .inl f)), (o9, .inl (cJ, 1, .inr (.inl g9)))] sz)) 1 6 (va_A [(h, .inr (11, [.ref rc, .ref d])), (rc, .inr (4, [.ref tp, .ref ln, .ref tb, .ref ct, .ref dp])), (tp, .inr (0, [.ref a, .int (nI n)])), (a, .inl (cB, 9400, .inl f)), (o9, .inl (cJ, 1, .inr (.inl g9)))] sz) := by
  refine va_MetW (cc := b_Law_drop) (maxL := 5) (ret := (some .int)) (hh := [(0, 10, 13, 19)]) (by decide) rfl ?_
  intro p e s m args below meth cd s₁ Bd hml hv
  obtain ⟨rfl, hsz, hP, hK, hN, hD0, hO⟩ := hv
  have hx := Bd.exec
  have hb := Bd.bytes
  have hr := Bd.returns
  have hts := hN.use (a := ([.ref h, .int i, .int c, .ref o9]).toArray)
  have hown : s.vm.findClass R_Law = some m.cls := findClass_of_methodNamed Bd.named
  have hlocks := Bd.notSynchronized
  have htab := z_tab Bd
  subst hsz
  have hD := hD0.self (sz := s.heap.size)
  have hAO := z_AO hD0 hO
  clear hD0
  have hA : ∀ q : Nat, s.heap.size ≤ q → va_A [(h, .inr (11, [.ref rc, .ref d])), (rc, .inr (4, [.ref tp, .ref ln, .ref tb, .ref ct, .ref dp])), (tp, .inr (0, [.ref a, .int (nI n)])), (a, .inl (cB, 9400, .inl f)), (o9, .inl (cJ, 1, .inr (.inl g9)))] s.heap.size q := fun q h => Or.inr h
  have hS : va_S (va_A [(h, .inr (11, [.ref rc, .ref d])), (rc, .inr (4, [.ref tp, .ref ln, .ref tb, .ref ct, .ref dp])), (tp, .inr (0, [.ref a, .int (nI n)])), (a, .inl (cB, 9400, .inl f)), (o9, .inl (cJ, 1, .inr (.inl g9)))] s.heap.size) s.heap s.heap [] := va_S.rf
  generalize hAe : va_A [(h, .inr (11, [.ref rc, .ref d])), (rc, .inr (4, [.ref tp, .ref ln, .ref tb, .ref ct, .ref dp])), (tp, .inr (0, [.ref a, .int (nI n)])), (a, .inl (cB, 9400, .inl f)), (o9, .inl (cJ, 1, .inr (.inl g9)))] s.heap.size = A at hD hA hS hAO ⊢
  have hP : va_P D classes [(h, .inr (11, [.ref rc, .ref d])), (rc, .inr (4, [.ref tp, .ref ln, .ref tb, .ref ct, .ref dp])), (tp, .inr (0, [.ref a, .int (nI n)])), (a, .inl (cB, 9400, .inl f)), (o9, .inl (cJ, 1, .inr (.inl g9)))] s.heap := hP
  have hl := lv_entry ([.ref h, .int i, .int c, .ref o9]) (n := 5) (Nat.le_of_ble_eq_true rfl)
  rw [lg_entry_eq]
  generalize (lg_sl ([.ref h, .int i, .int c, .ref o9]) ++ List.replicate (5 - (lg_sl ([.ref h, .int i, .int c, .ref o9])).length) Slot.unset).toArray = ls at hl ⊢
  have hl : lv_has ls 5 [(0, .ref h), (1, .int i), (2, .int c), (3, .ref o9)] := hl
  refine lv_aload_n hx hb d_Law_drop_0 rfl (lv_at hl 3 rfl) ?_
  refine lv_iconst (v := 0) hx hb d_Law_drop_1 (by decide) ?_
  refine lv_aload_n hx hb d_Law_drop_2 rfl (lv_at hl 0 rfl) ?_
  refine lv_iload_n hx hb d_Law_drop_3 rfl (lv_at hl 1 rfl) ?_
  refine lv_iload_n hx hb d_Law_drop_4 rfl (lv_at hl 2 rfl) ?_
  have hPc := hP.sub (ws' := [(h, .inr (11, [.ref rc, .ref d])), (rc, .inr (4, [.ref tp, .ref ln, .ref tb, .ref ct, .ref dp])), (tp, .inr (0, [.ref a, .int (nI n)])), (a, .inl (cB, 9400, .inl f))]) [0, 1, 2, 3] rfl
  have hKc := hK.sub (tys' := [(cB, .byte)]) [0] rfl
  have hDc := hD.sub (ws' := [(h, .inr (11, [.ref rc, .ref d])), (rc, .inr (4, [.ref tp, .ref ln, .ref tb, .ref ct, .ref dp])), (tp, .inr (0, [.ref a, .int (nI n)])), (a, .inl (cB, 9400, .inl f))]) [0, 1, 2, 3] (by decide) rfl
  have hFc := va_free (wc := [(h, .inr (11, [.ref rc, .ref d])), (rc, .inr (4, [.ref tp, .ref ln, .ref tb, .ref ct, .ref dp])), (tp, .inr (0, [.ref a, .int (nI n)])), (a, .inl (cB, 9400, .inl f))]) hD hS hA [0, 1, 2, 3] rfl
  refine z_callVTi (As := [.int i, .int c]) (rest := [.int 0, .ref o9]) ⟨hx, hb, hml, hown, hts⟩ (c_SS_drop l D hfl B0 hG s.heap.size cB h d rc ln tb ct dp tp a n f i c hn hf) (z_cV hN wd_802 wd_59 wd_799 hd_SS_drop rfl rfl ⟨Nat.le_of_ble_eq_true rfl, Nat.le_of_ble_eq_true rfl⟩ wd_800 wd_801) (z_preVo (va_recv (ci := 11) (q0 := 0) hK hP rfl rfl) hPc hKc hN hDc hO hS hAO) rfl hl.1 rfl (lv_room (Nat.le_of_ble_eq_true rfl)) d_Law_drop_5 ⟨Nat.le_of_ble_eq_true rfl, Nat.le_of_ble_eq_true rfl⟩ hS (fun q _ h => hFc q h) hFc (fun r9 u9 t H locs ht hvm e5 hB hz1 hk1 hS => ?_) (fun X x H locs eX hcx hz1 hk1 hS => ?_)
  · obtain ⟨hP1, hK1, hD1⟩ := hB
    rw [ht] at hP1
    obtain ⟨hP, hD⟩ := va_join (wr := [(o9, .inl (cJ, 1, .inr (.inl g9)))]) (w1 := [(h, .inr (11, [.ref rc, .ref d])), (rc, .inr (4, [.ref tp, .ref ln, .ref tb, .ref ct, .ref dp])), (tp, .inr (0, [.ref a, .int (nI (n - u9.2))])), (a, .inl (cB, 9400, .inl (va_cpy f f (u9.1 + u9.2) u9.1 (n - u9.1 - u9.2))))]) hP hD [0, 1, 2, 3] [4] rfl rfl (by decide) (by decide) hk1 hFc hP1 hD1
    clear hk1 hP1 hD1 hFc hPc hDc hz1
    have hP : va_P D classes [(o9, .inl (cJ, 1, .inr (.inl g9))), (h, .inr (11, [.ref rc, .ref d])), (rc, .inr (4, [.ref tp, .ref ln, .ref tb, .ref ct, .ref dp])), (tp, .inr (0, [.ref a, .int (nI (n - u9.2))])), (a, .inl (cB, 9400, .inl (va_cpy f f (u9.1 + u9.2) u9.1 (n - u9.1 - u9.2))))] H := hP
    have hD : va_D A [(o9, .inl (cJ, 1, .inr (.inl g9))), (h, .inr (11, [.ref rc, .ref d])), (rc, .inr (4, [.ref tp, .ref ln, .ref tb, .ref ct, .ref dp])), (tp, .inr (0, [.ref a, .int (nI (n - u9.2))])), (a, .inl (cB, 9400, .inl (va_cpy f f (u9.1 + u9.2) u9.1 (n - u9.1 - u9.2))))] := hD
    refine lv_i2l (v := r9.toInt64) hx hb d_Law_drop_8 rfl ?_
    refine z_last hx hb hK hP hD hS 0 1 rfl rfl 0 rfl (by decide) (by decide) d_Law_drop_9 (fun H locs hP hD hS => ?_)
    have hP : va_P D classes [(o9, .inl (cJ, 1, .inr (.inl (vp_updL g9 0 r9.toInt64)))), (h, .inr (11, [.ref rc, .ref d])), (rc, .inr (4, [.ref tp, .ref ln, .ref tb, .ref ct, .ref dp])), (tp, .inr (0, [.ref a, .int (nI (n - u9.2))])), (a, .inl (cB, 9400, .inl (va_cpy f f (u9.1 + u9.2) u9.1 (n - u9.1 - u9.2))))] H := hP
    have hD : va_D A [(o9, .inl (cJ, 1, .inr (.inl (vp_updL g9 0 r9.toInt64)))), (h, .inr (11, [.ref rc, .ref d])), (rc, .inr (4, [.ref tp, .ref ln, .ref tb, .ref ct, .ref dp])), (tp, .inr (0, [.ref a, .int (nI (n - u9.2))])), (a, .inl (cB, 9400, .inl (va_cpy f f (u9.1 + u9.2) u9.1 (n - u9.1 - u9.2))))] := hD
    refine lv_goto (tgt := 17) hx hb d_Law_drop_10 rfl ?_
    refine lv_iconst (v := 0) hx hb d_Law_drop_17 (by decide) ?_
    have hP9 := hP.sub (ws' := [(h, .inr (11, [.ref rc, .ref d])), (rc, .inr (4, [.ref tp, .ref ln, .ref tb, .ref ct, .ref dp])), (tp, .inr (0, [.ref a, .int (nI (n - u9.2))])), (a, .inl (cB, 9400, .inl (va_cpy f f (u9.1 + u9.2) u9.1 (n - u9.1 - u9.2)))), (o9, .inl (cJ, 1, .inr (.inl (vp_updL g9 0 r9.toInt64))))]) [1, 2, 3, 4, 0] rfl
    have hD9 := hD.sub (ws' := [(h, .inr (11, [.ref rc, .ref d])), (rc, .inr (4, [.ref tp, .ref ln, .ref tb, .ref ct, .ref dp])), (tp, .inr (0, [.ref a, .int (nI (n - u9.2))])), (a, .inl (cB, 9400, .inl (va_cpy f f (u9.1 + u9.2) u9.1 (n - u9.1 - u9.2)))), (o9, .inl (cJ, 1, .inr (.inl (vp_updL g9 0 r9.toInt64))))]) [1, 2, 3, 4, 0] (by decide) rfl
    have hK9 := hK.sub (tys' := [(cB, .byte), (cJ, .long)]) [0, 1] rfl
    refine W.widen (k := 1) (n := 6) (by omega) (by omega) ?_
    exact W.iret (v := 0) hx hb hr (fun t ht hW => ⟨⟨_, (u9, r9), rfl, ⟨rfl, e5⟩, ⟨by rw [ht]; exact hP9, va_K.moved hW.alike hK9, hD9⟩⟩, hS.F ht⟩) hS.2.2 d_Law_drop_18
  · exact absurd eX (fun z => hok z.2)
set_option maxHeartbeats 4000000 in
set_option maxRecDepth 100000 in
theorem c_Law_seal_bad (l : Launch) (D : va_G) (hfl : l.stackTraces = false) (B0 : State) (hG : zG B0) (sz : Nat) (cB : ClassId) (h d rc ln tb ct dp tp : Nat) (a n : Nat) (f : Nat → Int32) (i c : Int32) (hn : n ≤ 9400) (hbad : i < 0 ∨ c < i ∨ nI n - 4 < c) : Met l y_Law_seal [Cond.codeWith y_Law_seal b_Law_seal 4 (some .int) [(0, 6, 9, 19)]] ({ frames := 7, cells := 1, slots := 6, locals := 107 }) (zMo [.ref h, .int i, .int c] D [(h, .inr (11, [.ref rc, .ref d])), (rc, .inr (4, [.ref tp, .ref ln, .ref tb, .ref ct, .ref dp])), (tp, .inr (0, [.ref a, .int (nI n)])), (a, .inl (cB, 9400, .inl f))] [(cB, .byte)] sz B0) (va_Qi (fun r0 (_ : Unit) => r0 = 1) (fun (_u : Unit) t => zW D (va_A [(h, .inr (11, [.ref rc, .ref d])), (rc, .inr (4, [.ref tp, .ref ln, .ref tb, .ref ct, .ref dp])), (tp, .inr (0, [.ref a, .int (nI n)])), (a, .inl (cB, 9400, .inl f))] sz) [(h, .inr (11, [.ref rc, .ref d])), (rc, .inr (4, [.ref tp, .ref ln, .ref tb, .ref ct, .ref dp])), (tp, .inr (0, [.ref a, .int (nI n)])), (a, .inl (cB, 9400, .inl f))] [(cB, .byte)] t) (va_A [(h, .inr (11, [.ref rc, .ref d])), (rc, .inr (4, [.ref tp, .ref ln, .ref tb, .ref ct, .ref dp])), (tp, .inr (0, [.ref a, .int (nI n)])), (a, .inl (cB, 9400, .inl f))] sz)) 1 6 (va_A [(h, .inr (11, [.ref rc, .ref d])), (rc, .inr (4, [.ref tp, .ref ln, .ref tb, .ref ct, .ref dp])), (tp, .inr (0, [.ref a, .int (nI n)])), (a, .inl (cB, 9400, .inl f))] sz) := by
  refine va_MetW (cc := b_Law_seal) (maxL := 4) (ret := (some .int)) (hh := [(0, 6, 9, 19)]) (by decide) rfl ?_
  intro p e s m args below meth cd s₁ Bd hml hv
  obtain ⟨rfl, hsz, hP, hK, hN, hD0, hO⟩ := hv
  have hx := Bd.exec
  have hb := Bd.bytes
  have hr := Bd.returns
  have hts := hN.use (a := ([.ref h, .int i, .int c]).toArray)
  have hown : s.vm.findClass R_Law = some m.cls := findClass_of_methodNamed Bd.named
  have hlocks := Bd.notSynchronized
  have htab := z_tab Bd
  subst hsz
  have hD := hD0.self (sz := s.heap.size)
  have hAO := z_AO hD0 hO
  clear hD0
  have hA : ∀ q : Nat, s.heap.size ≤ q → va_A [(h, .inr (11, [.ref rc, .ref d])), (rc, .inr (4, [.ref tp, .ref ln, .ref tb, .ref ct, .ref dp])), (tp, .inr (0, [.ref a, .int (nI n)])), (a, .inl (cB, 9400, .inl f))] s.heap.size q := fun q h => Or.inr h
  have hS : va_S (va_A [(h, .inr (11, [.ref rc, .ref d])), (rc, .inr (4, [.ref tp, .ref ln, .ref tb, .ref ct, .ref dp])), (tp, .inr (0, [.ref a, .int (nI n)])), (a, .inl (cB, 9400, .inl f))] s.heap.size) s.heap s.heap [] := va_S.rf
  generalize hAe : va_A [(h, .inr (11, [.ref rc, .ref d])), (rc, .inr (4, [.ref tp, .ref ln, .ref tb, .ref ct, .ref dp])), (tp, .inr (0, [.ref a, .int (nI n)])), (a, .inl (cB, 9400, .inl f))] s.heap.size = A at hD hA hS hAO ⊢
  have hP : va_P D classes [(h, .inr (11, [.ref rc, .ref d])), (rc, .inr (4, [.ref tp, .ref ln, .ref tb, .ref ct, .ref dp])), (tp, .inr (0, [.ref a, .int (nI n)])), (a, .inl (cB, 9400, .inl f))] s.heap := hP
  have hl := lv_entry ([.ref h, .int i, .int c]) (n := 4) (Nat.le_of_ble_eq_true rfl)
  rw [lg_entry_eq]
  generalize (lg_sl ([.ref h, .int i, .int c]) ++ List.replicate (4 - (lg_sl ([.ref h, .int i, .int c])).length) Slot.unset).toArray = ls at hl ⊢
  have hl : lv_has ls 4 [(0, .ref h), (1, .int i), (2, .int c)] := hl
  refine lv_aload_n hx hb d_Law_seal_0 rfl (lv_at hl 0 rfl) ?_
  refine lv_iload_n hx hb d_Law_seal_1 rfl (lv_at hl 1 rfl) ?_
  refine lv_iload_n hx hb d_Law_seal_2 rfl (lv_at hl 2 rfl) ?_
  have hPc := hP.sub (ws' := [(h, .inr (11, [.ref rc, .ref d])), (rc, .inr (4, [.ref tp, .ref ln, .ref tb, .ref ct, .ref dp])), (tp, .inr (0, [.ref a, .int (nI n)])), (a, .inl (cB, 9400, .inl f))]) [0, 1, 2, 3] rfl
  have hKc := hK.sub (tys' := [(cB, .byte)]) [0] rfl
  have hDc := hD.sub (ws' := [(h, .inr (11, [.ref rc, .ref d])), (rc, .inr (4, [.ref tp, .ref ln, .ref tb, .ref ct, .ref dp])), (tp, .inr (0, [.ref a, .int (nI n)])), (a, .inl (cB, 9400, .inl f))]) [0, 1, 2, 3] (by decide) rfl
  have hFc := va_free (wc := [(h, .inr (11, [.ref rc, .ref d])), (rc, .inr (4, [.ref tp, .ref ln, .ref tb, .ref ct, .ref dp])), (tp, .inr (0, [.ref a, .int (nI n)])), (a, .inl (cB, 9400, .inl f))]) hD hS hA [0, 1, 2, 3] rfl
  refine z_callVTv (As := [.int i, .int c]) (rest := []) ⟨hx, hb, hml, hown, hts⟩ (c_SS_seal l D hfl B0 hG s.heap.size cB h d rc ln tb ct dp tp a n f i c hn) (z_cV hN wd_810 wd_59 wd_807 hd_SS_seal rfl rfl ⟨Nat.le_of_ble_eq_true rfl, Nat.le_of_ble_eq_true rfl⟩ wd_808 wd_809) (z_preVo (va_recv (ci := 11) (q0 := 0) hK hP rfl rfl) hPc hKc hN hDc hO hS hAO) rfl hl.1 rfl (lv_room (Nat.le_of_ble_eq_true rfl)) d_Law_seal_3 ⟨Nat.le_of_ble_eq_true rfl, Nat.le_of_ble_eq_true rfl⟩ hS (fun q _ h => hFc q h) hFc (fun u9 t H locs ht hvm e3 hB hz1 hk1 hS => ?_) (fun X x H locs eX hcx hz1 hk1 hS => ?_)
  · exact absurd e3 (fun z => sl_no hn z.1 z.2.1 z.2.2 hbad)
  · obtain ⟨rfl, -⟩ := eX
    have hP : va_P D classes [(h, .inr (11, [.ref rc, .ref d])), (rc, .inr (4, [.ref tp, .ref ln, .ref tb, .ref ct, .ref dp])), (tp, .inr (0, [.ref a, .int (nI n)])), (a, .inl (cB, 9400, .inl f))] H := z_Pkept hP hk1
    refine z_catch1h htab (by decide) (by decide) hown (hts _ wd_770) (hts _ wd_777) hcx ?_
    clear hcx hz1 hk1
    refine lv_astore_n (lv' := [(3, .ref x), (0, .ref h), (1, .int i), (2, .int c)]) hx hb d_Law_seal_9 rfl hl (by decide) rfl (fun ls hl => ?_)
    refine lv_iconst (v := 1) hx hb d_Law_seal_10 (by decide) ?_
    have hP9 := hP.sub (ws' := [(h, .inr (11, [.ref rc, .ref d])), (rc, .inr (4, [.ref tp, .ref ln, .ref tb, .ref ct, .ref dp])), (tp, .inr (0, [.ref a, .int (nI n)])), (a, .inl (cB, 9400, .inl f))]) [0, 1, 2, 3] rfl
    have hD9 := hD.sub (ws' := [(h, .inr (11, [.ref rc, .ref d])), (rc, .inr (4, [.ref tp, .ref ln, .ref tb, .ref ct, .ref dp])), (tp, .inr (0, [.ref a, .int (nI n)])), (a, .inl (cB, 9400, .inl f))]) [0, 1, 2, 3] (by decide) rfl
    have hK9 := hK.sub (tys' := [(cB, .byte)]) [0] rfl
    refine W.widen (k := 1) (n := 6) (by omega) (by omega) ?_
    exact W.iret (v := 1) hx hb hr (fun t ht hW => ⟨⟨_, (), rfl, rfl, ⟨by rw [ht]; exact hP9, va_K.moved hW.alike hK9, hD9⟩⟩, hS.F ht⟩) hS.2.2 d_Law_seal_11
set_option maxHeartbeats 4000000 in
set_option maxRecDepth 100000 in
theorem c_Law_seal_ok (l : Launch) (D : va_G) (hfl : l.stackTraces = false) (B0 : State) (hG : zG B0) (sz : Nat) (cB : ClassId) (h d rc ln tb ct dp tp : Nat) (a n : Nat) (f : Nat → Int32) (i c : Int32) (hn : n ≤ 9400) (hok : ¬ (i < 0 ∨ c < i ∨ nI n - 4 < c)) : Met l y_Law_seal [Cond.codeWith y_Law_seal b_Law_seal 4 (some .int) [(0, 6, 9, 19)]] ({ frames := 7, cells := 1, slots := 6, locals := 107 }) (zMo [.ref h, .int i, .int c] D [(h, .inr (11, [.ref rc, .ref d])), (rc, .inr (4, [.ref tp, .ref ln, .ref tb, .ref ct, .ref dp])), (tp, .inr (0, [.ref a, .int (nI n)])), (a, .inl (cB, 9400, .inl f))] [(cB, .byte)] sz B0) (va_Qi (fun r0 (u : (Nat × Nat) × Unit) => r0 = 0 ∧ (fun (u : Nat × Nat) => u.1 + u.2 + 4 ≤ n ∧ i = nI u.1 ∧ c = nI (u.1 + u.2)) u.1) (fun (u : (Nat × Nat) × Unit) t => zW D (va_A [(h, .inr (11, [.ref rc, .ref d])), (rc, .inr (4, [.ref tp, .ref ln, .ref tb, .ref ct, .ref dp])), (tp, .inr (0, [.ref a, .int (nI n)])), (a, .inl (cB, 9400, .inl f))] sz) [(h, .inr (11, [.ref rc, .ref d])), (rc, .inr (4, [.ref tp, .ref ln, .ref tb, .ref ct, .ref dp])), (tp, .inr (0, [.ref a, .int (nI n)])), (a, .inl (cB, 9400, .inl (sl_f f (u.1.1 + u.1.2) (rw_ck f n 9400 u.1.1 u.1.2) 4)))] [(cB, .byte)] t) (va_A [(h, .inr (11, [.ref rc, .ref d])), (rc, .inr (4, [.ref tp, .ref ln, .ref tb, .ref ct, .ref dp])), (tp, .inr (0, [.ref a, .int (nI n)])), (a, .inl (cB, 9400, .inl f))] sz)) 1 6 (va_A [(h, .inr (11, [.ref rc, .ref d])), (rc, .inr (4, [.ref tp, .ref ln, .ref tb, .ref ct, .ref dp])), (tp, .inr (0, [.ref a, .int (nI n)])), (a, .inl (cB, 9400, .inl f))] sz) := by
  refine va_MetW (cc := b_Law_seal) (maxL := 4) (ret := (some .int)) (hh := [(0, 6, 9, 19)]) (by decide) rfl ?_
  intro p e s m args below meth cd s₁ Bd hml hv
  obtain ⟨rfl, hsz, hP, hK, hN, hD0, hO⟩ := hv
  have hx := Bd.exec
  have hb := Bd.bytes
  have hr := Bd.returns
  have hts := hN.use (a := ([.ref h, .int i, .int c]).toArray)
  have hown : s.vm.findClass R_Law = some m.cls := findClass_of_methodNamed Bd.named
  have hlocks := Bd.notSynchronized
  have htab := z_tab Bd
  subst hsz
  have hD := hD0.self (sz := s.heap.size)
  have hAO := z_AO hD0 hO
  clear hD0
  have hA : ∀ q : Nat, s.heap.size ≤ q → va_A [(h, .inr (11, [.ref rc, .ref d])), (rc, .inr (4, [.ref tp, .ref ln, .ref tb, .ref ct, .ref dp])), (tp, .inr (0, [.ref a, .int (nI n)])), (a, .inl (cB, 9400, .inl f))] s.heap.size q := fun q h => Or.inr h
  have hS : va_S (va_A [(h, .inr (11, [.ref rc, .ref d])), (rc, .inr (4, [.ref tp, .ref ln, .ref tb, .ref ct, .ref dp])), (tp, .inr (0, [.ref a, .int (nI n)])), (a, .inl (cB, 9400, .inl f))] s.heap.size) s.heap s.heap [] := va_S.rf
  generalize hAe : va_A [(h, .inr (11, [.ref rc, .ref d])), (rc, .inr (4, [.ref tp, .ref ln, .ref tb, .ref ct, .ref dp])), (tp, .inr (0, [.ref a, .int (nI n)])), (a, .inl (cB, 9400, .inl f))] s.heap.size = A at hD hA hS hAO ⊢
  have hP : va_P D classes [(h, .inr (11, [.ref rc, .ref d])), (rc, .inr (4, [.ref tp, .ref ln, .ref tb, .ref ct, .ref dp])), (tp, .inr (0, [.ref a, .int (nI n)])), (a, .inl (cB, 9400, .inl f))] s.heap := hP
  have hl := lv_entry ([.ref h, .int i, .int c]) (n := 4) (Nat.le_of_ble_eq_true rfl)
  rw [lg_entry_eq]
  generalize (lg_sl ([.ref h, .int i, .int c]) ++ List.replicate (4 - (lg_sl ([.ref h, .int i, .int c])).length) Slot.unset).toArray = ls at hl ⊢
  have hl : lv_has ls 4 [(0, .ref h), (1, .int i), (2, .int c)] := hl
  refine lv_aload_n hx hb d_Law_seal_0 rfl (lv_at hl 0 rfl) ?_
  refine lv_iload_n hx hb d_Law_seal_1 rfl (lv_at hl 1 rfl) ?_
  refine lv_iload_n hx hb d_Law_seal_2 rfl (lv_at hl 2 rfl) ?_
  have hPc := hP.sub (ws' := [(h, .inr (11, [.ref rc, .ref d])), (rc, .inr (4, [.ref tp, .ref ln, .ref tb, .ref ct, .ref dp])), (tp, .inr (0, [.ref a, .int (nI n)])), (a, .inl (cB, 9400, .inl f))]) [0, 1, 2, 3] rfl
  have hKc := hK.sub (tys' := [(cB, .byte)]) [0] rfl
  have hDc := hD.sub (ws' := [(h, .inr (11, [.ref rc, .ref d])), (rc, .inr (4, [.ref tp, .ref ln, .ref tb, .ref ct, .ref dp])), (tp, .inr (0, [.ref a, .int (nI n)])), (a, .inl (cB, 9400, .inl f))]) [0, 1, 2, 3] (by decide) rfl
  have hFc := va_free (wc := [(h, .inr (11, [.ref rc, .ref d])), (rc, .inr (4, [.ref tp, .ref ln, .ref tb, .ref ct, .ref dp])), (tp, .inr (0, [.ref a, .int (nI n)])), (a, .inl (cB, 9400, .inl f))]) hD hS hA [0, 1, 2, 3] rfl
  refine z_callVTv (As := [.int i, .int c]) (rest := []) ⟨hx, hb, hml, hown, hts⟩ (c_SS_seal l D hfl B0 hG s.heap.size cB h d rc ln tb ct dp tp a n f i c hn) (z_cV hN wd_810 wd_59 wd_807 hd_SS_seal rfl rfl ⟨Nat.le_of_ble_eq_true rfl, Nat.le_of_ble_eq_true rfl⟩ wd_808 wd_809) (z_preVo (va_recv (ci := 11) (q0 := 0) hK hP rfl rfl) hPc hKc hN hDc hO hS hAO) rfl hl.1 rfl (lv_room (Nat.le_of_ble_eq_true rfl)) d_Law_seal_3 ⟨Nat.le_of_ble_eq_true rfl, Nat.le_of_ble_eq_true rfl⟩ hS (fun q _ h => hFc q h) hFc (fun u9 t H locs ht hvm e3 hB hz1 hk1 hS => ?_) (fun X x H locs eX hcx hz1 hk1 hS => ?_)
  · obtain ⟨hP1, hK1, hD1⟩ := hB
    rw [ht] at hP1
    obtain ⟨hP, hD⟩ := va_join (wr := []) (w1 := [(h, .inr (11, [.ref rc, .ref d])), (rc, .inr (4, [.ref tp, .ref ln, .ref tb, .ref ct, .ref dp])), (tp, .inr (0, [.ref a, .int (nI n)])), (a, .inl (cB, 9400, .inl (sl_f f (u9.1 + u9.2) (rw_ck f n 9400 u9.1 u9.2) 4)))]) hP hD [0, 1, 2, 3] [] rfl rfl (by decide) (by decide) hk1 hFc hP1 hD1
    clear hk1 hP1 hD1 hFc hPc hDc hz1
    have hP : va_P D classes [(h, .inr (11, [.ref rc, .ref d])), (rc, .inr (4, [.ref tp, .ref ln, .ref tb, .ref ct, .ref dp])), (tp, .inr (0, [.ref a, .int (nI n)])), (a, .inl (cB, 9400, .inl (sl_f f (u9.1 + u9.2) (rw_ck f n 9400 u9.1 u9.2) 4)))] H := hP
    have hD : va_D A [(h, .inr (11, [.ref rc, .ref d])), (rc, .inr (4, [.ref tp, .ref ln, .ref tb, .ref ct, .ref dp])), (tp, .inr (0, [.ref a, .int (nI n)])), (a, .inl (cB, 9400, .inl (sl_f f (u9.1 + u9.2) (rw_ck f n 9400 u9.1 u9.2) 4)))] := hD
    refine lv_goto (tgt := 12) hx hb d_Law_seal_6 rfl ?_
    refine lv_iconst (v := 0) hx hb d_Law_seal_12 (by decide) ?_
    have hP9 := hP.sub (ws' := [(h, .inr (11, [.ref rc, .ref d])), (rc, .inr (4, [.ref tp, .ref ln, .ref tb, .ref ct, .ref dp])), (tp, .inr (0, [.ref a, .int (nI n)])), (a, .inl (cB, 9400, .inl (sl_f f (u9.1 + u9.2) (rw_ck f n 9400 u9.1 u9.2) 4)))]) [0, 1, 2, 3] rfl
    have hD9 := hD.sub (ws' := [(h, .inr (11, [.ref rc, .ref d])), (rc, .inr (4, [.ref tp, .ref ln, .ref tb, .ref ct, .ref dp])), (tp, .inr (0, [.ref a, .int (nI n)])), (a, .inl (cB, 9400, .inl (sl_f f (u9.1 + u9.2) (rw_ck f n 9400 u9.1 u9.2) 4)))]) [0, 1, 2, 3] (by decide) rfl
    have hK9 := hK.sub (tys' := [(cB, .byte)]) [0] rfl
    refine W.widen (k := 1) (n := 6) (by omega) (by omega) ?_
    exact W.iret (v := 0) hx hb hr (fun t ht hW => ⟨⟨_, (u9, ()), rfl, ⟨rfl, e3⟩, ⟨by rw [ht]; exact hP9, va_K.moved hW.alike hK9, hD9⟩⟩, hS.F ht⟩) hS.2.2 d_Law_seal_13
  · exact absurd eX (fun z => hok z.2)
set_option maxHeartbeats 4000000 in
set_option maxRecDepth 100000 in
theorem c_Law_told_bad (l : Launch) (D : va_G) (hfl : l.stackTraces = false) (B0 : State) (hG : zG B0) (sz : Nat) (h : Nat) (w : Int32) (cJ : ClassId) (o9 : Nat) (g9 : Nat → Int64) (rc d : Nat) (hbad : w < 0 ∨ 11 < w) : Met l y_Law_told [Cond.codeWith y_Law_told b_Law_told 4 (some .int) [(0, 9, 12, 13)]] ({ frames := 7, cells := 1, slots := 6, locals := 103 }) (zMo [.ref h, .int w, .ref o9] D [(h, .inr (11, [.ref rc, .ref d])), (o9, .inl (cJ, 1, .inr (.inl g9)))] [(cJ, .long)] sz B0) (va_Qi (fun r0 (_ : Unit) => r0 = 1) (fun (_u : Unit) t => zW D (va_A [(h, .inr (11, [.ref rc, .ref d])), (o9, .inl (cJ, 1, .inr (.inl g9)))] sz) [(h, .inr (11, [.ref rc, .ref d])), (o9, .inl (cJ, 1, .inr (.inl g9)))] [(cJ, .long)] t) (va_A [(h, .inr (11, [.ref rc, .ref d])), (o9, .inl (cJ, 1, .inr (.inl g9)))] sz)) 1 6 (va_A [(h, .inr (11, [.ref rc, .ref d])), (o9, .inl (cJ, 1, .inr (.inl g9)))] sz) := by
  refine va_MetW (cc := b_Law_told) (maxL := 4) (ret := (some .int)) (hh := [(0, 9, 12, 13)]) (by decide) rfl ?_
  intro p e s m args below meth cd s₁ Bd hml hv
  obtain ⟨rfl, hsz, hP, hK, hN, hD0, hO⟩ := hv
  have hx := Bd.exec
  have hb := Bd.bytes
  have hr := Bd.returns
  have hts := hN.use (a := ([.ref h, .int w, .ref o9]).toArray)
  have hown : s.vm.findClass R_Law = some m.cls := findClass_of_methodNamed Bd.named
  have hlocks := Bd.notSynchronized
  have htab := z_tab Bd
  subst hsz
  have hD := hD0.self (sz := s.heap.size)
  have hAO := z_AO hD0 hO
  clear hD0
  have hA : ∀ q : Nat, s.heap.size ≤ q → va_A [(h, .inr (11, [.ref rc, .ref d])), (o9, .inl (cJ, 1, .inr (.inl g9)))] s.heap.size q := fun q h => Or.inr h
  have hS : va_S (va_A [(h, .inr (11, [.ref rc, .ref d])), (o9, .inl (cJ, 1, .inr (.inl g9)))] s.heap.size) s.heap s.heap [] := va_S.rf
  generalize hAe : va_A [(h, .inr (11, [.ref rc, .ref d])), (o9, .inl (cJ, 1, .inr (.inl g9)))] s.heap.size = A at hD hA hS hAO ⊢
  have hP : va_P D classes [(h, .inr (11, [.ref rc, .ref d])), (o9, .inl (cJ, 1, .inr (.inl g9)))] s.heap := hP
  have hl := lv_entry ([.ref h, .int w, .ref o9]) (n := 4) (Nat.le_of_ble_eq_true rfl)
  rw [lg_entry_eq]
  generalize (lg_sl ([.ref h, .int w, .ref o9]) ++ List.replicate (4 - (lg_sl ([.ref h, .int w, .ref o9])).length) Slot.unset).toArray = ls at hl ⊢
  have hl : lv_has ls 4 [(0, .ref h), (1, .int w), (2, .ref o9)] := hl
  refine lv_aload_n hx hb d_Law_told_0 rfl (lv_at hl 2 rfl) ?_
  refine lv_iconst (v := 0) hx hb d_Law_told_1 (by decide) ?_
  refine lv_aload_n hx hb d_Law_told_2 rfl (lv_at hl 0 rfl) ?_
  refine lv_iload_n hx hb d_Law_told_3 rfl (lv_at hl 1 rfl) ?_
  have hPc := hP.sub (ws' := []) [] rfl
  have hKc := hK.sub (tys' := []) [] rfl
  have hDc := hD.sub (ws' := []) [] (by decide) rfl
  have hFc := va_free (wc := []) hD hS hA [] rfl
  refine z_callVTi (As := [.int w]) (rest := [.int 0, .ref o9]) ⟨hx, hb, hml, hown, hts⟩ (c_SS_told_bad l D hfl B0 hG s.heap.size h w hbad) (z_cV hN wd_818 wd_59 wd_815 hd_SS_told rfl rfl ⟨Nat.le_of_ble_eq_true rfl, Nat.le_of_ble_eq_true rfl⟩ wd_816 wd_817) (z_preVo (va_recv (ci := 11) (q0 := 0) hK hP rfl rfl) hPc hKc hN hDc hO hS hAO) rfl hl.1 rfl (lv_room (Nat.le_of_ble_eq_true rfl)) d_Law_told_4 ⟨Nat.le_of_ble_eq_true rfl, Nat.le_of_ble_eq_true rfl⟩ hS (fun q _ h => hFc q h) hFc (fun r9 u9 t H locs ht hvm e4 hB hz1 hk1 hS => ?_) (fun X x H locs eX hcx hz1 hk1 hS => ?_)
  · exact absurd e4 (fun z => z)
  · subst eX
    have hP : va_P D classes [(h, .inr (11, [.ref rc, .ref d])), (o9, .inl (cJ, 1, .inr (.inl g9)))] H := z_Pkept hP hk1
    refine z_catch1h htab (by decide) (by decide) hown (hts _ wd_695) (hts _ wd_702) hcx ?_
    clear hcx hz1 hk1
    refine lv_astore_n (lv' := [(3, .ref x), (0, .ref h), (1, .int w), (2, .ref o9)]) hx hb d_Law_told_12 rfl hl (by decide) rfl (fun ls hl => ?_)
    refine lv_iconst (v := 1) hx hb d_Law_told_13 (by decide) ?_
    have hP9 := hP.sub (ws' := [(h, .inr (11, [.ref rc, .ref d])), (o9, .inl (cJ, 1, .inr (.inl g9)))]) [0, 1] rfl
    have hD9 := hD.sub (ws' := [(h, .inr (11, [.ref rc, .ref d])), (o9, .inl (cJ, 1, .inr (.inl g9)))]) [0, 1] (by decide) rfl
    have hK9 := hK.sub (tys' := [(cJ, .long)]) [0] rfl
    refine W.widen (k := 1) (n := 6) (by omega) (by omega) ?_
    exact W.iret (v := 1) hx hb hr (fun t ht hW => ⟨⟨_, (), rfl, rfl, ⟨by rw [ht]; exact hP9, va_K.moved hW.alike hK9, hD9⟩⟩, hS.F ht⟩) hS.2.2 d_Law_told_14
set_option maxHeartbeats 4000000 in
set_option maxRecDepth 100000 in
theorem c_Law_programme_badA (l : Launch) (D : va_G) (hfl : l.stackTraces = false) (B0 : State) (hG : zG B0) (sz : Nat) (h : Nat) (k w : Int32) (cJ : ClassId) (o9 : Nat) (g9 : Nat → Int64) (rc d : Nat) (hbad : w < 0 ∨ 6 < w) : Met l y_Law_programme [Cond.codeWith y_Law_programme b_Law_programme 5 (some .int) [(0, 10, 13, 13), (0, 10, 17, 19)]] ({ frames := 7, cells := 1, slots := 6, locals := 105 }) (zMo [.ref h, .int k, .int w, .ref o9] D [(h, .inr (11, [.ref rc, .ref d])), (o9, .inl (cJ, 1, .inr (.inl g9)))] [(cJ, .long)] sz B0) (va_Qi (fun r0 (_ : Unit) => r0 = 1) (fun (_u : Unit) t => zW D (va_A [(h, .inr (11, [.ref rc, .ref d])), (o9, .inl (cJ, 1, .inr (.inl g9)))] sz) [(h, .inr (11, [.ref rc, .ref d])), (o9, .inl (cJ, 1, .inr (.inl g9)))] [(cJ, .long)] t) (va_A [(h, .inr (11, [.ref rc, .ref d])), (o9, .inl (cJ, 1, .inr (.inl g9)))] sz)) 1 6 (va_A [(h, .inr (11, [.ref rc, .ref d])), (o9, .inl (cJ, 1, .inr (.inl g9)))] sz) := by
  refine va_MetW (cc := b_Law_programme) (maxL := 5) (ret := (some .int)) (hh := [(0, 10, 13, 13), (0, 10, 17, 19)]) (by decide) rfl ?_
  intro p e s m args below meth cd s₁ Bd hml hv
  obtain ⟨rfl, hsz, hP, hK, hN, hD0, hO⟩ := hv
  have hx := Bd.exec
  have hb := Bd.bytes
  have hr := Bd.returns
  have hts := hN.use (a := ([.ref h, .int k, .int w, .ref o9]).toArray)
  have hown : s.vm.findClass R_Law = some m.cls := findClass_of_methodNamed Bd.named
  have hlocks := Bd.notSynchronized
  have htab := z_tab Bd
  subst hsz
  have hD := hD0.self (sz := s.heap.size)
  have hAO := z_AO hD0 hO
  clear hD0
  have hA : ∀ q : Nat, s.heap.size ≤ q → va_A [(h, .inr (11, [.ref rc, .ref d])), (o9, .inl (cJ, 1, .inr (.inl g9)))] s.heap.size q := fun q h => Or.inr h
  have hS : va_S (va_A [(h, .inr (11, [.ref rc, .ref d])), (o9, .inl (cJ, 1, .inr (.inl g9)))] s.heap.size) s.heap s.heap [] := va_S.rf
  generalize hAe : va_A [(h, .inr (11, [.ref rc, .ref d])), (o9, .inl (cJ, 1, .inr (.inl g9)))] s.heap.size = A at hD hA hS hAO ⊢
  have hP : va_P D classes [(h, .inr (11, [.ref rc, .ref d])), (o9, .inl (cJ, 1, .inr (.inl g9)))] s.heap := hP
  have hl := lv_entry ([.ref h, .int k, .int w, .ref o9]) (n := 5) (Nat.le_of_ble_eq_true rfl)
  rw [lg_entry_eq]
  generalize (lg_sl ([.ref h, .int k, .int w, .ref o9]) ++ List.replicate (5 - (lg_sl ([.ref h, .int k, .int w, .ref o9])).length) Slot.unset).toArray = ls at hl ⊢
  have hl : lv_has ls 5 [(0, .ref h), (1, .int k), (2, .int w), (3, .ref o9)] := hl
  refine lv_aload_n hx hb d_Law_programme_0 rfl (lv_at hl 3 rfl) ?_
  refine lv_iconst (v := 0) hx hb d_Law_programme_1 (by decide) ?_
  refine lv_aload_n hx hb d_Law_programme_2 rfl (lv_at hl 0 rfl) ?_
  refine lv_iload_n hx hb d_Law_programme_3 rfl (lv_at hl 1 rfl) ?_
  refine lv_iload_n hx hb d_Law_programme_4 rfl (lv_at hl 2 rfl) ?_
  have hPc := hP.sub (ws' := []) [] rfl
  have hKc := hK.sub (tys' := []) [] rfl
  have hDc := hD.sub (ws' := []) [] (by decide) rfl
  have hFc := va_free (wc := []) hD hS hA [] rfl
  refine z_callVTi (As := [.int k, .int w]) (rest := [.int 0, .ref o9]) ⟨hx, hb, hml, hown, hts⟩ (c_SS_programme_badA l D hfl B0 hG s.heap.size h k w hbad) (z_cV hN wd_827 wd_59 wd_824 hd_SS_programme rfl rfl ⟨Nat.le_of_ble_eq_true rfl, Nat.le_of_ble_eq_true rfl⟩ wd_825 wd_826) (z_preVo (va_recv (ci := 11) (q0 := 0) hK hP rfl rfl) hPc hKc hN hDc hO hS hAO) rfl hl.1 rfl (lv_room (Nat.le_of_ble_eq_true rfl)) d_Law_programme_5 ⟨Nat.le_of_ble_eq_true rfl, Nat.le_of_ble_eq_true rfl⟩ hS (fun q _ h => hFc q h) hFc (fun r9 u9 t H locs ht hvm e5 hB hz1 hk1 hS => ?_) (fun X x H locs eX hcx hz1 hk1 hS => ?_)
  · exact absurd e5 (fun z => z)
  · subst eX
    have hP : va_P D classes [(h, .inr (11, [.ref rc, .ref d])), (o9, .inl (cJ, 1, .inr (.inl g9)))] H := z_Pkept hP hk1
    refine z_catch1h htab (by decide) (by decide) hown (hts _ wd_695) (hts _ wd_702) hcx ?_
    clear hcx hz1 hk1
    refine lv_astore (lv' := [(4, .ref x), (0, .ref h), (1, .int k), (2, .int w), (3, .ref o9)]) hx hb d_Law_programme_13 hl (by decide) rfl (fun ls hl => ?_)
    refine lv_iconst (v := 1) hx hb d_Law_programme_15 (by decide) ?_
    have hP9 := hP.sub (ws' := [(h, .inr (11, [.ref rc, .ref d])), (o9, .inl (cJ, 1, .inr (.inl g9)))]) [0, 1] rfl
    have hD9 := hD.sub (ws' := [(h, .inr (11, [.ref rc, .ref d])), (o9, .inl (cJ, 1, .inr (.inl g9)))]) [0, 1] (by decide) rfl
    have hK9 := hK.sub (tys' := [(cJ, .long)]) [0] rfl
    refine W.widen (k := 1) (n := 6) (by omega) (by omega) ?_
    exact W.iret (v := 1) hx hb hr (fun t ht hW => ⟨⟨_, (), rfl, rfl, ⟨by rw [ht]; exact hP9, va_K.moved hW.alike hK9, hD9⟩⟩, hS.F ht⟩) hS.2.2 d_Law_programme_16
set_option maxHeartbeats 4000000 in
set_option maxRecDepth 100000 in
theorem c_Law_programme_badB (l : Launch) (D : va_G) (hfl : l.stackTraces = false) (B0 : State) (hG : zG B0) (sz : Nat) (h : Nat) (rc d tp ln tb ct dp pr b : Nat) (lv mo : Int32) (k w : Int32) (cJ : ClassId) (o9 : Nat) (g9 : Nat → Int64) (h0 : ¬ w < 0) (h6 : ¬ 6 < w) : Met l y_Law_programme [Cond.codeWith y_Law_programme b_Law_programme 5 (some .int) [(0, 10, 13, 13), (0, 10, 17, 19)]] ({ frames := 7, cells := 1, slots := 6, locals := 105 }) (zMo [.ref h, .int k, .int w, .ref o9] D [(h, .inr (11, [.ref rc, .ref d])), (rc, .inr (4, [.ref tp, .ref ln, .ref tb, .ref ct, .ref dp])), (tb, .inr (8, [.int lv, .ref pr])), (pr, .inr (12, [.ref b, .int 0, .int mo])), (o9, .inl (cJ, 1, .inr (.inl g9)))] [(cJ, .long)] sz B0) (va_Qi (fun r0 (_ : Unit) => r0 = 2) (fun (_u : Unit) t => zW D (va_A [(h, .inr (11, [.ref rc, .ref d])), (rc, .inr (4, [.ref tp, .ref ln, .ref tb, .ref ct, .ref dp])), (tb, .inr (8, [.int lv, .ref pr])), (pr, .inr (12, [.ref b, .int 0, .int mo])), (o9, .inl (cJ, 1, .inr (.inl g9)))] sz) [(h, .inr (11, [.ref rc, .ref d])), (rc, .inr (4, [.ref tp, .ref ln, .ref tb, .ref ct, .ref dp])), (tb, .inr (8, [.int lv, .ref pr])), (pr, .inr (12, [.ref b, .int 0, .int mo])), (o9, .inl (cJ, 1, .inr (.inl g9)))] [(cJ, .long)] t) (va_A [(h, .inr (11, [.ref rc, .ref d])), (rc, .inr (4, [.ref tp, .ref ln, .ref tb, .ref ct, .ref dp])), (tb, .inr (8, [.int lv, .ref pr])), (pr, .inr (12, [.ref b, .int 0, .int mo])), (o9, .inl (cJ, 1, .inr (.inl g9)))] sz)) 1 6 (va_A [(h, .inr (11, [.ref rc, .ref d])), (rc, .inr (4, [.ref tp, .ref ln, .ref tb, .ref ct, .ref dp])), (tb, .inr (8, [.int lv, .ref pr])), (pr, .inr (12, [.ref b, .int 0, .int mo])), (o9, .inl (cJ, 1, .inr (.inl g9)))] sz) := by
  refine va_MetW (cc := b_Law_programme) (maxL := 5) (ret := (some .int)) (hh := [(0, 10, 13, 13), (0, 10, 17, 19)]) (by decide) rfl ?_
  intro p e s m args below meth cd s₁ Bd hml hv
  obtain ⟨rfl, hsz, hP, hK, hN, hD0, hO⟩ := hv
  have hx := Bd.exec
  have hb := Bd.bytes
  have hr := Bd.returns
  have hts := hN.use (a := ([.ref h, .int k, .int w, .ref o9]).toArray)
  have hown : s.vm.findClass R_Law = some m.cls := findClass_of_methodNamed Bd.named
  have hlocks := Bd.notSynchronized
  have htab := z_tab Bd
  subst hsz
  have hD := hD0.self (sz := s.heap.size)
  have hAO := z_AO hD0 hO
  clear hD0
  have hA : ∀ q : Nat, s.heap.size ≤ q → va_A [(h, .inr (11, [.ref rc, .ref d])), (rc, .inr (4, [.ref tp, .ref ln, .ref tb, .ref ct, .ref dp])), (tb, .inr (8, [.int lv, .ref pr])), (pr, .inr (12, [.ref b, .int 0, .int mo])), (o9, .inl (cJ, 1, .inr (.inl g9)))] s.heap.size q := fun q h => Or.inr h
  have hS : va_S (va_A [(h, .inr (11, [.ref rc, .ref d])), (rc, .inr (4, [.ref tp, .ref ln, .ref tb, .ref ct, .ref dp])), (tb, .inr (8, [.int lv, .ref pr])), (pr, .inr (12, [.ref b, .int 0, .int mo])), (o9, .inl (cJ, 1, .inr (.inl g9)))] s.heap.size) s.heap s.heap [] := va_S.rf
  generalize hAe : va_A [(h, .inr (11, [.ref rc, .ref d])), (rc, .inr (4, [.ref tp, .ref ln, .ref tb, .ref ct, .ref dp])), (tb, .inr (8, [.int lv, .ref pr])), (pr, .inr (12, [.ref b, .int 0, .int mo])), (o9, .inl (cJ, 1, .inr (.inl g9)))] s.heap.size = A at hD hA hS hAO ⊢
  have hP : va_P D classes [(h, .inr (11, [.ref rc, .ref d])), (rc, .inr (4, [.ref tp, .ref ln, .ref tb, .ref ct, .ref dp])), (tb, .inr (8, [.int lv, .ref pr])), (pr, .inr (12, [.ref b, .int 0, .int mo])), (o9, .inl (cJ, 1, .inr (.inl g9)))] s.heap := hP
  have hl := lv_entry ([.ref h, .int k, .int w, .ref o9]) (n := 5) (Nat.le_of_ble_eq_true rfl)
  rw [lg_entry_eq]
  generalize (lg_sl ([.ref h, .int k, .int w, .ref o9]) ++ List.replicate (5 - (lg_sl ([.ref h, .int k, .int w, .ref o9])).length) Slot.unset).toArray = ls at hl ⊢
  have hl : lv_has ls 5 [(0, .ref h), (1, .int k), (2, .int w), (3, .ref o9)] := hl
  refine lv_aload_n hx hb d_Law_programme_0 rfl (lv_at hl 3 rfl) ?_
  refine lv_iconst (v := 0) hx hb d_Law_programme_1 (by decide) ?_
  refine lv_aload_n hx hb d_Law_programme_2 rfl (lv_at hl 0 rfl) ?_
  refine lv_iload_n hx hb d_Law_programme_3 rfl (lv_at hl 1 rfl) ?_
  refine lv_iload_n hx hb d_Law_programme_4 rfl (lv_at hl 2 rfl) ?_
  have hPc := hP.sub (ws' := [(h, .inr (11, [.ref rc, .ref d])), (rc, .inr (4, [.ref tp, .ref ln, .ref tb, .ref ct, .ref dp])), (tb, .inr (8, [.int lv, .ref pr])), (pr, .inr (12, [.ref b, .int 0, .int mo]))]) [0, 1, 2, 3] rfl
  have hKc := hK.sub (tys' := []) [] rfl
  have hDc := hD.sub (ws' := [(h, .inr (11, [.ref rc, .ref d])), (rc, .inr (4, [.ref tp, .ref ln, .ref tb, .ref ct, .ref dp])), (tb, .inr (8, [.int lv, .ref pr])), (pr, .inr (12, [.ref b, .int 0, .int mo]))]) [0, 1, 2, 3] (by decide) rfl
  have hFc := va_free (wc := [(h, .inr (11, [.ref rc, .ref d])), (rc, .inr (4, [.ref tp, .ref ln, .ref tb, .ref ct, .ref dp])), (tb, .inr (8, [.int lv, .ref pr])), (pr, .inr (12, [.ref b, .int 0, .int mo]))]) hD hS hA [0, 1, 2, 3] rfl
  refine z_callVTi (As := [.int k, .int w]) (rest := [.int 0, .ref o9]) ⟨hx, hb, hml, hown, hts⟩ (c_SS_programme_badB l D hfl B0 hG s.heap.size h rc d tp ln tb ct dp pr b lv mo k w h0 h6) (z_cV hN wd_827 wd_59 wd_824 hd_SS_programme rfl rfl ⟨Nat.le_of_ble_eq_true rfl, Nat.le_of_ble_eq_true rfl⟩ wd_825 wd_826) (z_preVo (va_recv (ci := 11) (q0 := 0) hK hP rfl rfl) hPc hKc hN hDc hO hS hAO) rfl hl.1 rfl (lv_room (Nat.le_of_ble_eq_true rfl)) d_Law_programme_5 ⟨Nat.le_of_ble_eq_true rfl, Nat.le_of_ble_eq_true rfl⟩ hS (fun q _ h => hFc q h) hFc (fun r9 u9 t H locs ht hvm e5 hB hz1 hk1 hS => ?_) (fun X x H locs eX hcx hz1 hk1 hS => ?_)
  · exact absurd e5 (fun z => z)
  · subst eX
    have hP : va_P D classes [(h, .inr (11, [.ref rc, .ref d])), (rc, .inr (4, [.ref tp, .ref ln, .ref tb, .ref ct, .ref dp])), (tb, .inr (8, [.int lv, .ref pr])), (pr, .inr (12, [.ref b, .int 0, .int mo])), (o9, .inl (cJ, 1, .inr (.inl g9)))] H := z_Pkept hP hk1
    refine z_catch2N htab (by decide) (by decide) (by decide) (by decide) hown (hts _ wd_695) (hts _ wd_770) (z_no hG hO (by decide +kernel)) (hts _ wd_777) hcx ?_
    clear hcx hz1 hk1
    refine lv_astore (lv' := [(4, .ref x), (0, .ref h), (1, .int k), (2, .int w), (3, .ref o9)]) hx hb d_Law_programme_17 hl (by decide) rfl (fun ls hl => ?_)
    refine lv_iconst (v := 2) hx hb d_Law_programme_19 (by decide) ?_
    have hP9 := hP.sub (ws' := [(h, .inr (11, [.ref rc, .ref d])), (rc, .inr (4, [.ref tp, .ref ln, .ref tb, .ref ct, .ref dp])), (tb, .inr (8, [.int lv, .ref pr])), (pr, .inr (12, [.ref b, .int 0, .int mo])), (o9, .inl (cJ, 1, .inr (.inl g9)))]) [0, 1, 2, 3, 4] rfl
    have hD9 := hD.sub (ws' := [(h, .inr (11, [.ref rc, .ref d])), (rc, .inr (4, [.ref tp, .ref ln, .ref tb, .ref ct, .ref dp])), (tb, .inr (8, [.int lv, .ref pr])), (pr, .inr (12, [.ref b, .int 0, .int mo])), (o9, .inl (cJ, 1, .inr (.inl g9)))]) [0, 1, 2, 3, 4] (by decide) rfl
    have hK9 := hK.sub (tys' := [(cJ, .long)]) [0] rfl
    refine W.widen (k := 1) (n := 6) (by omega) (by omega) ?_
    exact W.iret (v := 2) hx hb hr (fun t ht hW => ⟨⟨_, (), rfl, rfl, ⟨by rw [ht]; exact hP9, va_K.moved hW.alike hK9, hD9⟩⟩, hS.F ht⟩) hS.2.2 d_Law_programme_20
set_option maxHeartbeats 4000000 in
set_option maxRecDepth 100000 in
theorem c_Law_stream_bad (l : Launch) (D : va_G) (hfl : l.stackTraces = false) (B0 : State) (hG : zG B0) (sz : Nat) (h : Nat) (rc d tp ln tb ct dp pr b : Nat) (lv mo : Int32) (k j : Int32) (cJ : ClassId) (o9 : Nat) (g9 : Nat → Int64)  : Met l y_Law_stream [Cond.codeWith y_Law_stream b_Law_stream 5 (some .int) [(0, 10, 13, 19)]] ({ frames := 7, cells := 1, slots := 6, locals := 106 }) (zMo [.ref h, .int k, .int j, .ref o9] D [(h, .inr (11, [.ref rc, .ref d])), (rc, .inr (4, [.ref tp, .ref ln, .ref tb, .ref ct, .ref dp])), (tb, .inr (8, [.int lv, .ref pr])), (pr, .inr (12, [.ref b, .int 0, .int mo])), (o9, .inl (cJ, 1, .inr (.inl g9)))] [(cJ, .long)] sz B0) (va_Qi (fun r0 (_ : Unit) => r0 = 1) (fun (_u : Unit) t => zW D (va_A [(h, .inr (11, [.ref rc, .ref d])), (rc, .inr (4, [.ref tp, .ref ln, .ref tb, .ref ct, .ref dp])), (tb, .inr (8, [.int lv, .ref pr])), (pr, .inr (12, [.ref b, .int 0, .int mo])), (o9, .inl (cJ, 1, .inr (.inl g9)))] sz) [(h, .inr (11, [.ref rc, .ref d])), (rc, .inr (4, [.ref tp, .ref ln, .ref tb, .ref ct, .ref dp])), (tb, .inr (8, [.int lv, .ref pr])), (pr, .inr (12, [.ref b, .int 0, .int mo])), (o9, .inl (cJ, 1, .inr (.inl g9)))] [(cJ, .long)] t) (va_A [(h, .inr (11, [.ref rc, .ref d])), (rc, .inr (4, [.ref tp, .ref ln, .ref tb, .ref ct, .ref dp])), (tb, .inr (8, [.int lv, .ref pr])), (pr, .inr (12, [.ref b, .int 0, .int mo])), (o9, .inl (cJ, 1, .inr (.inl g9)))] sz)) 1 6 (va_A [(h, .inr (11, [.ref rc, .ref d])), (rc, .inr (4, [.ref tp, .ref ln, .ref tb, .ref ct, .ref dp])), (tb, .inr (8, [.int lv, .ref pr])), (pr, .inr (12, [.ref b, .int 0, .int mo])), (o9, .inl (cJ, 1, .inr (.inl g9)))] sz) := by
  refine va_MetW (cc := b_Law_stream) (maxL := 5) (ret := (some .int)) (hh := [(0, 10, 13, 19)]) (by decide) rfl ?_
  intro p e s m args below meth cd s₁ Bd hml hv
  obtain ⟨rfl, hsz, hP, hK, hN, hD0, hO⟩ := hv
  have hx := Bd.exec
  have hb := Bd.bytes
  have hr := Bd.returns
  have hts := hN.use (a := ([.ref h, .int k, .int j, .ref o9]).toArray)
  have hown : s.vm.findClass R_Law = some m.cls := findClass_of_methodNamed Bd.named
  have hlocks := Bd.notSynchronized
  have htab := z_tab Bd
  subst hsz
  have hD := hD0.self (sz := s.heap.size)
  have hAO := z_AO hD0 hO
  clear hD0
  have hA : ∀ q : Nat, s.heap.size ≤ q → va_A [(h, .inr (11, [.ref rc, .ref d])), (rc, .inr (4, [.ref tp, .ref ln, .ref tb, .ref ct, .ref dp])), (tb, .inr (8, [.int lv, .ref pr])), (pr, .inr (12, [.ref b, .int 0, .int mo])), (o9, .inl (cJ, 1, .inr (.inl g9)))] s.heap.size q := fun q h => Or.inr h
  have hS : va_S (va_A [(h, .inr (11, [.ref rc, .ref d])), (rc, .inr (4, [.ref tp, .ref ln, .ref tb, .ref ct, .ref dp])), (tb, .inr (8, [.int lv, .ref pr])), (pr, .inr (12, [.ref b, .int 0, .int mo])), (o9, .inl (cJ, 1, .inr (.inl g9)))] s.heap.size) s.heap s.heap [] := va_S.rf
  generalize hAe : va_A [(h, .inr (11, [.ref rc, .ref d])), (rc, .inr (4, [.ref tp, .ref ln, .ref tb, .ref ct, .ref dp])), (tb, .inr (8, [.int lv, .ref pr])), (pr, .inr (12, [.ref b, .int 0, .int mo])), (o9, .inl (cJ, 1, .inr (.inl g9)))] s.heap.size = A at hD hA hS hAO ⊢
  have hP : va_P D classes [(h, .inr (11, [.ref rc, .ref d])), (rc, .inr (4, [.ref tp, .ref ln, .ref tb, .ref ct, .ref dp])), (tb, .inr (8, [.int lv, .ref pr])), (pr, .inr (12, [.ref b, .int 0, .int mo])), (o9, .inl (cJ, 1, .inr (.inl g9)))] s.heap := hP
  have hl := lv_entry ([.ref h, .int k, .int j, .ref o9]) (n := 5) (Nat.le_of_ble_eq_true rfl)
  rw [lg_entry_eq]
  generalize (lg_sl ([.ref h, .int k, .int j, .ref o9]) ++ List.replicate (5 - (lg_sl ([.ref h, .int k, .int j, .ref o9])).length) Slot.unset).toArray = ls at hl ⊢
  have hl : lv_has ls 5 [(0, .ref h), (1, .int k), (2, .int j), (3, .ref o9)] := hl
  refine lv_aload_n hx hb d_Law_stream_0 rfl (lv_at hl 3 rfl) ?_
  refine lv_iconst (v := 0) hx hb d_Law_stream_1 (by decide) ?_
  refine lv_aload_n hx hb d_Law_stream_2 rfl (lv_at hl 0 rfl) ?_
  refine lv_iload_n hx hb d_Law_stream_3 rfl (lv_at hl 1 rfl) ?_
  refine lv_iload_n hx hb d_Law_stream_4 rfl (lv_at hl 2 rfl) ?_
  have hPc := hP.sub (ws' := [(h, .inr (11, [.ref rc, .ref d])), (rc, .inr (4, [.ref tp, .ref ln, .ref tb, .ref ct, .ref dp])), (tb, .inr (8, [.int lv, .ref pr])), (pr, .inr (12, [.ref b, .int 0, .int mo]))]) [0, 1, 2, 3] rfl
  have hKc := hK.sub (tys' := []) [] rfl
  have hDc := hD.sub (ws' := [(h, .inr (11, [.ref rc, .ref d])), (rc, .inr (4, [.ref tp, .ref ln, .ref tb, .ref ct, .ref dp])), (tb, .inr (8, [.int lv, .ref pr])), (pr, .inr (12, [.ref b, .int 0, .int mo]))]) [0, 1, 2, 3] (by decide) rfl
  have hFc := va_free (wc := [(h, .inr (11, [.ref rc, .ref d])), (rc, .inr (4, [.ref tp, .ref ln, .ref tb, .ref ct, .ref dp])), (tb, .inr (8, [.int lv, .ref pr])), (pr, .inr (12, [.ref b, .int 0, .int mo]))]) hD hS hA [0, 1, 2, 3] rfl
  refine z_callVTi (As := [.int k, .int j]) (rest := [.int 0, .ref o9]) ⟨hx, hb, hml, hown, hts⟩ (c_SS_stream_bad l D hfl B0 hG s.heap.size h rc d tp ln tb ct dp pr b lv mo k j ) (z_cV hN wd_840 wd_59 wd_837 hd_SS_stream rfl rfl ⟨Nat.le_of_ble_eq_true rfl, Nat.le_of_ble_eq_true rfl⟩ wd_838 wd_839) (z_preVo (va_recv (ci := 11) (q0 := 0) hK hP rfl rfl) hPc hKc hN hDc hO hS hAO) rfl hl.1 rfl (lv_room (Nat.le_of_ble_eq_true rfl)) d_Law_stream_5 ⟨Nat.le_of_ble_eq_true rfl, Nat.le_of_ble_eq_true rfl⟩ hS (fun q _ h => hFc q h) hFc (fun r9 u9 t H locs ht hvm e5 hB hz1 hk1 hS => ?_) (fun X x H locs eX hcx hz1 hk1 hS => ?_)
  · exact absurd e5 (fun z => z)
  · subst eX
    have hP : va_P D classes [(h, .inr (11, [.ref rc, .ref d])), (rc, .inr (4, [.ref tp, .ref ln, .ref tb, .ref ct, .ref dp])), (tb, .inr (8, [.int lv, .ref pr])), (pr, .inr (12, [.ref b, .int 0, .int mo])), (o9, .inl (cJ, 1, .inr (.inl g9)))] H := z_Pkept hP hk1
    refine z_catch1h htab (by decide) (by decide) hown (hts _ wd_770) (hts _ wd_777) hcx ?_
    clear hcx hz1 hk1
    refine lv_astore (lv' := [(4, .ref x), (0, .ref h), (1, .int k), (2, .int j), (3, .ref o9)]) hx hb d_Law_stream_13 hl (by decide) rfl (fun ls hl => ?_)
    refine lv_iconst (v := 1) hx hb d_Law_stream_15 (by decide) ?_
    have hP9 := hP.sub (ws' := [(h, .inr (11, [.ref rc, .ref d])), (rc, .inr (4, [.ref tp, .ref ln, .ref tb, .ref ct, .ref dp])), (tb, .inr (8, [.int lv, .ref pr])), (pr, .inr (12, [.ref b, .int 0, .int mo])), (o9, .inl (cJ, 1, .inr (.inl g9)))]) [0, 1, 2, 3, 4] rfl
    have hD9 := hD.sub (ws' := [(h, .inr (11, [.ref rc, .ref d])), (rc, .inr (4, [.ref tp, .ref ln, .ref tb, .ref ct, .ref dp])), (tb, .inr (8, [.int lv, .ref pr])), (pr, .inr (12, [.ref b, .int 0, .int mo])), (o9, .inl (cJ, 1, .inr (.inl g9)))]) [0, 1, 2, 3, 4] (by decide) rfl
    have hK9 := hK.sub (tys' := [(cJ, .long)]) [0] rfl
    refine W.widen (k := 1) (n := 6) (by omega) (by omega) ?_
    exact W.iret (v := 1) hx hb hr (fun t ht hW => ⟨⟨_, (), rfl, rfl, ⟨by rw [ht]; exact hP9, va_K.moved hW.alike hK9, hD9⟩⟩, hS.F ht⟩) hS.2.2 d_Law_stream_16
set_option maxHeartbeats 4000000 in
set_option maxRecDepth 100000 in
theorem c_Law_now_bad (l : Launch) (D : va_G) (hfl : l.stackTraces = false) (B0 : State) (hG : zG B0) (sz : Nat) (h : Nat) (rc d tp ln tb ct dp pr b : Nat) (lv mo : Int32) (k : Int32) (cJ : ClassId) (o9 : Nat) (g9 : Nat → Int64)  : Met l y_Law_now [Cond.codeWith y_Law_now b_Law_now 4 (some .int) [(0, 8, 11, 19)]] ({ frames := 7, cells := 1, slots := 6, locals := 104 }) (zMo [.ref h, .int k, .ref o9] D [(h, .inr (11, [.ref rc, .ref d])), (rc, .inr (4, [.ref tp, .ref ln, .ref tb, .ref ct, .ref dp])), (tb, .inr (8, [.int lv, .ref pr])), (pr, .inr (12, [.ref b, .int 0, .int mo])), (o9, .inl (cJ, 1, .inr (.inl g9)))] [(cJ, .long)] sz B0) (va_Qi (fun r0 (_ : Unit) => r0 = 1) (fun (_u : Unit) t => zW D (va_A [(h, .inr (11, [.ref rc, .ref d])), (rc, .inr (4, [.ref tp, .ref ln, .ref tb, .ref ct, .ref dp])), (tb, .inr (8, [.int lv, .ref pr])), (pr, .inr (12, [.ref b, .int 0, .int mo])), (o9, .inl (cJ, 1, .inr (.inl g9)))] sz) [(h, .inr (11, [.ref rc, .ref d])), (rc, .inr (4, [.ref tp, .ref ln, .ref tb, .ref ct, .ref dp])), (tb, .inr (8, [.int lv, .ref pr])), (pr, .inr (12, [.ref b, .int 0, .int mo])), (o9, .inl (cJ, 1, .inr (.inl g9)))] [(cJ, .long)] t) (va_A [(h, .inr (11, [.ref rc, .ref d])), (rc, .inr (4, [.ref tp, .ref ln, .ref tb, .ref ct, .ref dp])), (tb, .inr (8, [.int lv, .ref pr])), (pr, .inr (12, [.ref b, .int 0, .int mo])), (o9, .inl (cJ, 1, .inr (.inl g9)))] sz)) 1 6 (va_A [(h, .inr (11, [.ref rc, .ref d])), (rc, .inr (4, [.ref tp, .ref ln, .ref tb, .ref ct, .ref dp])), (tb, .inr (8, [.int lv, .ref pr])), (pr, .inr (12, [.ref b, .int 0, .int mo])), (o9, .inl (cJ, 1, .inr (.inl g9)))] sz) := by
  refine va_MetW (cc := b_Law_now) (maxL := 4) (ret := (some .int)) (hh := [(0, 8, 11, 19)]) (by decide) rfl ?_
  intro p e s m args below meth cd s₁ Bd hml hv
  obtain ⟨rfl, hsz, hP, hK, hN, hD0, hO⟩ := hv
  have hx := Bd.exec
  have hb := Bd.bytes
  have hr := Bd.returns
  have hts := hN.use (a := ([.ref h, .int k, .ref o9]).toArray)
  have hown : s.vm.findClass R_Law = some m.cls := findClass_of_methodNamed Bd.named
  have hlocks := Bd.notSynchronized
  have htab := z_tab Bd
  subst hsz
  have hD := hD0.self (sz := s.heap.size)
  have hAO := z_AO hD0 hO
  clear hD0
  have hA : ∀ q : Nat, s.heap.size ≤ q → va_A [(h, .inr (11, [.ref rc, .ref d])), (rc, .inr (4, [.ref tp, .ref ln, .ref tb, .ref ct, .ref dp])), (tb, .inr (8, [.int lv, .ref pr])), (pr, .inr (12, [.ref b, .int 0, .int mo])), (o9, .inl (cJ, 1, .inr (.inl g9)))] s.heap.size q := fun q h => Or.inr h
  have hS : va_S (va_A [(h, .inr (11, [.ref rc, .ref d])), (rc, .inr (4, [.ref tp, .ref ln, .ref tb, .ref ct, .ref dp])), (tb, .inr (8, [.int lv, .ref pr])), (pr, .inr (12, [.ref b, .int 0, .int mo])), (o9, .inl (cJ, 1, .inr (.inl g9)))] s.heap.size) s.heap s.heap [] := va_S.rf
  generalize hAe : va_A [(h, .inr (11, [.ref rc, .ref d])), (rc, .inr (4, [.ref tp, .ref ln, .ref tb, .ref ct, .ref dp])), (tb, .inr (8, [.int lv, .ref pr])), (pr, .inr (12, [.ref b, .int 0, .int mo])), (o9, .inl (cJ, 1, .inr (.inl g9)))] s.heap.size = A at hD hA hS hAO ⊢
  have hP : va_P D classes [(h, .inr (11, [.ref rc, .ref d])), (rc, .inr (4, [.ref tp, .ref ln, .ref tb, .ref ct, .ref dp])), (tb, .inr (8, [.int lv, .ref pr])), (pr, .inr (12, [.ref b, .int 0, .int mo])), (o9, .inl (cJ, 1, .inr (.inl g9)))] s.heap := hP
  have hl := lv_entry ([.ref h, .int k, .ref o9]) (n := 4) (Nat.le_of_ble_eq_true rfl)
  rw [lg_entry_eq]
  generalize (lg_sl ([.ref h, .int k, .ref o9]) ++ List.replicate (4 - (lg_sl ([.ref h, .int k, .ref o9])).length) Slot.unset).toArray = ls at hl ⊢
  have hl : lv_has ls 4 [(0, .ref h), (1, .int k), (2, .ref o9)] := hl
  refine lv_aload_n hx hb d_Law_now_0 rfl (lv_at hl 2 rfl) ?_
  refine lv_iconst (v := 0) hx hb d_Law_now_1 (by decide) ?_
  refine lv_aload_n hx hb d_Law_now_2 rfl (lv_at hl 0 rfl) ?_
  refine lv_iload_n hx hb d_Law_now_3 rfl (lv_at hl 1 rfl) ?_
  have hPc := hP.sub (ws' := [(h, .inr (11, [.ref rc, .ref d])), (rc, .inr (4, [.ref tp, .ref ln, .ref tb, .ref ct, .ref dp])), (tb, .inr (8, [.int lv, .ref pr])), (pr, .inr (12, [.ref b, .int 0, .int mo]))]) [0, 1, 2, 3] rfl
  have hKc := hK.sub (tys' := []) [] rfl
  have hDc := hD.sub (ws' := [(h, .inr (11, [.ref rc, .ref d])), (rc, .inr (4, [.ref tp, .ref ln, .ref tb, .ref ct, .ref dp])), (tb, .inr (8, [.int lv, .ref pr])), (pr, .inr (12, [.ref b, .int 0, .int mo]))]) [0, 1, 2, 3] (by decide) rfl
  have hFc := va_free (wc := [(h, .inr (11, [.ref rc, .ref d])), (rc, .inr (4, [.ref tp, .ref ln, .ref tb, .ref ct, .ref dp])), (tb, .inr (8, [.int lv, .ref pr])), (pr, .inr (12, [.ref b, .int 0, .int mo]))]) hD hS hA [0, 1, 2, 3] rfl
  refine z_callVTl (As := [.int k]) (rest := [.int 0, .ref o9]) ⟨hx, hb, hml, hown, hts⟩ (c_SS_now_bad l D hfl B0 hG s.heap.size h rc d tp ln tb ct dp pr b lv mo k ) (z_cV hN wd_850 wd_59 wd_847 hd_SS_now rfl rfl ⟨Nat.le_of_ble_eq_true rfl, Nat.le_of_ble_eq_true rfl⟩ wd_848 wd_849) (z_preVo (va_recv (ci := 11) (q0 := 0) hK hP rfl rfl) hPc hKc hN hDc hO hS hAO) rfl hl.1 rfl (lv_room (Nat.le_of_ble_eq_true rfl)) d_Law_now_4 ⟨Nat.le_of_ble_eq_true rfl, Nat.le_of_ble_eq_true rfl⟩ hS (fun q _ h => hFc q h) hFc (fun r9 u9 t H locs ht hvm e4 hB hz1 hk1 hS => ?_) (fun X x H locs eX hcx hz1 hk1 hS => ?_)
  · exact absurd e4 (fun z => z)
  · subst eX
    have hP : va_P D classes [(h, .inr (11, [.ref rc, .ref d])), (rc, .inr (4, [.ref tp, .ref ln, .ref tb, .ref ct, .ref dp])), (tb, .inr (8, [.int lv, .ref pr])), (pr, .inr (12, [.ref b, .int 0, .int mo])), (o9, .inl (cJ, 1, .inr (.inl g9)))] H := z_Pkept hP hk1
    refine z_catch1h htab (by decide) (by decide) hown (hts _ wd_770) (hts _ wd_777) hcx ?_
    clear hcx hz1 hk1
    refine lv_astore_n (lv' := [(3, .ref x), (0, .ref h), (1, .int k), (2, .ref o9)]) hx hb d_Law_now_11 rfl hl (by decide) rfl (fun ls hl => ?_)
    refine lv_iconst (v := 1) hx hb d_Law_now_12 (by decide) ?_
    have hP9 := hP.sub (ws' := [(h, .inr (11, [.ref rc, .ref d])), (rc, .inr (4, [.ref tp, .ref ln, .ref tb, .ref ct, .ref dp])), (tb, .inr (8, [.int lv, .ref pr])), (pr, .inr (12, [.ref b, .int 0, .int mo])), (o9, .inl (cJ, 1, .inr (.inl g9)))]) [0, 1, 2, 3, 4] rfl
    have hD9 := hD.sub (ws' := [(h, .inr (11, [.ref rc, .ref d])), (rc, .inr (4, [.ref tp, .ref ln, .ref tb, .ref ct, .ref dp])), (tb, .inr (8, [.int lv, .ref pr])), (pr, .inr (12, [.ref b, .int 0, .int mo])), (o9, .inl (cJ, 1, .inr (.inl g9)))]) [0, 1, 2, 3, 4] (by decide) rfl
    have hK9 := hK.sub (tys' := [(cJ, .long)]) [0] rfl
    refine W.widen (k := 1) (n := 6) (by omega) (by omega) ?_
    exact W.iret (v := 1) hx hb hr (fun t ht hW => ⟨⟨_, (), rfl, rfl, ⟨by rw [ht]; exact hP9, va_K.moved hW.alike hK9, hD9⟩⟩, hS.F ht⟩) hS.2.2 d_Law_now_13
set_option maxHeartbeats 4000000 in
set_option maxRecDepth 100000 in
theorem c_Law_order_badA (l : Launch) (D : va_G) (hfl : l.stackTraces = false) (B0 : State) (hG : zG B0) (sz : Nat) (h : Nat) (k j w : Int32) (cJ : ClassId) (o9 : Nat) (g9 : Nat → Int64) (rc d : Nat) (hbad : w < 0 ∨ 3 < w) : Met l y_Law_order [Cond.codeWith y_Law_order b_Law_order 6 (some .int) [(0, 11, 14, 13), (0, 11, 18, 19)]] ({ frames := 7, cells := 1, slots := 6, locals := 107 }) (zMo [.ref h, .int k, .int j, .int w, .ref o9] D [(h, .inr (11, [.ref rc, .ref d])), (o9, .inl (cJ, 1, .inr (.inl g9)))] [(cJ, .long)] sz B0) (va_Qi (fun r0 (_ : Unit) => r0 = 1) (fun (_u : Unit) t => zW D (va_A [(h, .inr (11, [.ref rc, .ref d])), (o9, .inl (cJ, 1, .inr (.inl g9)))] sz) [(h, .inr (11, [.ref rc, .ref d])), (o9, .inl (cJ, 1, .inr (.inl g9)))] [(cJ, .long)] t) (va_A [(h, .inr (11, [.ref rc, .ref d])), (o9, .inl (cJ, 1, .inr (.inl g9)))] sz)) 1 6 (va_A [(h, .inr (11, [.ref rc, .ref d])), (o9, .inl (cJ, 1, .inr (.inl g9)))] sz) := by
  refine va_MetW (cc := b_Law_order) (maxL := 6) (ret := (some .int)) (hh := [(0, 11, 14, 13), (0, 11, 18, 19)]) (by decide) rfl ?_
  intro p e s m args below meth cd s₁ Bd hml hv
  obtain ⟨rfl, hsz, hP, hK, hN, hD0, hO⟩ := hv
  have hx := Bd.exec
  have hb := Bd.bytes
  have hr := Bd.returns
  have hts := hN.use (a := ([.ref h, .int k, .int j, .int w, .ref o9]).toArray)
  have hown : s.vm.findClass R_Law = some m.cls := findClass_of_methodNamed Bd.named
  have hlocks := Bd.notSynchronized
  have htab := z_tab Bd
  subst hsz
  have hD := hD0.self (sz := s.heap.size)
  have hAO := z_AO hD0 hO
  clear hD0
  have hA : ∀ q : Nat, s.heap.size ≤ q → va_A [(h, .inr (11, [.ref rc, .ref d])), (o9, .inl (cJ, 1, .inr (.inl g9)))] s.heap.size q := fun q h => Or.inr h
  have hS : va_S (va_A [(h, .inr (11, [.ref rc, .ref d])), (o9, .inl (cJ, 1, .inr (.inl g9)))] s.heap.size) s.heap s.heap [] := va_S.rf
  generalize hAe : va_A [(h, .inr (11, [.ref rc, .ref d])), (o9, .inl (cJ, 1, .inr (.inl g9)))] s.heap.size = A at hD hA hS hAO ⊢
  have hP : va_P D classes [(h, .inr (11, [.ref rc, .ref d])), (o9, .inl (cJ, 1, .inr (.inl g9)))] s.heap := hP
  have hl := lv_entry ([.ref h, .int k, .int j, .int w, .ref o9]) (n := 6) (Nat.le_of_ble_eq_true rfl)
  rw [lg_entry_eq]
  generalize (lg_sl ([.ref h, .int k, .int j, .int w, .ref o9]) ++ List.replicate (6 - (lg_sl ([.ref h, .int k, .int j, .int w, .ref o9])).length) Slot.unset).toArray = ls at hl ⊢
  have hl : lv_has ls 6 [(0, .ref h), (1, .int k), (2, .int j), (3, .int w), (4, .ref o9)] := hl
  refine lv_aload hx hb d_Law_order_0 (lv_at hl 4 rfl) ?_
  refine lv_iconst (v := 0) hx hb d_Law_order_2 (by decide) ?_
  refine lv_aload_n hx hb d_Law_order_3 rfl (lv_at hl 0 rfl) ?_
  refine lv_iload_n hx hb d_Law_order_4 rfl (lv_at hl 1 rfl) ?_
  refine lv_iload_n hx hb d_Law_order_5 rfl (lv_at hl 2 rfl) ?_
  refine lv_iload_n hx hb d_Law_order_6 rfl (lv_at hl 3 rfl) ?_
  have hPc := hP.sub (ws' := []) [] rfl
  have hKc := hK.sub (tys' := []) [] rfl
  have hDc := hD.sub (ws' := []) [] (by decide) rfl
  have hFc := va_free (wc := []) hD hS hA [] rfl
  refine z_callVTl (As := [.int k, .int j, .int w]) (rest := [.int 0, .ref o9]) ⟨hx, hb, hml, hown, hts⟩ (c_SS_order_badA l D hfl B0 hG s.heap.size h k j w hbad) (z_cV hN wd_857 wd_59 wd_854 hd_SS_order rfl rfl ⟨Nat.le_of_ble_eq_true rfl, Nat.le_of_ble_eq_true rfl⟩ wd_855 wd_856) (z_preVo (va_recv (ci := 11) (q0 := 0) hK hP rfl rfl) hPc hKc hN hDc hO hS hAO) rfl hl.1 rfl (lv_room (Nat.le_of_ble_eq_true rfl)) d_Law_order_7 ⟨Nat.le_of_ble_eq_true rfl, Nat.le_of_ble_eq_true rfl⟩ hS (fun q _ h => hFc q h) hFc (fun r9 u9 t H locs ht hvm e7 hB hz1 hk1 hS => ?_) (fun X x H locs eX hcx hz1 hk1 hS => ?_)
  · exact absurd e7 (fun z => z)
  · subst eX
    have hP : va_P D classes [(h, .inr (11, [.ref rc, .ref d])), (o9, .inl (cJ, 1, .inr (.inl g9)))] H := z_Pkept hP hk1
    refine z_catch1h htab (by decide) (by decide) hown (hts _ wd_695) (hts _ wd_702) hcx ?_
    clear hcx hz1 hk1
    refine lv_astore (lv' := [(5, .ref x), (0, .ref h), (1, .int k), (2, .int j), (3, .int w), (4, .ref o9)]) hx hb d_Law_order_14 hl (by decide) rfl (fun ls hl => ?_)
    refine lv_iconst (v := 1) hx hb d_Law_order_16 (by decide) ?_
    have hP9 := hP.sub (ws' := [(h, .inr (11, [.ref rc, .ref d])), (o9, .inl (cJ, 1, .inr (.inl g9)))]) [0, 1] rfl
    have hD9 := hD.sub (ws' := [(h, .inr (11, [.ref rc, .ref d])), (o9, .inl (cJ, 1, .inr (.inl g9)))]) [0, 1] (by decide) rfl
    have hK9 := hK.sub (tys' := [(cJ, .long)]) [0] rfl
    refine W.widen (k := 1) (n := 6) (by omega) (by omega) ?_
    exact W.iret (v := 1) hx hb hr (fun t ht hW => ⟨⟨_, (), rfl, rfl, ⟨by rw [ht]; exact hP9, va_K.moved hW.alike hK9, hD9⟩⟩, hS.F ht⟩) hS.2.2 d_Law_order_17
set_option maxHeartbeats 4000000 in
set_option maxRecDepth 100000 in
theorem c_Law_order_badB (l : Launch) (D : va_G) (hfl : l.stackTraces = false) (B0 : State) (hG : zG B0) (sz : Nat) (h : Nat) (rc d tp ln tb ct dp pr b : Nat) (lv mo : Int32) (k j w : Int32) (cJ : ClassId) (o9 : Nat) (g9 : Nat → Int64) (h0 : ¬ w < 0) (h3 : ¬ 3 < w) : Met l y_Law_order [Cond.codeWith y_Law_order b_Law_order 6 (some .int) [(0, 11, 14, 13), (0, 11, 18, 19)]] ({ frames := 7, cells := 1, slots := 6, locals := 107 }) (zMo [.ref h, .int k, .int j, .int w, .ref o9] D [(h, .inr (11, [.ref rc, .ref d])), (rc, .inr (4, [.ref tp, .ref ln, .ref tb, .ref ct, .ref dp])), (tb, .inr (8, [.int lv, .ref pr])), (pr, .inr (12, [.ref b, .int 0, .int mo])), (o9, .inl (cJ, 1, .inr (.inl g9)))] [(cJ, .long)] sz B0) (va_Qi (fun r0 (_ : Unit) => r0 = 2) (fun (_u : Unit) t => zW D (va_A [(h, .inr (11, [.ref rc, .ref d])), (rc, .inr (4, [.ref tp, .ref ln, .ref tb, .ref ct, .ref dp])), (tb, .inr (8, [.int lv, .ref pr])), (pr, .inr (12, [.ref b, .int 0, .int mo])), (o9, .inl (cJ, 1, .inr (.inl g9)))] sz) [(h, .inr (11, [.ref rc, .ref d])), (rc, .inr (4, [.ref tp, .ref ln, .ref tb, .ref ct, .ref dp])), (tb, .inr (8, [.int lv, .ref pr])), (pr, .inr (12, [.ref b, .int 0, .int mo])), (o9, .inl (cJ, 1, .inr (.inl g9)))] [(cJ, .long)] t) (va_A [(h, .inr (11, [.ref rc, .ref d])), (rc, .inr (4, [.ref tp, .ref ln, .ref tb, .ref ct, .ref dp])), (tb, .inr (8, [.int lv, .ref pr])), (pr, .inr (12, [.ref b, .int 0, .int mo])), (o9, .inl (cJ, 1, .inr (.inl g9)))] sz)) 1 6 (va_A [(h, .inr (11, [.ref rc, .ref d])), (rc, .inr (4, [.ref tp, .ref ln, .ref tb, .ref ct, .ref dp])), (tb, .inr (8, [.int lv, .ref pr])), (pr, .inr (12, [.ref b, .int 0, .int mo])), (o9, .inl (cJ, 1, .inr (.inl g9)))] sz) := by
  refine va_MetW (cc := b_Law_order) (maxL := 6) (ret := (some .int)) (hh := [(0, 11, 14, 13), (0, 11, 18, 19)]) (by decide) rfl ?_
  intro p e s m args below meth cd s₁ Bd hml hv
  obtain ⟨rfl, hsz, hP, hK, hN, hD0, hO⟩ := hv
  have hx := Bd.exec
  have hb := Bd.bytes
  have hr := Bd.returns
  have hts := hN.use (a := ([.ref h, .int k, .int j, .int w, .ref o9]).toArray)
  have hown : s.vm.findClass R_Law = some m.cls := findClass_of_methodNamed Bd.named
  have hlocks := Bd.notSynchronized
  have htab := z_tab Bd
  subst hsz
  have hD := hD0.self (sz := s.heap.size)
  have hAO := z_AO hD0 hO
  clear hD0
  have hA : ∀ q : Nat, s.heap.size ≤ q → va_A [(h, .inr (11, [.ref rc, .ref d])), (rc, .inr (4, [.ref tp, .ref ln, .ref tb, .ref ct, .ref dp])), (tb, .inr (8, [.int lv, .ref pr])), (pr, .inr (12, [.ref b, .int 0, .int mo])), (o9, .inl (cJ, 1, .inr (.inl g9)))] s.heap.size q := fun q h => Or.inr h
  have hS : va_S (va_A [(h, .inr (11, [.ref rc, .ref d])), (rc, .inr (4, [.ref tp, .ref ln, .ref tb, .ref ct, .ref dp])), (tb, .inr (8, [.int lv, .ref pr])), (pr, .inr (12, [.ref b, .int 0, .int mo])), (o9, .inl (cJ, 1, .inr (.inl g9)))] s.heap.size) s.heap s.heap [] := va_S.rf
  generalize hAe : va_A [(h, .inr (11, [.ref rc, .ref d])), (rc, .inr (4, [.ref tp, .ref ln, .ref tb, .ref ct, .ref dp])), (tb, .inr (8, [.int lv, .ref pr])), (pr, .inr (12, [.ref b, .int 0, .int mo])), (o9, .inl (cJ, 1, .inr (.inl g9)))] s.heap.size = A at hD hA hS hAO ⊢
  have hP : va_P D classes [(h, .inr (11, [.ref rc, .ref d])), (rc, .inr (4, [.ref tp, .ref ln, .ref tb, .ref ct, .ref dp])), (tb, .inr (8, [.int lv, .ref pr])), (pr, .inr (12, [.ref b, .int 0, .int mo])), (o9, .inl (cJ, 1, .inr (.inl g9)))] s.heap := hP
  have hl := lv_entry ([.ref h, .int k, .int j, .int w, .ref o9]) (n := 6) (Nat.le_of_ble_eq_true rfl)
  rw [lg_entry_eq]
  generalize (lg_sl ([.ref h, .int k, .int j, .int w, .ref o9]) ++ List.replicate (6 - (lg_sl ([.ref h, .int k, .int j, .int w, .ref o9])).length) Slot.unset).toArray = ls at hl ⊢
  have hl : lv_has ls 6 [(0, .ref h), (1, .int k), (2, .int j), (3, .int w), (4, .ref o9)] := hl
  refine lv_aload hx hb d_Law_order_0 (lv_at hl 4 rfl) ?_
  refine lv_iconst (v := 0) hx hb d_Law_order_2 (by decide) ?_
  refine lv_aload_n hx hb d_Law_order_3 rfl (lv_at hl 0 rfl) ?_
  refine lv_iload_n hx hb d_Law_order_4 rfl (lv_at hl 1 rfl) ?_
  refine lv_iload_n hx hb d_Law_order_5 rfl (lv_at hl 2 rfl) ?_
  refine lv_iload_n hx hb d_Law_order_6 rfl (lv_at hl 3 rfl) ?_
  have hPc := hP.sub (ws' := [(h, .inr (11, [.ref rc, .ref d])), (rc, .inr (4, [.ref tp, .ref ln, .ref tb, .ref ct, .ref dp])), (tb, .inr (8, [.int lv, .ref pr])), (pr, .inr (12, [.ref b, .int 0, .int mo]))]) [0, 1, 2, 3] rfl
  have hKc := hK.sub (tys' := []) [] rfl
  have hDc := hD.sub (ws' := [(h, .inr (11, [.ref rc, .ref d])), (rc, .inr (4, [.ref tp, .ref ln, .ref tb, .ref ct, .ref dp])), (tb, .inr (8, [.int lv, .ref pr])), (pr, .inr (12, [.ref b, .int 0, .int mo]))]) [0, 1, 2, 3] (by decide) rfl
  have hFc := va_free (wc := [(h, .inr (11, [.ref rc, .ref d])), (rc, .inr (4, [.ref tp, .ref ln, .ref tb, .ref ct, .ref dp])), (tb, .inr (8, [.int lv, .ref pr])), (pr, .inr (12, [.ref b, .int 0, .int mo]))]) hD hS hA [0, 1, 2, 3] rfl
  refine z_callVTl (As := [.int k, .int j, .int w]) (rest := [.int 0, .ref o9]) ⟨hx, hb, hml, hown, hts⟩ (c_SS_order_badB l D hfl B0 hG s.heap.size h rc d tp ln tb ct dp pr b lv mo k j w h0 h3) (z_cV hN wd_857 wd_59 wd_854 hd_SS_order rfl rfl ⟨Nat.le_of_ble_eq_true rfl, Nat.le_of_ble_eq_true rfl⟩ wd_855 wd_856) (z_preVo (va_recv (ci := 11) (q0 := 0) hK hP rfl rfl) hPc hKc hN hDc hO hS hAO) rfl hl.1 rfl (lv_room (Nat.le_of_ble_eq_true rfl)) d_Law_order_7 ⟨Nat.le_of_ble_eq_true rfl, Nat.le_of_ble_eq_true rfl⟩ hS (fun q _ h => hFc q h) hFc (fun r9 u9 t H locs ht hvm e7 hB hz1 hk1 hS => ?_) (fun X x H locs eX hcx hz1 hk1 hS => ?_)
  · exact absurd e7 (fun z => z)
  · subst eX
    have hP : va_P D classes [(h, .inr (11, [.ref rc, .ref d])), (rc, .inr (4, [.ref tp, .ref ln, .ref tb, .ref ct, .ref dp])), (tb, .inr (8, [.int lv, .ref pr])), (pr, .inr (12, [.ref b, .int 0, .int mo])), (o9, .inl (cJ, 1, .inr (.inl g9)))] H := z_Pkept hP hk1
    refine z_catch2N htab (by decide) (by decide) (by decide) (by decide) hown (hts _ wd_695) (hts _ wd_770) (z_no hG hO (by decide +kernel)) (hts _ wd_777) hcx ?_
    clear hcx hz1 hk1
    refine lv_astore (lv' := [(5, .ref x), (0, .ref h), (1, .int k), (2, .int j), (3, .int w), (4, .ref o9)]) hx hb d_Law_order_18 hl (by decide) rfl (fun ls hl => ?_)
    refine lv_iconst (v := 2) hx hb d_Law_order_20 (by decide) ?_
    have hP9 := hP.sub (ws' := [(h, .inr (11, [.ref rc, .ref d])), (rc, .inr (4, [.ref tp, .ref ln, .ref tb, .ref ct, .ref dp])), (tb, .inr (8, [.int lv, .ref pr])), (pr, .inr (12, [.ref b, .int 0, .int mo])), (o9, .inl (cJ, 1, .inr (.inl g9)))]) [0, 1, 2, 3, 4] rfl
    have hD9 := hD.sub (ws' := [(h, .inr (11, [.ref rc, .ref d])), (rc, .inr (4, [.ref tp, .ref ln, .ref tb, .ref ct, .ref dp])), (tb, .inr (8, [.int lv, .ref pr])), (pr, .inr (12, [.ref b, .int 0, .int mo])), (o9, .inl (cJ, 1, .inr (.inl g9)))]) [0, 1, 2, 3, 4] (by decide) rfl
    have hK9 := hK.sub (tys' := [(cJ, .long)]) [0] rfl
    refine W.widen (k := 1) (n := 6) (by omega) (by omega) ?_
    exact W.iret (v := 2) hx hb hr (fun t ht hW => ⟨⟨_, (), rfl, rfl, ⟨by rw [ht]; exact hP9, va_K.moved hW.alike hK9, hD9⟩⟩, hS.F ht⟩) hS.2.2 d_Law_order_21
set_option maxHeartbeats 4000000 in
set_option maxRecDepth 100000 in
theorem c_Law_piece_bad (l : Launch) (D : va_G) (hfl : l.stackTraces = false) (B0 : State) (hG : zG B0) (sz : Nat) (h : Nat) (k w : Int32) (cJ : ClassId) (o9 : Nat) (g9 : Nat → Int64) (rc d : Nat) (hbad : w < 0 ∨ 4 < w ∨ k < 0) : Met l y_Law_piece [Cond.codeWith y_Law_piece b_Law_piece 5 (some .int) [(0, 9, 12, 13)]] ({ frames := 7, cells := 1, slots := 6, locals := 105 }) (zMo [.ref h, .int k, .int w, .ref o9] D [(h, .inr (11, [.ref rc, .ref d])), (o9, .inl (cJ, 1, .inr (.inl g9)))] [(cJ, .long)] sz B0) (va_Qi (fun r0 (_ : Unit) => r0 = 1) (fun (_u : Unit) t => zW D (va_A [(h, .inr (11, [.ref rc, .ref d])), (o9, .inl (cJ, 1, .inr (.inl g9)))] sz) [(h, .inr (11, [.ref rc, .ref d])), (o9, .inl (cJ, 1, .inr (.inl g9)))] [(cJ, .long)] t) (va_A [(h, .inr (11, [.ref rc, .ref d])), (o9, .inl (cJ, 1, .inr (.inl g9)))] sz)) 1 6 (va_A [(h, .inr (11, [.ref rc, .ref d])), (o9, .inl (cJ, 1, .inr (.inl g9)))] sz) := by
  refine va_MetW (cc := b_Law_piece) (maxL := 5) (ret := (some .int)) (hh := [(0, 9, 12, 13)]) (by decide) rfl ?_
  intro p e s m args below meth cd s₁ Bd hml hv
  obtain ⟨rfl, hsz, hP, hK, hN, hD0, hO⟩ := hv
  have hx := Bd.exec
  have hb := Bd.bytes
  have hr := Bd.returns
  have hts := hN.use (a := ([.ref h, .int k, .int w, .ref o9]).toArray)
  have hown : s.vm.findClass R_Law = some m.cls := findClass_of_methodNamed Bd.named
  have hlocks := Bd.notSynchronized
  have htab := z_tab Bd
  subst hsz
  have hD := hD0.self (sz := s.heap.size)
  have hAO := z_AO hD0 hO
  clear hD0
  have hA : ∀ q : Nat, s.heap.size ≤ q → va_A [(h, .inr (11, [.ref rc, .ref d])), (o9, .inl (cJ, 1, .inr (.inl g9)))] s.heap.size q := fun q h => Or.inr h
  have hS : va_S (va_A [(h, .inr (11, [.ref rc, .ref d])), (o9, .inl (cJ, 1, .inr (.inl g9)))] s.heap.size) s.heap s.heap [] := va_S.rf
  generalize hAe : va_A [(h, .inr (11, [.ref rc, .ref d])), (o9, .inl (cJ, 1, .inr (.inl g9)))] s.heap.size = A at hD hA hS hAO ⊢
  have hP : va_P D classes [(h, .inr (11, [.ref rc, .ref d])), (o9, .inl (cJ, 1, .inr (.inl g9)))] s.heap := hP
  have hl := lv_entry ([.ref h, .int k, .int w, .ref o9]) (n := 5) (Nat.le_of_ble_eq_true rfl)
  rw [lg_entry_eq]
  generalize (lg_sl ([.ref h, .int k, .int w, .ref o9]) ++ List.replicate (5 - (lg_sl ([.ref h, .int k, .int w, .ref o9])).length) Slot.unset).toArray = ls at hl ⊢
  have hl : lv_has ls 5 [(0, .ref h), (1, .int k), (2, .int w), (3, .ref o9)] := hl
  refine lv_aload_n hx hb d_Law_piece_0 rfl (lv_at hl 3 rfl) ?_
  refine lv_iconst (v := 0) hx hb d_Law_piece_1 (by decide) ?_
  refine lv_aload_n hx hb d_Law_piece_2 rfl (lv_at hl 0 rfl) ?_
  refine lv_iload_n hx hb d_Law_piece_3 rfl (lv_at hl 1 rfl) ?_
  refine lv_iload_n hx hb d_Law_piece_4 rfl (lv_at hl 2 rfl) ?_
  have hPc := hP.sub (ws' := []) [] rfl
  have hKc := hK.sub (tys' := []) [] rfl
  have hDc := hD.sub (ws' := []) [] (by decide) rfl
  have hFc := va_free (wc := []) hD hS hA [] rfl
  refine z_callVTl (As := [.int k, .int w]) (rest := [.int 0, .ref o9]) ⟨hx, hb, hml, hown, hts⟩ (c_SS_piece_bad l D hfl B0 hG s.heap.size h k w hbad) (z_cV hN wd_868 wd_59 wd_865 hd_SS_piece rfl rfl ⟨Nat.le_of_ble_eq_true rfl, Nat.le_of_ble_eq_true rfl⟩ wd_866 wd_867) (z_preVo (va_recv (ci := 11) (q0 := 0) hK hP rfl rfl) hPc hKc hN hDc hO hS hAO) rfl hl.1 rfl (lv_room (Nat.le_of_ble_eq_true rfl)) d_Law_piece_5 ⟨Nat.le_of_ble_eq_true rfl, Nat.le_of_ble_eq_true rfl⟩ hS (fun q _ h => hFc q h) hFc (fun r9 u9 t H locs ht hvm e5 hB hz1 hk1 hS => ?_) (fun X x H locs eX hcx hz1 hk1 hS => ?_)
  · exact absurd e5 (fun z => z)
  · subst eX
    have hP : va_P D classes [(h, .inr (11, [.ref rc, .ref d])), (o9, .inl (cJ, 1, .inr (.inl g9)))] H := z_Pkept hP hk1
    refine z_catch1h htab (by decide) (by decide) hown (hts _ wd_695) (hts _ wd_702) hcx ?_
    clear hcx hz1 hk1
    refine lv_astore (lv' := [(4, .ref x), (0, .ref h), (1, .int k), (2, .int w), (3, .ref o9)]) hx hb d_Law_piece_12 hl (by decide) rfl (fun ls hl => ?_)
    refine lv_iconst (v := 1) hx hb d_Law_piece_14 (by decide) ?_
    have hP9 := hP.sub (ws' := [(h, .inr (11, [.ref rc, .ref d])), (o9, .inl (cJ, 1, .inr (.inl g9)))]) [0, 1] rfl
    have hD9 := hD.sub (ws' := [(h, .inr (11, [.ref rc, .ref d])), (o9, .inl (cJ, 1, .inr (.inl g9)))]) [0, 1] (by decide) rfl
    have hK9 := hK.sub (tys' := [(cJ, .long)]) [0] rfl
    refine W.widen (k := 1) (n := 6) (by omega) (by omega) ?_
    exact W.iret (v := 1) hx hb hr (fun t ht hW => ⟨⟨_, (), rfl, rfl, ⟨by rw [ht]; exact hP9, va_K.moved hW.alike hK9, hD9⟩⟩, hS.F ht⟩) hS.2.2 d_Law_piece_15
set_option maxHeartbeats 4000000 in
set_option maxRecDepth 100000 in
theorem c_Law_clock_bad (l : Launch) (D : va_G) (hfl : l.stackTraces = false) (B0 : State) (hG : zG B0) (sz : Nat) (h : Nat) (v : Int32) (cJ : ClassId) (o9 : Nat) (g9 : Nat → Int64) (rc d : Nat) (hbad : v < 0 ∨ 8191 < v) : Met l y_Law_clock [Cond.codeWith y_Law_clock b_Law_clock 4 (some .int) [(0, 8, 11, 13)]] ({ frames := 7, cells := 1, slots := 6, locals := 104 }) (zMo [.ref h, .int v, .ref o9] D [(h, .inr (11, [.ref rc, .ref d])), (o9, .inl (cJ, 1, .inr (.inl g9)))] [(cJ, .long)] sz B0) (va_Qi (fun r0 (_ : Unit) => r0 = 1) (fun (_u : Unit) t => zW D (va_A [(h, .inr (11, [.ref rc, .ref d])), (o9, .inl (cJ, 1, .inr (.inl g9)))] sz) [(h, .inr (11, [.ref rc, .ref d])), (o9, .inl (cJ, 1, .inr (.inl g9)))] [(cJ, .long)] t) (va_A [(h, .inr (11, [.ref rc, .ref d])), (o9, .inl (cJ, 1, .inr (.inl g9)))] sz)) 1 6 (va_A [(h, .inr (11, [.ref rc, .ref d])), (o9, .inl (cJ, 1, .inr (.inl g9)))] sz) := by
  refine va_MetW (cc := b_Law_clock) (maxL := 4) (ret := (some .int)) (hh := [(0, 8, 11, 13)]) (by decide) rfl ?_
  intro p e s m args below meth cd s₁ Bd hml hv
  obtain ⟨rfl, hsz, hP, hK, hN, hD0, hO⟩ := hv
  have hx := Bd.exec
  have hb := Bd.bytes
  have hr := Bd.returns
  have hts := hN.use (a := ([.ref h, .int v, .ref o9]).toArray)
  have hown : s.vm.findClass R_Law = some m.cls := findClass_of_methodNamed Bd.named
  have hlocks := Bd.notSynchronized
  have htab := z_tab Bd
  subst hsz
  have hD := hD0.self (sz := s.heap.size)
  have hAO := z_AO hD0 hO
  clear hD0
  have hA : ∀ q : Nat, s.heap.size ≤ q → va_A [(h, .inr (11, [.ref rc, .ref d])), (o9, .inl (cJ, 1, .inr (.inl g9)))] s.heap.size q := fun q h => Or.inr h
  have hS : va_S (va_A [(h, .inr (11, [.ref rc, .ref d])), (o9, .inl (cJ, 1, .inr (.inl g9)))] s.heap.size) s.heap s.heap [] := va_S.rf
  generalize hAe : va_A [(h, .inr (11, [.ref rc, .ref d])), (o9, .inl (cJ, 1, .inr (.inl g9)))] s.heap.size = A at hD hA hS hAO ⊢
  have hP : va_P D classes [(h, .inr (11, [.ref rc, .ref d])), (o9, .inl (cJ, 1, .inr (.inl g9)))] s.heap := hP
  have hl := lv_entry ([.ref h, .int v, .ref o9]) (n := 4) (Nat.le_of_ble_eq_true rfl)
  rw [lg_entry_eq]
  generalize (lg_sl ([.ref h, .int v, .ref o9]) ++ List.replicate (4 - (lg_sl ([.ref h, .int v, .ref o9])).length) Slot.unset).toArray = ls at hl ⊢
  have hl : lv_has ls 4 [(0, .ref h), (1, .int v), (2, .ref o9)] := hl
  refine lv_aload_n hx hb d_Law_clock_0 rfl (lv_at hl 2 rfl) ?_
  refine lv_iconst (v := 0) hx hb d_Law_clock_1 (by decide) ?_
  refine lv_aload_n hx hb d_Law_clock_2 rfl (lv_at hl 0 rfl) ?_
  refine lv_iload_n hx hb d_Law_clock_3 rfl (lv_at hl 1 rfl) ?_
  have hPc := hP.sub (ws' := []) [] rfl
  have hKc := hK.sub (tys' := []) [] rfl
  have hDc := hD.sub (ws' := []) [] (by decide) rfl
  have hFc := va_free (wc := []) hD hS hA [] rfl
  refine z_callVTl (As := [.int v]) (rest := [.int 0, .ref o9]) ⟨hx, hb, hml, hown, hts⟩ (c_SS_clock_bad l D hfl B0 hG s.heap.size h v hbad) (z_cV hN wd_880 wd_59 wd_877 hd_SS_clock rfl rfl ⟨Nat.le_of_ble_eq_true rfl, Nat.le_of_ble_eq_true rfl⟩ wd_878 wd_879) (z_preVo (va_recv (ci := 11) (q0 := 0) hK hP rfl rfl) hPc hKc hN hDc hO hS hAO) rfl hl.1 rfl (lv_room (Nat.le_of_ble_eq_true rfl)) d_Law_clock_4 ⟨Nat.le_of_ble_eq_true rfl, Nat.le_of_ble_eq_true rfl⟩ hS (fun q _ h => hFc q h) hFc (fun r9 u9 t H locs ht hvm e4 hB hz1 hk1 hS => ?_) (fun X x H locs eX hcx hz1 hk1 hS => ?_)
  · exact absurd e4 (fun z => z)
  · subst eX
    have hP : va_P D classes [(h, .inr (11, [.ref rc, .ref d])), (o9, .inl (cJ, 1, .inr (.inl g9)))] H := z_Pkept hP hk1
    refine z_catch1h htab (by decide) (by decide) hown (hts _ wd_695) (hts _ wd_702) hcx ?_
    clear hcx hz1 hk1
    refine lv_astore_n (lv' := [(3, .ref x), (0, .ref h), (1, .int v), (2, .ref o9)]) hx hb d_Law_clock_11 rfl hl (by decide) rfl (fun ls hl => ?_)
    refine lv_iconst (v := 1) hx hb d_Law_clock_12 (by decide) ?_
    have hP9 := hP.sub (ws' := [(h, .inr (11, [.ref rc, .ref d])), (o9, .inl (cJ, 1, .inr (.inl g9)))]) [0, 1] rfl
    have hD9 := hD.sub (ws' := [(h, .inr (11, [.ref rc, .ref d])), (o9, .inl (cJ, 1, .inr (.inl g9)))]) [0, 1] (by decide) rfl
    have hK9 := hK.sub (tys' := [(cJ, .long)]) [0] rfl
    refine W.widen (k := 1) (n := 6) (by omega) (by omega) ?_
    exact W.iret (v := 1) hx hb hr (fun t ht hW => ⟨⟨_, (), rfl, rfl, ⟨by rw [ht]; exact hP9, va_K.moved hW.alike hK9, hD9⟩⟩, hS.F ht⟩) hS.2.2 d_Law_clock_13
set_option maxHeartbeats 4000000 in
set_option maxRecDepth 100000 in
theorem c_Law_plan_bad (l : Launch) (D : va_G) (hfl : l.stackTraces = false) (B0 : State) (hG : zG B0) (sz : Nat) (h : Nat) (i c : Int32) (cJ : ClassId) (o9 : Nat) (g9 : Nat → Int64) (rc d : Nat) (hbad : i < 1 ∨ 65535 < i ∨ c < 0 ∨ 8191 < c) : Met l y_Law_plan [Cond.codeWith y_Law_plan b_Law_plan 5 (some .int) [(0, 10, 13, 13)]] ({ frames := 7, cells := 1, slots := 6, locals := 104 }) (zMo [.ref h, .int i, .int c, .ref o9] D [(h, .inr (11, [.ref rc, .ref d])), (o9, .inl (cJ, 1, .inr (.inl g9)))] [(cJ, .long)] sz B0) (va_Qi (fun r0 (_ : Unit) => r0 = 1) (fun (_u : Unit) t => zW D (va_A [(h, .inr (11, [.ref rc, .ref d])), (o9, .inl (cJ, 1, .inr (.inl g9)))] sz) [(h, .inr (11, [.ref rc, .ref d])), (o9, .inl (cJ, 1, .inr (.inl g9)))] [(cJ, .long)] t) (va_A [(h, .inr (11, [.ref rc, .ref d])), (o9, .inl (cJ, 1, .inr (.inl g9)))] sz)) 1 6 (va_A [(h, .inr (11, [.ref rc, .ref d])), (o9, .inl (cJ, 1, .inr (.inl g9)))] sz) := by
  refine va_MetW (cc := b_Law_plan) (maxL := 5) (ret := (some .int)) (hh := [(0, 10, 13, 13)]) (by decide) rfl ?_
  intro p e s m args below meth cd s₁ Bd hml hv
  obtain ⟨rfl, hsz, hP, hK, hN, hD0, hO⟩ := hv
  have hx := Bd.exec
  have hb := Bd.bytes
  have hr := Bd.returns
  have hts := hN.use (a := ([.ref h, .int i, .int c, .ref o9]).toArray)
  have hown : s.vm.findClass R_Law = some m.cls := findClass_of_methodNamed Bd.named
  have hlocks := Bd.notSynchronized
  have htab := z_tab Bd
  subst hsz
  have hD := hD0.self (sz := s.heap.size)
  have hAO := z_AO hD0 hO
  clear hD0
  have hA : ∀ q : Nat, s.heap.size ≤ q → va_A [(h, .inr (11, [.ref rc, .ref d])), (o9, .inl (cJ, 1, .inr (.inl g9)))] s.heap.size q := fun q h => Or.inr h
  have hS : va_S (va_A [(h, .inr (11, [.ref rc, .ref d])), (o9, .inl (cJ, 1, .inr (.inl g9)))] s.heap.size) s.heap s.heap [] := va_S.rf
  generalize hAe : va_A [(h, .inr (11, [.ref rc, .ref d])), (o9, .inl (cJ, 1, .inr (.inl g9)))] s.heap.size = A at hD hA hS hAO ⊢
  have hP : va_P D classes [(h, .inr (11, [.ref rc, .ref d])), (o9, .inl (cJ, 1, .inr (.inl g9)))] s.heap := hP
  have hl := lv_entry ([.ref h, .int i, .int c, .ref o9]) (n := 5) (Nat.le_of_ble_eq_true rfl)
  rw [lg_entry_eq]
  generalize (lg_sl ([.ref h, .int i, .int c, .ref o9]) ++ List.replicate (5 - (lg_sl ([.ref h, .int i, .int c, .ref o9])).length) Slot.unset).toArray = ls at hl ⊢
  have hl : lv_has ls 5 [(0, .ref h), (1, .int i), (2, .int c), (3, .ref o9)] := hl
  refine lv_aload_n hx hb d_Law_plan_0 rfl (lv_at hl 3 rfl) ?_
  refine lv_iconst (v := 0) hx hb d_Law_plan_1 (by decide) ?_
  refine lv_aload_n hx hb d_Law_plan_2 rfl (lv_at hl 0 rfl) ?_
  refine lv_iload_n hx hb d_Law_plan_3 rfl (lv_at hl 1 rfl) ?_
  refine lv_iload_n hx hb d_Law_plan_4 rfl (lv_at hl 2 rfl) ?_
  have hPc := hP.sub (ws' := []) [] rfl
  have hKc := hK.sub (tys' := []) [] rfl
  have hDc := hD.sub (ws' := []) [] (by decide) rfl
  have hFc := va_free (wc := []) hD hS hA [] rfl
  refine z_callVTi (As := [.int i, .int c]) (rest := [.int 0, .ref o9]) ⟨hx, hb, hml, hown, hts⟩ (c_SS_plan_bad l D hfl B0 hG s.heap.size h i c hbad) (z_cV hN wd_892 wd_59 wd_889 hd_SS_plan rfl rfl ⟨Nat.le_of_ble_eq_true rfl, Nat.le_of_ble_eq_true rfl⟩ wd_890 wd_891) (z_preVo (va_recv (ci := 11) (q0 := 0) hK hP rfl rfl) hPc hKc hN hDc hO hS hAO) rfl hl.1 rfl (lv_room (Nat.le_of_ble_eq_true rfl)) d_Law_plan_5 ⟨Nat.le_of_ble_eq_true rfl, Nat.le_of_ble_eq_true rfl⟩ hS (fun q _ h => hFc q h) hFc (fun r9 u9 t H locs ht hvm e5 hB hz1 hk1 hS => ?_) (fun X x H locs eX hcx hz1 hk1 hS => ?_)
  · exact absurd e5 (fun z => z)
  · subst eX
    have hP : va_P D classes [(h, .inr (11, [.ref rc, .ref d])), (o9, .inl (cJ, 1, .inr (.inl g9)))] H := z_Pkept hP hk1
    refine z_catch1h htab (by decide) (by decide) hown (hts _ wd_695) (hts _ wd_702) hcx ?_
    clear hcx hz1 hk1
    refine lv_astore (lv' := [(4, .ref x), (0, .ref h), (1, .int i), (2, .int c), (3, .ref o9)]) hx hb d_Law_plan_13 hl (by decide) rfl (fun ls hl => ?_)
    refine lv_iconst (v := 1) hx hb d_Law_plan_15 (by decide) ?_
    have hP9 := hP.sub (ws' := [(h, .inr (11, [.ref rc, .ref d])), (o9, .inl (cJ, 1, .inr (.inl g9)))]) [0, 1] rfl
    have hD9 := hD.sub (ws' := [(h, .inr (11, [.ref rc, .ref d])), (o9, .inl (cJ, 1, .inr (.inl g9)))]) [0, 1] (by decide) rfl
    have hK9 := hK.sub (tys' := [(cJ, .long)]) [0] rfl
    refine W.widen (k := 1) (n := 6) (by omega) (by omega) ?_
    exact W.iret (v := 1) hx hb hr (fun t ht hW => ⟨⟨_, (), rfl, rfl, ⟨by rw [ht]; exact hP9, va_K.moved hW.alike hK9, hD9⟩⟩, hS.F ht⟩) hS.2.2 d_Law_plan_16
set_option maxHeartbeats 4000000 in
set_option maxRecDepth 100000 in
theorem c_Law_addStream_badB (l : Launch) (D : va_G) (hfl : l.stackTraces = false) (B0 : State) (hG : zG B0) (sz : Nat) (h : Nat) (rc d b : Nat) (mo : Int32) (k ty c : Int32) (cJ : ClassId) (o9 : Nat) (g9 : Nat → Int64)  : Met l y_Law_addStream [Cond.codeWith y_Law_addStream b_Law_addStream 6 (some .int) [(0, 12, 15, 19), (0, 12, 19, 13)]] ({ frames := 7, cells := 1, slots := 6, locals := 106 }) (zMo [.ref h, .int k, .int ty, .int c, .ref o9] D [(h, .inr (11, [.ref rc, .ref d])), (d, .inr (12, [.ref b, .int 0, .int mo])), (o9, .inl (cJ, 1, .inr (.inl g9)))] [(cJ, .long)] sz B0) (va_Qi (fun r0 (_ : Unit) => r0 = 1) (fun (_u : Unit) t => zW D (va_A [(h, .inr (11, [.ref rc, .ref d])), (d, .inr (12, [.ref b, .int 0, .int mo])), (o9, .inl (cJ, 1, .inr (.inl g9)))] sz) [(h, .inr (11, [.ref rc, .ref d])), (d, .inr (12, [.ref b, .int 0, .int mo])), (o9, .inl (cJ, 1, .inr (.inl g9)))] [(cJ, .long)] t) (va_A [(h, .inr (11, [.ref rc, .ref d])), (d, .inr (12, [.ref b, .int 0, .int mo])), (o9, .inl (cJ, 1, .inr (.inl g9)))] sz)) 1 6 (va_A [(h, .inr (11, [.ref rc, .ref d])), (d, .inr (12, [.ref b, .int 0, .int mo])), (o9, .inl (cJ, 1, .inr (.inl g9)))] sz) := by
  refine va_MetW (cc := b_Law_addStream) (maxL := 6) (ret := (some .int)) (hh := [(0, 12, 15, 19), (0, 12, 19, 13)]) (by decide) rfl ?_
  intro p e s m args below meth cd s₁ Bd hml hv
  obtain ⟨rfl, hsz, hP, hK, hN, hD0, hO⟩ := hv
  have hx := Bd.exec
  have hb := Bd.bytes
  have hr := Bd.returns
  have hts := hN.use (a := ([.ref h, .int k, .int ty, .int c, .ref o9]).toArray)
  have hown : s.vm.findClass R_Law = some m.cls := findClass_of_methodNamed Bd.named
  have hlocks := Bd.notSynchronized
  have htab := z_tab Bd
  subst hsz
  have hD := hD0.self (sz := s.heap.size)
  have hAO := z_AO hD0 hO
  clear hD0
  have hA : ∀ q : Nat, s.heap.size ≤ q → va_A [(h, .inr (11, [.ref rc, .ref d])), (d, .inr (12, [.ref b, .int 0, .int mo])), (o9, .inl (cJ, 1, .inr (.inl g9)))] s.heap.size q := fun q h => Or.inr h
  have hS : va_S (va_A [(h, .inr (11, [.ref rc, .ref d])), (d, .inr (12, [.ref b, .int 0, .int mo])), (o9, .inl (cJ, 1, .inr (.inl g9)))] s.heap.size) s.heap s.heap [] := va_S.rf
  generalize hAe : va_A [(h, .inr (11, [.ref rc, .ref d])), (d, .inr (12, [.ref b, .int 0, .int mo])), (o9, .inl (cJ, 1, .inr (.inl g9)))] s.heap.size = A at hD hA hS hAO ⊢
  have hP : va_P D classes [(h, .inr (11, [.ref rc, .ref d])), (d, .inr (12, [.ref b, .int 0, .int mo])), (o9, .inl (cJ, 1, .inr (.inl g9)))] s.heap := hP
  have hl := lv_entry ([.ref h, .int k, .int ty, .int c, .ref o9]) (n := 6) (Nat.le_of_ble_eq_true rfl)
  rw [lg_entry_eq]
  generalize (lg_sl ([.ref h, .int k, .int ty, .int c, .ref o9]) ++ List.replicate (6 - (lg_sl ([.ref h, .int k, .int ty, .int c, .ref o9])).length) Slot.unset).toArray = ls at hl ⊢
  have hl : lv_has ls 6 [(0, .ref h), (1, .int k), (2, .int ty), (3, .int c), (4, .ref o9)] := hl
  refine lv_aload hx hb d_Law_addStream_0 (lv_at hl 4 rfl) ?_
  refine lv_iconst (v := 0) hx hb d_Law_addStream_2 (by decide) ?_
  refine lv_aload_n hx hb d_Law_addStream_3 rfl (lv_at hl 0 rfl) ?_
  refine lv_iload_n hx hb d_Law_addStream_4 rfl (lv_at hl 1 rfl) ?_
  refine lv_iload_n hx hb d_Law_addStream_5 rfl (lv_at hl 2 rfl) ?_
  refine lv_iload_n hx hb d_Law_addStream_6 rfl (lv_at hl 3 rfl) ?_
  have hPc := hP.sub (ws' := [(h, .inr (11, [.ref rc, .ref d])), (d, .inr (12, [.ref b, .int 0, .int mo]))]) [0, 1] rfl
  have hKc := hK.sub (tys' := []) [] rfl
  have hDc := hD.sub (ws' := [(h, .inr (11, [.ref rc, .ref d])), (d, .inr (12, [.ref b, .int 0, .int mo]))]) [0, 1] (by decide) rfl
  have hFc := va_free (wc := [(h, .inr (11, [.ref rc, .ref d])), (d, .inr (12, [.ref b, .int 0, .int mo]))]) hD hS hA [0, 1] rfl
  refine z_callVTi (As := [.int k, .int ty, .int c]) (rest := [.int 0, .ref o9]) ⟨hx, hb, hml, hown, hts⟩ (c_SS_addStream_badB l D hfl B0 hG s.heap.size h rc d b mo k ty c ) (z_cV hN wd_925 wd_59 wd_922 hd_SS_addStream rfl rfl ⟨Nat.le_of_ble_eq_true rfl, Nat.le_of_ble_eq_true rfl⟩ wd_923 wd_924) (z_preVo (va_recv (ci := 11) (q0 := 0) hK hP rfl rfl) hPc hKc hN hDc hO hS hAO) rfl hl.1 rfl (lv_room (Nat.le_of_ble_eq_true rfl)) d_Law_addStream_7 ⟨Nat.le_of_ble_eq_true rfl, Nat.le_of_ble_eq_true rfl⟩ hS (fun q _ h => hFc q h) hFc (fun r9 u9 t H locs ht hvm e7 hB hz1 hk1 hS => ?_) (fun X x H locs eX hcx hz1 hk1 hS => ?_)
  · exact absurd e7 (fun z => z)
  · subst eX
    have hP : va_P D classes [(h, .inr (11, [.ref rc, .ref d])), (d, .inr (12, [.ref b, .int 0, .int mo])), (o9, .inl (cJ, 1, .inr (.inl g9)))] H := z_Pkept hP hk1
    refine z_catch1h htab (by decide) (by decide) hown (hts _ wd_770) (hts _ wd_777) hcx ?_
    clear hcx hz1 hk1
    refine lv_astore (lv' := [(5, .ref x), (0, .ref h), (1, .int k), (2, .int ty), (3, .int c), (4, .ref o9)]) hx hb d_Law_addStream_15 hl (by decide) rfl (fun ls hl => ?_)
    refine lv_iconst (v := 1) hx hb d_Law_addStream_17 (by decide) ?_
    have hP9 := hP.sub (ws' := [(h, .inr (11, [.ref rc, .ref d])), (d, .inr (12, [.ref b, .int 0, .int mo])), (o9, .inl (cJ, 1, .inr (.inl g9)))]) [0, 1, 2] rfl
    have hD9 := hD.sub (ws' := [(h, .inr (11, [.ref rc, .ref d])), (d, .inr (12, [.ref b, .int 0, .int mo])), (o9, .inl (cJ, 1, .inr (.inl g9)))]) [0, 1, 2] (by decide) rfl
    have hK9 := hK.sub (tys' := [(cJ, .long)]) [0] rfl
    refine W.widen (k := 1) (n := 6) (by omega) (by omega) ?_
    exact W.iret (v := 1) hx hb hr (fun t ht hW => ⟨⟨_, (), rfl, rfl, ⟨by rw [ht]; exact hP9, va_K.moved hW.alike hK9, hD9⟩⟩, hS.F ht⟩) hS.2.2 d_Law_addStream_18
set_option maxHeartbeats 4000000 in
set_option maxRecDepth 100000 in
theorem c_Law_writeTables_bad (l : Launch) (D : va_G) (hfl : l.stackTraces = false) (B0 : State) (hG : zG B0) (sz : Nat) (h : Nat) (w : Int32) (cJ : ClassId) (o9 : Nat) (g9 : Nat → Int64) (rc d : Nat) (hbad : w < 0 ∨ 31 < w) : Met l y_Law_writeTables [Cond.codeWith y_Law_writeTables b_Law_writeTables 4 (some .int) [(0, 9, 12, 13)]] ({ frames := 7, cells := 1, slots := 6, locals := 105 }) (zMo [.ref h, .int w, .ref o9] D [(h, .inr (11, [.ref rc, .ref d])), (o9, .inl (cJ, 1, .inr (.inl g9)))] [(cJ, .long)] sz B0) (va_Qi (fun r0 (_ : Unit) => r0 = 1) (fun (_u : Unit) t => zW D (va_A [(h, .inr (11, [.ref rc, .ref d])), (o9, .inl (cJ, 1, .inr (.inl g9)))] sz) [(h, .inr (11, [.ref rc, .ref d])), (o9, .inl (cJ, 1, .inr (.inl g9)))] [(cJ, .long)] t) (va_A [(h, .inr (11, [.ref rc, .ref d])), (o9, .inl (cJ, 1, .inr (.inl g9)))] sz)) 1 6 (va_A [(h, .inr (11, [.ref rc, .ref d])), (o9, .inl (cJ, 1, .inr (.inl g9)))] sz) := by
  refine va_MetW (cc := b_Law_writeTables) (maxL := 4) (ret := (some .int)) (hh := [(0, 9, 12, 13)]) (by decide) rfl ?_
  intro p e s m args below meth cd s₁ Bd hml hv
  obtain ⟨rfl, hsz, hP, hK, hN, hD0, hO⟩ := hv
  have hx := Bd.exec
  have hb := Bd.bytes
  have hr := Bd.returns
  have hts := hN.use (a := ([.ref h, .int w, .ref o9]).toArray)
  have hown : s.vm.findClass R_Law = some m.cls := findClass_of_methodNamed Bd.named
  have hlocks := Bd.notSynchronized
  have htab := z_tab Bd
  subst hsz
  have hD := hD0.self (sz := s.heap.size)
  have hAO := z_AO hD0 hO
  clear hD0
  have hA : ∀ q : Nat, s.heap.size ≤ q → va_A [(h, .inr (11, [.ref rc, .ref d])), (o9, .inl (cJ, 1, .inr (.inl g9)))] s.heap.size q := fun q h => Or.inr h
  have hS : va_S (va_A [(h, .inr (11, [.ref rc, .ref d])), (o9, .inl (cJ, 1, .inr (.inl g9)))] s.heap.size) s.heap s.heap [] := va_S.rf
  generalize hAe : va_A [(h, .inr (11, [.ref rc, .ref d])), (o9, .inl (cJ, 1, .inr (.inl g9)))] s.heap.size = A at hD hA hS hAO ⊢
  have hP : va_P D classes [(h, .inr (11, [.ref rc, .ref d])), (o9, .inl (cJ, 1, .inr (.inl g9)))] s.heap := hP
  have hl := lv_entry ([.ref h, .int w, .ref o9]) (n := 4) (Nat.le_of_ble_eq_true rfl)
  rw [lg_entry_eq]
  generalize (lg_sl ([.ref h, .int w, .ref o9]) ++ List.replicate (4 - (lg_sl ([.ref h, .int w, .ref o9])).length) Slot.unset).toArray = ls at hl ⊢
  have hl : lv_has ls 4 [(0, .ref h), (1, .int w), (2, .ref o9)] := hl
  refine lv_aload_n hx hb d_Law_writeTables_0 rfl (lv_at hl 2 rfl) ?_
  refine lv_iconst (v := 0) hx hb d_Law_writeTables_1 (by decide) ?_
  refine lv_aload_n hx hb d_Law_writeTables_2 rfl (lv_at hl 0 rfl) ?_
  refine lv_iload_n hx hb d_Law_writeTables_3 rfl (lv_at hl 1 rfl) ?_
  have hPc := hP.sub (ws' := []) [] rfl
  have hKc := hK.sub (tys' := []) [] rfl
  have hDc := hD.sub (ws' := []) [] (by decide) rfl
  have hFc := va_free (wc := []) hD hS hA [] rfl
  refine z_callVTi (As := [.int w]) (rest := [.int 0, .ref o9]) ⟨hx, hb, hml, hown, hts⟩ (c_SS_writeTables_bad l D hfl B0 hG s.heap.size h w hbad) (z_cV hN wd_935 wd_59 wd_932 hd_SS_writeTables rfl rfl ⟨Nat.le_of_ble_eq_true rfl, Nat.le_of_ble_eq_true rfl⟩ wd_933 wd_934) (z_preVo (va_recv (ci := 11) (q0 := 0) hK hP rfl rfl) hPc hKc hN hDc hO hS hAO) rfl hl.1 rfl (lv_room (Nat.le_of_ble_eq_true rfl)) d_Law_writeTables_4 ⟨Nat.le_of_ble_eq_true rfl, Nat.le_of_ble_eq_true rfl⟩ hS (fun q _ h => hFc q h) hFc (fun r9 u9 t H locs ht hvm e4 hB hz1 hk1 hS => ?_) (fun X x H locs eX hcx hz1 hk1 hS => ?_)
  · exact absurd e4 (fun z => z)
  · subst eX
    have hP : va_P D classes [(h, .inr (11, [.ref rc, .ref d])), (o9, .inl (cJ, 1, .inr (.inl g9)))] H := z_Pkept hP hk1
    refine z_catch1h htab (by decide) (by decide) hown (hts _ wd_695) (hts _ wd_702) hcx ?_
    clear hcx hz1 hk1
    refine lv_astore_n (lv' := [(3, .ref x), (0, .ref h), (1, .int w), (2, .ref o9)]) hx hb d_Law_writeTables_12 rfl hl (by decide) rfl (fun ls hl => ?_)
    refine lv_iconst (v := 1) hx hb d_Law_writeTables_13 (by decide) ?_
    have hP9 := hP.sub (ws' := [(h, .inr (11, [.ref rc, .ref d])), (o9, .inl (cJ, 1, .inr (.inl g9)))]) [0, 1] rfl
    have hD9 := hD.sub (ws' := [(h, .inr (11, [.ref rc, .ref d])), (o9, .inl (cJ, 1, .inr (.inl g9)))]) [0, 1] (by decide) rfl
    have hK9 := hK.sub (tys' := [(cJ, .long)]) [0] rfl
    refine W.widen (k := 1) (n := 6) (by omega) (by omega) ?_
    exact W.iret (v := 1) hx hb hr (fun t ht hW => ⟨⟨_, (), rfl, rfl, ⟨by rw [ht]; exact hP9, va_K.moved hW.alike hK9, hD9⟩⟩, hS.F ht⟩) hS.2.2 d_Law_writeTables_14
set_option maxHeartbeats 4000000 in
set_option maxRecDepth 100000 in
theorem c_Law_writePiece_bad (l : Launch) (D : va_G) (hfl : l.stackTraces = false) (B0 : State) (hG : zG B0) (sz : Nat) (h : Nat) (i : Int32) (t0 : Int64) (c sd fl : Int32) (cJ : ClassId) (o9 : Nat) (g9 : Nat → Int64) (rc d : Nat) (hbad : i < 0 ∨ 2097151 < i ∨ c < 0 ∨ 4000 < c ∨ 8589934592 ≤ t0) : Met l y_Law_writePiece [Cond.codeWith y_Law_writePiece b_Law_writePiece 9 (some .int) [(0, 17, 20, 13)]] ({ frames := 7, cells := 1, slots := 6, locals := 110 }) (zMo [.ref h, .int i, .long t0, .int c, .int sd, .int fl, .ref o9] D [(h, .inr (11, [.ref rc, .ref d])), (o9, .inl (cJ, 1, .inr (.inl g9)))] [(cJ, .long)] sz B0) (va_Qi (fun r0 (_ : Unit) => r0 = 1) (fun (_u : Unit) t => zW D (va_A [(h, .inr (11, [.ref rc, .ref d])), (o9, .inl (cJ, 1, .inr (.inl g9)))] sz) [(h, .inr (11, [.ref rc, .ref d])), (o9, .inl (cJ, 1, .inr (.inl g9)))] [(cJ, .long)] t) (va_A [(h, .inr (11, [.ref rc, .ref d])), (o9, .inl (cJ, 1, .inr (.inl g9)))] sz)) 1 6 (va_A [(h, .inr (11, [.ref rc, .ref d])), (o9, .inl (cJ, 1, .inr (.inl g9)))] sz) := by
  refine va_MetW (cc := b_Law_writePiece) (maxL := 9) (ret := (some .int)) (hh := [(0, 17, 20, 13)]) (by decide) rfl ?_
  intro p e s m args below meth cd s₁ Bd hml hv
  obtain ⟨rfl, hsz, hP, hK, hN, hD0, hO⟩ := hv
  have hx := Bd.exec
  have hb := Bd.bytes
  have hr := Bd.returns
  have hts := hN.use (a := ([.ref h, .int i, .long t0, .int c, .int sd, .int fl, .ref o9]).toArray)
  have hown : s.vm.findClass R_Law = some m.cls := findClass_of_methodNamed Bd.named
  have hlocks := Bd.notSynchronized
  have htab := z_tab Bd
  subst hsz
  have hD := hD0.self (sz := s.heap.size)
  have hAO := z_AO hD0 hO
  clear hD0
  have hA : ∀ q : Nat, s.heap.size ≤ q → va_A [(h, .inr (11, [.ref rc, .ref d])), (o9, .inl (cJ, 1, .inr (.inl g9)))] s.heap.size q := fun q h => Or.inr h
  have hS : va_S (va_A [(h, .inr (11, [.ref rc, .ref d])), (o9, .inl (cJ, 1, .inr (.inl g9)))] s.heap.size) s.heap s.heap [] := va_S.rf
  generalize hAe : va_A [(h, .inr (11, [.ref rc, .ref d])), (o9, .inl (cJ, 1, .inr (.inl g9)))] s.heap.size = A at hD hA hS hAO ⊢
  have hP : va_P D classes [(h, .inr (11, [.ref rc, .ref d])), (o9, .inl (cJ, 1, .inr (.inl g9)))] s.heap := hP
  have hl := lv_entry ([.ref h, .int i, .long t0, .int c, .int sd, .int fl, .ref o9]) (n := 9) (Nat.le_of_ble_eq_true rfl)
  rw [lg_entry_eq]
  generalize (lg_sl ([.ref h, .int i, .long t0, .int c, .int sd, .int fl, .ref o9]) ++ List.replicate (9 - (lg_sl ([.ref h, .int i, .long t0, .int c, .int sd, .int fl, .ref o9])).length) Slot.unset).toArray = ls at hl ⊢
  have hl : lv_has ls 9 [(0, .ref h), (1, .int i), (2, .long t0), (4, .int c), (5, .int sd), (6, .int fl), (7, .ref o9)] := hl
  refine lv_aload hx hb d_Law_writePiece_0 (lv_at hl 6 rfl) ?_
  refine lv_iconst (v := 0) hx hb d_Law_writePiece_2 (by decide) ?_
  refine lv_aload_n hx hb d_Law_writePiece_3 rfl (lv_at hl 0 rfl) ?_
  refine lv_iload_n hx hb d_Law_writePiece_4 rfl (lv_at hl 1 rfl) ?_
  refine lv_lload_n hx hb d_Law_writePiece_5 rfl (lv_at hl 2 rfl) ?_
  refine lv_iload hx hb d_Law_writePiece_6 (lv_at hl 3 rfl) ?_
  refine lv_iload hx hb d_Law_writePiece_8 (lv_at hl 4 rfl) ?_
  refine lv_iload hx hb d_Law_writePiece_10 (lv_at hl 5 rfl) ?_
  have hPc := hP.sub (ws' := []) [] rfl
  have hKc := hK.sub (tys' := []) [] rfl
  have hDc := hD.sub (ws' := []) [] (by decide) rfl
  have hFc := va_free (wc := []) hD hS hA [] rfl
  refine z_callVTi (As := [.int i, .long t0, .int c, .int sd, .int fl]) (rest := [.int 0, .ref o9]) ⟨hx, hb, hml, hown, hts⟩ (c_SS_writePiece_bad l D hfl B0 hG s.heap.size h i t0 c sd fl hbad) (z_cV hN wd_1036 wd_59 wd_1033 hd_SS_writePiece rfl rfl ⟨Nat.le_of_ble_eq_true rfl, Nat.le_of_ble_eq_true rfl⟩ wd_1034 wd_1035) (z_preVo (va_recv (ci := 11) (q0 := 0) hK hP rfl rfl) hPc hKc hN hDc hO hS hAO) rfl hl.1 rfl (lv_room (Nat.le_of_ble_eq_true rfl)) d_Law_writePiece_12 ⟨Nat.le_of_ble_eq_true rfl, Nat.le_of_ble_eq_true rfl⟩ hS (fun q _ h => hFc q h) hFc (fun r9 u9 t H locs ht hvm e12 hB hz1 hk1 hS => ?_) (fun X x H locs eX hcx hz1 hk1 hS => ?_)
  · exact absurd e12 (fun z => z)
  · subst eX
    have hP : va_P D classes [(h, .inr (11, [.ref rc, .ref d])), (o9, .inl (cJ, 1, .inr (.inl g9)))] H := z_Pkept hP hk1
    refine z_catch1h htab (by decide) (by decide) hown (hts _ wd_695) (hts _ wd_702) hcx ?_
    clear hcx hz1 hk1
    refine lv_astore (lv' := [(8, .ref x), (0, .ref h), (1, .int i), (2, .long t0), (4, .int c), (5, .int sd), (6, .int fl), (7, .ref o9)]) hx hb d_Law_writePiece_20 hl (by decide) rfl (fun ls hl => ?_)
    refine lv_iconst (v := 1) hx hb d_Law_writePiece_22 (by decide) ?_
    have hP9 := hP.sub (ws' := [(h, .inr (11, [.ref rc, .ref d])), (o9, .inl (cJ, 1, .inr (.inl g9)))]) [0, 1] rfl
    have hD9 := hD.sub (ws' := [(h, .inr (11, [.ref rc, .ref d])), (o9, .inl (cJ, 1, .inr (.inl g9)))]) [0, 1] (by decide) rfl
    have hK9 := hK.sub (tys' := [(cJ, .long)]) [0] rfl
    refine W.widen (k := 1) (n := 6) (by omega) (by omega) ?_
    exact W.iret (v := 1) hx hb hr (fun t ht hW => ⟨⟨_, (), rfl, rfl, ⟨by rw [ht]; exact hP9, va_K.moved hW.alike hK9, hD9⟩⟩, hS.F ht⟩) hS.2.2 d_Law_writePiece_23
set_option maxHeartbeats 4000000 in
set_option maxRecDepth 100000 in
theorem c_Law_writeOrder_bad (l : Launch) (D : va_G) (hfl : l.stackTraces = false) (B0 : State) (hG : zG B0) (sz : Nat) (h : Nat) (i nm how : Int32) (t0 ln : Int64) (cJ : ClassId) (o9 : Nat) (g9 : Nat → Int64) (rc d : Nat) (hbad : i < 0 ∨ 8191 < i ∨ how < 0 ∨ 63 < how ∨ t0 < 0 ∨ 8589934592 ≤ t0 ∨ ln < 0) : Met l y_Law_writeOrder [Cond.codeWith y_Law_writeOrder b_Law_writeOrder 10 (some .int) [(0, 16, 19, 13)]] ({ frames := 7, cells := 1, slots := 6, locals := 110 }) (zMo [.ref h, .int i, .int nm, .int how, .long t0, .long ln, .ref o9] D [(h, .inr (11, [.ref rc, .ref d])), (o9, .inl (cJ, 1, .inr (.inl g9)))] [(cJ, .long)] sz B0) (va_Qi (fun r0 (_ : Unit) => r0 = 1) (fun (_u : Unit) t => zW D (va_A [(h, .inr (11, [.ref rc, .ref d])), (o9, .inl (cJ, 1, .inr (.inl g9)))] sz) [(h, .inr (11, [.ref rc, .ref d])), (o9, .inl (cJ, 1, .inr (.inl g9)))] [(cJ, .long)] t) (va_A [(h, .inr (11, [.ref rc, .ref d])), (o9, .inl (cJ, 1, .inr (.inl g9)))] sz)) 1 6 (va_A [(h, .inr (11, [.ref rc, .ref d])), (o9, .inl (cJ, 1, .inr (.inl g9)))] sz) := by
  refine va_MetW (cc := b_Law_writeOrder) (maxL := 10) (ret := (some .int)) (hh := [(0, 16, 19, 13)]) (by decide) rfl ?_
  intro p e s m args below meth cd s₁ Bd hml hv
  obtain ⟨rfl, hsz, hP, hK, hN, hD0, hO⟩ := hv
  have hx := Bd.exec
  have hb := Bd.bytes
  have hr := Bd.returns
  have hts := hN.use (a := ([.ref h, .int i, .int nm, .int how, .long t0, .long ln, .ref o9]).toArray)
  have hown : s.vm.findClass R_Law = some m.cls := findClass_of_methodNamed Bd.named
  have hlocks := Bd.notSynchronized
  have htab := z_tab Bd
  subst hsz
  have hD := hD0.self (sz := s.heap.size)
  have hAO := z_AO hD0 hO
  clear hD0
  have hA : ∀ q : Nat, s.heap.size ≤ q → va_A [(h, .inr (11, [.ref rc, .ref d])), (o9, .inl (cJ, 1, .inr (.inl g9)))] s.heap.size q := fun q h => Or.inr h
  have hS : va_S (va_A [(h, .inr (11, [.ref rc, .ref d])), (o9, .inl (cJ, 1, .inr (.inl g9)))] s.heap.size) s.heap s.heap [] := va_S.rf
  generalize hAe : va_A [(h, .inr (11, [.ref rc, .ref d])), (o9, .inl (cJ, 1, .inr (.inl g9)))] s.heap.size = A at hD hA hS hAO ⊢
  have hP : va_P D classes [(h, .inr (11, [.ref rc, .ref d])), (o9, .inl (cJ, 1, .inr (.inl g9)))] s.heap := hP
  have hl := lv_entry ([.ref h, .int i, .int nm, .int how, .long t0, .long ln, .ref o9]) (n := 10) (Nat.le_of_ble_eq_true rfl)
  rw [lg_entry_eq]
  generalize (lg_sl ([.ref h, .int i, .int nm, .int how, .long t0, .long ln, .ref o9]) ++ List.replicate (10 - (lg_sl ([.ref h, .int i, .int nm, .int how, .long t0, .long ln, .ref o9])).length) Slot.unset).toArray = ls at hl ⊢
  have hl : lv_has ls 10 [(0, .ref h), (1, .int i), (2, .int nm), (3, .int how), (4, .long t0), (6, .long ln), (8, .ref o9)] := hl
  refine lv_aload hx hb d_Law_writeOrder_0 (lv_at hl 6 rfl) ?_
  refine lv_iconst (v := 0) hx hb d_Law_writeOrder_2 (by decide) ?_
  refine lv_aload_n hx hb d_Law_writeOrder_3 rfl (lv_at hl 0 rfl) ?_
  refine lv_iload_n hx hb d_Law_writeOrder_4 rfl (lv_at hl 1 rfl) ?_
  refine lv_iload_n hx hb d_Law_writeOrder_5 rfl (lv_at hl 2 rfl) ?_
  refine lv_iload_n hx hb d_Law_writeOrder_6 rfl (lv_at hl 3 rfl) ?_
  refine lv_lload hx hb d_Law_writeOrder_7 (lv_at hl 4 rfl) ?_
  refine lv_lload hx hb d_Law_writeOrder_9 (lv_at hl 5 rfl) ?_
  have hPc := hP.sub (ws' := []) [] rfl
  have hKc := hK.sub (tys' := []) [] rfl
  have hDc := hD.sub (ws' := []) [] (by decide) rfl
  have hFc := va_free (wc := []) hD hS hA [] rfl
  refine z_callVTi (As := [.int i, .int nm, .int how, .long t0, .long ln]) (rest := [.int 0, .ref o9]) ⟨hx, hb, hml, hown, hts⟩ (c_SS_writeOrder_bad l D hfl B0 hG s.heap.size h i nm how t0 ln hbad) (z_cV hN wd_1059 wd_59 wd_1056 hd_SS_writeOrder rfl rfl ⟨Nat.le_of_ble_eq_true rfl, Nat.le_of_ble_eq_true rfl⟩ wd_1057 wd_1058) (z_preVo (va_recv (ci := 11) (q0 := 0) hK hP rfl rfl) hPc hKc hN hDc hO hS hAO) rfl hl.1 rfl (lv_room (Nat.le_of_ble_eq_true rfl)) d_Law_writeOrder_11 ⟨Nat.le_of_ble_eq_true rfl, Nat.le_of_ble_eq_true rfl⟩ hS (fun q _ h => hFc q h) hFc (fun r9 u9 t H locs ht hvm e11 hB hz1 hk1 hS => ?_) (fun X x H locs eX hcx hz1 hk1 hS => ?_)
  · exact absurd e11 (fun z => z)
  · subst eX
    have hP : va_P D classes [(h, .inr (11, [.ref rc, .ref d])), (o9, .inl (cJ, 1, .inr (.inl g9)))] H := z_Pkept hP hk1
    refine z_catch1h htab (by decide) (by decide) hown (hts _ wd_695) (hts _ wd_702) hcx ?_
    clear hcx hz1 hk1
    refine lv_astore (lv' := [(9, .ref x), (0, .ref h), (1, .int i), (2, .int nm), (3, .int how), (4, .long t0), (6, .long ln), (8, .ref o9)]) hx hb d_Law_writeOrder_19 hl (by decide) rfl (fun ls hl => ?_)
    refine lv_iconst (v := 1) hx hb d_Law_writeOrder_21 (by decide) ?_
    have hP9 := hP.sub (ws' := [(h, .inr (11, [.ref rc, .ref d])), (o9, .inl (cJ, 1, .inr (.inl g9)))]) [0, 1] rfl
    have hD9 := hD.sub (ws' := [(h, .inr (11, [.ref rc, .ref d])), (o9, .inl (cJ, 1, .inr (.inl g9)))]) [0, 1] (by decide) rfl
    have hK9 := hK.sub (tys' := [(cJ, .long)]) [0] rfl
    refine W.widen (k := 1) (n := 6) (by omega) (by omega) ?_
    exact W.iret (v := 1) hx hb hr (fun t ht hW => ⟨⟨_, (), rfl, rfl, ⟨by rw [ht]; exact hP9, va_K.moved hW.alike hK9, hD9⟩⟩, hS.F ht⟩) hS.2.2 d_Law_writeOrder_22
set_option maxHeartbeats 4000000 in
set_option maxRecDepth 100000 in
theorem c_Law_told_ok (l : Launch) (D : va_G) (hfl : l.stackTraces = false) (B0 : State) (hG : zG B0) (sz : Nat) (cI : ClassId) (h rc d tp ln tb ct dp a pr b : Nat) (sz9 lv np mo : Int32) (cn : Nat → Int32) (k : Nat) (cJ : ClassId) (o9 : Nat) (g9 : Nat → Int64) (hk : k ≤ 11) : Met l y_Law_told [Cond.codeWith y_Law_told b_Law_told 4 (some .int) [(0, 9, 12, 13)]] ({ frames := 2, cells := 1, slots := 6, locals := 41 }) (zMo [.ref h, .int (nI k), .ref o9] D [(h, .inr (11, [.ref rc, .ref d])), (rc, .inr (4, [.ref tp, .ref ln, .ref tb, .ref ct, .ref dp])), (tp, .inr (0, [.ref a, .int sz9])), (tb, .inr (8, [.int lv, .ref pr])), (pr, .inr (12, [.ref b, .int np, .int mo])), (ct, .inl (cI, 10, .inl cn)), (o9, .inl (cJ, 1, .inr (.inl g9)))] [(cI, .int), (cJ, .long)] sz B0) (va_Qi (fun r0 (u : (Unit) × Int32) => r0 = 0 ∧ (fun r0 (_ : Unit) => r0 = if k = 0 then sz9 else if k = 10 then lv else if k = 11 then np else cn k) u.2 u.1) (fun (u : (Unit) × Int32) t => zW D (va_A [(h, .inr (11, [.ref rc, .ref d])), (rc, .inr (4, [.ref tp, .ref ln, .ref tb, .ref ct, .ref dp])), (tp, .inr (0, [.ref a, .int sz9])), (tb, .inr (8, [.int lv, .ref pr])), (pr, .inr (12, [.ref b, .int np, .int mo])), (ct, .inl (cI, 10, .inl cn)), (o9, .inl (cJ, 1, .inr (.inl g9)))] sz) [(h, .inr (11, [.ref rc, .ref d])), (rc, .inr (4, [.ref tp, .ref ln, .ref tb, .ref ct, .ref dp])), (tp, .inr (0, [.ref a, .int sz9])), (tb, .inr (8, [.int lv, .ref pr])), (pr, .inr (12, [.ref b, .int np, .int mo])), (ct, .inl (cI, 10, .inl cn)), (o9, .inl (cJ, 1, .inr (.inl (vp_updL g9 0 u.2.toInt64))))] [(cI, .int), (cJ, .long)] t) (va_A [(h, .inr (11, [.ref rc, .ref d])), (rc, .inr (4, [.ref tp, .ref ln, .ref tb, .ref ct, .ref dp])), (tp, .inr (0, [.ref a, .int sz9])), (tb, .inr (8, [.int lv, .ref pr])), (pr, .inr (12, [.ref b, .int np, .int mo])), (ct, .inl (cI, 10, .inl cn)), (o9, .inl (cJ, 1, .inr (.inl g9)))] sz)) 1 6 (va_A [(h, .inr (11, [.ref rc, .ref d])), (rc, .inr (4, [.ref tp, .ref ln, .ref tb, .ref ct, .ref dp])), (tp, .inr (0, [.ref a, .int sz9])), (tb, .inr (8, [.int lv, .ref pr])), (pr, .inr (12, [.ref b, .int np, .int mo])), (ct, .inl (cI, 10, .inl cn)), (o9, .inl (cJ, 1, .inr (.inl g9)))] sz) := by
  refine va_MetW (cc := b_Law_told) (maxL := 4) (ret := (some .int)) (hh := [(0, 9, 12, 13)]) (by decide) rfl ?_
  intro p e s m args below meth cd s₁ Bd hml hv
  obtain ⟨rfl, hsz, hP, hK, hN, hD0, hO⟩ := hv
  have hx := Bd.exec
  have hb := Bd.bytes
  have hr := Bd.returns
  have hts := hN.use (a := ([.ref h, .int (nI k), .ref o9]).toArray)
  have hown : s.vm.findClass R_Law = some m.cls := findClass_of_methodNamed Bd.named
  have hlocks := Bd.notSynchronized
  have htab := z_tab Bd
  subst hsz
  have hD := hD0.self (sz := s.heap.size)
  have hAO := z_AO hD0 hO
  clear hD0
  have hA : ∀ q : Nat, s.heap.size ≤ q → va_A [(h, .inr (11, [.ref rc, .ref d])), (rc, .inr (4, [.ref tp, .ref ln, .ref tb, .ref ct, .ref dp])), (tp, .inr (0, [.ref a, .int sz9])), (tb, .inr (8, [.int lv, .ref pr])), (pr, .inr (12, [.ref b, .int np, .int mo])), (ct, .inl (cI, 10, .inl cn)), (o9, .inl (cJ, 1, .inr (.inl g9)))] s.heap.size q := fun q h => Or.inr h
  have hS : va_S (va_A [(h, .inr (11, [.ref rc, .ref d])), (rc, .inr (4, [.ref tp, .ref ln, .ref tb, .ref ct, .ref dp])), (tp, .inr (0, [.ref a, .int sz9])), (tb, .inr (8, [.int lv, .ref pr])), (pr, .inr (12, [.ref b, .int np, .int mo])), (ct, .inl (cI, 10, .inl cn)), (o9, .inl (cJ, 1, .inr (.inl g9)))] s.heap.size) s.heap s.heap [] := va_S.rf
  generalize hAe : va_A [(h, .inr (11, [.ref rc, .ref d])), (rc, .inr (4, [.ref tp, .ref ln, .ref tb, .ref ct, .ref dp])), (tp, .inr (0, [.ref a, .int sz9])), (tb, .inr (8, [.int lv, .ref pr])), (pr, .inr (12, [.ref b, .int np, .int mo])), (ct, .inl (cI, 10, .inl cn)), (o9, .inl (cJ, 1, .inr (.inl g9)))] s.heap.size = A at hD hA hS hAO ⊢
  have hP : va_P D classes [(h, .inr (11, [.ref rc, .ref d])), (rc, .inr (4, [.ref tp, .ref ln, .ref tb, .ref ct, .ref dp])), (tp, .inr (0, [.ref a, .int sz9])), (tb, .inr (8, [.int lv, .ref pr])), (pr, .inr (12, [.ref b, .int np, .int mo])), (ct, .inl (cI, 10, .inl cn)), (o9, .inl (cJ, 1, .inr (.inl g9)))] s.heap := hP
  have hl := lv_entry ([.ref h, .int (nI k), .ref o9]) (n := 4) (Nat.le_of_ble_eq_true rfl)
  rw [lg_entry_eq]
  generalize (lg_sl ([.ref h, .int (nI k), .ref o9]) ++ List.replicate (4 - (lg_sl ([.ref h, .int (nI k), .ref o9])).length) Slot.unset).toArray = ls at hl ⊢
  have hl : lv_has ls 4 [(0, .ref h), (1, .int (nI k)), (2, .ref o9)] := hl
  refine lv_aload_n hx hb d_Law_told_0 rfl (lv_at hl 2 rfl) ?_
  refine lv_iconst (v := 0) hx hb d_Law_told_1 (by decide) ?_
  refine lv_aload_n hx hb d_Law_told_2 rfl (lv_at hl 0 rfl) ?_
  refine lv_iload_n hx hb d_Law_told_3 rfl (lv_at hl 1 rfl) ?_
  have hPc := hP.sub (ws' := [(h, .inr (11, [.ref rc, .ref d])), (rc, .inr (4, [.ref tp, .ref ln, .ref tb, .ref ct, .ref dp])), (tp, .inr (0, [.ref a, .int sz9])), (tb, .inr (8, [.int lv, .ref pr])), (pr, .inr (12, [.ref b, .int np, .int mo])), (ct, .inl (cI, 10, .inl cn))]) [0, 1, 2, 3, 4, 5] rfl
  have hKc := hK.sub (tys' := [(cI, .int)]) [0] rfl
  have hDc := hD.sub (ws' := [(h, .inr (11, [.ref rc, .ref d])), (rc, .inr (4, [.ref tp, .ref ln, .ref tb, .ref ct, .ref dp])), (tp, .inr (0, [.ref a, .int sz9])), (tb, .inr (8, [.int lv, .ref pr])), (pr, .inr (12, [.ref b, .int np, .int mo])), (ct, .inl (cI, 10, .inl cn))]) [0, 1, 2, 3, 4, 5] (by decide) rfl
  have hFc := va_free (wc := [(h, .inr (11, [.ref rc, .ref d])), (rc, .inr (4, [.ref tp, .ref ln, .ref tb, .ref ct, .ref dp])), (tp, .inr (0, [.ref a, .int sz9])), (tb, .inr (8, [.int lv, .ref pr])), (pr, .inr (12, [.ref b, .int np, .int mo])), (ct, .inl (cI, 10, .inl cn))]) hD hS hA [0, 1, 2, 3, 4, 5] rfl
  refine z_callVTi (As := [.int (nI k)]) (rest := [.int 0, .ref o9]) ⟨hx, hb, hml, hown, hts⟩ (c_SS_told_ok l D hfl B0 hG s.heap.size cI h rc d tp ln tb ct dp a pr b sz9 lv np mo cn k hk) (z_cV hN wd_818 wd_59 wd_815 hd_SS_told rfl rfl ⟨Nat.le_of_ble_eq_true rfl, Nat.le_of_ble_eq_true rfl⟩ wd_816 wd_817) (z_preVo (va_recv (ci := 11) (q0 := 0) hK hP rfl rfl) hPc hKc hN hDc hO hS hAO) rfl hl.1 rfl (lv_room (Nat.le_of_ble_eq_true rfl)) d_Law_told_4 ⟨Nat.le_of_ble_eq_true rfl, Nat.le_of_ble_eq_true rfl⟩ hS (fun q _ h => hFc q h) hFc (fun r9 u9 t H locs ht hvm e4 hB hz1 hk1 hS => ?_) (fun X x H locs eX hcx hz1 hk1 hS => ?_)
  · obtain ⟨hP1, hK1, hD1⟩ := hB
    rw [ht] at hP1
    obtain ⟨hP, hD⟩ := va_join (wr := [(o9, .inl (cJ, 1, .inr (.inl g9)))]) (w1 := [(h, .inr (11, [.ref rc, .ref d])), (rc, .inr (4, [.ref tp, .ref ln, .ref tb, .ref ct, .ref dp])), (tp, .inr (0, [.ref a, .int sz9])), (tb, .inr (8, [.int lv, .ref pr])), (pr, .inr (12, [.ref b, .int np, .int mo])), (ct, .inl (cI, 10, .inl cn))]) hP hD [0, 1, 2, 3, 4, 5] [6] rfl rfl (by decide) (by decide) hk1 hFc hP1 hD1
    clear hk1 hP1 hD1 hFc hPc hDc hz1
    have hP : va_P D classes [(o9, .inl (cJ, 1, .inr (.inl g9))), (h, .inr (11, [.ref rc, .ref d])), (rc, .inr (4, [.ref tp, .ref ln, .ref tb, .ref ct, .ref dp])), (tp, .inr (0, [.ref a, .int sz9])), (tb, .inr (8, [.int lv, .ref pr])), (pr, .inr (12, [.ref b, .int np, .int mo])), (ct, .inl (cI, 10, .inl cn))] H := hP
    have hD : va_D A [(o9, .inl (cJ, 1, .inr (.inl g9))), (h, .inr (11, [.ref rc, .ref d])), (rc, .inr (4, [.ref tp, .ref ln, .ref tb, .ref ct, .ref dp])), (tp, .inr (0, [.ref a, .int sz9])), (tb, .inr (8, [.int lv, .ref pr])), (pr, .inr (12, [.ref b, .int np, .int mo])), (ct, .inl (cI, 10, .inl cn))] := hD
    refine lv_i2l (v := r9.toInt64) hx hb d_Law_told_7 rfl ?_
    refine z_last hx hb hK hP hD hS 0 1 rfl rfl 0 rfl (by decide) (by decide) d_Law_told_8 (fun H locs hP hD hS => ?_)
    have hP : va_P D classes [(o9, .inl (cJ, 1, .inr (.inl (vp_updL g9 0 r9.toInt64)))), (h, .inr (11, [.ref rc, .ref d])), (rc, .inr (4, [.ref tp, .ref ln, .ref tb, .ref ct, .ref dp])), (tp, .inr (0, [.ref a, .int sz9])), (tb, .inr (8, [.int lv, .ref pr])), (pr, .inr (12, [.ref b, .int np, .int mo])), (ct, .inl (cI, 10, .inl cn))] H := hP
    have hD : va_D A [(o9, .inl (cJ, 1, .inr (.inl (vp_updL g9 0 r9.toInt64)))), (h, .inr (11, [.ref rc, .ref d])), (rc, .inr (4, [.ref tp, .ref ln, .ref tb, .ref ct, .ref dp])), (tp, .inr (0, [.ref a, .int sz9])), (tb, .inr (8, [.int lv, .ref pr])), (pr, .inr (12, [.ref b, .int np, .int mo])), (ct, .inl (cI, 10, .inl cn))] := hD
    refine lv_goto (tgt := 15) hx hb d_Law_told_9 rfl ?_
    refine lv_iconst (v := 0) hx hb d_Law_told_15 (by decide) ?_
    have hP9 := hP.sub (ws' := [(h, .inr (11, [.ref rc, .ref d])), (rc, .inr (4, [.ref tp, .ref ln, .ref tb, .ref ct, .ref dp])), (tp, .inr (0, [.ref a, .int sz9])), (tb, .inr (8, [.int lv, .ref pr])), (pr, .inr (12, [.ref b, .int np, .int mo])), (ct, .inl (cI, 10, .inl cn)), (o9, .inl (cJ, 1, .inr (.inl (vp_updL g9 0 r9.toInt64))))]) [1, 2, 3, 4, 5, 6, 0] rfl
    have hD9 := hD.sub (ws' := [(h, .inr (11, [.ref rc, .ref d])), (rc, .inr (4, [.ref tp, .ref ln, .ref tb, .ref ct, .ref dp])), (tp, .inr (0, [.ref a, .int sz9])), (tb, .inr (8, [.int lv, .ref pr])), (pr, .inr (12, [.ref b, .int np, .int mo])), (ct, .inl (cI, 10, .inl cn)), (o9, .inl (cJ, 1, .inr (.inl (vp_updL g9 0 r9.toInt64))))]) [1, 2, 3, 4, 5, 6, 0] (by decide) rfl
    have hK9 := hK.sub (tys' := [(cI, .int), (cJ, .long)]) [0, 1] rfl
    refine W.widen (k := 1) (n := 6) (by omega) (by omega) ?_
    exact W.iret (v := 0) hx hb hr (fun t ht hW => ⟨⟨_, (u9, r9), rfl, ⟨rfl, e4⟩, ⟨by rw [ht]; exact hP9, va_K.moved hW.alike hK9, hD9⟩⟩, hS.F ht⟩) hS.2.2 d_Law_told_16
  · exact absurd eX (fun z => z)
set_option maxHeartbeats 4000000 in
set_option maxRecDepth 100000 in
theorem c_Law_piece_ok0 (l : Launch) (D : va_G) (hfl : l.stackTraces = false) (B0 : State) (hG : zG B0) (sz : Nat) (cI : ClassId) (h d rc tp ln tb ct dp : Nat) (cn : Nat → Int32) (k w : Int32) (cJ : ClassId) (o9 : Nat) (g9 : Nat → Int64) (hc : cn 9 = 0) (h0 : ¬ w < 0) (h4 : ¬ 4 < w) (hk : ¬ k < 0) : Met l y_Law_piece [Cond.codeWith y_Law_piece b_Law_piece 5 (some .int) [(0, 9, 12, 13)]] ({ frames := 2, cells := 1, slots := 6, locals := 44 }) (zMo [.ref h, .int k, .int w, .ref o9] D [(h, .inr (11, [.ref rc, .ref d])), (rc, .inr (4, [.ref tp, .ref ln, .ref tb, .ref ct, .ref dp])), (ct, .inl (cI, 10, .inl cn)), (o9, .inl (cJ, 1, .inr (.inl g9)))] [(cI, .int), (cJ, .long)] sz B0) (va_Qi (fun r0 (u : (Unit) × Int64) => r0 = 0 ∧ (fun r0 (_ : Unit) => r0 = -1) u.2 u.1) (fun (u : (Unit) × Int64) t => zW D (va_A [(h, .inr (11, [.ref rc, .ref d])), (rc, .inr (4, [.ref tp, .ref ln, .ref tb, .ref ct, .ref dp])), (ct, .inl (cI, 10, .inl cn)), (o9, .inl (cJ, 1, .inr (.inl g9)))] sz) [(h, .inr (11, [.ref rc, .ref d])), (rc, .inr (4, [.ref tp, .ref ln, .ref tb, .ref ct, .ref dp])), (ct, .inl (cI, 10, .inl cn)), (o9, .inl (cJ, 1, .inr (.inl (vp_updL g9 0 u.2))))] [(cI, .int), (cJ, .long)] t) (va_A [(h, .inr (11, [.ref rc, .ref d])), (rc, .inr (4, [.ref tp, .ref ln, .ref tb, .ref ct, .ref dp])), (ct, .inl (cI, 10, .inl cn)), (o9, .inl (cJ, 1, .inr (.inl g9)))] sz)) 1 6 (va_A [(h, .inr (11, [.ref rc, .ref d])), (rc, .inr (4, [.ref tp, .ref ln, .ref tb, .ref ct, .ref dp])), (ct, .inl (cI, 10, .inl cn)), (o9, .inl (cJ, 1, .inr (.inl g9)))] sz) := by
  refine va_MetW (cc := b_Law_piece) (maxL := 5) (ret := (some .int)) (hh := [(0, 9, 12, 13)]) (by decide) rfl ?_
  intro p e s m args below meth cd s₁ Bd hml hv
  obtain ⟨rfl, hsz, hP, hK, hN, hD0, hO⟩ := hv
  have hx := Bd.exec
  have hb := Bd.bytes
  have hr := Bd.returns
  have hts := hN.use (a := ([.ref h, .int k, .int w, .ref o9]).toArray)
  have hown : s.vm.findClass R_Law = some m.cls := findClass_of_methodNamed Bd.named
  have hlocks := Bd.notSynchronized
  have htab := z_tab Bd
  subst hsz
  have hD := hD0.self (sz := s.heap.size)
  have hAO := z_AO hD0 hO
  clear hD0
  have hA : ∀ q : Nat, s.heap.size ≤ q → va_A [(h, .inr (11, [.ref rc, .ref d])), (rc, .inr (4, [.ref tp, .ref ln, .ref tb, .ref ct, .ref dp])), (ct, .inl (cI, 10, .inl cn)), (o9, .inl (cJ, 1, .inr (.inl g9)))] s.heap.size q := fun q h => Or.inr h
  have hS : va_S (va_A [(h, .inr (11, [.ref rc, .ref d])), (rc, .inr (4, [.ref tp, .ref ln, .ref tb, .ref ct, .ref dp])), (ct, .inl (cI, 10, .inl cn)), (o9, .inl (cJ, 1, .inr (.inl g9)))] s.heap.size) s.heap s.heap [] := va_S.rf
  generalize hAe : va_A [(h, .inr (11, [.ref rc, .ref d])), (rc, .inr (4, [.ref tp, .ref ln, .ref tb, .ref ct, .ref dp])), (ct, .inl (cI, 10, .inl cn)), (o9, .inl (cJ, 1, .inr (.inl g9)))] s.heap.size = A at hD hA hS hAO ⊢
  have hP : va_P D classes [(h, .inr (11, [.ref rc, .ref d])), (rc, .inr (4, [.ref tp, .ref ln, .ref tb, .ref ct, .ref dp])), (ct, .inl (cI, 10, .inl cn)), (o9, .inl (cJ, 1, .inr (.inl g9)))] s.heap := hP
  have hl := lv_entry ([.ref h, .int k, .int w, .ref o9]) (n := 5) (Nat.le_of_ble_eq_true rfl)
  rw [lg_entry_eq]
  generalize (lg_sl ([.ref h, .int k, .int w, .ref o9]) ++ List.replicate (5 - (lg_sl ([.ref h, .int k, .int w, .ref o9])).length) Slot.unset).toArray = ls at hl ⊢
  have hl : lv_has ls 5 [(0, .ref h), (1, .int k), (2, .int w), (3, .ref o9)] := hl
  refine lv_aload_n hx hb d_Law_piece_0 rfl (lv_at hl 3 rfl) ?_
  refine lv_iconst (v := 0) hx hb d_Law_piece_1 (by decide) ?_
  refine lv_aload_n hx hb d_Law_piece_2 rfl (lv_at hl 0 rfl) ?_
  refine lv_iload_n hx hb d_Law_piece_3 rfl (lv_at hl 1 rfl) ?_
  refine lv_iload_n hx hb d_Law_piece_4 rfl (lv_at hl 2 rfl) ?_
  have hPc := hP.sub (ws' := [(h, .inr (11, [.ref rc, .ref d])), (rc, .inr (4, [.ref tp, .ref ln, .ref tb, .ref ct, .ref dp])), (ct, .inl (cI, 10, .inl cn))]) [0, 1, 2] rfl
  have hKc := hK.sub (tys' := [(cI, .int)]) [0] rfl
  have hDc := hD.sub (ws' := [(h, .inr (11, [.ref rc, .ref d])), (rc, .inr (4, [.ref tp, .ref ln, .ref tb, .ref ct, .ref dp])), (ct, .inl (cI, 10, .inl cn))]) [0, 1, 2] (by decide) rfl
  have hFc := va_free (wc := [(h, .inr (11, [.ref rc, .ref d])), (rc, .inr (4, [.ref tp, .ref ln, .ref tb, .ref ct, .ref dp])), (ct, .inl (cI, 10, .inl cn))]) hD hS hA [0, 1, 2] rfl
  refine z_callVTl (As := [.int k, .int w]) (rest := [.int 0, .ref o9]) ⟨hx, hb, hml, hown, hts⟩ (c_SS_piece_ok0 l D hfl B0 hG s.heap.size cI h d rc tp ln tb ct dp cn k w hc h0 h4 hk) (z_cV hN wd_868 wd_59 wd_865 hd_SS_piece rfl rfl ⟨Nat.le_of_ble_eq_true rfl, Nat.le_of_ble_eq_true rfl⟩ wd_866 wd_867) (z_preVo (va_recv (ci := 11) (q0 := 0) hK hP rfl rfl) hPc hKc hN hDc hO hS hAO) rfl hl.1 rfl (lv_room (Nat.le_of_ble_eq_true rfl)) d_Law_piece_5 ⟨Nat.le_of_ble_eq_true rfl, Nat.le_of_ble_eq_true rfl⟩ hS (fun q _ h => hFc q h) hFc (fun r9 u9 t H locs ht hvm e5 hB hz1 hk1 hS => ?_) (fun X x H locs eX hcx hz1 hk1 hS => ?_)
  · obtain ⟨hP1, hK1, hD1⟩ := hB
    rw [ht] at hP1
    obtain ⟨hP, hD⟩ := va_join (wr := [(o9, .inl (cJ, 1, .inr (.inl g9)))]) (w1 := [(h, .inr (11, [.ref rc, .ref d])), (rc, .inr (4, [.ref tp, .ref ln, .ref tb, .ref ct, .ref dp])), (ct, .inl (cI, 10, .inl cn))]) hP hD [0, 1, 2] [3] rfl rfl (by decide) (by decide) hk1 hFc hP1 hD1
    clear hk1 hP1 hD1 hFc hPc hDc hz1
    have hP : va_P D classes [(o9, .inl (cJ, 1, .inr (.inl g9))), (h, .inr (11, [.ref rc, .ref d])), (rc, .inr (4, [.ref tp, .ref ln, .ref tb, .ref ct, .ref dp])), (ct, .inl (cI, 10, .inl cn))] H := hP
    have hD : va_D A [(o9, .inl (cJ, 1, .inr (.inl g9))), (h, .inr (11, [.ref rc, .ref d])), (rc, .inr (4, [.ref tp, .ref ln, .ref tb, .ref ct, .ref dp])), (ct, .inl (cI, 10, .inl cn))] := hD
    refine z_last hx hb hK hP hD hS 0 1 rfl rfl 0 rfl (by decide) (by decide) d_Law_piece_8 (fun H locs hP hD hS => ?_)
    have hP : va_P D classes [(o9, .inl (cJ, 1, .inr (.inl (vp_updL g9 0 r9)))), (h, .inr (11, [.ref rc, .ref d])), (rc, .inr (4, [.ref tp, .ref ln, .ref tb, .ref ct, .ref dp])), (ct, .inl (cI, 10, .inl cn))] H := hP
    have hD : va_D A [(o9, .inl (cJ, 1, .inr (.inl (vp_updL g9 0 r9)))), (h, .inr (11, [.ref rc, .ref d])), (rc, .inr (4, [.ref tp, .ref ln, .ref tb, .ref ct, .ref dp])), (ct, .inl (cI, 10, .inl cn))] := hD
    refine lv_goto (tgt := 16) hx hb d_Law_piece_9 rfl ?_
    refine lv_iconst (v := 0) hx hb d_Law_piece_16 (by decide) ?_
    have hP9 := hP.sub (ws' := [(h, .inr (11, [.ref rc, .ref d])), (rc, .inr (4, [.ref tp, .ref ln, .ref tb, .ref ct, .ref dp])), (ct, .inl (cI, 10, .inl cn)), (o9, .inl (cJ, 1, .inr (.inl (vp_updL g9 0 r9))))]) [1, 2, 3, 0] rfl
    have hD9 := hD.sub (ws' := [(h, .inr (11, [.ref rc, .ref d])), (rc, .inr (4, [.ref tp, .ref ln, .ref tb, .ref ct, .ref dp])), (ct, .inl (cI, 10, .inl cn)), (o9, .inl (cJ, 1, .inr (.inl (vp_updL g9 0 r9))))]) [1, 2, 3, 0] (by decide) rfl
    have hK9 := hK.sub (tys' := [(cI, .int), (cJ, .long)]) [0, 1] rfl
    refine W.widen (k := 1) (n := 6) (by omega) (by omega) ?_
    exact W.iret (v := 0) hx hb hr (fun t ht hW => ⟨⟨_, (u9, r9), rfl, ⟨rfl, e5⟩, ⟨by rw [ht]; exact hP9, va_K.moved hW.alike hK9, hD9⟩⟩, hS.F ht⟩) hS.2.2 d_Law_piece_17
  · exact absurd eX (fun z => z)
set_option maxHeartbeats 4000000 in
set_option maxRecDepth 100000 in
theorem c_Law_clock_ok0 (l : Launch) (D : va_G) (hfl : l.stackTraces = false) (B0 : State) (hG : zG B0) (sz : Nat) (h rc d tp tb ct dp : Nat) (cN : ClassId) (ln hd : Nat) (hf : Nat → Option Nat) (pid : Nat) (cJ : ClassId) (o9 : Nat) (g9 : Nat → Int64) (hpid : pid < 8192) (hno : hf (pid % 256) = none) : Met l y_Law_clock [Cond.codeWith y_Law_clock b_Law_clock 4 (some .int) [(0, 8, 11, 13)]] ({ frames := 2, cells := 1, slots := 6, locals := 44 }) (zMo [.ref h, .int (nI pid), .ref o9] D [(h, .inr (11, [.ref rc, .ref d])), (rc, .inr (4, [.ref tp, .ref ln, .ref tb, .ref ct, .ref dp])), (ln, .inr (2, [.ref hd])), (hd, .inl (cN, 256, .inr (.inr (.inr (.inr hf))))), (o9, .inl (cJ, 1, .inr (.inl g9)))] [(cN, .object "StreamSplitter$Lane"), (cJ, .long)] sz B0) (va_Qi (fun r0 (u : (Unit) × Int64) => r0 = 0 ∧ (fun r0 (_ : Unit) => r0 = -1) u.2 u.1) (fun (u : (Unit) × Int64) t => zW D (va_A [(h, .inr (11, [.ref rc, .ref d])), (rc, .inr (4, [.ref tp, .ref ln, .ref tb, .ref ct, .ref dp])), (ln, .inr (2, [.ref hd])), (hd, .inl (cN, 256, .inr (.inr (.inr (.inr hf))))), (o9, .inl (cJ, 1, .inr (.inl g9)))] sz) [(h, .inr (11, [.ref rc, .ref d])), (rc, .inr (4, [.ref tp, .ref ln, .ref tb, .ref ct, .ref dp])), (ln, .inr (2, [.ref hd])), (hd, .inl (cN, 256, .inr (.inr (.inr (.inr hf))))), (o9, .inl (cJ, 1, .inr (.inl (vp_updL g9 0 u.2))))] [(cN, .object "StreamSplitter$Lane"), (cJ, .long)] t) (va_A [(h, .inr (11, [.ref rc, .ref d])), (rc, .inr (4, [.ref tp, .ref ln, .ref tb, .ref ct, .ref dp])), (ln, .inr (2, [.ref hd])), (hd, .inl (cN, 256, .inr (.inr (.inr (.inr hf))))), (o9, .inl (cJ, 1, .inr (.inl g9)))] sz)) 1 6 (va_A [(h, .inr (11, [.ref rc, .ref d])), (rc, .inr (4, [.ref tp, .ref ln, .ref tb, .ref ct, .ref dp])), (ln, .inr (2, [.ref hd])), (hd, .inl (cN, 256, .inr (.inr (.inr (.inr hf))))), (o9, .inl (cJ, 1, .inr (.inl g9)))] sz) := by
  refine va_MetW (cc := b_Law_clock) (maxL := 4) (ret := (some .int)) (hh := [(0, 8, 11, 13)]) (by decide) rfl ?_
  intro p e s m args below meth cd s₁ Bd hml hv
  obtain ⟨rfl, hsz, hP, hK, hN, hD0, hO⟩ := hv
  have hx := Bd.exec
  have hb := Bd.bytes
  have hr := Bd.returns
  have hts := hN.use (a := ([.ref h, .int (nI pid), .ref o9]).toArray)
  have hown : s.vm.findClass R_Law = some m.cls := findClass_of_methodNamed Bd.named
  have hlocks := Bd.notSynchronized
  have htab := z_tab Bd
  subst hsz
  have hD := hD0.self (sz := s.heap.size)
  have hAO := z_AO hD0 hO
  clear hD0
  have hA : ∀ q : Nat, s.heap.size ≤ q → va_A [(h, .inr (11, [.ref rc, .ref d])), (rc, .inr (4, [.ref tp, .ref ln, .ref tb, .ref ct, .ref dp])), (ln, .inr (2, [.ref hd])), (hd, .inl (cN, 256, .inr (.inr (.inr (.inr hf))))), (o9, .inl (cJ, 1, .inr (.inl g9)))] s.heap.size q := fun q h => Or.inr h
  have hS : va_S (va_A [(h, .inr (11, [.ref rc, .ref d])), (rc, .inr (4, [.ref tp, .ref ln, .ref tb, .ref ct, .ref dp])), (ln, .inr (2, [.ref hd])), (hd, .inl (cN, 256, .inr (.inr (.inr (.inr hf))))), (o9, .inl (cJ, 1, .inr (.inl g9)))] s.heap.size) s.heap s.heap [] := va_S.rf
  generalize hAe : va_A [(h, .inr (11, [.ref rc, .ref d])), (rc, .inr (4, [.ref tp, .ref ln, .ref tb, .ref ct, .ref dp])), (ln, .inr (2, [.ref hd])), (hd, .inl (cN, 256, .inr (.inr (.inr (.inr hf))))), (o9, .inl (cJ, 1, .inr (.inl g9)))] s.heap.size = A at hD hA hS hAO ⊢
  have hP : va_P D classes [(h, .inr (11, [.ref rc, .ref d])), (rc, .inr (4, [.ref tp, .ref ln, .ref tb, .ref ct, .ref dp])), (ln, .inr (2, [.ref hd])), (hd, .inl (cN, 256, .inr (.inr (.inr (.inr hf))))), (o9, .inl (cJ, 1, .inr (.inl g9)))] s.heap := hP
  have hl := lv_entry ([.ref h, .int (nI pid), .ref o9]) (n := 4) (Nat.le_of_ble_eq_true rfl)
  rw [lg_entry_eq]
  generalize (lg_sl ([.ref h, .int (nI pid), .ref o9]) ++ List.replicate (4 - (lg_sl ([.ref h, .int (nI pid), .ref o9])).length) Slot.unset).toArray = ls at hl ⊢
  have hl : lv_has ls 4 [(0, .ref h), (1, .int (nI pid)), (2, .ref o9)] := hl
  refine lv_aload_n hx hb d_Law_clock_0 rfl (lv_at hl 2 rfl) ?_
  refine lv_iconst (v := 0) hx hb d_Law_clock_1 (by decide) ?_
  refine lv_aload_n hx hb d_Law_clock_2 rfl (lv_at hl 0 rfl) ?_
  refine lv_iload_n hx hb d_Law_clock_3 rfl (lv_at hl 1 rfl) ?_
  have hPc := hP.sub (ws' := [(h, .inr (11, [.ref rc, .ref d])), (rc, .inr (4, [.ref tp, .ref ln, .ref tb, .ref ct, .ref dp])), (ln, .inr (2, [.ref hd])), (hd, .inl (cN, 256, .inr (.inr (.inr (.inr hf)))))]) [0, 1, 2, 3] rfl
  have hKc := hK.sub (tys' := [(cN, .object "StreamSplitter$Lane")]) [0] rfl
  have hDc := hD.sub (ws' := [(h, .inr (11, [.ref rc, .ref d])), (rc, .inr (4, [.ref tp, .ref ln, .ref tb, .ref ct, .ref dp])), (ln, .inr (2, [.ref hd])), (hd, .inl (cN, 256, .inr (.inr (.inr (.inr hf)))))]) [0, 1, 2, 3] (by decide) rfl
  have hFc := va_free (wc := [(h, .inr (11, [.ref rc, .ref d])), (rc, .inr (4, [.ref tp, .ref ln, .ref tb, .ref ct, .ref dp])), (ln, .inr (2, [.ref hd])), (hd, .inl (cN, 256, .inr (.inr (.inr (.inr hf)))))]) hD hS hA [0, 1, 2, 3] rfl
  refine z_callVTl (As := [.int (nI pid)]) (rest := [.int 0, .ref o9]) ⟨hx, hb, hml, hown, hts⟩ (c_SS_clock_ok0 l D hfl B0 hG s.heap.size h rc d tp tb ct dp cN ln hd hf pid hpid hno) (z_cV hN wd_880 wd_59 wd_877 hd_SS_clock rfl rfl ⟨Nat.le_of_ble_eq_true rfl, Nat.le_of_ble_eq_true rfl⟩ wd_878 wd_879) (z_preVo (va_recv (ci := 11) (q0 := 0) hK hP rfl rfl) hPc hKc hN hDc hO hS hAO) rfl hl.1 rfl (lv_room (Nat.le_of_ble_eq_true rfl)) d_Law_clock_4 ⟨Nat.le_of_ble_eq_true rfl, Nat.le_of_ble_eq_true rfl⟩ hS (fun q _ h => hFc q h) hFc (fun r9 u9 t H locs ht hvm e4 hB hz1 hk1 hS => ?_) (fun X x H locs eX hcx hz1 hk1 hS => ?_)
  · obtain ⟨hP1, hK1, hD1⟩ := hB
    rw [ht] at hP1
    obtain ⟨hP, hD⟩ := va_join (wr := [(o9, .inl (cJ, 1, .inr (.inl g9)))]) (w1 := [(h, .inr (11, [.ref rc, .ref d])), (rc, .inr (4, [.ref tp, .ref ln, .ref tb, .ref ct, .ref dp])), (ln, .inr (2, [.ref hd])), (hd, .inl (cN, 256, .inr (.inr (.inr (.inr hf)))))]) hP hD [0, 1, 2, 3] [4] rfl rfl (by decide) (by decide) hk1 hFc hP1 hD1
    clear hk1 hP1 hD1 hFc hPc hDc hz1
    have hP : va_P D classes [(o9, .inl (cJ, 1, .inr (.inl g9))), (h, .inr (11, [.ref rc, .ref d])), (rc, .inr (4, [.ref tp, .ref ln, .ref tb, .ref ct, .ref dp])), (ln, .inr (2, [.ref hd])), (hd, .inl (cN, 256, .inr (.inr (.inr (.inr hf)))))] H := hP
    have hD : va_D A [(o9, .inl (cJ, 1, .inr (.inl g9))), (h, .inr (11, [.ref rc, .ref d])), (rc, .inr (4, [.ref tp, .ref ln, .ref tb, .ref ct, .ref dp])), (ln, .inr (2, [.ref hd])), (hd, .inl (cN, 256, .inr (.inr (.inr (.inr hf)))))] := hD
    refine z_last hx hb hK hP hD hS 0 1 rfl rfl 0 rfl (by decide) (by decide) d_Law_clock_7 (fun H locs hP hD hS => ?_)
    have hP : va_P D classes [(o9, .inl (cJ, 1, .inr (.inl (vp_updL g9 0 r9)))), (h, .inr (11, [.ref rc, .ref d])), (rc, .inr (4, [.ref tp, .ref ln, .ref tb, .ref ct, .ref dp])), (ln, .inr (2, [.ref hd])), (hd, .inl (cN, 256, .inr (.inr (.inr (.inr hf)))))] H := hP
    have hD : va_D A [(o9, .inl (cJ, 1, .inr (.inl (vp_updL g9 0 r9)))), (h, .inr (11, [.ref rc, .ref d])), (rc, .inr (4, [.ref tp, .ref ln, .ref tb, .ref ct, .ref dp])), (ln, .inr (2, [.ref hd])), (hd, .inl (cN, 256, .inr (.inr (.inr (.inr hf)))))] := hD
    refine lv_goto (tgt := 14) hx hb d_Law_clock_8 rfl ?_
    refine lv_iconst (v := 0) hx hb d_Law_clock_14 (by decide) ?_
    have hP9 := hP.sub (ws' := [(h, .inr (11, [.ref rc, .ref d])), (rc, .inr (4, [.ref tp, .ref ln, .ref tb, .ref ct, .ref dp])), (ln, .inr (2, [.ref hd])), (hd, .inl (cN, 256, .inr (.inr (.inr (.inr hf))))), (o9, .inl (cJ, 1, .inr (.inl (vp_updL g9 0 r9))))]) [1, 2, 3, 4, 0] rfl
    have hD9 := hD.sub (ws' := [(h, .inr (11, [.ref rc, .ref d])), (rc, .inr (4, [.ref tp, .ref ln, .ref tb, .ref ct, .ref dp])), (ln, .inr (2, [.ref hd])), (hd, .inl (cN, 256, .inr (.inr (.inr (.inr hf))))), (o9, .inl (cJ, 1, .inr (.inl (vp_updL g9 0 r9))))]) [1, 2, 3, 4, 0] (by decide) rfl
    have hK9 := hK.sub (tys' := [(cN, .object "StreamSplitter$Lane"), (cJ, .long)]) [0, 1] rfl
    refine W.widen (k := 1) (n := 6) (by omega) (by omega) ?_
    exact W.iret (v := 0) hx hb hr (fun t ht hW => ⟨⟨_, (u9, r9), rfl, ⟨rfl, e4⟩, ⟨by rw [ht]; exact hP9, va_K.moved hW.alike hK9, hD9⟩⟩, hS.F ht⟩) hS.2.2 d_Law_clock_15
  · exact absurd eX (fun z => z)
set_option maxHeartbeats 4000000 in
set_option maxRecDepth 100000 in
theorem c_Law_plan_ok0 (l : Launch) (D : va_G) (hfl : l.stackTraces = false) (B0 : State) (hG : zG B0) (sz : Nat) (cO : ClassId) (h rc d e0 : Nat) (mo i c : Int32) (cJ : ClassId) (o9 : Nat) (g9 : Nat → Int64) (he0 : zE0 B0 e0) (hok : ¬ (i < 1 ∨ 65535 < i ∨ c < 0 ∨ 8191 < c)) : Met l y_Law_plan [Cond.codeWith y_Law_plan b_Law_plan 5 (some .int) [(0, 10, 13, 13)]] ({ frames := 6, cells := 3, slots := 16, locals := 123 }) (zMo [.ref h, .int i, .int c, .ref o9] D [(h, .inr (11, [.ref rc, .ref d])), (d, .inr (12, [.ref e0, .int 0, .int mo])), (o9, .inl (cJ, 1, .inr (.inl g9)))] [(cO, .object "java/lang/Object"), (cJ, .long)] sz B0) (va_Qi (fun r0 (u : (Nat × Nat × Nat) × Int32) => r0 = 0 ∧ (fun r0 (u : Nat × Nat × Nat) => r0 = 1) u.2 u.1) (fun (u : (Nat × Nat × Nat) × Int32) t => zW D (va_A [(h, .inr (11, [.ref rc, .ref d])), (d, .inr (12, [.ref e0, .int 0, .int mo])), (o9, .inl (cJ, 1, .inr (.inl g9)))] sz) [(h, .inr (11, [.ref rc, .ref d])), (d, .inr (12, [.ref u.1.1, .int 1, .int (mo + 1)])), (u.1.1, .inl (cO, 10, .inr (.inr (.inr (.inr (va_up (fun _ => none) 0 (some u.1.2.1))))))), (u.1.2.1, .inr (9, [.int i, .int c, .ref u.1.2.2])), (u.1.2.2, .inr (12, [.ref e0, .int 0, .int 0])), (o9, .inl (cJ, 1, .inr (.inl (vp_updL g9 0 u.2.toInt64))))] [(cO, .object "java/lang/Object"), (cJ, .long)] t) (va_A [(h, .inr (11, [.ref rc, .ref d])), (d, .inr (12, [.ref e0, .int 0, .int mo])), (o9, .inl (cJ, 1, .inr (.inl g9)))] sz)) 3 16 (va_A [(h, .inr (11, [.ref rc, .ref d])), (d, .inr (12, [.ref e0, .int 0, .int mo])), (o9, .inl (cJ, 1, .inr (.inl g9)))] sz) := by
  refine va_MetW (cc := b_Law_plan) (maxL := 5) (ret := (some .int)) (hh := [(0, 10, 13, 13)]) (by decide) rfl ?_
  intro p e s m args below meth cd s₁ Bd hml hv
  obtain ⟨rfl, hsz, hP, hK, hN, hD0, hO⟩ := hv
  have hx := Bd.exec
  have hb := Bd.bytes
  have hr := Bd.returns
  have hts := hN.use (a := ([.ref h, .int i, .int c, .ref o9]).toArray)
  have hown : s.vm.findClass R_Law = some m.cls := findClass_of_methodNamed Bd.named
  have hlocks := Bd.notSynchronized
  have htab := z_tab Bd
  subst hsz
  have hD := hD0.self (sz := s.heap.size)
  have hAO := z_AO hD0 hO
  clear hD0
  have hA : ∀ q : Nat, s.heap.size ≤ q → va_A [(h, .inr (11, [.ref rc, .ref d])), (d, .inr (12, [.ref e0, .int 0, .int mo])), (o9, .inl (cJ, 1, .inr (.inl g9)))] s.heap.size q := fun q h => Or.inr h
  have hS : va_S (va_A [(h, .inr (11, [.ref rc, .ref d])), (d, .inr (12, [.ref e0, .int 0, .int mo])), (o9, .inl (cJ, 1, .inr (.inl g9)))] s.heap.size) s.heap s.heap [] := va_S.rf
  generalize hAe : va_A [(h, .inr (11, [.ref rc, .ref d])), (d, .inr (12, [.ref e0, .int 0, .int mo])), (o9, .inl (cJ, 1, .inr (.inl g9)))] s.heap.size = A at hD hA hS hAO ⊢
  have hP : va_P D classes [(h, .inr (11, [.ref rc, .ref d])), (d, .inr (12, [.ref e0, .int 0, .int mo])), (o9, .inl (cJ, 1, .inr (.inl g9)))] s.heap := hP
  have hl := lv_entry ([.ref h, .int i, .int c, .ref o9]) (n := 5) (Nat.le_of_ble_eq_true rfl)
  rw [lg_entry_eq]
  generalize (lg_sl ([.ref h, .int i, .int c, .ref o9]) ++ List.replicate (5 - (lg_sl ([.ref h, .int i, .int c, .ref o9])).length) Slot.unset).toArray = ls at hl ⊢
  have hl : lv_has ls 5 [(0, .ref h), (1, .int i), (2, .int c), (3, .ref o9)] := hl
  refine lv_aload_n hx hb d_Law_plan_0 rfl (lv_at hl 3 rfl) ?_
  refine lv_iconst (v := 0) hx hb d_Law_plan_1 (by decide) ?_
  refine lv_aload_n hx hb d_Law_plan_2 rfl (lv_at hl 0 rfl) ?_
  refine lv_iload_n hx hb d_Law_plan_3 rfl (lv_at hl 1 rfl) ?_
  refine lv_iload_n hx hb d_Law_plan_4 rfl (lv_at hl 2 rfl) ?_
  have hPc := hP.sub (ws' := [(h, .inr (11, [.ref rc, .ref d])), (d, .inr (12, [.ref e0, .int 0, .int mo]))]) [0, 1] rfl
  have hKc := hK.sub (tys' := [(cO, .object "java/lang/Object")]) [0] rfl
  have hDc := hD.sub (ws' := [(h, .inr (11, [.ref rc, .ref d])), (d, .inr (12, [.ref e0, .int 0, .int mo]))]) [0, 1] (by decide) rfl
  have hFc := va_free (wc := [(h, .inr (11, [.ref rc, .ref d])), (d, .inr (12, [.ref e0, .int 0, .int mo]))]) hD hS hA [0, 1] rfl
  refine z_callVTi (As := [.int i, .int c]) (rest := [.int 0, .ref o9]) ⟨hx, hb, hml, hown, hts⟩ (c_SS_plan_ok0 l D hfl B0 hG s.heap.size cO h rc d e0 mo i c he0 hok) (z_cV hN wd_892 wd_59 wd_889 hd_SS_plan rfl rfl ⟨Nat.le_of_ble_eq_true rfl, Nat.le_of_ble_eq_true rfl⟩ wd_890 wd_891) (z_preVo (va_recv (ci := 11) (q0 := 0) hK hP rfl rfl) hPc hKc hN hDc hO hS hAO) rfl hl.1 rfl (lv_room (Nat.le_of_ble_eq_true rfl)) d_Law_plan_5 ⟨Nat.le_of_ble_eq_true rfl, Nat.le_of_ble_eq_true rfl⟩ hS (fun q _ h => hFc q h) hFc (fun r9 u9 t H locs ht hvm e5 hB hz1 hk1 hS => ?_) (fun X x H locs eX hcx hz1 hk1 hS => ?_)
  · obtain ⟨hP1, hK1, hD1⟩ := hB
    rw [ht] at hP1
    obtain ⟨hP, hD⟩ := va_join (wr := [(o9, .inl (cJ, 1, .inr (.inl g9)))]) (w1 := [(h, .inr (11, [.ref rc, .ref d])), (d, .inr (12, [.ref u9.1, .int 1, .int (mo + 1)])), (u9.1, .inl (cO, 10, .inr (.inr (.inr (.inr (va_up (fun _ => none) 0 (some u9.2.1))))))), (u9.2.1, .inr (9, [.int i, .int c, .ref u9.2.2])), (u9.2.2, .inr (12, [.ref e0, .int 0, .int 0]))]) hP hD [0, 1] [2] rfl rfl (by decide) (by decide) hk1 hFc hP1 hD1
    clear hk1 hP1 hD1 hFc hPc hDc hz1
    have hP : va_P D classes [(o9, .inl (cJ, 1, .inr (.inl g9))), (h, .inr (11, [.ref rc, .ref d])), (d, .inr (12, [.ref u9.1, .int 1, .int (mo + 1)])), (u9.1, .inl (cO, 10, .inr (.inr (.inr (.inr (va_up (fun _ => none) 0 (some u9.2.1))))))), (u9.2.1, .inr (9, [.int i, .int c, .ref u9.2.2])), (u9.2.2, .inr (12, [.ref e0, .int 0, .int 0]))] H := hP
    have hD : va_D A [(o9, .inl (cJ, 1, .inr (.inl g9))), (h, .inr (11, [.ref rc, .ref d])), (d, .inr (12, [.ref u9.1, .int 1, .int (mo + 1)])), (u9.1, .inl (cO, 10, .inr (.inr (.inr (.inr (va_up (fun _ => none) 0 (some u9.2.1))))))), (u9.2.1, .inr (9, [.int i, .int c, .ref u9.2.2])), (u9.2.2, .inr (12, [.ref e0, .int 0, .int 0]))] := hD
    refine lv_i2l (v := r9.toInt64) hx hb d_Law_plan_8 rfl ?_
    refine z_last hx hb hK hP hD hS 0 1 rfl rfl 0 rfl (by decide) (by decide) d_Law_plan_9 (fun H locs hP hD hS => ?_)
    have hP : va_P D classes [(o9, .inl (cJ, 1, .inr (.inl (vp_updL g9 0 r9.toInt64)))), (h, .inr (11, [.ref rc, .ref d])), (d, .inr (12, [.ref u9.1, .int 1, .int (mo + 1)])), (u9.1, .inl (cO, 10, .inr (.inr (.inr (.inr (va_up (fun _ => none) 0 (some u9.2.1))))))), (u9.2.1, .inr (9, [.int i, .int c, .ref u9.2.2])), (u9.2.2, .inr (12, [.ref e0, .int 0, .int 0]))] H := hP
    have hD : va_D A [(o9, .inl (cJ, 1, .inr (.inl (vp_updL g9 0 r9.toInt64)))), (h, .inr (11, [.ref rc, .ref d])), (d, .inr (12, [.ref u9.1, .int 1, .int (mo + 1)])), (u9.1, .inl (cO, 10, .inr (.inr (.inr (.inr (va_up (fun _ => none) 0 (some u9.2.1))))))), (u9.2.1, .inr (9, [.int i, .int c, .ref u9.2.2])), (u9.2.2, .inr (12, [.ref e0, .int 0, .int 0]))] := hD
    refine lv_goto (tgt := 17) hx hb d_Law_plan_10 rfl ?_
    refine lv_iconst (v := 0) hx hb d_Law_plan_17 (by decide) ?_
    have hP9 := hP.sub (ws' := [(h, .inr (11, [.ref rc, .ref d])), (d, .inr (12, [.ref u9.1, .int 1, .int (mo + 1)])), (u9.1, .inl (cO, 10, .inr (.inr (.inr (.inr (va_up (fun _ => none) 0 (some u9.2.1))))))), (u9.2.1, .inr (9, [.int i, .int c, .ref u9.2.2])), (u9.2.2, .inr (12, [.ref e0, .int 0, .int 0])), (o9, .inl (cJ, 1, .inr (.inl (vp_updL g9 0 r9.toInt64))))]) [1, 2, 3, 4, 5, 0] rfl
    have hD9 := hD.sub (ws' := [(h, .inr (11, [.ref rc, .ref d])), (d, .inr (12, [.ref u9.1, .int 1, .int (mo + 1)])), (u9.1, .inl (cO, 10, .inr (.inr (.inr (.inr (va_up (fun _ => none) 0 (some u9.2.1))))))), (u9.2.1, .inr (9, [.int i, .int c, .ref u9.2.2])), (u9.2.2, .inr (12, [.ref e0, .int 0, .int 0])), (o9, .inl (cJ, 1, .inr (.inl (vp_updL g9 0 r9.toInt64))))]) [1, 2, 3, 4, 5, 0] (by decide) rfl
    have hK9 := hK.sub (tys' := [(cO, .object "java/lang/Object"), (cJ, .long)]) [0, 1] rfl
    refine W.widen (k := 3) (n := 16) (by omega) (by omega) ?_
    exact W.iret (v := 0) hx hb hr (fun t ht hW => ⟨⟨_, (u9, r9), rfl, ⟨rfl, e5⟩, ⟨by rw [ht]; exact hP9, va_K.moved hW.alike hK9, hD9⟩⟩, hS.F ht⟩) hS.2.2 d_Law_plan_18
  · exact absurd eX (fun z => z)
set_option maxHeartbeats 4000000 in
set_option maxRecDepth 100000 in
theorem c_Law_writeTables_new (l : Launch) (D : va_G) (hfl : l.stackTraces = false) (B0 : State) (hG : zG B0) (sz : Nat) (cB : ClassId) (h rv d tp tb ct dp : Nat) (a : Nat) (cN : ClassId) (ln hd : Nat) (hf : Nat → Option Nat) (T : List Int32) (f : Nat → Int32) (b0 : Nat) (mo ve : Int32) (cJ : ClassId) (o9 : Nat) (g9 : Nat → Int64) (hrc : rc f T) (hv1 : ¬ ve < 0) (hv2 : ¬ 31 < ve) (hno : hf (0 % 256) = none) (hT : T.length + 188 ≤ 9400) : Met l y_Law_writeTables [Cond.codeWith y_Law_writeTables b_Law_writeTables 4 (some .int) [(0, 9, 12, 13)]] ({ frames := 7, cells := 2, slots := 14, locals := 158 }) (zMo [.ref h, .int ve, .ref o9] D [(h, .inr (11, [.ref rv, .ref d])), (rv, .inr (4, [.ref tp, .ref ln, .ref tb, .ref ct, .ref dp])), (ln, .inr (2, [.ref hd])), (hd, .inl (cN, 256, .inr (.inr (.inr (.inr hf))))), (tp, .inr (0, [.ref a, .int (nI T.length)])), (a, .inl (cB, 9400, .inl f)), (d, .inr (12, [.ref b0, .int 0, .int mo])), (o9, .inl (cJ, 1, .inr (.inl g9)))] [(cB, .byte), (cN, .object "StreamSplitter$Lane"), (cJ, .long)] sz B0) (va_Qi (fun r0 (u : (Nat × (Nat → Int32)) × Int32) => r0 = 0 ∧ (fun r0 (u : Nat × (Nat → Int32)) => r0 = nI (T ++ ppL 0 0 184 0 (esL ((((((([] : List Int32) ++ bsL 0 1) ++ bsL (0 : Int32).toInt64 1) ++ bsL (45056 : Int32).toInt64 2) ++ bsL (65535 : Int32).toInt64 2) ++ bsL (193 ||| (ve <<< ((1 : Int32) &&& 31))).toInt64 1) ++ bsL 0 2))).length ∧ rc u.2 (T ++ ppL 0 0 184 0 (esL ((((((([] : List Int32) ++ bsL 0 1) ++ bsL (0 : Int32).toInt64 1) ++ bsL (45056 : Int32).toInt64 2) ++ bsL (65535 : Int32).toInt64 2) ++ bsL (193 ||| (ve <<< ((1 : Int32) &&& 31))).toInt64 1) ++ bsL 0 2)))) u.2 u.1) (fun (u : (Nat × (Nat → Int32)) × Int32) t => zW D (va_A [(h, .inr (11, [.ref rv, .ref d])), (rv, .inr (4, [.ref tp, .ref ln, .ref tb, .ref ct, .ref dp])), (ln, .inr (2, [.ref hd])), (hd, .inl (cN, 256, .inr (.inr (.inr (.inr hf))))), (tp, .inr (0, [.ref a, .int (nI T.length)])), (a, .inl (cB, 9400, .inl f)), (d, .inr (12, [.ref b0, .int 0, .int mo])), (o9, .inl (cJ, 1, .inr (.inl g9)))] sz) [(h, .inr (11, [.ref rv, .ref d])), (rv, .inr (4, [.ref tp, .ref ln, .ref tb, .ref ct, .ref dp])), (ln, .inr (2, [.ref hd])), (hd, .inl (cN, 256, .inr (.inr (.inr (.inr (va_up hf (0 % 256) (some u.1.1))))))), (tp, .inr (0, [.ref a, .int (nI (T ++ ppL 0 0 184 0 (esL ((((((([] : List Int32) ++ bsL 0 1) ++ bsL (0 : Int32).toInt64 1) ++ bsL (45056 : Int32).toInt64 2) ++ bsL (65535 : Int32).toInt64 2) ++ bsL (193 ||| (ve <<< ((1 : Int32) &&& 31))).toInt64 1) ++ bsL 0 2))).length)])), (a, .inl (cB, 9400, .inl u.1.2)), (u.1.1, .inr (1, [.int (nI 0), .null, .int (-1), .int 0, .long (-1), .int (nI (0 + (184 + 183) / 184)), .null, .null])), (d, .inr (12, [.ref b0, .int 0, .int mo])), (o9, .inl (cJ, 1, .inr (.inl (vp_updL g9 0 u.2.toInt64))))] [(cB, .byte), (cN, .object "StreamSplitter$Lane"), (cJ, .long)] t) (va_A [(h, .inr (11, [.ref rv, .ref d])), (rv, .inr (4, [.ref tp, .ref ln, .ref tb, .ref ct, .ref dp])), (ln, .inr (2, [.ref hd])), (hd, .inl (cN, 256, .inr (.inr (.inr (.inr hf))))), (tp, .inr (0, [.ref a, .int (nI T.length)])), (a, .inl (cB, 9400, .inl f)), (d, .inr (12, [.ref b0, .int 0, .int mo])), (o9, .inl (cJ, 1, .inr (.inl g9)))] sz)) 2 14 (va_A [(h, .inr (11, [.ref rv, .ref d])), (rv, .inr (4, [.ref tp, .ref ln, .ref tb, .ref ct, .ref dp])), (ln, .inr (2, [.ref hd])), (hd, .inl (cN, 256, .inr (.inr (.inr (.inr hf))))), (tp, .inr (0, [.ref a, .int (nI T.length)])), (a, .inl (cB, 9400, .inl f)), (d, .inr (12, [.ref b0, .int 0, .int mo])), (o9, .inl (cJ, 1, .inr (.inl g9)))] sz) := by
  refine va_MetW (cc := b_Law_writeTables) (maxL := 4) (ret := (some .int)) (hh := [(0, 9, 12, 13)]) (by decide) rfl ?_
  intro p e s m args below meth cd s₁ Bd hml hv
  obtain ⟨rfl, hsz, hP, hK, hN, hD0, hO⟩ := hv
  have hx := Bd.exec
  have hb := Bd.bytes
  have hr := Bd.returns
  have hts := hN.use (a := ([.ref h, .int ve, .ref o9]).toArray)
  have hown : s.vm.findClass R_Law = some m.cls := findClass_of_methodNamed Bd.named
  have hlocks := Bd.notSynchronized
  have htab := z_tab Bd
  subst hsz
  have hD := hD0.self (sz := s.heap.size)
  have hAO := z_AO hD0 hO
  clear hD0
  have hA : ∀ q : Nat, s.heap.size ≤ q → va_A [(h, .inr (11, [.ref rv, .ref d])), (rv, .inr (4, [.ref tp, .ref ln, .ref tb, .ref ct, .ref dp])), (ln, .inr (2, [.ref hd])), (hd, .inl (cN, 256, .inr (.inr (.inr (.inr hf))))), (tp, .inr (0, [.ref a, .int (nI T.length)])), (a, .inl (cB, 9400, .inl f)), (d, .inr (12, [.ref b0, .int 0, .int mo])), (o9, .inl (cJ, 1, .inr (.inl g9)))] s.heap.size q := fun q h => Or.inr h
  have hS : va_S (va_A [(h, .inr (11, [.ref rv, .ref d])), (rv, .inr (4, [.ref tp, .ref ln, .ref tb, .ref ct, .ref dp])), (ln, .inr (2, [.ref hd])), (hd, .inl (cN, 256, .inr (.inr (.inr (.inr hf))))), (tp, .inr (0, [.ref a, .int (nI T.length)])), (a, .inl (cB, 9400, .inl f)), (d, .inr (12, [.ref b0, .int 0, .int mo])), (o9, .inl (cJ, 1, .inr (.inl g9)))] s.heap.size) s.heap s.heap [] := va_S.rf
  generalize hAe : va_A [(h, .inr (11, [.ref rv, .ref d])), (rv, .inr (4, [.ref tp, .ref ln, .ref tb, .ref ct, .ref dp])), (ln, .inr (2, [.ref hd])), (hd, .inl (cN, 256, .inr (.inr (.inr (.inr hf))))), (tp, .inr (0, [.ref a, .int (nI T.length)])), (a, .inl (cB, 9400, .inl f)), (d, .inr (12, [.ref b0, .int 0, .int mo])), (o9, .inl (cJ, 1, .inr (.inl g9)))] s.heap.size = A at hD hA hS hAO ⊢
  have hP : va_P D classes [(h, .inr (11, [.ref rv, .ref d])), (rv, .inr (4, [.ref tp, .ref ln, .ref tb, .ref ct, .ref dp])), (ln, .inr (2, [.ref hd])), (hd, .inl (cN, 256, .inr (.inr (.inr (.inr hf))))), (tp, .inr (0, [.ref a, .int (nI T.length)])), (a, .inl (cB, 9400, .inl f)), (d, .inr (12, [.ref b0, .int 0, .int mo])), (o9, .inl (cJ, 1, .inr (.inl g9)))] s.heap := hP
  have hl := lv_entry ([.ref h, .int ve, .ref o9]) (n := 4) (Nat.le_of_ble_eq_true rfl)
  rw [lg_entry_eq]
  generalize (lg_sl ([.ref h, .int ve, .ref o9]) ++ List.replicate (4 - (lg_sl ([.ref h, .int ve, .ref o9])).length) Slot.unset).toArray = ls at hl ⊢
  have hl : lv_has ls 4 [(0, .ref h), (1, .int ve), (2, .ref o9)] := hl
  refine lv_aload_n hx hb d_Law_writeTables_0 rfl (lv_at hl 2 rfl) ?_
  refine lv_iconst (v := 0) hx hb d_Law_writeTables_1 (by decide) ?_
  refine lv_aload_n hx hb d_Law_writeTables_2 rfl (lv_at hl 0 rfl) ?_
  refine lv_iload_n hx hb d_Law_writeTables_3 rfl (lv_at hl 1 rfl) ?_
  have hPc := hP.sub (ws' := [(h, .inr (11, [.ref rv, .ref d])), (rv, .inr (4, [.ref tp, .ref ln, .ref tb, .ref ct, .ref dp])), (ln, .inr (2, [.ref hd])), (hd, .inl (cN, 256, .inr (.inr (.inr (.inr hf))))), (tp, .inr (0, [.ref a, .int (nI T.length)])), (a, .inl (cB, 9400, .inl f)), (d, .inr (12, [.ref b0, .int 0, .int mo]))]) [0, 1, 2, 3, 4, 5, 6] rfl
  have hKc := hK.sub (tys' := [(cB, .byte), (cN, .object "StreamSplitter$Lane")]) [0, 1] rfl
  have hDc := hD.sub (ws' := [(h, .inr (11, [.ref rv, .ref d])), (rv, .inr (4, [.ref tp, .ref ln, .ref tb, .ref ct, .ref dp])), (ln, .inr (2, [.ref hd])), (hd, .inl (cN, 256, .inr (.inr (.inr (.inr hf))))), (tp, .inr (0, [.ref a, .int (nI T.length)])), (a, .inl (cB, 9400, .inl f)), (d, .inr (12, [.ref b0, .int 0, .int mo]))]) [0, 1, 2, 3, 4, 5, 6] (by decide) rfl
  have hFc := va_free (wc := [(h, .inr (11, [.ref rv, .ref d])), (rv, .inr (4, [.ref tp, .ref ln, .ref tb, .ref ct, .ref dp])), (ln, .inr (2, [.ref hd])), (hd, .inl (cN, 256, .inr (.inr (.inr (.inr hf))))), (tp, .inr (0, [.ref a, .int (nI T.length)])), (a, .inl (cB, 9400, .inl f)), (d, .inr (12, [.ref b0, .int 0, .int mo]))]) hD hS hA [0, 1, 2, 3, 4, 5, 6] rfl
  refine z_callVTi (As := [.int ve]) (rest := [.int 0, .ref o9]) ⟨hx, hb, hml, hown, hts⟩ (c_SS_writeTables_new l D hfl B0 hG s.heap.size cB h rv d tp tb ct dp a cN ln hd hf T f b0 mo ve hrc hv1 hv2 hno hT) (z_cV hN wd_935 wd_59 wd_932 hd_SS_writeTables rfl rfl ⟨Nat.le_of_ble_eq_true rfl, Nat.le_of_ble_eq_true rfl⟩ wd_933 wd_934) (z_preVo (va_recv (ci := 11) (q0 := 0) hK hP rfl rfl) hPc hKc hN hDc hO hS hAO) rfl hl.1 rfl (lv_room (Nat.le_of_ble_eq_true rfl)) d_Law_writeTables_4 ⟨Nat.le_of_ble_eq_true rfl, Nat.le_of_ble_eq_true rfl⟩ hS (fun q _ h => hFc q h) hFc (fun r9 u9 t H locs ht hvm e4 hB hz1 hk1 hS => ?_) (fun X x H locs eX hcx hz1 hk1 hS => ?_)
  · obtain ⟨hP1, hK1, hD1⟩ := hB
    rw [ht] at hP1
    obtain ⟨hP, hD⟩ := va_join (wr := [(o9, .inl (cJ, 1, .inr (.inl g9)))]) (w1 := [(h, .inr (11, [.ref rv, .ref d])), (rv, .inr (4, [.ref tp, .ref ln, .ref tb, .ref ct, .ref dp])), (ln, .inr (2, [.ref hd])), (hd, .inl (cN, 256, .inr (.inr (.inr (.inr (va_up hf (0 % 256) (some u9.1))))))), (tp, .inr (0, [.ref a, .int (nI (T ++ ppL 0 0 184 0 (esL ((((((([] : List Int32) ++ bsL 0 1) ++ bsL (0 : Int32).toInt64 1) ++ bsL (45056 : Int32).toInt64 2) ++ bsL (65535 : Int32).toInt64 2) ++ bsL (193 ||| (ve <<< ((1 : Int32) &&& 31))).toInt64 1) ++ bsL 0 2))).length)])), (a, .inl (cB, 9400, .inl u9.2)), (u9.1, .inr (1, [.int (nI 0), .null, .int (-1), .int 0, .long (-1), .int (nI (0 + (184 + 183) / 184)), .null, .null])), (d, .inr (12, [.ref b0, .int 0, .int mo]))]) hP hD [0, 1, 2, 3, 4, 5, 6] [7] rfl rfl (by decide) (by decide) hk1 hFc hP1 hD1
    clear hk1 hP1 hD1 hFc hPc hDc hz1
    have hP : va_P D classes [(o9, .inl (cJ, 1, .inr (.inl g9))), (h, .inr (11, [.ref rv, .ref d])), (rv, .inr (4, [.ref tp, .ref ln, .ref tb, .ref ct, .ref dp])), (ln, .inr (2, [.ref hd])), (hd, .inl (cN, 256, .inr (.inr (.inr (.inr (va_up hf (0 % 256) (some u9.1))))))), (tp, .inr (0, [.ref a, .int (nI (T ++ ppL 0 0 184 0 (esL ((((((([] : List Int32) ++ bsL 0 1) ++ bsL (0 : Int32).toInt64 1) ++ bsL (45056 : Int32).toInt64 2) ++ bsL (65535 : Int32).toInt64 2) ++ bsL (193 ||| (ve <<< ((1 : Int32) &&& 31))).toInt64 1) ++ bsL 0 2))).length)])), (a, .inl (cB, 9400, .inl u9.2)), (u9.1, .inr (1, [.int (nI 0), .null, .int (-1), .int 0, .long (-1), .int (nI (0 + (184 + 183) / 184)), .null, .null])), (d, .inr (12, [.ref b0, .int 0, .int mo]))] H := hP
    have hD : va_D A [(o9, .inl (cJ, 1, .inr (.inl g9))), (h, .inr (11, [.ref rv, .ref d])), (rv, .inr (4, [.ref tp, .ref ln, .ref tb, .ref ct, .ref dp])), (ln, .inr (2, [.ref hd])), (hd, .inl (cN, 256, .inr (.inr (.inr (.inr (va_up hf (0 % 256) (some u9.1))))))), (tp, .inr (0, [.ref a, .int (nI (T ++ ppL 0 0 184 0 (esL ((((((([] : List Int32) ++ bsL 0 1) ++ bsL (0 : Int32).toInt64 1) ++ bsL (45056 : Int32).toInt64 2) ++ bsL (65535 : Int32).toInt64 2) ++ bsL (193 ||| (ve <<< ((1 : Int32) &&& 31))).toInt64 1) ++ bsL 0 2))).length)])), (a, .inl (cB, 9400, .inl u9.2)), (u9.1, .inr (1, [.int (nI 0), .null, .int (-1), .int 0, .long (-1), .int (nI (0 + (184 + 183) / 184)), .null, .null])), (d, .inr (12, [.ref b0, .int 0, .int mo]))] := hD
    refine lv_i2l (v := r9.toInt64) hx hb d_Law_writeTables_7 rfl ?_
    refine z_last hx hb hK hP hD hS 0 2 rfl rfl 0 rfl (by decide) (by decide) d_Law_writeTables_8 (fun H locs hP hD hS => ?_)
    have hP : va_P D classes [(o9, .inl (cJ, 1, .inr (.inl (vp_updL g9 0 r9.toInt64)))), (h, .inr (11, [.ref rv, .ref d])), (rv, .inr (4, [.ref tp, .ref ln, .ref tb, .ref ct, .ref dp])), (ln, .inr (2, [.ref hd])), (hd, .inl (cN, 256, .inr (.inr (.inr (.inr (va_up hf (0 % 256) (some u9.1))))))), (tp, .inr (0, [.ref a, .int (nI (T ++ ppL 0 0 184 0 (esL ((((((([] : List Int32) ++ bsL 0 1) ++ bsL (0 : Int32).toInt64 1) ++ bsL (45056 : Int32).toInt64 2) ++ bsL (65535 : Int32).toInt64 2) ++ bsL (193 ||| (ve <<< ((1 : Int32) &&& 31))).toInt64 1) ++ bsL 0 2))).length)])), (a, .inl (cB, 9400, .inl u9.2)), (u9.1, .inr (1, [.int (nI 0), .null, .int (-1), .int 0, .long (-1), .int (nI (0 + (184 + 183) / 184)), .null, .null])), (d, .inr (12, [.ref b0, .int 0, .int mo]))] H := hP
    have hD : va_D A [(o9, .inl (cJ, 1, .inr (.inl (vp_updL g9 0 r9.toInt64)))), (h, .inr (11, [.ref rv, .ref d])), (rv, .inr (4, [.ref tp, .ref ln, .ref tb, .ref ct, .ref dp])), (ln, .inr (2, [.ref hd])), (hd, .inl (cN, 256, .inr (.inr (.inr (.inr (va_up hf (0 % 256) (some u9.1))))))), (tp, .inr (0, [.ref a, .int (nI (T ++ ppL 0 0 184 0 (esL ((((((([] : List Int32) ++ bsL 0 1) ++ bsL (0 : Int32).toInt64 1) ++ bsL (45056 : Int32).toInt64 2) ++ bsL (65535 : Int32).toInt64 2) ++ bsL (193 ||| (ve <<< ((1 : Int32) &&& 31))).toInt64 1) ++ bsL 0 2))).length)])), (a, .inl (cB, 9400, .inl u9.2)), (u9.1, .inr (1, [.int (nI 0), .null, .int (-1), .int 0, .long (-1), .int (nI (0 + (184 + 183) / 184)), .null, .null])), (d, .inr (12, [.ref b0, .int 0, .int mo]))] := hD
    refine lv_goto (tgt := 15) hx hb d_Law_writeTables_9 rfl ?_
    refine lv_iconst (v := 0) hx hb d_Law_writeTables_15 (by decide) ?_
    have hP9 := hP.sub (ws' := [(h, .inr (11, [.ref rv, .ref d])), (rv, .inr (4, [.ref tp, .ref ln, .ref tb, .ref ct, .ref dp])), (ln, .inr (2, [.ref hd])), (hd, .inl (cN, 256, .inr (.inr (.inr (.inr (va_up hf (0 % 256) (some u9.1))))))), (tp, .inr (0, [.ref a, .int (nI (T ++ ppL 0 0 184 0 (esL ((((((([] : List Int32) ++ bsL 0 1) ++ bsL (0 : Int32).toInt64 1) ++ bsL (45056 : Int32).toInt64 2) ++ bsL (65535 : Int32).toInt64 2) ++ bsL (193 ||| (ve <<< ((1 : Int32) &&& 31))).toInt64 1) ++ bsL 0 2))).length)])), (a, .inl (cB, 9400, .inl u9.2)), (u9.1, .inr (1, [.int (nI 0), .null, .int (-1), .int 0, .long (-1), .int (nI (0 + (184 + 183) / 184)), .null, .null])), (d, .inr (12, [.ref b0, .int 0, .int mo])), (o9, .inl (cJ, 1, .inr (.inl (vp_updL g9 0 r9.toInt64))))]) [1, 2, 3, 4, 5, 6, 7, 8, 0] rfl
    have hD9 := hD.sub (ws' := [(h, .inr (11, [.ref rv, .ref d])), (rv, .inr (4, [.ref tp, .ref ln, .ref tb, .ref ct, .ref dp])), (ln, .inr (2, [.ref hd])), (hd, .inl (cN, 256, .inr (.inr (.inr (.inr (va_up hf (0 % 256) (some u9.1))))))), (tp, .inr (0, [.ref a, .int (nI (T ++ ppL 0 0 184 0 (esL ((((((([] : List Int32) ++ bsL 0 1) ++ bsL (0 : Int32).toInt64 1) ++ bsL (45056 : Int32).toInt64 2) ++ bsL (65535 : Int32).toInt64 2) ++ bsL (193 ||| (ve <<< ((1 : Int32) &&& 31))).toInt64 1) ++ bsL 0 2))).length)])), (a, .inl (cB, 9400, .inl u9.2)), (u9.1, .inr (1, [.int (nI 0), .null, .int (-1), .int 0, .long (-1), .int (nI (0 + (184 + 183) / 184)), .null, .null])), (d, .inr (12, [.ref b0, .int 0, .int mo])), (o9, .inl (cJ, 1, .inr (.inl (vp_updL g9 0 r9.toInt64))))]) [1, 2, 3, 4, 5, 6, 7, 8, 0] (by decide) rfl
    have hK9 := hK.sub (tys' := [(cB, .byte), (cN, .object "StreamSplitter$Lane"), (cJ, .long)]) [0, 1, 2] rfl
    refine W.widen (k := 2) (n := 14) (by omega) (by omega) ?_
    exact W.iret (v := 0) hx hb hr (fun t ht hW => ⟨⟨_, (u9, r9), rfl, ⟨rfl, e4⟩, ⟨by rw [ht]; exact hP9, va_K.moved hW.alike hK9, hD9⟩⟩, hS.F ht⟩) hS.2.2 d_Law_writeTables_16
  · exact absurd eX (fun z => z)
set_option maxHeartbeats 4000000 in
set_option maxRecDepth 100000 in
theorem c_Law_writePiece_new (l : Launch) (D : va_G) (hfl : l.stackTraces = false) (B0 : State) (hG : zG B0) (sz : Nat) (cB : ClassId) (h rv d tp tb ct dp : Nat) (a : Nat) (cN : ClassId) (ln hd : Nat) (hf : Nat → Option Nat) (T : List Int32) (f : Nat → Int32) (i9 n pid : Nat) (t0 : Int64) (sd fl : Int32) (cJ : ClassId) (o9 : Nat) (g9 : Nat → Int64) (hrc : rc f T) (hi9 : i9 ≤ 2097151) (hn4 : n ≤ 4000) (ht0 : t0 < 8589934592) (hpe : i9 % 8192 = pid) (hno : hf (pid % 256) = none) (hT : T.length + 188 * ((9 + tx t0 + n + 183) / 184) ≤ 9400) : Met l y_Law_writePiece [Cond.codeWith y_Law_writePiece b_Law_writePiece 9 (some .int) [(0, 17, 20, 13)]] ({ frames := 5, cells := 2, slots := 14, locals := 119 }) (zMo [.ref h, .int (nI i9), .long t0, .int (nI n), .int sd, .int fl, .ref o9] D [(h, .inr (11, [.ref rv, .ref d])), (rv, .inr (4, [.ref tp, .ref ln, .ref tb, .ref ct, .ref dp])), (ln, .inr (2, [.ref hd])), (hd, .inl (cN, 256, .inr (.inr (.inr (.inr hf))))), (tp, .inr (0, [.ref a, .int (nI T.length)])), (a, .inl (cB, 9400, .inl f)), (o9, .inl (cJ, 1, .inr (.inl g9)))] [(cB, .byte), (cN, .object "StreamSplitter$Lane"), (cJ, .long)] sz B0) (va_Qi (fun r0 (u : (Nat × (Nat → Int32)) × Int32) => r0 = 0 ∧ (fun r0 (u : Nat × (Nat → Int32)) => r0 = nI (T ++ ppL pid 0 (9 + tx t0 + n) 0 ((([] : List Int32) ++ phL (nI (i9 / 8192)) t0 (if fl = 0 then 0 else nI (3 + tx t0 + n))) ++ gnL sd n)).length ∧ rc u.2 (T ++ ppL pid 0 (9 + tx t0 + n) 0 ((([] : List Int32) ++ phL (nI (i9 / 8192)) t0 (if fl = 0 then 0 else nI (3 + tx t0 + n))) ++ gnL sd n))) u.2 u.1) (fun (u : (Nat × (Nat → Int32)) × Int32) t => zW D (va_A [(h, .inr (11, [.ref rv, .ref d])), (rv, .inr (4, [.ref tp, .ref ln, .ref tb, .ref ct, .ref dp])), (ln, .inr (2, [.ref hd])), (hd, .inl (cN, 256, .inr (.inr (.inr (.inr hf))))), (tp, .inr (0, [.ref a, .int (nI T.length)])), (a, .inl (cB, 9400, .inl f)), (o9, .inl (cJ, 1, .inr (.inl g9)))] sz) [(h, .inr (11, [.ref rv, .ref d])), (rv, .inr (4, [.ref tp, .ref ln, .ref tb, .ref ct, .ref dp])), (ln, .inr (2, [.ref hd])), (hd, .inl (cN, 256, .inr (.inr (.inr (.inr (va_up hf (pid % 256) (some u.1.1))))))), (tp, .inr (0, [.ref a, .int (nI (T ++ ppL pid 0 (9 + tx t0 + n) 0 ((([] : List Int32) ++ phL (nI (i9 / 8192)) t0 (if fl = 0 then 0 else nI (3 + tx t0 + n))) ++ gnL sd n)).length)])), (a, .inl (cB, 9400, .inl u.1.2)), (u.1.1, .inr (1, [.int (nI pid), .null, .int (-1), .int 0, .long (-1), .int (nI (0 + (9 + tx t0 + n + 183) / 184)), .null, .null])), (o9, .inl (cJ, 1, .inr (.inl (vp_updL g9 0 u.2.toInt64))))] [(cB, .byte), (cN, .object "StreamSplitter$Lane"), (cJ, .long)] t) (va_A [(h, .inr (11, [.ref rv, .ref d])), (rv, .inr (4, [.ref tp, .ref ln, .ref tb, .ref ct, .ref dp])), (ln, .inr (2, [.ref hd])), (hd, .inl (cN, 256, .inr (.inr (.inr (.inr hf))))), (tp, .inr (0, [.ref a, .int (nI T.length)])), (a, .inl (cB, 9400, .inl f)), (o9, .inl (cJ, 1, .inr (.inl g9)))] sz)) 2 14 (va_A [(h, .inr (11, [.ref rv, .ref d])), (rv, .inr (4, [.ref tp, .ref ln, .ref tb, .ref ct, .ref dp])), (ln, .inr (2, [.ref hd])), (hd, .inl (cN, 256, .inr (.inr (.inr (.inr hf))))), (tp, .inr (0, [.ref a, .int (nI T.length)])), (a, .inl (cB, 9400, .inl f)), (o9, .inl (cJ, 1, .inr (.inl g9)))] sz) := by
  refine va_MetW (cc := b_Law_writePiece) (maxL := 9) (ret := (some .int)) (hh := [(0, 17, 20, 13)]) (by decide) rfl ?_
  intro p e s m args below meth cd s₁ Bd hml hv
  obtain ⟨rfl, hsz, hP, hK, hN, hD0, hO⟩ := hv
  have hx := Bd.exec
  have hb := Bd.bytes
  have hr := Bd.returns
  have hts := hN.use (a := ([.ref h, .int (nI i9), .long t0, .int (nI n), .int sd, .int fl, .ref o9]).toArray)
  have hown : s.vm.findClass R_Law = some m.cls := findClass_of_methodNamed Bd.named
  have hlocks := Bd.notSynchronized
  have htab := z_tab Bd
  subst hsz
  have hD := hD0.self (sz := s.heap.size)
  have hAO := z_AO hD0 hO
  clear hD0
  have hA : ∀ q : Nat, s.heap.size ≤ q → va_A [(h, .inr (11, [.ref rv, .ref d])), (rv, .inr (4, [.ref tp, .ref ln, .ref tb, .ref ct, .ref dp])), (ln, .inr (2, [.ref hd])), (hd, .inl (cN, 256, .inr (.inr (.inr (.inr hf))))), (tp, .inr (0, [.ref a, .int (nI T.length)])), (a, .inl (cB, 9400, .inl f)), (o9, .inl (cJ, 1, .inr (.inl g9)))] s.heap.size q := fun q h => Or.inr h
  have hS : va_S (va_A [(h, .inr (11, [.ref rv, .ref d])), (rv, .inr (4, [.ref tp, .ref ln, .ref tb, .ref ct, .ref dp])), (ln, .inr (2, [.ref hd])), (hd, .inl (cN, 256, .inr (.inr (.inr (.inr hf))))), (tp, .inr (0, [.ref a, .int (nI T.length)])), (a, .inl (cB, 9400, .inl f)), (o9, .inl (cJ, 1, .inr (.inl g9)))] s.heap.size) s.heap s.heap [] := va_S.rf
  generalize hAe : va_A [(h, .inr (11, [.ref rv, .ref d])), (rv, .inr (4, [.ref tp, .ref ln, .ref tb, .ref ct, .ref dp])), (ln, .inr (2, [.ref hd])), (hd, .inl (cN, 256, .inr (.inr (.inr (.inr hf))))), (tp, .inr (0, [.ref a, .int (nI T.length)])), (a, .inl (cB, 9400, .inl f)), (o9, .inl (cJ, 1, .inr (.inl g9)))] s.heap.size = A at hD hA hS hAO ⊢
  have hP : va_P D classes [(h, .inr (11, [.ref rv, .ref d])), (rv, .inr (4, [.ref tp, .ref ln, .ref tb, .ref ct, .ref dp])), (ln, .inr (2, [.ref hd])), (hd, .inl (cN, 256, .inr (.inr (.inr (.inr hf))))), (tp, .inr (0, [.ref a, .int (nI T.length)])), (a, .inl (cB, 9400, .inl f)), (o9, .inl (cJ, 1, .inr (.inl g9)))] s.heap := hP
  have hl := lv_entry ([.ref h, .int (nI i9), .long t0, .int (nI n), .int sd, .int fl, .ref o9]) (n := 9) (Nat.le_of_ble_eq_true rfl)
  rw [lg_entry_eq]
  generalize (lg_sl ([.ref h, .int (nI i9), .long t0, .int (nI n), .int sd, .int fl, .ref o9]) ++ List.replicate (9 - (lg_sl ([.ref h, .int (nI i9), .long t0, .int (nI n), .int sd, .int fl, .ref o9])).length) Slot.unset).toArray = ls at hl ⊢
  have hl : lv_has ls 9 [(0, .ref h), (1, .int (nI i9)), (2, .long t0), (4, .int (nI n)), (5, .int sd), (6, .int fl), (7, .ref o9)] := hl
  refine lv_aload hx hb d_Law_writePiece_0 (lv_at hl 6 rfl) ?_
  refine lv_iconst (v := 0) hx hb d_Law_writePiece_2 (by decide) ?_
  refine lv_aload_n hx hb d_Law_writePiece_3 rfl (lv_at hl 0 rfl) ?_
  refine lv_iload_n hx hb d_Law_writePiece_4 rfl (lv_at hl 1 rfl) ?_
  refine lv_lload_n hx hb d_Law_writePiece_5 rfl (lv_at hl 2 rfl) ?_
  refine lv_iload hx hb d_Law_writePiece_6 (lv_at hl 3 rfl) ?_
  refine lv_iload hx hb d_Law_writePiece_8 (lv_at hl 4 rfl) ?_
  refine lv_iload hx hb d_Law_writePiece_10 (lv_at hl 5 rfl) ?_
  have hPc := hP.sub (ws' := [(h, .inr (11, [.ref rv, .ref d])), (rv, .inr (4, [.ref tp, .ref ln, .ref tb, .ref ct, .ref dp])), (ln, .inr (2, [.ref hd])), (hd, .inl (cN, 256, .inr (.inr (.inr (.inr hf))))), (tp, .inr (0, [.ref a, .int (nI T.length)])), (a, .inl (cB, 9400, .inl f))]) [0, 1, 2, 3, 4, 5] rfl
  have hKc := hK.sub (tys' := [(cB, .byte), (cN, .object "StreamSplitter$Lane")]) [0, 1] rfl
  have hDc := hD.sub (ws' := [(h, .inr (11, [.ref rv, .ref d])), (rv, .inr (4, [.ref tp, .ref ln, .ref tb, .ref ct, .ref dp])), (ln, .inr (2, [.ref hd])), (hd, .inl (cN, 256, .inr (.inr (.inr (.inr hf))))), (tp, .inr (0, [.ref a, .int (nI T.length)])), (a, .inl (cB, 9400, .inl f))]) [0, 1, 2, 3, 4, 5] (by decide) rfl
  have hFc := va_free (wc := [(h, .inr (11, [.ref rv, .ref d])), (rv, .inr (4, [.ref tp, .ref ln, .ref tb, .ref ct, .ref dp])), (ln, .inr (2, [.ref hd])), (hd, .inl (cN, 256, .inr (.inr (.inr (.inr hf))))), (tp, .inr (0, [.ref a, .int (nI T.length)])), (a, .inl (cB, 9400, .inl f))]) hD hS hA [0, 1, 2, 3, 4, 5] rfl
  refine z_callVTi (As := [.int (nI i9), .long t0, .int (nI n), .int sd, .int fl]) (rest := [.int 0, .ref o9]) ⟨hx, hb, hml, hown, hts⟩ (c_SS_writePiece_new l D hfl B0 hG s.heap.size cB h rv d tp tb ct dp a cN ln hd hf T f i9 n pid t0 sd fl hrc hi9 hn4 ht0 hpe hno hT) (z_cV hN wd_1036 wd_59 wd_1033 hd_SS_writePiece rfl rfl ⟨Nat.le_of_ble_eq_true rfl, Nat.le_of_ble_eq_true rfl⟩ wd_1034 wd_1035) (z_preVo (va_recv (ci := 11) (q0 := 0) hK hP rfl rfl) hPc hKc hN hDc hO hS hAO) rfl hl.1 rfl (lv_room (Nat.le_of_ble_eq_true rfl)) d_Law_writePiece_12 ⟨Nat.le_of_ble_eq_true rfl, Nat.le_of_ble_eq_true rfl⟩ hS (fun q _ h => hFc q h) hFc (fun r9 u9 t H locs ht hvm e12 hB hz1 hk1 hS => ?_) (fun X x H locs eX hcx hz1 hk1 hS => ?_)
  · obtain ⟨hP1, hK1, hD1⟩ := hB
    rw [ht] at hP1
    obtain ⟨hP, hD⟩ := va_join (wr := [(o9, .inl (cJ, 1, .inr (.inl g9)))]) (w1 := [(h, .inr (11, [.ref rv, .ref d])), (rv, .inr (4, [.ref tp, .ref ln, .ref tb, .ref ct, .ref dp])), (ln, .inr (2, [.ref hd])), (hd, .inl (cN, 256, .inr (.inr (.inr (.inr (va_up hf (pid % 256) (some u9.1))))))), (tp, .inr (0, [.ref a, .int (nI (T ++ ppL pid 0 (9 + tx t0 + n) 0 ((([] : List Int32) ++ phL (nI (i9 / 8192)) t0 (if fl = 0 then 0 else nI (3 + tx t0 + n))) ++ gnL sd n)).length)])), (a, .inl (cB, 9400, .inl u9.2)), (u9.1, .inr (1, [.int (nI pid), .null, .int (-1), .int 0, .long (-1), .int (nI (0 + (9 + tx t0 + n + 183) / 184)), .null, .null]))]) hP hD [0, 1, 2, 3, 4, 5] [6] rfl rfl (by decide) (by decide) hk1 hFc hP1 hD1
    clear hk1 hP1 hD1 hFc hPc hDc hz1
    have hP : va_P D classes [(o9, .inl (cJ, 1, .inr (.inl g9))), (h, .inr (11, [.ref rv, .ref d])), (rv, .inr (4, [.ref tp, .ref ln, .ref tb, .ref ct, .ref dp])), (ln, .inr (2, [.ref hd])), (hd, .inl (cN, 256, .inr (.inr (.inr (.inr (va_up hf (pid % 256) (some u9.1))))))), (tp, .inr (0, [.ref a, .int (nI (T ++ ppL pid 0 (9 + tx t0 + n) 0 ((([] : List Int32) ++ phL (nI (i9 / 8192)) t0 (if fl = 0 then 0 else nI (3 + tx t0 + n))) ++ gnL sd n)).length)])), (a, .inl (cB, 9400, .inl u9.2)), (u9.1, .inr (1, [.int (nI pid), .null, .int (-1), .int 0, .long (-1), .int (nI (0 + (9 + tx t0 + n + 183) / 184)), .null, .null]))] H := hP
    have hD : va_D A [(o9, .inl (cJ, 1, .inr (.inl g9))), (h, .inr (11, [.ref rv, .ref d])), (rv, .inr (4, [.ref tp, .ref ln, .ref tb, .ref ct, .ref dp])), (ln, .inr (2, [.ref hd])), (hd, .inl (cN, 256, .inr (.inr (.inr (.inr (va_up hf (pid % 256) (some u9.1))))))), (tp, .inr (0, [.ref a, .int (nI (T ++ ppL pid 0 (9 + tx t0 + n) 0 ((([] : List Int32) ++ phL (nI (i9 / 8192)) t0 (if fl = 0 then 0 else nI (3 + tx t0 + n))) ++ gnL sd n)).length)])), (a, .inl (cB, 9400, .inl u9.2)), (u9.1, .inr (1, [.int (nI pid), .null, .int (-1), .int 0, .long (-1), .int (nI (0 + (9 + tx t0 + n + 183) / 184)), .null, .null]))] := hD
    refine lv_i2l (v := r9.toInt64) hx hb d_Law_writePiece_15 rfl ?_
    refine z_last hx hb hK hP hD hS 0 2 rfl rfl 0 rfl (by decide) (by decide) d_Law_writePiece_16 (fun H locs hP hD hS => ?_)
    have hP : va_P D classes [(o9, .inl (cJ, 1, .inr (.inl (vp_updL g9 0 r9.toInt64)))), (h, .inr (11, [.ref rv, .ref d])), (rv, .inr (4, [.ref tp, .ref ln, .ref tb, .ref ct, .ref dp])), (ln, .inr (2, [.ref hd])), (hd, .inl (cN, 256, .inr (.inr (.inr (.inr (va_up hf (pid % 256) (some u9.1))))))), (tp, .inr (0, [.ref a, .int (nI (T ++ ppL pid 0 (9 + tx t0 + n) 0 ((([] : List Int32) ++ phL (nI (i9 / 8192)) t0 (if fl = 0 then 0 else nI (3 + tx t0 + n))) ++ gnL sd n)).length)])), (a, .inl (cB, 9400, .inl u9.2)), (u9.1, .inr (1, [.int (nI pid), .null, .int (-1), .int 0, .long (-1), .int (nI (0 + (9 + tx t0 + n + 183) / 184)), .null, .null]))] H := hP
    have hD : va_D A [(o9, .inl (cJ, 1, .inr (.inl (vp_updL g9 0 r9.toInt64)))), (h, .inr (11, [.ref rv, .ref d])), (rv, .inr (4, [.ref tp, .ref ln, .ref tb, .ref ct, .ref dp])), (ln, .inr (2, [.ref hd])), (hd, .inl (cN, 256, .inr (.inr (.inr (.inr (va_up hf (pid % 256) (some u9.1))))))), (tp, .inr (0, [.ref a, .int (nI (T ++ ppL pid 0 (9 + tx t0 + n) 0 ((([] : List Int32) ++ phL (nI (i9 / 8192)) t0 (if fl = 0 then 0 else nI (3 + tx t0 + n))) ++ gnL sd n)).length)])), (a, .inl (cB, 9400, .inl u9.2)), (u9.1, .inr (1, [.int (nI pid), .null, .int (-1), .int 0, .long (-1), .int (nI (0 + (9 + tx t0 + n + 183) / 184)), .null, .null]))] := hD
    refine lv_goto (tgt := 24) hx hb d_Law_writePiece_17 rfl ?_
    refine lv_iconst (v := 0) hx hb d_Law_writePiece_24 (by decide) ?_
    have hP9 := hP.sub (ws' := [(h, .inr (11, [.ref rv, .ref d])), (rv, .inr (4, [.ref tp, .ref ln, .ref tb, .ref ct, .ref dp])), (ln, .inr (2, [.ref hd])), (hd, .inl (cN, 256, .inr (.inr (.inr (.inr (va_up hf (pid % 256) (some u9.1))))))), (tp, .inr (0, [.ref a, .int (nI (T ++ ppL pid 0 (9 + tx t0 + n) 0 ((([] : List Int32) ++ phL (nI (i9 / 8192)) t0 (if fl = 0 then 0 else nI (3 + tx t0 + n))) ++ gnL sd n)).length)])), (a, .inl (cB, 9400, .inl u9.2)), (u9.1, .inr (1, [.int (nI pid), .null, .int (-1), .int 0, .long (-1), .int (nI (0 + (9 + tx t0 + n + 183) / 184)), .null, .null])), (o9, .inl (cJ, 1, .inr (.inl (vp_updL g9 0 r9.toInt64))))]) [1, 2, 3, 4, 5, 6, 7, 0] rfl
    have hD9 := hD.sub (ws' := [(h, .inr (11, [.ref rv, .ref d])), (rv, .inr (4, [.ref tp, .ref ln, .ref tb, .ref ct, .ref dp])), (ln, .inr (2, [.ref hd])), (hd, .inl (cN, 256, .inr (.inr (.inr (.inr (va_up hf (pid % 256) (some u9.1))))))), (tp, .inr (0, [.ref a, .int (nI (T ++ ppL pid 0 (9 + tx t0 + n) 0 ((([] : List Int32) ++ phL (nI (i9 / 8192)) t0 (if fl = 0 then 0 else nI (3 + tx t0 + n))) ++ gnL sd n)).length)])), (a, .inl (cB, 9400, .inl u9.2)), (u9.1, .inr (1, [.int (nI pid), .null, .int (-1), .int 0, .long (-1), .int (nI (0 + (9 + tx t0 + n + 183) / 184)), .null, .null])), (o9, .inl (cJ, 1, .inr (.inl (vp_updL g9 0 r9.toInt64))))]) [1, 2, 3, 4, 5, 6, 7, 0] (by decide) rfl
    have hK9 := hK.sub (tys' := [(cB, .byte), (cN, .object "StreamSplitter$Lane"), (cJ, .long)]) [0, 1, 2] rfl
    refine W.widen (k := 2) (n := 14) (by omega) (by omega) ?_
    exact W.iret (v := 0) hx hb hr (fun t ht hW => ⟨⟨_, (u9, r9), rfl, ⟨rfl, e12⟩, ⟨by rw [ht]; exact hP9, va_K.moved hW.alike hK9, hD9⟩⟩, hS.F ht⟩) hS.2.2 d_Law_writePiece_25
  · exact absurd eX (fun z => z)
set_option maxHeartbeats 4000000 in
set_option maxRecDepth 100000 in
theorem c_Law_writeOrder_new (l : Launch) (D : va_G) (hfl : l.stackTraces = false) (B0 : State) (hG : zG B0) (sz : Nat) (cB : ClassId) (h rv d tp tb ct dp : Nat) (a : Nat) (cN : ClassId) (ln hd : Nat) (hf : Nat → Option Nat) (T : List Int32) (f : Nat → Int32) (pid : Nat) (nm how : Int32) (t0 l9 : Int64) (cJ : ClassId) (o9 : Nat) (g9 : Nat → Int64) (hrc : rc f T) (hpid : pid < 8192) (hh1 : ¬ how < 0) (hh2 : ¬ 63 < how) (ht1 : ¬ t0 < 0) (ht2 : t0 < 8589934592) (hl9 : ¬ l9 < 0) (hno : hf (pid % 256) = none) (hT : T.length + 188 ≤ 9400) : Met l y_Law_writeOrder [Cond.codeWith y_Law_writeOrder b_Law_writeOrder 10 (some .int) [(0, 16, 19, 13)]] ({ frames := 6, cells := 2, slots := 14, locals := 145 }) (zMo [.ref h, .int (nI pid), .int nm, .int how, .long t0, .long l9, .ref o9] D [(h, .inr (11, [.ref rv, .ref d])), (rv, .inr (4, [.ref tp, .ref ln, .ref tb, .ref ct, .ref dp])), (ln, .inr (2, [.ref hd])), (hd, .inl (cN, 256, .inr (.inr (.inr (.inr hf))))), (tp, .inr (0, [.ref a, .int (nI T.length)])), (a, .inl (cB, 9400, .inl f)), (o9, .inl (cJ, 1, .inr (.inl g9)))] [(cB, .byte), (cN, .object "StreamSplitter$Lane"), (cJ, .long)] sz B0) (va_Qi (fun r0 (u : (Nat × (Nat → Int32)) × Int32) => r0 = 0 ∧ (fun r0 (u : Nat × (Nat → Int32)) => r0 = nI (T ++ ppL pid 0 184 0 (esL (((((([] : List Int32) ++ bsL 0 1) ++ bsL (252 : Int32).toInt64 1) ++ bsL (12288 : Int32).toInt64 2) ++ ohL nm (shQ l9)) ++ obL how t0 (l9 &&& 8589934591)))).length ∧ rc u.2 (T ++ ppL pid 0 184 0 (esL (((((([] : List Int32) ++ bsL 0 1) ++ bsL (252 : Int32).toInt64 1) ++ bsL (12288 : Int32).toInt64 2) ++ ohL nm (shQ l9)) ++ obL how t0 (l9 &&& 8589934591))))) u.2 u.1) (fun (u : (Nat × (Nat → Int32)) × Int32) t => zW D (va_A [(h, .inr (11, [.ref rv, .ref d])), (rv, .inr (4, [.ref tp, .ref ln, .ref tb, .ref ct, .ref dp])), (ln, .inr (2, [.ref hd])), (hd, .inl (cN, 256, .inr (.inr (.inr (.inr hf))))), (tp, .inr (0, [.ref a, .int (nI T.length)])), (a, .inl (cB, 9400, .inl f)), (o9, .inl (cJ, 1, .inr (.inl g9)))] sz) [(h, .inr (11, [.ref rv, .ref d])), (rv, .inr (4, [.ref tp, .ref ln, .ref tb, .ref ct, .ref dp])), (ln, .inr (2, [.ref hd])), (hd, .inl (cN, 256, .inr (.inr (.inr (.inr (va_up hf (pid % 256) (some u.1.1))))))), (tp, .inr (0, [.ref a, .int (nI (T ++ ppL pid 0 184 0 (esL (((((([] : List Int32) ++ bsL 0 1) ++ bsL (252 : Int32).toInt64 1) ++ bsL (12288 : Int32).toInt64 2) ++ ohL nm (shQ l9)) ++ obL how t0 (l9 &&& 8589934591)))).length)])), (a, .inl (cB, 9400, .inl u.1.2)), (u.1.1, .inr (1, [.int (nI pid), .null, .int (-1), .int 0, .long (-1), .int (nI (0 + (184 + 183) / 184)), .null, .null])), (o9, .inl (cJ, 1, .inr (.inl (vp_updL g9 0 u.2.toInt64))))] [(cB, .byte), (cN, .object "StreamSplitter$Lane"), (cJ, .long)] t) (va_A [(h, .inr (11, [.ref rv, .ref d])), (rv, .inr (4, [.ref tp, .ref ln, .ref tb, .ref ct, .ref dp])), (ln, .inr (2, [.ref hd])), (hd, .inl (cN, 256, .inr (.inr (.inr (.inr hf))))), (tp, .inr (0, [.ref a, .int (nI T.length)])), (a, .inl (cB, 9400, .inl f)), (o9, .inl (cJ, 1, .inr (.inl g9)))] sz)) 2 14 (va_A [(h, .inr (11, [.ref rv, .ref d])), (rv, .inr (4, [.ref tp, .ref ln, .ref tb, .ref ct, .ref dp])), (ln, .inr (2, [.ref hd])), (hd, .inl (cN, 256, .inr (.inr (.inr (.inr hf))))), (tp, .inr (0, [.ref a, .int (nI T.length)])), (a, .inl (cB, 9400, .inl f)), (o9, .inl (cJ, 1, .inr (.inl g9)))] sz) := by
  refine va_MetW (cc := b_Law_writeOrder) (maxL := 10) (ret := (some .int)) (hh := [(0, 16, 19, 13)]) (by decide) rfl ?_
  intro p e s m args below meth cd s₁ Bd hml hv
  obtain ⟨rfl, hsz, hP, hK, hN, hD0, hO⟩ := hv
  have hx := Bd.exec
  have hb := Bd.bytes
  have hr := Bd.returns
  have hts := hN.use (a := ([.ref h, .int (nI pid), .int nm, .int how, .long t0, .long l9, .ref o9]).toArray)
  have hown : s.vm.findClass R_Law = some m.cls := findClass_of_methodNamed Bd.named
  have hlocks := Bd.notSynchronized
  have htab := z_tab Bd
  subst hsz
  have hD := hD0.self (sz := s.heap.size)
  have hAO := z_AO hD0 hO
  clear hD0
  have hA : ∀ q : Nat, s.heap.size ≤ q → va_A [(h, .inr (11, [.ref rv, .ref d])), (rv, .inr (4, [.ref tp, .ref ln, .ref tb, .ref ct, .ref dp])), (ln, .inr (2, [.ref hd])), (hd, .inl (cN, 256, .inr (.inr (.inr (.inr hf))))), (tp, .inr (0, [.ref a, .int (nI T.length)])), (a, .inl (cB, 9400, .inl f)), (o9, .inl (cJ, 1, .inr (.inl g9)))] s.heap.size q := fun q h => Or.inr h
  have hS : va_S (va_A [(h, .inr (11, [.ref rv, .ref d])), (rv, .inr (4, [.ref tp, .ref ln, .ref tb, .ref ct, .ref dp])), (ln, .inr (2, [.ref hd])), (hd, .inl (cN, 256, .inr (.inr (.inr (.inr hf))))), (tp, .inr (0, [.ref a, .int (nI T.length)])), (a, .inl (cB, 9400, .inl f)), (o9, .inl (cJ, 1, .inr (.inl g9)))] s.heap.size) s.heap s.heap [] := va_S.rf
  generalize hAe : va_A [(h, .inr (11, [.ref rv, .ref d])), (rv, .inr (4, [.ref tp, .ref ln, .ref tb, .ref ct, .ref dp])), (ln, .inr (2, [.ref hd])), (hd, .inl (cN, 256, .inr (.inr (.inr (.inr hf))))), (tp, .inr (0, [.ref a, .int (nI T.length)])), (a, .inl (cB, 9400, .inl f)), (o9, .inl (cJ, 1, .inr (.inl g9)))] s.heap.size = A at hD hA hS hAO ⊢
  have hP : va_P D classes [(h, .inr (11, [.ref rv, .ref d])), (rv, .inr (4, [.ref tp, .ref ln, .ref tb, .ref ct, .ref dp])), (ln, .inr (2, [.ref hd])), (hd, .inl (cN, 256, .inr (.inr (.inr (.inr hf))))), (tp, .inr (0, [.ref a, .int (nI T.length)])), (a, .inl (cB, 9400, .inl f)), (o9, .inl (cJ, 1, .inr (.inl g9)))] s.heap := hP
  have hl := lv_entry ([.ref h, .int (nI pid), .int nm, .int how, .long t0, .long l9, .ref o9]) (n := 10) (Nat.le_of_ble_eq_true rfl)
  rw [lg_entry_eq]
  generalize (lg_sl ([.ref h, .int (nI pid), .int nm, .int how, .long t0, .long l9, .ref o9]) ++ List.replicate (10 - (lg_sl ([.ref h, .int (nI pid), .int nm, .int how, .long t0, .long l9, .ref o9])).length) Slot.unset).toArray = ls at hl ⊢
  have hl : lv_has ls 10 [(0, .ref h), (1, .int (nI pid)), (2, .int nm), (3, .int how), (4, .long t0), (6, .long l9), (8, .ref o9)] := hl
  refine lv_aload hx hb d_Law_writeOrder_0 (lv_at hl 6 rfl) ?_
  refine lv_iconst (v := 0) hx hb d_Law_writeOrder_2 (by decide) ?_
  refine lv_aload_n hx hb d_Law_writeOrder_3 rfl (lv_at hl 0 rfl) ?_
  refine lv_iload_n hx hb d_Law_writeOrder_4 rfl (lv_at hl 1 rfl) ?_
  refine lv_iload_n hx hb d_Law_writeOrder_5 rfl (lv_at hl 2 rfl) ?_
  refine lv_iload_n hx hb d_Law_writeOrder_6 rfl (lv_at hl 3 rfl) ?_
  refine lv_lload hx hb d_Law_writeOrder_7 (lv_at hl 4 rfl) ?_
  refine lv_lload hx hb d_Law_writeOrder_9 (lv_at hl 5 rfl) ?_
  have hPc := hP.sub (ws' := [(h, .inr (11, [.ref rv, .ref d])), (rv, .inr (4, [.ref tp, .ref ln, .ref tb, .ref ct, .ref dp])), (ln, .inr (2, [.ref hd])), (hd, .inl (cN, 256, .inr (.inr (.inr (.inr hf))))), (tp, .inr (0, [.ref a, .int (nI T.length)])), (a, .inl (cB, 9400, .inl f))]) [0, 1, 2, 3, 4, 5] rfl
  have hKc := hK.sub (tys' := [(cB, .byte), (cN, .object "StreamSplitter$Lane")]) [0, 1] rfl
  have hDc := hD.sub (ws' := [(h, .inr (11, [.ref rv, .ref d])), (rv, .inr (4, [.ref tp, .ref ln, .ref tb, .ref ct, .ref dp])), (ln, .inr (2, [.ref hd])), (hd, .inl (cN, 256, .inr (.inr (.inr (.inr hf))))), (tp, .inr (0, [.ref a, .int (nI T.length)])), (a, .inl (cB, 9400, .inl f))]) [0, 1, 2, 3, 4, 5] (by decide) rfl
  have hFc := va_free (wc := [(h, .inr (11, [.ref rv, .ref d])), (rv, .inr (4, [.ref tp, .ref ln, .ref tb, .ref ct, .ref dp])), (ln, .inr (2, [.ref hd])), (hd, .inl (cN, 256, .inr (.inr (.inr (.inr hf))))), (tp, .inr (0, [.ref a, .int (nI T.length)])), (a, .inl (cB, 9400, .inl f))]) hD hS hA [0, 1, 2, 3, 4, 5] rfl
  refine z_callVTi (As := [.int (nI pid), .int nm, .int how, .long t0, .long l9]) (rest := [.int 0, .ref o9]) ⟨hx, hb, hml, hown, hts⟩ (c_SS_writeOrder_new l D hfl B0 hG s.heap.size cB h rv d tp tb ct dp a cN ln hd hf T f pid nm how t0 l9 hrc hpid hh1 hh2 ht1 ht2 hl9 hno hT) (z_cV hN wd_1059 wd_59 wd_1056 hd_SS_writeOrder rfl rfl ⟨Nat.le_of_ble_eq_true rfl, Nat.le_of_ble_eq_true rfl⟩ wd_1057 wd_1058) (z_preVo (va_recv (ci := 11) (q0 := 0) hK hP rfl rfl) hPc hKc hN hDc hO hS hAO) rfl hl.1 rfl (lv_room (Nat.le_of_ble_eq_true rfl)) d_Law_writeOrder_11 ⟨Nat.le_of_ble_eq_true rfl, Nat.le_of_ble_eq_true rfl⟩ hS (fun q _ h => hFc q h) hFc (fun r9 u9 t H locs ht hvm e11 hB hz1 hk1 hS => ?_) (fun X x H locs eX hcx hz1 hk1 hS => ?_)
  · obtain ⟨hP1, hK1, hD1⟩ := hB
    rw [ht] at hP1
    obtain ⟨hP, hD⟩ := va_join (wr := [(o9, .inl (cJ, 1, .inr (.inl g9)))]) (w1 := [(h, .inr (11, [.ref rv, .ref d])), (rv, .inr (4, [.ref tp, .ref ln, .ref tb, .ref ct, .ref dp])), (ln, .inr (2, [.ref hd])), (hd, .inl (cN, 256, .inr (.inr (.inr (.inr (va_up hf (pid % 256) (some u9.1))))))), (tp, .inr (0, [.ref a, .int (nI (T ++ ppL pid 0 184 0 (esL (((((([] : List Int32) ++ bsL 0 1) ++ bsL (252 : Int32).toInt64 1) ++ bsL (12288 : Int32).toInt64 2) ++ ohL nm (shQ l9)) ++ obL how t0 (l9 &&& 8589934591)))).length)])), (a, .inl (cB, 9400, .inl u9.2)), (u9.1, .inr (1, [.int (nI pid), .null, .int (-1), .int 0, .long (-1), .int (nI (0 + (184 + 183) / 184)), .null, .null]))]) hP hD [0, 1, 2, 3, 4, 5] [6] rfl rfl (by decide) (by decide) hk1 hFc hP1 hD1
    clear hk1 hP1 hD1 hFc hPc hDc hz1
    have hP : va_P D classes [(o9, .inl (cJ, 1, .inr (.inl g9))), (h, .inr (11, [.ref rv, .ref d])), (rv, .inr (4, [.ref tp, .ref ln, .ref tb, .ref ct, .ref dp])), (ln, .inr (2, [.ref hd])), (hd, .inl (cN, 256, .inr (.inr (.inr (.inr (va_up hf (pid % 256) (some u9.1))))))), (tp, .inr (0, [.ref a, .int (nI (T ++ ppL pid 0 184 0 (esL (((((([] : List Int32) ++ bsL 0 1) ++ bsL (252 : Int32).toInt64 1) ++ bsL (12288 : Int32).toInt64 2) ++ ohL nm (shQ l9)) ++ obL how t0 (l9 &&& 8589934591)))).length)])), (a, .inl (cB, 9400, .inl u9.2)), (u9.1, .inr (1, [.int (nI pid), .null, .int (-1), .int 0, .long (-1), .int (nI (0 + (184 + 183) / 184)), .null, .null]))] H := hP
    have hD : va_D A [(o9, .inl (cJ, 1, .inr (.inl g9))), (h, .inr (11, [.ref rv, .ref d])), (rv, .inr (4, [.ref tp, .ref ln, .ref tb, .ref ct, .ref dp])), (ln, .inr (2, [.ref hd])), (hd, .inl (cN, 256, .inr (.inr (.inr (.inr (va_up hf (pid % 256) (some u9.1))))))), (tp, .inr (0, [.ref a, .int (nI (T ++ ppL pid 0 184 0 (esL (((((([] : List Int32) ++ bsL 0 1) ++ bsL (252 : Int32).toInt64 1) ++ bsL (12288 : Int32).toInt64 2) ++ ohL nm (shQ l9)) ++ obL how t0 (l9 &&& 8589934591)))).length)])), (a, .inl (cB, 9400, .inl u9.2)), (u9.1, .inr (1, [.int (nI pid), .null, .int (-1), .int 0, .long (-1), .int (nI (0 + (184 + 183) / 184)), .null, .null]))] := hD
    refine lv_i2l (v := r9.toInt64) hx hb d_Law_writeOrder_14 rfl ?_
    refine z_last hx hb hK hP hD hS 0 2 rfl rfl 0 rfl (by decide) (by decide) d_Law_writeOrder_15 (fun H locs hP hD hS => ?_)
    have hP : va_P D classes [(o9, .inl (cJ, 1, .inr (.inl (vp_updL g9 0 r9.toInt64)))), (h, .inr (11, [.ref rv, .ref d])), (rv, .inr (4, [.ref tp, .ref ln, .ref tb, .ref ct, .ref dp])), (ln, .inr (2, [.ref hd])), (hd, .inl (cN, 256, .inr (.inr (.inr (.inr (va_up hf (pid % 256) (some u9.1))))))), (tp, .inr (0, [.ref a, .int (nI (T ++ ppL pid 0 184 0 (esL (((((([] : List Int32) ++ bsL 0 1) ++ bsL (252 : Int32).toInt64 1) ++ bsL (12288 : Int32).toInt64 2) ++ ohL nm (shQ l9)) ++ obL how t0 (l9 &&& 8589934591)))).length)])), (a, .inl (cB, 9400, .inl u9.2)), (u9.1, .inr (1, [.int (nI pid), .null, .int (-1), .int 0, .long (-1), .int (nI (0 + (184 + 183) / 184)), .null, .null]))] H := hP
    have hD : va_D A [(o9, .inl (cJ, 1, .inr (.inl (vp_updL g9 0 r9.toInt64)))), (h, .inr (11, [.ref rv, .ref d])), (rv, .inr (4, [.ref tp, .ref ln, .ref tb, .ref ct, .ref dp])), (ln, .inr (2, [.ref hd])), (hd, .inl (cN, 256, .inr (.inr (.inr (.inr (va_up hf (pid % 256) (some u9.1))))))), (tp, .inr (0, [.ref a, .int (nI (T ++ ppL pid 0 184 0 (esL (((((([] : List Int32) ++ bsL 0 1) ++ bsL (252 : Int32).toInt64 1) ++ bsL (12288 : Int32).toInt64 2) ++ ohL nm (shQ l9)) ++ obL how t0 (l9 &&& 8589934591)))).length)])), (a, .inl (cB, 9400, .inl u9.2)), (u9.1, .inr (1, [.int (nI pid), .null, .int (-1), .int 0, .long (-1), .int (nI (0 + (184 + 183) / 184)), .null, .null]))] := hD
    refine lv_goto (tgt := 23) hx hb d_Law_writeOrder_16 rfl ?_
    refine lv_iconst (v := 0) hx hb d_Law_writeOrder_23 (by decide) ?_
    have hP9 := hP.sub (ws' := [(h, .inr (11, [.ref rv, .ref d])), (rv, .inr (4, [.ref tp, .ref ln, .ref tb, .ref ct, .ref dp])), (ln, .inr (2, [.ref hd])), (hd, .inl (cN, 256, .inr (.inr (.inr (.inr (va_up hf (pid % 256) (some u9.1))))))), (tp, .inr (0, [.ref a, .int (nI (T ++ ppL pid 0 184 0 (esL (((((([] : List Int32) ++ bsL 0 1) ++ bsL (252 : Int32).toInt64 1) ++ bsL (12288 : Int32).toInt64 2) ++ ohL nm (shQ l9)) ++ obL how t0 (l9 &&& 8589934591)))).length)])), (a, .inl (cB, 9400, .inl u9.2)), (u9.1, .inr (1, [.int (nI pid), .null, .int (-1), .int 0, .long (-1), .int (nI (0 + (184 + 183) / 184)), .null, .null])), (o9, .inl (cJ, 1, .inr (.inl (vp_updL g9 0 r9.toInt64))))]) [1, 2, 3, 4, 5, 6, 7, 0] rfl
    have hD9 := hD.sub (ws' := [(h, .inr (11, [.ref rv, .ref d])), (rv, .inr (4, [.ref tp, .ref ln, .ref tb, .ref ct, .ref dp])), (ln, .inr (2, [.ref hd])), (hd, .inl (cN, 256, .inr (.inr (.inr (.inr (va_up hf (pid % 256) (some u9.1))))))), (tp, .inr (0, [.ref a, .int (nI (T ++ ppL pid 0 184 0 (esL (((((([] : List Int32) ++ bsL 0 1) ++ bsL (252 : Int32).toInt64 1) ++ bsL (12288 : Int32).toInt64 2) ++ ohL nm (shQ l9)) ++ obL how t0 (l9 &&& 8589934591)))).length)])), (a, .inl (cB, 9400, .inl u9.2)), (u9.1, .inr (1, [.int (nI pid), .null, .int (-1), .int 0, .long (-1), .int (nI (0 + (184 + 183) / 184)), .null, .null])), (o9, .inl (cJ, 1, .inr (.inl (vp_updL g9 0 r9.toInt64))))]) [1, 2, 3, 4, 5, 6, 7, 0] (by decide) rfl
    have hK9 := hK.sub (tys' := [(cB, .byte), (cN, .object "StreamSplitter$Lane"), (cJ, .long)]) [0, 1, 2] rfl
    refine W.widen (k := 2) (n := 14) (by omega) (by omega) ?_
    exact W.iret (v := 0) hx hb hr (fun t ht hW => ⟨⟨_, (u9, r9), rfl, ⟨rfl, e11⟩, ⟨by rw [ht]; exact hP9, va_K.moved hW.alike hK9, hD9⟩⟩, hS.F ht⟩) hS.2.2 d_Law_writeOrder_24
  · exact absurd eX (fun z => z)
