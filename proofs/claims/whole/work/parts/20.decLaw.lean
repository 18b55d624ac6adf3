theorem aw_286 : (Jvm.Cond.codeWith ({ cls := "LinkMillLaw", name := "put", desc := "(LLinkMill;IIIII[J)I" } : Jvm.MethodName) method_3_code (8 : Nat) (Option.some Jvm.ClassFile.FieldType.int) [((0 : Nat), (16 : Nat), (19 : Nat), (13 : Nat)), ((0 : Nat), (16 : Nat), (23 : Nat), (15 : Nat))]) ∈ sm_AW := sm_awi 286 (by decide +kernel) (by decide +kernel)
theorem aw_284 : (Jvm.Cond.methodLink "LinkMillLaw" (56 : Nat) ({ cls := "LinkMillLaw", name := "put", desc := "(LLinkMill;IIIII[J)I" } : Jvm.MethodName)) ∈ sm_AW := sm_awi 284 (by decide +kernel) (by decide +kernel)
theorem aw_285 : (Jvm.Cond.static ({ cls := "LinkMillLaw", name := "put", desc := "(LLinkMill;IIIII[J)I" } : Jvm.MethodName)) ∈ sm_AW := sm_awi 285 (by decide +kernel) (by decide +kernel)
theorem aw_0 : (Jvm.Cond.initialized "LinkMillLaw") ∈ sm_AW := sm_awi 0 (by decide +kernel) (by decide +kernel)
theorem aw_788 : (Jvm.Cond.code ({ cls := "LinkMillModel", name := "put", desc := "(IIIII)I" } : Jvm.MethodName) prog_11_method_8_code (7 : Nat) (Option.some Jvm.ClassFile.FieldType.int)) ∈ sm_AW := sm_awi 788 (by decide +kernel) (by decide +kernel)
theorem aw_785 : (Jvm.Cond.methodLink "LinkMillLaw" (61 : Nat) ({ cls := "LinkMillModel", name := "put", desc := "(IIIII)I" } : Jvm.MethodName)) ∈ sm_AW := sm_awi 785 (by decide +kernel) (by decide +kernel)
theorem aw_786 : (Jvm.Cond.instanceMethod ({ cls := "LinkMillModel", name := "put", desc := "(IIIII)I" } : Jvm.MethodName)) ∈ sm_AW := sm_awi 786 (by decide +kernel) (by decide +kernel)
theorem aw_787 : (Jvm.Cond.selects "LinkMillModel" ({ cls := "LinkMillModel", name := "put", desc := "(IIIII)I" } : Jvm.MethodName) ({ cls := "LinkMillModel", name := "put", desc := "(IIIII)I" } : Jvm.MethodName)) ∈ sm_AW := sm_awi 787 (by decide +kernel) (by decide +kernel)
theorem aw_784 : (Jvm.Cond.code ({ cls := "LinkMillModel", name := "thrown", desc := "()I" } : Jvm.MethodName) prog_11_method_2_code (1 : Nat) (Option.some Jvm.ClassFile.FieldType.int)) ∈ sm_AW := sm_awi 784 (by decide +kernel) (by decide +kernel)
theorem aw_781 : (Jvm.Cond.methodLink "LinkMillLaw" (62 : Nat) ({ cls := "LinkMillModel", name := "thrown", desc := "()I" } : Jvm.MethodName)) ∈ sm_AW := sm_awi 781 (by decide +kernel) (by decide +kernel)
theorem aw_782 : (Jvm.Cond.instanceMethod ({ cls := "LinkMillModel", name := "thrown", desc := "()I" } : Jvm.MethodName)) ∈ sm_AW := sm_awi 782 (by decide +kernel) (by decide +kernel)
theorem aw_783 : (Jvm.Cond.selects "LinkMillModel" ({ cls := "LinkMillModel", name := "thrown", desc := "()I" } : Jvm.MethodName) ({ cls := "LinkMillModel", name := "thrown", desc := "()I" } : Jvm.MethodName)) ∈ sm_AW := sm_awi 783 (by decide +kernel) (by decide +kernel)
theorem aw_400 : (Jvm.Cond.codeWith ({ cls := "LinkMillLaw", name := "word", desc := "(LLinkMill;II[J)I" } : Jvm.MethodName) method_4_code (5 : Nat) (Option.some Jvm.ClassFile.FieldType.int) [((0 : Nat), (10 : Nat), (13 : Nat), (13 : Nat)), ((0 : Nat), (10 : Nat), (17 : Nat), (15 : Nat))]) ∈ sm_AW := sm_awi 400 (by decide +kernel) (by decide +kernel)
theorem aw_398 : (Jvm.Cond.methodLink "LinkMillLaw" (66 : Nat) ({ cls := "LinkMillLaw", name := "word", desc := "(LLinkMill;II[J)I" } : Jvm.MethodName)) ∈ sm_AW := sm_awi 398 (by decide +kernel) (by decide +kernel)
theorem aw_399 : (Jvm.Cond.static ({ cls := "LinkMillLaw", name := "word", desc := "(LLinkMill;II[J)I" } : Jvm.MethodName)) ∈ sm_AW := sm_awi 399 (by decide +kernel) (by decide +kernel)
theorem aw_807 : (Jvm.Cond.code ({ cls := "LinkMillModel", name := "word", desc := "(II)I" } : Jvm.MethodName) prog_11_method_9_code (3 : Nat) (Option.some Jvm.ClassFile.FieldType.int)) ∈ sm_AW := sm_awi 807 (by decide +kernel) (by decide +kernel)
theorem aw_804 : (Jvm.Cond.methodLink "LinkMillLaw" (69 : Nat) ({ cls := "LinkMillModel", name := "word", desc := "(II)I" } : Jvm.MethodName)) ∈ sm_AW := sm_awi 804 (by decide +kernel) (by decide +kernel)
theorem aw_805 : (Jvm.Cond.instanceMethod ({ cls := "LinkMillModel", name := "word", desc := "(II)I" } : Jvm.MethodName)) ∈ sm_AW := sm_awi 805 (by decide +kernel) (by decide +kernel)
theorem aw_806 : (Jvm.Cond.selects "LinkMillModel" ({ cls := "LinkMillModel", name := "word", desc := "(II)I" } : Jvm.MethodName) ({ cls := "LinkMillModel", name := "word", desc := "(II)I" } : Jvm.MethodName)) ∈ sm_AW := sm_awi 806 (by decide +kernel) (by decide +kernel)
theorem aw_407 : (Jvm.Cond.codeWith ({ cls := "LinkMillLaw", name := "define", desc := "(LLinkMill;IIIIZ[J)I" } : Jvm.MethodName) method_5_code (8 : Nat) (Option.some Jvm.ClassFile.FieldType.int) [((0 : Nat), (16 : Nat), (19 : Nat), (13 : Nat)), ((0 : Nat), (16 : Nat), (23 : Nat), (15 : Nat))]) ∈ sm_AW := sm_awi 407 (by decide +kernel) (by decide +kernel)
theorem aw_405 : (Jvm.Cond.methodLink "LinkMillLaw" (70 : Nat) ({ cls := "LinkMillLaw", name := "define", desc := "(LLinkMill;IIIIZ[J)I" } : Jvm.MethodName)) ∈ sm_AW := sm_awi 405 (by decide +kernel) (by decide +kernel)
theorem aw_406 : (Jvm.Cond.static ({ cls := "LinkMillLaw", name := "define", desc := "(LLinkMill;IIIIZ[J)I" } : Jvm.MethodName)) ∈ sm_AW := sm_awi 406 (by decide +kernel) (by decide +kernel)
theorem aw_811 : (Jvm.Cond.code ({ cls := "LinkMillModel", name := "define", desc := "(IIIIZ)I" } : Jvm.MethodName) prog_11_method_10_code (8 : Nat) (Option.some Jvm.ClassFile.FieldType.int)) ∈ sm_AW := sm_awi 811 (by decide +kernel) (by decide +kernel)
theorem aw_808 : (Jvm.Cond.methodLink "LinkMillLaw" (73 : Nat) ({ cls := "LinkMillModel", name := "define", desc := "(IIIIZ)I" } : Jvm.MethodName)) ∈ sm_AW := sm_awi 808 (by decide +kernel) (by decide +kernel)
theorem aw_809 : (Jvm.Cond.instanceMethod ({ cls := "LinkMillModel", name := "define", desc := "(IIIIZ)I" } : Jvm.MethodName)) ∈ sm_AW := sm_awi 809 (by decide +kernel) (by decide +kernel)
theorem aw_810 : (Jvm.Cond.selects "LinkMillModel" ({ cls := "LinkMillModel", name := "define", desc := "(IIIIZ)I" } : Jvm.MethodName) ({ cls := "LinkMillModel", name := "define", desc := "(IIIIZ)I" } : Jvm.MethodName)) ∈ sm_AW := sm_awi 810 (by decide +kernel) (by decide +kernel)
theorem aw_425 : (Jvm.Cond.codeWith ({ cls := "LinkMillLaw", name := "fix", desc := "(LLinkMill;IIIIII[J)I" } : Jvm.MethodName) method_6_code (9 : Nat) (Option.some Jvm.ClassFile.FieldType.int) [((0 : Nat), (18 : Nat), (21 : Nat), (13 : Nat)), ((0 : Nat), (18 : Nat), (25 : Nat), (15 : Nat))]) ∈ sm_AW := sm_awi 425 (by decide +kernel) (by decide +kernel)
theorem aw_423 : (Jvm.Cond.methodLink "LinkMillLaw" (74 : Nat) ({ cls := "LinkMillLaw", name := "fix", desc := "(LLinkMill;IIIIII[J)I" } : Jvm.MethodName)) ∈ sm_AW := sm_awi 423 (by decide +kernel) (by decide +kernel)
theorem aw_424 : (Jvm.Cond.static ({ cls := "LinkMillLaw", name := "fix", desc := "(LLinkMill;IIIIII[J)I" } : Jvm.MethodName)) ∈ sm_AW := sm_awi 424 (by decide +kernel) (by decide +kernel)
theorem aw_815 : (Jvm.Cond.code ({ cls := "LinkMillModel", name := "fix", desc := "(IIIIII)I" } : Jvm.MethodName) prog_11_method_11_code (9 : Nat) (Option.some Jvm.ClassFile.FieldType.int)) ∈ sm_AW := sm_awi 815 (by decide +kernel) (by decide +kernel)
theorem aw_812 : (Jvm.Cond.methodLink "LinkMillLaw" (77 : Nat) ({ cls := "LinkMillModel", name := "fix", desc := "(IIIIII)I" } : Jvm.MethodName)) ∈ sm_AW := sm_awi 812 (by decide +kernel) (by decide +kernel)
theorem aw_813 : (Jvm.Cond.instanceMethod ({ cls := "LinkMillModel", name := "fix", desc := "(IIIIII)I" } : Jvm.MethodName)) ∈ sm_AW := sm_awi 813 (by decide +kernel) (by decide +kernel)
theorem aw_814 : (Jvm.Cond.selects "LinkMillModel" ({ cls := "LinkMillModel", name := "fix", desc := "(IIIIII)I" } : Jvm.MethodName) ({ cls := "LinkMillModel", name := "fix", desc := "(IIIIII)I" } : Jvm.MethodName)) ∈ sm_AW := sm_awi 814 (by decide +kernel) (by decide +kernel)
theorem aw_436 : (Jvm.Cond.codeWith ({ cls := "LinkMillLaw", name := "clear", desc := "(LLinkMill;I[J)I" } : Jvm.MethodName) method_7_code (4 : Nat) (Option.some Jvm.ClassFile.FieldType.int) [((0 : Nat), (16 : Nat), (19 : Nat), (13 : Nat))]) ∈ sm_AW := sm_awi 436 (by decide +kernel) (by decide +kernel)
theorem aw_434 : (Jvm.Cond.methodLink "LinkMillLaw" (78 : Nat) ({ cls := "LinkMillLaw", name := "clear", desc := "(LLinkMill;I[J)I" } : Jvm.MethodName)) ∈ sm_AW := sm_awi 434 (by decide +kernel) (by decide +kernel)
theorem aw_435 : (Jvm.Cond.static ({ cls := "LinkMillLaw", name := "clear", desc := "(LLinkMill;I[J)I" } : Jvm.MethodName)) ∈ sm_AW := sm_awi 435 (by decide +kernel) (by decide +kernel)
theorem aw_819 : (Jvm.Cond.code ({ cls := "LinkMillModel", name := "clear", desc := "(I)Z" } : Jvm.MethodName) prog_11_method_12_code (2 : Nat) (Option.some Jvm.ClassFile.FieldType.boolean)) ∈ sm_AW := sm_awi 819 (by decide +kernel) (by decide +kernel)
theorem aw_816 : (Jvm.Cond.methodLink "LinkMillLaw" (81 : Nat) ({ cls := "LinkMillModel", name := "clear", desc := "(I)Z" } : Jvm.MethodName)) ∈ sm_AW := sm_awi 816 (by decide +kernel) (by decide +kernel)
theorem aw_817 : (Jvm.Cond.instanceMethod ({ cls := "LinkMillModel", name := "clear", desc := "(I)Z" } : Jvm.MethodName)) ∈ sm_AW := sm_awi 817 (by decide +kernel) (by decide +kernel)
theorem aw_818 : (Jvm.Cond.selects "LinkMillModel" ({ cls := "LinkMillModel", name := "clear", desc := "(I)Z" } : Jvm.MethodName) ({ cls := "LinkMillModel", name := "clear", desc := "(I)Z" } : Jvm.MethodName)) ∈ sm_AW := sm_awi 818 (by decide +kernel) (by decide +kernel)
theorem aw_447 : (Jvm.Cond.codeWith ({ cls := "LinkMillLaw", name := "link", desc := "(LLinkMill;II[J)I" } : Jvm.MethodName) method_8_code (5 : Nat) (Option.some Jvm.ClassFile.FieldType.int) [((0 : Nat), (10 : Nat), (13 : Nat), (13 : Nat))]) ∈ sm_AW := sm_awi 447 (by decide +kernel) (by decide +kernel)
theorem aw_445 : (Jvm.Cond.methodLink "LinkMillLaw" (82 : Nat) ({ cls := "LinkMillLaw", name := "link", desc := "(LLinkMill;II[J)I" } : Jvm.MethodName)) ∈ sm_AW := sm_awi 445 (by decide +kernel) (by decide +kernel)
theorem aw_446 : (Jvm.Cond.static ({ cls := "LinkMillLaw", name := "link", desc := "(LLinkMill;II[J)I" } : Jvm.MethodName)) ∈ sm_AW := sm_awi 446 (by decide +kernel) (by decide +kernel)
theorem aw_823 : (Jvm.Cond.code ({ cls := "LinkMillModel", name := "link", desc := "(II)I" } : Jvm.MethodName) prog_11_method_24_code (10 : Nat) (Option.some Jvm.ClassFile.FieldType.int)) ∈ sm_AW := sm_awi 823 (by decide +kernel) (by decide +kernel)
theorem aw_820 : (Jvm.Cond.methodLink "LinkMillLaw" (84 : Nat) ({ cls := "LinkMillModel", name := "link", desc := "(II)I" } : Jvm.MethodName)) ∈ sm_AW := sm_awi 820 (by decide +kernel) (by decide +kernel)
theorem aw_821 : (Jvm.Cond.instanceMethod ({ cls := "LinkMillModel", name := "link", desc := "(II)I" } : Jvm.MethodName)) ∈ sm_AW := sm_awi 821 (by decide +kernel) (by decide +kernel)
theorem aw_822 : (Jvm.Cond.selects "LinkMillModel" ({ cls := "LinkMillModel", name := "link", desc := "(II)I" } : Jvm.MethodName) ({ cls := "LinkMillModel", name := "link", desc := "(II)I" } : Jvm.MethodName)) ∈ sm_AW := sm_awi 822 (by decide +kernel) (by decide +kernel)
theorem aw_213 : (Jvm.Cond.code ({ cls := "LinkMill", name := "image", desc := "(I)I" } : Jvm.MethodName) prog_1_method_8_code (2 : Nat) (Option.some Jvm.ClassFile.FieldType.int)) ∈ sm_AW := sm_awi 213 (by decide +kernel) (by decide +kernel)
theorem aw_210 : (Jvm.Cond.methodLink "LinkMillLaw" (85 : Nat) ({ cls := "LinkMill", name := "image", desc := "(I)I" } : Jvm.MethodName)) ∈ sm_AW := sm_awi 210 (by decide +kernel) (by decide +kernel)
theorem aw_211 : (Jvm.Cond.instanceMethod ({ cls := "LinkMill", name := "image", desc := "(I)I" } : Jvm.MethodName)) ∈ sm_AW := sm_awi 211 (by decide +kernel) (by decide +kernel)
theorem aw_212 : (Jvm.Cond.selects "LinkMill" ({ cls := "LinkMill", name := "image", desc := "(I)I" } : Jvm.MethodName) ({ cls := "LinkMill", name := "image", desc := "(I)I" } : Jvm.MethodName)) ∈ sm_AW := sm_awi 212 (by decide +kernel) (by decide +kernel)
theorem aw_872 : (Jvm.Cond.code ({ cls := "LinkMillModel", name := "image", desc := "(I)I" } : Jvm.MethodName) prog_11_method_25_code (2 : Nat) (Option.some Jvm.ClassFile.FieldType.int)) ∈ sm_AW := sm_awi 872 (by decide +kernel) (by decide +kernel)
theorem aw_869 : (Jvm.Cond.methodLink "LinkMillLaw" (88 : Nat) ({ cls := "LinkMillModel", name := "image", desc := "(I)I" } : Jvm.MethodName)) ∈ sm_AW := sm_awi 869 (by decide +kernel) (by decide +kernel)
theorem aw_870 : (Jvm.Cond.instanceMethod ({ cls := "LinkMillModel", name := "image", desc := "(I)I" } : Jvm.MethodName)) ∈ sm_AW := sm_awi 870 (by decide +kernel) (by decide +kernel)
theorem aw_871 : (Jvm.Cond.selects "LinkMillModel" ({ cls := "LinkMillModel", name := "image", desc := "(I)I" } : Jvm.MethodName) ({ cls := "LinkMillModel", name := "image", desc := "(I)I" } : Jvm.MethodName)) ∈ sm_AW := sm_awi 871 (by decide +kernel) (by decide +kernel)
theorem aw_564 : (Jvm.Cond.codeWith ({ cls := "LinkMillLaw", name := "alter", desc := "(LLinkMill;II[J)I" } : Jvm.MethodName) method_9_code (5 : Nat) (Option.some Jvm.ClassFile.FieldType.int) [((0 : Nat), (17 : Nat), (20 : Nat), (13 : Nat))]) ∈ sm_AW := sm_awi 564 (by decide +kernel) (by decide +kernel)
theorem aw_562 : (Jvm.Cond.methodLink "LinkMillLaw" (89 : Nat) ({ cls := "LinkMillLaw", name := "alter", desc := "(LLinkMill;II[J)I" } : Jvm.MethodName)) ∈ sm_AW := sm_awi 562 (by decide +kernel) (by decide +kernel)
theorem aw_563 : (Jvm.Cond.static ({ cls := "LinkMillLaw", name := "alter", desc := "(LLinkMill;II[J)I" } : Jvm.MethodName)) ∈ sm_AW := sm_awi 563 (by decide +kernel) (by decide +kernel)
theorem aw_876 : (Jvm.Cond.code ({ cls := "LinkMillModel", name := "alter", desc := "(II)Z" } : Jvm.MethodName) prog_11_method_26_code (3 : Nat) (Option.some Jvm.ClassFile.FieldType.boolean)) ∈ sm_AW := sm_awi 876 (by decide +kernel) (by decide +kernel)
theorem aw_873 : (Jvm.Cond.methodLink "LinkMillLaw" (91 : Nat) ({ cls := "LinkMillModel", name := "alter", desc := "(II)Z" } : Jvm.MethodName)) ∈ sm_AW := sm_awi 873 (by decide +kernel) (by decide +kernel)
theorem aw_874 : (Jvm.Cond.instanceMethod ({ cls := "LinkMillModel", name := "alter", desc := "(II)Z" } : Jvm.MethodName)) ∈ sm_AW := sm_awi 874 (by decide +kernel) (by decide +kernel)
theorem aw_875 : (Jvm.Cond.selects "LinkMillModel" ({ cls := "LinkMillModel", name := "alter", desc := "(II)Z" } : Jvm.MethodName) ({ cls := "LinkMillModel", name := "alter", desc := "(II)Z" } : Jvm.MethodName)) ∈ sm_AW := sm_awi 875 (by decide +kernel) (by decide +kernel)
theorem aw_571 : (Jvm.Cond.codeWith ({ cls := "LinkMillLaw", name := "stretch", desc := "(LLinkMill;I[J)I" } : Jvm.MethodName) method_10_code (4 : Nat) (Option.some Jvm.ClassFile.FieldType.int) [((0 : Nat), (9 : Nat), (12 : Nat), (13 : Nat))]) ∈ sm_AW := sm_awi 571 (by decide +kernel) (by decide +kernel)
theorem aw_569 : (Jvm.Cond.methodLink "LinkMillLaw" (92 : Nat) ({ cls := "LinkMillLaw", name := "stretch", desc := "(LLinkMill;I[J)I" } : Jvm.MethodName)) ∈ sm_AW := sm_awi 569 (by decide +kernel) (by decide +kernel)
theorem aw_570 : (Jvm.Cond.static ({ cls := "LinkMillLaw", name := "stretch", desc := "(LLinkMill;I[J)I" } : Jvm.MethodName)) ∈ sm_AW := sm_awi 570 (by decide +kernel) (by decide +kernel)
theorem aw_880 : (Jvm.Cond.code ({ cls := "LinkMillModel", name := "stretch", desc := "(I)I" } : Jvm.MethodName) prog_11_method_27_code (5 : Nat) (Option.some Jvm.ClassFile.FieldType.int)) ∈ sm_AW := sm_awi 880 (by decide +kernel) (by decide +kernel)
theorem aw_877 : (Jvm.Cond.methodLink "LinkMillLaw" (94 : Nat) ({ cls := "LinkMillModel", name := "stretch", desc := "(I)I" } : Jvm.MethodName)) ∈ sm_AW := sm_awi 877 (by decide +kernel) (by decide +kernel)
theorem aw_878 : (Jvm.Cond.instanceMethod ({ cls := "LinkMillModel", name := "stretch", desc := "(I)I" } : Jvm.MethodName)) ∈ sm_AW := sm_awi 878 (by decide +kernel) (by decide +kernel)
theorem aw_879 : (Jvm.Cond.selects "LinkMillModel" ({ cls := "LinkMillModel", name := "stretch", desc := "(I)I" } : Jvm.MethodName) ({ cls := "LinkMillModel", name := "stretch", desc := "(I)I" } : Jvm.MethodName)) ∈ sm_AW := sm_awi 879 (by decide +kernel) (by decide +kernel)
theorem aw_220 : (Jvm.Cond.code ({ cls := "LinkMill", name := "read", desc := "()I" } : Jvm.MethodName) prog_1_method_11_code (2 : Nat) (Option.some Jvm.ClassFile.FieldType.int)) ∈ sm_AW := sm_awi 220 (by decide +kernel) (by decide +kernel)
theorem aw_217 : (Jvm.Cond.methodLink "LinkMillLaw" (95 : Nat) ({ cls := "LinkMill", name := "read", desc := "()I" } : Jvm.MethodName)) ∈ sm_AW := sm_awi 217 (by decide +kernel) (by decide +kernel)
theorem aw_218 : (Jvm.Cond.instanceMethod ({ cls := "LinkMill", name := "read", desc := "()I" } : Jvm.MethodName)) ∈ sm_AW := sm_awi 218 (by decide +kernel) (by decide +kernel)
theorem aw_219 : (Jvm.Cond.selects "LinkMill" ({ cls := "LinkMill", name := "read", desc := "()I" } : Jvm.MethodName) ({ cls := "LinkMill", name := "read", desc := "()I" } : Jvm.MethodName)) ∈ sm_AW := sm_awi 219 (by decide +kernel) (by decide +kernel)
theorem aw_885 : (Jvm.Cond.code ({ cls := "LinkMillModel", name := "read", desc := "()I" } : Jvm.MethodName) prog_11_method_31_code (3 : Nat) (Option.some Jvm.ClassFile.FieldType.int)) ∈ sm_AW := sm_awi 885 (by decide +kernel) (by decide +kernel)
theorem aw_882 : (Jvm.Cond.methodLink "LinkMillLaw" (98 : Nat) ({ cls := "LinkMillModel", name := "read", desc := "()I" } : Jvm.MethodName)) ∈ sm_AW := sm_awi 882 (by decide +kernel) (by decide +kernel)
theorem aw_883 : (Jvm.Cond.instanceMethod ({ cls := "LinkMillModel", name := "read", desc := "()I" } : Jvm.MethodName)) ∈ sm_AW := sm_awi 883 (by decide +kernel) (by decide +kernel)
theorem aw_884 : (Jvm.Cond.selects "LinkMillModel" ({ cls := "LinkMillModel", name := "read", desc := "()I" } : Jvm.MethodName) ({ cls := "LinkMillModel", name := "read", desc := "()I" } : Jvm.MethodName)) ∈ sm_AW := sm_awi 884 (by decide +kernel) (by decide +kernel)
theorem aw_580 : (Jvm.Cond.codeWith ({ cls := "LinkMillLaw", name := "run", desc := "(LLinkMill;I[J)I" } : Jvm.MethodName) method_11_code (4 : Nat) (Option.some Jvm.ClassFile.FieldType.int) [((0 : Nat), (9 : Nat), (12 : Nat), (13 : Nat)), ((0 : Nat), (9 : Nat), (15 : Nat), (15 : Nat))]) ∈ sm_AW := sm_awi 580 (by decide +kernel) (by decide +kernel)
theorem aw_578 : (Jvm.Cond.methodLink "LinkMillLaw" (99 : Nat) ({ cls := "LinkMillLaw", name := "run", desc := "(LLinkMill;I[J)I" } : Jvm.MethodName)) ∈ sm_AW := sm_awi 578 (by decide +kernel) (by decide +kernel)
theorem aw_579 : (Jvm.Cond.static ({ cls := "LinkMillLaw", name := "run", desc := "(LLinkMill;I[J)I" } : Jvm.MethodName)) ∈ sm_AW := sm_awi 579 (by decide +kernel) (by decide +kernel)
theorem aw_901 : (Jvm.Cond.code ({ cls := "LinkMillModel", name := "run", desc := "(I)I" } : Jvm.MethodName) prog_11_method_36_code (3 : Nat) (Option.some Jvm.ClassFile.FieldType.int)) ∈ sm_AW := sm_awi 901 (by decide +kernel) (by decide +kernel)
theorem aw_898 : (Jvm.Cond.methodLink "LinkMillLaw" (101 : Nat) ({ cls := "LinkMillModel", name := "run", desc := "(I)I" } : Jvm.MethodName)) ∈ sm_AW := sm_awi 898 (by decide +kernel) (by decide +kernel)
theorem aw_899 : (Jvm.Cond.instanceMethod ({ cls := "LinkMillModel", name := "run", desc := "(I)I" } : Jvm.MethodName)) ∈ sm_AW := sm_awi 899 (by decide +kernel) (by decide +kernel)
theorem aw_900 : (Jvm.Cond.selects "LinkMillModel" ({ cls := "LinkMillModel", name := "run", desc := "(I)I" } : Jvm.MethodName) ({ cls := "LinkMillModel", name := "run", desc := "(I)I" } : Jvm.MethodName)) ∈ sm_AW := sm_awi 900 (by decide +kernel) (by decide +kernel)
theorem aw_259 : (Jvm.Cond.code ({ cls := "LinkMill", name := "value", desc := "(I)I" } : Jvm.MethodName) prog_1_method_13_code (2 : Nat) (Option.some Jvm.ClassFile.FieldType.int)) ∈ sm_AW := sm_awi 259 (by decide +kernel) (by decide +kernel)
theorem aw_256 : (Jvm.Cond.methodLink "LinkMillLaw" (102 : Nat) ({ cls := "LinkMill", name := "value", desc := "(I)I" } : Jvm.MethodName)) ∈ sm_AW := sm_awi 256 (by decide +kernel) (by decide +kernel)
theorem aw_257 : (Jvm.Cond.instanceMethod ({ cls := "LinkMill", name := "value", desc := "(I)I" } : Jvm.MethodName)) ∈ sm_AW := sm_awi 257 (by decide +kernel) (by decide +kernel)
theorem aw_258 : (Jvm.Cond.selects "LinkMill" ({ cls := "LinkMill", name := "value", desc := "(I)I" } : Jvm.MethodName) ({ cls := "LinkMill", name := "value", desc := "(I)I" } : Jvm.MethodName)) ∈ sm_AW := sm_awi 258 (by decide +kernel) (by decide +kernel)
theorem aw_922 : (Jvm.Cond.code ({ cls := "LinkMillModel", name := "value", desc := "(I)I" } : Jvm.MethodName) prog_11_method_37_code (2 : Nat) (Option.some Jvm.ClassFile.FieldType.int)) ∈ sm_AW := sm_awi 922 (by decide +kernel) (by decide +kernel)
theorem aw_919 : (Jvm.Cond.methodLink "LinkMillLaw" (105 : Nat) ({ cls := "LinkMillModel", name := "value", desc := "(I)I" } : Jvm.MethodName)) ∈ sm_AW := sm_awi 919 (by decide +kernel) (by decide +kernel)
theorem aw_920 : (Jvm.Cond.instanceMethod ({ cls := "LinkMillModel", name := "value", desc := "(I)I" } : Jvm.MethodName)) ∈ sm_AW := sm_awi 920 (by decide +kernel) (by decide +kernel)
theorem aw_921 : (Jvm.Cond.selects "LinkMillModel" ({ cls := "LinkMillModel", name := "value", desc := "(I)I" } : Jvm.MethodName) ({ cls := "LinkMillModel", name := "value", desc := "(I)I" } : Jvm.MethodName)) ∈ sm_AW := sm_awi 921 (by decide +kernel) (by decide +kernel)
theorem aw_263 : (Jvm.Cond.code ({ cls := "LinkMill", name := "register", desc := "(I)I" } : Jvm.MethodName) prog_1_method_14_code (2 : Nat) (Option.some Jvm.ClassFile.FieldType.int)) ∈ sm_AW := sm_awi 263 (by decide +kernel) (by decide +kernel)
theorem aw_260 : (Jvm.Cond.methodLink "LinkMillLaw" (106 : Nat) ({ cls := "LinkMill", name := "register", desc := "(I)I" } : Jvm.MethodName)) ∈ sm_AW := sm_awi 260 (by decide +kernel) (by decide +kernel)
theorem aw_261 : (Jvm.Cond.instanceMethod ({ cls := "LinkMill", name := "register", desc := "(I)I" } : Jvm.MethodName)) ∈ sm_AW := sm_awi 261 (by decide +kernel) (by decide +kernel)
theorem aw_262 : (Jvm.Cond.selects "LinkMill" ({ cls := "LinkMill", name := "register", desc := "(I)I" } : Jvm.MethodName) ({ cls := "LinkMill", name := "register", desc := "(I)I" } : Jvm.MethodName)) ∈ sm_AW := sm_awi 262 (by decide +kernel) (by decide +kernel)
theorem aw_926 : (Jvm.Cond.code ({ cls := "LinkMillModel", name := "register", desc := "(I)I" } : Jvm.MethodName) prog_11_method_38_code (2 : Nat) (Option.some Jvm.ClassFile.FieldType.int)) ∈ sm_AW := sm_awi 926 (by decide +kernel) (by decide +kernel)
theorem aw_923 : (Jvm.Cond.methodLink "LinkMillLaw" (109 : Nat) ({ cls := "LinkMillModel", name := "register", desc := "(I)I" } : Jvm.MethodName)) ∈ sm_AW := sm_awi 923 (by decide +kernel) (by decide +kernel)
theorem aw_924 : (Jvm.Cond.instanceMethod ({ cls := "LinkMillModel", name := "register", desc := "(I)I" } : Jvm.MethodName)) ∈ sm_AW := sm_awi 924 (by decide +kernel) (by decide +kernel)
theorem aw_925 : (Jvm.Cond.selects "LinkMillModel" ({ cls := "LinkMillModel", name := "register", desc := "(I)I" } : Jvm.MethodName) ({ cls := "LinkMillModel", name := "register", desc := "(I)I" } : Jvm.MethodName)) ∈ sm_AW := sm_awi 925 (by decide +kernel) (by decide +kernel)
theorem aw_659 : (Jvm.Cond.codeWith ({ cls := "LinkMillLaw", name := "memory", desc := "(LLinkMill;I[J)I" } : Jvm.MethodName) method_12_code (4 : Nat) (Option.some Jvm.ClassFile.FieldType.int) [((0 : Nat), (9 : Nat), (12 : Nat), (50 : Nat))]) ∈ sm_AW := sm_awi 659 (by decide +kernel) (by decide +kernel)
theorem aw_657 : (Jvm.Cond.methodLink "LinkMillLaw" (110 : Nat) ({ cls := "LinkMillLaw", name := "memory", desc := "(LLinkMill;I[J)I" } : Jvm.MethodName)) ∈ sm_AW := sm_awi 657 (by decide +kernel) (by decide +kernel)
theorem aw_658 : (Jvm.Cond.static ({ cls := "LinkMillLaw", name := "memory", desc := "(LLinkMill;I[J)I" } : Jvm.MethodName)) ∈ sm_AW := sm_awi 658 (by decide +kernel) (by decide +kernel)
theorem aw_930 : (Jvm.Cond.code ({ cls := "LinkMillModel", name := "memory", desc := "(I)I" } : Jvm.MethodName) prog_11_method_39_code (3 : Nat) (Option.some Jvm.ClassFile.FieldType.int)) ∈ sm_AW := sm_awi 930 (by decide +kernel) (by decide +kernel)
theorem aw_927 : (Jvm.Cond.methodLink "LinkMillLaw" (112 : Nat) ({ cls := "LinkMillModel", name := "memory", desc := "(I)I" } : Jvm.MethodName)) ∈ sm_AW := sm_awi 927 (by decide +kernel) (by decide +kernel)
theorem aw_928 : (Jvm.Cond.instanceMethod ({ cls := "LinkMillModel", name := "memory", desc := "(I)I" } : Jvm.MethodName)) ∈ sm_AW := sm_awi 928 (by decide +kernel) (by decide +kernel)
theorem aw_929 : (Jvm.Cond.selects "LinkMillModel" ({ cls := "LinkMillModel", name := "memory", desc := "(I)I" } : Jvm.MethodName) ({ cls := "LinkMillModel", name := "memory", desc := "(I)I" } : Jvm.MethodName)) ∈ sm_AW := sm_awi 929 (by decide +kernel) (by decide +kernel)
theorem aw_267 : (Jvm.Cond.code ({ cls := "LinkMill", name := "shown", desc := "(I)I" } : Jvm.MethodName) prog_1_method_16_code (2 : Nat) (Option.some Jvm.ClassFile.FieldType.int)) ∈ sm_AW := sm_awi 267 (by decide +kernel) (by decide +kernel)
theorem aw_264 : (Jvm.Cond.methodLink "LinkMillLaw" (113 : Nat) ({ cls := "LinkMill", name := "shown", desc := "(I)I" } : Jvm.MethodName)) ∈ sm_AW := sm_awi 264 (by decide +kernel) (by decide +kernel)
theorem aw_265 : (Jvm.Cond.instanceMethod ({ cls := "LinkMill", name := "shown", desc := "(I)I" } : Jvm.MethodName)) ∈ sm_AW := sm_awi 265 (by decide +kernel) (by decide +kernel)
theorem aw_266 : (Jvm.Cond.selects "LinkMill" ({ cls := "LinkMill", name := "shown", desc := "(I)I" } : Jvm.MethodName) ({ cls := "LinkMill", name := "shown", desc := "(I)I" } : Jvm.MethodName)) ∈ sm_AW := sm_awi 266 (by decide +kernel) (by decide +kernel)
theorem aw_934 : (Jvm.Cond.code ({ cls := "LinkMillModel", name := "shown", desc := "(I)I" } : Jvm.MethodName) prog_11_method_40_code (2 : Nat) (Option.some Jvm.ClassFile.FieldType.int)) ∈ sm_AW := sm_awi 934 (by decide +kernel) (by decide +kernel)
theorem aw_931 : (Jvm.Cond.methodLink "LinkMillLaw" (116 : Nat) ({ cls := "LinkMillModel", name := "shown", desc := "(I)I" } : Jvm.MethodName)) ∈ sm_AW := sm_awi 931 (by decide +kernel) (by decide +kernel)
theorem aw_932 : (Jvm.Cond.instanceMethod ({ cls := "LinkMillModel", name := "shown", desc := "(I)I" } : Jvm.MethodName)) ∈ sm_AW := sm_awi 932 (by decide +kernel) (by decide +kernel)
theorem aw_933 : (Jvm.Cond.selects "LinkMillModel" ({ cls := "LinkMillModel", name := "shown", desc := "(I)I" } : Jvm.MethodName) ({ cls := "LinkMillModel", name := "shown", desc := "(I)I" } : Jvm.MethodName)) ∈ sm_AW := sm_awi 933 (by decide +kernel) (by decide +kernel)
theorem aw_279 : (Jvm.Cond.code ({ cls := "LinkMill", name := "about", desc := "(I)I" } : Jvm.MethodName) prog_1_method_17_code (2 : Nat) (Option.some Jvm.ClassFile.FieldType.int)) ∈ sm_AW := sm_awi 279 (by decide +kernel) (by decide +kernel)
theorem aw_276 : (Jvm.Cond.methodLink "LinkMillLaw" (117 : Nat) ({ cls := "LinkMill", name := "about", desc := "(I)I" } : Jvm.MethodName)) ∈ sm_AW := sm_awi 276 (by decide +kernel) (by decide +kernel)
theorem aw_277 : (Jvm.Cond.instanceMethod ({ cls := "LinkMill", name := "about", desc := "(I)I" } : Jvm.MethodName)) ∈ sm_AW := sm_awi 277 (by decide +kernel) (by decide +kernel)
theorem aw_278 : (Jvm.Cond.selects "LinkMill" ({ cls := "LinkMill", name := "about", desc := "(I)I" } : Jvm.MethodName) ({ cls := "LinkMill", name := "about", desc := "(I)I" } : Jvm.MethodName)) ∈ sm_AW := sm_awi 278 (by decide +kernel) (by decide +kernel)
theorem aw_938 : (Jvm.Cond.code ({ cls := "LinkMillModel", name := "about", desc := "(I)I" } : Jvm.MethodName) prog_11_method_41_code (2 : Nat) (Option.some Jvm.ClassFile.FieldType.int)) ∈ sm_AW := sm_awi 938 (by decide +kernel) (by decide +kernel)
theorem aw_935 : (Jvm.Cond.methodLink "LinkMillLaw" (120 : Nat) ({ cls := "LinkMillModel", name := "about", desc := "(I)I" } : Jvm.MethodName)) ∈ sm_AW := sm_awi 935 (by decide +kernel) (by decide +kernel)
theorem aw_936 : (Jvm.Cond.instanceMethod ({ cls := "LinkMillModel", name := "about", desc := "(I)I" } : Jvm.MethodName)) ∈ sm_AW := sm_awi 936 (by decide +kernel) (by decide +kernel)
theorem aw_937 : (Jvm.Cond.selects "LinkMillModel" ({ cls := "LinkMillModel", name := "about", desc := "(I)I" } : Jvm.MethodName) ({ cls := "LinkMillModel", name := "about", desc := "(I)I" } : Jvm.MethodName)) ∈ sm_AW := sm_awi 937 (by decide +kernel) (by decide +kernel)
theorem aw_283 : (Jvm.Cond.code ({ cls := "LinkMill", name := "object", desc := "(II)I" } : Jvm.MethodName) prog_1_method_18_code (4 : Nat) (Option.some Jvm.ClassFile.FieldType.int)) ∈ sm_AW := sm_awi 283 (by decide +kernel) (by decide +kernel)
theorem aw_280 : (Jvm.Cond.methodLink "LinkMillLaw" (121 : Nat) ({ cls := "LinkMill", name := "object", desc := "(II)I" } : Jvm.MethodName)) ∈ sm_AW := sm_awi 280 (by decide +kernel) (by decide +kernel)
theorem aw_281 : (Jvm.Cond.instanceMethod ({ cls := "LinkMill", name := "object", desc := "(II)I" } : Jvm.MethodName)) ∈ sm_AW := sm_awi 281 (by decide +kernel) (by decide +kernel)
theorem aw_282 : (Jvm.Cond.selects "LinkMill" ({ cls := "LinkMill", name := "object", desc := "(II)I" } : Jvm.MethodName) ({ cls := "LinkMill", name := "object", desc := "(II)I" } : Jvm.MethodName)) ∈ sm_AW := sm_awi 282 (by decide +kernel) (by decide +kernel)
theorem aw_942 : (Jvm.Cond.code ({ cls := "LinkMillModel", name := "object", desc := "(II)I" } : Jvm.MethodName) prog_11_method_42_code (3 : Nat) (Option.some Jvm.ClassFile.FieldType.int)) ∈ sm_AW := sm_awi 942 (by decide +kernel) (by decide +kernel)
theorem aw_939 : (Jvm.Cond.methodLink "LinkMillLaw" (124 : Nat) ({ cls := "LinkMillModel", name := "object", desc := "(II)I" } : Jvm.MethodName)) ∈ sm_AW := sm_awi 939 (by decide +kernel) (by decide +kernel)
theorem aw_940 : (Jvm.Cond.instanceMethod ({ cls := "LinkMillModel", name := "object", desc := "(II)I" } : Jvm.MethodName)) ∈ sm_AW := sm_awi 940 (by decide +kernel) (by decide +kernel)
theorem aw_941 : (Jvm.Cond.selects "LinkMillModel" ({ cls := "LinkMillModel", name := "object", desc := "(II)I" } : Jvm.MethodName) ({ cls := "LinkMillModel", name := "object", desc := "(II)I" } : Jvm.MethodName)) ∈ sm_AW := sm_awi 941 (by decide +kernel) (by decide +kernel)
abbrev b_Law_law : ByteArray := code
theorem d_Law_law_0 : decode b_Law_law 0 = .ok (.new 8, 3) := by decide +kernel
theorem d_Law_law_3 : decode b_Law_law 3 = .ok (.dup, 1) := by decide +kernel
theorem d_Law_law_4 : decode b_Law_law 4 = .ok (.invokespecial 52, 3) := by decide +kernel
theorem d_Law_law_7 : decode b_Law_law 7 = .ok (.astore_n 1, 1) := by decide +kernel
theorem d_Law_law_8 : decode b_Law_law 8 = .ok (.new 53, 3) := by decide +kernel
theorem d_Law_law_11 : decode b_Law_law 11 = .ok (.dup, 1) := by decide +kernel
theorem d_Law_law_12 : decode b_Law_law 12 = .ok (.invokespecial 55, 3) := by decide +kernel
theorem d_Law_law_15 : decode b_Law_law 15 = .ok (.astore_n 2, 1) := by decide +kernel
theorem d_Law_law_16 : decode b_Law_law 16 = .ok (.iconst 1, 1) := by decide +kernel
theorem d_Law_law_17 : decode b_Law_law 17 = .ok (.newarray .long, 2) := by decide +kernel
theorem d_Law_law_19 : decode b_Law_law 19 = .ok (.astore_n 3, 1) := by decide +kernel
theorem d_Law_law_20 : decode b_Law_law 20 = .ok (.iconst 0, 1) := by decide +kernel
theorem d_Law_law_21 : decode b_Law_law 21 = .ok (.istore 4, 2) := by decide +kernel
theorem d_Law_law_23 : decode b_Law_law 23 = .ok (.iload 4, 2) := by decide +kernel
theorem d_Law_law_25 : decode b_Law_law 25 = .ok (.aload_n 0, 1) := by decide +kernel
theorem d_Law_law_26 : decode b_Law_law 26 = .ok (.arraylength, 1) := by decide +kernel
theorem d_Law_law_27 : decode b_Law_law 27 = .ok (.bipush 7, 2) := by decide +kernel
theorem d_Law_law_29 : decode b_Law_law 29 = .ok (.isub, 1) := by decide +kernel
theorem d_Law_law_30 : decode b_Law_law 30 = .ok (.if_icmp .gt 1059, 3) := by decide +kernel
theorem d_Law_law_33 : decode b_Law_law 33 = .ok (.aload_n 0, 1) := by decide +kernel
theorem d_Law_law_34 : decode b_Law_law 34 = .ok (.iload 4, 2) := by decide +kernel
theorem d_Law_law_36 : decode b_Law_law 36 = .ok (.iaload, 1) := by decide +kernel
theorem d_Law_law_37 : decode b_Law_law 37 = .ok (.bipush 31, 2) := by decide +kernel
theorem d_Law_law_39 : decode b_Law_law 39 = .ok (.iand, 1) := by decide +kernel
theorem d_Law_law_40 : decode b_Law_law 40 = .ok (.tableswitch 1043 0 16 #[84, 188, 256, 376, 494, 557, 625, 650, 725, 781, 794, 850, 875, 900, 956, 981, 1006], 84) := by decide +kernel
theorem d_Law_law_124 : decode b_Law_law 124 = .ok (.aload_n 1, 1) := by decide +kernel
theorem d_Law_law_125 : decode b_Law_law 125 = .ok (.aload_n 0, 1) := by decide +kernel
theorem d_Law_law_126 : decode b_Law_law 126 = .ok (.iload 4, 2) := by decide +kernel
theorem d_Law_law_128 : decode b_Law_law 128 = .ok (.iconst 1, 1) := by decide +kernel
theorem d_Law_law_129 : decode b_Law_law 129 = .ok (.iadd, 1) := by decide +kernel
theorem d_Law_law_130 : decode b_Law_law 130 = .ok (.iaload, 1) := by decide +kernel
theorem d_Law_law_131 : decode b_Law_law 131 = .ok (.aload_n 0, 1) := by decide +kernel
theorem d_Law_law_132 : decode b_Law_law 132 = .ok (.iload 4, 2) := by decide +kernel
theorem d_Law_law_134 : decode b_Law_law 134 = .ok (.iconst 2, 1) := by decide +kernel
theorem d_Law_law_135 : decode b_Law_law 135 = .ok (.iadd, 1) := by decide +kernel
theorem d_Law_law_136 : decode b_Law_law 136 = .ok (.iaload, 1) := by decide +kernel
theorem d_Law_law_137 : decode b_Law_law 137 = .ok (.aload_n 0, 1) := by decide +kernel
theorem d_Law_law_138 : decode b_Law_law 138 = .ok (.iload 4, 2) := by decide +kernel
theorem d_Law_law_140 : decode b_Law_law 140 = .ok (.iconst 3, 1) := by decide +kernel
theorem d_Law_law_141 : decode b_Law_law 141 = .ok (.iadd, 1) := by decide +kernel
theorem d_Law_law_142 : decode b_Law_law 142 = .ok (.iaload, 1) := by decide +kernel
theorem d_Law_law_143 : decode b_Law_law 143 = .ok (.aload_n 0, 1) := by decide +kernel
theorem d_Law_law_144 : decode b_Law_law 144 = .ok (.iload 4, 2) := by decide +kernel
theorem d_Law_law_146 : decode b_Law_law 146 = .ok (.iconst 4, 1) := by decide +kernel
theorem d_Law_law_147 : decode b_Law_law 147 = .ok (.iadd, 1) := by decide +kernel
theorem d_Law_law_148 : decode b_Law_law 148 = .ok (.iaload, 1) := by decide +kernel
theorem d_Law_law_149 : decode b_Law_law 149 = .ok (.aload_n 0, 1) := by decide +kernel
theorem d_Law_law_150 : decode b_Law_law 150 = .ok (.iload 4, 2) := by decide +kernel
theorem d_Law_law_152 : decode b_Law_law 152 = .ok (.iconst 5, 1) := by decide +kernel
theorem d_Law_law_153 : decode b_Law_law 153 = .ok (.iadd, 1) := by decide +kernel
theorem d_Law_law_154 : decode b_Law_law 154 = .ok (.iaload, 1) := by decide +kernel
theorem d_Law_law_155 : decode b_Law_law 155 = .ok (.aload_n 3, 1) := by decide +kernel
theorem d_Law_law_156 : decode b_Law_law 156 = .ok (.invokestatic 56, 3) := by decide +kernel
theorem d_Law_law_159 : decode b_Law_law 159 = .ok (.istore 5, 2) := by decide +kernel
theorem d_Law_law_161 : decode b_Law_law 161 = .ok (.aload_n 2, 1) := by decide +kernel
theorem d_Law_law_162 : decode b_Law_law 162 = .ok (.aload_n 0, 1) := by decide +kernel
theorem d_Law_law_163 : decode b_Law_law 163 = .ok (.iload 4, 2) := by decide +kernel
theorem d_Law_law_165 : decode b_Law_law 165 = .ok (.iconst 1, 1) := by decide +kernel
theorem d_Law_law_166 : decode b_Law_law 166 = .ok (.iadd, 1) := by decide +kernel
theorem d_Law_law_167 : decode b_Law_law 167 = .ok (.iaload, 1) := by decide +kernel
theorem d_Law_law_168 : decode b_Law_law 168 = .ok (.aload_n 0, 1) := by decide +kernel
theorem d_Law_law_169 : decode b_Law_law 169 = .ok (.iload 4, 2) := by decide +kernel
theorem d_Law_law_171 : decode b_Law_law 171 = .ok (.iconst 2, 1) := by decide +kernel
theorem d_Law_law_172 : decode b_Law_law 172 = .ok (.iadd, 1) := by decide +kernel
theorem d_Law_law_173 : decode b_Law_law 173 = .ok (.iaload, 1) := by decide +kernel
theorem d_Law_law_174 : decode b_Law_law 174 = .ok (.aload_n 0, 1) := by decide +kernel
theorem d_Law_law_175 : decode b_Law_law 175 = .ok (.iload 4, 2) := by decide +kernel
theorem d_Law_law_177 : decode b_Law_law 177 = .ok (.iconst 3, 1) := by decide +kernel
theorem d_Law_law_178 : decode b_Law_law 178 = .ok (.iadd, 1) := by decide +kernel
theorem d_Law_law_179 : decode b_Law_law 179 = .ok (.iaload, 1) := by decide +kernel
theorem d_Law_law_180 : decode b_Law_law 180 = .ok (.aload_n 0, 1) := by decide +kernel
theorem d_Law_law_181 : decode b_Law_law 181 = .ok (.iload 4, 2) := by decide +kernel
theorem d_Law_law_183 : decode b_Law_law 183 = .ok (.iconst 4, 1) := by decide +kernel
theorem d_Law_law_184 : decode b_Law_law 184 = .ok (.iadd, 1) := by decide +kernel
theorem d_Law_law_185 : decode b_Law_law 185 = .ok (.iaload, 1) := by decide +kernel
theorem d_Law_law_186 : decode b_Law_law 186 = .ok (.aload_n 0, 1) := by decide +kernel
theorem d_Law_law_187 : decode b_Law_law 187 = .ok (.iload 4, 2) := by decide +kernel
theorem d_Law_law_189 : decode b_Law_law 189 = .ok (.iconst 5, 1) := by decide +kernel
theorem d_Law_law_190 : decode b_Law_law 190 = .ok (.iadd, 1) := by decide +kernel
theorem d_Law_law_191 : decode b_Law_law 191 = .ok (.iaload, 1) := by decide +kernel
theorem d_Law_law_192 : decode b_Law_law 192 = .ok (.invokevirtual 61, 3) := by decide +kernel
theorem d_Law_law_195 : decode b_Law_law 195 = .ok (.istore 6, 2) := by decide +kernel
theorem d_Law_law_197 : decode b_Law_law 197 = .ok (.aload_n 2, 1) := by decide +kernel
theorem d_Law_law_198 : decode b_Law_law 198 = .ok (.invokevirtual 62, 3) := by decide +kernel
theorem d_Law_law_201 : decode b_Law_law 201 = .ok (.iload 5, 2) := by decide +kernel
theorem d_Law_law_203 : decode b_Law_law 203 = .ok (.if_icmp .eq 5, 3) := by decide +kernel
theorem d_Law_law_206 : decode b_Law_law 206 = .ok (.iconst 0, 1) := by decide +kernel
theorem d_Law_law_207 : decode b_Law_law 207 = .ok (.ireturn, 1) := by decide +kernel
theorem d_Law_law_208 : decode b_Law_law 208 = .ok (.iload 5, 2) := by decide +kernel
theorem d_Law_law_210 : decode b_Law_law 210 = .ok (.ifCond .ne 15, 3) := by decide +kernel
theorem d_Law_law_213 : decode b_Law_law 213 = .ok (.aload_n 3, 1) := by decide +kernel
theorem d_Law_law_214 : decode b_Law_law 214 = .ok (.iconst 0, 1) := by decide +kernel
theorem d_Law_law_215 : decode b_Law_law 215 = .ok (.laload, 1) := by decide +kernel
theorem d_Law_law_216 : decode b_Law_law 216 = .ok (.iload 6, 2) := by decide +kernel
theorem d_Law_law_218 : decode b_Law_law 218 = .ok (.i2l, 1) := by decide +kernel
theorem d_Law_law_219 : decode b_Law_law 219 = .ok (.lcmp, 1) := by decide +kernel
theorem d_Law_law_220 : decode b_Law_law 220 = .ok (.ifCond .eq 5, 3) := by decide +kernel
theorem d_Law_law_223 : decode b_Law_law 223 = .ok (.iconst 0, 1) := by decide +kernel
theorem d_Law_law_224 : decode b_Law_law 224 = .ok (.ireturn, 1) := by decide +kernel
theorem d_Law_law_225 : decode b_Law_law 225 = .ok (.goto 858, 3) := by decide +kernel
theorem d_Law_law_228 : decode b_Law_law 228 = .ok (.aload_n 1, 1) := by decide +kernel
theorem d_Law_law_229 : decode b_Law_law 229 = .ok (.aload_n 0, 1) := by decide +kernel
theorem d_Law_law_230 : decode b_Law_law 230 = .ok (.iload 4, 2) := by decide +kernel
theorem d_Law_law_232 : decode b_Law_law 232 = .ok (.iconst 1, 1) := by decide +kernel
theorem d_Law_law_233 : decode b_Law_law 233 = .ok (.iadd, 1) := by decide +kernel
theorem d_Law_law_234 : decode b_Law_law 234 = .ok (.iaload, 1) := by decide +kernel
theorem d_Law_law_235 : decode b_Law_law 235 = .ok (.aload_n 0, 1) := by decide +kernel
theorem d_Law_law_236 : decode b_Law_law 236 = .ok (.iload 4, 2) := by decide +kernel
theorem d_Law_law_238 : decode b_Law_law 238 = .ok (.iconst 2, 1) := by decide +kernel
theorem d_Law_law_239 : decode b_Law_law 239 = .ok (.iadd, 1) := by decide +kernel
theorem d_Law_law_240 : decode b_Law_law 240 = .ok (.iaload, 1) := by decide +kernel
theorem d_Law_law_241 : decode b_Law_law 241 = .ok (.aload_n 3, 1) := by decide +kernel
theorem d_Law_law_242 : decode b_Law_law 242 = .ok (.invokestatic 66, 3) := by decide +kernel
theorem d_Law_law_245 : decode b_Law_law 245 = .ok (.istore 5, 2) := by decide +kernel
theorem d_Law_law_247 : decode b_Law_law 247 = .ok (.aload_n 2, 1) := by decide +kernel
theorem d_Law_law_248 : decode b_Law_law 248 = .ok (.aload_n 0, 1) := by decide +kernel
theorem d_Law_law_249 : decode b_Law_law 249 = .ok (.iload 4, 2) := by decide +kernel
theorem d_Law_law_251 : decode b_Law_law 251 = .ok (.iconst 1, 1) := by decide +kernel
theorem d_Law_law_252 : decode b_Law_law 252 = .ok (.iadd, 1) := by decide +kernel
theorem d_Law_law_253 : decode b_Law_law 253 = .ok (.iaload, 1) := by decide +kernel
theorem d_Law_law_254 : decode b_Law_law 254 = .ok (.aload_n 0, 1) := by decide +kernel
theorem d_Law_law_255 : decode b_Law_law 255 = .ok (.iload 4, 2) := by decide +kernel
theorem d_Law_law_257 : decode b_Law_law 257 = .ok (.iconst 2, 1) := by decide +kernel
theorem d_Law_law_258 : decode b_Law_law 258 = .ok (.iadd, 1) := by decide +kernel
theorem d_Law_law_259 : decode b_Law_law 259 = .ok (.iaload, 1) := by decide +kernel
theorem d_Law_law_260 : decode b_Law_law 260 = .ok (.invokevirtual 69, 3) := by decide +kernel
theorem d_Law_law_263 : decode b_Law_law 263 = .ok (.istore 6, 2) := by decide +kernel
theorem d_Law_law_265 : decode b_Law_law 265 = .ok (.aload_n 2, 1) := by decide +kernel
theorem d_Law_law_266 : decode b_Law_law 266 = .ok (.invokevirtual 62, 3) := by decide +kernel
theorem d_Law_law_269 : decode b_Law_law 269 = .ok (.iload 5, 2) := by decide +kernel
theorem d_Law_law_271 : decode b_Law_law 271 = .ok (.if_icmp .eq 5, 3) := by decide +kernel
theorem d_Law_law_274 : decode b_Law_law 274 = .ok (.iconst 0, 1) := by decide +kernel
theorem d_Law_law_275 : decode b_Law_law 275 = .ok (.ireturn, 1) := by decide +kernel
theorem d_Law_law_276 : decode b_Law_law 276 = .ok (.iload 5, 2) := by decide +kernel
theorem d_Law_law_278 : decode b_Law_law 278 = .ok (.ifCond .ne 15, 3) := by decide +kernel
theorem d_Law_law_281 : decode b_Law_law 281 = .ok (.aload_n 3, 1) := by decide +kernel
theorem d_Law_law_282 : decode b_Law_law 282 = .ok (.iconst 0, 1) := by decide +kernel
theorem d_Law_law_283 : decode b_Law_law 283 = .ok (.laload, 1) := by decide +kernel
theorem d_Law_law_284 : decode b_Law_law 284 = .ok (.iload 6, 2) := by decide +kernel
theorem d_Law_law_286 : decode b_Law_law 286 = .ok (.i2l, 1) := by decide +kernel
theorem d_Law_law_287 : decode b_Law_law 287 = .ok (.lcmp, 1) := by decide +kernel
theorem d_Law_law_288 : decode b_Law_law 288 = .ok (.ifCond .eq 5, 3) := by decide +kernel
theorem d_Law_law_291 : decode b_Law_law 291 = .ok (.iconst 0, 1) := by decide +kernel
theorem d_Law_law_292 : decode b_Law_law 292 = .ok (.ireturn, 1) := by decide +kernel
theorem d_Law_law_293 : decode b_Law_law 293 = .ok (.goto 790, 3) := by decide +kernel
theorem d_Law_law_296 : decode b_Law_law 296 = .ok (.aload_n 1, 1) := by decide +kernel
theorem d_Law_law_297 : decode b_Law_law 297 = .ok (.aload_n 0, 1) := by decide +kernel
theorem d_Law_law_298 : decode b_Law_law 298 = .ok (.iload 4, 2) := by decide +kernel
theorem d_Law_law_300 : decode b_Law_law 300 = .ok (.iconst 1, 1) := by decide +kernel
theorem d_Law_law_301 : decode b_Law_law 301 = .ok (.iadd, 1) := by decide +kernel
theorem d_Law_law_302 : decode b_Law_law 302 = .ok (.iaload, 1) := by decide +kernel
theorem d_Law_law_303 : decode b_Law_law 303 = .ok (.aload_n 0, 1) := by decide +kernel
theorem d_Law_law_304 : decode b_Law_law 304 = .ok (.iload 4, 2) := by decide +kernel
theorem d_Law_law_306 : decode b_Law_law 306 = .ok (.iconst 2, 1) := by decide +kernel
theorem d_Law_law_307 : decode b_Law_law 307 = .ok (.iadd, 1) := by decide +kernel
theorem d_Law_law_308 : decode b_Law_law 308 = .ok (.iaload, 1) := by decide +kernel
theorem d_Law_law_309 : decode b_Law_law 309 = .ok (.aload_n 0, 1) := by decide +kernel
theorem d_Law_law_310 : decode b_Law_law 310 = .ok (.iload 4, 2) := by decide +kernel
theorem d_Law_law_312 : decode b_Law_law 312 = .ok (.iconst 3, 1) := by decide +kernel
theorem d_Law_law_313 : decode b_Law_law 313 = .ok (.iadd, 1) := by decide +kernel
theorem d_Law_law_314 : decode b_Law_law 314 = .ok (.iaload, 1) := by decide +kernel
theorem d_Law_law_315 : decode b_Law_law 315 = .ok (.aload_n 0, 1) := by decide +kernel
theorem d_Law_law_316 : decode b_Law_law 316 = .ok (.iload 4, 2) := by decide +kernel
theorem d_Law_law_318 : decode b_Law_law 318 = .ok (.iconst 4, 1) := by decide +kernel
theorem d_Law_law_319 : decode b_Law_law 319 = .ok (.iadd, 1) := by decide +kernel
theorem d_Law_law_320 : decode b_Law_law 320 = .ok (.iaload, 1) := by decide +kernel
theorem d_Law_law_321 : decode b_Law_law 321 = .ok (.aload_n 0, 1) := by decide +kernel
theorem d_Law_law_322 : decode b_Law_law 322 = .ok (.iload 4, 2) := by decide +kernel
theorem d_Law_law_324 : decode b_Law_law 324 = .ok (.iconst 5, 1) := by decide +kernel
theorem d_Law_law_325 : decode b_Law_law 325 = .ok (.iadd, 1) := by decide +kernel
theorem d_Law_law_326 : decode b_Law_law 326 = .ok (.iaload, 1) := by decide +kernel
theorem d_Law_law_327 : decode b_Law_law 327 = .ok (.ifCond .eq 7, 3) := by decide +kernel
theorem d_Law_law_330 : decode b_Law_law 330 = .ok (.iconst 1, 1) := by decide +kernel
theorem d_Law_law_331 : decode b_Law_law 331 = .ok (.goto 4, 3) := by decide +kernel
theorem d_Law_law_334 : decode b_Law_law 334 = .ok (.iconst 0, 1) := by decide +kernel
theorem d_Law_law_335 : decode b_Law_law 335 = .ok (.aload_n 3, 1) := by decide +kernel
theorem d_Law_law_336 : decode b_Law_law 336 = .ok (.invokestatic 70, 3) := by decide +kernel
theorem d_Law_law_339 : decode b_Law_law 339 = .ok (.istore 5, 2) := by decide +kernel
theorem d_Law_law_341 : decode b_Law_law 341 = .ok (.aload_n 2, 1) := by decide +kernel
theorem d_Law_law_342 : decode b_Law_law 342 = .ok (.aload_n 0, 1) := by decide +kernel
theorem d_Law_law_343 : decode b_Law_law 343 = .ok (.iload 4, 2) := by decide +kernel
theorem d_Law_law_345 : decode b_Law_law 345 = .ok (.iconst 1, 1) := by decide +kernel
theorem d_Law_law_346 : decode b_Law_law 346 = .ok (.iadd, 1) := by decide +kernel
theorem d_Law_law_347 : decode b_Law_law 347 = .ok (.iaload, 1) := by decide +kernel
theorem d_Law_law_348 : decode b_Law_law 348 = .ok (.aload_n 0, 1) := by decide +kernel
theorem d_Law_law_349 : decode b_Law_law 349 = .ok (.iload 4, 2) := by decide +kernel
theorem d_Law_law_351 : decode b_Law_law 351 = .ok (.iconst 2, 1) := by decide +kernel
theorem d_Law_law_352 : decode b_Law_law 352 = .ok (.iadd, 1) := by decide +kernel
theorem d_Law_law_353 : decode b_Law_law 353 = .ok (.iaload, 1) := by decide +kernel
theorem d_Law_law_354 : decode b_Law_law 354 = .ok (.aload_n 0, 1) := by decide +kernel
theorem d_Law_law_355 : decode b_Law_law 355 = .ok (.iload 4, 2) := by decide +kernel
theorem d_Law_law_357 : decode b_Law_law 357 = .ok (.iconst 3, 1) := by decide +kernel
theorem d_Law_law_358 : decode b_Law_law 358 = .ok (.iadd, 1) := by decide +kernel
theorem d_Law_law_359 : decode b_Law_law 359 = .ok (.iaload, 1) := by decide +kernel
theorem d_Law_law_360 : decode b_Law_law 360 = .ok (.aload_n 0, 1) := by decide +kernel
theorem d_Law_law_361 : decode b_Law_law 361 = .ok (.iload 4, 2) := by decide +kernel
theorem d_Law_law_363 : decode b_Law_law 363 = .ok (.iconst 4, 1) := by decide +kernel
theorem d_Law_law_364 : decode b_Law_law 364 = .ok (.iadd, 1) := by decide +kernel
theorem d_Law_law_365 : decode b_Law_law 365 = .ok (.iaload, 1) := by decide +kernel
theorem d_Law_law_366 : decode b_Law_law 366 = .ok (.aload_n 0, 1) := by decide +kernel
theorem d_Law_law_367 : decode b_Law_law 367 = .ok (.iload 4, 2) := by decide +kernel
theorem d_Law_law_369 : decode b_Law_law 369 = .ok (.iconst 5, 1) := by decide +kernel
theorem d_Law_law_370 : decode b_Law_law 370 = .ok (.iadd, 1) := by decide +kernel
theorem d_Law_law_371 : decode b_Law_law 371 = .ok (.iaload, 1) := by decide +kernel
theorem d_Law_law_372 : decode b_Law_law 372 = .ok (.ifCond .eq 7, 3) := by decide +kernel
theorem d_Law_law_375 : decode b_Law_law 375 = .ok (.iconst 1, 1) := by decide +kernel
theorem d_Law_law_376 : decode b_Law_law 376 = .ok (.goto 4, 3) := by decide +kernel
theorem d_Law_law_379 : decode b_Law_law 379 = .ok (.iconst 0, 1) := by decide +kernel
theorem d_Law_law_380 : decode b_Law_law 380 = .ok (.invokevirtual 73, 3) := by decide +kernel
theorem d_Law_law_383 : decode b_Law_law 383 = .ok (.istore 6, 2) := by decide +kernel
theorem d_Law_law_385 : decode b_Law_law 385 = .ok (.aload_n 2, 1) := by decide +kernel
theorem d_Law_law_386 : decode b_Law_law 386 = .ok (.invokevirtual 62, 3) := by decide +kernel
theorem d_Law_law_389 : decode b_Law_law 389 = .ok (.iload 5, 2) := by decide +kernel
theorem d_Law_law_391 : decode b_Law_law 391 = .ok (.if_icmp .eq 5, 3) := by decide +kernel
theorem d_Law_law_394 : decode b_Law_law 394 = .ok (.iconst 0, 1) := by decide +kernel
theorem d_Law_law_395 : decode b_Law_law 395 = .ok (.ireturn, 1) := by decide +kernel
theorem d_Law_law_396 : decode b_Law_law 396 = .ok (.iload 5, 2) := by decide +kernel
theorem d_Law_law_398 : decode b_Law_law 398 = .ok (.ifCond .ne 15, 3) := by decide +kernel
theorem d_Law_law_401 : decode b_Law_law 401 = .ok (.aload_n 3, 1) := by decide +kernel
theorem d_Law_law_402 : decode b_Law_law 402 = .ok (.iconst 0, 1) := by decide +kernel
theorem d_Law_law_403 : decode b_Law_law 403 = .ok (.laload, 1) := by decide +kernel
theorem d_Law_law_404 : decode b_Law_law 404 = .ok (.iload 6, 2) := by decide +kernel
theorem d_Law_law_406 : decode b_Law_law 406 = .ok (.i2l, 1) := by decide +kernel
theorem d_Law_law_407 : decode b_Law_law 407 = .ok (.lcmp, 1) := by decide +kernel
theorem d_Law_law_408 : decode b_Law_law 408 = .ok (.ifCond .eq 5, 3) := by decide +kernel
theorem d_Law_law_411 : decode b_Law_law 411 = .ok (.iconst 0, 1) := by decide +kernel
theorem d_Law_law_412 : decode b_Law_law 412 = .ok (.ireturn, 1) := by decide +kernel
theorem d_Law_law_413 : decode b_Law_law 413 = .ok (.goto 670, 3) := by decide +kernel
theorem d_Law_law_416 : decode b_Law_law 416 = .ok (.aload_n 1, 1) := by decide +kernel
theorem d_Law_law_417 : decode b_Law_law 417 = .ok (.aload_n 0, 1) := by decide +kernel
theorem d_Law_law_418 : decode b_Law_law 418 = .ok (.iload 4, 2) := by decide +kernel
theorem d_Law_law_420 : decode b_Law_law 420 = .ok (.iconst 1, 1) := by decide +kernel
theorem d_Law_law_421 : decode b_Law_law 421 = .ok (.iadd, 1) := by decide +kernel
theorem d_Law_law_422 : decode b_Law_law 422 = .ok (.iaload, 1) := by decide +kernel
theorem d_Law_law_423 : decode b_Law_law 423 = .ok (.aload_n 0, 1) := by decide +kernel
theorem d_Law_law_424 : decode b_Law_law 424 = .ok (.iload 4, 2) := by decide +kernel
theorem d_Law_law_426 : decode b_Law_law 426 = .ok (.iconst 2, 1) := by decide +kernel
theorem d_Law_law_427 : decode b_Law_law 427 = .ok (.iadd, 1) := by decide +kernel
theorem d_Law_law_428 : decode b_Law_law 428 = .ok (.iaload, 1) := by decide +kernel
theorem d_Law_law_429 : decode b_Law_law 429 = .ok (.aload_n 0, 1) := by decide +kernel
theorem d_Law_law_430 : decode b_Law_law 430 = .ok (.iload 4, 2) := by decide +kernel
theorem d_Law_law_432 : decode b_Law_law 432 = .ok (.iconst 3, 1) := by decide +kernel
theorem d_Law_law_433 : decode b_Law_law 433 = .ok (.iadd, 1) := by decide +kernel
theorem d_Law_law_434 : decode b_Law_law 434 = .ok (.iaload, 1) := by decide +kernel
theorem d_Law_law_435 : decode b_Law_law 435 = .ok (.aload_n 0, 1) := by decide +kernel
theorem d_Law_law_436 : decode b_Law_law 436 = .ok (.iload 4, 2) := by decide +kernel
theorem d_Law_law_438 : decode b_Law_law 438 = .ok (.iconst 4, 1) := by decide +kernel
theorem d_Law_law_439 : decode b_Law_law 439 = .ok (.iadd, 1) := by decide +kernel
theorem d_Law_law_440 : decode b_Law_law 440 = .ok (.iaload, 1) := by decide +kernel
theorem d_Law_law_441 : decode b_Law_law 441 = .ok (.aload_n 0, 1) := by decide +kernel
theorem d_Law_law_442 : decode b_Law_law 442 = .ok (.iload 4, 2) := by decide +kernel
theorem d_Law_law_444 : decode b_Law_law 444 = .ok (.iconst 5, 1) := by decide +kernel
theorem d_Law_law_445 : decode b_Law_law 445 = .ok (.iadd, 1) := by decide +kernel
theorem d_Law_law_446 : decode b_Law_law 446 = .ok (.iaload, 1) := by decide +kernel
theorem d_Law_law_447 : decode b_Law_law 447 = .ok (.aload_n 0, 1) := by decide +kernel
theorem d_Law_law_448 : decode b_Law_law 448 = .ok (.iload 4, 2) := by decide +kernel
theorem d_Law_law_450 : decode b_Law_law 450 = .ok (.bipush 6, 2) := by decide +kernel
theorem d_Law_law_452 : decode b_Law_law 452 = .ok (.iadd, 1) := by decide +kernel
theorem d_Law_law_453 : decode b_Law_law 453 = .ok (.iaload, 1) := by decide +kernel
theorem d_Law_law_454 : decode b_Law_law 454 = .ok (.aload_n 3, 1) := by decide +kernel
theorem d_Law_law_455 : decode b_Law_law 455 = .ok (.invokestatic 74, 3) := by decide +kernel
theorem d_Law_law_458 : decode b_Law_law 458 = .ok (.istore 5, 2) := by decide +kernel
theorem d_Law_law_460 : decode b_Law_law 460 = .ok (.aload_n 2, 1) := by decide +kernel
theorem d_Law_law_461 : decode b_Law_law 461 = .ok (.aload_n 0, 1) := by decide +kernel
theorem d_Law_law_462 : decode b_Law_law 462 = .ok (.iload 4, 2) := by decide +kernel
theorem d_Law_law_464 : decode b_Law_law 464 = .ok (.iconst 1, 1) := by decide +kernel
theorem d_Law_law_465 : decode b_Law_law 465 = .ok (.iadd, 1) := by decide +kernel
theorem d_Law_law_466 : decode b_Law_law 466 = .ok (.iaload, 1) := by decide +kernel
theorem d_Law_law_467 : decode b_Law_law 467 = .ok (.aload_n 0, 1) := by decide +kernel
theorem d_Law_law_468 : decode b_Law_law 468 = .ok (.iload 4, 2) := by decide +kernel
theorem d_Law_law_470 : decode b_Law_law 470 = .ok (.iconst 2, 1) := by decide +kernel
theorem d_Law_law_471 : decode b_Law_law 471 = .ok (.iadd, 1) := by decide +kernel
theorem d_Law_law_472 : decode b_Law_law 472 = .ok (.iaload, 1) := by decide +kernel
theorem d_Law_law_473 : decode b_Law_law 473 = .ok (.aload_n 0, 1) := by decide +kernel
theorem d_Law_law_474 : decode b_Law_law 474 = .ok (.iload 4, 2) := by decide +kernel
theorem d_Law_law_476 : decode b_Law_law 476 = .ok (.iconst 3, 1) := by decide +kernel
theorem d_Law_law_477 : decode b_Law_law 477 = .ok (.iadd, 1) := by decide +kernel
theorem d_Law_law_478 : decode b_Law_law 478 = .ok (.iaload, 1) := by decide +kernel
theorem d_Law_law_479 : decode b_Law_law 479 = .ok (.aload_n 0, 1) := by decide +kernel
theorem d_Law_law_480 : decode b_Law_law 480 = .ok (.iload 4, 2) := by decide +kernel
theorem d_Law_law_482 : decode b_Law_law 482 = .ok (.iconst 4, 1) := by decide +kernel
theorem d_Law_law_483 : decode b_Law_law 483 = .ok (.iadd, 1) := by decide +kernel
theorem d_Law_law_484 : decode b_Law_law 484 = .ok (.iaload, 1) := by decide +kernel
theorem d_Law_law_485 : decode b_Law_law 485 = .ok (.aload_n 0, 1) := by decide +kernel
theorem d_Law_law_486 : decode b_Law_law 486 = .ok (.iload 4, 2) := by decide +kernel
theorem d_Law_law_488 : decode b_Law_law 488 = .ok (.iconst 5, 1) := by decide +kernel
theorem d_Law_law_489 : decode b_Law_law 489 = .ok (.iadd, 1) := by decide +kernel
theorem d_Law_law_490 : decode b_Law_law 490 = .ok (.iaload, 1) := by decide +kernel
theorem d_Law_law_491 : decode b_Law_law 491 = .ok (.aload_n 0, 1) := by decide +kernel
theorem d_Law_law_492 : decode b_Law_law 492 = .ok (.iload 4, 2) := by decide +kernel
theorem d_Law_law_494 : decode b_Law_law 494 = .ok (.bipush 6, 2) := by decide +kernel
theorem d_Law_law_496 : decode b_Law_law 496 = .ok (.iadd, 1) := by decide +kernel
theorem d_Law_law_497 : decode b_Law_law 497 = .ok (.iaload, 1) := by decide +kernel
theorem d_Law_law_498 : decode b_Law_law 498 = .ok (.invokevirtual 77, 3) := by decide +kernel
theorem d_Law_law_501 : decode b_Law_law 501 = .ok (.istore 6, 2) := by decide +kernel
theorem d_Law_law_503 : decode b_Law_law 503 = .ok (.aload_n 2, 1) := by decide +kernel
theorem d_Law_law_504 : decode b_Law_law 504 = .ok (.invokevirtual 62, 3) := by decide +kernel
theorem d_Law_law_507 : decode b_Law_law 507 = .ok (.iload 5, 2) := by decide +kernel
theorem d_Law_law_509 : decode b_Law_law 509 = .ok (.if_icmp .eq 5, 3) := by decide +kernel
theorem d_Law_law_512 : decode b_Law_law 512 = .ok (.iconst 0, 1) := by decide +kernel
theorem d_Law_law_513 : decode b_Law_law 513 = .ok (.ireturn, 1) := by decide +kernel
theorem d_Law_law_514 : decode b_Law_law 514 = .ok (.iload 5, 2) := by decide +kernel
theorem d_Law_law_516 : decode b_Law_law 516 = .ok (.ifCond .ne 15, 3) := by decide +kernel
theorem d_Law_law_519 : decode b_Law_law 519 = .ok (.aload_n 3, 1) := by decide +kernel
theorem d_Law_law_520 : decode b_Law_law 520 = .ok (.iconst 0, 1) := by decide +kernel
theorem d_Law_law_521 : decode b_Law_law 521 = .ok (.laload, 1) := by decide +kernel
theorem d_Law_law_522 : decode b_Law_law 522 = .ok (.iload 6, 2) := by decide +kernel
theorem d_Law_law_524 : decode b_Law_law 524 = .ok (.i2l, 1) := by decide +kernel
theorem d_Law_law_525 : decode b_Law_law 525 = .ok (.lcmp, 1) := by decide +kernel
theorem d_Law_law_526 : decode b_Law_law 526 = .ok (.ifCond .eq 5, 3) := by decide +kernel
theorem d_Law_law_529 : decode b_Law_law 529 = .ok (.iconst 0, 1) := by decide +kernel
theorem d_Law_law_530 : decode b_Law_law 530 = .ok (.ireturn, 1) := by decide +kernel
theorem d_Law_law_531 : decode b_Law_law 531 = .ok (.goto 552, 3) := by decide +kernel
theorem d_Law_law_534 : decode b_Law_law 534 = .ok (.aload_n 1, 1) := by decide +kernel
theorem d_Law_law_535 : decode b_Law_law 535 = .ok (.aload_n 0, 1) := by decide +kernel
theorem d_Law_law_536 : decode b_Law_law 536 = .ok (.iload 4, 2) := by decide +kernel
theorem d_Law_law_538 : decode b_Law_law 538 = .ok (.iconst 1, 1) := by decide +kernel
theorem d_Law_law_539 : decode b_Law_law 539 = .ok (.iadd, 1) := by decide +kernel
theorem d_Law_law_540 : decode b_Law_law 540 = .ok (.iaload, 1) := by decide +kernel
theorem d_Law_law_541 : decode b_Law_law 541 = .ok (.aload_n 3, 1) := by decide +kernel
theorem d_Law_law_542 : decode b_Law_law 542 = .ok (.invokestatic 78, 3) := by decide +kernel
theorem d_Law_law_545 : decode b_Law_law 545 = .ok (.istore 5, 2) := by decide +kernel
theorem d_Law_law_547 : decode b_Law_law 547 = .ok (.aload_n 2, 1) := by decide +kernel
theorem d_Law_law_548 : decode b_Law_law 548 = .ok (.aload_n 0, 1) := by decide +kernel
theorem d_Law_law_549 : decode b_Law_law 549 = .ok (.iload 4, 2) := by decide +kernel
theorem d_Law_law_551 : decode b_Law_law 551 = .ok (.iconst 1, 1) := by decide +kernel
theorem d_Law_law_552 : decode b_Law_law 552 = .ok (.iadd, 1) := by decide +kernel
theorem d_Law_law_553 : decode b_Law_law 553 = .ok (.iaload, 1) := by decide +kernel
theorem d_Law_law_554 : decode b_Law_law 554 = .ok (.invokevirtual 81, 3) := by decide +kernel
theorem d_Law_law_557 : decode b_Law_law 557 = .ok (.istore 6, 2) := by decide +kernel
theorem d_Law_law_559 : decode b_Law_law 559 = .ok (.aload_n 2, 1) := by decide +kernel
theorem d_Law_law_560 : decode b_Law_law 560 = .ok (.invokevirtual 62, 3) := by decide +kernel
theorem d_Law_law_563 : decode b_Law_law 563 = .ok (.iload 5, 2) := by decide +kernel
theorem d_Law_law_565 : decode b_Law_law 565 = .ok (.if_icmp .eq 5, 3) := by decide +kernel
theorem d_Law_law_568 : decode b_Law_law 568 = .ok (.iconst 0, 1) := by decide +kernel
theorem d_Law_law_569 : decode b_Law_law 569 = .ok (.ireturn, 1) := by decide +kernel
theorem d_Law_law_570 : decode b_Law_law 570 = .ok (.iload 5, 2) := by decide +kernel
theorem d_Law_law_572 : decode b_Law_law 572 = .ok (.ifCond .ne 22, 3) := by decide +kernel
theorem d_Law_law_575 : decode b_Law_law 575 = .ok (.aload_n 3, 1) := by decide +kernel
theorem d_Law_law_576 : decode b_Law_law 576 = .ok (.iconst 0, 1) := by decide +kernel
theorem d_Law_law_577 : decode b_Law_law 577 = .ok (.laload, 1) := by decide +kernel
theorem d_Law_law_578 : decode b_Law_law 578 = .ok (.iload 6, 2) := by decide +kernel
theorem d_Law_law_580 : decode b_Law_law 580 = .ok (.ifCond .eq 7, 3) := by decide +kernel
theorem d_Law_law_583 : decode b_Law_law 583 = .ok (.lconst 1, 1) := by decide +kernel
theorem d_Law_law_584 : decode b_Law_law 584 = .ok (.goto 4, 3) := by decide +kernel
theorem d_Law_law_587 : decode b_Law_law 587 = .ok (.lconst 0, 1) := by decide +kernel
theorem d_Law_law_588 : decode b_Law_law 588 = .ok (.lcmp, 1) := by decide +kernel
theorem d_Law_law_589 : decode b_Law_law 589 = .ok (.ifCond .eq 5, 3) := by decide +kernel
theorem d_Law_law_592 : decode b_Law_law 592 = .ok (.iconst 0, 1) := by decide +kernel
theorem d_Law_law_593 : decode b_Law_law 593 = .ok (.ireturn, 1) := by decide +kernel
theorem d_Law_law_594 : decode b_Law_law 594 = .ok (.goto 489, 3) := by decide +kernel
theorem d_Law_law_597 : decode b_Law_law 597 = .ok (.aload_n 1, 1) := by decide +kernel
theorem d_Law_law_598 : decode b_Law_law 598 = .ok (.aload_n 0, 1) := by decide +kernel
theorem d_Law_law_599 : decode b_Law_law 599 = .ok (.iload 4, 2) := by decide +kernel
theorem d_Law_law_601 : decode b_Law_law 601 = .ok (.iconst 1, 1) := by decide +kernel
theorem d_Law_law_602 : decode b_Law_law 602 = .ok (.iadd, 1) := by decide +kernel
theorem d_Law_law_603 : decode b_Law_law 603 = .ok (.iaload, 1) := by decide +kernel
theorem d_Law_law_604 : decode b_Law_law 604 = .ok (.aload_n 0, 1) := by decide +kernel
theorem d_Law_law_605 : decode b_Law_law 605 = .ok (.iload 4, 2) := by decide +kernel
theorem d_Law_law_607 : decode b_Law_law 607 = .ok (.iconst 2, 1) := by decide +kernel
theorem d_Law_law_608 : decode b_Law_law 608 = .ok (.iadd, 1) := by decide +kernel
theorem d_Law_law_609 : decode b_Law_law 609 = .ok (.iaload, 1) := by decide +kernel
theorem d_Law_law_610 : decode b_Law_law 610 = .ok (.aload_n 3, 1) := by decide +kernel
theorem d_Law_law_611 : decode b_Law_law 611 = .ok (.invokestatic 82, 3) := by decide +kernel
theorem d_Law_law_614 : decode b_Law_law 614 = .ok (.istore 5, 2) := by decide +kernel
theorem d_Law_law_616 : decode b_Law_law 616 = .ok (.aload_n 2, 1) := by decide +kernel
theorem d_Law_law_617 : decode b_Law_law 617 = .ok (.aload_n 0, 1) := by decide +kernel
theorem d_Law_law_618 : decode b_Law_law 618 = .ok (.iload 4, 2) := by decide +kernel
theorem d_Law_law_620 : decode b_Law_law 620 = .ok (.iconst 1, 1) := by decide +kernel
theorem d_Law_law_621 : decode b_Law_law 621 = .ok (.iadd, 1) := by decide +kernel
theorem d_Law_law_622 : decode b_Law_law 622 = .ok (.iaload, 1) := by decide +kernel
theorem d_Law_law_623 : decode b_Law_law 623 = .ok (.aload_n 0, 1) := by decide +kernel
theorem d_Law_law_624 : decode b_Law_law 624 = .ok (.iload 4, 2) := by decide +kernel
theorem d_Law_law_626 : decode b_Law_law 626 = .ok (.iconst 2, 1) := by decide +kernel
theorem d_Law_law_627 : decode b_Law_law 627 = .ok (.iadd, 1) := by decide +kernel
theorem d_Law_law_628 : decode b_Law_law 628 = .ok (.iaload, 1) := by decide +kernel
theorem d_Law_law_629 : decode b_Law_law 629 = .ok (.invokevirtual 84, 3) := by decide +kernel
theorem d_Law_law_632 : decode b_Law_law 632 = .ok (.istore 6, 2) := by decide +kernel
theorem d_Law_law_634 : decode b_Law_law 634 = .ok (.aload_n 2, 1) := by decide +kernel
theorem d_Law_law_635 : decode b_Law_law 635 = .ok (.invokevirtual 62, 3) := by decide +kernel
theorem d_Law_law_638 : decode b_Law_law 638 = .ok (.iload 5, 2) := by decide +kernel
theorem d_Law_law_640 : decode b_Law_law 640 = .ok (.if_icmp .eq 5, 3) := by decide +kernel
theorem d_Law_law_643 : decode b_Law_law 643 = .ok (.iconst 0, 1) := by decide +kernel
theorem d_Law_law_644 : decode b_Law_law 644 = .ok (.ireturn, 1) := by decide +kernel
theorem d_Law_law_645 : decode b_Law_law 645 = .ok (.iload 5, 2) := by decide +kernel
theorem d_Law_law_647 : decode b_Law_law 647 = .ok (.ifCond .ne 15, 3) := by decide +kernel
theorem d_Law_law_650 : decode b_Law_law 650 = .ok (.aload_n 3, 1) := by decide +kernel
theorem d_Law_law_651 : decode b_Law_law 651 = .ok (.iconst 0, 1) := by decide +kernel
theorem d_Law_law_652 : decode b_Law_law 652 = .ok (.laload, 1) := by decide +kernel
theorem d_Law_law_653 : decode b_Law_law 653 = .ok (.iload 6, 2) := by decide +kernel
theorem d_Law_law_655 : decode b_Law_law 655 = .ok (.i2l, 1) := by decide +kernel
theorem d_Law_law_656 : decode b_Law_law 656 = .ok (.lcmp, 1) := by decide +kernel
theorem d_Law_law_657 : decode b_Law_law 657 = .ok (.ifCond .eq 5, 3) := by decide +kernel
theorem d_Law_law_660 : decode b_Law_law 660 = .ok (.iconst 0, 1) := by decide +kernel
theorem d_Law_law_661 : decode b_Law_law 661 = .ok (.ireturn, 1) := by decide +kernel
theorem d_Law_law_662 : decode b_Law_law 662 = .ok (.goto 421, 3) := by decide +kernel
theorem d_Law_law_665 : decode b_Law_law 665 = .ok (.aload_n 1, 1) := by decide +kernel
theorem d_Law_law_666 : decode b_Law_law 666 = .ok (.aload_n 0, 1) := by decide +kernel
theorem d_Law_law_667 : decode b_Law_law 667 = .ok (.iload 4, 2) := by decide +kernel
theorem d_Law_law_669 : decode b_Law_law 669 = .ok (.iconst 1, 1) := by decide +kernel
theorem d_Law_law_670 : decode b_Law_law 670 = .ok (.iadd, 1) := by decide +kernel
theorem d_Law_law_671 : decode b_Law_law 671 = .ok (.iaload, 1) := by decide +kernel
theorem d_Law_law_672 : decode b_Law_law 672 = .ok (.invokevirtual 85, 3) := by decide +kernel
theorem d_Law_law_675 : decode b_Law_law 675 = .ok (.aload_n 2, 1) := by decide +kernel
theorem d_Law_law_676 : decode b_Law_law 676 = .ok (.aload_n 0, 1) := by decide +kernel
theorem d_Law_law_677 : decode b_Law_law 677 = .ok (.iload 4, 2) := by decide +kernel
theorem d_Law_law_679 : decode b_Law_law 679 = .ok (.iconst 1, 1) := by decide +kernel
theorem d_Law_law_680 : decode b_Law_law 680 = .ok (.iadd, 1) := by decide +kernel
theorem d_Law_law_681 : decode b_Law_law 681 = .ok (.iaload, 1) := by decide +kernel
theorem d_Law_law_682 : decode b_Law_law 682 = .ok (.invokevirtual 88, 3) := by decide +kernel
theorem d_Law_law_685 : decode b_Law_law 685 = .ok (.if_icmp .eq 398, 3) := by decide +kernel
theorem d_Law_law_688 : decode b_Law_law 688 = .ok (.iconst 0, 1) := by decide +kernel
theorem d_Law_law_689 : decode b_Law_law 689 = .ok (.ireturn, 1) := by decide +kernel
theorem d_Law_law_690 : decode b_Law_law 690 = .ok (.aload_n 1, 1) := by decide +kernel
theorem d_Law_law_691 : decode b_Law_law 691 = .ok (.aload_n 0, 1) := by decide +kernel
theorem d_Law_law_692 : decode b_Law_law 692 = .ok (.iload 4, 2) := by decide +kernel
theorem d_Law_law_694 : decode b_Law_law 694 = .ok (.iconst 1, 1) := by decide +kernel
theorem d_Law_law_695 : decode b_Law_law 695 = .ok (.iadd, 1) := by decide +kernel
theorem d_Law_law_696 : decode b_Law_law 696 = .ok (.iaload, 1) := by decide +kernel
theorem d_Law_law_697 : decode b_Law_law 697 = .ok (.aload_n 0, 1) := by decide +kernel
theorem d_Law_law_698 : decode b_Law_law 698 = .ok (.iload 4, 2) := by decide +kernel
theorem d_Law_law_700 : decode b_Law_law 700 = .ok (.iconst 2, 1) := by decide +kernel
theorem d_Law_law_701 : decode b_Law_law 701 = .ok (.iadd, 1) := by decide +kernel
theorem d_Law_law_702 : decode b_Law_law 702 = .ok (.iaload, 1) := by decide +kernel
theorem d_Law_law_703 : decode b_Law_law 703 = .ok (.aload_n 3, 1) := by decide +kernel
theorem d_Law_law_704 : decode b_Law_law 704 = .ok (.invokestatic 89, 3) := by decide +kernel
theorem d_Law_law_707 : decode b_Law_law 707 = .ok (.istore 5, 2) := by decide +kernel
theorem d_Law_law_709 : decode b_Law_law 709 = .ok (.aload_n 2, 1) := by decide +kernel
theorem d_Law_law_710 : decode b_Law_law 710 = .ok (.aload_n 0, 1) := by decide +kernel
theorem d_Law_law_711 : decode b_Law_law 711 = .ok (.iload 4, 2) := by decide +kernel
theorem d_Law_law_713 : decode b_Law_law 713 = .ok (.iconst 1, 1) := by decide +kernel
theorem d_Law_law_714 : decode b_Law_law 714 = .ok (.iadd, 1) := by decide +kernel
theorem d_Law_law_715 : decode b_Law_law 715 = .ok (.iaload, 1) := by decide +kernel
theorem d_Law_law_716 : decode b_Law_law 716 = .ok (.aload_n 0, 1) := by decide +kernel
theorem d_Law_law_717 : decode b_Law_law 717 = .ok (.iload 4, 2) := by decide +kernel
theorem d_Law_law_719 : decode b_Law_law 719 = .ok (.iconst 2, 1) := by decide +kernel
theorem d_Law_law_720 : decode b_Law_law 720 = .ok (.iadd, 1) := by decide +kernel
theorem d_Law_law_721 : decode b_Law_law 721 = .ok (.iaload, 1) := by decide +kernel
theorem d_Law_law_722 : decode b_Law_law 722 = .ok (.invokevirtual 91, 3) := by decide +kernel
theorem d_Law_law_725 : decode b_Law_law 725 = .ok (.istore 6, 2) := by decide +kernel
theorem d_Law_law_727 : decode b_Law_law 727 = .ok (.aload_n 2, 1) := by decide +kernel
theorem d_Law_law_728 : decode b_Law_law 728 = .ok (.invokevirtual 62, 3) := by decide +kernel
theorem d_Law_law_731 : decode b_Law_law 731 = .ok (.iload 5, 2) := by decide +kernel
theorem d_Law_law_733 : decode b_Law_law 733 = .ok (.if_icmp .eq 5, 3) := by decide +kernel
theorem d_Law_law_736 : decode b_Law_law 736 = .ok (.iconst 0, 1) := by decide +kernel
theorem d_Law_law_737 : decode b_Law_law 737 = .ok (.ireturn, 1) := by decide +kernel
theorem d_Law_law_738 : decode b_Law_law 738 = .ok (.iload 5, 2) := by decide +kernel
theorem d_Law_law_740 : decode b_Law_law 740 = .ok (.ifCond .ne 22, 3) := by decide +kernel
theorem d_Law_law_743 : decode b_Law_law 743 = .ok (.aload_n 3, 1) := by decide +kernel
theorem d_Law_law_744 : decode b_Law_law 744 = .ok (.iconst 0, 1) := by decide +kernel
theorem d_Law_law_745 : decode b_Law_law 745 = .ok (.laload, 1) := by decide +kernel
theorem d_Law_law_746 : decode b_Law_law 746 = .ok (.iload 6, 2) := by decide +kernel
theorem d_Law_law_748 : decode b_Law_law 748 = .ok (.ifCond .eq 7, 3) := by decide +kernel
theorem d_Law_law_751 : decode b_Law_law 751 = .ok (.lconst 1, 1) := by decide +kernel
theorem d_Law_law_752 : decode b_Law_law 752 = .ok (.goto 4, 3) := by decide +kernel
theorem d_Law_law_755 : decode b_Law_law 755 = .ok (.lconst 0, 1) := by decide +kernel
theorem d_Law_law_756 : decode b_Law_law 756 = .ok (.lcmp, 1) := by decide +kernel
theorem d_Law_law_757 : decode b_Law_law 757 = .ok (.ifCond .eq 5, 3) := by decide +kernel
theorem d_Law_law_760 : decode b_Law_law 760 = .ok (.iconst 0, 1) := by decide +kernel
theorem d_Law_law_761 : decode b_Law_law 761 = .ok (.ireturn, 1) := by decide +kernel
theorem d_Law_law_762 : decode b_Law_law 762 = .ok (.goto 321, 3) := by decide +kernel
theorem d_Law_law_765 : decode b_Law_law 765 = .ok (.aload_n 1, 1) := by decide +kernel
theorem d_Law_law_766 : decode b_Law_law 766 = .ok (.aload_n 0, 1) := by decide +kernel
theorem d_Law_law_767 : decode b_Law_law 767 = .ok (.iload 4, 2) := by decide +kernel
theorem d_Law_law_769 : decode b_Law_law 769 = .ok (.iconst 1, 1) := by decide +kernel
theorem d_Law_law_770 : decode b_Law_law 770 = .ok (.iadd, 1) := by decide +kernel
theorem d_Law_law_771 : decode b_Law_law 771 = .ok (.iaload, 1) := by decide +kernel
theorem d_Law_law_772 : decode b_Law_law 772 = .ok (.aload_n 3, 1) := by decide +kernel
theorem d_Law_law_773 : decode b_Law_law 773 = .ok (.invokestatic 92, 3) := by decide +kernel
theorem d_Law_law_776 : decode b_Law_law 776 = .ok (.istore 5, 2) := by decide +kernel
theorem d_Law_law_778 : decode b_Law_law 778 = .ok (.aload_n 2, 1) := by decide +kernel
theorem d_Law_law_779 : decode b_Law_law 779 = .ok (.aload_n 0, 1) := by decide +kernel
theorem d_Law_law_780 : decode b_Law_law 780 = .ok (.iload 4, 2) := by decide +kernel
theorem d_Law_law_782 : decode b_Law_law 782 = .ok (.iconst 1, 1) := by decide +kernel
theorem d_Law_law_783 : decode b_Law_law 783 = .ok (.iadd, 1) := by decide +kernel
theorem d_Law_law_784 : decode b_Law_law 784 = .ok (.iaload, 1) := by decide +kernel
theorem d_Law_law_785 : decode b_Law_law 785 = .ok (.invokevirtual 94, 3) := by decide +kernel
theorem d_Law_law_788 : decode b_Law_law 788 = .ok (.istore 6, 2) := by decide +kernel
theorem d_Law_law_790 : decode b_Law_law 790 = .ok (.aload_n 2, 1) := by decide +kernel
theorem d_Law_law_791 : decode b_Law_law 791 = .ok (.invokevirtual 62, 3) := by decide +kernel
theorem d_Law_law_794 : decode b_Law_law 794 = .ok (.iload 5, 2) := by decide +kernel
theorem d_Law_law_796 : decode b_Law_law 796 = .ok (.if_icmp .eq 5, 3) := by decide +kernel
theorem d_Law_law_799 : decode b_Law_law 799 = .ok (.iconst 0, 1) := by decide +kernel
theorem d_Law_law_800 : decode b_Law_law 800 = .ok (.ireturn, 1) := by decide +kernel
theorem d_Law_law_801 : decode b_Law_law 801 = .ok (.iload 5, 2) := by decide +kernel
theorem d_Law_law_803 : decode b_Law_law 803 = .ok (.ifCond .ne 15, 3) := by decide +kernel
theorem d_Law_law_806 : decode b_Law_law 806 = .ok (.aload_n 3, 1) := by decide +kernel
theorem d_Law_law_807 : decode b_Law_law 807 = .ok (.iconst 0, 1) := by decide +kernel
theorem d_Law_law_808 : decode b_Law_law 808 = .ok (.laload, 1) := by decide +kernel
theorem d_Law_law_809 : decode b_Law_law 809 = .ok (.iload 6, 2) := by decide +kernel
theorem d_Law_law_811 : decode b_Law_law 811 = .ok (.i2l, 1) := by decide +kernel
theorem d_Law_law_812 : decode b_Law_law 812 = .ok (.lcmp, 1) := by decide +kernel
theorem d_Law_law_813 : decode b_Law_law 813 = .ok (.ifCond .eq 5, 3) := by decide +kernel
theorem d_Law_law_816 : decode b_Law_law 816 = .ok (.iconst 0, 1) := by decide +kernel
theorem d_Law_law_817 : decode b_Law_law 817 = .ok (.ireturn, 1) := by decide +kernel
theorem d_Law_law_818 : decode b_Law_law 818 = .ok (.goto 265, 3) := by decide +kernel
theorem d_Law_law_821 : decode b_Law_law 821 = .ok (.aload_n 1, 1) := by decide +kernel
theorem d_Law_law_822 : decode b_Law_law 822 = .ok (.invokevirtual 95, 3) := by decide +kernel
theorem d_Law_law_825 : decode b_Law_law 825 = .ok (.aload_n 2, 1) := by decide +kernel
theorem d_Law_law_826 : decode b_Law_law 826 = .ok (.invokevirtual 98, 3) := by decide +kernel
theorem d_Law_law_829 : decode b_Law_law 829 = .ok (.if_icmp .eq 254, 3) := by decide +kernel
theorem d_Law_law_832 : decode b_Law_law 832 = .ok (.iconst 0, 1) := by decide +kernel
theorem d_Law_law_833 : decode b_Law_law 833 = .ok (.ireturn, 1) := by decide +kernel
theorem d_Law_law_834 : decode b_Law_law 834 = .ok (.aload_n 1, 1) := by decide +kernel
theorem d_Law_law_835 : decode b_Law_law 835 = .ok (.aload_n 0, 1) := by decide +kernel
theorem d_Law_law_836 : decode b_Law_law 836 = .ok (.iload 4, 2) := by decide +kernel
theorem d_Law_law_838 : decode b_Law_law 838 = .ok (.iconst 1, 1) := by decide +kernel
theorem d_Law_law_839 : decode b_Law_law 839 = .ok (.iadd, 1) := by decide +kernel
theorem d_Law_law_840 : decode b_Law_law 840 = .ok (.iaload, 1) := by decide +kernel
theorem d_Law_law_841 : decode b_Law_law 841 = .ok (.aload_n 3, 1) := by decide +kernel
theorem d_Law_law_842 : decode b_Law_law 842 = .ok (.invokestatic 99, 3) := by decide +kernel
theorem d_Law_law_845 : decode b_Law_law 845 = .ok (.istore 5, 2) := by decide +kernel
theorem d_Law_law_847 : decode b_Law_law 847 = .ok (.aload_n 2, 1) := by decide +kernel
theorem d_Law_law_848 : decode b_Law_law 848 = .ok (.aload_n 0, 1) := by decide +kernel
theorem d_Law_law_849 : decode b_Law_law 849 = .ok (.iload 4, 2) := by decide +kernel
theorem d_Law_law_851 : decode b_Law_law 851 = .ok (.iconst 1, 1) := by decide +kernel
theorem d_Law_law_852 : decode b_Law_law 852 = .ok (.iadd, 1) := by decide +kernel
theorem d_Law_law_853 : decode b_Law_law 853 = .ok (.iaload, 1) := by decide +kernel
theorem d_Law_law_854 : decode b_Law_law 854 = .ok (.invokevirtual 101, 3) := by decide +kernel
theorem d_Law_law_857 : decode b_Law_law 857 = .ok (.istore 6, 2) := by decide +kernel
theorem d_Law_law_859 : decode b_Law_law 859 = .ok (.aload_n 2, 1) := by decide +kernel
theorem d_Law_law_860 : decode b_Law_law 860 = .ok (.invokevirtual 62, 3) := by decide +kernel
theorem d_Law_law_863 : decode b_Law_law 863 = .ok (.iload 5, 2) := by decide +kernel
theorem d_Law_law_865 : decode b_Law_law 865 = .ok (.if_icmp .eq 5, 3) := by decide +kernel
theorem d_Law_law_868 : decode b_Law_law 868 = .ok (.iconst 0, 1) := by decide +kernel
theorem d_Law_law_869 : decode b_Law_law 869 = .ok (.ireturn, 1) := by decide +kernel
theorem d_Law_law_870 : decode b_Law_law 870 = .ok (.iload 5, 2) := by decide +kernel
theorem d_Law_law_872 : decode b_Law_law 872 = .ok (.ifCond .ne 15, 3) := by decide +kernel
theorem d_Law_law_875 : decode b_Law_law 875 = .ok (.aload_n 3, 1) := by decide +kernel
theorem d_Law_law_876 : decode b_Law_law 876 = .ok (.iconst 0, 1) := by decide +kernel
theorem d_Law_law_877 : decode b_Law_law 877 = .ok (.laload, 1) := by decide +kernel
theorem d_Law_law_878 : decode b_Law_law 878 = .ok (.iload 6, 2) := by decide +kernel
theorem d_Law_law_880 : decode b_Law_law 880 = .ok (.i2l, 1) := by decide +kernel
theorem d_Law_law_881 : decode b_Law_law 881 = .ok (.lcmp, 1) := by decide +kernel
theorem d_Law_law_882 : decode b_Law_law 882 = .ok (.ifCond .eq 5, 3) := by decide +kernel
theorem d_Law_law_885 : decode b_Law_law 885 = .ok (.iconst 0, 1) := by decide +kernel
theorem d_Law_law_886 : decode b_Law_law 886 = .ok (.ireturn, 1) := by decide +kernel
theorem d_Law_law_887 : decode b_Law_law 887 = .ok (.goto 196, 3) := by decide +kernel
theorem d_Law_law_890 : decode b_Law_law 890 = .ok (.aload_n 1, 1) := by decide +kernel
theorem d_Law_law_891 : decode b_Law_law 891 = .ok (.aload_n 0, 1) := by decide +kernel
theorem d_Law_law_892 : decode b_Law_law 892 = .ok (.iload 4, 2) := by decide +kernel
theorem d_Law_law_894 : decode b_Law_law 894 = .ok (.iconst 1, 1) := by decide +kernel
theorem d_Law_law_895 : decode b_Law_law 895 = .ok (.iadd, 1) := by decide +kernel
theorem d_Law_law_896 : decode b_Law_law 896 = .ok (.iaload, 1) := by decide +kernel
theorem d_Law_law_897 : decode b_Law_law 897 = .ok (.invokevirtual 102, 3) := by decide +kernel
theorem d_Law_law_900 : decode b_Law_law 900 = .ok (.aload_n 2, 1) := by decide +kernel
theorem d_Law_law_901 : decode b_Law_law 901 = .ok (.aload_n 0, 1) := by decide +kernel
theorem d_Law_law_902 : decode b_Law_law 902 = .ok (.iload 4, 2) := by decide +kernel
theorem d_Law_law_904 : decode b_Law_law 904 = .ok (.iconst 1, 1) := by decide +kernel
theorem d_Law_law_905 : decode b_Law_law 905 = .ok (.iadd, 1) := by decide +kernel
theorem d_Law_law_906 : decode b_Law_law 906 = .ok (.iaload, 1) := by decide +kernel
theorem d_Law_law_907 : decode b_Law_law 907 = .ok (.invokevirtual 105, 3) := by decide +kernel
theorem d_Law_law_910 : decode b_Law_law 910 = .ok (.if_icmp .eq 173, 3) := by decide +kernel
theorem d_Law_law_913 : decode b_Law_law 913 = .ok (.iconst 0, 1) := by decide +kernel
theorem d_Law_law_914 : decode b_Law_law 914 = .ok (.ireturn, 1) := by decide +kernel
theorem d_Law_law_915 : decode b_Law_law 915 = .ok (.aload_n 1, 1) := by decide +kernel
theorem d_Law_law_916 : decode b_Law_law 916 = .ok (.aload_n 0, 1) := by decide +kernel
theorem d_Law_law_917 : decode b_Law_law 917 = .ok (.iload 4, 2) := by decide +kernel
theorem d_Law_law_919 : decode b_Law_law 919 = .ok (.iconst 1, 1) := by decide +kernel
theorem d_Law_law_920 : decode b_Law_law 920 = .ok (.iadd, 1) := by decide +kernel
theorem d_Law_law_921 : decode b_Law_law 921 = .ok (.iaload, 1) := by decide +kernel
theorem d_Law_law_922 : decode b_Law_law 922 = .ok (.invokevirtual 106, 3) := by decide +kernel
theorem d_Law_law_925 : decode b_Law_law 925 = .ok (.aload_n 2, 1) := by decide +kernel
theorem d_Law_law_926 : decode b_Law_law 926 = .ok (.aload_n 0, 1) := by decide +kernel
theorem d_Law_law_927 : decode b_Law_law 927 = .ok (.iload 4, 2) := by decide +kernel
theorem d_Law_law_929 : decode b_Law_law 929 = .ok (.iconst 1, 1) := by decide +kernel
theorem d_Law_law_930 : decode b_Law_law 930 = .ok (.iadd, 1) := by decide +kernel
theorem d_Law_law_931 : decode b_Law_law 931 = .ok (.iaload, 1) := by decide +kernel
theorem d_Law_law_932 : decode b_Law_law 932 = .ok (.invokevirtual 109, 3) := by decide +kernel
theorem d_Law_law_935 : decode b_Law_law 935 = .ok (.if_icmp .eq 148, 3) := by decide +kernel
theorem d_Law_law_938 : decode b_Law_law 938 = .ok (.iconst 0, 1) := by decide +kernel
theorem d_Law_law_939 : decode b_Law_law 939 = .ok (.ireturn, 1) := by decide +kernel
theorem d_Law_law_940 : decode b_Law_law 940 = .ok (.aload_n 1, 1) := by decide +kernel
theorem d_Law_law_941 : decode b_Law_law 941 = .ok (.aload_n 0, 1) := by decide +kernel
theorem d_Law_law_942 : decode b_Law_law 942 = .ok (.iload 4, 2) := by decide +kernel
theorem d_Law_law_944 : decode b_Law_law 944 = .ok (.iconst 1, 1) := by decide +kernel
theorem d_Law_law_945 : decode b_Law_law 945 = .ok (.iadd, 1) := by decide +kernel
theorem d_Law_law_946 : decode b_Law_law 946 = .ok (.iaload, 1) := by decide +kernel
theorem d_Law_law_947 : decode b_Law_law 947 = .ok (.aload_n 3, 1) := by decide +kernel
theorem d_Law_law_948 : decode b_Law_law 948 = .ok (.invokestatic 110, 3) := by decide +kernel
theorem d_Law_law_951 : decode b_Law_law 951 = .ok (.istore 5, 2) := by decide +kernel
theorem d_Law_law_953 : decode b_Law_law 953 = .ok (.aload_n 2, 1) := by decide +kernel
theorem d_Law_law_954 : decode b_Law_law 954 = .ok (.aload_n 0, 1) := by decide +kernel
theorem d_Law_law_955 : decode b_Law_law 955 = .ok (.iload 4, 2) := by decide +kernel
theorem d_Law_law_957 : decode b_Law_law 957 = .ok (.iconst 1, 1) := by decide +kernel
theorem d_Law_law_958 : decode b_Law_law 958 = .ok (.iadd, 1) := by decide +kernel
theorem d_Law_law_959 : decode b_Law_law 959 = .ok (.iaload, 1) := by decide +kernel
theorem d_Law_law_960 : decode b_Law_law 960 = .ok (.invokevirtual 112, 3) := by decide +kernel
theorem d_Law_law_963 : decode b_Law_law 963 = .ok (.istore 6, 2) := by decide +kernel
theorem d_Law_law_965 : decode b_Law_law 965 = .ok (.aload_n 2, 1) := by decide +kernel
theorem d_Law_law_966 : decode b_Law_law 966 = .ok (.invokevirtual 62, 3) := by decide +kernel
theorem d_Law_law_969 : decode b_Law_law 969 = .ok (.iload 5, 2) := by decide +kernel
theorem d_Law_law_971 : decode b_Law_law 971 = .ok (.if_icmp .eq 5, 3) := by decide +kernel
theorem d_Law_law_974 : decode b_Law_law 974 = .ok (.iconst 0, 1) := by decide +kernel
theorem d_Law_law_975 : decode b_Law_law 975 = .ok (.ireturn, 1) := by decide +kernel
theorem d_Law_law_976 : decode b_Law_law 976 = .ok (.iload 5, 2) := by decide +kernel
theorem d_Law_law_978 : decode b_Law_law 978 = .ok (.ifCond .ne 15, 3) := by decide +kernel
theorem d_Law_law_981 : decode b_Law_law 981 = .ok (.aload_n 3, 1) := by decide +kernel
theorem d_Law_law_982 : decode b_Law_law 982 = .ok (.iconst 0, 1) := by decide +kernel
theorem d_Law_law_983 : decode b_Law_law 983 = .ok (.laload, 1) := by decide +kernel
theorem d_Law_law_984 : decode b_Law_law 984 = .ok (.iload 6, 2) := by decide +kernel
theorem d_Law_law_986 : decode b_Law_law 986 = .ok (.i2l, 1) := by decide +kernel
theorem d_Law_law_987 : decode b_Law_law 987 = .ok (.lcmp, 1) := by decide +kernel
theorem d_Law_law_988 : decode b_Law_law 988 = .ok (.ifCond .eq 5, 3) := by decide +kernel
theorem d_Law_law_991 : decode b_Law_law 991 = .ok (.iconst 0, 1) := by decide +kernel
theorem d_Law_law_992 : decode b_Law_law 992 = .ok (.ireturn, 1) := by decide +kernel
theorem d_Law_law_993 : decode b_Law_law 993 = .ok (.goto 90, 3) := by decide +kernel
theorem d_Law_law_996 : decode b_Law_law 996 = .ok (.aload_n 1, 1) := by decide +kernel
theorem d_Law_law_997 : decode b_Law_law 997 = .ok (.aload_n 0, 1) := by decide +kernel
theorem d_Law_law_998 : decode b_Law_law 998 = .ok (.iload 4, 2) := by decide +kernel
theorem d_Law_law_1000 : decode b_Law_law 1000 = .ok (.iconst 1, 1) := by decide +kernel
theorem d_Law_law_1001 : decode b_Law_law 1001 = .ok (.iadd, 1) := by decide +kernel
theorem d_Law_law_1002 : decode b_Law_law 1002 = .ok (.iaload, 1) := by decide +kernel
theorem d_Law_law_1003 : decode b_Law_law 1003 = .ok (.invokevirtual 113, 3) := by decide +kernel
theorem d_Law_law_1006 : decode b_Law_law 1006 = .ok (.aload_n 2, 1) := by decide +kernel
theorem d_Law_law_1007 : decode b_Law_law 1007 = .ok (.aload_n 0, 1) := by decide +kernel
theorem d_Law_law_1008 : decode b_Law_law 1008 = .ok (.iload 4, 2) := by decide +kernel
theorem d_Law_law_1010 : decode b_Law_law 1010 = .ok (.iconst 1, 1) := by decide +kernel
theorem d_Law_law_1011 : decode b_Law_law 1011 = .ok (.iadd, 1) := by decide +kernel
theorem d_Law_law_1012 : decode b_Law_law 1012 = .ok (.iaload, 1) := by decide +kernel
theorem d_Law_law_1013 : decode b_Law_law 1013 = .ok (.invokevirtual 116, 3) := by decide +kernel
theorem d_Law_law_1016 : decode b_Law_law 1016 = .ok (.if_icmp .eq 67, 3) := by decide +kernel
theorem d_Law_law_1019 : decode b_Law_law 1019 = .ok (.iconst 0, 1) := by decide +kernel
theorem d_Law_law_1020 : decode b_Law_law 1020 = .ok (.ireturn, 1) := by decide +kernel
theorem d_Law_law_1021 : decode b_Law_law 1021 = .ok (.aload_n 1, 1) := by decide +kernel
theorem d_Law_law_1022 : decode b_Law_law 1022 = .ok (.aload_n 0, 1) := by decide +kernel
theorem d_Law_law_1023 : decode b_Law_law 1023 = .ok (.iload 4, 2) := by decide +kernel
theorem d_Law_law_1025 : decode b_Law_law 1025 = .ok (.iconst 1, 1) := by decide +kernel
theorem d_Law_law_1026 : decode b_Law_law 1026 = .ok (.iadd, 1) := by decide +kernel
theorem d_Law_law_1027 : decode b_Law_law 1027 = .ok (.iaload, 1) := by decide +kernel
theorem d_Law_law_1028 : decode b_Law_law 1028 = .ok (.invokevirtual 117, 3) := by decide +kernel
theorem d_Law_law_1031 : decode b_Law_law 1031 = .ok (.aload_n 2, 1) := by decide +kernel
theorem d_Law_law_1032 : decode b_Law_law 1032 = .ok (.aload_n 0, 1) := by decide +kernel
theorem d_Law_law_1033 : decode b_Law_law 1033 = .ok (.iload 4, 2) := by decide +kernel
theorem d_Law_law_1035 : decode b_Law_law 1035 = .ok (.iconst 1, 1) := by decide +kernel
theorem d_Law_law_1036 : decode b_Law_law 1036 = .ok (.iadd, 1) := by decide +kernel
theorem d_Law_law_1037 : decode b_Law_law 1037 = .ok (.iaload, 1) := by decide +kernel
theorem d_Law_law_1038 : decode b_Law_law 1038 = .ok (.invokevirtual 120, 3) := by decide +kernel
theorem d_Law_law_1041 : decode b_Law_law 1041 = .ok (.if_icmp .eq 42, 3) := by decide +kernel
theorem d_Law_law_1044 : decode b_Law_law 1044 = .ok (.iconst 0, 1) := by decide +kernel
theorem d_Law_law_1045 : decode b_Law_law 1045 = .ok (.ireturn, 1) := by decide +kernel
theorem d_Law_law_1046 : decode b_Law_law 1046 = .ok (.aload_n 1, 1) := by decide +kernel
theorem d_Law_law_1047 : decode b_Law_law 1047 = .ok (.aload_n 0, 1) := by decide +kernel
theorem d_Law_law_1048 : decode b_Law_law 1048 = .ok (.iload 4, 2) := by decide +kernel
theorem d_Law_law_1050 : decode b_Law_law 1050 = .ok (.iconst 1, 1) := by decide +kernel
theorem d_Law_law_1051 : decode b_Law_law 1051 = .ok (.iadd, 1) := by decide +kernel
theorem d_Law_law_1052 : decode b_Law_law 1052 = .ok (.iaload, 1) := by decide +kernel
theorem d_Law_law_1053 : decode b_Law_law 1053 = .ok (.aload_n 0, 1) := by decide +kernel
theorem d_Law_law_1054 : decode b_Law_law 1054 = .ok (.iload 4, 2) := by decide +kernel
theorem d_Law_law_1056 : decode b_Law_law 1056 = .ok (.iconst 2, 1) := by decide +kernel
theorem d_Law_law_1057 : decode b_Law_law 1057 = .ok (.iadd, 1) := by decide +kernel
theorem d_Law_law_1058 : decode b_Law_law 1058 = .ok (.iaload, 1) := by decide +kernel
theorem d_Law_law_1059 : decode b_Law_law 1059 = .ok (.invokevirtual 121, 3) := by decide +kernel
theorem d_Law_law_1062 : decode b_Law_law 1062 = .ok (.aload_n 2, 1) := by decide +kernel
theorem d_Law_law_1063 : decode b_Law_law 1063 = .ok (.aload_n 0, 1) := by decide +kernel
theorem d_Law_law_1064 : decode b_Law_law 1064 = .ok (.iload 4, 2) := by decide +kernel
theorem d_Law_law_1066 : decode b_Law_law 1066 = .ok (.iconst 1, 1) := by decide +kernel
theorem d_Law_law_1067 : decode b_Law_law 1067 = .ok (.iadd, 1) := by decide +kernel
theorem d_Law_law_1068 : decode b_Law_law 1068 = .ok (.iaload, 1) := by decide +kernel
theorem d_Law_law_1069 : decode b_Law_law 1069 = .ok (.aload_n 0, 1) := by decide +kernel
theorem d_Law_law_1070 : decode b_Law_law 1070 = .ok (.iload 4, 2) := by decide +kernel
theorem d_Law_law_1072 : decode b_Law_law 1072 = .ok (.iconst 2, 1) := by decide +kernel
theorem d_Law_law_1073 : decode b_Law_law 1073 = .ok (.iadd, 1) := by decide +kernel
theorem d_Law_law_1074 : decode b_Law_law 1074 = .ok (.iaload, 1) := by decide +kernel
theorem d_Law_law_1075 : decode b_Law_law 1075 = .ok (.invokevirtual 124, 3) := by decide +kernel
theorem d_Law_law_1078 : decode b_Law_law 1078 = .ok (.if_icmp .eq 5, 3) := by decide +kernel
theorem d_Law_law_1081 : decode b_Law_law 1081 = .ok (.iconst 0, 1) := by decide +kernel
theorem d_Law_law_1082 : decode b_Law_law 1082 = .ok (.ireturn, 1) := by decide +kernel
theorem d_Law_law_1083 : decode b_Law_law 1083 = .ok (.iinc 4 7, 3) := by decide +kernel
theorem d_Law_law_1086 : decode b_Law_law 1086 = .ok (.goto (-1063), 3) := by decide +kernel
theorem d_Law_law_1089 : decode b_Law_law 1089 = .ok (.iconst 1, 1) := by decide +kernel
theorem d_Law_law_1090 : decode b_Law_law 1090 = .ok (.ireturn, 1) := by decide +kernel
