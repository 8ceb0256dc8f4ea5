set_option maxRecDepth 100000 in
theorem tw_629 : (Jvm.Cond.lays "FallingTermsModel" "FallingTermsModel" "hasNeed" "Z") ∈ tg := tg_in 629 (by first | exact rfl | decide +kernel) rfl
set_option maxRecDepth 100000 in
theorem tw_630 : (Jvm.Cond.soleField "FallingTermsModel" "hasNeed") ∈ tg := tg_in 630 (by first | exact rfl | decide +kernel) rfl
set_option maxRecDepth 100000 in
theorem tw_631 : (Jvm.Cond.laysFinal "FallingTermsModel" "FallingTermsModel" "need" "[I") ∈ tg := tg_in 631 (by first | exact rfl | decide +kernel) rfl
set_option maxRecDepth 100000 in
theorem tw_632 : (Jvm.Cond.soleField "FallingTermsModel" "need") ∈ tg := tg_in 632 (by first | exact rfl | decide +kernel) rfl
set_option maxRecDepth 100000 in
theorem tw_633 : (Jvm.Cond.lays "FallingTermsModel" "FallingTermsModel" "rows" "I") ∈ tg := tg_in 633 (by first | exact rfl | decide +kernel) rfl
set_option maxRecDepth 100000 in
theorem tw_634 : (Jvm.Cond.soleField "FallingTermsModel" "rows") ∈ tg := tg_in 634 (by first | exact rfl | decide +kernel) rfl
set_option maxRecDepth 100000 in
theorem tw_635 : (Jvm.Cond.laysFinal "FallingTermsModel" "FallingTermsModel" "ra" "[J") ∈ tg := tg_in 635 (by first | exact rfl | decide +kernel) rfl
set_option maxRecDepth 100000 in
theorem tw_636 : (Jvm.Cond.soleField "FallingTermsModel" "ra") ∈ tg := tg_in 636 (by first | exact rfl | decide +kernel) rfl
set_option maxRecDepth 100000 in
theorem tw_637 : (Jvm.Cond.laysFinal "FallingTermsModel" "FallingTermsModel" "rb" "[J") ∈ tg := tg_in 637 (by first | exact rfl | decide +kernel) rfl
set_option maxRecDepth 100000 in
theorem tw_638 : (Jvm.Cond.soleField "FallingTermsModel" "rb") ∈ tg := tg_in 638 (by first | exact rfl | decide +kernel) rfl
set_option maxRecDepth 100000 in
theorem tw_639 : (Jvm.Cond.laysFinal "FallingTermsModel" "FallingTermsModel" "rc" "[J") ∈ tg := tg_in 639 (by first | exact rfl | decide +kernel) rfl
set_option maxRecDepth 100000 in
theorem tw_640 : (Jvm.Cond.soleField "FallingTermsModel" "rc") ∈ tg := tg_in 640 (by first | exact rfl | decide +kernel) rfl
set_option maxRecDepth 100000 in
theorem tw_641 : (Jvm.Cond.laysFinal "FallingTermsModel" "FallingTermsModel" "rd" "[J") ∈ tg := tg_in 641 (by first | exact rfl | decide +kernel) rfl
set_option maxRecDepth 100000 in
theorem tw_642 : (Jvm.Cond.soleField "FallingTermsModel" "rd") ∈ tg := tg_in 642 (by first | exact rfl | decide +kernel) rfl
set_option maxRecDepth 100000 in
theorem tw_643 : (Jvm.Cond.lays "FallingTermsModel" "FallingTermsModel" "isBorne" "Z") ∈ tg := tg_in 643 (by first | exact rfl | decide +kernel) rfl
set_option maxRecDepth 100000 in
theorem tw_644 : (Jvm.Cond.soleField "FallingTermsModel" "isBorne") ∈ tg := tg_in 644 (by first | exact rfl | decide +kernel) rfl
set_option maxRecDepth 100000 in
theorem tw_645 : (Jvm.Cond.lays "FallingTermsModel" "FallingTermsModel" "above" "J") ∈ tg := tg_in 645 (by first | exact rfl | decide +kernel) rfl
set_option maxRecDepth 100000 in
theorem tw_646 : (Jvm.Cond.soleField "FallingTermsModel" "above") ∈ tg := tg_in 646 (by first | exact rfl | decide +kernel) rfl
set_option maxRecDepth 100000 in
theorem tw_647 : (Jvm.Cond.lays "FallingTermsModel" "FallingTermsModel" "below" "J") ∈ tg := tg_in 647 (by first | exact rfl | decide +kernel) rfl
set_option maxRecDepth 100000 in
theorem tw_648 : (Jvm.Cond.soleField "FallingTermsModel" "below") ∈ tg := tg_in 648 (by first | exact rfl | decide +kernel) rfl
set_option maxRecDepth 100000 in
theorem tw_649 : (Jvm.Cond.lays "FallingTermsModel" "FallingTermsModel" "ga" "J") ∈ tg := tg_in 649 (by first | exact rfl | decide +kernel) rfl
set_option maxRecDepth 100000 in
theorem tw_650 : (Jvm.Cond.soleField "FallingTermsModel" "ga") ∈ tg := tg_in 650 (by first | exact rfl | decide +kernel) rfl
set_option maxRecDepth 100000 in
theorem tw_651 : (Jvm.Cond.lays "FallingTermsModel" "FallingTermsModel" "gb" "J") ∈ tg := tg_in 651 (by first | exact rfl | decide +kernel) rfl
set_option maxRecDepth 100000 in
theorem tw_652 : (Jvm.Cond.soleField "FallingTermsModel" "gb") ∈ tg := tg_in 652 (by first | exact rfl | decide +kernel) rfl
set_option maxRecDepth 100000 in
theorem tw_653 : (Jvm.Cond.lays "FallingTermsModel" "FallingTermsModel" "gc" "J") ∈ tg := tg_in 653 (by first | exact rfl | decide +kernel) rfl
set_option maxRecDepth 100000 in
theorem tw_654 : (Jvm.Cond.soleField "FallingTermsModel" "gc") ∈ tg := tg_in 654 (by first | exact rfl | decide +kernel) rfl
set_option maxRecDepth 100000 in
theorem tw_655 : (Jvm.Cond.lays "FallingTermsModel" "FallingTermsModel" "ua" "J") ∈ tg := tg_in 655 (by first | exact rfl | decide +kernel) rfl
set_option maxRecDepth 100000 in
theorem tw_656 : (Jvm.Cond.soleField "FallingTermsModel" "ua") ∈ tg := tg_in 656 (by first | exact rfl | decide +kernel) rfl
set_option maxRecDepth 100000 in
theorem tw_657 : (Jvm.Cond.lays "FallingTermsModel" "FallingTermsModel" "ub" "J") ∈ tg := tg_in 657 (by first | exact rfl | decide +kernel) rfl
set_option maxRecDepth 100000 in
theorem tw_658 : (Jvm.Cond.soleField "FallingTermsModel" "ub") ∈ tg := tg_in 658 (by first | exact rfl | decide +kernel) rfl
set_option maxRecDepth 100000 in
theorem tw_659 : (Jvm.Cond.lays "FallingTermsModel" "FallingTermsModel" "uc" "J") ∈ tg := tg_in 659 (by first | exact rfl | decide +kernel) rfl
set_option maxRecDepth 100000 in
theorem tw_660 : (Jvm.Cond.soleField "FallingTermsModel" "uc") ∈ tg := tg_in 660 (by first | exact rfl | decide +kernel) rfl
set_option maxRecDepth 100000 in
theorem tw_661 : (Jvm.Cond.lays "FallingTermsModel" "FallingTermsModel" "na" "J") ∈ tg := tg_in 661 (by first | exact rfl | decide +kernel) rfl
set_option maxRecDepth 100000 in
theorem tw_662 : (Jvm.Cond.soleField "FallingTermsModel" "na") ∈ tg := tg_in 662 (by first | exact rfl | decide +kernel) rfl
set_option maxRecDepth 100000 in
theorem tw_663 : (Jvm.Cond.lays "FallingTermsModel" "FallingTermsModel" "nb" "J") ∈ tg := tg_in 663 (by first | exact rfl | decide +kernel) rfl
set_option maxRecDepth 100000 in
theorem tw_664 : (Jvm.Cond.soleField "FallingTermsModel" "nb") ∈ tg := tg_in 664 (by first | exact rfl | decide +kernel) rfl
set_option maxRecDepth 100000 in
theorem tw_665 : (Jvm.Cond.lays "FallingTermsModel" "FallingTermsModel" "nc" "J") ∈ tg := tg_in 665 (by first | exact rfl | decide +kernel) rfl
set_option maxRecDepth 100000 in
theorem tw_666 : (Jvm.Cond.soleField "FallingTermsModel" "nc") ∈ tg := tg_in 666 (by first | exact rfl | decide +kernel) rfl
set_option maxRecDepth 100000 in
theorem tw_667 : (Jvm.Cond.lays "FallingTermsModel" "FallingTermsModel" "nd" "J") ∈ tg := tg_in 667 (by first | exact rfl | decide +kernel) rfl
set_option maxRecDepth 100000 in
theorem tw_668 : (Jvm.Cond.soleField "FallingTermsModel" "nd") ∈ tg := tg_in 668 (by first | exact rfl | decide +kernel) rfl
set_option maxRecDepth 100000 in
theorem tw_669 : (Jvm.Cond.lays "FallingTermsModel" "FallingTermsModel" "kept" "I") ∈ tg := tg_in 669 (by first | exact rfl | decide +kernel) rfl
set_option maxRecDepth 100000 in
theorem tw_670 : (Jvm.Cond.soleField "FallingTermsModel" "kept") ∈ tg := tg_in 670 (by first | exact rfl | decide +kernel) rfl
set_option maxRecDepth 100000 in
theorem tw_671 : (Jvm.Cond.laysFinal "FallingTermsModel" "FallingTermsModel" "keptTerms" "[I") ∈ tg := tg_in 671 (by first | exact rfl | decide +kernel) rfl
set_option maxRecDepth 100000 in
theorem tw_672 : (Jvm.Cond.soleField "FallingTermsModel" "keptTerms") ∈ tg := tg_in 672 (by first | exact rfl | decide +kernel) rfl
set_option maxRecDepth 100000 in
theorem tw_673 : (Jvm.Cond.lays "FallingTermsModel" "FallingTermsModel" "x" "J") ∈ tg := tg_in 673 (by first | exact rfl | decide +kernel) rfl
set_option maxRecDepth 100000 in
theorem tw_674 : (Jvm.Cond.soleField "FallingTermsModel" "x") ∈ tg := tg_in 674 (by first | exact rfl | decide +kernel) rfl
set_option maxRecDepth 100000 in
theorem tw_675 : (Jvm.Cond.lays "FallingTermsModel" "FallingTermsModel" "y" "J") ∈ tg := tg_in 675 (by first | exact rfl | decide +kernel) rfl
set_option maxRecDepth 100000 in
theorem tw_676 : (Jvm.Cond.soleField "FallingTermsModel" "y") ∈ tg := tg_in 676 (by first | exact rfl | decide +kernel) rfl
set_option maxRecDepth 100000 in
theorem tw_677 : (Jvm.Cond.lays "FallingTermsModel" "FallingTermsModel" "z" "J") ∈ tg := tg_in 677 (by first | exact rfl | decide +kernel) rfl
set_option maxRecDepth 100000 in
theorem tw_678 : (Jvm.Cond.soleField "FallingTermsModel" "z") ∈ tg := tg_in 678 (by first | exact rfl | decide +kernel) rfl
set_option maxRecDepth 100000 in
theorem tw_679 : (Jvm.Cond.superclass "FallingTermsModel" "java/lang/Object") ∈ tg := tg_in 679 (by first | exact rfl | decide +kernel) rfl
set_option maxRecDepth 100000 in
theorem tw_680 : (Jvm.Cond.methodLink "FallingTermsLaw" (17 : Nat) ({ cls := "FallingTermsModel", name := "loop", desc := "(I)I" } : Jvm.MethodName)) ∈ tg := tg_in 680 (by first | exact rfl | decide +kernel) rfl
set_option maxRecDepth 100000 in
theorem tw_681 : (Jvm.Cond.instanceMethod ({ cls := "FallingTermsModel", name := "loop", desc := "(I)I" } : Jvm.MethodName)) ∈ tg := tg_in 681 (by first | exact rfl | decide +kernel) rfl
set_option maxRecDepth 100000 in
theorem tw_682 : (Jvm.Cond.selects "FallingTermsModel" ({ cls := "FallingTermsModel", name := "loop", desc := "(I)I" } : Jvm.MethodName) ({ cls := "FallingTermsModel", name := "loop", desc := "(I)I" } : Jvm.MethodName)) ∈ tg := tg_in 682 (by first | exact rfl | decide +kernel) rfl
set_option maxRecDepth 100000 in
theorem tw_683 : (Jvm.Cond.code ({ cls := "FallingTermsModel", name := "loop", desc := "(I)I" } : Jvm.MethodName) prog_8_method_9_code (4 : Nat) (Option.some Jvm.ClassFile.FieldType.int)) ∈ tg := tg_in 683 (by first | exact rfl | decide +kernel) rfl
set_option maxRecDepth 100000 in
theorem tw_684 : (Jvm.Cond.methodLink "FallingTermsModel" (63 : Nat) ({ cls := "FallingTermsModel", name := "isIn", desc := "(III)Z" } : Jvm.MethodName)) ∈ tg := tg_in 684 (by first | exact rfl | decide +kernel) rfl
set_option maxRecDepth 100000 in
theorem tw_685 : (Jvm.Cond.static ({ cls := "FallingTermsModel", name := "isIn", desc := "(III)Z" } : Jvm.MethodName)) ∈ tg := tg_in 685 (by first | exact rfl | decide +kernel) rfl
set_option maxRecDepth 100000 in
theorem tw_686 : (Jvm.Cond.code ({ cls := "FallingTermsModel", name := "isIn", desc := "(III)Z" } : Jvm.MethodName) prog_8_method_3_code (3 : Nat) (Option.some Jvm.ClassFile.FieldType.boolean)) ∈ tg := tg_in 686 (by first | exact rfl | decide +kernel) rfl
set_option maxRecDepth 100000 in
theorem tw_687 : (Jvm.Cond.methodLink "FallingTermsLaw" (22 : Nat) ({ cls := "FallingTermsModel", name := "clear", desc := "()I" } : Jvm.MethodName)) ∈ tg := tg_in 687 (by first | exact rfl | decide +kernel) rfl
set_option maxRecDepth 100000 in
theorem tw_688 : (Jvm.Cond.instanceMethod ({ cls := "FallingTermsModel", name := "clear", desc := "()I" } : Jvm.MethodName)) ∈ tg := tg_in 688 (by first | exact rfl | decide +kernel) rfl
set_option maxRecDepth 100000 in
theorem tw_689 : (Jvm.Cond.selects "FallingTermsModel" ({ cls := "FallingTermsModel", name := "clear", desc := "()I" } : Jvm.MethodName) ({ cls := "FallingTermsModel", name := "clear", desc := "()I" } : Jvm.MethodName)) ∈ tg := tg_in 689 (by first | exact rfl | decide +kernel) rfl
set_option maxRecDepth 100000 in
theorem tw_690 : (Jvm.Cond.code ({ cls := "FallingTermsModel", name := "clear", desc := "()I" } : Jvm.MethodName) prog_8_method_10_code (2 : Nat) (Option.some Jvm.ClassFile.FieldType.int)) ∈ tg := tg_in 690 (by first | exact rfl | decide +kernel) rfl
set_option maxRecDepth 100000 in
theorem tw_691 : (Jvm.Cond.methodLink "FallingTermsLaw" (27 : Nat) ({ cls := "FallingTermsModel", name := "guard", desc := "(IIIII)I" } : Jvm.MethodName)) ∈ tg := tg_in 691 (by first | exact rfl | decide +kernel) rfl
set_option maxRecDepth 100000 in
theorem tw_692 : (Jvm.Cond.instanceMethod ({ cls := "FallingTermsModel", name := "guard", desc := "(IIIII)I" } : Jvm.MethodName)) ∈ tg := tg_in 692 (by first | exact rfl | decide +kernel) rfl
set_option maxRecDepth 100000 in
theorem tw_693 : (Jvm.Cond.selects "FallingTermsModel" ({ cls := "FallingTermsModel", name := "guard", desc := "(IIIII)I" } : Jvm.MethodName) ({ cls := "FallingTermsModel", name := "guard", desc := "(IIIII)I" } : Jvm.MethodName)) ∈ tg := tg_in 693 (by first | exact rfl | decide +kernel) rfl
set_option maxRecDepth 100000 in
theorem tw_694 : (Jvm.Cond.code ({ cls := "FallingTermsModel", name := "guard", desc := "(IIIII)I" } : Jvm.MethodName) prog_8_method_11_code (6 : Nat) (Option.some Jvm.ClassFile.FieldType.int)) ∈ tg := tg_in 694 (by first | exact rfl | decide +kernel) rfl
set_option maxRecDepth 100000 in
theorem tw_695 : (Jvm.Cond.methodLink "FallingTermsModel" (67 : Nat) ({ cls := "FallingTermsModel", name := "isLoop", desc := "(I)Z" } : Jvm.MethodName)) ∈ tg := tg_in 695 (by first | exact rfl | decide +kernel) rfl
set_option maxRecDepth 100000 in
theorem tw_697 : (Jvm.Cond.instanceMethod ({ cls := "FallingTermsModel", name := "isLoop", desc := "(I)Z" } : Jvm.MethodName)) ∈ tg := tg_in 697 (by first | exact rfl | decide +kernel) rfl
set_option maxRecDepth 100000 in
theorem tw_698 : (Jvm.Cond.code ({ cls := "FallingTermsModel", name := "isLoop", desc := "(I)Z" } : Jvm.MethodName) prog_8_method_4_code (2 : Nat) (Option.some Jvm.ClassFile.FieldType.boolean)) ∈ tg := tg_in 698 (by first | exact rfl | decide +kernel) rfl
set_option maxRecDepth 100000 in
theorem tw_699 : (Jvm.Cond.methodLink "FallingTermsModel" (85 : Nat) ({ cls := "FallingTermsModel", name := "isRow", desc := "(IIIII)Z" } : Jvm.MethodName)) ∈ tg := tg_in 699 (by first | exact rfl | decide +kernel) rfl
set_option maxRecDepth 100000 in
theorem tw_701 : (Jvm.Cond.instanceMethod ({ cls := "FallingTermsModel", name := "isRow", desc := "(IIIII)Z" } : Jvm.MethodName)) ∈ tg := tg_in 701 (by first | exact rfl | decide +kernel) rfl
set_option maxRecDepth 100000 in
theorem tw_702 : (Jvm.Cond.code ({ cls := "FallingTermsModel", name := "isRow", desc := "(IIIII)Z" } : Jvm.MethodName) prog_8_method_8_code (6 : Nat) (Option.some Jvm.ClassFile.FieldType.boolean)) ∈ tg := tg_in 702 (by first | exact rfl | decide +kernel) rfl
set_option maxRecDepth 100000 in
theorem tw_703 : (Jvm.Cond.methodLink "FallingTermsModel" (71 : Nat) ({ cls := "FallingTermsModel", name := "areNumbers", desc := "(IIIII)Z" } : Jvm.MethodName)) ∈ tg := tg_in 703 (by first | exact rfl | decide +kernel) rfl
set_option maxRecDepth 100000 in
theorem tw_705 : (Jvm.Cond.instanceMethod ({ cls := "FallingTermsModel", name := "areNumbers", desc := "(IIIII)Z" } : Jvm.MethodName)) ∈ tg := tg_in 705 (by first | exact rfl | decide +kernel) rfl
set_option maxRecDepth 100000 in
theorem tw_706 : (Jvm.Cond.code ({ cls := "FallingTermsModel", name := "areNumbers", desc := "(IIIII)Z" } : Jvm.MethodName) prog_8_method_7_code (6 : Nat) (Option.some Jvm.ClassFile.FieldType.boolean)) ∈ tg := tg_in 706 (by first | exact rfl | decide +kernel) rfl
set_option maxRecDepth 100000 in
theorem tw_707 : (Jvm.Cond.methodLink "FallingTermsModel" (88 : Nat) ({ cls := "FallingTermsModel", name := "lay", desc := "([IIIIII)V" } : Jvm.MethodName)) ∈ tg := tg_in 707 (by first | exact rfl | decide +kernel) rfl
set_option maxRecDepth 100000 in
theorem tw_708 : (Jvm.Cond.static ({ cls := "FallingTermsModel", name := "lay", desc := "([IIIIII)V" } : Jvm.MethodName)) ∈ tg := tg_in 708 (by first | exact rfl | decide +kernel) rfl
set_option maxRecDepth 100000 in
theorem tw_709 : (Jvm.Cond.code ({ cls := "FallingTermsModel", name := "lay", desc := "([IIIIII)V" } : Jvm.MethodName) prog_8_method_12_code (6 : Nat) (Option.none : Option Jvm.ClassFile.FieldType)) ∈ tg := tg_in 709 (by first | exact rfl | decide +kernel) rfl
set_option maxRecDepth 100000 in
theorem tw_710 : (Jvm.Cond.methodLink "FallingTermsLaw" (31 : Nat) ({ cls := "FallingTermsModel", name := "way", desc := "(I)I" } : Jvm.MethodName)) ∈ tg := tg_in 710 (by first | exact rfl | decide +kernel) rfl
set_option maxRecDepth 100000 in
theorem tw_711 : (Jvm.Cond.instanceMethod ({ cls := "FallingTermsModel", name := "way", desc := "(I)I" } : Jvm.MethodName)) ∈ tg := tg_in 711 (by first | exact rfl | decide +kernel) rfl
set_option maxRecDepth 100000 in
theorem tw_712 : (Jvm.Cond.selects "FallingTermsModel" ({ cls := "FallingTermsModel", name := "way", desc := "(I)I" } : Jvm.MethodName) ({ cls := "FallingTermsModel", name := "way", desc := "(I)I" } : Jvm.MethodName)) ∈ tg := tg_in 712 (by first | exact rfl | decide +kernel) rfl
set_option maxRecDepth 100000 in
theorem tw_713 : (Jvm.Cond.code ({ cls := "FallingTermsModel", name := "way", desc := "(I)I" } : Jvm.MethodName) prog_8_method_13_code (4 : Nat) (Option.some Jvm.ClassFile.FieldType.int)) ∈ tg := tg_in 713 (by first | exact rfl | decide +kernel) rfl
set_option maxRecDepth 100000 in
theorem tw_714 : (Jvm.Cond.methodLink "FallingTermsLaw" (36 : Nat) ({ cls := "FallingTermsModel", name := "row", desc := "(IIIIII)I" } : Jvm.MethodName)) ∈ tg := tg_in 714 (by first | exact rfl | decide +kernel) rfl
set_option maxRecDepth 100000 in
theorem tw_715 : (Jvm.Cond.instanceMethod ({ cls := "FallingTermsModel", name := "row", desc := "(IIIIII)I" } : Jvm.MethodName)) ∈ tg := tg_in 715 (by first | exact rfl | decide +kernel) rfl
set_option maxRecDepth 100000 in
theorem tw_716 : (Jvm.Cond.selects "FallingTermsModel" ({ cls := "FallingTermsModel", name := "row", desc := "(IIIIII)I" } : Jvm.MethodName) ({ cls := "FallingTermsModel", name := "row", desc := "(IIIIII)I" } : Jvm.MethodName)) ∈ tg := tg_in 716 (by first | exact rfl | decide +kernel) rfl
set_option maxRecDepth 100000 in
theorem tw_717 : (Jvm.Cond.code ({ cls := "FallingTermsModel", name := "row", desc := "(IIIIII)I" } : Jvm.MethodName) prog_8_method_14_code (8 : Nat) (Option.some Jvm.ClassFile.FieldType.int)) ∈ tg := tg_in 717 (by first | exact rfl | decide +kernel) rfl
set_option maxRecDepth 100000 in
theorem tw_718 : (Jvm.Cond.methodLink "FallingTermsModel" (92 : Nat) ({ cls := "FallingTermsModel", name := "isWay", desc := "(II)Z" } : Jvm.MethodName)) ∈ tg := tg_in 718 (by first | exact rfl | decide +kernel) rfl
set_option maxRecDepth 100000 in
theorem tw_720 : (Jvm.Cond.instanceMethod ({ cls := "FallingTermsModel", name := "isWay", desc := "(II)Z" } : Jvm.MethodName)) ∈ tg := tg_in 720 (by first | exact rfl | decide +kernel) rfl
set_option maxRecDepth 100000 in
theorem tw_721 : (Jvm.Cond.code ({ cls := "FallingTermsModel", name := "isWay", desc := "(II)Z" } : Jvm.MethodName) prog_8_method_5_code (3 : Nat) (Option.some Jvm.ClassFile.FieldType.boolean)) ∈ tg := tg_in 721 (by first | exact rfl | decide +kernel) rfl
set_option maxRecDepth 100000 in
theorem tw_722 : (Jvm.Cond.methodLink "FallingTermsLaw" (40 : Nat) ({ cls := "FallingTermsModel", name := "factor", desc := "(IIIII)I" } : Jvm.MethodName)) ∈ tg := tg_in 722 (by first | exact rfl | decide +kernel) rfl
set_option maxRecDepth 100000 in
theorem tw_723 : (Jvm.Cond.instanceMethod ({ cls := "FallingTermsModel", name := "factor", desc := "(IIIII)I" } : Jvm.MethodName)) ∈ tg := tg_in 723 (by first | exact rfl | decide +kernel) rfl
set_option maxRecDepth 100000 in
theorem tw_724 : (Jvm.Cond.selects "FallingTermsModel" ({ cls := "FallingTermsModel", name := "factor", desc := "(IIIII)I" } : Jvm.MethodName) ({ cls := "FallingTermsModel", name := "factor", desc := "(IIIII)I" } : Jvm.MethodName)) ∈ tg := tg_in 724 (by first | exact rfl | decide +kernel) rfl
set_option maxRecDepth 100000 in
theorem tw_725 : (Jvm.Cond.code ({ cls := "FallingTermsModel", name := "factor", desc := "(IIIII)I" } : Jvm.MethodName) prog_8_method_15_code (8 : Nat) (Option.some Jvm.ClassFile.FieldType.int)) ∈ tg := tg_in 725 (by first | exact rfl | decide +kernel) rfl
set_option maxRecDepth 100000 in
theorem tw_726 : (Jvm.Cond.methodLink "FallingTermsModel" (96 : Nat) ({ cls := "FallingTermsModel", name := "isName", desc := "(II)Z" } : Jvm.MethodName)) ∈ tg := tg_in 726 (by first | exact rfl | decide +kernel) rfl
set_option maxRecDepth 100000 in
theorem tw_728 : (Jvm.Cond.instanceMethod ({ cls := "FallingTermsModel", name := "isName", desc := "(II)Z" } : Jvm.MethodName)) ∈ tg := tg_in 728 (by first | exact rfl | decide +kernel) rfl
set_option maxRecDepth 100000 in
theorem tw_729 : (Jvm.Cond.code ({ cls := "FallingTermsModel", name := "isName", desc := "(II)Z" } : Jvm.MethodName) prog_8_method_6_code (3 : Nat) (Option.some Jvm.ClassFile.FieldType.boolean)) ∈ tg := tg_in 729 (by first | exact rfl | decide +kernel) rfl
set_option maxRecDepth 100000 in
theorem tw_730 : (Jvm.Cond.methodLink "FallingTermsLaw" (45 : Nat) ({ cls := "FallingTermsModel", name := "constant", desc := "(IIII)I" } : Jvm.MethodName)) ∈ tg := tg_in 730 (by first | exact rfl | decide +kernel) rfl
set_option maxRecDepth 100000 in
theorem tw_731 : (Jvm.Cond.instanceMethod ({ cls := "FallingTermsModel", name := "constant", desc := "(IIII)I" } : Jvm.MethodName)) ∈ tg := tg_in 731 (by first | exact rfl | decide +kernel) rfl
set_option maxRecDepth 100000 in
theorem tw_732 : (Jvm.Cond.selects "FallingTermsModel" ({ cls := "FallingTermsModel", name := "constant", desc := "(IIII)I" } : Jvm.MethodName) ({ cls := "FallingTermsModel", name := "constant", desc := "(IIII)I" } : Jvm.MethodName)) ∈ tg := tg_in 732 (by first | exact rfl | decide +kernel) rfl
set_option maxRecDepth 100000 in
theorem tw_733 : (Jvm.Cond.code ({ cls := "FallingTermsModel", name := "constant", desc := "(IIII)I" } : Jvm.MethodName) prog_8_method_16_code (7 : Nat) (Option.some Jvm.ClassFile.FieldType.int)) ∈ tg := tg_in 733 (by first | exact rfl | decide +kernel) rfl
set_option maxRecDepth 100000 in
theorem tw_734 : (Jvm.Cond.methodLink "FallingTermsLaw" (50 : Nat) ({ cls := "FallingTermsModel", name := "told", desc := "(II)I" } : Jvm.MethodName)) ∈ tg := tg_in 734 (by first | exact rfl | decide +kernel) rfl
set_option maxRecDepth 100000 in
theorem tw_735 : (Jvm.Cond.instanceMethod ({ cls := "FallingTermsModel", name := "told", desc := "(II)I" } : Jvm.MethodName)) ∈ tg := tg_in 735 (by first | exact rfl | decide +kernel) rfl
set_option maxRecDepth 100000 in
theorem tw_736 : (Jvm.Cond.selects "FallingTermsModel" ({ cls := "FallingTermsModel", name := "told", desc := "(II)I" } : Jvm.MethodName) ({ cls := "FallingTermsModel", name := "told", desc := "(II)I" } : Jvm.MethodName)) ∈ tg := tg_in 736 (by first | exact rfl | decide +kernel) rfl
set_option maxRecDepth 100000 in
theorem tw_737 : (Jvm.Cond.code ({ cls := "FallingTermsModel", name := "told", desc := "(II)I" } : Jvm.MethodName) prog_8_method_17_code (3 : Nat) (Option.some Jvm.ClassFile.FieldType.int)) ∈ tg := tg_in 737 (by first | exact rfl | decide +kernel) rfl
set_option maxRecDepth 100000 in
theorem tw_738 : (Jvm.Cond.methodLink "FallingTermsLaw" (54 : Nat) ({ cls := "FallingTermsModel", name := "empty", desc := "(II)I" } : Jvm.MethodName)) ∈ tg := tg_in 738 (by first | exact rfl | decide +kernel) rfl
set_option maxRecDepth 100000 in
theorem tw_739 : (Jvm.Cond.instanceMethod ({ cls := "FallingTermsModel", name := "empty", desc := "(II)I" } : Jvm.MethodName)) ∈ tg := tg_in 739 (by first | exact rfl | decide +kernel) rfl
set_option maxRecDepth 100000 in
theorem tw_740 : (Jvm.Cond.selects "FallingTermsModel" ({ cls := "FallingTermsModel", name := "empty", desc := "(II)I" } : Jvm.MethodName) ({ cls := "FallingTermsModel", name := "empty", desc := "(II)I" } : Jvm.MethodName)) ∈ tg := tg_in 740 (by first | exact rfl | decide +kernel) rfl
set_option maxRecDepth 100000 in
theorem tw_741 : (Jvm.Cond.code ({ cls := "FallingTermsModel", name := "empty", desc := "(II)I" } : Jvm.MethodName) prog_8_method_30_code (3 : Nat) (Option.some Jvm.ClassFile.FieldType.int)) ∈ tg := tg_in 741 (by first | exact rfl | decide +kernel) rfl
set_option maxRecDepth 100000 in
theorem tw_742 : (Jvm.Cond.methodLink "FallingTermsModel" (174 : Nat) ({ cls := "FallingTermsModel", name := "space", desc := "(IIZ)V" } : Jvm.MethodName)) ∈ tg := tg_in 742 (by first | exact rfl | decide +kernel) rfl
set_option maxRecDepth 100000 in
theorem tw_744 : (Jvm.Cond.instanceMethod ({ cls := "FallingTermsModel", name := "space", desc := "(IIZ)V" } : Jvm.MethodName)) ∈ tg := tg_in 744 (by first | exact rfl | decide +kernel) rfl
set_option maxRecDepth 100000 in
theorem tw_745 : (Jvm.Cond.code ({ cls := "FallingTermsModel", name := "space", desc := "(IIZ)V" } : Jvm.MethodName) prog_8_method_19_code (7 : Nat) (Option.none : Option Jvm.ClassFile.FieldType)) ∈ tg := tg_in 745 (by first | exact rfl | decide +kernel) rfl
set_option maxRecDepth 100000 in
theorem tw_746 : (Jvm.Cond.methodLink "FallingTermsModel" (102 : Nat) ({ cls := "FallingTermsModel", name := "comes", desc := "(JJJJ)V" } : Jvm.MethodName)) ∈ tg := tg_in 746 (by first | exact rfl | decide +kernel) rfl
set_option maxRecDepth 100000 in
theorem tw_748 : (Jvm.Cond.instanceMethod ({ cls := "FallingTermsModel", name := "comes", desc := "(JJJJ)V" } : Jvm.MethodName)) ∈ tg := tg_in 748 (by first | exact rfl | decide +kernel) rfl
set_option maxRecDepth 100000 in
theorem tw_749 : (Jvm.Cond.code ({ cls := "FallingTermsModel", name := "comes", desc := "(JJJJ)V" } : Jvm.MethodName) prog_8_method_18_code (9 : Nat) (Option.none : Option Jvm.ClassFile.FieldType)) ∈ tg := tg_in 749 (by first | exact rfl | decide +kernel) rfl
set_option maxRecDepth 100000 in
theorem tw_750 : (Jvm.Cond.methodLink "FallingTermsModel" (178 : Nat) ({ cls := "FallingTermsModel", name := "isNothing", desc := "()Z" } : Jvm.MethodName)) ∈ tg := tg_in 750 (by first | exact rfl | decide +kernel) rfl
set_option maxRecDepth 100000 in
theorem tw_752 : (Jvm.Cond.instanceMethod ({ cls := "FallingTermsModel", name := "isNothing", desc := "()Z" } : Jvm.MethodName)) ∈ tg := tg_in 752 (by first | exact rfl | decide +kernel) rfl
set_option maxRecDepth 100000 in
theorem tw_753 : (Jvm.Cond.code ({ cls := "FallingTermsModel", name := "isNothing", desc := "()Z" } : Jvm.MethodName) prog_8_method_27_code (2 : Nat) (Option.some Jvm.ClassFile.FieldType.boolean)) ∈ tg := tg_in 753 (by first | exact rfl | decide +kernel) rfl
set_option maxRecDepth 100000 in
theorem tw_754 : (Jvm.Cond.methodLink "FallingTermsModel" (167 : Nat) ({ cls := "FallingTermsModel", name := "goal", desc := "(JJJ)V" } : Jvm.MethodName)) ∈ tg := tg_in 754 (by first | exact rfl | decide +kernel) rfl
set_option maxRecDepth 100000 in
theorem tw_756 : (Jvm.Cond.instanceMethod ({ cls := "FallingTermsModel", name := "goal", desc := "(JJJ)V" } : Jvm.MethodName)) ∈ tg := tg_in 756 (by first | exact rfl | decide +kernel) rfl
set_option maxRecDepth 100000 in
theorem tw_757 : (Jvm.Cond.code ({ cls := "FallingTermsModel", name := "goal", desc := "(JJJ)V" } : Jvm.MethodName) prog_8_method_20_code (7 : Nat) (Option.none : Option Jvm.ClassFile.FieldType)) ∈ tg := tg_in 757 (by first | exact rfl | decide +kernel) rfl
set_option maxRecDepth 100000 in
theorem tw_758 : (Jvm.Cond.methodLink "FallingTermsModel" (171 : Nat) ({ cls := "FallingTermsModel", name := "least", desc := "(I)V" } : Jvm.MethodName)) ∈ tg := tg_in 758 (by first | exact rfl | decide +kernel) rfl
set_option maxRecDepth 100000 in
theorem tw_760 : (Jvm.Cond.instanceMethod ({ cls := "FallingTermsModel", name := "least", desc := "(I)V" } : Jvm.MethodName)) ∈ tg := tg_in 760 (by first | exact rfl | decide +kernel) rfl
set_option maxRecDepth 100000 in
theorem tw_761 : (Jvm.Cond.code ({ cls := "FallingTermsModel", name := "least", desc := "(I)V" } : Jvm.MethodName) prog_8_method_22_code (5 : Nat) (Option.none : Option Jvm.ClassFile.FieldType)) ∈ tg := tg_in 761 (by first | exact rfl | decide +kernel) rfl
set_option maxRecDepth 100000 in
theorem tw_762 : (Jvm.Cond.methodLink "FallingTermsModel" (137 : Nat) ({ cls := "FallingTermsModel", name := "bears", desc := "(JJ)V" } : Jvm.MethodName)) ∈ tg := tg_in 762 (by first | exact rfl | decide +kernel) rfl
set_option maxRecDepth 100000 in
theorem tw_764 : (Jvm.Cond.instanceMethod ({ cls := "FallingTermsModel", name := "bears", desc := "(JJ)V" } : Jvm.MethodName)) ∈ tg := tg_in 764 (by first | exact rfl | decide +kernel) rfl
set_option maxRecDepth 100000 in
theorem tw_765 : (Jvm.Cond.code ({ cls := "FallingTermsModel", name := "bears", desc := "(JJ)V" } : Jvm.MethodName) prog_8_method_21_code (5 : Nat) (Option.none : Option Jvm.ClassFile.FieldType)) ∈ tg := tg_in 765 (by first | exact rfl | decide +kernel) rfl
set_option maxRecDepth 100000 in
theorem tw_766 : (Jvm.Cond.methodLink "FallingTermsModel" (141 : Nat) ({ cls := "FallingTermsModel", name := "byOne", desc := "(I)V" } : Jvm.MethodName)) ∈ tg := tg_in 766 (by first | exact rfl | decide +kernel) rfl
set_option maxRecDepth 100000 in
theorem tw_768 : (Jvm.Cond.instanceMethod ({ cls := "FallingTermsModel", name := "byOne", desc := "(I)V" } : Jvm.MethodName)) ∈ tg := tg_in 768 (by first | exact rfl | decide +kernel) rfl
set_option maxRecDepth 100000 in
theorem tw_769 : (Jvm.Cond.code ({ cls := "FallingTermsModel", name := "byOne", desc := "(I)V" } : Jvm.MethodName) prog_8_method_23_code (5 : Nat) (Option.none : Option Jvm.ClassFile.FieldType)) ∈ tg := tg_in 769 (by first | exact rfl | decide +kernel) rfl
set_option maxRecDepth 100000 in
theorem tw_770 : (Jvm.Cond.methodLink "FallingTermsModel" (145 : Nat) ({ cls := "FallingTermsModel", name := "byTwo", desc := "(II)V" } : Jvm.MethodName)) ∈ tg := tg_in 770 (by first | exact rfl | decide +kernel) rfl
set_option maxRecDepth 100000 in
theorem tw_772 : (Jvm.Cond.instanceMethod ({ cls := "FallingTermsModel", name := "byTwo", desc := "(II)V" } : Jvm.MethodName)) ∈ tg := tg_in 772 (by first | exact rfl | decide +kernel) rfl
set_option maxRecDepth 100000 in
theorem tw_773 : (Jvm.Cond.code ({ cls := "FallingTermsModel", name := "byTwo", desc := "(II)V" } : Jvm.MethodName) prog_8_method_25_code (9 : Nat) (Option.none : Option Jvm.ClassFile.FieldType)) ∈ tg := tg_in 773 (by first | exact rfl | decide +kernel) rfl
set_option maxRecDepth 100000 in
theorem tw_774 : (Jvm.Cond.methodLink "FallingTermsModel" (162 : Nat) ({ cls := "FallingTermsModel", name := "upright", desc := "(II)V" } : Jvm.MethodName)) ∈ tg := tg_in 774 (by first | exact rfl | decide +kernel) rfl
set_option maxRecDepth 100000 in
theorem tw_776 : (Jvm.Cond.instanceMethod ({ cls := "FallingTermsModel", name := "upright", desc := "(II)V" } : Jvm.MethodName)) ∈ tg := tg_in 776 (by first | exact rfl | decide +kernel) rfl
set_option maxRecDepth 100000 in
theorem tw_777 : (Jvm.Cond.code ({ cls := "FallingTermsModel", name := "upright", desc := "(II)V" } : Jvm.MethodName) prog_8_method_24_code (3 : Nat) (Option.none : Option Jvm.ClassFile.FieldType)) ∈ tg := tg_in 777 (by first | exact rfl | decide +kernel) rfl
set_option maxRecDepth 100000 in
theorem tw_778 : (Jvm.Cond.methodLink "FallingTermsModel" (149 : Nat) ({ cls := "FallingTermsModel", name := "byThree", desc := "(III)V" } : Jvm.MethodName)) ∈ tg := tg_in 778 (by first | exact rfl | decide +kernel) rfl
set_option maxRecDepth 100000 in
theorem tw_780 : (Jvm.Cond.instanceMethod ({ cls := "FallingTermsModel", name := "byThree", desc := "(III)V" } : Jvm.MethodName)) ∈ tg := tg_in 780 (by first | exact rfl | decide +kernel) rfl
set_option maxRecDepth 100000 in
theorem tw_781 : (Jvm.Cond.code ({ cls := "FallingTermsModel", name := "byThree", desc := "(III)V" } : Jvm.MethodName) prog_8_method_26_code (14 : Nat) (Option.none : Option Jvm.ClassFile.FieldType)) ∈ tg := tg_in 781 (by first | exact rfl | decide +kernel) rfl
set_option maxRecDepth 100000 in
theorem tw_782 : (Jvm.Cond.constantLong "FallingTermsModel" (165 : Nat) (-1 : Int64)) ∈ tg := tg_in 782 (by first | exact rfl | decide +kernel) rfl
set_option maxRecDepth 100000 in
theorem tw_783 : (Jvm.Cond.methodLink "FallingTermsLaw" (58 : Nat) ({ cls := "FallingTermsModel", name := "holds", desc := "(IIIIII)I" } : Jvm.MethodName)) ∈ tg := tg_in 783 (by first | exact rfl | decide +kernel) rfl
set_option maxRecDepth 100000 in
theorem tw_784 : (Jvm.Cond.instanceMethod ({ cls := "FallingTermsModel", name := "holds", desc := "(IIIIII)I" } : Jvm.MethodName)) ∈ tg := tg_in 784 (by first | exact rfl | decide +kernel) rfl
set_option maxRecDepth 100000 in
theorem tw_785 : (Jvm.Cond.selects "FallingTermsModel" ({ cls := "FallingTermsModel", name := "holds", desc := "(IIIIII)I" } : Jvm.MethodName) ({ cls := "FallingTermsModel", name := "holds", desc := "(IIIIII)I" } : Jvm.MethodName)) ∈ tg := tg_in 785 (by first | exact rfl | decide +kernel) rfl
set_option maxRecDepth 100000 in
theorem tw_786 : (Jvm.Cond.code ({ cls := "FallingTermsModel", name := "holds", desc := "(IIIIII)I" } : Jvm.MethodName) prog_8_method_31_code (7 : Nat) (Option.some Jvm.ClassFile.FieldType.int)) ∈ tg := tg_in 786 (by first | exact rfl | decide +kernel) rfl
set_option maxRecDepth 100000 in
theorem tw_787 : (Jvm.Cond.methodLink "FallingTermsModel" (182 : Nat) ({ cls := "FallingTermsModel", name := "isLeast", desc := "(J)Z" } : Jvm.MethodName)) ∈ tg := tg_in 787 (by first | exact rfl | decide +kernel) rfl
set_option maxRecDepth 100000 in
theorem tw_789 : (Jvm.Cond.instanceMethod ({ cls := "FallingTermsModel", name := "isLeast", desc := "(J)Z" } : Jvm.MethodName)) ∈ tg := tg_in 789 (by first | exact rfl | decide +kernel) rfl
set_option maxRecDepth 100000 in
theorem tw_790 : (Jvm.Cond.code ({ cls := "FallingTermsModel", name := "isLeast", desc := "(J)Z" } : Jvm.MethodName) prog_8_method_28_code (3 : Nat) (Option.some Jvm.ClassFile.FieldType.boolean)) ∈ tg := tg_in 790 (by first | exact rfl | decide +kernel) rfl
set_option maxRecDepth 100000 in
theorem tw_791 : (Jvm.Cond.methodLink "FallingTermsLaw" (62 : Nat) ({ cls := "FallingTermsModel", name := "term", desc := "(IIIII)I" } : Jvm.MethodName)) ∈ tg := tg_in 791 (by first | exact rfl | decide +kernel) rfl
set_option maxRecDepth 100000 in
theorem tw_792 : (Jvm.Cond.instanceMethod ({ cls := "FallingTermsModel", name := "term", desc := "(IIIII)I" } : Jvm.MethodName)) ∈ tg := tg_in 792 (by first | exact rfl | decide +kernel) rfl
set_option maxRecDepth 100000 in
theorem tw_793 : (Jvm.Cond.selects "FallingTermsModel" ({ cls := "FallingTermsModel", name := "term", desc := "(IIIII)I" } : Jvm.MethodName) ({ cls := "FallingTermsModel", name := "term", desc := "(IIIII)I" } : Jvm.MethodName)) ∈ tg := tg_in 793 (by first | exact rfl | decide +kernel) rfl
set_option maxRecDepth 100000 in
theorem tw_794 : (Jvm.Cond.code ({ cls := "FallingTermsModel", name := "term", desc := "(IIIII)I" } : Jvm.MethodName) prog_8_method_34_code (6 : Nat) (Option.some Jvm.ClassFile.FieldType.int)) ∈ tg := tg_in 794 (by first | exact rfl | decide +kernel) rfl
set_option maxRecDepth 100000 in
theorem tw_795 : (Jvm.Cond.methodLink "FallingTermsModel" (190 : Nat) ({ cls := "FallingTermsModel", name := "isBounded", desc := "(III)Z" } : Jvm.MethodName)) ∈ tg := tg_in 795 (by first | exact rfl | decide +kernel) rfl
set_option maxRecDepth 100000 in
theorem tw_797 : (Jvm.Cond.instanceMethod ({ cls := "FallingTermsModel", name := "isBounded", desc := "(III)Z" } : Jvm.MethodName)) ∈ tg := tg_in 797 (by first | exact rfl | decide +kernel) rfl
set_option maxRecDepth 100000 in
theorem tw_798 : (Jvm.Cond.code ({ cls := "FallingTermsModel", name := "isBounded", desc := "(III)Z" } : Jvm.MethodName) prog_8_method_33_code (4 : Nat) (Option.some Jvm.ClassFile.FieldType.boolean)) ∈ tg := tg_in 798 (by first | exact rfl | decide +kernel) rfl
set_option maxRecDepth 100000 in
theorem tw_799 : (Jvm.Cond.methodLink "FallingTermsModel" (193 : Nat) ({ cls := "FallingTermsModel", name := "falls", desc := "(IIIII)I" } : Jvm.MethodName)) ∈ tg := tg_in 799 (by first | exact rfl | decide +kernel) rfl
set_option maxRecDepth 100000 in
theorem tw_801 : (Jvm.Cond.instanceMethod ({ cls := "FallingTermsModel", name := "falls", desc := "(IIIII)I" } : Jvm.MethodName)) ∈ tg := tg_in 801 (by first | exact rfl | decide +kernel) rfl
set_option maxRecDepth 100000 in
theorem tw_802 : (Jvm.Cond.code ({ cls := "FallingTermsModel", name := "falls", desc := "(IIIII)I" } : Jvm.MethodName) prog_8_method_32_code (8 : Nat) (Option.some Jvm.ClassFile.FieldType.int)) ∈ tg := tg_in 802 (by first | exact rfl | decide +kernel) rfl
set_option maxRecDepth 100000 in
theorem tw_803 : (Jvm.Cond.methodLink "FallingTermsModel" (186 : Nat) ({ cls := "FallingTermsModel", name := "changed", desc := "(IIJJJ)J" } : Jvm.MethodName)) ∈ tg := tg_in 803 (by first | exact rfl | decide +kernel) rfl
set_option maxRecDepth 100000 in
theorem tw_805 : (Jvm.Cond.instanceMethod ({ cls := "FallingTermsModel", name := "changed", desc := "(IIJJJ)J" } : Jvm.MethodName)) ∈ tg := tg_in 805 (by first | exact rfl | decide +kernel) rfl
set_option maxRecDepth 100000 in
theorem tw_806 : (Jvm.Cond.code ({ cls := "FallingTermsModel", name := "changed", desc := "(IIJJJ)J" } : Jvm.MethodName) prog_8_method_29_code (11 : Nat) (Option.some Jvm.ClassFile.FieldType.long)) ∈ tg := tg_in 806 (by first | exact rfl | decide +kernel) rfl
set_option maxRecDepth 100000 in
theorem tw_807 : (Jvm.Cond.methodLink "FallingTermsLaw" (66 : Nat) ({ cls := "FallingTermsModel", name := "prove", desc := "(I)I" } : Jvm.MethodName)) ∈ tg := tg_in 807 (by first | exact rfl | decide +kernel) rfl
set_option maxRecDepth 100000 in
theorem tw_808 : (Jvm.Cond.instanceMethod ({ cls := "FallingTermsModel", name := "prove", desc := "(I)I" } : Jvm.MethodName)) ∈ tg := tg_in 808 (by first | exact rfl | decide +kernel) rfl
set_option maxRecDepth 100000 in
theorem tw_809 : (Jvm.Cond.selects "FallingTermsModel" ({ cls := "FallingTermsModel", name := "prove", desc := "(I)I" } : Jvm.MethodName) ({ cls := "FallingTermsModel", name := "prove", desc := "(I)I" } : Jvm.MethodName)) ∈ tg := tg_in 809 (by first | exact rfl | decide +kernel) rfl
set_option maxRecDepth 100000 in
theorem tw_810 : (Jvm.Cond.code ({ cls := "FallingTermsModel", name := "prove", desc := "(I)I" } : Jvm.MethodName) prog_8_method_37_code (3 : Nat) (Option.some Jvm.ClassFile.FieldType.int)) ∈ tg := tg_in 810 (by first | exact rfl | decide +kernel) rfl
set_option maxRecDepth 100000 in
theorem tw_811 : (Jvm.Cond.methodLink "FallingTermsModel" (204 : Nat) ({ cls := "FallingTermsModel", name := "leftBy", desc := "(IZ)I" } : Jvm.MethodName)) ∈ tg := tg_in 811 (by first | exact rfl | decide +kernel) rfl
set_option maxRecDepth 100000 in
theorem tw_813 : (Jvm.Cond.instanceMethod ({ cls := "FallingTermsModel", name := "leftBy", desc := "(IZ)I" } : Jvm.MethodName)) ∈ tg := tg_in 813 (by first | exact rfl | decide +kernel) rfl
set_option maxRecDepth 100000 in
theorem tw_814 : (Jvm.Cond.code ({ cls := "FallingTermsModel", name := "leftBy", desc := "(IZ)I" } : Jvm.MethodName) prog_8_method_35_code (11 : Nat) (Option.some Jvm.ClassFile.FieldType.int)) ∈ tg := tg_in 814 (by first | exact rfl | decide +kernel) rfl
set_option maxRecDepth 100000 in
theorem tw_815 : (Jvm.Cond.methodLink "FallingTermsModel" (200 : Nat) ({ cls := "FallingTermsModel", name := "taken", desc := "(IZIIIII)I" } : Jvm.MethodName)) ∈ tg := tg_in 815 (by first | exact rfl | decide +kernel) rfl
set_option maxRecDepth 100000 in
theorem tw_817 : (Jvm.Cond.instanceMethod ({ cls := "FallingTermsModel", name := "taken", desc := "(IZIIIII)I" } : Jvm.MethodName)) ∈ tg := tg_in 817 (by first | exact rfl | decide +kernel) rfl
set_option maxRecDepth 100000 in
theorem tw_818 : (Jvm.Cond.code ({ cls := "FallingTermsModel", name := "taken", desc := "(IZIIIII)I" } : Jvm.MethodName) prog_8_method_36_code (12 : Nat) (Option.some Jvm.ClassFile.FieldType.int)) ∈ tg := tg_in 818 (by first | exact rfl | decide +kernel) rfl
set_option maxRecDepth 100000 in
theorem tw_819 : (Jvm.Cond.methodLink "FallingTermsLaw" (70 : Nat) ({ cls := "FallingTermsModel", name := "proof", desc := "(II)I" } : Jvm.MethodName)) ∈ tg := tg_in 819 (by first | exact rfl | decide +kernel) rfl
set_option maxRecDepth 100000 in
theorem tw_820 : (Jvm.Cond.instanceMethod ({ cls := "FallingTermsModel", name := "proof", desc := "(II)I" } : Jvm.MethodName)) ∈ tg := tg_in 820 (by first | exact rfl | decide +kernel) rfl
set_option maxRecDepth 100000 in
theorem tw_821 : (Jvm.Cond.selects "FallingTermsModel" ({ cls := "FallingTermsModel", name := "proof", desc := "(II)I" } : Jvm.MethodName) ({ cls := "FallingTermsModel", name := "proof", desc := "(II)I" } : Jvm.MethodName)) ∈ tg := tg_in 821 (by first | exact rfl | decide +kernel) rfl
set_option maxRecDepth 100000 in
theorem tw_822 : (Jvm.Cond.code ({ cls := "FallingTermsModel", name := "proof", desc := "(II)I" } : Jvm.MethodName) prog_8_method_38_code (3 : Nat) (Option.some Jvm.ClassFile.FieldType.int)) ∈ tg := tg_in 822 (by first | exact rfl | decide +kernel) rfl
set_option maxRecDepth 100000 in
theorem tw_823 : (Jvm.Cond.methodLink "FallingTermsLaw" (74 : Nat) ({ cls := "FallingTermsModel", name := "left", desc := "()I" } : Jvm.MethodName)) ∈ tg := tg_in 823 (by first | exact rfl | decide +kernel) rfl
set_option maxRecDepth 100000 in
theorem tw_824 : (Jvm.Cond.instanceMethod ({ cls := "FallingTermsModel", name := "left", desc := "()I" } : Jvm.MethodName)) ∈ tg := tg_in 824 (by first | exact rfl | decide +kernel) rfl
set_option maxRecDepth 100000 in
theorem tw_825 : (Jvm.Cond.selects "FallingTermsModel" ({ cls := "FallingTermsModel", name := "left", desc := "()I" } : Jvm.MethodName) ({ cls := "FallingTermsModel", name := "left", desc := "()I" } : Jvm.MethodName)) ∈ tg := tg_in 825 (by first | exact rfl | decide +kernel) rfl
set_option maxRecDepth 100000 in
theorem tw_826 : (Jvm.Cond.code ({ cls := "FallingTermsModel", name := "left", desc := "()I" } : Jvm.MethodName) prog_8_method_39_code (1 : Nat) (Option.some Jvm.ClassFile.FieldType.int)) ∈ tg := tg_in 826 (by first | exact rfl | decide +kernel) rfl
set_option maxRecDepth 100000 in
theorem tw_827 : (Jvm.Cond.methodLink "FallingTermsLaw" (78 : Nat) ({ cls := "FallingTermsModel", name := "need", desc := "(I)I" } : Jvm.MethodName)) ∈ tg := tg_in 827 (by first | exact rfl | decide +kernel) rfl
set_option maxRecDepth 100000 in
theorem tw_828 : (Jvm.Cond.instanceMethod ({ cls := "FallingTermsModel", name := "need", desc := "(I)I" } : Jvm.MethodName)) ∈ tg := tg_in 828 (by first | exact rfl | decide +kernel) rfl
set_option maxRecDepth 100000 in
theorem tw_829 : (Jvm.Cond.selects "FallingTermsModel" ({ cls := "FallingTermsModel", name := "need", desc := "(I)I" } : Jvm.MethodName) ({ cls := "FallingTermsModel", name := "need", desc := "(I)I" } : Jvm.MethodName)) ∈ tg := tg_in 829 (by first | exact rfl | decide +kernel) rfl
set_option maxRecDepth 100000 in
theorem tw_830 : (Jvm.Cond.code ({ cls := "FallingTermsModel", name := "need", desc := "(I)I" } : Jvm.MethodName) prog_8_method_41_code (7 : Nat) (Option.some Jvm.ClassFile.FieldType.int)) ∈ tg := tg_in 830 (by first | exact rfl | decide +kernel) rfl
set_option maxRecDepth 100000 in
theorem tw_831 : (Jvm.Cond.methodLink "FallingTermsModel" (208 : Nat) ({ cls := "FallingTermsModel", name := "lasts", desc := "(I)Z" } : Jvm.MethodName)) ∈ tg := tg_in 831 (by first | exact rfl | decide +kernel) rfl
set_option maxRecDepth 100000 in
theorem tw_833 : (Jvm.Cond.instanceMethod ({ cls := "FallingTermsModel", name := "lasts", desc := "(I)Z" } : Jvm.MethodName)) ∈ tg := tg_in 833 (by first | exact rfl | decide +kernel) rfl
set_option maxRecDepth 100000 in
theorem tw_834 : (Jvm.Cond.code ({ cls := "FallingTermsModel", name := "lasts", desc := "(I)Z" } : Jvm.MethodName) prog_8_method_40_code (5 : Nat) (Option.some Jvm.ClassFile.FieldType.boolean)) ∈ tg := tg_in 834 (by first | exact rfl | decide +kernel) rfl
set_option maxRecDepth 100000 in
theorem tw_835 : (Jvm.Cond.methodLink "FallingTermsLaw" (82 : Nat) ({ cls := "FallingTermsModel", name := "needed", desc := "(I)I" } : Jvm.MethodName)) ∈ tg := tg_in 835 (by first | exact rfl | decide +kernel) rfl
set_option maxRecDepth 100000 in
theorem tw_836 : (Jvm.Cond.instanceMethod ({ cls := "FallingTermsModel", name := "needed", desc := "(I)I" } : Jvm.MethodName)) ∈ tg := tg_in 836 (by first | exact rfl | decide +kernel) rfl
set_option maxRecDepth 100000 in
theorem tw_837 : (Jvm.Cond.selects "FallingTermsModel" ({ cls := "FallingTermsModel", name := "needed", desc := "(I)I" } : Jvm.MethodName) ({ cls := "FallingTermsModel", name := "needed", desc := "(I)I" } : Jvm.MethodName)) ∈ tg := tg_in 837 (by first | exact rfl | decide +kernel) rfl
set_option maxRecDepth 100000 in
theorem tw_838 : (Jvm.Cond.code ({ cls := "FallingTermsModel", name := "needed", desc := "(I)I" } : Jvm.MethodName) prog_8_method_42_code (2 : Nat) (Option.some Jvm.ClassFile.FieldType.int)) ∈ tg := tg_in 838 (by first | exact rfl | decide +kernel) rfl
set_option maxRecDepth 100000 in
theorem tw_839 : (Jvm.Cond.methodLink "FallingTermsLaw" (87 : Nat) ({ cls := "FallingTermsModel", name := "put", desc := "(III)I" } : Jvm.MethodName)) ∈ tg := tg_in 839 (by first | exact rfl | decide +kernel) rfl
set_option maxRecDepth 100000 in
theorem tw_840 : (Jvm.Cond.instanceMethod ({ cls := "FallingTermsModel", name := "put", desc := "(III)I" } : Jvm.MethodName)) ∈ tg := tg_in 840 (by first | exact rfl | decide +kernel) rfl
set_option maxRecDepth 100000 in
theorem tw_841 : (Jvm.Cond.selects "FallingTermsModel" ({ cls := "FallingTermsModel", name := "put", desc := "(III)I" } : Jvm.MethodName) ({ cls := "FallingTermsModel", name := "put", desc := "(III)I" } : Jvm.MethodName)) ∈ tg := tg_in 841 (by first | exact rfl | decide +kernel) rfl
set_option maxRecDepth 100000 in
theorem tw_842 : (Jvm.Cond.code ({ cls := "FallingTermsModel", name := "put", desc := "(III)I" } : Jvm.MethodName) prog_8_method_43_code (4 : Nat) (Option.some Jvm.ClassFile.FieldType.int)) ∈ tg := tg_in 842 (by first | exact rfl | decide +kernel) rfl
set_option maxRecDepth 100000 in
theorem tw_843 : (Jvm.Cond.constant "FallingTermsModel" (211 : Nat) (-1000000 : Int32)) ∈ tg := tg_in 843 (by first | exact rfl | decide +kernel) rfl
set_option maxRecDepth 100000 in
theorem tw_844 : (Jvm.Cond.constant "FallingTermsModel" (212 : Nat) (1000000 : Int32)) ∈ tg := tg_in 844 (by first | exact rfl | decide +kernel) rfl
set_option maxRecDepth 100000 in
theorem tw_845 : (Jvm.Cond.methodLink "FallingTermsLaw" (92 : Nat) ({ cls := "FallingTermsModel", name := "at", desc := "(II)J" } : Jvm.MethodName)) ∈ tg := tg_in 845 (by first | exact rfl | decide +kernel) rfl
set_option maxRecDepth 100000 in
theorem tw_846 : (Jvm.Cond.instanceMethod ({ cls := "FallingTermsModel", name := "at", desc := "(II)J" } : Jvm.MethodName)) ∈ tg := tg_in 846 (by first | exact rfl | decide +kernel) rfl
set_option maxRecDepth 100000 in
theorem tw_847 : (Jvm.Cond.selects "FallingTermsModel" ({ cls := "FallingTermsModel", name := "at", desc := "(II)J" } : Jvm.MethodName) ({ cls := "FallingTermsModel", name := "at", desc := "(II)J" } : Jvm.MethodName)) ∈ tg := tg_in 847 (by first | exact rfl | decide +kernel) rfl
set_option maxRecDepth 100000 in
theorem tw_848 : (Jvm.Cond.code ({ cls := "FallingTermsModel", name := "at", desc := "(II)J" } : Jvm.MethodName) prog_8_method_44_code (3 : Nat) (Option.some Jvm.ClassFile.FieldType.long)) ∈ tg := tg_in 848 (by first | exact rfl | decide +kernel) rfl
set_option maxRecDepth 100000 in
theorem tw_849 : (Jvm.Cond.constantLong "FallingTermsModel" (213 : Nat) (-9000000000000 : Int64)) ∈ tg := tg_in 849 (by first | exact rfl | decide +kernel) rfl
set_option maxRecDepth 100000 in
theorem tw_850 : (Jvm.Cond.methodLink "FallingTermsLaw" (96 : Nat) ({ cls := "FallingTermsModel", name := "open", desc := "(I)I" } : Jvm.MethodName)) ∈ tg := tg_in 850 (by first | exact rfl | decide +kernel) rfl
set_option maxRecDepth 100000 in
theorem tw_851 : (Jvm.Cond.instanceMethod ({ cls := "FallingTermsModel", name := "open", desc := "(I)I" } : Jvm.MethodName)) ∈ tg := tg_in 851 (by first | exact rfl | decide +kernel) rfl
set_option maxRecDepth 100000 in
theorem tw_852 : (Jvm.Cond.selects "FallingTermsModel" ({ cls := "FallingTermsModel", name := "open", desc := "(I)I" } : Jvm.MethodName) ({ cls := "FallingTermsModel", name := "open", desc := "(I)I" } : Jvm.MethodName)) ∈ tg := tg_in 852 (by first | exact rfl | decide +kernel) rfl
set_option maxRecDepth 100000 in
theorem tw_853 : (Jvm.Cond.code ({ cls := "FallingTermsModel", name := "open", desc := "(I)I" } : Jvm.MethodName) prog_8_method_53_code (2 : Nat) (Option.some Jvm.ClassFile.FieldType.int)) ∈ tg := tg_in 853 (by first | exact rfl | decide +kernel) rfl
set_option maxRecDepth 100000 in
theorem tw_854 : (Jvm.Cond.methodLink "FallingTermsModel" (246 : Nat) ({ cls := "FallingTermsModel", name := "stand", desc := "(I)V" } : Jvm.MethodName)) ∈ tg := tg_in 854 (by first | exact rfl | decide +kernel) rfl
set_option maxRecDepth 100000 in
theorem tw_856 : (Jvm.Cond.instanceMethod ({ cls := "FallingTermsModel", name := "stand", desc := "(I)V" } : Jvm.MethodName)) ∈ tg := tg_in 856 (by first | exact rfl | decide +kernel) rfl
set_option maxRecDepth 100000 in
theorem tw_857 : (Jvm.Cond.code ({ cls := "FallingTermsModel", name := "stand", desc := "(I)V" } : Jvm.MethodName) prog_8_method_45_code (2 : Nat) (Option.none : Option Jvm.ClassFile.FieldType)) ∈ tg := tg_in 857 (by first | exact rfl | decide +kernel) rfl
set_option maxRecDepth 100000 in
theorem tw_858 : (Jvm.Cond.methodLink "FallingTermsModel" (239 : Nat) ({ cls := "FallingTermsModel", name := "openAt", desc := "(I)I" } : Jvm.MethodName)) ∈ tg := tg_in 858 (by first | exact rfl | decide +kernel) rfl
set_option maxRecDepth 100000 in
theorem tw_860 : (Jvm.Cond.instanceMethod ({ cls := "FallingTermsModel", name := "openAt", desc := "(I)I" } : Jvm.MethodName)) ∈ tg := tg_in 860 (by first | exact rfl | decide +kernel) rfl
set_option maxRecDepth 100000 in
theorem tw_861 : (Jvm.Cond.code ({ cls := "FallingTermsModel", name := "openAt", desc := "(I)I" } : Jvm.MethodName) prog_8_method_48_code (7 : Nat) (Option.some Jvm.ClassFile.FieldType.int)) ∈ tg := tg_in 861 (by first | exact rfl | decide +kernel) rfl
set_option maxRecDepth 100000 in
theorem tw_862 : (Jvm.Cond.methodLink "FallingTermsModel" (224 : Nat) ({ cls := "FallingTermsModel", name := "isMet", desc := "([II)Z" } : Jvm.MethodName)) ∈ tg := tg_in 862 (by first | exact rfl | decide +kernel) rfl
set_option maxRecDepth 100000 in
theorem tw_864 : (Jvm.Cond.instanceMethod ({ cls := "FallingTermsModel", name := "isMet", desc := "([II)Z" } : Jvm.MethodName)) ∈ tg := tg_in 864 (by first | exact rfl | decide +kernel) rfl
set_option maxRecDepth 100000 in
theorem tw_865 : (Jvm.Cond.code ({ cls := "FallingTermsModel", name := "isMet", desc := "([II)Z" } : Jvm.MethodName) prog_8_method_47_code (3 : Nat) (Option.some Jvm.ClassFile.FieldType.boolean)) ∈ tg := tg_in 865 (by first | exact rfl | decide +kernel) rfl
set_option maxRecDepth 100000 in
theorem tw_866 : (Jvm.Cond.methodLink "FallingTermsLaw" (100 : Nat) ({ cls := "FallingTermsModel", name := "step", desc := "(I)I" } : Jvm.MethodName)) ∈ tg := tg_in 866 (by first | exact rfl | decide +kernel) rfl
set_option maxRecDepth 100000 in
theorem tw_867 : (Jvm.Cond.instanceMethod ({ cls := "FallingTermsModel", name := "step", desc := "(I)I" } : Jvm.MethodName)) ∈ tg := tg_in 867 (by first | exact rfl | decide +kernel) rfl
set_option maxRecDepth 100000 in
theorem tw_868 : (Jvm.Cond.selects "FallingTermsModel" ({ cls := "FallingTermsModel", name := "step", desc := "(I)I" } : Jvm.MethodName) ({ cls := "FallingTermsModel", name := "step", desc := "(I)I" } : Jvm.MethodName)) ∈ tg := tg_in 868 (by first | exact rfl | decide +kernel) rfl
set_option maxRecDepth 100000 in
theorem tw_869 : (Jvm.Cond.code ({ cls := "FallingTermsModel", name := "step", desc := "(I)I" } : Jvm.MethodName) prog_8_method_54_code (3 : Nat) (Option.some Jvm.ClassFile.FieldType.int)) ∈ tg := tg_in 869 (by first | exact rfl | decide +kernel) rfl
set_option maxRecDepth 100000 in
theorem tw_870 : (Jvm.Cond.methodLink "FallingTermsModel" (249 : Nat) ({ cls := "FallingTermsModel", name := "walks", desc := "(I)I" } : Jvm.MethodName)) ∈ tg := tg_in 870 (by first | exact rfl | decide +kernel) rfl
set_option maxRecDepth 100000 in
theorem tw_872 : (Jvm.Cond.instanceMethod ({ cls := "FallingTermsModel", name := "walks", desc := "(I)I" } : Jvm.MethodName)) ∈ tg := tg_in 872 (by first | exact rfl | decide +kernel) rfl
set_option maxRecDepth 100000 in
theorem tw_873 : (Jvm.Cond.code ({ cls := "FallingTermsModel", name := "walks", desc := "(I)I" } : Jvm.MethodName) prog_8_method_52_code (4 : Nat) (Option.some Jvm.ClassFile.FieldType.int)) ∈ tg := tg_in 873 (by first | exact rfl | decide +kernel) rfl
set_option maxRecDepth 100000 in
theorem tw_874 : (Jvm.Cond.methodLink "FallingTermsModel" (243 : Nat) ({ cls := "FallingTermsModel", name := "goes", desc := "(II)Z" } : Jvm.MethodName)) ∈ tg := tg_in 874 (by first | exact rfl | decide +kernel) rfl
set_option maxRecDepth 100000 in
theorem tw_876 : (Jvm.Cond.instanceMethod ({ cls := "FallingTermsModel", name := "goes", desc := "(II)Z" } : Jvm.MethodName)) ∈ tg := tg_in 876 (by first | exact rfl | decide +kernel) rfl
set_option maxRecDepth 100000 in
theorem tw_877 : (Jvm.Cond.code ({ cls := "FallingTermsModel", name := "goes", desc := "(II)Z" } : Jvm.MethodName) prog_8_method_51_code (11 : Nat) (Option.some Jvm.ClassFile.FieldType.boolean)) ∈ tg := tg_in 877 (by first | exact rfl | decide +kernel) rfl
set_option maxRecDepth 100000 in
theorem tw_878 : (Jvm.Cond.methodLink "FallingTermsModel" (232 : Nat) ({ cls := "FallingTermsModel", name := "becomes", desc := "(II)J" } : Jvm.MethodName)) ∈ tg := tg_in 878 (by first | exact rfl | decide +kernel) rfl
set_option maxRecDepth 100000 in
theorem tw_880 : (Jvm.Cond.instanceMethod ({ cls := "FallingTermsModel", name := "becomes", desc := "(II)J" } : Jvm.MethodName)) ∈ tg := tg_in 880 (by first | exact rfl | decide +kernel) rfl
set_option maxRecDepth 100000 in
theorem tw_881 : (Jvm.Cond.code ({ cls := "FallingTermsModel", name := "becomes", desc := "(II)J" } : Jvm.MethodName) prog_8_method_49_code (4 : Nat) (Option.some Jvm.ClassFile.FieldType.long)) ∈ tg := tg_in 881 (by first | exact rfl | decide +kernel) rfl
set_option maxRecDepth 100000 in
theorem tw_882 : (Jvm.Cond.methodLink "FallingTermsModel" (236 : Nat) ({ cls := "FallingTermsModel", name := "isNear", desc := "(J)Z" } : Jvm.MethodName)) ∈ tg := tg_in 882 (by first | exact rfl | decide +kernel) rfl
set_option maxRecDepth 100000 in
theorem tw_883 : (Jvm.Cond.static ({ cls := "FallingTermsModel", name := "isNear", desc := "(J)Z" } : Jvm.MethodName)) ∈ tg := tg_in 883 (by first | exact rfl | decide +kernel) rfl
set_option maxRecDepth 100000 in
theorem tw_884 : (Jvm.Cond.code ({ cls := "FallingTermsModel", name := "isNear", desc := "(J)Z" } : Jvm.MethodName) prog_8_method_50_code (2 : Nat) (Option.some Jvm.ClassFile.FieldType.boolean)) ∈ tg := tg_in 884 (by first | exact rfl | decide +kernel) rfl
set_option maxRecDepth 100000 in
theorem tw_885 : (Jvm.Cond.constantLong "FallingTermsModel" (228 : Nat) (-1000000000000 : Int64)) ∈ tg := tg_in 885 (by first | exact rfl | decide +kernel) rfl
set_option maxRecDepth 100000 in
theorem tw_886 : (Jvm.Cond.constantLong "FallingTermsModel" (230 : Nat) (1000000000000 : Int64)) ∈ tg := tg_in 886 (by first | exact rfl | decide +kernel) rfl
set_option maxRecDepth 100000 in
theorem tw_887 : (Jvm.Cond.methodLink "FallingTermsModel" (252 : Nat) ({ cls := "FallingTermsModel", name := "stay", desc := "(I)V" } : Jvm.MethodName)) ∈ tg := tg_in 887 (by first | exact rfl | decide +kernel) rfl
set_option maxRecDepth 100000 in
theorem tw_889 : (Jvm.Cond.instanceMethod ({ cls := "FallingTermsModel", name := "stay", desc := "(I)V" } : Jvm.MethodName)) ∈ tg := tg_in 889 (by first | exact rfl | decide +kernel) rfl
set_option maxRecDepth 100000 in
theorem tw_890 : (Jvm.Cond.code ({ cls := "FallingTermsModel", name := "stay", desc := "(I)V" } : Jvm.MethodName) prog_8_method_46_code (2 : Nat) (Option.none : Option Jvm.ClassFile.FieldType)) ∈ tg := tg_in 890 (by first | exact rfl | decide +kernel) rfl
set_option maxRecDepth 100000 in
theorem tw_891 : (Jvm.Cond.methodLink "FallingTermsLaw" (104 : Nat) ({ cls := "FallingTermsModel", name := "go", desc := "(II)I" } : Jvm.MethodName)) ∈ tg := tg_in 891 (by first | exact rfl | decide +kernel) rfl
set_option maxRecDepth 100000 in
theorem tw_892 : (Jvm.Cond.instanceMethod ({ cls := "FallingTermsModel", name := "go", desc := "(II)I" } : Jvm.MethodName)) ∈ tg := tg_in 892 (by first | exact rfl | decide +kernel) rfl
set_option maxRecDepth 100000 in
theorem tw_893 : (Jvm.Cond.selects "FallingTermsModel" ({ cls := "FallingTermsModel", name := "go", desc := "(II)I" } : Jvm.MethodName) ({ cls := "FallingTermsModel", name := "go", desc := "(II)I" } : Jvm.MethodName)) ∈ tg := tg_in 893 (by first | exact rfl | decide +kernel) rfl
set_option maxRecDepth 100000 in
theorem tw_894 : (Jvm.Cond.code ({ cls := "FallingTermsModel", name := "go", desc := "(II)I" } : Jvm.MethodName) prog_8_method_55_code (4 : Nat) (Option.some Jvm.ClassFile.FieldType.int)) ∈ tg := tg_in 894 (by first | exact rfl | decide +kernel) rfl
set_option maxRecDepth 100000 in
theorem tw_895 : (Jvm.Cond.methodLink "FallingTermsLaw" (108 : Nat) ({ cls := "FallingTermsModel", name := "walk", desc := "(II)I" } : Jvm.MethodName)) ∈ tg := tg_in 895 (by first | exact rfl | decide +kernel) rfl
set_option maxRecDepth 100000 in
theorem tw_896 : (Jvm.Cond.instanceMethod ({ cls := "FallingTermsModel", name := "walk", desc := "(II)I" } : Jvm.MethodName)) ∈ tg := tg_in 896 (by first | exact rfl | decide +kernel) rfl
set_option maxRecDepth 100000 in
theorem tw_897 : (Jvm.Cond.selects "FallingTermsModel" ({ cls := "FallingTermsModel", name := "walk", desc := "(II)I" } : Jvm.MethodName) ({ cls := "FallingTermsModel", name := "walk", desc := "(II)I" } : Jvm.MethodName)) ∈ tg := tg_in 897 (by first | exact rfl | decide +kernel) rfl
set_option maxRecDepth 100000 in
theorem tw_898 : (Jvm.Cond.code ({ cls := "FallingTermsModel", name := "walk", desc := "(II)I" } : Jvm.MethodName) prog_8_method_56_code (4 : Nat) (Option.some Jvm.ClassFile.FieldType.int)) ∈ tg := tg_in 898 (by first | exact rfl | decide +kernel) rfl
set_option maxRecDepth 100000 in
theorem tw_899 : (Jvm.Cond.methodLink "FallingTermsLaw" (112 : Nat) ({ cls := "FallingTermsModel", name := "ring", desc := "(II)I" } : Jvm.MethodName)) ∈ tg := tg_in 899 (by first | exact rfl | decide +kernel) rfl
set_option maxRecDepth 100000 in
theorem tw_900 : (Jvm.Cond.instanceMethod ({ cls := "FallingTermsModel", name := "ring", desc := "(II)I" } : Jvm.MethodName)) ∈ tg := tg_in 900 (by first | exact rfl | decide +kernel) rfl
set_option maxRecDepth 100000 in
theorem tw_901 : (Jvm.Cond.selects "FallingTermsModel" ({ cls := "FallingTermsModel", name := "ring", desc := "(II)I" } : Jvm.MethodName) ({ cls := "FallingTermsModel", name := "ring", desc := "(II)I" } : Jvm.MethodName)) ∈ tg := tg_in 901 (by first | exact rfl | decide +kernel) rfl
set_option maxRecDepth 100000 in
theorem tw_902 : (Jvm.Cond.code ({ cls := "FallingTermsModel", name := "ring", desc := "(II)I" } : Jvm.MethodName) prog_8_method_57_code (10 : Nat) (Option.some Jvm.ClassFile.FieldType.int)) ∈ tg := tg_in 902 (by first | exact rfl | decide +kernel) rfl
set_option maxRecDepth 100000 in
theorem tw_903 : (Jvm.Cond.methodLink "FallingTermsModel" (255 : Nat) ({ cls := "FallingTermsModel", name := "comesBack", desc := "(IIII)I" } : Jvm.MethodName)) ∈ tg := tg_in 903 (by first | exact rfl | decide +kernel) rfl
set_option maxRecDepth 100000 in
theorem tw_905 : (Jvm.Cond.instanceMethod ({ cls := "FallingTermsModel", name := "comesBack", desc := "(IIII)I" } : Jvm.MethodName)) ∈ tg := tg_in 905 (by first | exact rfl | decide +kernel) rfl
set_option maxRecDepth 100000 in
theorem tw_906 : (Jvm.Cond.code ({ cls := "FallingTermsModel", name := "comesBack", desc := "(IIII)I" } : Jvm.MethodName) prog_8_method_58_code (6 : Nat) (Option.some Jvm.ClassFile.FieldType.int)) ∈ tg := tg_in 906 (by first | exact rfl | decide +kernel) rfl
set_option maxRecDepth 100000 in
theorem tw_907 : (Jvm.Cond.methodLink "FallingTermsLaw" (116 : Nat) ({ cls := "FallingTermsModel", name := "loops", desc := "()I" } : Jvm.MethodName)) ∈ tg := tg_in 907 (by first | exact rfl | decide +kernel) rfl
set_option maxRecDepth 100000 in
theorem tw_908 : (Jvm.Cond.instanceMethod ({ cls := "FallingTermsModel", name := "loops", desc := "()I" } : Jvm.MethodName)) ∈ tg := tg_in 908 (by first | exact rfl | decide +kernel) rfl
set_option maxRecDepth 100000 in
theorem tw_909 : (Jvm.Cond.selects "FallingTermsModel" ({ cls := "FallingTermsModel", name := "loops", desc := "()I" } : Jvm.MethodName) ({ cls := "FallingTermsModel", name := "loops", desc := "()I" } : Jvm.MethodName)) ∈ tg := tg_in 909 (by first | exact rfl | decide +kernel) rfl
set_option maxRecDepth 100000 in
theorem tw_910 : (Jvm.Cond.code ({ cls := "FallingTermsModel", name := "loops", desc := "()I" } : Jvm.MethodName) prog_8_method_59_code (1 : Nat) (Option.some Jvm.ClassFile.FieldType.int)) ∈ tg := tg_in 910 (by first | exact rfl | decide +kernel) rfl
set_option maxRecDepth 100000 in
theorem in_Md : ∀ w ∈ u_ws R_Md F_Md 38, w ∈ tg := by
  first
  | (intro w hw; obtain ⟨k, hk, rfl⟩ := List.mem_map.mp hw; have hk := List.mem_range.mp hk; rcases (show k = 0 ∨ k = 1 ∨ k = 2 ∨ k = 3 ∨ k = 4 ∨ k = 5 ∨ k = 6 ∨ k = 7 ∨ k = 8 ∨ k = 9 ∨ k = 10 ∨ k = 11 ∨ k = 12 ∨ k = 13 ∨ k = 14 ∨ k = 15 ∨ k = 16 ∨ k = 17 ∨ k = 18 ∨ k = 19 ∨ k = 20 ∨ k = 21 ∨ k = 22 ∨ k = 23 ∨ k = 24 ∨ k = 25 ∨ k = 26 ∨ k = 27 ∨ k = 28 ∨ k = 29 ∨ k = 30 ∨ k = 31 ∨ k = 32 ∨ k = 33 ∨ k = 34 ∨ k = 35 ∨ k = 36 ∨ k = 37 by omega) with rfl | rfl | rfl | rfl | rfl | rfl | rfl | rfl | rfl | rfl | rfl | rfl | rfl | rfl | rfl | rfl | rfl | rfl | rfl | rfl | rfl | rfl | rfl | rfl | rfl | rfl | rfl | rfl | rfl | rfl | rfl | rfl | rfl | rfl | rfl | rfl | rfl | rfl; exact tw_603; exact tw_605; exact tw_607; exact tw_609; exact tw_611; exact tw_613; exact tw_615; exact tw_617; exact tw_619; exact tw_621; exact tw_623; exact tw_625; exact tw_627; exact tw_629; exact tw_631; exact tw_633; exact tw_635; exact tw_637; exact tw_639; exact tw_641; exact tw_643; exact tw_645; exact tw_647; exact tw_649; exact tw_651; exact tw_653; exact tw_655; exact tw_657; exact tw_659; exact tw_661; exact tw_663; exact tw_665; exact tw_667; exact tw_669; exact tw_671; exact tw_673; exact tw_675; exact tw_677)
  | decide +kernel
set_option maxRecDepth 100000 in
theorem in_Lp : ∀ w ∈ u_ws R_Lp F_Lp 6, w ∈ tg := by
  first
  | (intro w hw; obtain ⟨k, hk, rfl⟩ := List.mem_map.mp hw; have hk := List.mem_range.mp hk; rcases (show k = 0 ∨ k = 1 ∨ k = 2 ∨ k = 3 ∨ k = 4 ∨ k = 5 by omega) with rfl | rfl | rfl | rfl | rfl | rfl; exact tw_167; exact tw_169; exact tw_171; exact tw_173; exact tw_175; exact tw_177)
  | decide +kernel
set_option maxRecDepth 100000 in
theorem in_Pf : ∀ w ∈ u_ws R_Pf F_Pf 3, w ∈ tg := by
  first
  | (intro w hw; obtain ⟨k, hk, rfl⟩ := List.mem_map.mp hw; have hk := List.mem_range.mp hk; rcases (show k = 0 ∨ k = 1 ∨ k = 2 by omega) with rfl | rfl | rfl; exact tw_89; exact tw_91; exact tw_93)
  | decide +kernel
set_option maxRecDepth 100000 in
theorem in_Rw : ∀ w ∈ u_ws R_Rw F_Rw 3, w ∈ tg := by
  first
  | (intro w hw; obtain ⟨k, hk, rfl⟩ := List.mem_map.mp hw; have hk := List.mem_range.mp hk; rcases (show k = 0 ∨ k = 1 ∨ k = 2 by omega) with rfl | rfl | rfl; exact tw_119; exact tw_121; exact tw_123)
  | decide +kernel
set_option maxRecDepth 100000 in
theorem in_Sp : ∀ w ∈ u_ws R_Sp F_Sp 8, w ∈ tg := by
  first
  | (intro w hw; obtain ⟨k, hk, rfl⟩ := List.mem_map.mp hw; have hk := List.mem_range.mp hk; rcases (show k = 0 ∨ k = 1 ∨ k = 2 ∨ k = 3 ∨ k = 4 ∨ k = 5 ∨ k = 6 ∨ k = 7 by omega) with rfl | rfl | rfl | rfl | rfl | rfl | rfl | rfl; exact tw_193; exact tw_195; exact tw_197; exact tw_199; exact tw_201; exact tw_203; exact tw_205; exact tw_207)
  | decide +kernel
set_option maxRecDepth 100000 in
theorem in_Wy : ∀ w ∈ u_ws R_Wy F_Wy 3, w ∈ tg := by
  first
  | (intro w hw; obtain ⟨k, hk, rfl⟩ := List.mem_map.mp hw; have hk := List.mem_range.mp hk; rcases (show k = 0 ∨ k = 1 ∨ k = 2 by omega) with rfl | rfl | rfl; exact tw_144; exact tw_146; exact tw_148)
  | decide +kernel
set_option maxRecDepth 100000 in
theorem in_FT : ∀ w ∈ u_ws R_FT F_FT 11, w ∈ tg := by
  first
  | (intro w hw; obtain ⟨k, hk, rfl⟩ := List.mem_map.mp hw; have hk := List.mem_range.mp hk; rcases (show k = 0 ∨ k = 1 ∨ k = 2 ∨ k = 3 ∨ k = 4 ∨ k = 5 ∨ k = 6 ∨ k = 7 ∨ k = 8 ∨ k = 9 ∨ k = 10 by omega) with rfl | rfl | rfl | rfl | rfl | rfl | rfl | rfl | rfl | rfl | rfl; exact tw_221; exact tw_223; exact tw_225; exact tw_227; exact tw_229; exact tw_231; exact tw_233; exact tw_235; exact tw_237; exact tw_239; exact tw_241)
  | decide +kernel
