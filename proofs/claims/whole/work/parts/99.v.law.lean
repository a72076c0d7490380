/-! THE LAW: words, decode rows, a theorem a case -/
theorem w_16 : Cond.classLink "WinProofsLaw" (7 : Nat) "WinProofs" ∈ lw_tbl := List.mem_append_right _ (List.mem_of_getElem? (i := 16) (by decide +kernel))
theorem w_18 : Cond.methodLink "WinProofsLaw" (9 : Nat) ({ cls := "WinProofs", name := "<init>", desc := "()V" } : MethodName) ∈ lw_tbl := List.mem_append_right _ (List.mem_of_getElem? (i := 18) (by decide +kernel))
theorem w_19 : Cond.instanceMethod ({ cls := "WinProofs", name := "<init>", desc := "()V" } : MethodName) ∈ lw_tbl := List.mem_append_right _ (List.mem_of_getElem? (i := 19) (by decide +kernel))
theorem w_436 : Cond.methodLink "WinProofsLaw" (13 : Nat) ({ cls := "WinProofs", name := "clear", desc := "()I" } : MethodName) ∈ lw_tbl := List.mem_append_right _ (List.mem_of_getElem? (i := 436) (by decide +kernel))
theorem w_437 : Cond.instanceMethod ({ cls := "WinProofs", name := "clear", desc := "()I" } : MethodName) ∈ lw_tbl := List.mem_append_right _ (List.mem_of_getElem? (i := 437) (by decide +kernel))
theorem w_438 : Cond.selects "WinProofs" ({ cls := "WinProofs", name := "clear", desc := "()I" } : MethodName) ({ cls := "WinProofs", name := "clear", desc := "()I" } : MethodName) ∈ lw_tbl := List.mem_append_right _ (List.mem_of_getElem? (i := 438) (by decide +kernel))
theorem w_448 : Cond.methodLink "WinProofsLaw" (18 : Nat) ({ cls := "WinProofs", name := "thing", desc := "(I)I" } : MethodName) ∈ lw_tbl := List.mem_append_right _ (List.mem_of_getElem? (i := 448) (by decide +kernel))
theorem w_449 : Cond.instanceMethod ({ cls := "WinProofs", name := "thing", desc := "(I)I" } : MethodName) ∈ lw_tbl := List.mem_append_right _ (List.mem_of_getElem? (i := 449) (by decide +kernel))
theorem w_450 : Cond.selects "WinProofs" ({ cls := "WinProofs", name := "thing", desc := "(I)I" } : MethodName) ({ cls := "WinProofs", name := "thing", desc := "(I)I" } : MethodName) ∈ lw_tbl := List.mem_append_right _ (List.mem_of_getElem? (i := 450) (by decide +kernel))
theorem w_456 : Cond.methodLink "WinProofsLaw" (23 : Nat) ({ cls := "WinProofs", name := "start", desc := "(I)I" } : MethodName) ∈ lw_tbl := List.mem_append_right _ (List.mem_of_getElem? (i := 456) (by decide +kernel))
theorem w_457 : Cond.instanceMethod ({ cls := "WinProofs", name := "start", desc := "(I)I" } : MethodName) ∈ lw_tbl := List.mem_append_right _ (List.mem_of_getElem? (i := 457) (by decide +kernel))
theorem w_458 : Cond.selects "WinProofs" ({ cls := "WinProofs", name := "start", desc := "(I)I" } : MethodName) ({ cls := "WinProofs", name := "start", desc := "(I)I" } : MethodName) ∈ lw_tbl := List.mem_append_right _ (List.mem_of_getElem? (i := 458) (by decide +kernel))
theorem w_468 : Cond.methodLink "WinProofsLaw" (27 : Nat) ({ cls := "WinProofs", name := "act", desc := "()I" } : MethodName) ∈ lw_tbl := List.mem_append_right _ (List.mem_of_getElem? (i := 468) (by decide +kernel))
theorem w_469 : Cond.instanceMethod ({ cls := "WinProofs", name := "act", desc := "()I" } : MethodName) ∈ lw_tbl := List.mem_append_right _ (List.mem_of_getElem? (i := 469) (by decide +kernel))
theorem w_470 : Cond.selects "WinProofs" ({ cls := "WinProofs", name := "act", desc := "()I" } : MethodName) ({ cls := "WinProofs", name := "act", desc := "()I" } : MethodName) ∈ lw_tbl := List.mem_append_right _ (List.mem_of_getElem? (i := 470) (by decide +kernel))
theorem w_480 : Cond.methodLink "WinProofsLaw" (31 : Nat) ({ cls := "WinProofs", name := "outcome", desc := "(I)I" } : MethodName) ∈ lw_tbl := List.mem_append_right _ (List.mem_of_getElem? (i := 480) (by decide +kernel))
theorem w_481 : Cond.instanceMethod ({ cls := "WinProofs", name := "outcome", desc := "(I)I" } : MethodName) ∈ lw_tbl := List.mem_append_right _ (List.mem_of_getElem? (i := 481) (by decide +kernel))
theorem w_482 : Cond.selects "WinProofs" ({ cls := "WinProofs", name := "outcome", desc := "(I)I" } : MethodName) ({ cls := "WinProofs", name := "outcome", desc := "(I)I" } : MethodName) ∈ lw_tbl := List.mem_append_right _ (List.mem_of_getElem? (i := 482) (by decide +kernel))
theorem w_496 : Cond.methodLink "WinProofsLaw" (35 : Nat) ({ cls := "WinProofs", name := "when", desc := "(IIII)I" } : MethodName) ∈ lw_tbl := List.mem_append_right _ (List.mem_of_getElem? (i := 496) (by decide +kernel))
theorem w_497 : Cond.instanceMethod ({ cls := "WinProofs", name := "when", desc := "(IIII)I" } : MethodName) ∈ lw_tbl := List.mem_append_right _ (List.mem_of_getElem? (i := 497) (by decide +kernel))
theorem w_498 : Cond.selects "WinProofs" ({ cls := "WinProofs", name := "when", desc := "(IIII)I" } : MethodName) ({ cls := "WinProofs", name := "when", desc := "(IIII)I" } : MethodName) ∈ lw_tbl := List.mem_append_right _ (List.mem_of_getElem? (i := 498) (by decide +kernel))
theorem w_512 : Cond.methodLink "WinProofsLaw" (40 : Nat) ({ cls := "WinProofs", name := "effect", desc := "(IIIII)I" } : MethodName) ∈ lw_tbl := List.mem_append_right _ (List.mem_of_getElem? (i := 512) (by decide +kernel))
theorem w_513 : Cond.instanceMethod ({ cls := "WinProofs", name := "effect", desc := "(IIIII)I" } : MethodName) ∈ lw_tbl := List.mem_append_right _ (List.mem_of_getElem? (i := 513) (by decide +kernel))
theorem w_514 : Cond.selects "WinProofs" ({ cls := "WinProofs", name := "effect", desc := "(IIIII)I" } : MethodName) ({ cls := "WinProofs", name := "effect", desc := "(IIIII)I" } : MethodName) ∈ lw_tbl := List.mem_append_right _ (List.mem_of_getElem? (i := 514) (by decide +kernel))
theorem w_525 : Cond.methodLink "WinProofsLaw" (45 : Nat) ({ cls := "WinProofs", name := "aim", desc := "(III)I" } : MethodName) ∈ lw_tbl := List.mem_append_right _ (List.mem_of_getElem? (i := 525) (by decide +kernel))
theorem w_526 : Cond.instanceMethod ({ cls := "WinProofs", name := "aim", desc := "(III)I" } : MethodName) ∈ lw_tbl := List.mem_append_right _ (List.mem_of_getElem? (i := 526) (by decide +kernel))
theorem w_527 : Cond.selects "WinProofs" ({ cls := "WinProofs", name := "aim", desc := "(III)I" } : MethodName) ({ cls := "WinProofs", name := "aim", desc := "(III)I" } : MethodName) ∈ lw_tbl := List.mem_append_right _ (List.mem_of_getElem? (i := 527) (by decide +kernel))
theorem w_533 : Cond.methodLink "WinProofsLaw" (50 : Nat) ({ cls := "WinProofs", name := "aimless", desc := "()I" } : MethodName) ∈ lw_tbl := List.mem_append_right _ (List.mem_of_getElem? (i := 533) (by decide +kernel))
theorem w_534 : Cond.instanceMethod ({ cls := "WinProofs", name := "aimless", desc := "()I" } : MethodName) ∈ lw_tbl := List.mem_append_right _ (List.mem_of_getElem? (i := 534) (by decide +kernel))
theorem w_535 : Cond.selects "WinProofs" ({ cls := "WinProofs", name := "aimless", desc := "()I" } : MethodName) ({ cls := "WinProofs", name := "aimless", desc := "()I" } : MethodName) ∈ lw_tbl := List.mem_append_right _ (List.mem_of_getElem? (i := 535) (by decide +kernel))
theorem w_537 : Cond.methodLink "WinProofsLaw" (54 : Nat) ({ cls := "WinProofs", name := "unact", desc := "()I" } : MethodName) ∈ lw_tbl := List.mem_append_right _ (List.mem_of_getElem? (i := 537) (by decide +kernel))
theorem w_538 : Cond.instanceMethod ({ cls := "WinProofs", name := "unact", desc := "()I" } : MethodName) ∈ lw_tbl := List.mem_append_right _ (List.mem_of_getElem? (i := 538) (by decide +kernel))
theorem w_539 : Cond.selects "WinProofs" ({ cls := "WinProofs", name := "unact", desc := "()I" } : MethodName) ({ cls := "WinProofs", name := "unact", desc := "()I" } : MethodName) ∈ lw_tbl := List.mem_append_right _ (List.mem_of_getElem? (i := 539) (by decide +kernel))
theorem w_545 : Cond.methodLink "WinProofsLaw" (58 : Nat) ({ cls := "WinProofs", name := "leads", desc := "(III)I" } : MethodName) ∈ lw_tbl := List.mem_append_right _ (List.mem_of_getElem? (i := 545) (by decide +kernel))
theorem w_546 : Cond.instanceMethod ({ cls := "WinProofs", name := "leads", desc := "(III)I" } : MethodName) ∈ lw_tbl := List.mem_append_right _ (List.mem_of_getElem? (i := 546) (by decide +kernel))
theorem w_547 : Cond.selects "WinProofs" ({ cls := "WinProofs", name := "leads", desc := "(III)I" } : MethodName) ({ cls := "WinProofs", name := "leads", desc := "(III)I" } : MethodName) ∈ lw_tbl := List.mem_append_right _ (List.mem_of_getElem? (i := 547) (by decide +kernel))
theorem w_573 : Cond.methodLink "WinProofsLaw" (62 : Nat) ({ cls := "WinProofs", name := "count", desc := "(I)I" } : MethodName) ∈ lw_tbl := List.mem_append_right _ (List.mem_of_getElem? (i := 573) (by decide +kernel))
theorem w_574 : Cond.instanceMethod ({ cls := "WinProofs", name := "count", desc := "(I)I" } : MethodName) ∈ lw_tbl := List.mem_append_right _ (List.mem_of_getElem? (i := 574) (by decide +kernel))
theorem w_575 : Cond.selects "WinProofs" ({ cls := "WinProofs", name := "count", desc := "(I)I" } : MethodName) ({ cls := "WinProofs", name := "count", desc := "(I)I" } : MethodName) ∈ lw_tbl := List.mem_append_right _ (List.mem_of_getElem? (i := 575) (by decide +kernel))
theorem w_768 : Cond.methodLink "WinProofsLaw" (66 : Nat) ({ cls := "WinProofs", name := "of", desc := "(II)I" } : MethodName) ∈ lw_tbl := List.mem_append_right _ (List.mem_of_getElem? (i := 768) (by decide +kernel))
theorem w_769 : Cond.instanceMethod ({ cls := "WinProofs", name := "of", desc := "(II)I" } : MethodName) ∈ lw_tbl := List.mem_append_right _ (List.mem_of_getElem? (i := 769) (by decide +kernel))
theorem w_770 : Cond.selects "WinProofs" ({ cls := "WinProofs", name := "of", desc := "(II)I" } : MethodName) ({ cls := "WinProofs", name := "of", desc := "(II)I" } : MethodName) ∈ lw_tbl := List.mem_append_right _ (List.mem_of_getElem? (i := 770) (by decide +kernel))
theorem w_772 : Cond.methodLink "WinProofsLaw" (71 : Nat) ({ cls := "WinProofs", name := "best", desc := "(II)I" } : MethodName) ∈ lw_tbl := List.mem_append_right _ (List.mem_of_getElem? (i := 772) (by decide +kernel))
theorem w_773 : Cond.instanceMethod ({ cls := "WinProofs", name := "best", desc := "(II)I" } : MethodName) ∈ lw_tbl := List.mem_append_right _ (List.mem_of_getElem? (i := 773) (by decide +kernel))
theorem w_774 : Cond.selects "WinProofs" ({ cls := "WinProofs", name := "best", desc := "(II)I" } : MethodName) ({ cls := "WinProofs", name := "best", desc := "(II)I" } : MethodName) ∈ lw_tbl := List.mem_append_right _ (List.mem_of_getElem? (i := 774) (by decide +kernel))
theorem w_785 : Cond.methodLink "WinProofsLaw" (75 : Nat) ({ cls := "WinProofs", name := "play", desc := "(II)I" } : MethodName) ∈ lw_tbl := List.mem_append_right _ (List.mem_of_getElem? (i := 785) (by decide +kernel))
theorem w_786 : Cond.instanceMethod ({ cls := "WinProofs", name := "play", desc := "(II)I" } : MethodName) ∈ lw_tbl := List.mem_append_right _ (List.mem_of_getElem? (i := 786) (by decide +kernel))
theorem w_787 : Cond.selects "WinProofs" ({ cls := "WinProofs", name := "play", desc := "(II)I" } : MethodName) ({ cls := "WinProofs", name := "play", desc := "(II)I" } : MethodName) ∈ lw_tbl := List.mem_append_right _ (List.mem_of_getElem? (i := 787) (by decide +kernel))
theorem w_805 : Cond.methodLink "WinProofsLaw" (79 : Nat) ({ cls := "WinProofs", name := "plays", desc := "()J" } : MethodName) ∈ lw_tbl := List.mem_append_right _ (List.mem_of_getElem? (i := 805) (by decide +kernel))
theorem w_806 : Cond.instanceMethod ({ cls := "WinProofs", name := "plays", desc := "()J" } : MethodName) ∈ lw_tbl := List.mem_append_right _ (List.mem_of_getElem? (i := 806) (by decide +kernel))
theorem w_807 : Cond.selects "WinProofs" ({ cls := "WinProofs", name := "plays", desc := "()J" } : MethodName) ({ cls := "WinProofs", name := "plays", desc := "()J" } : MethodName) ∈ lw_tbl := List.mem_append_right _ (List.mem_of_getElem? (i := 807) (by decide +kernel))
theorem w_809 : Cond.methodLink "WinProofsLaw" (84 : Nat) ({ cls := "WinProofs", name := "needed", desc := "()I" } : MethodName) ∈ lw_tbl := List.mem_append_right _ (List.mem_of_getElem? (i := 809) (by decide +kernel))
theorem w_810 : Cond.instanceMethod ({ cls := "WinProofs", name := "needed", desc := "()I" } : MethodName) ∈ lw_tbl := List.mem_append_right _ (List.mem_of_getElem? (i := 810) (by decide +kernel))
theorem w_811 : Cond.selects "WinProofs" ({ cls := "WinProofs", name := "needed", desc := "()I" } : MethodName) ({ cls := "WinProofs", name := "needed", desc := "()I" } : MethodName) ∈ lw_tbl := List.mem_append_right _ (List.mem_of_getElem? (i := 811) (by decide +kernel))
theorem w_829 : Cond.methodLink "WinProofsLaw" (88 : Nat) ({ cls := "WinProofs", name := "fact", desc := "(II)I" } : MethodName) ∈ lw_tbl := List.mem_append_right _ (List.mem_of_getElem? (i := 829) (by decide +kernel))
theorem w_830 : Cond.instanceMethod ({ cls := "WinProofs", name := "fact", desc := "(II)I" } : MethodName) ∈ lw_tbl := List.mem_append_right _ (List.mem_of_getElem? (i := 830) (by decide +kernel))
theorem w_831 : Cond.selects "WinProofs" ({ cls := "WinProofs", name := "fact", desc := "(II)I" } : MethodName) ({ cls := "WinProofs", name := "fact", desc := "(II)I" } : MethodName) ∈ lw_tbl := List.mem_append_right _ (List.mem_of_getElem? (i := 831) (by decide +kernel))
theorem w_834 : Cond.methodLink "WinProofsLaw" (92 : Nat) ({ cls := "WinProofs", name := "values", desc := "(I)I" } : MethodName) ∈ lw_tbl := List.mem_append_right _ (List.mem_of_getElem? (i := 834) (by decide +kernel))
theorem w_835 : Cond.instanceMethod ({ cls := "WinProofs", name := "values", desc := "(I)I" } : MethodName) ∈ lw_tbl := List.mem_append_right _ (List.mem_of_getElem? (i := 835) (by decide +kernel))
theorem w_836 : Cond.selects "WinProofs" ({ cls := "WinProofs", name := "values", desc := "(I)I" } : MethodName) ({ cls := "WinProofs", name := "values", desc := "(I)I" } : MethodName) ∈ lw_tbl := List.mem_append_right _ (List.mem_of_getElem? (i := 836) (by decide +kernel))
theorem w_839 : Cond.methodLink "WinProofsLaw" (96 : Nat) ({ cls := "WinProofs", name := "cover", desc := "()I" } : MethodName) ∈ lw_tbl := List.mem_append_right _ (List.mem_of_getElem? (i := 839) (by decide +kernel))
theorem w_840 : Cond.instanceMethod ({ cls := "WinProofs", name := "cover", desc := "()I" } : MethodName) ∈ lw_tbl := List.mem_append_right _ (List.mem_of_getElem? (i := 840) (by decide +kernel))
theorem w_841 : Cond.selects "WinProofs" ({ cls := "WinProofs", name := "cover", desc := "()I" } : MethodName) ({ cls := "WinProofs", name := "cover", desc := "()I" } : MethodName) ∈ lw_tbl := List.mem_append_right _ (List.mem_of_getElem? (i := 841) (by decide +kernel))
theorem w_851 : Cond.methodLink "WinProofsLaw" (100 : Nat) ({ cls := "WinProofs", name := "part", desc := "(IIII)I" } : MethodName) ∈ lw_tbl := List.mem_append_right _ (List.mem_of_getElem? (i := 851) (by decide +kernel))
theorem w_852 : Cond.instanceMethod ({ cls := "WinProofs", name := "part", desc := "(IIII)I" } : MethodName) ∈ lw_tbl := List.mem_append_right _ (List.mem_of_getElem? (i := 852) (by decide +kernel))
theorem w_853 : Cond.selects "WinProofs" ({ cls := "WinProofs", name := "part", desc := "(IIII)I" } : MethodName) ({ cls := "WinProofs", name := "part", desc := "(IIII)I" } : MethodName) ∈ lw_tbl := List.mem_append_right _ (List.mem_of_getElem? (i := 853) (by decide +kernel))
theorem w_855 : Cond.methodLink "WinProofsLaw" (104 : Nat) ({ cls := "WinProofs", name := "bare", desc := "()I" } : MethodName) ∈ lw_tbl := List.mem_append_right _ (List.mem_of_getElem? (i := 855) (by decide +kernel))
theorem w_856 : Cond.instanceMethod ({ cls := "WinProofs", name := "bare", desc := "()I" } : MethodName) ∈ lw_tbl := List.mem_append_right _ (List.mem_of_getElem? (i := 856) (by decide +kernel))
theorem w_857 : Cond.selects "WinProofs" ({ cls := "WinProofs", name := "bare", desc := "()I" } : MethodName) ({ cls := "WinProofs", name := "bare", desc := "()I" } : MethodName) ∈ lw_tbl := List.mem_append_right _ (List.mem_of_getElem? (i := 857) (by decide +kernel))
theorem w_859 : Cond.methodLink "WinProofsLaw" (108 : Nat) ({ cls := "WinProofs", name := "flaw", desc := "(I)I" } : MethodName) ∈ lw_tbl := List.mem_append_right _ (List.mem_of_getElem? (i := 859) (by decide +kernel))
theorem w_860 : Cond.instanceMethod ({ cls := "WinProofs", name := "flaw", desc := "(I)I" } : MethodName) ∈ lw_tbl := List.mem_append_right _ (List.mem_of_getElem? (i := 860) (by decide +kernel))
theorem w_861 : Cond.selects "WinProofs" ({ cls := "WinProofs", name := "flaw", desc := "(I)I" } : MethodName) ({ cls := "WinProofs", name := "flaw", desc := "(I)I" } : MethodName) ∈ lw_tbl := List.mem_append_right _ (List.mem_of_getElem? (i := 861) (by decide +kernel))
theorem w_885 : Cond.classLink "WinProofsLaw" (10 : Nat) "WinProofsModel" ∈ lw_tbl := List.mem_append_right _ (List.mem_of_getElem? (i := 885) (by decide +kernel))
theorem w_887 : Cond.methodLink "WinProofsLaw" (12 : Nat) ({ cls := "WinProofsModel", name := "<init>", desc := "()V" } : MethodName) ∈ lw_tbl := List.mem_append_right _ (List.mem_of_getElem? (i := 887) (by decide +kernel))
theorem w_888 : Cond.instanceMethod ({ cls := "WinProofsModel", name := "<init>", desc := "()V" } : MethodName) ∈ lw_tbl := List.mem_append_right _ (List.mem_of_getElem? (i := 888) (by decide +kernel))
theorem w_1009 : Cond.methodLink "WinProofsLaw" (17 : Nat) ({ cls := "WinProofsModel", name := "clear", desc := "()I" } : MethodName) ∈ lw_tbl := List.mem_append_right _ (List.mem_of_getElem? (i := 1009) (by decide +kernel))
theorem w_1010 : Cond.instanceMethod ({ cls := "WinProofsModel", name := "clear", desc := "()I" } : MethodName) ∈ lw_tbl := List.mem_append_right _ (List.mem_of_getElem? (i := 1010) (by decide +kernel))
theorem w_1011 : Cond.selects "WinProofsModel" ({ cls := "WinProofsModel", name := "clear", desc := "()I" } : MethodName) ({ cls := "WinProofsModel", name := "clear", desc := "()I" } : MethodName) ∈ lw_tbl := List.mem_append_right _ (List.mem_of_getElem? (i := 1011) (by decide +kernel))
theorem w_1013 : Cond.methodLink "WinProofsLaw" (22 : Nat) ({ cls := "WinProofsModel", name := "thing", desc := "(I)I" } : MethodName) ∈ lw_tbl := List.mem_append_right _ (List.mem_of_getElem? (i := 1013) (by decide +kernel))
theorem w_1014 : Cond.instanceMethod ({ cls := "WinProofsModel", name := "thing", desc := "(I)I" } : MethodName) ∈ lw_tbl := List.mem_append_right _ (List.mem_of_getElem? (i := 1014) (by decide +kernel))
theorem w_1015 : Cond.selects "WinProofsModel" ({ cls := "WinProofsModel", name := "thing", desc := "(I)I" } : MethodName) ({ cls := "WinProofsModel", name := "thing", desc := "(I)I" } : MethodName) ∈ lw_tbl := List.mem_append_right _ (List.mem_of_getElem? (i := 1015) (by decide +kernel))
theorem w_1024 : Cond.methodLink "WinProofsLaw" (26 : Nat) ({ cls := "WinProofsModel", name := "start", desc := "(I)I" } : MethodName) ∈ lw_tbl := List.mem_append_right _ (List.mem_of_getElem? (i := 1024) (by decide +kernel))
theorem w_1025 : Cond.instanceMethod ({ cls := "WinProofsModel", name := "start", desc := "(I)I" } : MethodName) ∈ lw_tbl := List.mem_append_right _ (List.mem_of_getElem? (i := 1025) (by decide +kernel))
theorem w_1026 : Cond.selects "WinProofsModel" ({ cls := "WinProofsModel", name := "start", desc := "(I)I" } : MethodName) ({ cls := "WinProofsModel", name := "start", desc := "(I)I" } : MethodName) ∈ lw_tbl := List.mem_append_right _ (List.mem_of_getElem? (i := 1026) (by decide +kernel))
theorem w_1032 : Cond.methodLink "WinProofsLaw" (30 : Nat) ({ cls := "WinProofsModel", name := "act", desc := "()I" } : MethodName) ∈ lw_tbl := List.mem_append_right _ (List.mem_of_getElem? (i := 1032) (by decide +kernel))
theorem w_1033 : Cond.instanceMethod ({ cls := "WinProofsModel", name := "act", desc := "()I" } : MethodName) ∈ lw_tbl := List.mem_append_right _ (List.mem_of_getElem? (i := 1033) (by decide +kernel))
theorem w_1034 : Cond.selects "WinProofsModel" ({ cls := "WinProofsModel", name := "act", desc := "()I" } : MethodName) ({ cls := "WinProofsModel", name := "act", desc := "()I" } : MethodName) ∈ lw_tbl := List.mem_append_right _ (List.mem_of_getElem? (i := 1034) (by decide +kernel))
theorem w_1036 : Cond.methodLink "WinProofsLaw" (34 : Nat) ({ cls := "WinProofsModel", name := "outcome", desc := "(I)I" } : MethodName) ∈ lw_tbl := List.mem_append_right _ (List.mem_of_getElem? (i := 1036) (by decide +kernel))
theorem w_1037 : Cond.instanceMethod ({ cls := "WinProofsModel", name := "outcome", desc := "(I)I" } : MethodName) ∈ lw_tbl := List.mem_append_right _ (List.mem_of_getElem? (i := 1037) (by decide +kernel))
theorem w_1038 : Cond.selects "WinProofsModel" ({ cls := "WinProofsModel", name := "outcome", desc := "(I)I" } : MethodName) ({ cls := "WinProofsModel", name := "outcome", desc := "(I)I" } : MethodName) ∈ lw_tbl := List.mem_append_right _ (List.mem_of_getElem? (i := 1038) (by decide +kernel))
theorem w_1044 : Cond.methodLink "WinProofsLaw" (39 : Nat) ({ cls := "WinProofsModel", name := "when", desc := "(IIII)I" } : MethodName) ∈ lw_tbl := List.mem_append_right _ (List.mem_of_getElem? (i := 1044) (by decide +kernel))
theorem w_1045 : Cond.instanceMethod ({ cls := "WinProofsModel", name := "when", desc := "(IIII)I" } : MethodName) ∈ lw_tbl := List.mem_append_right _ (List.mem_of_getElem? (i := 1045) (by decide +kernel))
theorem w_1046 : Cond.selects "WinProofsModel" ({ cls := "WinProofsModel", name := "when", desc := "(IIII)I" } : MethodName) ({ cls := "WinProofsModel", name := "when", desc := "(IIII)I" } : MethodName) ∈ lw_tbl := List.mem_append_right _ (List.mem_of_getElem? (i := 1046) (by decide +kernel))
theorem w_1060 : Cond.methodLink "WinProofsLaw" (49 : Nat) ({ cls := "WinProofsModel", name := "aim", desc := "(III)I" } : MethodName) ∈ lw_tbl := List.mem_append_right _ (List.mem_of_getElem? (i := 1060) (by decide +kernel))
theorem w_1061 : Cond.instanceMethod ({ cls := "WinProofsModel", name := "aim", desc := "(III)I" } : MethodName) ∈ lw_tbl := List.mem_append_right _ (List.mem_of_getElem? (i := 1061) (by decide +kernel))
theorem w_1062 : Cond.selects "WinProofsModel" ({ cls := "WinProofsModel", name := "aim", desc := "(III)I" } : MethodName) ({ cls := "WinProofsModel", name := "aim", desc := "(III)I" } : MethodName) ∈ lw_tbl := List.mem_append_right _ (List.mem_of_getElem? (i := 1062) (by decide +kernel))
theorem w_1064 : Cond.methodLink "WinProofsLaw" (53 : Nat) ({ cls := "WinProofsModel", name := "aimless", desc := "()I" } : MethodName) ∈ lw_tbl := List.mem_append_right _ (List.mem_of_getElem? (i := 1064) (by decide +kernel))
theorem w_1065 : Cond.instanceMethod ({ cls := "WinProofsModel", name := "aimless", desc := "()I" } : MethodName) ∈ lw_tbl := List.mem_append_right _ (List.mem_of_getElem? (i := 1065) (by decide +kernel))
theorem w_1066 : Cond.selects "WinProofsModel" ({ cls := "WinProofsModel", name := "aimless", desc := "()I" } : MethodName) ({ cls := "WinProofsModel", name := "aimless", desc := "()I" } : MethodName) ∈ lw_tbl := List.mem_append_right _ (List.mem_of_getElem? (i := 1066) (by decide +kernel))
theorem w_1068 : Cond.methodLink "WinProofsLaw" (44 : Nat) ({ cls := "WinProofsModel", name := "effect", desc := "(IIIII)I" } : MethodName) ∈ lw_tbl := List.mem_append_right _ (List.mem_of_getElem? (i := 1068) (by decide +kernel))
theorem w_1069 : Cond.instanceMethod ({ cls := "WinProofsModel", name := "effect", desc := "(IIIII)I" } : MethodName) ∈ lw_tbl := List.mem_append_right _ (List.mem_of_getElem? (i := 1069) (by decide +kernel))
theorem w_1070 : Cond.selects "WinProofsModel" ({ cls := "WinProofsModel", name := "effect", desc := "(IIIII)I" } : MethodName) ({ cls := "WinProofsModel", name := "effect", desc := "(IIIII)I" } : MethodName) ∈ lw_tbl := List.mem_append_right _ (List.mem_of_getElem? (i := 1070) (by decide +kernel))
theorem w_1072 : Cond.methodLink "WinProofsLaw" (57 : Nat) ({ cls := "WinProofsModel", name := "unact", desc := "()I" } : MethodName) ∈ lw_tbl := List.mem_append_right _ (List.mem_of_getElem? (i := 1072) (by decide +kernel))
theorem w_1073 : Cond.instanceMethod ({ cls := "WinProofsModel", name := "unact", desc := "()I" } : MethodName) ∈ lw_tbl := List.mem_append_right _ (List.mem_of_getElem? (i := 1073) (by decide +kernel))
theorem w_1074 : Cond.selects "WinProofsModel" ({ cls := "WinProofsModel", name := "unact", desc := "()I" } : MethodName) ({ cls := "WinProofsModel", name := "unact", desc := "()I" } : MethodName) ∈ lw_tbl := List.mem_append_right _ (List.mem_of_getElem? (i := 1074) (by decide +kernel))
theorem w_1076 : Cond.methodLink "WinProofsLaw" (99 : Nat) ({ cls := "WinProofsModel", name := "cover", desc := "()I" } : MethodName) ∈ lw_tbl := List.mem_append_right _ (List.mem_of_getElem? (i := 1076) (by decide +kernel))
theorem w_1077 : Cond.instanceMethod ({ cls := "WinProofsModel", name := "cover", desc := "()I" } : MethodName) ∈ lw_tbl := List.mem_append_right _ (List.mem_of_getElem? (i := 1077) (by decide +kernel))
theorem w_1078 : Cond.selects "WinProofsModel" ({ cls := "WinProofsModel", name := "cover", desc := "()I" } : MethodName) ({ cls := "WinProofsModel", name := "cover", desc := "()I" } : MethodName) ∈ lw_tbl := List.mem_append_right _ (List.mem_of_getElem? (i := 1078) (by decide +kernel))
theorem w_1080 : Cond.methodLink "WinProofsLaw" (103 : Nat) ({ cls := "WinProofsModel", name := "part", desc := "(IIII)I" } : MethodName) ∈ lw_tbl := List.mem_append_right _ (List.mem_of_getElem? (i := 1080) (by decide +kernel))
theorem w_1081 : Cond.instanceMethod ({ cls := "WinProofsModel", name := "part", desc := "(IIII)I" } : MethodName) ∈ lw_tbl := List.mem_append_right _ (List.mem_of_getElem? (i := 1081) (by decide +kernel))
theorem w_1082 : Cond.selects "WinProofsModel" ({ cls := "WinProofsModel", name := "part", desc := "(IIII)I" } : MethodName) ({ cls := "WinProofsModel", name := "part", desc := "(IIII)I" } : MethodName) ∈ lw_tbl := List.mem_append_right _ (List.mem_of_getElem? (i := 1082) (by decide +kernel))
theorem w_1084 : Cond.methodLink "WinProofsLaw" (107 : Nat) ({ cls := "WinProofsModel", name := "bare", desc := "()I" } : MethodName) ∈ lw_tbl := List.mem_append_right _ (List.mem_of_getElem? (i := 1084) (by decide +kernel))
theorem w_1085 : Cond.instanceMethod ({ cls := "WinProofsModel", name := "bare", desc := "()I" } : MethodName) ∈ lw_tbl := List.mem_append_right _ (List.mem_of_getElem? (i := 1085) (by decide +kernel))
theorem w_1086 : Cond.selects "WinProofsModel" ({ cls := "WinProofsModel", name := "bare", desc := "()I" } : MethodName) ({ cls := "WinProofsModel", name := "bare", desc := "()I" } : MethodName) ∈ lw_tbl := List.mem_append_right _ (List.mem_of_getElem? (i := 1086) (by decide +kernel))
theorem w_1088 : Cond.methodLink "WinProofsLaw" (61 : Nat) ({ cls := "WinProofsModel", name := "leads", desc := "(III)I" } : MethodName) ∈ lw_tbl := List.mem_append_right _ (List.mem_of_getElem? (i := 1088) (by decide +kernel))
theorem w_1089 : Cond.instanceMethod ({ cls := "WinProofsModel", name := "leads", desc := "(III)I" } : MethodName) ∈ lw_tbl := List.mem_append_right _ (List.mem_of_getElem? (i := 1089) (by decide +kernel))
theorem w_1090 : Cond.selects "WinProofsModel" ({ cls := "WinProofsModel", name := "leads", desc := "(III)I" } : MethodName) ({ cls := "WinProofsModel", name := "leads", desc := "(III)I" } : MethodName) ∈ lw_tbl := List.mem_append_right _ (List.mem_of_getElem? (i := 1090) (by decide +kernel))
theorem w_1108 : Cond.methodLink "WinProofsLaw" (65 : Nat) ({ cls := "WinProofsModel", name := "count", desc := "(I)I" } : MethodName) ∈ lw_tbl := List.mem_append_right _ (List.mem_of_getElem? (i := 1108) (by decide +kernel))
theorem w_1109 : Cond.instanceMethod ({ cls := "WinProofsModel", name := "count", desc := "(I)I" } : MethodName) ∈ lw_tbl := List.mem_append_right _ (List.mem_of_getElem? (i := 1109) (by decide +kernel))
theorem w_1110 : Cond.selects "WinProofsModel" ({ cls := "WinProofsModel", name := "count", desc := "(I)I" } : MethodName) ({ cls := "WinProofsModel", name := "count", desc := "(I)I" } : MethodName) ∈ lw_tbl := List.mem_append_right _ (List.mem_of_getElem? (i := 1110) (by decide +kernel))
theorem w_1161 : Cond.methodLink "WinProofsLaw" (70 : Nat) ({ cls := "WinProofsModel", name := "of", desc := "(II)I" } : MethodName) ∈ lw_tbl := List.mem_append_right _ (List.mem_of_getElem? (i := 1161) (by decide +kernel))
theorem w_1162 : Cond.instanceMethod ({ cls := "WinProofsModel", name := "of", desc := "(II)I" } : MethodName) ∈ lw_tbl := List.mem_append_right _ (List.mem_of_getElem? (i := 1162) (by decide +kernel))
theorem w_1163 : Cond.selects "WinProofsModel" ({ cls := "WinProofsModel", name := "of", desc := "(II)I" } : MethodName) ({ cls := "WinProofsModel", name := "of", desc := "(II)I" } : MethodName) ∈ lw_tbl := List.mem_append_right _ (List.mem_of_getElem? (i := 1163) (by decide +kernel))
theorem w_1165 : Cond.methodLink "WinProofsLaw" (74 : Nat) ({ cls := "WinProofsModel", name := "best", desc := "(II)I" } : MethodName) ∈ lw_tbl := List.mem_append_right _ (List.mem_of_getElem? (i := 1165) (by decide +kernel))
theorem w_1166 : Cond.instanceMethod ({ cls := "WinProofsModel", name := "best", desc := "(II)I" } : MethodName) ∈ lw_tbl := List.mem_append_right _ (List.mem_of_getElem? (i := 1166) (by decide +kernel))
theorem w_1167 : Cond.selects "WinProofsModel" ({ cls := "WinProofsModel", name := "best", desc := "(II)I" } : MethodName) ({ cls := "WinProofsModel", name := "best", desc := "(II)I" } : MethodName) ∈ lw_tbl := List.mem_append_right _ (List.mem_of_getElem? (i := 1167) (by decide +kernel))
theorem w_1169 : Cond.methodLink "WinProofsLaw" (78 : Nat) ({ cls := "WinProofsModel", name := "play", desc := "(II)I" } : MethodName) ∈ lw_tbl := List.mem_append_right _ (List.mem_of_getElem? (i := 1169) (by decide +kernel))
theorem w_1170 : Cond.instanceMethod ({ cls := "WinProofsModel", name := "play", desc := "(II)I" } : MethodName) ∈ lw_tbl := List.mem_append_right _ (List.mem_of_getElem? (i := 1170) (by decide +kernel))
theorem w_1171 : Cond.selects "WinProofsModel" ({ cls := "WinProofsModel", name := "play", desc := "(II)I" } : MethodName) ({ cls := "WinProofsModel", name := "play", desc := "(II)I" } : MethodName) ∈ lw_tbl := List.mem_append_right _ (List.mem_of_getElem? (i := 1171) (by decide +kernel))
theorem w_1173 : Cond.methodLink "WinProofsLaw" (83 : Nat) ({ cls := "WinProofsModel", name := "plays", desc := "()J" } : MethodName) ∈ lw_tbl := List.mem_append_right _ (List.mem_of_getElem? (i := 1173) (by decide +kernel))
theorem w_1174 : Cond.instanceMethod ({ cls := "WinProofsModel", name := "plays", desc := "()J" } : MethodName) ∈ lw_tbl := List.mem_append_right _ (List.mem_of_getElem? (i := 1174) (by decide +kernel))
theorem w_1175 : Cond.selects "WinProofsModel" ({ cls := "WinProofsModel", name := "plays", desc := "()J" } : MethodName) ({ cls := "WinProofsModel", name := "plays", desc := "()J" } : MethodName) ∈ lw_tbl := List.mem_append_right _ (List.mem_of_getElem? (i := 1175) (by decide +kernel))
theorem w_1177 : Cond.methodLink "WinProofsLaw" (87 : Nat) ({ cls := "WinProofsModel", name := "needed", desc := "()I" } : MethodName) ∈ lw_tbl := List.mem_append_right _ (List.mem_of_getElem? (i := 1177) (by decide +kernel))
theorem w_1178 : Cond.instanceMethod ({ cls := "WinProofsModel", name := "needed", desc := "()I" } : MethodName) ∈ lw_tbl := List.mem_append_right _ (List.mem_of_getElem? (i := 1178) (by decide +kernel))
theorem w_1179 : Cond.selects "WinProofsModel" ({ cls := "WinProofsModel", name := "needed", desc := "()I" } : MethodName) ({ cls := "WinProofsModel", name := "needed", desc := "()I" } : MethodName) ∈ lw_tbl := List.mem_append_right _ (List.mem_of_getElem? (i := 1179) (by decide +kernel))
theorem w_1189 : Cond.methodLink "WinProofsLaw" (91 : Nat) ({ cls := "WinProofsModel", name := "fact", desc := "(II)I" } : MethodName) ∈ lw_tbl := List.mem_append_right _ (List.mem_of_getElem? (i := 1189) (by decide +kernel))
theorem w_1190 : Cond.instanceMethod ({ cls := "WinProofsModel", name := "fact", desc := "(II)I" } : MethodName) ∈ lw_tbl := List.mem_append_right _ (List.mem_of_getElem? (i := 1190) (by decide +kernel))
theorem w_1191 : Cond.selects "WinProofsModel" ({ cls := "WinProofsModel", name := "fact", desc := "(II)I" } : MethodName) ({ cls := "WinProofsModel", name := "fact", desc := "(II)I" } : MethodName) ∈ lw_tbl := List.mem_append_right _ (List.mem_of_getElem? (i := 1191) (by decide +kernel))
theorem w_1193 : Cond.methodLink "WinProofsLaw" (95 : Nat) ({ cls := "WinProofsModel", name := "values", desc := "(I)I" } : MethodName) ∈ lw_tbl := List.mem_append_right _ (List.mem_of_getElem? (i := 1193) (by decide +kernel))
theorem w_1194 : Cond.instanceMethod ({ cls := "WinProofsModel", name := "values", desc := "(I)I" } : MethodName) ∈ lw_tbl := List.mem_append_right _ (List.mem_of_getElem? (i := 1194) (by decide +kernel))
theorem w_1195 : Cond.selects "WinProofsModel" ({ cls := "WinProofsModel", name := "values", desc := "(I)I" } : MethodName) ({ cls := "WinProofsModel", name := "values", desc := "(I)I" } : MethodName) ∈ lw_tbl := List.mem_append_right _ (List.mem_of_getElem? (i := 1195) (by decide +kernel))
theorem w_1197 : Cond.methodLink "WinProofsLaw" (111 : Nat) ({ cls := "WinProofsModel", name := "flaw", desc := "(I)I" } : MethodName) ∈ lw_tbl := List.mem_append_right _ (List.mem_of_getElem? (i := 1197) (by decide +kernel))
theorem w_1198 : Cond.instanceMethod ({ cls := "WinProofsModel", name := "flaw", desc := "(I)I" } : MethodName) ∈ lw_tbl := List.mem_append_right _ (List.mem_of_getElem? (i := 1198) (by decide +kernel))
theorem w_1199 : Cond.selects "WinProofsModel" ({ cls := "WinProofsModel", name := "flaw", desc := "(I)I" } : MethodName) ({ cls := "WinProofsModel", name := "flaw", desc := "(I)I" } : MethodName) ∈ lw_tbl := List.mem_append_right _ (List.mem_of_getElem? (i := 1199) (by decide +kernel))
theorem d_La_law_0 : decode b_La_law 0 = .ok (.new 7, 3) := by decide +kernel
theorem d_La_law_3 : decode b_La_law 3 = .ok (.dup, 1) := by decide +kernel
theorem d_La_law_4 : decode b_La_law 4 = .ok (.invokespecial 9, 3) := by decide +kernel
theorem d_La_law_7 : decode b_La_law 7 = .ok (.astore_n 1, 1) := by decide +kernel
theorem d_La_law_8 : decode b_La_law 8 = .ok (.new 10, 3) := by decide +kernel
theorem d_La_law_11 : decode b_La_law 11 = .ok (.dup, 1) := by decide +kernel
theorem d_La_law_12 : decode b_La_law 12 = .ok (.invokespecial 12, 3) := by decide +kernel
theorem d_La_law_15 : decode b_La_law 15 = .ok (.astore_n 2, 1) := by decide +kernel
theorem d_La_law_16 : decode b_La_law 16 = .ok (.iconst 0, 1) := by decide +kernel
theorem d_La_law_17 : decode b_La_law 17 = .ok (.istore_n 3, 1) := by decide +kernel
theorem d_La_law_18 : decode b_La_law 18 = .ok (.iload_n 3, 1) := by decide +kernel
theorem d_La_law_19 : decode b_La_law 19 = .ok (.aload_n 0, 1) := by decide +kernel
theorem d_La_law_20 : decode b_La_law 20 = .ok (.arraylength, 1) := by decide +kernel
theorem d_La_law_21 : decode b_La_law 21 = .ok (.bipush 6, 2) := by decide +kernel
theorem d_La_law_23 : decode b_La_law 23 = .ok (.isub, 1) := by decide +kernel
theorem d_La_law_24 : decode b_La_law 24 = .ok (.if_icmp .gt 752, 3) := by decide +kernel
theorem d_La_law_27 : decode b_La_law 27 = .ok (.aload_n 0, 1) := by decide +kernel
theorem d_La_law_28 : decode b_La_law 28 = .ok (.iload_n 3, 1) := by decide +kernel
theorem d_La_law_29 : decode b_La_law 29 = .ok (.iaload, 1) := by decide +kernel
theorem d_La_law_30 : decode b_La_law 30 = .ok (.bipush 31, 2) := by decide +kernel
theorem d_La_law_32 : decode b_La_law 32 = .ok (.iand, 1) := by decide +kernel
theorem d_La_law_33 : decode b_La_law 33 = .ok (.tableswitch 737 0 22 #[107, 120, 143, 166, 179, 202, 255, 318, 361, 374, 387, 430, 453, 486, 519, 552, 566, 579, 612, 635, 648, 701, 714], 107) := by decide +kernel
theorem d_La_law_140 : decode b_La_law 140 = .ok (.aload_n 1, 1) := by decide +kernel
theorem d_La_law_141 : decode b_La_law 141 = .ok (.invokevirtual 13, 3) := by decide +kernel
theorem d_La_law_144 : decode b_La_law 144 = .ok (.aload_n 2, 1) := by decide +kernel
theorem d_La_law_145 : decode b_La_law 145 = .ok (.invokevirtual 17, 3) := by decide +kernel
theorem d_La_law_148 : decode b_La_law 148 = .ok (.if_icmp .eq 622, 3) := by decide +kernel
theorem d_La_law_151 : decode b_La_law 151 = .ok (.iconst 0, 1) := by decide +kernel
theorem d_La_law_152 : decode b_La_law 152 = .ok (.ireturn, 1) := by decide +kernel
theorem d_La_law_153 : decode b_La_law 153 = .ok (.aload_n 1, 1) := by decide +kernel
theorem d_La_law_154 : decode b_La_law 154 = .ok (.aload_n 0, 1) := by decide +kernel
theorem d_La_law_155 : decode b_La_law 155 = .ok (.iload_n 3, 1) := by decide +kernel
theorem d_La_law_156 : decode b_La_law 156 = .ok (.iconst 1, 1) := by decide +kernel
theorem d_La_law_157 : decode b_La_law 157 = .ok (.iadd, 1) := by decide +kernel
theorem d_La_law_158 : decode b_La_law 158 = .ok (.iaload, 1) := by decide +kernel
theorem d_La_law_159 : decode b_La_law 159 = .ok (.invokevirtual 18, 3) := by decide +kernel
theorem d_La_law_162 : decode b_La_law 162 = .ok (.aload_n 2, 1) := by decide +kernel
theorem d_La_law_163 : decode b_La_law 163 = .ok (.aload_n 0, 1) := by decide +kernel
theorem d_La_law_164 : decode b_La_law 164 = .ok (.iload_n 3, 1) := by decide +kernel
theorem d_La_law_165 : decode b_La_law 165 = .ok (.iconst 1, 1) := by decide +kernel
theorem d_La_law_166 : decode b_La_law 166 = .ok (.iadd, 1) := by decide +kernel
theorem d_La_law_167 : decode b_La_law 167 = .ok (.iaload, 1) := by decide +kernel
theorem d_La_law_168 : decode b_La_law 168 = .ok (.invokevirtual 22, 3) := by decide +kernel
theorem d_La_law_171 : decode b_La_law 171 = .ok (.if_icmp .eq 599, 3) := by decide +kernel
theorem d_La_law_174 : decode b_La_law 174 = .ok (.iconst 0, 1) := by decide +kernel
theorem d_La_law_175 : decode b_La_law 175 = .ok (.ireturn, 1) := by decide +kernel
theorem d_La_law_176 : decode b_La_law 176 = .ok (.aload_n 1, 1) := by decide +kernel
theorem d_La_law_177 : decode b_La_law 177 = .ok (.aload_n 0, 1) := by decide +kernel
theorem d_La_law_178 : decode b_La_law 178 = .ok (.iload_n 3, 1) := by decide +kernel
theorem d_La_law_179 : decode b_La_law 179 = .ok (.iconst 1, 1) := by decide +kernel
theorem d_La_law_180 : decode b_La_law 180 = .ok (.iadd, 1) := by decide +kernel
theorem d_La_law_181 : decode b_La_law 181 = .ok (.iaload, 1) := by decide +kernel
theorem d_La_law_182 : decode b_La_law 182 = .ok (.invokevirtual 23, 3) := by decide +kernel
theorem d_La_law_185 : decode b_La_law 185 = .ok (.aload_n 2, 1) := by decide +kernel
theorem d_La_law_186 : decode b_La_law 186 = .ok (.aload_n 0, 1) := by decide +kernel
theorem d_La_law_187 : decode b_La_law 187 = .ok (.iload_n 3, 1) := by decide +kernel
theorem d_La_law_188 : decode b_La_law 188 = .ok (.iconst 1, 1) := by decide +kernel
theorem d_La_law_189 : decode b_La_law 189 = .ok (.iadd, 1) := by decide +kernel
theorem d_La_law_190 : decode b_La_law 190 = .ok (.iaload, 1) := by decide +kernel
theorem d_La_law_191 : decode b_La_law 191 = .ok (.invokevirtual 26, 3) := by decide +kernel
theorem d_La_law_194 : decode b_La_law 194 = .ok (.if_icmp .eq 576, 3) := by decide +kernel
theorem d_La_law_197 : decode b_La_law 197 = .ok (.iconst 0, 1) := by decide +kernel
theorem d_La_law_198 : decode b_La_law 198 = .ok (.ireturn, 1) := by decide +kernel
theorem d_La_law_199 : decode b_La_law 199 = .ok (.aload_n 1, 1) := by decide +kernel
theorem d_La_law_200 : decode b_La_law 200 = .ok (.invokevirtual 27, 3) := by decide +kernel
theorem d_La_law_203 : decode b_La_law 203 = .ok (.aload_n 2, 1) := by decide +kernel
theorem d_La_law_204 : decode b_La_law 204 = .ok (.invokevirtual 30, 3) := by decide +kernel
theorem d_La_law_207 : decode b_La_law 207 = .ok (.if_icmp .eq 563, 3) := by decide +kernel
theorem d_La_law_210 : decode b_La_law 210 = .ok (.iconst 0, 1) := by decide +kernel
theorem d_La_law_211 : decode b_La_law 211 = .ok (.ireturn, 1) := by decide +kernel
theorem d_La_law_212 : decode b_La_law 212 = .ok (.aload_n 1, 1) := by decide +kernel
theorem d_La_law_213 : decode b_La_law 213 = .ok (.aload_n 0, 1) := by decide +kernel
theorem d_La_law_214 : decode b_La_law 214 = .ok (.iload_n 3, 1) := by decide +kernel
theorem d_La_law_215 : decode b_La_law 215 = .ok (.iconst 1, 1) := by decide +kernel
theorem d_La_law_216 : decode b_La_law 216 = .ok (.iadd, 1) := by decide +kernel
theorem d_La_law_217 : decode b_La_law 217 = .ok (.iaload, 1) := by decide +kernel
theorem d_La_law_218 : decode b_La_law 218 = .ok (.invokevirtual 31, 3) := by decide +kernel
theorem d_La_law_221 : decode b_La_law 221 = .ok (.aload_n 2, 1) := by decide +kernel
theorem d_La_law_222 : decode b_La_law 222 = .ok (.aload_n 0, 1) := by decide +kernel
theorem d_La_law_223 : decode b_La_law 223 = .ok (.iload_n 3, 1) := by decide +kernel
theorem d_La_law_224 : decode b_La_law 224 = .ok (.iconst 1, 1) := by decide +kernel
theorem d_La_law_225 : decode b_La_law 225 = .ok (.iadd, 1) := by decide +kernel
theorem d_La_law_226 : decode b_La_law 226 = .ok (.iaload, 1) := by decide +kernel
theorem d_La_law_227 : decode b_La_law 227 = .ok (.invokevirtual 34, 3) := by decide +kernel
theorem d_La_law_230 : decode b_La_law 230 = .ok (.if_icmp .eq 540, 3) := by decide +kernel
theorem d_La_law_233 : decode b_La_law 233 = .ok (.iconst 0, 1) := by decide +kernel
theorem d_La_law_234 : decode b_La_law 234 = .ok (.ireturn, 1) := by decide +kernel
theorem d_La_law_235 : decode b_La_law 235 = .ok (.aload_n 1, 1) := by decide +kernel
theorem d_La_law_236 : decode b_La_law 236 = .ok (.aload_n 0, 1) := by decide +kernel
theorem d_La_law_237 : decode b_La_law 237 = .ok (.iload_n 3, 1) := by decide +kernel
theorem d_La_law_238 : decode b_La_law 238 = .ok (.iconst 1, 1) := by decide +kernel
theorem d_La_law_239 : decode b_La_law 239 = .ok (.iadd, 1) := by decide +kernel
theorem d_La_law_240 : decode b_La_law 240 = .ok (.iaload, 1) := by decide +kernel
theorem d_La_law_241 : decode b_La_law 241 = .ok (.aload_n 0, 1) := by decide +kernel
theorem d_La_law_242 : decode b_La_law 242 = .ok (.iload_n 3, 1) := by decide +kernel
theorem d_La_law_243 : decode b_La_law 243 = .ok (.iconst 2, 1) := by decide +kernel
theorem d_La_law_244 : decode b_La_law 244 = .ok (.iadd, 1) := by decide +kernel
theorem d_La_law_245 : decode b_La_law 245 = .ok (.iaload, 1) := by decide +kernel
theorem d_La_law_246 : decode b_La_law 246 = .ok (.aload_n 0, 1) := by decide +kernel
theorem d_La_law_247 : decode b_La_law 247 = .ok (.iload_n 3, 1) := by decide +kernel
theorem d_La_law_248 : decode b_La_law 248 = .ok (.iconst 3, 1) := by decide +kernel
theorem d_La_law_249 : decode b_La_law 249 = .ok (.iadd, 1) := by decide +kernel
theorem d_La_law_250 : decode b_La_law 250 = .ok (.iaload, 1) := by decide +kernel
theorem d_La_law_251 : decode b_La_law 251 = .ok (.aload_n 0, 1) := by decide +kernel
theorem d_La_law_252 : decode b_La_law 252 = .ok (.iload_n 3, 1) := by decide +kernel
theorem d_La_law_253 : decode b_La_law 253 = .ok (.iconst 4, 1) := by decide +kernel
theorem d_La_law_254 : decode b_La_law 254 = .ok (.iadd, 1) := by decide +kernel
theorem d_La_law_255 : decode b_La_law 255 = .ok (.iaload, 1) := by decide +kernel
theorem d_La_law_256 : decode b_La_law 256 = .ok (.invokevirtual 35, 3) := by decide +kernel
theorem d_La_law_259 : decode b_La_law 259 = .ok (.aload_n 2, 1) := by decide +kernel
theorem d_La_law_260 : decode b_La_law 260 = .ok (.aload_n 0, 1) := by decide +kernel
theorem d_La_law_261 : decode b_La_law 261 = .ok (.iload_n 3, 1) := by decide +kernel
theorem d_La_law_262 : decode b_La_law 262 = .ok (.iconst 1, 1) := by decide +kernel
theorem d_La_law_263 : decode b_La_law 263 = .ok (.iadd, 1) := by decide +kernel
theorem d_La_law_264 : decode b_La_law 264 = .ok (.iaload, 1) := by decide +kernel
theorem d_La_law_265 : decode b_La_law 265 = .ok (.aload_n 0, 1) := by decide +kernel
theorem d_La_law_266 : decode b_La_law 266 = .ok (.iload_n 3, 1) := by decide +kernel
theorem d_La_law_267 : decode b_La_law 267 = .ok (.iconst 2, 1) := by decide +kernel
theorem d_La_law_268 : decode b_La_law 268 = .ok (.iadd, 1) := by decide +kernel
theorem d_La_law_269 : decode b_La_law 269 = .ok (.iaload, 1) := by decide +kernel
theorem d_La_law_270 : decode b_La_law 270 = .ok (.aload_n 0, 1) := by decide +kernel
theorem d_La_law_271 : decode b_La_law 271 = .ok (.iload_n 3, 1) := by decide +kernel
theorem d_La_law_272 : decode b_La_law 272 = .ok (.iconst 3, 1) := by decide +kernel
theorem d_La_law_273 : decode b_La_law 273 = .ok (.iadd, 1) := by decide +kernel
theorem d_La_law_274 : decode b_La_law 274 = .ok (.iaload, 1) := by decide +kernel
theorem d_La_law_275 : decode b_La_law 275 = .ok (.aload_n 0, 1) := by decide +kernel
theorem d_La_law_276 : decode b_La_law 276 = .ok (.iload_n 3, 1) := by decide +kernel
theorem d_La_law_277 : decode b_La_law 277 = .ok (.iconst 4, 1) := by decide +kernel
theorem d_La_law_278 : decode b_La_law 278 = .ok (.iadd, 1) := by decide +kernel
theorem d_La_law_279 : decode b_La_law 279 = .ok (.iaload, 1) := by decide +kernel
theorem d_La_law_280 : decode b_La_law 280 = .ok (.invokevirtual 39, 3) := by decide +kernel
theorem d_La_law_283 : decode b_La_law 283 = .ok (.if_icmp .eq 487, 3) := by decide +kernel
theorem d_La_law_286 : decode b_La_law 286 = .ok (.iconst 0, 1) := by decide +kernel
theorem d_La_law_287 : decode b_La_law 287 = .ok (.ireturn, 1) := by decide +kernel
theorem d_La_law_288 : decode b_La_law 288 = .ok (.aload_n 1, 1) := by decide +kernel
theorem d_La_law_289 : decode b_La_law 289 = .ok (.aload_n 0, 1) := by decide +kernel
theorem d_La_law_290 : decode b_La_law 290 = .ok (.iload_n 3, 1) := by decide +kernel
theorem d_La_law_291 : decode b_La_law 291 = .ok (.iconst 1, 1) := by decide +kernel
theorem d_La_law_292 : decode b_La_law 292 = .ok (.iadd, 1) := by decide +kernel
theorem d_La_law_293 : decode b_La_law 293 = .ok (.iaload, 1) := by decide +kernel
theorem d_La_law_294 : decode b_La_law 294 = .ok (.aload_n 0, 1) := by decide +kernel
theorem d_La_law_295 : decode b_La_law 295 = .ok (.iload_n 3, 1) := by decide +kernel
theorem d_La_law_296 : decode b_La_law 296 = .ok (.iconst 2, 1) := by decide +kernel
theorem d_La_law_297 : decode b_La_law 297 = .ok (.iadd, 1) := by decide +kernel
theorem d_La_law_298 : decode b_La_law 298 = .ok (.iaload, 1) := by decide +kernel
theorem d_La_law_299 : decode b_La_law 299 = .ok (.aload_n 0, 1) := by decide +kernel
theorem d_La_law_300 : decode b_La_law 300 = .ok (.iload_n 3, 1) := by decide +kernel
theorem d_La_law_301 : decode b_La_law 301 = .ok (.iconst 3, 1) := by decide +kernel
theorem d_La_law_302 : decode b_La_law 302 = .ok (.iadd, 1) := by decide +kernel
theorem d_La_law_303 : decode b_La_law 303 = .ok (.iaload, 1) := by decide +kernel
theorem d_La_law_304 : decode b_La_law 304 = .ok (.aload_n 0, 1) := by decide +kernel
theorem d_La_law_305 : decode b_La_law 305 = .ok (.iload_n 3, 1) := by decide +kernel
theorem d_La_law_306 : decode b_La_law 306 = .ok (.iconst 4, 1) := by decide +kernel
theorem d_La_law_307 : decode b_La_law 307 = .ok (.iadd, 1) := by decide +kernel
theorem d_La_law_308 : decode b_La_law 308 = .ok (.iaload, 1) := by decide +kernel
theorem d_La_law_309 : decode b_La_law 309 = .ok (.aload_n 0, 1) := by decide +kernel
theorem d_La_law_310 : decode b_La_law 310 = .ok (.iload_n 3, 1) := by decide +kernel
theorem d_La_law_311 : decode b_La_law 311 = .ok (.iconst 5, 1) := by decide +kernel
theorem d_La_law_312 : decode b_La_law 312 = .ok (.iadd, 1) := by decide +kernel
theorem d_La_law_313 : decode b_La_law 313 = .ok (.iaload, 1) := by decide +kernel
theorem d_La_law_314 : decode b_La_law 314 = .ok (.invokevirtual 40, 3) := by decide +kernel
theorem d_La_law_317 : decode b_La_law 317 = .ok (.aload_n 2, 1) := by decide +kernel
theorem d_La_law_318 : decode b_La_law 318 = .ok (.aload_n 0, 1) := by decide +kernel
theorem d_La_law_319 : decode b_La_law 319 = .ok (.iload_n 3, 1) := by decide +kernel
theorem d_La_law_320 : decode b_La_law 320 = .ok (.iconst 1, 1) := by decide +kernel
theorem d_La_law_321 : decode b_La_law 321 = .ok (.iadd, 1) := by decide +kernel
theorem d_La_law_322 : decode b_La_law 322 = .ok (.iaload, 1) := by decide +kernel
theorem d_La_law_323 : decode b_La_law 323 = .ok (.aload_n 0, 1) := by decide +kernel
theorem d_La_law_324 : decode b_La_law 324 = .ok (.iload_n 3, 1) := by decide +kernel
theorem d_La_law_325 : decode b_La_law 325 = .ok (.iconst 2, 1) := by decide +kernel
theorem d_La_law_326 : decode b_La_law 326 = .ok (.iadd, 1) := by decide +kernel
theorem d_La_law_327 : decode b_La_law 327 = .ok (.iaload, 1) := by decide +kernel
theorem d_La_law_328 : decode b_La_law 328 = .ok (.aload_n 0, 1) := by decide +kernel
theorem d_La_law_329 : decode b_La_law 329 = .ok (.iload_n 3, 1) := by decide +kernel
theorem d_La_law_330 : decode b_La_law 330 = .ok (.iconst 3, 1) := by decide +kernel
theorem d_La_law_331 : decode b_La_law 331 = .ok (.iadd, 1) := by decide +kernel
theorem d_La_law_332 : decode b_La_law 332 = .ok (.iaload, 1) := by decide +kernel
theorem d_La_law_333 : decode b_La_law 333 = .ok (.aload_n 0, 1) := by decide +kernel
theorem d_La_law_334 : decode b_La_law 334 = .ok (.iload_n 3, 1) := by decide +kernel
theorem d_La_law_335 : decode b_La_law 335 = .ok (.iconst 4, 1) := by decide +kernel
theorem d_La_law_336 : decode b_La_law 336 = .ok (.iadd, 1) := by decide +kernel
theorem d_La_law_337 : decode b_La_law 337 = .ok (.iaload, 1) := by decide +kernel
theorem d_La_law_338 : decode b_La_law 338 = .ok (.aload_n 0, 1) := by decide +kernel
theorem d_La_law_339 : decode b_La_law 339 = .ok (.iload_n 3, 1) := by decide +kernel
theorem d_La_law_340 : decode b_La_law 340 = .ok (.iconst 5, 1) := by decide +kernel
theorem d_La_law_341 : decode b_La_law 341 = .ok (.iadd, 1) := by decide +kernel
theorem d_La_law_342 : decode b_La_law 342 = .ok (.iaload, 1) := by decide +kernel
theorem d_La_law_343 : decode b_La_law 343 = .ok (.invokevirtual 44, 3) := by decide +kernel
theorem d_La_law_346 : decode b_La_law 346 = .ok (.if_icmp .eq 424, 3) := by decide +kernel
theorem d_La_law_349 : decode b_La_law 349 = .ok (.iconst 0, 1) := by decide +kernel
theorem d_La_law_350 : decode b_La_law 350 = .ok (.ireturn, 1) := by decide +kernel
theorem d_La_law_351 : decode b_La_law 351 = .ok (.aload_n 1, 1) := by decide +kernel
theorem d_La_law_352 : decode b_La_law 352 = .ok (.aload_n 0, 1) := by decide +kernel
theorem d_La_law_353 : decode b_La_law 353 = .ok (.iload_n 3, 1) := by decide +kernel
theorem d_La_law_354 : decode b_La_law 354 = .ok (.iconst 1, 1) := by decide +kernel
theorem d_La_law_355 : decode b_La_law 355 = .ok (.iadd, 1) := by decide +kernel
theorem d_La_law_356 : decode b_La_law 356 = .ok (.iaload, 1) := by decide +kernel
theorem d_La_law_357 : decode b_La_law 357 = .ok (.aload_n 0, 1) := by decide +kernel
theorem d_La_law_358 : decode b_La_law 358 = .ok (.iload_n 3, 1) := by decide +kernel
theorem d_La_law_359 : decode b_La_law 359 = .ok (.iconst 2, 1) := by decide +kernel
theorem d_La_law_360 : decode b_La_law 360 = .ok (.iadd, 1) := by decide +kernel
theorem d_La_law_361 : decode b_La_law 361 = .ok (.iaload, 1) := by decide +kernel
theorem d_La_law_362 : decode b_La_law 362 = .ok (.aload_n 0, 1) := by decide +kernel
theorem d_La_law_363 : decode b_La_law 363 = .ok (.iload_n 3, 1) := by decide +kernel
theorem d_La_law_364 : decode b_La_law 364 = .ok (.iconst 3, 1) := by decide +kernel
theorem d_La_law_365 : decode b_La_law 365 = .ok (.iadd, 1) := by decide +kernel
theorem d_La_law_366 : decode b_La_law 366 = .ok (.iaload, 1) := by decide +kernel
theorem d_La_law_367 : decode b_La_law 367 = .ok (.invokevirtual 45, 3) := by decide +kernel
theorem d_La_law_370 : decode b_La_law 370 = .ok (.aload_n 2, 1) := by decide +kernel
theorem d_La_law_371 : decode b_La_law 371 = .ok (.aload_n 0, 1) := by decide +kernel
theorem d_La_law_372 : decode b_La_law 372 = .ok (.iload_n 3, 1) := by decide +kernel
theorem d_La_law_373 : decode b_La_law 373 = .ok (.iconst 1, 1) := by decide +kernel
theorem d_La_law_374 : decode b_La_law 374 = .ok (.iadd, 1) := by decide +kernel
theorem d_La_law_375 : decode b_La_law 375 = .ok (.iaload, 1) := by decide +kernel
theorem d_La_law_376 : decode b_La_law 376 = .ok (.aload_n 0, 1) := by decide +kernel
theorem d_La_law_377 : decode b_La_law 377 = .ok (.iload_n 3, 1) := by decide +kernel
theorem d_La_law_378 : decode b_La_law 378 = .ok (.iconst 2, 1) := by decide +kernel
theorem d_La_law_379 : decode b_La_law 379 = .ok (.iadd, 1) := by decide +kernel
theorem d_La_law_380 : decode b_La_law 380 = .ok (.iaload, 1) := by decide +kernel
theorem d_La_law_381 : decode b_La_law 381 = .ok (.aload_n 0, 1) := by decide +kernel
theorem d_La_law_382 : decode b_La_law 382 = .ok (.iload_n 3, 1) := by decide +kernel
theorem d_La_law_383 : decode b_La_law 383 = .ok (.iconst 3, 1) := by decide +kernel
theorem d_La_law_384 : decode b_La_law 384 = .ok (.iadd, 1) := by decide +kernel
theorem d_La_law_385 : decode b_La_law 385 = .ok (.iaload, 1) := by decide +kernel
theorem d_La_law_386 : decode b_La_law 386 = .ok (.invokevirtual 49, 3) := by decide +kernel
theorem d_La_law_389 : decode b_La_law 389 = .ok (.if_icmp .eq 381, 3) := by decide +kernel
theorem d_La_law_392 : decode b_La_law 392 = .ok (.iconst 0, 1) := by decide +kernel
theorem d_La_law_393 : decode b_La_law 393 = .ok (.ireturn, 1) := by decide +kernel
theorem d_La_law_394 : decode b_La_law 394 = .ok (.aload_n 1, 1) := by decide +kernel
theorem d_La_law_395 : decode b_La_law 395 = .ok (.invokevirtual 50, 3) := by decide +kernel
theorem d_La_law_398 : decode b_La_law 398 = .ok (.aload_n 2, 1) := by decide +kernel
theorem d_La_law_399 : decode b_La_law 399 = .ok (.invokevirtual 53, 3) := by decide +kernel
theorem d_La_law_402 : decode b_La_law 402 = .ok (.if_icmp .eq 368, 3) := by decide +kernel
theorem d_La_law_405 : decode b_La_law 405 = .ok (.iconst 0, 1) := by decide +kernel
theorem d_La_law_406 : decode b_La_law 406 = .ok (.ireturn, 1) := by decide +kernel
theorem d_La_law_407 : decode b_La_law 407 = .ok (.aload_n 1, 1) := by decide +kernel
theorem d_La_law_408 : decode b_La_law 408 = .ok (.invokevirtual 54, 3) := by decide +kernel
theorem d_La_law_411 : decode b_La_law 411 = .ok (.aload_n 2, 1) := by decide +kernel
theorem d_La_law_412 : decode b_La_law 412 = .ok (.invokevirtual 57, 3) := by decide +kernel
theorem d_La_law_415 : decode b_La_law 415 = .ok (.if_icmp .eq 355, 3) := by decide +kernel
theorem d_La_law_418 : decode b_La_law 418 = .ok (.iconst 0, 1) := by decide +kernel
theorem d_La_law_419 : decode b_La_law 419 = .ok (.ireturn, 1) := by decide +kernel
theorem d_La_law_420 : decode b_La_law 420 = .ok (.aload_n 1, 1) := by decide +kernel
theorem d_La_law_421 : decode b_La_law 421 = .ok (.aload_n 0, 1) := by decide +kernel
theorem d_La_law_422 : decode b_La_law 422 = .ok (.iload_n 3, 1) := by decide +kernel
theorem d_La_law_423 : decode b_La_law 423 = .ok (.iconst 1, 1) := by decide +kernel
theorem d_La_law_424 : decode b_La_law 424 = .ok (.iadd, 1) := by decide +kernel
theorem d_La_law_425 : decode b_La_law 425 = .ok (.iaload, 1) := by decide +kernel
theorem d_La_law_426 : decode b_La_law 426 = .ok (.aload_n 0, 1) := by decide +kernel
theorem d_La_law_427 : decode b_La_law 427 = .ok (.iload_n 3, 1) := by decide +kernel
theorem d_La_law_428 : decode b_La_law 428 = .ok (.iconst 2, 1) := by decide +kernel
theorem d_La_law_429 : decode b_La_law 429 = .ok (.iadd, 1) := by decide +kernel
theorem d_La_law_430 : decode b_La_law 430 = .ok (.iaload, 1) := by decide +kernel
theorem d_La_law_431 : decode b_La_law 431 = .ok (.aload_n 0, 1) := by decide +kernel
theorem d_La_law_432 : decode b_La_law 432 = .ok (.iload_n 3, 1) := by decide +kernel
theorem d_La_law_433 : decode b_La_law 433 = .ok (.iconst 3, 1) := by decide +kernel
theorem d_La_law_434 : decode b_La_law 434 = .ok (.iadd, 1) := by decide +kernel
theorem d_La_law_435 : decode b_La_law 435 = .ok (.iaload, 1) := by decide +kernel
theorem d_La_law_436 : decode b_La_law 436 = .ok (.invokevirtual 58, 3) := by decide +kernel
theorem d_La_law_439 : decode b_La_law 439 = .ok (.aload_n 2, 1) := by decide +kernel
theorem d_La_law_440 : decode b_La_law 440 = .ok (.aload_n 0, 1) := by decide +kernel
theorem d_La_law_441 : decode b_La_law 441 = .ok (.iload_n 3, 1) := by decide +kernel
theorem d_La_law_442 : decode b_La_law 442 = .ok (.iconst 1, 1) := by decide +kernel
theorem d_La_law_443 : decode b_La_law 443 = .ok (.iadd, 1) := by decide +kernel
theorem d_La_law_444 : decode b_La_law 444 = .ok (.iaload, 1) := by decide +kernel
theorem d_La_law_445 : decode b_La_law 445 = .ok (.aload_n 0, 1) := by decide +kernel
theorem d_La_law_446 : decode b_La_law 446 = .ok (.iload_n 3, 1) := by decide +kernel
theorem d_La_law_447 : decode b_La_law 447 = .ok (.iconst 2, 1) := by decide +kernel
theorem d_La_law_448 : decode b_La_law 448 = .ok (.iadd, 1) := by decide +kernel
theorem d_La_law_449 : decode b_La_law 449 = .ok (.iaload, 1) := by decide +kernel
theorem d_La_law_450 : decode b_La_law 450 = .ok (.aload_n 0, 1) := by decide +kernel
theorem d_La_law_451 : decode b_La_law 451 = .ok (.iload_n 3, 1) := by decide +kernel
theorem d_La_law_452 : decode b_La_law 452 = .ok (.iconst 3, 1) := by decide +kernel
theorem d_La_law_453 : decode b_La_law 453 = .ok (.iadd, 1) := by decide +kernel
theorem d_La_law_454 : decode b_La_law 454 = .ok (.iaload, 1) := by decide +kernel
theorem d_La_law_455 : decode b_La_law 455 = .ok (.invokevirtual 61, 3) := by decide +kernel
theorem d_La_law_458 : decode b_La_law 458 = .ok (.if_icmp .eq 312, 3) := by decide +kernel
theorem d_La_law_461 : decode b_La_law 461 = .ok (.iconst 0, 1) := by decide +kernel
theorem d_La_law_462 : decode b_La_law 462 = .ok (.ireturn, 1) := by decide +kernel
theorem d_La_law_463 : decode b_La_law 463 = .ok (.aload_n 1, 1) := by decide +kernel
theorem d_La_law_464 : decode b_La_law 464 = .ok (.aload_n 0, 1) := by decide +kernel
theorem d_La_law_465 : decode b_La_law 465 = .ok (.iload_n 3, 1) := by decide +kernel
theorem d_La_law_466 : decode b_La_law 466 = .ok (.iconst 1, 1) := by decide +kernel
theorem d_La_law_467 : decode b_La_law 467 = .ok (.iadd, 1) := by decide +kernel
theorem d_La_law_468 : decode b_La_law 468 = .ok (.iaload, 1) := by decide +kernel
theorem d_La_law_469 : decode b_La_law 469 = .ok (.invokevirtual 62, 3) := by decide +kernel
theorem d_La_law_472 : decode b_La_law 472 = .ok (.aload_n 2, 1) := by decide +kernel
theorem d_La_law_473 : decode b_La_law 473 = .ok (.aload_n 0, 1) := by decide +kernel
theorem d_La_law_474 : decode b_La_law 474 = .ok (.iload_n 3, 1) := by decide +kernel
theorem d_La_law_475 : decode b_La_law 475 = .ok (.iconst 1, 1) := by decide +kernel
theorem d_La_law_476 : decode b_La_law 476 = .ok (.iadd, 1) := by decide +kernel
theorem d_La_law_477 : decode b_La_law 477 = .ok (.iaload, 1) := by decide +kernel
theorem d_La_law_478 : decode b_La_law 478 = .ok (.invokevirtual 65, 3) := by decide +kernel
theorem d_La_law_481 : decode b_La_law 481 = .ok (.if_icmp .eq 289, 3) := by decide +kernel
theorem d_La_law_484 : decode b_La_law 484 = .ok (.iconst 0, 1) := by decide +kernel
theorem d_La_law_485 : decode b_La_law 485 = .ok (.ireturn, 1) := by decide +kernel
theorem d_La_law_486 : decode b_La_law 486 = .ok (.aload_n 1, 1) := by decide +kernel
theorem d_La_law_487 : decode b_La_law 487 = .ok (.aload_n 0, 1) := by decide +kernel
theorem d_La_law_488 : decode b_La_law 488 = .ok (.iload_n 3, 1) := by decide +kernel
theorem d_La_law_489 : decode b_La_law 489 = .ok (.iconst 1, 1) := by decide +kernel
theorem d_La_law_490 : decode b_La_law 490 = .ok (.iadd, 1) := by decide +kernel
theorem d_La_law_491 : decode b_La_law 491 = .ok (.iaload, 1) := by decide +kernel
theorem d_La_law_492 : decode b_La_law 492 = .ok (.aload_n 0, 1) := by decide +kernel
theorem d_La_law_493 : decode b_La_law 493 = .ok (.iload_n 3, 1) := by decide +kernel
theorem d_La_law_494 : decode b_La_law 494 = .ok (.iconst 2, 1) := by decide +kernel
theorem d_La_law_495 : decode b_La_law 495 = .ok (.iadd, 1) := by decide +kernel
theorem d_La_law_496 : decode b_La_law 496 = .ok (.iaload, 1) := by decide +kernel
theorem d_La_law_497 : decode b_La_law 497 = .ok (.invokevirtual 66, 3) := by decide +kernel
theorem d_La_law_500 : decode b_La_law 500 = .ok (.aload_n 2, 1) := by decide +kernel
theorem d_La_law_501 : decode b_La_law 501 = .ok (.aload_n 0, 1) := by decide +kernel
theorem d_La_law_502 : decode b_La_law 502 = .ok (.iload_n 3, 1) := by decide +kernel
theorem d_La_law_503 : decode b_La_law 503 = .ok (.iconst 1, 1) := by decide +kernel
theorem d_La_law_504 : decode b_La_law 504 = .ok (.iadd, 1) := by decide +kernel
theorem d_La_law_505 : decode b_La_law 505 = .ok (.iaload, 1) := by decide +kernel
theorem d_La_law_506 : decode b_La_law 506 = .ok (.aload_n 0, 1) := by decide +kernel
theorem d_La_law_507 : decode b_La_law 507 = .ok (.iload_n 3, 1) := by decide +kernel
theorem d_La_law_508 : decode b_La_law 508 = .ok (.iconst 2, 1) := by decide +kernel
theorem d_La_law_509 : decode b_La_law 509 = .ok (.iadd, 1) := by decide +kernel
theorem d_La_law_510 : decode b_La_law 510 = .ok (.iaload, 1) := by decide +kernel
theorem d_La_law_511 : decode b_La_law 511 = .ok (.invokevirtual 70, 3) := by decide +kernel
theorem d_La_law_514 : decode b_La_law 514 = .ok (.if_icmp .eq 256, 3) := by decide +kernel
theorem d_La_law_517 : decode b_La_law 517 = .ok (.iconst 0, 1) := by decide +kernel
theorem d_La_law_518 : decode b_La_law 518 = .ok (.ireturn, 1) := by decide +kernel
theorem d_La_law_519 : decode b_La_law 519 = .ok (.aload_n 1, 1) := by decide +kernel
theorem d_La_law_520 : decode b_La_law 520 = .ok (.aload_n 0, 1) := by decide +kernel
theorem d_La_law_521 : decode b_La_law 521 = .ok (.iload_n 3, 1) := by decide +kernel
theorem d_La_law_522 : decode b_La_law 522 = .ok (.iconst 1, 1) := by decide +kernel
theorem d_La_law_523 : decode b_La_law 523 = .ok (.iadd, 1) := by decide +kernel
theorem d_La_law_524 : decode b_La_law 524 = .ok (.iaload, 1) := by decide +kernel
theorem d_La_law_525 : decode b_La_law 525 = .ok (.aload_n 0, 1) := by decide +kernel
theorem d_La_law_526 : decode b_La_law 526 = .ok (.iload_n 3, 1) := by decide +kernel
theorem d_La_law_527 : decode b_La_law 527 = .ok (.iconst 2, 1) := by decide +kernel
theorem d_La_law_528 : decode b_La_law 528 = .ok (.iadd, 1) := by decide +kernel
theorem d_La_law_529 : decode b_La_law 529 = .ok (.iaload, 1) := by decide +kernel
theorem d_La_law_530 : decode b_La_law 530 = .ok (.invokevirtual 71, 3) := by decide +kernel
theorem d_La_law_533 : decode b_La_law 533 = .ok (.aload_n 2, 1) := by decide +kernel
theorem d_La_law_534 : decode b_La_law 534 = .ok (.aload_n 0, 1) := by decide +kernel
theorem d_La_law_535 : decode b_La_law 535 = .ok (.iload_n 3, 1) := by decide +kernel
theorem d_La_law_536 : decode b_La_law 536 = .ok (.iconst 1, 1) := by decide +kernel
theorem d_La_law_537 : decode b_La_law 537 = .ok (.iadd, 1) := by decide +kernel
theorem d_La_law_538 : decode b_La_law 538 = .ok (.iaload, 1) := by decide +kernel
theorem d_La_law_539 : decode b_La_law 539 = .ok (.aload_n 0, 1) := by decide +kernel
theorem d_La_law_540 : decode b_La_law 540 = .ok (.iload_n 3, 1) := by decide +kernel
theorem d_La_law_541 : decode b_La_law 541 = .ok (.iconst 2, 1) := by decide +kernel
theorem d_La_law_542 : decode b_La_law 542 = .ok (.iadd, 1) := by decide +kernel
theorem d_La_law_543 : decode b_La_law 543 = .ok (.iaload, 1) := by decide +kernel
theorem d_La_law_544 : decode b_La_law 544 = .ok (.invokevirtual 74, 3) := by decide +kernel
theorem d_La_law_547 : decode b_La_law 547 = .ok (.if_icmp .eq 223, 3) := by decide +kernel
theorem d_La_law_550 : decode b_La_law 550 = .ok (.iconst 0, 1) := by decide +kernel
theorem d_La_law_551 : decode b_La_law 551 = .ok (.ireturn, 1) := by decide +kernel
theorem d_La_law_552 : decode b_La_law 552 = .ok (.aload_n 1, 1) := by decide +kernel
theorem d_La_law_553 : decode b_La_law 553 = .ok (.aload_n 0, 1) := by decide +kernel
theorem d_La_law_554 : decode b_La_law 554 = .ok (.iload_n 3, 1) := by decide +kernel
theorem d_La_law_555 : decode b_La_law 555 = .ok (.iconst 1, 1) := by decide +kernel
theorem d_La_law_556 : decode b_La_law 556 = .ok (.iadd, 1) := by decide +kernel
theorem d_La_law_557 : decode b_La_law 557 = .ok (.iaload, 1) := by decide +kernel
theorem d_La_law_558 : decode b_La_law 558 = .ok (.aload_n 0, 1) := by decide +kernel
theorem d_La_law_559 : decode b_La_law 559 = .ok (.iload_n 3, 1) := by decide +kernel
theorem d_La_law_560 : decode b_La_law 560 = .ok (.iconst 2, 1) := by decide +kernel
theorem d_La_law_561 : decode b_La_law 561 = .ok (.iadd, 1) := by decide +kernel
theorem d_La_law_562 : decode b_La_law 562 = .ok (.iaload, 1) := by decide +kernel
theorem d_La_law_563 : decode b_La_law 563 = .ok (.invokevirtual 75, 3) := by decide +kernel
theorem d_La_law_566 : decode b_La_law 566 = .ok (.aload_n 2, 1) := by decide +kernel
theorem d_La_law_567 : decode b_La_law 567 = .ok (.aload_n 0, 1) := by decide +kernel
theorem d_La_law_568 : decode b_La_law 568 = .ok (.iload_n 3, 1) := by decide +kernel
theorem d_La_law_569 : decode b_La_law 569 = .ok (.iconst 1, 1) := by decide +kernel
theorem d_La_law_570 : decode b_La_law 570 = .ok (.iadd, 1) := by decide +kernel
theorem d_La_law_571 : decode b_La_law 571 = .ok (.iaload, 1) := by decide +kernel
theorem d_La_law_572 : decode b_La_law 572 = .ok (.aload_n 0, 1) := by decide +kernel
theorem d_La_law_573 : decode b_La_law 573 = .ok (.iload_n 3, 1) := by decide +kernel
theorem d_La_law_574 : decode b_La_law 574 = .ok (.iconst 2, 1) := by decide +kernel
theorem d_La_law_575 : decode b_La_law 575 = .ok (.iadd, 1) := by decide +kernel
theorem d_La_law_576 : decode b_La_law 576 = .ok (.iaload, 1) := by decide +kernel
theorem d_La_law_577 : decode b_La_law 577 = .ok (.invokevirtual 78, 3) := by decide +kernel
theorem d_La_law_580 : decode b_La_law 580 = .ok (.if_icmp .eq 190, 3) := by decide +kernel
theorem d_La_law_583 : decode b_La_law 583 = .ok (.iconst 0, 1) := by decide +kernel
theorem d_La_law_584 : decode b_La_law 584 = .ok (.ireturn, 1) := by decide +kernel
theorem d_La_law_585 : decode b_La_law 585 = .ok (.aload_n 1, 1) := by decide +kernel
theorem d_La_law_586 : decode b_La_law 586 = .ok (.invokevirtual 79, 3) := by decide +kernel
theorem d_La_law_589 : decode b_La_law 589 = .ok (.aload_n 2, 1) := by decide +kernel
theorem d_La_law_590 : decode b_La_law 590 = .ok (.invokevirtual 83, 3) := by decide +kernel
theorem d_La_law_593 : decode b_La_law 593 = .ok (.lcmp, 1) := by decide +kernel
theorem d_La_law_594 : decode b_La_law 594 = .ok (.ifCond .eq 176, 3) := by decide +kernel
theorem d_La_law_597 : decode b_La_law 597 = .ok (.iconst 0, 1) := by decide +kernel
theorem d_La_law_598 : decode b_La_law 598 = .ok (.ireturn, 1) := by decide +kernel
theorem d_La_law_599 : decode b_La_law 599 = .ok (.aload_n 1, 1) := by decide +kernel
theorem d_La_law_600 : decode b_La_law 600 = .ok (.invokevirtual 84, 3) := by decide +kernel
theorem d_La_law_603 : decode b_La_law 603 = .ok (.aload_n 2, 1) := by decide +kernel
theorem d_La_law_604 : decode b_La_law 604 = .ok (.invokevirtual 87, 3) := by decide +kernel
theorem d_La_law_607 : decode b_La_law 607 = .ok (.if_icmp .eq 163, 3) := by decide +kernel
theorem d_La_law_610 : decode b_La_law 610 = .ok (.iconst 0, 1) := by decide +kernel
theorem d_La_law_611 : decode b_La_law 611 = .ok (.ireturn, 1) := by decide +kernel
theorem d_La_law_612 : decode b_La_law 612 = .ok (.aload_n 1, 1) := by decide +kernel
theorem d_La_law_613 : decode b_La_law 613 = .ok (.aload_n 0, 1) := by decide +kernel
theorem d_La_law_614 : decode b_La_law 614 = .ok (.iload_n 3, 1) := by decide +kernel
theorem d_La_law_615 : decode b_La_law 615 = .ok (.iconst 1, 1) := by decide +kernel
theorem d_La_law_616 : decode b_La_law 616 = .ok (.iadd, 1) := by decide +kernel
theorem d_La_law_617 : decode b_La_law 617 = .ok (.iaload, 1) := by decide +kernel
theorem d_La_law_618 : decode b_La_law 618 = .ok (.aload_n 0, 1) := by decide +kernel
theorem d_La_law_619 : decode b_La_law 619 = .ok (.iload_n 3, 1) := by decide +kernel
theorem d_La_law_620 : decode b_La_law 620 = .ok (.iconst 2, 1) := by decide +kernel
theorem d_La_law_621 : decode b_La_law 621 = .ok (.iadd, 1) := by decide +kernel
theorem d_La_law_622 : decode b_La_law 622 = .ok (.iaload, 1) := by decide +kernel
theorem d_La_law_623 : decode b_La_law 623 = .ok (.invokevirtual 88, 3) := by decide +kernel
theorem d_La_law_626 : decode b_La_law 626 = .ok (.aload_n 2, 1) := by decide +kernel
theorem d_La_law_627 : decode b_La_law 627 = .ok (.aload_n 0, 1) := by decide +kernel
theorem d_La_law_628 : decode b_La_law 628 = .ok (.iload_n 3, 1) := by decide +kernel
theorem d_La_law_629 : decode b_La_law 629 = .ok (.iconst 1, 1) := by decide +kernel
theorem d_La_law_630 : decode b_La_law 630 = .ok (.iadd, 1) := by decide +kernel
theorem d_La_law_631 : decode b_La_law 631 = .ok (.iaload, 1) := by decide +kernel
theorem d_La_law_632 : decode b_La_law 632 = .ok (.aload_n 0, 1) := by decide +kernel
theorem d_La_law_633 : decode b_La_law 633 = .ok (.iload_n 3, 1) := by decide +kernel
theorem d_La_law_634 : decode b_La_law 634 = .ok (.iconst 2, 1) := by decide +kernel
theorem d_La_law_635 : decode b_La_law 635 = .ok (.iadd, 1) := by decide +kernel
theorem d_La_law_636 : decode b_La_law 636 = .ok (.iaload, 1) := by decide +kernel
theorem d_La_law_637 : decode b_La_law 637 = .ok (.invokevirtual 91, 3) := by decide +kernel
theorem d_La_law_640 : decode b_La_law 640 = .ok (.if_icmp .eq 130, 3) := by decide +kernel
theorem d_La_law_643 : decode b_La_law 643 = .ok (.iconst 0, 1) := by decide +kernel
theorem d_La_law_644 : decode b_La_law 644 = .ok (.ireturn, 1) := by decide +kernel
theorem d_La_law_645 : decode b_La_law 645 = .ok (.aload_n 1, 1) := by decide +kernel
theorem d_La_law_646 : decode b_La_law 646 = .ok (.aload_n 0, 1) := by decide +kernel
theorem d_La_law_647 : decode b_La_law 647 = .ok (.iload_n 3, 1) := by decide +kernel
theorem d_La_law_648 : decode b_La_law 648 = .ok (.iconst 1, 1) := by decide +kernel
theorem d_La_law_649 : decode b_La_law 649 = .ok (.iadd, 1) := by decide +kernel
theorem d_La_law_650 : decode b_La_law 650 = .ok (.iaload, 1) := by decide +kernel
theorem d_La_law_651 : decode b_La_law 651 = .ok (.invokevirtual 92, 3) := by decide +kernel
theorem d_La_law_654 : decode b_La_law 654 = .ok (.aload_n 2, 1) := by decide +kernel
theorem d_La_law_655 : decode b_La_law 655 = .ok (.aload_n 0, 1) := by decide +kernel
theorem d_La_law_656 : decode b_La_law 656 = .ok (.iload_n 3, 1) := by decide +kernel
theorem d_La_law_657 : decode b_La_law 657 = .ok (.iconst 1, 1) := by decide +kernel
theorem d_La_law_658 : decode b_La_law 658 = .ok (.iadd, 1) := by decide +kernel
theorem d_La_law_659 : decode b_La_law 659 = .ok (.iaload, 1) := by decide +kernel
theorem d_La_law_660 : decode b_La_law 660 = .ok (.invokevirtual 95, 3) := by decide +kernel
theorem d_La_law_663 : decode b_La_law 663 = .ok (.if_icmp .eq 107, 3) := by decide +kernel
theorem d_La_law_666 : decode b_La_law 666 = .ok (.iconst 0, 1) := by decide +kernel
theorem d_La_law_667 : decode b_La_law 667 = .ok (.ireturn, 1) := by decide +kernel
theorem d_La_law_668 : decode b_La_law 668 = .ok (.aload_n 1, 1) := by decide +kernel
theorem d_La_law_669 : decode b_La_law 669 = .ok (.invokevirtual 96, 3) := by decide +kernel
theorem d_La_law_672 : decode b_La_law 672 = .ok (.aload_n 2, 1) := by decide +kernel
theorem d_La_law_673 : decode b_La_law 673 = .ok (.invokevirtual 99, 3) := by decide +kernel
theorem d_La_law_676 : decode b_La_law 676 = .ok (.if_icmp .eq 94, 3) := by decide +kernel
theorem d_La_law_679 : decode b_La_law 679 = .ok (.iconst 0, 1) := by decide +kernel
theorem d_La_law_680 : decode b_La_law 680 = .ok (.ireturn, 1) := by decide +kernel
theorem d_La_law_681 : decode b_La_law 681 = .ok (.aload_n 1, 1) := by decide +kernel
theorem d_La_law_682 : decode b_La_law 682 = .ok (.aload_n 0, 1) := by decide +kernel
theorem d_La_law_683 : decode b_La_law 683 = .ok (.iload_n 3, 1) := by decide +kernel
theorem d_La_law_684 : decode b_La_law 684 = .ok (.iconst 1, 1) := by decide +kernel
theorem d_La_law_685 : decode b_La_law 685 = .ok (.iadd, 1) := by decide +kernel
theorem d_La_law_686 : decode b_La_law 686 = .ok (.iaload, 1) := by decide +kernel
theorem d_La_law_687 : decode b_La_law 687 = .ok (.aload_n 0, 1) := by decide +kernel
theorem d_La_law_688 : decode b_La_law 688 = .ok (.iload_n 3, 1) := by decide +kernel
theorem d_La_law_689 : decode b_La_law 689 = .ok (.iconst 2, 1) := by decide +kernel
theorem d_La_law_690 : decode b_La_law 690 = .ok (.iadd, 1) := by decide +kernel
theorem d_La_law_691 : decode b_La_law 691 = .ok (.iaload, 1) := by decide +kernel
theorem d_La_law_692 : decode b_La_law 692 = .ok (.aload_n 0, 1) := by decide +kernel
theorem d_La_law_693 : decode b_La_law 693 = .ok (.iload_n 3, 1) := by decide +kernel
theorem d_La_law_694 : decode b_La_law 694 = .ok (.iconst 3, 1) := by decide +kernel
theorem d_La_law_695 : decode b_La_law 695 = .ok (.iadd, 1) := by decide +kernel
theorem d_La_law_696 : decode b_La_law 696 = .ok (.iaload, 1) := by decide +kernel
theorem d_La_law_697 : decode b_La_law 697 = .ok (.aload_n 0, 1) := by decide +kernel
theorem d_La_law_698 : decode b_La_law 698 = .ok (.iload_n 3, 1) := by decide +kernel
theorem d_La_law_699 : decode b_La_law 699 = .ok (.iconst 4, 1) := by decide +kernel
theorem d_La_law_700 : decode b_La_law 700 = .ok (.iadd, 1) := by decide +kernel
theorem d_La_law_701 : decode b_La_law 701 = .ok (.iaload, 1) := by decide +kernel
theorem d_La_law_702 : decode b_La_law 702 = .ok (.invokevirtual 100, 3) := by decide +kernel
theorem d_La_law_705 : decode b_La_law 705 = .ok (.aload_n 2, 1) := by decide +kernel
theorem d_La_law_706 : decode b_La_law 706 = .ok (.aload_n 0, 1) := by decide +kernel
theorem d_La_law_707 : decode b_La_law 707 = .ok (.iload_n 3, 1) := by decide +kernel
theorem d_La_law_708 : decode b_La_law 708 = .ok (.iconst 1, 1) := by decide +kernel
theorem d_La_law_709 : decode b_La_law 709 = .ok (.iadd, 1) := by decide +kernel
theorem d_La_law_710 : decode b_La_law 710 = .ok (.iaload, 1) := by decide +kernel
theorem d_La_law_711 : decode b_La_law 711 = .ok (.aload_n 0, 1) := by decide +kernel
theorem d_La_law_712 : decode b_La_law 712 = .ok (.iload_n 3, 1) := by decide +kernel
theorem d_La_law_713 : decode b_La_law 713 = .ok (.iconst 2, 1) := by decide +kernel
theorem d_La_law_714 : decode b_La_law 714 = .ok (.iadd, 1) := by decide +kernel
theorem d_La_law_715 : decode b_La_law 715 = .ok (.iaload, 1) := by decide +kernel
theorem d_La_law_716 : decode b_La_law 716 = .ok (.aload_n 0, 1) := by decide +kernel
theorem d_La_law_717 : decode b_La_law 717 = .ok (.iload_n 3, 1) := by decide +kernel
theorem d_La_law_718 : decode b_La_law 718 = .ok (.iconst 3, 1) := by decide +kernel
theorem d_La_law_719 : decode b_La_law 719 = .ok (.iadd, 1) := by decide +kernel
theorem d_La_law_720 : decode b_La_law 720 = .ok (.iaload, 1) := by decide +kernel
theorem d_La_law_721 : decode b_La_law 721 = .ok (.aload_n 0, 1) := by decide +kernel
theorem d_La_law_722 : decode b_La_law 722 = .ok (.iload_n 3, 1) := by decide +kernel
theorem d_La_law_723 : decode b_La_law 723 = .ok (.iconst 4, 1) := by decide +kernel
theorem d_La_law_724 : decode b_La_law 724 = .ok (.iadd, 1) := by decide +kernel
theorem d_La_law_725 : decode b_La_law 725 = .ok (.iaload, 1) := by decide +kernel
theorem d_La_law_726 : decode b_La_law 726 = .ok (.invokevirtual 103, 3) := by decide +kernel
theorem d_La_law_729 : decode b_La_law 729 = .ok (.if_icmp .eq 41, 3) := by decide +kernel
theorem d_La_law_732 : decode b_La_law 732 = .ok (.iconst 0, 1) := by decide +kernel
theorem d_La_law_733 : decode b_La_law 733 = .ok (.ireturn, 1) := by decide +kernel
theorem d_La_law_734 : decode b_La_law 734 = .ok (.aload_n 1, 1) := by decide +kernel
theorem d_La_law_735 : decode b_La_law 735 = .ok (.invokevirtual 104, 3) := by decide +kernel
theorem d_La_law_738 : decode b_La_law 738 = .ok (.aload_n 2, 1) := by decide +kernel
theorem d_La_law_739 : decode b_La_law 739 = .ok (.invokevirtual 107, 3) := by decide +kernel
theorem d_La_law_742 : decode b_La_law 742 = .ok (.if_icmp .eq 28, 3) := by decide +kernel
theorem d_La_law_745 : decode b_La_law 745 = .ok (.iconst 0, 1) := by decide +kernel
theorem d_La_law_746 : decode b_La_law 746 = .ok (.ireturn, 1) := by decide +kernel
theorem d_La_law_747 : decode b_La_law 747 = .ok (.aload_n 1, 1) := by decide +kernel
theorem d_La_law_748 : decode b_La_law 748 = .ok (.aload_n 0, 1) := by decide +kernel
theorem d_La_law_749 : decode b_La_law 749 = .ok (.iload_n 3, 1) := by decide +kernel
theorem d_La_law_750 : decode b_La_law 750 = .ok (.iconst 1, 1) := by decide +kernel
theorem d_La_law_751 : decode b_La_law 751 = .ok (.iadd, 1) := by decide +kernel
theorem d_La_law_752 : decode b_La_law 752 = .ok (.iaload, 1) := by decide +kernel
theorem d_La_law_753 : decode b_La_law 753 = .ok (.invokevirtual 108, 3) := by decide +kernel
theorem d_La_law_756 : decode b_La_law 756 = .ok (.aload_n 2, 1) := by decide +kernel
theorem d_La_law_757 : decode b_La_law 757 = .ok (.aload_n 0, 1) := by decide +kernel
theorem d_La_law_758 : decode b_La_law 758 = .ok (.iload_n 3, 1) := by decide +kernel
theorem d_La_law_759 : decode b_La_law 759 = .ok (.iconst 1, 1) := by decide +kernel
theorem d_La_law_760 : decode b_La_law 760 = .ok (.iadd, 1) := by decide +kernel
theorem d_La_law_761 : decode b_La_law 761 = .ok (.iaload, 1) := by decide +kernel
theorem d_La_law_762 : decode b_La_law 762 = .ok (.invokevirtual 111, 3) := by decide +kernel
theorem d_La_law_765 : decode b_La_law 765 = .ok (.if_icmp .eq 5, 3) := by decide +kernel
theorem d_La_law_768 : decode b_La_law 768 = .ok (.iconst 0, 1) := by decide +kernel
theorem d_La_law_769 : decode b_La_law 769 = .ok (.ireturn, 1) := by decide +kernel
theorem d_La_law_770 : decode b_La_law 770 = .ok (.iinc 3 6, 3) := by decide +kernel
theorem d_La_law_773 : decode b_La_law 773 = .ok (.goto (-755), 3) := by decide +kernel
theorem d_La_law_776 : decode b_La_law 776 = .ok (.iconst 1, 1) := by decide +kernel
theorem d_La_law_777 : decode b_La_law 777 = .ok (.ireturn, 1) := by decide +kernel
/-- the script of L ints xs lies at b, outside of what is ours -/
def Scr (G : Gc) (M : Mc) (b L : Nat) (xs : Nat → Int32) : Prop := va_X b L xs (mS M) (mS M).heap ∧ b < gB G ∧ gB G ≤ (mS M).heap.size
section LA
variable {G : Gc} {M : Mc} {Q : State → Prop} {K : Option Value → Hp → Prop} {pc : Nat} {lv : List (Nat × Value)} {st : List Value} {h : Hp} {b L n v1 v2 : Nat} {xs : Nat → Int32} {Z : Hp → Prop}
theorem x_slen (hM : mok G M r_La_law Q K) (hs : Scr G M b L xs) (hd : decode (rB r_La_law) pc = .ok (.arraylength, 1)) (kk : X G M Q (pc + 1) lv (.int (nI L) :: st) h) : X G M Q pc lv (.ref b :: st) h := by
  intro a1 a2 a3 H locs ls hP hS hl
  exact va_slen (mx hM) (mb hM) hs.1 (by have := hs.2.1; have := hs.2.2; omega) (fun z => by have := hs.2.1; omega) hS hd (kk a1 a2 a3 H locs ls hP hS hl)
theorem x_sld (hM : mok G M r_La_law Q K) (hs : Scr G M b L xs) {i : Int32} {k : Nat} (ei : i = nI k) (hk : k < L ∧ L ≤ 3072) (hd : decode (rB r_La_law) pc = .ok (.iaload, 1)) (kk : X G M Q (pc + 1) lv (.int (xs k) :: st) h) : X G M Q pc lv (.int i :: .ref b :: st) h := by
  intro a1 a2 a3 H locs ls hP hS hl
  subst ei
  refine va_sld (mx hM) (mb hM) hs.1 (by have := hs.2.1; have := hs.2.2; omega) (fun z => by have := hs.2.1; omega) hS (in_nI hk.1 (by omega)) hd ?_
  rw [nI_clamp (by omega)]
  exact kk a1 a2 a3 H locs ls hP hS hl

set_option maxRecDepth 100000 in
theorem La_c0 (hG : gok G) (hM : mok G M r_La_law Q K) (hs : Scr G M b L xs) (hn : n + 6 ≤ L) (hL : L ≤ 3072) (ht : kT h v1 = 1) (F : sem G r_WP_clear [.ref v1] h (fun u h2 => ∃ x : Int32, u = some (.int x) ∧ (kT h2 v2 = 12 ∧ sem G r_Mo_clear [.ref v2] h2 (fun u h3 => ∃ y : Int32, u = some (.int y) ∧ (x = y ∧ Z h3))))) (kk : ∀ h3, Z h3 → X G M Q 770 [(0, .ref b), (1, .ref v1), (2, .ref v2), (3, .int (nI n))] [] h3) : X G M Q 140 [(0, .ref b), (1, .ref v1), (2, .ref v2), (3, .int (nI n))] [] h := by
  refine x_aload_n hM d_La_law_140 rfl 1 rfl ?_
  refine x_callV hG hM (r' := r_WP_clear) (ci := 0) [] rfl rfl (Nat.le_of_ble_eq_true rfl) yk_WP_clear ⟨Nat.le_of_ble_eq_true rfl, Nat.le_of_ble_eq_true rfl⟩ w_436 w_437 w_438 rfl rfl (Nat.le_of_ble_eq_true rfl) d_La_law_141 ht (sem_mono F ?_)
  rintro u h2 ⟨x, rfl, ht2, F⟩
  refine x_aload_n hM d_La_law_144 rfl 2 rfl ?_
  refine x_callV hG hM (r' := r_Mo_clear) (ci := 11) [] rfl rfl (Nat.le_of_ble_eq_true rfl) yk_Mo_clear ⟨Nat.le_of_ble_eq_true rfl, Nat.le_of_ble_eq_true rfl⟩ w_1009 w_1010 w_1011 rfl rfl (Nat.le_of_ble_eq_true rfl) d_La_law_145 ht2 (sem_mono F ?_)
  rintro u h3 ⟨y, rfl, exy, F⟩
  exact x_icmp_eq (tgt := 770) hM d_La_law_148 (by decide) (fun _ => kk h3 F) (fun z => absurd exy z)
set_option maxRecDepth 100000 in
theorem La_c1 (hG : gok G) (hM : mok G M r_La_law Q K) (hs : Scr G M b L xs) (hn : n + 6 ≤ L) (hL : L ≤ 3072) (ht : kT h v1 = 1) (F : sem G r_WP_thing [.ref v1, .int (xs (n + 1))] h (fun u h2 => ∃ x : Int32, u = some (.int x) ∧ (kT h2 v2 = 12 ∧ sem G r_Mo_thing [.ref v2, .int (xs (n + 1))] h2 (fun u h3 => ∃ y : Int32, u = some (.int y) ∧ (x = y ∧ Z h3))))) (kk : ∀ h3, Z h3 → X G M Q 770 [(0, .ref b), (1, .ref v1), (2, .ref v2), (3, .int (nI n))] [] h3) : X G M Q 153 [(0, .ref b), (1, .ref v1), (2, .ref v2), (3, .int (nI n))] [] h := by
  refine x_aload_n hM d_La_law_153 rfl 1 rfl ?_
  refine x_aload_n hM d_La_law_154 rfl 0 rfl ?_
  refine x_iload_n hM d_La_law_155 rfl 3 rfl ?_
  refine x_iconst (v := 1) hM d_La_law_156 (by decide) ?_
  refine x_iadd hM d_La_law_157 ?_
  refine x_sld hM hs (k := n + 1) (nI_ad n 1) (by omega) d_La_law_158 ?_
  refine x_callV hG hM (r' := r_WP_thing) (ci := 0) [.int (xs (n + 1))] rfl rfl (Nat.le_of_ble_eq_true rfl) yk_WP_thing ⟨Nat.le_of_ble_eq_true rfl, Nat.le_of_ble_eq_true rfl⟩ w_448 w_449 w_450 rfl rfl (Nat.le_of_ble_eq_true rfl) d_La_law_159 ht (sem_mono F ?_)
  rintro u h2 ⟨x, rfl, ht2, F⟩
  refine x_aload_n hM d_La_law_162 rfl 2 rfl ?_
  refine x_aload_n hM d_La_law_163 rfl 0 rfl ?_
  refine x_iload_n hM d_La_law_164 rfl 3 rfl ?_
  refine x_iconst (v := 1) hM d_La_law_165 (by decide) ?_
  refine x_iadd hM d_La_law_166 ?_
  refine x_sld hM hs (k := n + 1) (nI_ad n 1) (by omega) d_La_law_167 ?_
  refine x_callV hG hM (r' := r_Mo_thing) (ci := 11) [.int (xs (n + 1))] rfl rfl (Nat.le_of_ble_eq_true rfl) yk_Mo_thing ⟨Nat.le_of_ble_eq_true rfl, Nat.le_of_ble_eq_true rfl⟩ w_1013 w_1014 w_1015 rfl rfl (Nat.le_of_ble_eq_true rfl) d_La_law_168 ht2 (sem_mono F ?_)
  rintro u h3 ⟨y, rfl, exy, F⟩
  exact x_icmp_eq (tgt := 770) hM d_La_law_171 (by decide) (fun _ => kk h3 F) (fun z => absurd exy z)
set_option maxRecDepth 100000 in
theorem La_c2 (hG : gok G) (hM : mok G M r_La_law Q K) (hs : Scr G M b L xs) (hn : n + 6 ≤ L) (hL : L ≤ 3072) (ht : kT h v1 = 1) (F : sem G r_WP_start [.ref v1, .int (xs (n + 1))] h (fun u h2 => ∃ x : Int32, u = some (.int x) ∧ (kT h2 v2 = 12 ∧ sem G r_Mo_start [.ref v2, .int (xs (n + 1))] h2 (fun u h3 => ∃ y : Int32, u = some (.int y) ∧ (x = y ∧ Z h3))))) (kk : ∀ h3, Z h3 → X G M Q 770 [(0, .ref b), (1, .ref v1), (2, .ref v2), (3, .int (nI n))] [] h3) : X G M Q 176 [(0, .ref b), (1, .ref v1), (2, .ref v2), (3, .int (nI n))] [] h := by
  refine x_aload_n hM d_La_law_176 rfl 1 rfl ?_
  refine x_aload_n hM d_La_law_177 rfl 0 rfl ?_
  refine x_iload_n hM d_La_law_178 rfl 3 rfl ?_
  refine x_iconst (v := 1) hM d_La_law_179 (by decide) ?_
  refine x_iadd hM d_La_law_180 ?_
  refine x_sld hM hs (k := n + 1) (nI_ad n 1) (by omega) d_La_law_181 ?_
  refine x_callV hG hM (r' := r_WP_start) (ci := 0) [.int (xs (n + 1))] rfl rfl (Nat.le_of_ble_eq_true rfl) yk_WP_start ⟨Nat.le_of_ble_eq_true rfl, Nat.le_of_ble_eq_true rfl⟩ w_456 w_457 w_458 rfl rfl (Nat.le_of_ble_eq_true rfl) d_La_law_182 ht (sem_mono F ?_)
  rintro u h2 ⟨x, rfl, ht2, F⟩
  refine x_aload_n hM d_La_law_185 rfl 2 rfl ?_
  refine x_aload_n hM d_La_law_186 rfl 0 rfl ?_
  refine x_iload_n hM d_La_law_187 rfl 3 rfl ?_
  refine x_iconst (v := 1) hM d_La_law_188 (by decide) ?_
  refine x_iadd hM d_La_law_189 ?_
  refine x_sld hM hs (k := n + 1) (nI_ad n 1) (by omega) d_La_law_190 ?_
  refine x_callV hG hM (r' := r_Mo_start) (ci := 11) [.int (xs (n + 1))] rfl rfl (Nat.le_of_ble_eq_true rfl) yk_Mo_start ⟨Nat.le_of_ble_eq_true rfl, Nat.le_of_ble_eq_true rfl⟩ w_1024 w_1025 w_1026 rfl rfl (Nat.le_of_ble_eq_true rfl) d_La_law_191 ht2 (sem_mono F ?_)
  rintro u h3 ⟨y, rfl, exy, F⟩
  exact x_icmp_eq (tgt := 770) hM d_La_law_194 (by decide) (fun _ => kk h3 F) (fun z => absurd exy z)
set_option maxRecDepth 100000 in
theorem La_c3 (hG : gok G) (hM : mok G M r_La_law Q K) (hs : Scr G M b L xs) (hn : n + 6 ≤ L) (hL : L ≤ 3072) (ht : kT h v1 = 1) (F : sem G r_WP_act [.ref v1] h (fun u h2 => ∃ x : Int32, u = some (.int x) ∧ (kT h2 v2 = 12 ∧ sem G r_Mo_act [.ref v2] h2 (fun u h3 => ∃ y : Int32, u = some (.int y) ∧ (x = y ∧ Z h3))))) (kk : ∀ h3, Z h3 → X G M Q 770 [(0, .ref b), (1, .ref v1), (2, .ref v2), (3, .int (nI n))] [] h3) : X G M Q 199 [(0, .ref b), (1, .ref v1), (2, .ref v2), (3, .int (nI n))] [] h := by
  refine x_aload_n hM d_La_law_199 rfl 1 rfl ?_
  refine x_callV hG hM (r' := r_WP_act) (ci := 0) [] rfl rfl (Nat.le_of_ble_eq_true rfl) yk_WP_act ⟨Nat.le_of_ble_eq_true rfl, Nat.le_of_ble_eq_true rfl⟩ w_468 w_469 w_470 rfl rfl (Nat.le_of_ble_eq_true rfl) d_La_law_200 ht (sem_mono F ?_)
  rintro u h2 ⟨x, rfl, ht2, F⟩
  refine x_aload_n hM d_La_law_203 rfl 2 rfl ?_
  refine x_callV hG hM (r' := r_Mo_act) (ci := 11) [] rfl rfl (Nat.le_of_ble_eq_true rfl) yk_Mo_act ⟨Nat.le_of_ble_eq_true rfl, Nat.le_of_ble_eq_true rfl⟩ w_1032 w_1033 w_1034 rfl rfl (Nat.le_of_ble_eq_true rfl) d_La_law_204 ht2 (sem_mono F ?_)
  rintro u h3 ⟨y, rfl, exy, F⟩
  exact x_icmp_eq (tgt := 770) hM d_La_law_207 (by decide) (fun _ => kk h3 F) (fun z => absurd exy z)
set_option maxRecDepth 100000 in
theorem La_c4 (hG : gok G) (hM : mok G M r_La_law Q K) (hs : Scr G M b L xs) (hn : n + 6 ≤ L) (hL : L ≤ 3072) (ht : kT h v1 = 1) (F : sem G r_WP_outcome [.ref v1, .int (xs (n + 1))] h (fun u h2 => ∃ x : Int32, u = some (.int x) ∧ (kT h2 v2 = 12 ∧ sem G r_Mo_outcome [.ref v2, .int (xs (n + 1))] h2 (fun u h3 => ∃ y : Int32, u = some (.int y) ∧ (x = y ∧ Z h3))))) (kk : ∀ h3, Z h3 → X G M Q 770 [(0, .ref b), (1, .ref v1), (2, .ref v2), (3, .int (nI n))] [] h3) : X G M Q 212 [(0, .ref b), (1, .ref v1), (2, .ref v2), (3, .int (nI n))] [] h := by
  refine x_aload_n hM d_La_law_212 rfl 1 rfl ?_
  refine x_aload_n hM d_La_law_213 rfl 0 rfl ?_
  refine x_iload_n hM d_La_law_214 rfl 3 rfl ?_
  refine x_iconst (v := 1) hM d_La_law_215 (by decide) ?_
  refine x_iadd hM d_La_law_216 ?_
  refine x_sld hM hs (k := n + 1) (nI_ad n 1) (by omega) d_La_law_217 ?_
  refine x_callV hG hM (r' := r_WP_outcome) (ci := 0) [.int (xs (n + 1))] rfl rfl (Nat.le_of_ble_eq_true rfl) yk_WP_outcome ⟨Nat.le_of_ble_eq_true rfl, Nat.le_of_ble_eq_true rfl⟩ w_480 w_481 w_482 rfl rfl (Nat.le_of_ble_eq_true rfl) d_La_law_218 ht (sem_mono F ?_)
  rintro u h2 ⟨x, rfl, ht2, F⟩
  refine x_aload_n hM d_La_law_221 rfl 2 rfl ?_
  refine x_aload_n hM d_La_law_222 rfl 0 rfl ?_
  refine x_iload_n hM d_La_law_223 rfl 3 rfl ?_
  refine x_iconst (v := 1) hM d_La_law_224 (by decide) ?_
  refine x_iadd hM d_La_law_225 ?_
  refine x_sld hM hs (k := n + 1) (nI_ad n 1) (by omega) d_La_law_226 ?_
  refine x_callV hG hM (r' := r_Mo_outcome) (ci := 11) [.int (xs (n + 1))] rfl rfl (Nat.le_of_ble_eq_true rfl) yk_Mo_outcome ⟨Nat.le_of_ble_eq_true rfl, Nat.le_of_ble_eq_true rfl⟩ w_1036 w_1037 w_1038 rfl rfl (Nat.le_of_ble_eq_true rfl) d_La_law_227 ht2 (sem_mono F ?_)
  rintro u h3 ⟨y, rfl, exy, F⟩
  exact x_icmp_eq (tgt := 770) hM d_La_law_230 (by decide) (fun _ => kk h3 F) (fun z => absurd exy z)
set_option maxRecDepth 100000 in
theorem La_c5 (hG : gok G) (hM : mok G M r_La_law Q K) (hs : Scr G M b L xs) (hn : n + 6 ≤ L) (hL : L ≤ 3072) (ht : kT h v1 = 1) (F : sem G r_WP_when [.ref v1, .int (xs (n + 1)), .int (xs (n + 2)), .int (xs (n + 3)), .int (xs (n + 4))] h (fun u h2 => ∃ x : Int32, u = some (.int x) ∧ (kT h2 v2 = 12 ∧ sem G r_Mo_when [.ref v2, .int (xs (n + 1)), .int (xs (n + 2)), .int (xs (n + 3)), .int (xs (n + 4))] h2 (fun u h3 => ∃ y : Int32, u = some (.int y) ∧ (x = y ∧ Z h3))))) (kk : ∀ h3, Z h3 → X G M Q 770 [(0, .ref b), (1, .ref v1), (2, .ref v2), (3, .int (nI n))] [] h3) : X G M Q 235 [(0, .ref b), (1, .ref v1), (2, .ref v2), (3, .int (nI n))] [] h := by
  refine x_aload_n hM d_La_law_235 rfl 1 rfl ?_
  refine x_aload_n hM d_La_law_236 rfl 0 rfl ?_
  refine x_iload_n hM d_La_law_237 rfl 3 rfl ?_
  refine x_iconst (v := 1) hM d_La_law_238 (by decide) ?_
  refine x_iadd hM d_La_law_239 ?_
  refine x_sld hM hs (k := n + 1) (nI_ad n 1) (by omega) d_La_law_240 ?_
  refine x_aload_n hM d_La_law_241 rfl 0 rfl ?_
  refine x_iload_n hM d_La_law_242 rfl 3 rfl ?_
  refine x_iconst (v := 2) hM d_La_law_243 (by decide) ?_
  refine x_iadd hM d_La_law_244 ?_
  refine x_sld hM hs (k := n + 2) (nI_ad n 2) (by omega) d_La_law_245 ?_
  refine x_aload_n hM d_La_law_246 rfl 0 rfl ?_
  refine x_iload_n hM d_La_law_247 rfl 3 rfl ?_
  refine x_iconst (v := 3) hM d_La_law_248 (by decide) ?_
  refine x_iadd hM d_La_law_249 ?_
  refine x_sld hM hs (k := n + 3) (nI_ad n 3) (by omega) d_La_law_250 ?_
  refine x_aload_n hM d_La_law_251 rfl 0 rfl ?_
  refine x_iload_n hM d_La_law_252 rfl 3 rfl ?_
  refine x_iconst (v := 4) hM d_La_law_253 (by decide) ?_
  refine x_iadd hM d_La_law_254 ?_
  refine x_sld hM hs (k := n + 4) (nI_ad n 4) (by omega) d_La_law_255 ?_
  refine x_callV hG hM (r' := r_WP_when) (ci := 0) [.int (xs (n + 1)), .int (xs (n + 2)), .int (xs (n + 3)), .int (xs (n + 4))] rfl rfl (Nat.le_of_ble_eq_true rfl) yk_WP_when ⟨Nat.le_of_ble_eq_true rfl, Nat.le_of_ble_eq_true rfl⟩ w_496 w_497 w_498 rfl rfl (Nat.le_of_ble_eq_true rfl) d_La_law_256 ht (sem_mono F ?_)
  rintro u h2 ⟨x, rfl, ht2, F⟩
  refine x_aload_n hM d_La_law_259 rfl 2 rfl ?_
  refine x_aload_n hM d_La_law_260 rfl 0 rfl ?_
  refine x_iload_n hM d_La_law_261 rfl 3 rfl ?_
  refine x_iconst (v := 1) hM d_La_law_262 (by decide) ?_
  refine x_iadd hM d_La_law_263 ?_
  refine x_sld hM hs (k := n + 1) (nI_ad n 1) (by omega) d_La_law_264 ?_
  refine x_aload_n hM d_La_law_265 rfl 0 rfl ?_
  refine x_iload_n hM d_La_law_266 rfl 3 rfl ?_
  refine x_iconst (v := 2) hM d_La_law_267 (by decide) ?_
  refine x_iadd hM d_La_law_268 ?_
  refine x_sld hM hs (k := n + 2) (nI_ad n 2) (by omega) d_La_law_269 ?_
  refine x_aload_n hM d_La_law_270 rfl 0 rfl ?_
  refine x_iload_n hM d_La_law_271 rfl 3 rfl ?_
  refine x_iconst (v := 3) hM d_La_law_272 (by decide) ?_
  refine x_iadd hM d_La_law_273 ?_
  refine x_sld hM hs (k := n + 3) (nI_ad n 3) (by omega) d_La_law_274 ?_
  refine x_aload_n hM d_La_law_275 rfl 0 rfl ?_
  refine x_iload_n hM d_La_law_276 rfl 3 rfl ?_
  refine x_iconst (v := 4) hM d_La_law_277 (by decide) ?_
  refine x_iadd hM d_La_law_278 ?_
  refine x_sld hM hs (k := n + 4) (nI_ad n 4) (by omega) d_La_law_279 ?_
  refine x_callV hG hM (r' := r_Mo_when) (ci := 11) [.int (xs (n + 1)), .int (xs (n + 2)), .int (xs (n + 3)), .int (xs (n + 4))] rfl rfl (Nat.le_of_ble_eq_true rfl) yk_Mo_when ⟨Nat.le_of_ble_eq_true rfl, Nat.le_of_ble_eq_true rfl⟩ w_1044 w_1045 w_1046 rfl rfl (Nat.le_of_ble_eq_true rfl) d_La_law_280 ht2 (sem_mono F ?_)
  rintro u h3 ⟨y, rfl, exy, F⟩
  exact x_icmp_eq (tgt := 770) hM d_La_law_283 (by decide) (fun _ => kk h3 F) (fun z => absurd exy z)
set_option maxRecDepth 100000 in
theorem La_c6 (hG : gok G) (hM : mok G M r_La_law Q K) (hs : Scr G M b L xs) (hn : n + 6 ≤ L) (hL : L ≤ 3072) (ht : kT h v1 = 1) (F : sem G r_WP_effect [.ref v1, .int (xs (n + 1)), .int (xs (n + 2)), .int (xs (n + 3)), .int (xs (n + 4)), .int (xs (n + 5))] h (fun u h2 => ∃ x : Int32, u = some (.int x) ∧ (kT h2 v2 = 12 ∧ sem G r_Mo_effect [.ref v2, .int (xs (n + 1)), .int (xs (n + 2)), .int (xs (n + 3)), .int (xs (n + 4)), .int (xs (n + 5))] h2 (fun u h3 => ∃ y : Int32, u = some (.int y) ∧ (x = y ∧ Z h3))))) (kk : ∀ h3, Z h3 → X G M Q 770 [(0, .ref b), (1, .ref v1), (2, .ref v2), (3, .int (nI n))] [] h3) : X G M Q 288 [(0, .ref b), (1, .ref v1), (2, .ref v2), (3, .int (nI n))] [] h := by
  refine x_aload_n hM d_La_law_288 rfl 1 rfl ?_
  refine x_aload_n hM d_La_law_289 rfl 0 rfl ?_
  refine x_iload_n hM d_La_law_290 rfl 3 rfl ?_
  refine x_iconst (v := 1) hM d_La_law_291 (by decide) ?_
  refine x_iadd hM d_La_law_292 ?_
  refine x_sld hM hs (k := n + 1) (nI_ad n 1) (by omega) d_La_law_293 ?_
  refine x_aload_n hM d_La_law_294 rfl 0 rfl ?_
  refine x_iload_n hM d_La_law_295 rfl 3 rfl ?_
  refine x_iconst (v := 2) hM d_La_law_296 (by decide) ?_
  refine x_iadd hM d_La_law_297 ?_
  refine x_sld hM hs (k := n + 2) (nI_ad n 2) (by omega) d_La_law_298 ?_
  refine x_aload_n hM d_La_law_299 rfl 0 rfl ?_
  refine x_iload_n hM d_La_law_300 rfl 3 rfl ?_
  refine x_iconst (v := 3) hM d_La_law_301 (by decide) ?_
  refine x_iadd hM d_La_law_302 ?_
  refine x_sld hM hs (k := n + 3) (nI_ad n 3) (by omega) d_La_law_303 ?_
  refine x_aload_n hM d_La_law_304 rfl 0 rfl ?_
  refine x_iload_n hM d_La_law_305 rfl 3 rfl ?_
  refine x_iconst (v := 4) hM d_La_law_306 (by decide) ?_
  refine x_iadd hM d_La_law_307 ?_
  refine x_sld hM hs (k := n + 4) (nI_ad n 4) (by omega) d_La_law_308 ?_
  refine x_aload_n hM d_La_law_309 rfl 0 rfl ?_
  refine x_iload_n hM d_La_law_310 rfl 3 rfl ?_
  refine x_iconst (v := 5) hM d_La_law_311 (by decide) ?_
  refine x_iadd hM d_La_law_312 ?_
  refine x_sld hM hs (k := n + 5) (nI_ad n 5) (by omega) d_La_law_313 ?_
  refine x_callV hG hM (r' := r_WP_effect) (ci := 0) [.int (xs (n + 1)), .int (xs (n + 2)), .int (xs (n + 3)), .int (xs (n + 4)), .int (xs (n + 5))] rfl rfl (Nat.le_of_ble_eq_true rfl) yk_WP_effect ⟨Nat.le_of_ble_eq_true rfl, Nat.le_of_ble_eq_true rfl⟩ w_512 w_513 w_514 rfl rfl (Nat.le_of_ble_eq_true rfl) d_La_law_314 ht (sem_mono F ?_)
  rintro u h2 ⟨x, rfl, ht2, F⟩
  refine x_aload_n hM d_La_law_317 rfl 2 rfl ?_
  refine x_aload_n hM d_La_law_318 rfl 0 rfl ?_
  refine x_iload_n hM d_La_law_319 rfl 3 rfl ?_
  refine x_iconst (v := 1) hM d_La_law_320 (by decide) ?_
  refine x_iadd hM d_La_law_321 ?_
  refine x_sld hM hs (k := n + 1) (nI_ad n 1) (by omega) d_La_law_322 ?_
  refine x_aload_n hM d_La_law_323 rfl 0 rfl ?_
  refine x_iload_n hM d_La_law_324 rfl 3 rfl ?_
  refine x_iconst (v := 2) hM d_La_law_325 (by decide) ?_
  refine x_iadd hM d_La_law_326 ?_
  refine x_sld hM hs (k := n + 2) (nI_ad n 2) (by omega) d_La_law_327 ?_
  refine x_aload_n hM d_La_law_328 rfl 0 rfl ?_
  refine x_iload_n hM d_La_law_329 rfl 3 rfl ?_
  refine x_iconst (v := 3) hM d_La_law_330 (by decide) ?_
  refine x_iadd hM d_La_law_331 ?_
  refine x_sld hM hs (k := n + 3) (nI_ad n 3) (by omega) d_La_law_332 ?_
  refine x_aload_n hM d_La_law_333 rfl 0 rfl ?_
  refine x_iload_n hM d_La_law_334 rfl 3 rfl ?_
  refine x_iconst (v := 4) hM d_La_law_335 (by decide) ?_
  refine x_iadd hM d_La_law_336 ?_
  refine x_sld hM hs (k := n + 4) (nI_ad n 4) (by omega) d_La_law_337 ?_
  refine x_aload_n hM d_La_law_338 rfl 0 rfl ?_
  refine x_iload_n hM d_La_law_339 rfl 3 rfl ?_
  refine x_iconst (v := 5) hM d_La_law_340 (by decide) ?_
  refine x_iadd hM d_La_law_341 ?_
  refine x_sld hM hs (k := n + 5) (nI_ad n 5) (by omega) d_La_law_342 ?_
  refine x_callV hG hM (r' := r_Mo_effect) (ci := 11) [.int (xs (n + 1)), .int (xs (n + 2)), .int (xs (n + 3)), .int (xs (n + 4)), .int (xs (n + 5))] rfl rfl (Nat.le_of_ble_eq_true rfl) yk_Mo_effect ⟨Nat.le_of_ble_eq_true rfl, Nat.le_of_ble_eq_true rfl⟩ w_1068 w_1069 w_1070 rfl rfl (Nat.le_of_ble_eq_true rfl) d_La_law_343 ht2 (sem_mono F ?_)
  rintro u h3 ⟨y, rfl, exy, F⟩
  exact x_icmp_eq (tgt := 770) hM d_La_law_346 (by decide) (fun _ => kk h3 F) (fun z => absurd exy z)
set_option maxRecDepth 100000 in
theorem La_c7 (hG : gok G) (hM : mok G M r_La_law Q K) (hs : Scr G M b L xs) (hn : n + 6 ≤ L) (hL : L ≤ 3072) (ht : kT h v1 = 1) (F : sem G r_WP_aim [.ref v1, .int (xs (n + 1)), .int (xs (n + 2)), .int (xs (n + 3))] h (fun u h2 => ∃ x : Int32, u = some (.int x) ∧ (kT h2 v2 = 12 ∧ sem G r_Mo_aim [.ref v2, .int (xs (n + 1)), .int (xs (n + 2)), .int (xs (n + 3))] h2 (fun u h3 => ∃ y : Int32, u = some (.int y) ∧ (x = y ∧ Z h3))))) (kk : ∀ h3, Z h3 → X G M Q 770 [(0, .ref b), (1, .ref v1), (2, .ref v2), (3, .int (nI n))] [] h3) : X G M Q 351 [(0, .ref b), (1, .ref v1), (2, .ref v2), (3, .int (nI n))] [] h := by
  refine x_aload_n hM d_La_law_351 rfl 1 rfl ?_
  refine x_aload_n hM d_La_law_352 rfl 0 rfl ?_
  refine x_iload_n hM d_La_law_353 rfl 3 rfl ?_
  refine x_iconst (v := 1) hM d_La_law_354 (by decide) ?_
  refine x_iadd hM d_La_law_355 ?_
  refine x_sld hM hs (k := n + 1) (nI_ad n 1) (by omega) d_La_law_356 ?_
  refine x_aload_n hM d_La_law_357 rfl 0 rfl ?_
  refine x_iload_n hM d_La_law_358 rfl 3 rfl ?_
  refine x_iconst (v := 2) hM d_La_law_359 (by decide) ?_
  refine x_iadd hM d_La_law_360 ?_
  refine x_sld hM hs (k := n + 2) (nI_ad n 2) (by omega) d_La_law_361 ?_
  refine x_aload_n hM d_La_law_362 rfl 0 rfl ?_
  refine x_iload_n hM d_La_law_363 rfl 3 rfl ?_
  refine x_iconst (v := 3) hM d_La_law_364 (by decide) ?_
  refine x_iadd hM d_La_law_365 ?_
  refine x_sld hM hs (k := n + 3) (nI_ad n 3) (by omega) d_La_law_366 ?_
  refine x_callV hG hM (r' := r_WP_aim) (ci := 0) [.int (xs (n + 1)), .int (xs (n + 2)), .int (xs (n + 3))] rfl rfl (Nat.le_of_ble_eq_true rfl) yk_WP_aim ⟨Nat.le_of_ble_eq_true rfl, Nat.le_of_ble_eq_true rfl⟩ w_525 w_526 w_527 rfl rfl (Nat.le_of_ble_eq_true rfl) d_La_law_367 ht (sem_mono F ?_)
  rintro u h2 ⟨x, rfl, ht2, F⟩
  refine x_aload_n hM d_La_law_370 rfl 2 rfl ?_
  refine x_aload_n hM d_La_law_371 rfl 0 rfl ?_
  refine x_iload_n hM d_La_law_372 rfl 3 rfl ?_
  refine x_iconst (v := 1) hM d_La_law_373 (by decide) ?_
  refine x_iadd hM d_La_law_374 ?_
  refine x_sld hM hs (k := n + 1) (nI_ad n 1) (by omega) d_La_law_375 ?_
  refine x_aload_n hM d_La_law_376 rfl 0 rfl ?_
  refine x_iload_n hM d_La_law_377 rfl 3 rfl ?_
  refine x_iconst (v := 2) hM d_La_law_378 (by decide) ?_
  refine x_iadd hM d_La_law_379 ?_
  refine x_sld hM hs (k := n + 2) (nI_ad n 2) (by omega) d_La_law_380 ?_
  refine x_aload_n hM d_La_law_381 rfl 0 rfl ?_
  refine x_iload_n hM d_La_law_382 rfl 3 rfl ?_
  refine x_iconst (v := 3) hM d_La_law_383 (by decide) ?_
  refine x_iadd hM d_La_law_384 ?_
  refine x_sld hM hs (k := n + 3) (nI_ad n 3) (by omega) d_La_law_385 ?_
  refine x_callV hG hM (r' := r_Mo_aim) (ci := 11) [.int (xs (n + 1)), .int (xs (n + 2)), .int (xs (n + 3))] rfl rfl (Nat.le_of_ble_eq_true rfl) yk_Mo_aim ⟨Nat.le_of_ble_eq_true rfl, Nat.le_of_ble_eq_true rfl⟩ w_1060 w_1061 w_1062 rfl rfl (Nat.le_of_ble_eq_true rfl) d_La_law_386 ht2 (sem_mono F ?_)
  rintro u h3 ⟨y, rfl, exy, F⟩
  exact x_icmp_eq (tgt := 770) hM d_La_law_389 (by decide) (fun _ => kk h3 F) (fun z => absurd exy z)
set_option maxRecDepth 100000 in
theorem La_c8 (hG : gok G) (hM : mok G M r_La_law Q K) (hs : Scr G M b L xs) (hn : n + 6 ≤ L) (hL : L ≤ 3072) (ht : kT h v1 = 1) (F : sem G r_WP_aimless [.ref v1] h (fun u h2 => ∃ x : Int32, u = some (.int x) ∧ (kT h2 v2 = 12 ∧ sem G r_Mo_aimless [.ref v2] h2 (fun u h3 => ∃ y : Int32, u = some (.int y) ∧ (x = y ∧ Z h3))))) (kk : ∀ h3, Z h3 → X G M Q 770 [(0, .ref b), (1, .ref v1), (2, .ref v2), (3, .int (nI n))] [] h3) : X G M Q 394 [(0, .ref b), (1, .ref v1), (2, .ref v2), (3, .int (nI n))] [] h := by
  refine x_aload_n hM d_La_law_394 rfl 1 rfl ?_
  refine x_callV hG hM (r' := r_WP_aimless) (ci := 0) [] rfl rfl (Nat.le_of_ble_eq_true rfl) yk_WP_aimless ⟨Nat.le_of_ble_eq_true rfl, Nat.le_of_ble_eq_true rfl⟩ w_533 w_534 w_535 rfl rfl (Nat.le_of_ble_eq_true rfl) d_La_law_395 ht (sem_mono F ?_)
  rintro u h2 ⟨x, rfl, ht2, F⟩
  refine x_aload_n hM d_La_law_398 rfl 2 rfl ?_
  refine x_callV hG hM (r' := r_Mo_aimless) (ci := 11) [] rfl rfl (Nat.le_of_ble_eq_true rfl) yk_Mo_aimless ⟨Nat.le_of_ble_eq_true rfl, Nat.le_of_ble_eq_true rfl⟩ w_1064 w_1065 w_1066 rfl rfl (Nat.le_of_ble_eq_true rfl) d_La_law_399 ht2 (sem_mono F ?_)
  rintro u h3 ⟨y, rfl, exy, F⟩
  exact x_icmp_eq (tgt := 770) hM d_La_law_402 (by decide) (fun _ => kk h3 F) (fun z => absurd exy z)
set_option maxRecDepth 100000 in
theorem La_c9 (hG : gok G) (hM : mok G M r_La_law Q K) (hs : Scr G M b L xs) (hn : n + 6 ≤ L) (hL : L ≤ 3072) (ht : kT h v1 = 1) (F : sem G r_WP_unact [.ref v1] h (fun u h2 => ∃ x : Int32, u = some (.int x) ∧ (kT h2 v2 = 12 ∧ sem G r_Mo_unact [.ref v2] h2 (fun u h3 => ∃ y : Int32, u = some (.int y) ∧ (x = y ∧ Z h3))))) (kk : ∀ h3, Z h3 → X G M Q 770 [(0, .ref b), (1, .ref v1), (2, .ref v2), (3, .int (nI n))] [] h3) : X G M Q 407 [(0, .ref b), (1, .ref v1), (2, .ref v2), (3, .int (nI n))] [] h := by
  refine x_aload_n hM d_La_law_407 rfl 1 rfl ?_
  refine x_callV hG hM (r' := r_WP_unact) (ci := 0) [] rfl rfl (Nat.le_of_ble_eq_true rfl) yk_WP_unact ⟨Nat.le_of_ble_eq_true rfl, Nat.le_of_ble_eq_true rfl⟩ w_537 w_538 w_539 rfl rfl (Nat.le_of_ble_eq_true rfl) d_La_law_408 ht (sem_mono F ?_)
  rintro u h2 ⟨x, rfl, ht2, F⟩
  refine x_aload_n hM d_La_law_411 rfl 2 rfl ?_
  refine x_callV hG hM (r' := r_Mo_unact) (ci := 11) [] rfl rfl (Nat.le_of_ble_eq_true rfl) yk_Mo_unact ⟨Nat.le_of_ble_eq_true rfl, Nat.le_of_ble_eq_true rfl⟩ w_1072 w_1073 w_1074 rfl rfl (Nat.le_of_ble_eq_true rfl) d_La_law_412 ht2 (sem_mono F ?_)
  rintro u h3 ⟨y, rfl, exy, F⟩
  exact x_icmp_eq (tgt := 770) hM d_La_law_415 (by decide) (fun _ => kk h3 F) (fun z => absurd exy z)
set_option maxRecDepth 100000 in
theorem La_c10 (hG : gok G) (hM : mok G M r_La_law Q K) (hs : Scr G M b L xs) (hn : n + 6 ≤ L) (hL : L ≤ 3072) (ht : kT h v1 = 1) (F : sem G r_WP_leads [.ref v1, .int (xs (n + 1)), .int (xs (n + 2)), .int (xs (n + 3))] h (fun u h2 => ∃ x : Int32, u = some (.int x) ∧ (kT h2 v2 = 12 ∧ sem G r_Mo_leads [.ref v2, .int (xs (n + 1)), .int (xs (n + 2)), .int (xs (n + 3))] h2 (fun u h3 => ∃ y : Int32, u = some (.int y) ∧ (x = y ∧ Z h3))))) (kk : ∀ h3, Z h3 → X G M Q 770 [(0, .ref b), (1, .ref v1), (2, .ref v2), (3, .int (nI n))] [] h3) : X G M Q 420 [(0, .ref b), (1, .ref v1), (2, .ref v2), (3, .int (nI n))] [] h := by
  refine x_aload_n hM d_La_law_420 rfl 1 rfl ?_
  refine x_aload_n hM d_La_law_421 rfl 0 rfl ?_
  refine x_iload_n hM d_La_law_422 rfl 3 rfl ?_
  refine x_iconst (v := 1) hM d_La_law_423 (by decide) ?_
  refine x_iadd hM d_La_law_424 ?_
  refine x_sld hM hs (k := n + 1) (nI_ad n 1) (by omega) d_La_law_425 ?_
  refine x_aload_n hM d_La_law_426 rfl 0 rfl ?_
  refine x_iload_n hM d_La_law_427 rfl 3 rfl ?_
  refine x_iconst (v := 2) hM d_La_law_428 (by decide) ?_
  refine x_iadd hM d_La_law_429 ?_
  refine x_sld hM hs (k := n + 2) (nI_ad n 2) (by omega) d_La_law_430 ?_
  refine x_aload_n hM d_La_law_431 rfl 0 rfl ?_
  refine x_iload_n hM d_La_law_432 rfl 3 rfl ?_
  refine x_iconst (v := 3) hM d_La_law_433 (by decide) ?_
  refine x_iadd hM d_La_law_434 ?_
  refine x_sld hM hs (k := n + 3) (nI_ad n 3) (by omega) d_La_law_435 ?_
  refine x_callV hG hM (r' := r_WP_leads) (ci := 0) [.int (xs (n + 1)), .int (xs (n + 2)), .int (xs (n + 3))] rfl rfl (Nat.le_of_ble_eq_true rfl) yk_WP_leads ⟨Nat.le_of_ble_eq_true rfl, Nat.le_of_ble_eq_true rfl⟩ w_545 w_546 w_547 rfl rfl (Nat.le_of_ble_eq_true rfl) d_La_law_436 ht (sem_mono F ?_)
  rintro u h2 ⟨x, rfl, ht2, F⟩
  refine x_aload_n hM d_La_law_439 rfl 2 rfl ?_
  refine x_aload_n hM d_La_law_440 rfl 0 rfl ?_
  refine x_iload_n hM d_La_law_441 rfl 3 rfl ?_
  refine x_iconst (v := 1) hM d_La_law_442 (by decide) ?_
  refine x_iadd hM d_La_law_443 ?_
  refine x_sld hM hs (k := n + 1) (nI_ad n 1) (by omega) d_La_law_444 ?_
  refine x_aload_n hM d_La_law_445 rfl 0 rfl ?_
  refine x_iload_n hM d_La_law_446 rfl 3 rfl ?_
  refine x_iconst (v := 2) hM d_La_law_447 (by decide) ?_
  refine x_iadd hM d_La_law_448 ?_
  refine x_sld hM hs (k := n + 2) (nI_ad n 2) (by omega) d_La_law_449 ?_
  refine x_aload_n hM d_La_law_450 rfl 0 rfl ?_
  refine x_iload_n hM d_La_law_451 rfl 3 rfl ?_
  refine x_iconst (v := 3) hM d_La_law_452 (by decide) ?_
  refine x_iadd hM d_La_law_453 ?_
  refine x_sld hM hs (k := n + 3) (nI_ad n 3) (by omega) d_La_law_454 ?_
  refine x_callV hG hM (r' := r_Mo_leads) (ci := 11) [.int (xs (n + 1)), .int (xs (n + 2)), .int (xs (n + 3))] rfl rfl (Nat.le_of_ble_eq_true rfl) yk_Mo_leads ⟨Nat.le_of_ble_eq_true rfl, Nat.le_of_ble_eq_true rfl⟩ w_1088 w_1089 w_1090 rfl rfl (Nat.le_of_ble_eq_true rfl) d_La_law_455 ht2 (sem_mono F ?_)
  rintro u h3 ⟨y, rfl, exy, F⟩
  exact x_icmp_eq (tgt := 770) hM d_La_law_458 (by decide) (fun _ => kk h3 F) (fun z => absurd exy z)
set_option maxRecDepth 100000 in
theorem La_c11 (hG : gok G) (hM : mok G M r_La_law Q K) (hs : Scr G M b L xs) (hn : n + 6 ≤ L) (hL : L ≤ 3072) (ht : kT h v1 = 1) (F : sem G r_WP_count [.ref v1, .int (xs (n + 1))] h (fun u h2 => ∃ x : Int32, u = some (.int x) ∧ (kT h2 v2 = 12 ∧ sem G r_Mo_count [.ref v2, .int (xs (n + 1))] h2 (fun u h3 => ∃ y : Int32, u = some (.int y) ∧ (x = y ∧ Z h3))))) (kk : ∀ h3, Z h3 → X G M Q 770 [(0, .ref b), (1, .ref v1), (2, .ref v2), (3, .int (nI n))] [] h3) : X G M Q 463 [(0, .ref b), (1, .ref v1), (2, .ref v2), (3, .int (nI n))] [] h := by
  refine x_aload_n hM d_La_law_463 rfl 1 rfl ?_
  refine x_aload_n hM d_La_law_464 rfl 0 rfl ?_
  refine x_iload_n hM d_La_law_465 rfl 3 rfl ?_
  refine x_iconst (v := 1) hM d_La_law_466 (by decide) ?_
  refine x_iadd hM d_La_law_467 ?_
  refine x_sld hM hs (k := n + 1) (nI_ad n 1) (by omega) d_La_law_468 ?_
  refine x_callV hG hM (r' := r_WP_count) (ci := 0) [.int (xs (n + 1))] rfl rfl (Nat.le_of_ble_eq_true rfl) yk_WP_count ⟨Nat.le_of_ble_eq_true rfl, Nat.le_of_ble_eq_true rfl⟩ w_573 w_574 w_575 rfl rfl (Nat.le_of_ble_eq_true rfl) d_La_law_469 ht (sem_mono F ?_)
  rintro u h2 ⟨x, rfl, ht2, F⟩
  refine x_aload_n hM d_La_law_472 rfl 2 rfl ?_
  refine x_aload_n hM d_La_law_473 rfl 0 rfl ?_
  refine x_iload_n hM d_La_law_474 rfl 3 rfl ?_
  refine x_iconst (v := 1) hM d_La_law_475 (by decide) ?_
  refine x_iadd hM d_La_law_476 ?_
  refine x_sld hM hs (k := n + 1) (nI_ad n 1) (by omega) d_La_law_477 ?_
  refine x_callV hG hM (r' := r_Mo_count) (ci := 11) [.int (xs (n + 1))] rfl rfl (Nat.le_of_ble_eq_true rfl) yk_Mo_count ⟨Nat.le_of_ble_eq_true rfl, Nat.le_of_ble_eq_true rfl⟩ w_1108 w_1109 w_1110 rfl rfl (Nat.le_of_ble_eq_true rfl) d_La_law_478 ht2 (sem_mono F ?_)
  rintro u h3 ⟨y, rfl, exy, F⟩
  exact x_icmp_eq (tgt := 770) hM d_La_law_481 (by decide) (fun _ => kk h3 F) (fun z => absurd exy z)
set_option maxRecDepth 100000 in
theorem La_c12 (hG : gok G) (hM : mok G M r_La_law Q K) (hs : Scr G M b L xs) (hn : n + 6 ≤ L) (hL : L ≤ 3072) (ht : kT h v1 = 1) (F : sem G r_WP_of [.ref v1, .int (xs (n + 1)), .int (xs (n + 2))] h (fun u h2 => ∃ x : Int32, u = some (.int x) ∧ (kT h2 v2 = 12 ∧ sem G r_Mo_of [.ref v2, .int (xs (n + 1)), .int (xs (n + 2))] h2 (fun u h3 => ∃ y : Int32, u = some (.int y) ∧ (x = y ∧ Z h3))))) (kk : ∀ h3, Z h3 → X G M Q 770 [(0, .ref b), (1, .ref v1), (2, .ref v2), (3, .int (nI n))] [] h3) : X G M Q 486 [(0, .ref b), (1, .ref v1), (2, .ref v2), (3, .int (nI n))] [] h := by
  refine x_aload_n hM d_La_law_486 rfl 1 rfl ?_
  refine x_aload_n hM d_La_law_487 rfl 0 rfl ?_
  refine x_iload_n hM d_La_law_488 rfl 3 rfl ?_
  refine x_iconst (v := 1) hM d_La_law_489 (by decide) ?_
  refine x_iadd hM d_La_law_490 ?_
  refine x_sld hM hs (k := n + 1) (nI_ad n 1) (by omega) d_La_law_491 ?_
  refine x_aload_n hM d_La_law_492 rfl 0 rfl ?_
  refine x_iload_n hM d_La_law_493 rfl 3 rfl ?_
  refine x_iconst (v := 2) hM d_La_law_494 (by decide) ?_
  refine x_iadd hM d_La_law_495 ?_
  refine x_sld hM hs (k := n + 2) (nI_ad n 2) (by omega) d_La_law_496 ?_
  refine x_callV hG hM (r' := r_WP_of) (ci := 0) [.int (xs (n + 1)), .int (xs (n + 2))] rfl rfl (Nat.le_of_ble_eq_true rfl) yk_WP_of ⟨Nat.le_of_ble_eq_true rfl, Nat.le_of_ble_eq_true rfl⟩ w_768 w_769 w_770 rfl rfl (Nat.le_of_ble_eq_true rfl) d_La_law_497 ht (sem_mono F ?_)
  rintro u h2 ⟨x, rfl, ht2, F⟩
  refine x_aload_n hM d_La_law_500 rfl 2 rfl ?_
  refine x_aload_n hM d_La_law_501 rfl 0 rfl ?_
  refine x_iload_n hM d_La_law_502 rfl 3 rfl ?_
  refine x_iconst (v := 1) hM d_La_law_503 (by decide) ?_
  refine x_iadd hM d_La_law_504 ?_
  refine x_sld hM hs (k := n + 1) (nI_ad n 1) (by omega) d_La_law_505 ?_
  refine x_aload_n hM d_La_law_506 rfl 0 rfl ?_
  refine x_iload_n hM d_La_law_507 rfl 3 rfl ?_
  refine x_iconst (v := 2) hM d_La_law_508 (by decide) ?_
  refine x_iadd hM d_La_law_509 ?_
  refine x_sld hM hs (k := n + 2) (nI_ad n 2) (by omega) d_La_law_510 ?_
  refine x_callV hG hM (r' := r_Mo_of) (ci := 11) [.int (xs (n + 1)), .int (xs (n + 2))] rfl rfl (Nat.le_of_ble_eq_true rfl) yk_Mo_of ⟨Nat.le_of_ble_eq_true rfl, Nat.le_of_ble_eq_true rfl⟩ w_1161 w_1162 w_1163 rfl rfl (Nat.le_of_ble_eq_true rfl) d_La_law_511 ht2 (sem_mono F ?_)
  rintro u h3 ⟨y, rfl, exy, F⟩
  exact x_icmp_eq (tgt := 770) hM d_La_law_514 (by decide) (fun _ => kk h3 F) (fun z => absurd exy z)
set_option maxRecDepth 100000 in
theorem La_c13 (hG : gok G) (hM : mok G M r_La_law Q K) (hs : Scr G M b L xs) (hn : n + 6 ≤ L) (hL : L ≤ 3072) (ht : kT h v1 = 1) (F : sem G r_WP_best [.ref v1, .int (xs (n + 1)), .int (xs (n + 2))] h (fun u h2 => ∃ x : Int32, u = some (.int x) ∧ (kT h2 v2 = 12 ∧ sem G r_Mo_best [.ref v2, .int (xs (n + 1)), .int (xs (n + 2))] h2 (fun u h3 => ∃ y : Int32, u = some (.int y) ∧ (x = y ∧ Z h3))))) (kk : ∀ h3, Z h3 → X G M Q 770 [(0, .ref b), (1, .ref v1), (2, .ref v2), (3, .int (nI n))] [] h3) : X G M Q 519 [(0, .ref b), (1, .ref v1), (2, .ref v2), (3, .int (nI n))] [] h := by
  refine x_aload_n hM d_La_law_519 rfl 1 rfl ?_
  refine x_aload_n hM d_La_law_520 rfl 0 rfl ?_
  refine x_iload_n hM d_La_law_521 rfl 3 rfl ?_
  refine x_iconst (v := 1) hM d_La_law_522 (by decide) ?_
  refine x_iadd hM d_La_law_523 ?_
  refine x_sld hM hs (k := n + 1) (nI_ad n 1) (by omega) d_La_law_524 ?_
  refine x_aload_n hM d_La_law_525 rfl 0 rfl ?_
  refine x_iload_n hM d_La_law_526 rfl 3 rfl ?_
  refine x_iconst (v := 2) hM d_La_law_527 (by decide) ?_
  refine x_iadd hM d_La_law_528 ?_
  refine x_sld hM hs (k := n + 2) (nI_ad n 2) (by omega) d_La_law_529 ?_
  refine x_callV hG hM (r' := r_WP_best) (ci := 0) [.int (xs (n + 1)), .int (xs (n + 2))] rfl rfl (Nat.le_of_ble_eq_true rfl) yk_WP_best ⟨Nat.le_of_ble_eq_true rfl, Nat.le_of_ble_eq_true rfl⟩ w_772 w_773 w_774 rfl rfl (Nat.le_of_ble_eq_true rfl) d_La_law_530 ht (sem_mono F ?_)
  rintro u h2 ⟨x, rfl, ht2, F⟩
  refine x_aload_n hM d_La_law_533 rfl 2 rfl ?_
  refine x_aload_n hM d_La_law_534 rfl 0 rfl ?_
  refine x_iload_n hM d_La_law_535 rfl 3 rfl ?_
  refine x_iconst (v := 1) hM d_La_law_536 (by decide) ?_
  refine x_iadd hM d_La_law_537 ?_
  refine x_sld hM hs (k := n + 1) (nI_ad n 1) (by omega) d_La_law_538 ?_
  refine x_aload_n hM d_La_law_539 rfl 0 rfl ?_
  refine x_iload_n hM d_La_law_540 rfl 3 rfl ?_
  refine x_iconst (v := 2) hM d_La_law_541 (by decide) ?_
  refine x_iadd hM d_La_law_542 ?_
  refine x_sld hM hs (k := n + 2) (nI_ad n 2) (by omega) d_La_law_543 ?_
  refine x_callV hG hM (r' := r_Mo_best) (ci := 11) [.int (xs (n + 1)), .int (xs (n + 2))] rfl rfl (Nat.le_of_ble_eq_true rfl) yk_Mo_best ⟨Nat.le_of_ble_eq_true rfl, Nat.le_of_ble_eq_true rfl⟩ w_1165 w_1166 w_1167 rfl rfl (Nat.le_of_ble_eq_true rfl) d_La_law_544 ht2 (sem_mono F ?_)
  rintro u h3 ⟨y, rfl, exy, F⟩
  exact x_icmp_eq (tgt := 770) hM d_La_law_547 (by decide) (fun _ => kk h3 F) (fun z => absurd exy z)
set_option maxRecDepth 100000 in
theorem La_c14 (hG : gok G) (hM : mok G M r_La_law Q K) (hs : Scr G M b L xs) (hn : n + 6 ≤ L) (hL : L ≤ 3072) (ht : kT h v1 = 1) (F : sem G r_WP_play [.ref v1, .int (xs (n + 1)), .int (xs (n + 2))] h (fun u h2 => ∃ x : Int32, u = some (.int x) ∧ (kT h2 v2 = 12 ∧ sem G r_Mo_play [.ref v2, .int (xs (n + 1)), .int (xs (n + 2))] h2 (fun u h3 => ∃ y : Int32, u = some (.int y) ∧ (x = y ∧ Z h3))))) (kk : ∀ h3, Z h3 → X G M Q 770 [(0, .ref b), (1, .ref v1), (2, .ref v2), (3, .int (nI n))] [] h3) : X G M Q 552 [(0, .ref b), (1, .ref v1), (2, .ref v2), (3, .int (nI n))] [] h := by
  refine x_aload_n hM d_La_law_552 rfl 1 rfl ?_
  refine x_aload_n hM d_La_law_553 rfl 0 rfl ?_
  refine x_iload_n hM d_La_law_554 rfl 3 rfl ?_
  refine x_iconst (v := 1) hM d_La_law_555 (by decide) ?_
  refine x_iadd hM d_La_law_556 ?_
  refine x_sld hM hs (k := n + 1) (nI_ad n 1) (by omega) d_La_law_557 ?_
  refine x_aload_n hM d_La_law_558 rfl 0 rfl ?_
  refine x_iload_n hM d_La_law_559 rfl 3 rfl ?_
  refine x_iconst (v := 2) hM d_La_law_560 (by decide) ?_
  refine x_iadd hM d_La_law_561 ?_
  refine x_sld hM hs (k := n + 2) (nI_ad n 2) (by omega) d_La_law_562 ?_
  refine x_callV hG hM (r' := r_WP_play) (ci := 0) [.int (xs (n + 1)), .int (xs (n + 2))] rfl rfl (Nat.le_of_ble_eq_true rfl) yk_WP_play ⟨Nat.le_of_ble_eq_true rfl, Nat.le_of_ble_eq_true rfl⟩ w_785 w_786 w_787 rfl rfl (Nat.le_of_ble_eq_true rfl) d_La_law_563 ht (sem_mono F ?_)
  rintro u h2 ⟨x, rfl, ht2, F⟩
  refine x_aload_n hM d_La_law_566 rfl 2 rfl ?_
  refine x_aload_n hM d_La_law_567 rfl 0 rfl ?_
  refine x_iload_n hM d_La_law_568 rfl 3 rfl ?_
  refine x_iconst (v := 1) hM d_La_law_569 (by decide) ?_
  refine x_iadd hM d_La_law_570 ?_
  refine x_sld hM hs (k := n + 1) (nI_ad n 1) (by omega) d_La_law_571 ?_
  refine x_aload_n hM d_La_law_572 rfl 0 rfl ?_
  refine x_iload_n hM d_La_law_573 rfl 3 rfl ?_
  refine x_iconst (v := 2) hM d_La_law_574 (by decide) ?_
  refine x_iadd hM d_La_law_575 ?_
  refine x_sld hM hs (k := n + 2) (nI_ad n 2) (by omega) d_La_law_576 ?_
  refine x_callV hG hM (r' := r_Mo_play) (ci := 11) [.int (xs (n + 1)), .int (xs (n + 2))] rfl rfl (Nat.le_of_ble_eq_true rfl) yk_Mo_play ⟨Nat.le_of_ble_eq_true rfl, Nat.le_of_ble_eq_true rfl⟩ w_1169 w_1170 w_1171 rfl rfl (Nat.le_of_ble_eq_true rfl) d_La_law_577 ht2 (sem_mono F ?_)
  rintro u h3 ⟨y, rfl, exy, F⟩
  exact x_icmp_eq (tgt := 770) hM d_La_law_580 (by decide) (fun _ => kk h3 F) (fun z => absurd exy z)
set_option maxRecDepth 100000 in
theorem La_c15 (hG : gok G) (hM : mok G M r_La_law Q K) (hs : Scr G M b L xs) (hn : n + 6 ≤ L) (hL : L ≤ 3072) (ht : kT h v1 = 1) (F : sem G r_WP_plays [.ref v1] h (fun u h2 => ∃ x : Int64, u = some (.long x) ∧ (kT h2 v2 = 12 ∧ sem G r_Mo_plays [.ref v2] h2 (fun u h3 => ∃ y : Int64, u = some (.long y) ∧ (x = y ∧ Z h3))))) (kk : ∀ h3, Z h3 → X G M Q 770 [(0, .ref b), (1, .ref v1), (2, .ref v2), (3, .int (nI n))] [] h3) : X G M Q 585 [(0, .ref b), (1, .ref v1), (2, .ref v2), (3, .int (nI n))] [] h := by
  refine x_aload_n hM d_La_law_585 rfl 1 rfl ?_
  refine x_callV hG hM (r' := r_WP_plays) (ci := 0) [] rfl rfl (Nat.le_of_ble_eq_true rfl) yk_WP_plays ⟨Nat.le_of_ble_eq_true rfl, Nat.le_of_ble_eq_true rfl⟩ w_805 w_806 w_807 rfl rfl (Nat.le_of_ble_eq_true rfl) d_La_law_586 ht (sem_mono F ?_)
  rintro u h2 ⟨x, rfl, ht2, F⟩
  refine x_aload_n hM d_La_law_589 rfl 2 rfl ?_
  refine x_callV hG hM (r' := r_Mo_plays) (ci := 11) [] rfl rfl (Nat.le_of_ble_eq_true rfl) yk_Mo_plays ⟨Nat.le_of_ble_eq_true rfl, Nat.le_of_ble_eq_true rfl⟩ w_1173 w_1174 w_1175 rfl rfl (Nat.le_of_ble_eq_true rfl) d_La_law_590 ht2 (sem_mono F ?_)
  rintro u h3 ⟨y, rfl, exy, F⟩
  refine x_lcmp hM d_La_law_593 ?_
  exact x_if_eq (tgt := 770) hM d_La_law_594 (by decide) (fun _ => kk h3 F) (fun z => absurd ((lg_cmp_eq x y).mpr exy) z)
set_option maxRecDepth 100000 in
theorem La_c16 (hG : gok G) (hM : mok G M r_La_law Q K) (hs : Scr G M b L xs) (hn : n + 6 ≤ L) (hL : L ≤ 3072) (ht : kT h v1 = 1) (F : sem G r_WP_needed [.ref v1] h (fun u h2 => ∃ x : Int32, u = some (.int x) ∧ (kT h2 v2 = 12 ∧ sem G r_Mo_needed [.ref v2] h2 (fun u h3 => ∃ y : Int32, u = some (.int y) ∧ (x = y ∧ Z h3))))) (kk : ∀ h3, Z h3 → X G M Q 770 [(0, .ref b), (1, .ref v1), (2, .ref v2), (3, .int (nI n))] [] h3) : X G M Q 599 [(0, .ref b), (1, .ref v1), (2, .ref v2), (3, .int (nI n))] [] h := by
  refine x_aload_n hM d_La_law_599 rfl 1 rfl ?_
  refine x_callV hG hM (r' := r_WP_needed) (ci := 0) [] rfl rfl (Nat.le_of_ble_eq_true rfl) yk_WP_needed ⟨Nat.le_of_ble_eq_true rfl, Nat.le_of_ble_eq_true rfl⟩ w_809 w_810 w_811 rfl rfl (Nat.le_of_ble_eq_true rfl) d_La_law_600 ht (sem_mono F ?_)
  rintro u h2 ⟨x, rfl, ht2, F⟩
  refine x_aload_n hM d_La_law_603 rfl 2 rfl ?_
  refine x_callV hG hM (r' := r_Mo_needed) (ci := 11) [] rfl rfl (Nat.le_of_ble_eq_true rfl) yk_Mo_needed ⟨Nat.le_of_ble_eq_true rfl, Nat.le_of_ble_eq_true rfl⟩ w_1177 w_1178 w_1179 rfl rfl (Nat.le_of_ble_eq_true rfl) d_La_law_604 ht2 (sem_mono F ?_)
  rintro u h3 ⟨y, rfl, exy, F⟩
  exact x_icmp_eq (tgt := 770) hM d_La_law_607 (by decide) (fun _ => kk h3 F) (fun z => absurd exy z)
set_option maxRecDepth 100000 in
theorem La_c17 (hG : gok G) (hM : mok G M r_La_law Q K) (hs : Scr G M b L xs) (hn : n + 6 ≤ L) (hL : L ≤ 3072) (ht : kT h v1 = 1) (F : sem G r_WP_fact [.ref v1, .int (xs (n + 1)), .int (xs (n + 2))] h (fun u h2 => ∃ x : Int32, u = some (.int x) ∧ (kT h2 v2 = 12 ∧ sem G r_Mo_fact [.ref v2, .int (xs (n + 1)), .int (xs (n + 2))] h2 (fun u h3 => ∃ y : Int32, u = some (.int y) ∧ (x = y ∧ Z h3))))) (kk : ∀ h3, Z h3 → X G M Q 770 [(0, .ref b), (1, .ref v1), (2, .ref v2), (3, .int (nI n))] [] h3) : X G M Q 612 [(0, .ref b), (1, .ref v1), (2, .ref v2), (3, .int (nI n))] [] h := by
  refine x_aload_n hM d_La_law_612 rfl 1 rfl ?_
  refine x_aload_n hM d_La_law_613 rfl 0 rfl ?_
  refine x_iload_n hM d_La_law_614 rfl 3 rfl ?_
  refine x_iconst (v := 1) hM d_La_law_615 (by decide) ?_
  refine x_iadd hM d_La_law_616 ?_
  refine x_sld hM hs (k := n + 1) (nI_ad n 1) (by omega) d_La_law_617 ?_
  refine x_aload_n hM d_La_law_618 rfl 0 rfl ?_
  refine x_iload_n hM d_La_law_619 rfl 3 rfl ?_
  refine x_iconst (v := 2) hM d_La_law_620 (by decide) ?_
  refine x_iadd hM d_La_law_621 ?_
  refine x_sld hM hs (k := n + 2) (nI_ad n 2) (by omega) d_La_law_622 ?_
  refine x_callV hG hM (r' := r_WP_fact) (ci := 0) [.int (xs (n + 1)), .int (xs (n + 2))] rfl rfl (Nat.le_of_ble_eq_true rfl) yk_WP_fact ⟨Nat.le_of_ble_eq_true rfl, Nat.le_of_ble_eq_true rfl⟩ w_829 w_830 w_831 rfl rfl (Nat.le_of_ble_eq_true rfl) d_La_law_623 ht (sem_mono F ?_)
  rintro u h2 ⟨x, rfl, ht2, F⟩
  refine x_aload_n hM d_La_law_626 rfl 2 rfl ?_
  refine x_aload_n hM d_La_law_627 rfl 0 rfl ?_
  refine x_iload_n hM d_La_law_628 rfl 3 rfl ?_
  refine x_iconst (v := 1) hM d_La_law_629 (by decide) ?_
  refine x_iadd hM d_La_law_630 ?_
  refine x_sld hM hs (k := n + 1) (nI_ad n 1) (by omega) d_La_law_631 ?_
  refine x_aload_n hM d_La_law_632 rfl 0 rfl ?_
  refine x_iload_n hM d_La_law_633 rfl 3 rfl ?_
  refine x_iconst (v := 2) hM d_La_law_634 (by decide) ?_
  refine x_iadd hM d_La_law_635 ?_
  refine x_sld hM hs (k := n + 2) (nI_ad n 2) (by omega) d_La_law_636 ?_
  refine x_callV hG hM (r' := r_Mo_fact) (ci := 11) [.int (xs (n + 1)), .int (xs (n + 2))] rfl rfl (Nat.le_of_ble_eq_true rfl) yk_Mo_fact ⟨Nat.le_of_ble_eq_true rfl, Nat.le_of_ble_eq_true rfl⟩ w_1189 w_1190 w_1191 rfl rfl (Nat.le_of_ble_eq_true rfl) d_La_law_637 ht2 (sem_mono F ?_)
  rintro u h3 ⟨y, rfl, exy, F⟩
  exact x_icmp_eq (tgt := 770) hM d_La_law_640 (by decide) (fun _ => kk h3 F) (fun z => absurd exy z)
set_option maxRecDepth 100000 in
theorem La_c18 (hG : gok G) (hM : mok G M r_La_law Q K) (hs : Scr G M b L xs) (hn : n + 6 ≤ L) (hL : L ≤ 3072) (ht : kT h v1 = 1) (F : sem G r_WP_values [.ref v1, .int (xs (n + 1))] h (fun u h2 => ∃ x : Int32, u = some (.int x) ∧ (kT h2 v2 = 12 ∧ sem G r_Mo_values [.ref v2, .int (xs (n + 1))] h2 (fun u h3 => ∃ y : Int32, u = some (.int y) ∧ (x = y ∧ Z h3))))) (kk : ∀ h3, Z h3 → X G M Q 770 [(0, .ref b), (1, .ref v1), (2, .ref v2), (3, .int (nI n))] [] h3) : X G M Q 645 [(0, .ref b), (1, .ref v1), (2, .ref v2), (3, .int (nI n))] [] h := by
  refine x_aload_n hM d_La_law_645 rfl 1 rfl ?_
  refine x_aload_n hM d_La_law_646 rfl 0 rfl ?_
  refine x_iload_n hM d_La_law_647 rfl 3 rfl ?_
  refine x_iconst (v := 1) hM d_La_law_648 (by decide) ?_
  refine x_iadd hM d_La_law_649 ?_
  refine x_sld hM hs (k := n + 1) (nI_ad n 1) (by omega) d_La_law_650 ?_
  refine x_callV hG hM (r' := r_WP_values) (ci := 0) [.int (xs (n + 1))] rfl rfl (Nat.le_of_ble_eq_true rfl) yk_WP_values ⟨Nat.le_of_ble_eq_true rfl, Nat.le_of_ble_eq_true rfl⟩ w_834 w_835 w_836 rfl rfl (Nat.le_of_ble_eq_true rfl) d_La_law_651 ht (sem_mono F ?_)
  rintro u h2 ⟨x, rfl, ht2, F⟩
  refine x_aload_n hM d_La_law_654 rfl 2 rfl ?_
  refine x_aload_n hM d_La_law_655 rfl 0 rfl ?_
  refine x_iload_n hM d_La_law_656 rfl 3 rfl ?_
  refine x_iconst (v := 1) hM d_La_law_657 (by decide) ?_
  refine x_iadd hM d_La_law_658 ?_
  refine x_sld hM hs (k := n + 1) (nI_ad n 1) (by omega) d_La_law_659 ?_
  refine x_callV hG hM (r' := r_Mo_values) (ci := 11) [.int (xs (n + 1))] rfl rfl (Nat.le_of_ble_eq_true rfl) yk_Mo_values ⟨Nat.le_of_ble_eq_true rfl, Nat.le_of_ble_eq_true rfl⟩ w_1193 w_1194 w_1195 rfl rfl (Nat.le_of_ble_eq_true rfl) d_La_law_660 ht2 (sem_mono F ?_)
  rintro u h3 ⟨y, rfl, exy, F⟩
  exact x_icmp_eq (tgt := 770) hM d_La_law_663 (by decide) (fun _ => kk h3 F) (fun z => absurd exy z)
set_option maxRecDepth 100000 in
theorem La_c19 (hG : gok G) (hM : mok G M r_La_law Q K) (hs : Scr G M b L xs) (hn : n + 6 ≤ L) (hL : L ≤ 3072) (ht : kT h v1 = 1) (F : sem G r_WP_cover [.ref v1] h (fun u h2 => ∃ x : Int32, u = some (.int x) ∧ (kT h2 v2 = 12 ∧ sem G r_Mo_cover [.ref v2] h2 (fun u h3 => ∃ y : Int32, u = some (.int y) ∧ (x = y ∧ Z h3))))) (kk : ∀ h3, Z h3 → X G M Q 770 [(0, .ref b), (1, .ref v1), (2, .ref v2), (3, .int (nI n))] [] h3) : X G M Q 668 [(0, .ref b), (1, .ref v1), (2, .ref v2), (3, .int (nI n))] [] h := by
  refine x_aload_n hM d_La_law_668 rfl 1 rfl ?_
  refine x_callV hG hM (r' := r_WP_cover) (ci := 0) [] rfl rfl (Nat.le_of_ble_eq_true rfl) yk_WP_cover ⟨Nat.le_of_ble_eq_true rfl, Nat.le_of_ble_eq_true rfl⟩ w_839 w_840 w_841 rfl rfl (Nat.le_of_ble_eq_true rfl) d_La_law_669 ht (sem_mono F ?_)
  rintro u h2 ⟨x, rfl, ht2, F⟩
  refine x_aload_n hM d_La_law_672 rfl 2 rfl ?_
  refine x_callV hG hM (r' := r_Mo_cover) (ci := 11) [] rfl rfl (Nat.le_of_ble_eq_true rfl) yk_Mo_cover ⟨Nat.le_of_ble_eq_true rfl, Nat.le_of_ble_eq_true rfl⟩ w_1076 w_1077 w_1078 rfl rfl (Nat.le_of_ble_eq_true rfl) d_La_law_673 ht2 (sem_mono F ?_)
  rintro u h3 ⟨y, rfl, exy, F⟩
  exact x_icmp_eq (tgt := 770) hM d_La_law_676 (by decide) (fun _ => kk h3 F) (fun z => absurd exy z)
set_option maxRecDepth 100000 in
theorem La_c20 (hG : gok G) (hM : mok G M r_La_law Q K) (hs : Scr G M b L xs) (hn : n + 6 ≤ L) (hL : L ≤ 3072) (ht : kT h v1 = 1) (F : sem G r_WP_part [.ref v1, .int (xs (n + 1)), .int (xs (n + 2)), .int (xs (n + 3)), .int (xs (n + 4))] h (fun u h2 => ∃ x : Int32, u = some (.int x) ∧ (kT h2 v2 = 12 ∧ sem G r_Mo_part [.ref v2, .int (xs (n + 1)), .int (xs (n + 2)), .int (xs (n + 3)), .int (xs (n + 4))] h2 (fun u h3 => ∃ y : Int32, u = some (.int y) ∧ (x = y ∧ Z h3))))) (kk : ∀ h3, Z h3 → X G M Q 770 [(0, .ref b), (1, .ref v1), (2, .ref v2), (3, .int (nI n))] [] h3) : X G M Q 681 [(0, .ref b), (1, .ref v1), (2, .ref v2), (3, .int (nI n))] [] h := by
  refine x_aload_n hM d_La_law_681 rfl 1 rfl ?_
  refine x_aload_n hM d_La_law_682 rfl 0 rfl ?_
  refine x_iload_n hM d_La_law_683 rfl 3 rfl ?_
  refine x_iconst (v := 1) hM d_La_law_684 (by decide) ?_
  refine x_iadd hM d_La_law_685 ?_
  refine x_sld hM hs (k := n + 1) (nI_ad n 1) (by omega) d_La_law_686 ?_
  refine x_aload_n hM d_La_law_687 rfl 0 rfl ?_
  refine x_iload_n hM d_La_law_688 rfl 3 rfl ?_
  refine x_iconst (v := 2) hM d_La_law_689 (by decide) ?_
  refine x_iadd hM d_La_law_690 ?_
  refine x_sld hM hs (k := n + 2) (nI_ad n 2) (by omega) d_La_law_691 ?_
  refine x_aload_n hM d_La_law_692 rfl 0 rfl ?_
  refine x_iload_n hM d_La_law_693 rfl 3 rfl ?_
  refine x_iconst (v := 3) hM d_La_law_694 (by decide) ?_
  refine x_iadd hM d_La_law_695 ?_
  refine x_sld hM hs (k := n + 3) (nI_ad n 3) (by omega) d_La_law_696 ?_
  refine x_aload_n hM d_La_law_697 rfl 0 rfl ?_
  refine x_iload_n hM d_La_law_698 rfl 3 rfl ?_
  refine x_iconst (v := 4) hM d_La_law_699 (by decide) ?_
  refine x_iadd hM d_La_law_700 ?_
  refine x_sld hM hs (k := n + 4) (nI_ad n 4) (by omega) d_La_law_701 ?_
  refine x_callV hG hM (r' := r_WP_part) (ci := 0) [.int (xs (n + 1)), .int (xs (n + 2)), .int (xs (n + 3)), .int (xs (n + 4))] rfl rfl (Nat.le_of_ble_eq_true rfl) yk_WP_part ⟨Nat.le_of_ble_eq_true rfl, Nat.le_of_ble_eq_true rfl⟩ w_851 w_852 w_853 rfl rfl (Nat.le_of_ble_eq_true rfl) d_La_law_702 ht (sem_mono F ?_)
  rintro u h2 ⟨x, rfl, ht2, F⟩
  refine x_aload_n hM d_La_law_705 rfl 2 rfl ?_
  refine x_aload_n hM d_La_law_706 rfl 0 rfl ?_
  refine x_iload_n hM d_La_law_707 rfl 3 rfl ?_
  refine x_iconst (v := 1) hM d_La_law_708 (by decide) ?_
  refine x_iadd hM d_La_law_709 ?_
  refine x_sld hM hs (k := n + 1) (nI_ad n 1) (by omega) d_La_law_710 ?_
  refine x_aload_n hM d_La_law_711 rfl 0 rfl ?_
  refine x_iload_n hM d_La_law_712 rfl 3 rfl ?_
  refine x_iconst (v := 2) hM d_La_law_713 (by decide) ?_
  refine x_iadd hM d_La_law_714 ?_
  refine x_sld hM hs (k := n + 2) (nI_ad n 2) (by omega) d_La_law_715 ?_
  refine x_aload_n hM d_La_law_716 rfl 0 rfl ?_
  refine x_iload_n hM d_La_law_717 rfl 3 rfl ?_
  refine x_iconst (v := 3) hM d_La_law_718 (by decide) ?_
  refine x_iadd hM d_La_law_719 ?_
  refine x_sld hM hs (k := n + 3) (nI_ad n 3) (by omega) d_La_law_720 ?_
  refine x_aload_n hM d_La_law_721 rfl 0 rfl ?_
  refine x_iload_n hM d_La_law_722 rfl 3 rfl ?_
  refine x_iconst (v := 4) hM d_La_law_723 (by decide) ?_
  refine x_iadd hM d_La_law_724 ?_
  refine x_sld hM hs (k := n + 4) (nI_ad n 4) (by omega) d_La_law_725 ?_
  refine x_callV hG hM (r' := r_Mo_part) (ci := 11) [.int (xs (n + 1)), .int (xs (n + 2)), .int (xs (n + 3)), .int (xs (n + 4))] rfl rfl (Nat.le_of_ble_eq_true rfl) yk_Mo_part ⟨Nat.le_of_ble_eq_true rfl, Nat.le_of_ble_eq_true rfl⟩ w_1080 w_1081 w_1082 rfl rfl (Nat.le_of_ble_eq_true rfl) d_La_law_726 ht2 (sem_mono F ?_)
  rintro u h3 ⟨y, rfl, exy, F⟩
  exact x_icmp_eq (tgt := 770) hM d_La_law_729 (by decide) (fun _ => kk h3 F) (fun z => absurd exy z)
set_option maxRecDepth 100000 in
theorem La_c21 (hG : gok G) (hM : mok G M r_La_law Q K) (hs : Scr G M b L xs) (hn : n + 6 ≤ L) (hL : L ≤ 3072) (ht : kT h v1 = 1) (F : sem G r_WP_bare [.ref v1] h (fun u h2 => ∃ x : Int32, u = some (.int x) ∧ (kT h2 v2 = 12 ∧ sem G r_Mo_bare [.ref v2] h2 (fun u h3 => ∃ y : Int32, u = some (.int y) ∧ (x = y ∧ Z h3))))) (kk : ∀ h3, Z h3 → X G M Q 770 [(0, .ref b), (1, .ref v1), (2, .ref v2), (3, .int (nI n))] [] h3) : X G M Q 734 [(0, .ref b), (1, .ref v1), (2, .ref v2), (3, .int (nI n))] [] h := by
  refine x_aload_n hM d_La_law_734 rfl 1 rfl ?_
  refine x_callV hG hM (r' := r_WP_bare) (ci := 0) [] rfl rfl (Nat.le_of_ble_eq_true rfl) yk_WP_bare ⟨Nat.le_of_ble_eq_true rfl, Nat.le_of_ble_eq_true rfl⟩ w_855 w_856 w_857 rfl rfl (Nat.le_of_ble_eq_true rfl) d_La_law_735 ht (sem_mono F ?_)
  rintro u h2 ⟨x, rfl, ht2, F⟩
  refine x_aload_n hM d_La_law_738 rfl 2 rfl ?_
  refine x_callV hG hM (r' := r_Mo_bare) (ci := 11) [] rfl rfl (Nat.le_of_ble_eq_true rfl) yk_Mo_bare ⟨Nat.le_of_ble_eq_true rfl, Nat.le_of_ble_eq_true rfl⟩ w_1084 w_1085 w_1086 rfl rfl (Nat.le_of_ble_eq_true rfl) d_La_law_739 ht2 (sem_mono F ?_)
  rintro u h3 ⟨y, rfl, exy, F⟩
  exact x_icmp_eq (tgt := 770) hM d_La_law_742 (by decide) (fun _ => kk h3 F) (fun z => absurd exy z)
set_option maxRecDepth 100000 in
theorem La_c22 (hG : gok G) (hM : mok G M r_La_law Q K) (hs : Scr G M b L xs) (hn : n + 6 ≤ L) (hL : L ≤ 3072) (ht : kT h v1 = 1) (F : sem G r_WP_flaw [.ref v1, .int (xs (n + 1))] h (fun u h2 => ∃ x : Int32, u = some (.int x) ∧ (kT h2 v2 = 12 ∧ sem G r_Mo_flaw [.ref v2, .int (xs (n + 1))] h2 (fun u h3 => ∃ y : Int32, u = some (.int y) ∧ (x = y ∧ Z h3))))) (kk : ∀ h3, Z h3 → X G M Q 770 [(0, .ref b), (1, .ref v1), (2, .ref v2), (3, .int (nI n))] [] h3) : X G M Q 747 [(0, .ref b), (1, .ref v1), (2, .ref v2), (3, .int (nI n))] [] h := by
  refine x_aload_n hM d_La_law_747 rfl 1 rfl ?_
  refine x_aload_n hM d_La_law_748 rfl 0 rfl ?_
  refine x_iload_n hM d_La_law_749 rfl 3 rfl ?_
  refine x_iconst (v := 1) hM d_La_law_750 (by decide) ?_
  refine x_iadd hM d_La_law_751 ?_
  refine x_sld hM hs (k := n + 1) (nI_ad n 1) (by omega) d_La_law_752 ?_
  refine x_callV hG hM (r' := r_WP_flaw) (ci := 0) [.int (xs (n + 1))] rfl rfl (Nat.le_of_ble_eq_true rfl) yk_WP_flaw ⟨Nat.le_of_ble_eq_true rfl, Nat.le_of_ble_eq_true rfl⟩ w_859 w_860 w_861 rfl rfl (Nat.le_of_ble_eq_true rfl) d_La_law_753 ht (sem_mono F ?_)
  rintro u h2 ⟨x, rfl, ht2, F⟩
  refine x_aload_n hM d_La_law_756 rfl 2 rfl ?_
  refine x_aload_n hM d_La_law_757 rfl 0 rfl ?_
  refine x_iload_n hM d_La_law_758 rfl 3 rfl ?_
  refine x_iconst (v := 1) hM d_La_law_759 (by decide) ?_
  refine x_iadd hM d_La_law_760 ?_
  refine x_sld hM hs (k := n + 1) (nI_ad n 1) (by omega) d_La_law_761 ?_
  refine x_callV hG hM (r' := r_Mo_flaw) (ci := 11) [.int (xs (n + 1))] rfl rfl (Nat.le_of_ble_eq_true rfl) yk_Mo_flaw ⟨Nat.le_of_ble_eq_true rfl, Nat.le_of_ble_eq_true rfl⟩ w_1197 w_1198 w_1199 rfl rfl (Nat.le_of_ble_eq_true rfl) d_La_law_762 ht2 (sem_mono F ?_)
  rintro u h3 ⟨y, rfl, exy, F⟩
  exact x_icmp_eq (tgt := 770) hM d_La_law_765 (by decide) (fun _ => kk h3 F) (fun z => absurd exy z)
end LA
