/-! THE CASES OF THE LAW'S SWITCH, laid by wip/whole/gen61.py. -/
theorem tn_wl0 : (.codeWith ⟨"TermNetLaw", "sign", "(LTermNet;I[J)I"⟩ method_3_code 4 (some .int) [(0, 9, 12, 13), (0, 9, 15, 15)] : Cond) ∈ tn_TS := tn_in 191 (by decide +kernel) (by decide +kernel)
theorem tn_wl1 : (.methodLink "TermNetLaw" 66 ⟨"TermNetLaw", "sign", "(LTermNet;I[J)I"⟩ : Cond) ∈ tn_TS := tn_in 189 (by decide +kernel) (by decide +kernel)
theorem tn_wl2 : (.static ⟨"TermNetLaw", "sign", "(LTermNet;I[J)I"⟩ : Cond) ∈ tn_TS := tn_in 190 (by decide +kernel) (by decide +kernel)
theorem tn_wl3 : (.initialized "TermNetLaw" : Cond) ∈ tn_TS := tn_in 22 (by decide +kernel) (by decide +kernel)
theorem tn_wl4 : (.methodLink "TermNetLaw" 71 ⟨"TermNetModel", "sign", "(I)I"⟩ : Cond) ∈ tn_TS := tn_in 649 (by decide +kernel) (by decide +kernel)
theorem tn_wl5 : (.instanceMethod ⟨"TermNetModel", "sign", "(I)I"⟩ : Cond) ∈ tn_TS := tn_in 650 (by decide +kernel) (by decide +kernel)
theorem tn_wl6 : (.selects "TermNetModel" ⟨"TermNetModel", "sign", "(I)I"⟩ ⟨"TermNetModel", "sign", "(I)I"⟩ : Cond) ∈ tn_TS := tn_in 651 (by decide +kernel) (by decide +kernel)
theorem tn_wl7 : (.codeWith ⟨"TermNetLaw", "unknown", "(LTermNet;[J)I"⟩ method_4_code 3 (some .int) [(0, 8, 11, 15)] : Cond) ∈ tn_TS := tn_in 288 (by decide +kernel) (by decide +kernel)
theorem tn_wl8 : (.methodLink "TermNetLaw" 75 ⟨"TermNetLaw", "unknown", "(LTermNet;[J)I"⟩ : Cond) ∈ tn_TS := tn_in 286 (by decide +kernel) (by decide +kernel)
theorem tn_wl9 : (.static ⟨"TermNetLaw", "unknown", "(LTermNet;[J)I"⟩ : Cond) ∈ tn_TS := tn_in 287 (by decide +kernel) (by decide +kernel)
theorem tn_wl10 : (.methodLink "TermNetLaw" 78 ⟨"TermNetModel", "unknown", "()I"⟩ : Cond) ∈ tn_TS := tn_in 653 (by decide +kernel) (by decide +kernel)
theorem tn_wl11 : (.instanceMethod ⟨"TermNetModel", "unknown", "()I"⟩ : Cond) ∈ tn_TS := tn_in 654 (by decide +kernel) (by decide +kernel)
theorem tn_wl12 : (.selects "TermNetModel" ⟨"TermNetModel", "unknown", "()I"⟩ ⟨"TermNetModel", "unknown", "()I"⟩ : Cond) ∈ tn_TS := tn_in 655 (by decide +kernel) (by decide +kernel)
theorem tn_wl13 : (.codeWith ⟨"TermNetLaw", "term", "(LTermNet;IIII[J)I"⟩ method_5_code 7 (some .int) [(0, 14, 17, 13), (0, 14, 21, 15)] : Cond) ∈ tn_TS := tn_in 308 (by decide +kernel) (by decide +kernel)
theorem tn_wl14 : (.methodLink "TermNetLaw" 79 ⟨"TermNetLaw", "term", "(LTermNet;IIII[J)I"⟩ : Cond) ∈ tn_TS := tn_in 306 (by decide +kernel) (by decide +kernel)
theorem tn_wl15 : (.static ⟨"TermNetLaw", "term", "(LTermNet;IIII[J)I"⟩ : Cond) ∈ tn_TS := tn_in 307 (by decide +kernel) (by decide +kernel)
theorem tn_wl16 : (.methodLink "TermNetLaw" 82 ⟨"TermNetModel", "term", "(IIII)I"⟩ : Cond) ∈ tn_TS := tn_in 669 (by decide +kernel) (by decide +kernel)
theorem tn_wl17 : (.instanceMethod ⟨"TermNetModel", "term", "(IIII)I"⟩ : Cond) ∈ tn_TS := tn_in 670 (by decide +kernel) (by decide +kernel)
theorem tn_wl18 : (.selects "TermNetModel" ⟨"TermNetModel", "term", "(IIII)I"⟩ ⟨"TermNetModel", "term", "(IIII)I"⟩ : Cond) ∈ tn_TS := tn_in 671 (by decide +kernel) (by decide +kernel)
theorem tn_wl19 : (.codeWith ⟨"TermNetLaw", "equal", "(LTermNet;II[J)I"⟩ method_6_code 5 (some .int) [(0, 17, 20, 13)] : Cond) ∈ tn_TS := tn_in 362 (by decide +kernel) (by decide +kernel)
theorem tn_wl20 : (.methodLink "TermNetLaw" 83 ⟨"TermNetLaw", "equal", "(LTermNet;II[J)I"⟩ : Cond) ∈ tn_TS := tn_in 360 (by decide +kernel) (by decide +kernel)
theorem tn_wl21 : (.static ⟨"TermNetLaw", "equal", "(LTermNet;II[J)I"⟩ : Cond) ∈ tn_TS := tn_in 361 (by decide +kernel) (by decide +kernel)
theorem tn_wl22 : (.methodLink "TermNetLaw" 86 ⟨"TermNetModel", "equal", "(II)Z"⟩ : Cond) ∈ tn_TS := tn_in 677 (by decide +kernel) (by decide +kernel)
theorem tn_wl23 : (.instanceMethod ⟨"TermNetModel", "equal", "(II)Z"⟩ : Cond) ∈ tn_TS := tn_in 678 (by decide +kernel) (by decide +kernel)
theorem tn_wl24 : (.selects "TermNetModel" ⟨"TermNetModel", "equal", "(II)Z"⟩ ⟨"TermNetModel", "equal", "(II)Z"⟩ : Cond) ∈ tn_TS := tn_in 679 (by decide +kernel) (by decide +kernel)
theorem tn_wl25 : (.codeWith ⟨"TermNetLaw", "same", "(LTermNet;II[J)I"⟩ method_7_code 5 (some .int) [(0, 17, 20, 13)] : Cond) ∈ tn_TS := tn_in 457 (by decide +kernel) (by decide +kernel)
theorem tn_wl26 : (.methodLink "TermNetLaw" 87 ⟨"TermNetLaw", "same", "(LTermNet;II[J)I"⟩ : Cond) ∈ tn_TS := tn_in 455 (by decide +kernel) (by decide +kernel)
theorem tn_wl27 : (.static ⟨"TermNetLaw", "same", "(LTermNet;II[J)I"⟩ : Cond) ∈ tn_TS := tn_in 456 (by decide +kernel) (by decide +kernel)
theorem tn_wl28 : (.methodLink "TermNetLaw" 89 ⟨"TermNetModel", "same", "(II)Z"⟩ : Cond) ∈ tn_TS := tn_in 686 (by decide +kernel) (by decide +kernel)
theorem tn_wl29 : (.instanceMethod ⟨"TermNetModel", "same", "(II)Z"⟩ : Cond) ∈ tn_TS := tn_in 687 (by decide +kernel) (by decide +kernel)
theorem tn_wl30 : (.selects "TermNetModel" ⟨"TermNetModel", "same", "(II)Z"⟩ ⟨"TermNetModel", "same", "(II)Z"⟩ : Cond) ∈ tn_TS := tn_in 688 (by decide +kernel) (by decide +kernel)
theorem tn_wl31 : (.codeWith ⟨"TermNetLaw", "top", "(LTermNet;I[J)I"⟩ method_8_code 4 (some .int) [(0, 9, 12, 13)] : Cond) ∈ tn_TS := tn_in 465 (by decide +kernel) (by decide +kernel)
theorem tn_wl32 : (.methodLink "TermNetLaw" 90 ⟨"TermNetLaw", "top", "(LTermNet;I[J)I"⟩ : Cond) ∈ tn_TS := tn_in 463 (by decide +kernel) (by decide +kernel)
theorem tn_wl33 : (.static ⟨"TermNetLaw", "top", "(LTermNet;I[J)I"⟩ : Cond) ∈ tn_TS := tn_in 464 (by decide +kernel) (by decide +kernel)
theorem tn_wl34 : (.methodLink "TermNetLaw" 92 ⟨"TermNetModel", "top", "(I)I"⟩ : Cond) ∈ tn_TS := tn_in 690 (by decide +kernel) (by decide +kernel)
theorem tn_wl35 : (.instanceMethod ⟨"TermNetModel", "top", "(I)I"⟩ : Cond) ∈ tn_TS := tn_in 691 (by decide +kernel) (by decide +kernel)
theorem tn_wl36 : (.selects "TermNetModel" ⟨"TermNetModel", "top", "(I)I"⟩ ⟨"TermNetModel", "top", "(I)I"⟩ : Cond) ∈ tn_TS := tn_in 692 (by decide +kernel) (by decide +kernel)
theorem tn_wl37 : (.codeWith ⟨"TermNetLaw", "part", "(LTermNet;II[J)I"⟩ method_9_code 5 (some .int) [(0, 10, 13, 13), (0, 10, 17, 39)] : Cond) ∈ tn_TS := tn_in 474 (by decide +kernel) (by decide +kernel)
theorem tn_wl38 : (.methodLink "TermNetLaw" 93 ⟨"TermNetLaw", "part", "(LTermNet;II[J)I"⟩ : Cond) ∈ tn_TS := tn_in 472 (by decide +kernel) (by decide +kernel)
theorem tn_wl39 : (.static ⟨"TermNetLaw", "part", "(LTermNet;II[J)I"⟩ : Cond) ∈ tn_TS := tn_in 473 (by decide +kernel) (by decide +kernel)
theorem tn_wl40 : (.methodLink "TermNetLaw" 95 ⟨"TermNetModel", "part", "(II)I"⟩ : Cond) ∈ tn_TS := tn_in 694 (by decide +kernel) (by decide +kernel)
theorem tn_wl41 : (.instanceMethod ⟨"TermNetModel", "part", "(II)I"⟩ : Cond) ∈ tn_TS := tn_in 695 (by decide +kernel) (by decide +kernel)
theorem tn_wl42 : (.selects "TermNetModel" ⟨"TermNetModel", "part", "(II)I"⟩ ⟨"TermNetModel", "part", "(II)I"⟩ : Cond) ∈ tn_TS := tn_in 696 (by decide +kernel) (by decide +kernel)
theorem tn_wl43 : (.codeWith ⟨"TermNetLaw", "least", "(LTermNet;I[J)I"⟩ method_10_code 4 (some .int) [(0, 9, 12, 13)] : Cond) ∈ tn_TS := tn_in 500 (by decide +kernel) (by decide +kernel)
theorem tn_wl44 : (.methodLink "TermNetLaw" 96 ⟨"TermNetLaw", "least", "(LTermNet;I[J)I"⟩ : Cond) ∈ tn_TS := tn_in 498 (by decide +kernel) (by decide +kernel)
theorem tn_wl45 : (.static ⟨"TermNetLaw", "least", "(LTermNet;I[J)I"⟩ : Cond) ∈ tn_TS := tn_in 499 (by decide +kernel) (by decide +kernel)
theorem tn_wl46 : (.methodLink "TermNetLaw" 98 ⟨"TermNetModel", "least", "(I)I"⟩ : Cond) ∈ tn_TS := tn_in 698 (by decide +kernel) (by decide +kernel)
theorem tn_wl47 : (.instanceMethod ⟨"TermNetModel", "least", "(I)I"⟩ : Cond) ∈ tn_TS := tn_in 699 (by decide +kernel) (by decide +kernel)
theorem tn_wl48 : (.selects "TermNetModel" ⟨"TermNetModel", "least", "(I)I"⟩ ⟨"TermNetModel", "least", "(I)I"⟩ : Cond) ∈ tn_TS := tn_in 700 (by decide +kernel) (by decide +kernel)
theorem tn_wl49 : (.codeWith ⟨"TermNetLaw", "size", "(LTermNet;I[J)I"⟩ method_11_code 4 (some .int) [(0, 9, 12, 13)] : Cond) ∈ tn_TS := tn_in 507 (by decide +kernel) (by decide +kernel)
theorem tn_wl50 : (.methodLink "TermNetLaw" 99 ⟨"TermNetLaw", "size", "(LTermNet;I[J)I"⟩ : Cond) ∈ tn_TS := tn_in 505 (by decide +kernel) (by decide +kernel)
theorem tn_wl51 : (.static ⟨"TermNetLaw", "size", "(LTermNet;I[J)I"⟩ : Cond) ∈ tn_TS := tn_in 506 (by decide +kernel) (by decide +kernel)
theorem tn_wl52 : (.methodLink "TermNetLaw" 101 ⟨"TermNetModel", "size", "(I)I"⟩ : Cond) ∈ tn_TS := tn_in 702 (by decide +kernel) (by decide +kernel)
theorem tn_wl53 : (.instanceMethod ⟨"TermNetModel", "size", "(I)I"⟩ : Cond) ∈ tn_TS := tn_in 703 (by decide +kernel) (by decide +kernel)
theorem tn_wl54 : (.selects "TermNetModel" ⟨"TermNetModel", "size", "(I)I"⟩ ⟨"TermNetModel", "size", "(I)I"⟩ : Cond) ∈ tn_TS := tn_in 704 (by decide +kernel) (by decide +kernel)
theorem tn_wl55 : (.codeWith ⟨"TermNetLaw", "depth", "(LTermNet;I[J)I"⟩ method_12_code 4 (some .int) [(0, 9, 12, 13)] : Cond) ∈ tn_TS := tn_in 530 (by decide +kernel) (by decide +kernel)
theorem tn_wl56 : (.methodLink "TermNetLaw" 102 ⟨"TermNetLaw", "depth", "(LTermNet;I[J)I"⟩ : Cond) ∈ tn_TS := tn_in 528 (by decide +kernel) (by decide +kernel)
theorem tn_wl57 : (.static ⟨"TermNetLaw", "depth", "(LTermNet;I[J)I"⟩ : Cond) ∈ tn_TS := tn_in 529 (by decide +kernel) (by decide +kernel)
theorem tn_wl58 : (.methodLink "TermNetLaw" 104 ⟨"TermNetModel", "depth", "(I)I"⟩ : Cond) ∈ tn_TS := tn_in 706 (by decide +kernel) (by decide +kernel)
theorem tn_wl59 : (.instanceMethod ⟨"TermNetModel", "depth", "(I)I"⟩ : Cond) ∈ tn_TS := tn_in 707 (by decide +kernel) (by decide +kernel)
theorem tn_wl60 : (.selects "TermNetModel" ⟨"TermNetModel", "depth", "(I)I"⟩ ⟨"TermNetModel", "depth", "(I)I"⟩ : Cond) ∈ tn_TS := tn_in 708 (by decide +kernel) (by decide +kernel)
theorem tn_wl61 : (.codeWith ⟨"TermNetLaw", "inside", "(LTermNet;II[J)I"⟩ method_13_code 5 (some .int) [(0, 17, 20, 13)] : Cond) ∈ tn_TS := tn_in 546 (by decide +kernel) (by decide +kernel)
theorem tn_wl62 : (.methodLink "TermNetLaw" 105 ⟨"TermNetLaw", "inside", "(LTermNet;II[J)I"⟩ : Cond) ∈ tn_TS := tn_in 544 (by decide +kernel) (by decide +kernel)
theorem tn_wl63 : (.static ⟨"TermNetLaw", "inside", "(LTermNet;II[J)I"⟩ : Cond) ∈ tn_TS := tn_in 545 (by decide +kernel) (by decide +kernel)
theorem tn_wl64 : (.methodLink "TermNetLaw" 107 ⟨"TermNetModel", "inside", "(II)Z"⟩ : Cond) ∈ tn_TS := tn_in 710 (by decide +kernel) (by decide +kernel)
theorem tn_wl65 : (.instanceMethod ⟨"TermNetModel", "inside", "(II)Z"⟩ : Cond) ∈ tn_TS := tn_in 711 (by decide +kernel) (by decide +kernel)
theorem tn_wl66 : (.selects "TermNetModel" ⟨"TermNetModel", "inside", "(II)Z"⟩ ⟨"TermNetModel", "inside", "(II)Z"⟩ : Cond) ∈ tn_TS := tn_in 712 (by decide +kernel) (by decide +kernel)
theorem tn_wl67 : (.codeWith ⟨"TermNetLaw", "unknowns", "(LTermNet;I[J)I"⟩ method_14_code 4 (some .int) [(0, 9, 12, 13)] : Cond) ∈ tn_TS := tn_in 557 (by decide +kernel) (by decide +kernel)
theorem tn_wl68 : (.methodLink "TermNetLaw" 108 ⟨"TermNetLaw", "unknowns", "(LTermNet;I[J)I"⟩ : Cond) ∈ tn_TS := tn_in 555 (by decide +kernel) (by decide +kernel)
theorem tn_wl69 : (.static ⟨"TermNetLaw", "unknowns", "(LTermNet;I[J)I"⟩ : Cond) ∈ tn_TS := tn_in 556 (by decide +kernel) (by decide +kernel)
theorem tn_wl70 : (.methodLink "TermNetLaw" 110 ⟨"TermNetModel", "unknowns", "(I)I"⟩ : Cond) ∈ tn_TS := tn_in 718 (by decide +kernel) (by decide +kernel)
theorem tn_wl71 : (.instanceMethod ⟨"TermNetModel", "unknowns", "(I)I"⟩ : Cond) ∈ tn_TS := tn_in 719 (by decide +kernel) (by decide +kernel)
theorem tn_wl72 : (.selects "TermNetModel" ⟨"TermNetModel", "unknowns", "(I)I"⟩ ⟨"TermNetModel", "unknowns", "(I)I"⟩ : Cond) ∈ tn_TS := tn_in 720 (by decide +kernel) (by decide +kernel)
theorem tn_wl73 : (.codeWith ⟨"TermNetLaw", "mark", "(LTermNet;[J)I"⟩ method_15_code 3 (some .int) [(0, 8, 11, 15)] : Cond) ∈ tn_TS := tn_in 569 (by decide +kernel) (by decide +kernel)
theorem tn_wl74 : (.methodLink "TermNetLaw" 111 ⟨"TermNetLaw", "mark", "(LTermNet;[J)I"⟩ : Cond) ∈ tn_TS := tn_in 567 (by decide +kernel) (by decide +kernel)
theorem tn_wl75 : (.static ⟨"TermNetLaw", "mark", "(LTermNet;[J)I"⟩ : Cond) ∈ tn_TS := tn_in 568 (by decide +kernel) (by decide +kernel)
theorem tn_wl76 : (.methodLink "TermNetLaw" 113 ⟨"TermNetModel", "mark", "()I"⟩ : Cond) ∈ tn_TS := tn_in 722 (by decide +kernel) (by decide +kernel)
theorem tn_wl77 : (.instanceMethod ⟨"TermNetModel", "mark", "()I"⟩ : Cond) ∈ tn_TS := tn_in 723 (by decide +kernel) (by decide +kernel)
theorem tn_wl78 : (.selects "TermNetModel" ⟨"TermNetModel", "mark", "()I"⟩ ⟨"TermNetModel", "mark", "()I"⟩ : Cond) ∈ tn_TS := tn_in 724 (by decide +kernel) (by decide +kernel)
theorem tn_wl79 : (.codeWith ⟨"TermNetLaw", "back", "(LTermNet;[J)I"⟩ method_16_code 3 (some .int) [(0, 8, 11, 39)] : Cond) ∈ tn_TS := tn_in 577 (by decide +kernel) (by decide +kernel)
theorem tn_wl80 : (.methodLink "TermNetLaw" 114 ⟨"TermNetLaw", "back", "(LTermNet;[J)I"⟩ : Cond) ∈ tn_TS := tn_in 575 (by decide +kernel) (by decide +kernel)
theorem tn_wl81 : (.static ⟨"TermNetLaw", "back", "(LTermNet;[J)I"⟩ : Cond) ∈ tn_TS := tn_in 576 (by decide +kernel) (by decide +kernel)
theorem tn_wl82 : (.methodLink "TermNetLaw" 116 ⟨"TermNetModel", "back", "()I"⟩ : Cond) ∈ tn_TS := tn_in 726 (by decide +kernel) (by decide +kernel)
theorem tn_wl83 : (.instanceMethod ⟨"TermNetModel", "back", "()I"⟩ : Cond) ∈ tn_TS := tn_in 727 (by decide +kernel) (by decide +kernel)
theorem tn_wl84 : (.selects "TermNetModel" ⟨"TermNetModel", "back", "()I"⟩ ⟨"TermNetModel", "back", "()I"⟩ : Cond) ∈ tn_TS := tn_in 728 (by decide +kernel) (by decide +kernel)
theorem tn_wl85 : (.methodLink "TermNetLaw" 117 ⟨"TermNet", "count", "(I)I"⟩ : Cond) ∈ tn_TS := tn_in 181 (by decide +kernel) (by decide +kernel)
theorem tn_wl86 : (.instanceMethod ⟨"TermNet", "count", "(I)I"⟩ : Cond) ∈ tn_TS := tn_in 182 (by decide +kernel) (by decide +kernel)
theorem tn_wl87 : (.selects "TermNet" ⟨"TermNet", "count", "(I)I"⟩ ⟨"TermNet", "count", "(I)I"⟩ : Cond) ∈ tn_TS := tn_in 183 (by decide +kernel) (by decide +kernel)
theorem tn_wl88 : (.methodLink "TermNetLaw" 120 ⟨"TermNetModel", "count", "(I)I"⟩ : Cond) ∈ tn_TS := tn_in 730 (by decide +kernel) (by decide +kernel)
theorem tn_wl89 : (.instanceMethod ⟨"TermNetModel", "count", "(I)I"⟩ : Cond) ∈ tn_TS := tn_in 731 (by decide +kernel) (by decide +kernel)
theorem tn_wl90 : (.selects "TermNetModel" ⟨"TermNetModel", "count", "(I)I"⟩ ⟨"TermNetModel", "count", "(I)I"⟩ : Cond) ∈ tn_TS := tn_in 732 (by decide +kernel) (by decide +kernel)
theorem tn_dl_112 : decode code 112 = .ok (.aload_n 1, 1) := by decide +kernel
theorem tn_dl_113 : decode code 113 = .ok (.aload_n 0, 1) := by decide +kernel
theorem tn_dl_114 : decode code 114 = .ok (.iload 4, 2) := by decide +kernel
theorem tn_dl_116 : decode code 116 = .ok (.iconst 1, 1) := by decide +kernel
theorem tn_dl_117 : decode code 117 = .ok (.iadd, 1) := by decide +kernel
theorem tn_dl_118 : decode code 118 = .ok (.iaload, 1) := by decide +kernel
theorem tn_dl_119 : decode code 119 = .ok (.aload_n 3, 1) := by decide +kernel
theorem tn_dl_120 : decode code 120 = .ok (.invokestatic 66, 3) := by decide +kernel
theorem tn_dl_123 : decode code 123 = .ok (.istore 5, 2) := by decide +kernel
theorem tn_dl_125 : decode code 125 = .ok (.aload_n 2, 1) := by decide +kernel
theorem tn_dl_126 : decode code 126 = .ok (.aload_n 0, 1) := by decide +kernel
theorem tn_dl_127 : decode code 127 = .ok (.iload 4, 2) := by decide +kernel
theorem tn_dl_129 : decode code 129 = .ok (.iconst 1, 1) := by decide +kernel
theorem tn_dl_130 : decode code 130 = .ok (.iadd, 1) := by decide +kernel
theorem tn_dl_131 : decode code 131 = .ok (.iaload, 1) := by decide +kernel
theorem tn_dl_132 : decode code 132 = .ok (.invokevirtual 71, 3) := by decide +kernel
theorem tn_dl_135 : decode code 135 = .ok (.istore 6, 2) := by decide +kernel
theorem tn_dl_137 : decode code 137 = .ok (.aload_n 2, 1) := by decide +kernel
theorem tn_dl_138 : decode code 138 = .ok (.invokevirtual 72, 3) := by decide +kernel
theorem tn_dl_141 : decode code 141 = .ok (.iload 5, 2) := by decide +kernel
theorem tn_dl_143 : decode code 143 = .ok (.if_icmp .eq 5, 3) := by decide +kernel
theorem tn_dl_148 : decode code 148 = .ok (.iload 5, 2) := by decide +kernel
theorem tn_dl_150 : decode code 150 = .ok (.ifCond .ne 15, 3) := by decide +kernel
theorem tn_dl_153 : decode code 153 = .ok (.aload_n 3, 1) := by decide +kernel
theorem tn_dl_154 : decode code 154 = .ok (.iconst 0, 1) := by decide +kernel
theorem tn_dl_155 : decode code 155 = .ok (.laload, 1) := by decide +kernel
theorem tn_dl_156 : decode code 156 = .ok (.iload 6, 2) := by decide +kernel
theorem tn_dl_158 : decode code 158 = .ok (.i2l, 1) := by decide +kernel
theorem tn_dl_159 : decode code 159 = .ok (.lcmp, 1) := by decide +kernel
theorem tn_dl_160 : decode code 160 = .ok (.ifCond .eq 5, 3) := by decide +kernel
theorem tn_dl_165 : decode code 165 = .ok (.goto 825, 3) := by decide +kernel
theorem tn_dl_168 : decode code 168 = .ok (.aload_n 1, 1) := by decide +kernel
theorem tn_dl_169 : decode code 169 = .ok (.aload_n 3, 1) := by decide +kernel
theorem tn_dl_170 : decode code 170 = .ok (.invokestatic 75, 3) := by decide +kernel
theorem tn_dl_173 : decode code 173 = .ok (.istore 5, 2) := by decide +kernel
theorem tn_dl_175 : decode code 175 = .ok (.aload_n 2, 1) := by decide +kernel
theorem tn_dl_176 : decode code 176 = .ok (.invokevirtual 78, 3) := by decide +kernel
theorem tn_dl_179 : decode code 179 = .ok (.istore 6, 2) := by decide +kernel
theorem tn_dl_181 : decode code 181 = .ok (.aload_n 2, 1) := by decide +kernel
theorem tn_dl_182 : decode code 182 = .ok (.invokevirtual 72, 3) := by decide +kernel
theorem tn_dl_185 : decode code 185 = .ok (.iload 5, 2) := by decide +kernel
theorem tn_dl_187 : decode code 187 = .ok (.if_icmp .eq 5, 3) := by decide +kernel
theorem tn_dl_192 : decode code 192 = .ok (.iload 5, 2) := by decide +kernel
theorem tn_dl_194 : decode code 194 = .ok (.ifCond .ne 15, 3) := by decide +kernel
theorem tn_dl_197 : decode code 197 = .ok (.aload_n 3, 1) := by decide +kernel
theorem tn_dl_198 : decode code 198 = .ok (.iconst 0, 1) := by decide +kernel
theorem tn_dl_199 : decode code 199 = .ok (.laload, 1) := by decide +kernel
theorem tn_dl_200 : decode code 200 = .ok (.iload 6, 2) := by decide +kernel
theorem tn_dl_202 : decode code 202 = .ok (.i2l, 1) := by decide +kernel
theorem tn_dl_203 : decode code 203 = .ok (.lcmp, 1) := by decide +kernel
theorem tn_dl_204 : decode code 204 = .ok (.ifCond .eq 5, 3) := by decide +kernel
theorem tn_dl_209 : decode code 209 = .ok (.goto 781, 3) := by decide +kernel
theorem tn_dl_212 : decode code 212 = .ok (.aload_n 1, 1) := by decide +kernel
theorem tn_dl_213 : decode code 213 = .ok (.aload_n 0, 1) := by decide +kernel
theorem tn_dl_214 : decode code 214 = .ok (.iload 4, 2) := by decide +kernel
theorem tn_dl_216 : decode code 216 = .ok (.iconst 1, 1) := by decide +kernel
theorem tn_dl_217 : decode code 217 = .ok (.iadd, 1) := by decide +kernel
theorem tn_dl_218 : decode code 218 = .ok (.iaload, 1) := by decide +kernel
theorem tn_dl_219 : decode code 219 = .ok (.aload_n 0, 1) := by decide +kernel
theorem tn_dl_220 : decode code 220 = .ok (.iload 4, 2) := by decide +kernel
theorem tn_dl_222 : decode code 222 = .ok (.iconst 2, 1) := by decide +kernel
theorem tn_dl_223 : decode code 223 = .ok (.iadd, 1) := by decide +kernel
theorem tn_dl_224 : decode code 224 = .ok (.iaload, 1) := by decide +kernel
theorem tn_dl_225 : decode code 225 = .ok (.aload_n 0, 1) := by decide +kernel
theorem tn_dl_226 : decode code 226 = .ok (.iload 4, 2) := by decide +kernel
theorem tn_dl_228 : decode code 228 = .ok (.iconst 3, 1) := by decide +kernel
theorem tn_dl_229 : decode code 229 = .ok (.iadd, 1) := by decide +kernel
theorem tn_dl_230 : decode code 230 = .ok (.iaload, 1) := by decide +kernel
theorem tn_dl_231 : decode code 231 = .ok (.aload_n 0, 1) := by decide +kernel
theorem tn_dl_232 : decode code 232 = .ok (.iload 4, 2) := by decide +kernel
theorem tn_dl_234 : decode code 234 = .ok (.iconst 4, 1) := by decide +kernel
theorem tn_dl_235 : decode code 235 = .ok (.iadd, 1) := by decide +kernel
theorem tn_dl_236 : decode code 236 = .ok (.iaload, 1) := by decide +kernel
theorem tn_dl_237 : decode code 237 = .ok (.aload_n 3, 1) := by decide +kernel
theorem tn_dl_238 : decode code 238 = .ok (.invokestatic 79, 3) := by decide +kernel
theorem tn_dl_241 : decode code 241 = .ok (.istore 5, 2) := by decide +kernel
theorem tn_dl_243 : decode code 243 = .ok (.aload_n 2, 1) := by decide +kernel
theorem tn_dl_244 : decode code 244 = .ok (.aload_n 0, 1) := by decide +kernel
theorem tn_dl_245 : decode code 245 = .ok (.iload 4, 2) := by decide +kernel
theorem tn_dl_247 : decode code 247 = .ok (.iconst 1, 1) := by decide +kernel
theorem tn_dl_248 : decode code 248 = .ok (.iadd, 1) := by decide +kernel
theorem tn_dl_249 : decode code 249 = .ok (.iaload, 1) := by decide +kernel
theorem tn_dl_250 : decode code 250 = .ok (.aload_n 0, 1) := by decide +kernel
theorem tn_dl_251 : decode code 251 = .ok (.iload 4, 2) := by decide +kernel
theorem tn_dl_253 : decode code 253 = .ok (.iconst 2, 1) := by decide +kernel
theorem tn_dl_254 : decode code 254 = .ok (.iadd, 1) := by decide +kernel
theorem tn_dl_255 : decode code 255 = .ok (.iaload, 1) := by decide +kernel
theorem tn_dl_256 : decode code 256 = .ok (.aload_n 0, 1) := by decide +kernel
theorem tn_dl_257 : decode code 257 = .ok (.iload 4, 2) := by decide +kernel
theorem tn_dl_259 : decode code 259 = .ok (.iconst 3, 1) := by decide +kernel
theorem tn_dl_260 : decode code 260 = .ok (.iadd, 1) := by decide +kernel
theorem tn_dl_261 : decode code 261 = .ok (.iaload, 1) := by decide +kernel
theorem tn_dl_262 : decode code 262 = .ok (.aload_n 0, 1) := by decide +kernel
theorem tn_dl_263 : decode code 263 = .ok (.iload 4, 2) := by decide +kernel
theorem tn_dl_265 : decode code 265 = .ok (.iconst 4, 1) := by decide +kernel
theorem tn_dl_266 : decode code 266 = .ok (.iadd, 1) := by decide +kernel
theorem tn_dl_267 : decode code 267 = .ok (.iaload, 1) := by decide +kernel
theorem tn_dl_268 : decode code 268 = .ok (.invokevirtual 82, 3) := by decide +kernel
theorem tn_dl_271 : decode code 271 = .ok (.istore 6, 2) := by decide +kernel
theorem tn_dl_273 : decode code 273 = .ok (.aload_n 2, 1) := by decide +kernel
theorem tn_dl_274 : decode code 274 = .ok (.invokevirtual 72, 3) := by decide +kernel
theorem tn_dl_277 : decode code 277 = .ok (.iload 5, 2) := by decide +kernel
theorem tn_dl_279 : decode code 279 = .ok (.if_icmp .eq 5, 3) := by decide +kernel
theorem tn_dl_284 : decode code 284 = .ok (.iload 5, 2) := by decide +kernel
theorem tn_dl_286 : decode code 286 = .ok (.ifCond .ne 15, 3) := by decide +kernel
theorem tn_dl_289 : decode code 289 = .ok (.aload_n 3, 1) := by decide +kernel
theorem tn_dl_290 : decode code 290 = .ok (.iconst 0, 1) := by decide +kernel
theorem tn_dl_291 : decode code 291 = .ok (.laload, 1) := by decide +kernel
theorem tn_dl_292 : decode code 292 = .ok (.iload 6, 2) := by decide +kernel
theorem tn_dl_294 : decode code 294 = .ok (.i2l, 1) := by decide +kernel
theorem tn_dl_295 : decode code 295 = .ok (.lcmp, 1) := by decide +kernel
theorem tn_dl_296 : decode code 296 = .ok (.ifCond .eq 5, 3) := by decide +kernel
theorem tn_dl_301 : decode code 301 = .ok (.goto 689, 3) := by decide +kernel
theorem tn_dl_304 : decode code 304 = .ok (.aload_n 1, 1) := by decide +kernel
theorem tn_dl_305 : decode code 305 = .ok (.aload_n 0, 1) := by decide +kernel
theorem tn_dl_306 : decode code 306 = .ok (.iload 4, 2) := by decide +kernel
theorem tn_dl_308 : decode code 308 = .ok (.iconst 1, 1) := by decide +kernel
theorem tn_dl_309 : decode code 309 = .ok (.iadd, 1) := by decide +kernel
theorem tn_dl_310 : decode code 310 = .ok (.iaload, 1) := by decide +kernel
theorem tn_dl_311 : decode code 311 = .ok (.aload_n 0, 1) := by decide +kernel
theorem tn_dl_312 : decode code 312 = .ok (.iload 4, 2) := by decide +kernel
theorem tn_dl_314 : decode code 314 = .ok (.iconst 2, 1) := by decide +kernel
theorem tn_dl_315 : decode code 315 = .ok (.iadd, 1) := by decide +kernel
theorem tn_dl_316 : decode code 316 = .ok (.iaload, 1) := by decide +kernel
theorem tn_dl_317 : decode code 317 = .ok (.aload_n 3, 1) := by decide +kernel
theorem tn_dl_318 : decode code 318 = .ok (.invokestatic 83, 3) := by decide +kernel
theorem tn_dl_321 : decode code 321 = .ok (.istore 5, 2) := by decide +kernel
theorem tn_dl_323 : decode code 323 = .ok (.aload_n 2, 1) := by decide +kernel
theorem tn_dl_324 : decode code 324 = .ok (.aload_n 0, 1) := by decide +kernel
theorem tn_dl_325 : decode code 325 = .ok (.iload 4, 2) := by decide +kernel
theorem tn_dl_327 : decode code 327 = .ok (.iconst 1, 1) := by decide +kernel
theorem tn_dl_328 : decode code 328 = .ok (.iadd, 1) := by decide +kernel
theorem tn_dl_329 : decode code 329 = .ok (.iaload, 1) := by decide +kernel
theorem tn_dl_330 : decode code 330 = .ok (.aload_n 0, 1) := by decide +kernel
theorem tn_dl_331 : decode code 331 = .ok (.iload 4, 2) := by decide +kernel
theorem tn_dl_333 : decode code 333 = .ok (.iconst 2, 1) := by decide +kernel
theorem tn_dl_334 : decode code 334 = .ok (.iadd, 1) := by decide +kernel
theorem tn_dl_335 : decode code 335 = .ok (.iaload, 1) := by decide +kernel
theorem tn_dl_336 : decode code 336 = .ok (.invokevirtual 86, 3) := by decide +kernel
theorem tn_dl_339 : decode code 339 = .ok (.istore 6, 2) := by decide +kernel
theorem tn_dl_341 : decode code 341 = .ok (.aload_n 2, 1) := by decide +kernel
theorem tn_dl_342 : decode code 342 = .ok (.invokevirtual 72, 3) := by decide +kernel
theorem tn_dl_345 : decode code 345 = .ok (.iload 5, 2) := by decide +kernel
theorem tn_dl_347 : decode code 347 = .ok (.if_icmp .eq 5, 3) := by decide +kernel
theorem tn_dl_352 : decode code 352 = .ok (.iload 5, 2) := by decide +kernel
theorem tn_dl_354 : decode code 354 = .ok (.ifCond .ne 22, 3) := by decide +kernel
theorem tn_dl_357 : decode code 357 = .ok (.aload_n 3, 1) := by decide +kernel
theorem tn_dl_358 : decode code 358 = .ok (.iconst 0, 1) := by decide +kernel
theorem tn_dl_359 : decode code 359 = .ok (.laload, 1) := by decide +kernel
theorem tn_dl_360 : decode code 360 = .ok (.iload 6, 2) := by decide +kernel
theorem tn_dl_362 : decode code 362 = .ok (.ifCond .eq 7, 3) := by decide +kernel
theorem tn_dl_365 : decode code 365 = .ok (.lconst 1, 1) := by decide +kernel
theorem tn_dl_366 : decode code 366 = .ok (.goto 4, 3) := by decide +kernel
theorem tn_dl_369 : decode code 369 = .ok (.lconst 0, 1) := by decide +kernel
theorem tn_dl_370 : decode code 370 = .ok (.lcmp, 1) := by decide +kernel
theorem tn_dl_371 : decode code 371 = .ok (.ifCond .eq 5, 3) := by decide +kernel
theorem tn_dl_376 : decode code 376 = .ok (.goto 614, 3) := by decide +kernel
theorem tn_dl_379 : decode code 379 = .ok (.aload_n 1, 1) := by decide +kernel
theorem tn_dl_380 : decode code 380 = .ok (.aload_n 0, 1) := by decide +kernel
theorem tn_dl_381 : decode code 381 = .ok (.iload 4, 2) := by decide +kernel
theorem tn_dl_383 : decode code 383 = .ok (.iconst 1, 1) := by decide +kernel
theorem tn_dl_384 : decode code 384 = .ok (.iadd, 1) := by decide +kernel
theorem tn_dl_385 : decode code 385 = .ok (.iaload, 1) := by decide +kernel
theorem tn_dl_386 : decode code 386 = .ok (.aload_n 0, 1) := by decide +kernel
theorem tn_dl_387 : decode code 387 = .ok (.iload 4, 2) := by decide +kernel
theorem tn_dl_389 : decode code 389 = .ok (.iconst 2, 1) := by decide +kernel
theorem tn_dl_390 : decode code 390 = .ok (.iadd, 1) := by decide +kernel
theorem tn_dl_391 : decode code 391 = .ok (.iaload, 1) := by decide +kernel
theorem tn_dl_392 : decode code 392 = .ok (.aload_n 3, 1) := by decide +kernel
theorem tn_dl_393 : decode code 393 = .ok (.invokestatic 87, 3) := by decide +kernel
theorem tn_dl_396 : decode code 396 = .ok (.istore 5, 2) := by decide +kernel
theorem tn_dl_398 : decode code 398 = .ok (.aload_n 2, 1) := by decide +kernel
theorem tn_dl_399 : decode code 399 = .ok (.aload_n 0, 1) := by decide +kernel
theorem tn_dl_400 : decode code 400 = .ok (.iload 4, 2) := by decide +kernel
theorem tn_dl_402 : decode code 402 = .ok (.iconst 1, 1) := by decide +kernel
theorem tn_dl_403 : decode code 403 = .ok (.iadd, 1) := by decide +kernel
theorem tn_dl_404 : decode code 404 = .ok (.iaload, 1) := by decide +kernel
theorem tn_dl_405 : decode code 405 = .ok (.aload_n 0, 1) := by decide +kernel
theorem tn_dl_406 : decode code 406 = .ok (.iload 4, 2) := by decide +kernel
theorem tn_dl_408 : decode code 408 = .ok (.iconst 2, 1) := by decide +kernel
theorem tn_dl_409 : decode code 409 = .ok (.iadd, 1) := by decide +kernel
theorem tn_dl_410 : decode code 410 = .ok (.iaload, 1) := by decide +kernel
theorem tn_dl_411 : decode code 411 = .ok (.invokevirtual 89, 3) := by decide +kernel
theorem tn_dl_414 : decode code 414 = .ok (.istore 6, 2) := by decide +kernel
theorem tn_dl_416 : decode code 416 = .ok (.aload_n 2, 1) := by decide +kernel
theorem tn_dl_417 : decode code 417 = .ok (.invokevirtual 72, 3) := by decide +kernel
theorem tn_dl_420 : decode code 420 = .ok (.iload 5, 2) := by decide +kernel
theorem tn_dl_422 : decode code 422 = .ok (.if_icmp .eq 5, 3) := by decide +kernel
theorem tn_dl_427 : decode code 427 = .ok (.iload 5, 2) := by decide +kernel
theorem tn_dl_429 : decode code 429 = .ok (.ifCond .ne 22, 3) := by decide +kernel
theorem tn_dl_432 : decode code 432 = .ok (.aload_n 3, 1) := by decide +kernel
theorem tn_dl_433 : decode code 433 = .ok (.iconst 0, 1) := by decide +kernel
theorem tn_dl_434 : decode code 434 = .ok (.laload, 1) := by decide +kernel
theorem tn_dl_435 : decode code 435 = .ok (.iload 6, 2) := by decide +kernel
theorem tn_dl_437 : decode code 437 = .ok (.ifCond .eq 7, 3) := by decide +kernel
theorem tn_dl_440 : decode code 440 = .ok (.lconst 1, 1) := by decide +kernel
theorem tn_dl_441 : decode code 441 = .ok (.goto 4, 3) := by decide +kernel
theorem tn_dl_444 : decode code 444 = .ok (.lconst 0, 1) := by decide +kernel
theorem tn_dl_445 : decode code 445 = .ok (.lcmp, 1) := by decide +kernel
theorem tn_dl_446 : decode code 446 = .ok (.ifCond .eq 5, 3) := by decide +kernel
theorem tn_dl_451 : decode code 451 = .ok (.goto 539, 3) := by decide +kernel
theorem tn_dl_454 : decode code 454 = .ok (.aload_n 1, 1) := by decide +kernel
theorem tn_dl_455 : decode code 455 = .ok (.aload_n 0, 1) := by decide +kernel
theorem tn_dl_456 : decode code 456 = .ok (.iload 4, 2) := by decide +kernel
theorem tn_dl_458 : decode code 458 = .ok (.iconst 1, 1) := by decide +kernel
theorem tn_dl_459 : decode code 459 = .ok (.iadd, 1) := by decide +kernel
theorem tn_dl_460 : decode code 460 = .ok (.iaload, 1) := by decide +kernel
theorem tn_dl_461 : decode code 461 = .ok (.aload_n 3, 1) := by decide +kernel
theorem tn_dl_462 : decode code 462 = .ok (.invokestatic 90, 3) := by decide +kernel
theorem tn_dl_465 : decode code 465 = .ok (.istore 5, 2) := by decide +kernel
theorem tn_dl_467 : decode code 467 = .ok (.aload_n 2, 1) := by decide +kernel
theorem tn_dl_468 : decode code 468 = .ok (.aload_n 0, 1) := by decide +kernel
theorem tn_dl_469 : decode code 469 = .ok (.iload 4, 2) := by decide +kernel
theorem tn_dl_471 : decode code 471 = .ok (.iconst 1, 1) := by decide +kernel
theorem tn_dl_472 : decode code 472 = .ok (.iadd, 1) := by decide +kernel
theorem tn_dl_473 : decode code 473 = .ok (.iaload, 1) := by decide +kernel
theorem tn_dl_474 : decode code 474 = .ok (.invokevirtual 92, 3) := by decide +kernel
theorem tn_dl_477 : decode code 477 = .ok (.istore 6, 2) := by decide +kernel
theorem tn_dl_479 : decode code 479 = .ok (.aload_n 2, 1) := by decide +kernel
theorem tn_dl_480 : decode code 480 = .ok (.invokevirtual 72, 3) := by decide +kernel
theorem tn_dl_483 : decode code 483 = .ok (.iload 5, 2) := by decide +kernel
theorem tn_dl_485 : decode code 485 = .ok (.if_icmp .eq 5, 3) := by decide +kernel
theorem tn_dl_490 : decode code 490 = .ok (.iload 5, 2) := by decide +kernel
theorem tn_dl_492 : decode code 492 = .ok (.ifCond .ne 15, 3) := by decide +kernel
theorem tn_dl_495 : decode code 495 = .ok (.aload_n 3, 1) := by decide +kernel
theorem tn_dl_496 : decode code 496 = .ok (.iconst 0, 1) := by decide +kernel
theorem tn_dl_497 : decode code 497 = .ok (.laload, 1) := by decide +kernel
theorem tn_dl_498 : decode code 498 = .ok (.iload 6, 2) := by decide +kernel
theorem tn_dl_500 : decode code 500 = .ok (.i2l, 1) := by decide +kernel
theorem tn_dl_501 : decode code 501 = .ok (.lcmp, 1) := by decide +kernel
theorem tn_dl_502 : decode code 502 = .ok (.ifCond .eq 5, 3) := by decide +kernel
theorem tn_dl_507 : decode code 507 = .ok (.goto 483, 3) := by decide +kernel
theorem tn_dl_510 : decode code 510 = .ok (.aload_n 1, 1) := by decide +kernel
theorem tn_dl_511 : decode code 511 = .ok (.aload_n 0, 1) := by decide +kernel
theorem tn_dl_512 : decode code 512 = .ok (.iload 4, 2) := by decide +kernel
theorem tn_dl_514 : decode code 514 = .ok (.iconst 1, 1) := by decide +kernel
theorem tn_dl_515 : decode code 515 = .ok (.iadd, 1) := by decide +kernel
theorem tn_dl_516 : decode code 516 = .ok (.iaload, 1) := by decide +kernel
theorem tn_dl_517 : decode code 517 = .ok (.aload_n 0, 1) := by decide +kernel
theorem tn_dl_518 : decode code 518 = .ok (.iload 4, 2) := by decide +kernel
theorem tn_dl_520 : decode code 520 = .ok (.iconst 2, 1) := by decide +kernel
theorem tn_dl_521 : decode code 521 = .ok (.iadd, 1) := by decide +kernel
theorem tn_dl_522 : decode code 522 = .ok (.iaload, 1) := by decide +kernel
theorem tn_dl_523 : decode code 523 = .ok (.aload_n 3, 1) := by decide +kernel
theorem tn_dl_524 : decode code 524 = .ok (.invokestatic 93, 3) := by decide +kernel
theorem tn_dl_527 : decode code 527 = .ok (.istore 5, 2) := by decide +kernel
theorem tn_dl_529 : decode code 529 = .ok (.aload_n 2, 1) := by decide +kernel
theorem tn_dl_530 : decode code 530 = .ok (.aload_n 0, 1) := by decide +kernel
theorem tn_dl_531 : decode code 531 = .ok (.iload 4, 2) := by decide +kernel
theorem tn_dl_533 : decode code 533 = .ok (.iconst 1, 1) := by decide +kernel
theorem tn_dl_534 : decode code 534 = .ok (.iadd, 1) := by decide +kernel
theorem tn_dl_535 : decode code 535 = .ok (.iaload, 1) := by decide +kernel
theorem tn_dl_536 : decode code 536 = .ok (.aload_n 0, 1) := by decide +kernel
theorem tn_dl_537 : decode code 537 = .ok (.iload 4, 2) := by decide +kernel
theorem tn_dl_539 : decode code 539 = .ok (.iconst 2, 1) := by decide +kernel
theorem tn_dl_540 : decode code 540 = .ok (.iadd, 1) := by decide +kernel
theorem tn_dl_541 : decode code 541 = .ok (.iaload, 1) := by decide +kernel
theorem tn_dl_542 : decode code 542 = .ok (.invokevirtual 95, 3) := by decide +kernel
theorem tn_dl_545 : decode code 545 = .ok (.istore 6, 2) := by decide +kernel
theorem tn_dl_547 : decode code 547 = .ok (.aload_n 2, 1) := by decide +kernel
theorem tn_dl_548 : decode code 548 = .ok (.invokevirtual 72, 3) := by decide +kernel
theorem tn_dl_551 : decode code 551 = .ok (.iload 5, 2) := by decide +kernel
theorem tn_dl_553 : decode code 553 = .ok (.if_icmp .eq 5, 3) := by decide +kernel
theorem tn_dl_558 : decode code 558 = .ok (.iload 5, 2) := by decide +kernel
theorem tn_dl_560 : decode code 560 = .ok (.ifCond .ne 15, 3) := by decide +kernel
theorem tn_dl_563 : decode code 563 = .ok (.aload_n 3, 1) := by decide +kernel
theorem tn_dl_564 : decode code 564 = .ok (.iconst 0, 1) := by decide +kernel
theorem tn_dl_565 : decode code 565 = .ok (.laload, 1) := by decide +kernel
theorem tn_dl_566 : decode code 566 = .ok (.iload 6, 2) := by decide +kernel
theorem tn_dl_568 : decode code 568 = .ok (.i2l, 1) := by decide +kernel
theorem tn_dl_569 : decode code 569 = .ok (.lcmp, 1) := by decide +kernel
theorem tn_dl_570 : decode code 570 = .ok (.ifCond .eq 5, 3) := by decide +kernel
theorem tn_dl_575 : decode code 575 = .ok (.goto 415, 3) := by decide +kernel
theorem tn_dl_578 : decode code 578 = .ok (.aload_n 1, 1) := by decide +kernel
theorem tn_dl_579 : decode code 579 = .ok (.aload_n 0, 1) := by decide +kernel
theorem tn_dl_580 : decode code 580 = .ok (.iload 4, 2) := by decide +kernel
theorem tn_dl_582 : decode code 582 = .ok (.iconst 1, 1) := by decide +kernel
theorem tn_dl_583 : decode code 583 = .ok (.iadd, 1) := by decide +kernel
theorem tn_dl_584 : decode code 584 = .ok (.iaload, 1) := by decide +kernel
theorem tn_dl_585 : decode code 585 = .ok (.aload_n 3, 1) := by decide +kernel
theorem tn_dl_586 : decode code 586 = .ok (.invokestatic 96, 3) := by decide +kernel
theorem tn_dl_589 : decode code 589 = .ok (.istore 5, 2) := by decide +kernel
theorem tn_dl_591 : decode code 591 = .ok (.aload_n 2, 1) := by decide +kernel
theorem tn_dl_592 : decode code 592 = .ok (.aload_n 0, 1) := by decide +kernel
theorem tn_dl_593 : decode code 593 = .ok (.iload 4, 2) := by decide +kernel
theorem tn_dl_595 : decode code 595 = .ok (.iconst 1, 1) := by decide +kernel
theorem tn_dl_596 : decode code 596 = .ok (.iadd, 1) := by decide +kernel
theorem tn_dl_597 : decode code 597 = .ok (.iaload, 1) := by decide +kernel
theorem tn_dl_598 : decode code 598 = .ok (.invokevirtual 98, 3) := by decide +kernel
theorem tn_dl_601 : decode code 601 = .ok (.istore 6, 2) := by decide +kernel
theorem tn_dl_603 : decode code 603 = .ok (.aload_n 2, 1) := by decide +kernel
theorem tn_dl_604 : decode code 604 = .ok (.invokevirtual 72, 3) := by decide +kernel
theorem tn_dl_607 : decode code 607 = .ok (.iload 5, 2) := by decide +kernel
theorem tn_dl_609 : decode code 609 = .ok (.if_icmp .eq 5, 3) := by decide +kernel
theorem tn_dl_614 : decode code 614 = .ok (.iload 5, 2) := by decide +kernel
theorem tn_dl_616 : decode code 616 = .ok (.ifCond .ne 15, 3) := by decide +kernel
theorem tn_dl_619 : decode code 619 = .ok (.aload_n 3, 1) := by decide +kernel
theorem tn_dl_620 : decode code 620 = .ok (.iconst 0, 1) := by decide +kernel
theorem tn_dl_621 : decode code 621 = .ok (.laload, 1) := by decide +kernel
theorem tn_dl_622 : decode code 622 = .ok (.iload 6, 2) := by decide +kernel
theorem tn_dl_624 : decode code 624 = .ok (.i2l, 1) := by decide +kernel
theorem tn_dl_625 : decode code 625 = .ok (.lcmp, 1) := by decide +kernel
theorem tn_dl_626 : decode code 626 = .ok (.ifCond .eq 5, 3) := by decide +kernel
theorem tn_dl_631 : decode code 631 = .ok (.goto 359, 3) := by decide +kernel
theorem tn_dl_634 : decode code 634 = .ok (.aload_n 1, 1) := by decide +kernel
theorem tn_dl_635 : decode code 635 = .ok (.aload_n 0, 1) := by decide +kernel
theorem tn_dl_636 : decode code 636 = .ok (.iload 4, 2) := by decide +kernel
theorem tn_dl_638 : decode code 638 = .ok (.iconst 1, 1) := by decide +kernel
theorem tn_dl_639 : decode code 639 = .ok (.iadd, 1) := by decide +kernel
theorem tn_dl_640 : decode code 640 = .ok (.iaload, 1) := by decide +kernel
theorem tn_dl_641 : decode code 641 = .ok (.aload_n 3, 1) := by decide +kernel
theorem tn_dl_642 : decode code 642 = .ok (.invokestatic 99, 3) := by decide +kernel
theorem tn_dl_645 : decode code 645 = .ok (.istore 5, 2) := by decide +kernel
theorem tn_dl_647 : decode code 647 = .ok (.aload_n 2, 1) := by decide +kernel
theorem tn_dl_648 : decode code 648 = .ok (.aload_n 0, 1) := by decide +kernel
theorem tn_dl_649 : decode code 649 = .ok (.iload 4, 2) := by decide +kernel
theorem tn_dl_651 : decode code 651 = .ok (.iconst 1, 1) := by decide +kernel
theorem tn_dl_652 : decode code 652 = .ok (.iadd, 1) := by decide +kernel
theorem tn_dl_653 : decode code 653 = .ok (.iaload, 1) := by decide +kernel
theorem tn_dl_654 : decode code 654 = .ok (.invokevirtual 101, 3) := by decide +kernel
theorem tn_dl_657 : decode code 657 = .ok (.istore 6, 2) := by decide +kernel
theorem tn_dl_659 : decode code 659 = .ok (.aload_n 2, 1) := by decide +kernel
theorem tn_dl_660 : decode code 660 = .ok (.invokevirtual 72, 3) := by decide +kernel
theorem tn_dl_663 : decode code 663 = .ok (.iload 5, 2) := by decide +kernel
theorem tn_dl_665 : decode code 665 = .ok (.if_icmp .eq 5, 3) := by decide +kernel
theorem tn_dl_670 : decode code 670 = .ok (.iload 5, 2) := by decide +kernel
theorem tn_dl_672 : decode code 672 = .ok (.ifCond .ne 15, 3) := by decide +kernel
theorem tn_dl_675 : decode code 675 = .ok (.aload_n 3, 1) := by decide +kernel
theorem tn_dl_676 : decode code 676 = .ok (.iconst 0, 1) := by decide +kernel
theorem tn_dl_677 : decode code 677 = .ok (.laload, 1) := by decide +kernel
theorem tn_dl_678 : decode code 678 = .ok (.iload 6, 2) := by decide +kernel
theorem tn_dl_680 : decode code 680 = .ok (.i2l, 1) := by decide +kernel
theorem tn_dl_681 : decode code 681 = .ok (.lcmp, 1) := by decide +kernel
theorem tn_dl_682 : decode code 682 = .ok (.ifCond .eq 5, 3) := by decide +kernel
theorem tn_dl_687 : decode code 687 = .ok (.goto 303, 3) := by decide +kernel
theorem tn_dl_690 : decode code 690 = .ok (.aload_n 1, 1) := by decide +kernel
theorem tn_dl_691 : decode code 691 = .ok (.aload_n 0, 1) := by decide +kernel
theorem tn_dl_692 : decode code 692 = .ok (.iload 4, 2) := by decide +kernel
theorem tn_dl_694 : decode code 694 = .ok (.iconst 1, 1) := by decide +kernel
theorem tn_dl_695 : decode code 695 = .ok (.iadd, 1) := by decide +kernel
theorem tn_dl_696 : decode code 696 = .ok (.iaload, 1) := by decide +kernel
theorem tn_dl_697 : decode code 697 = .ok (.aload_n 3, 1) := by decide +kernel
theorem tn_dl_698 : decode code 698 = .ok (.invokestatic 102, 3) := by decide +kernel
theorem tn_dl_701 : decode code 701 = .ok (.istore 5, 2) := by decide +kernel
theorem tn_dl_703 : decode code 703 = .ok (.aload_n 2, 1) := by decide +kernel
theorem tn_dl_704 : decode code 704 = .ok (.aload_n 0, 1) := by decide +kernel
theorem tn_dl_705 : decode code 705 = .ok (.iload 4, 2) := by decide +kernel
theorem tn_dl_707 : decode code 707 = .ok (.iconst 1, 1) := by decide +kernel
theorem tn_dl_708 : decode code 708 = .ok (.iadd, 1) := by decide +kernel
theorem tn_dl_709 : decode code 709 = .ok (.iaload, 1) := by decide +kernel
theorem tn_dl_710 : decode code 710 = .ok (.invokevirtual 104, 3) := by decide +kernel
theorem tn_dl_713 : decode code 713 = .ok (.istore 6, 2) := by decide +kernel
theorem tn_dl_715 : decode code 715 = .ok (.aload_n 2, 1) := by decide +kernel
theorem tn_dl_716 : decode code 716 = .ok (.invokevirtual 72, 3) := by decide +kernel
theorem tn_dl_719 : decode code 719 = .ok (.iload 5, 2) := by decide +kernel
theorem tn_dl_721 : decode code 721 = .ok (.if_icmp .eq 5, 3) := by decide +kernel
theorem tn_dl_726 : decode code 726 = .ok (.iload 5, 2) := by decide +kernel
theorem tn_dl_728 : decode code 728 = .ok (.ifCond .ne 15, 3) := by decide +kernel
theorem tn_dl_731 : decode code 731 = .ok (.aload_n 3, 1) := by decide +kernel
theorem tn_dl_732 : decode code 732 = .ok (.iconst 0, 1) := by decide +kernel
theorem tn_dl_733 : decode code 733 = .ok (.laload, 1) := by decide +kernel
theorem tn_dl_734 : decode code 734 = .ok (.iload 6, 2) := by decide +kernel
theorem tn_dl_736 : decode code 736 = .ok (.i2l, 1) := by decide +kernel
theorem tn_dl_737 : decode code 737 = .ok (.lcmp, 1) := by decide +kernel
theorem tn_dl_738 : decode code 738 = .ok (.ifCond .eq 5, 3) := by decide +kernel
theorem tn_dl_743 : decode code 743 = .ok (.goto 247, 3) := by decide +kernel
theorem tn_dl_746 : decode code 746 = .ok (.aload_n 1, 1) := by decide +kernel
theorem tn_dl_747 : decode code 747 = .ok (.aload_n 0, 1) := by decide +kernel
theorem tn_dl_748 : decode code 748 = .ok (.iload 4, 2) := by decide +kernel
theorem tn_dl_750 : decode code 750 = .ok (.iconst 1, 1) := by decide +kernel
theorem tn_dl_751 : decode code 751 = .ok (.iadd, 1) := by decide +kernel
theorem tn_dl_752 : decode code 752 = .ok (.iaload, 1) := by decide +kernel
theorem tn_dl_753 : decode code 753 = .ok (.aload_n 0, 1) := by decide +kernel
theorem tn_dl_754 : decode code 754 = .ok (.iload 4, 2) := by decide +kernel
theorem tn_dl_756 : decode code 756 = .ok (.iconst 2, 1) := by decide +kernel
theorem tn_dl_757 : decode code 757 = .ok (.iadd, 1) := by decide +kernel
theorem tn_dl_758 : decode code 758 = .ok (.iaload, 1) := by decide +kernel
theorem tn_dl_759 : decode code 759 = .ok (.aload_n 3, 1) := by decide +kernel
theorem tn_dl_760 : decode code 760 = .ok (.invokestatic 105, 3) := by decide +kernel
theorem tn_dl_763 : decode code 763 = .ok (.istore 5, 2) := by decide +kernel
theorem tn_dl_765 : decode code 765 = .ok (.aload_n 2, 1) := by decide +kernel
theorem tn_dl_766 : decode code 766 = .ok (.aload_n 0, 1) := by decide +kernel
theorem tn_dl_767 : decode code 767 = .ok (.iload 4, 2) := by decide +kernel
theorem tn_dl_769 : decode code 769 = .ok (.iconst 1, 1) := by decide +kernel
theorem tn_dl_770 : decode code 770 = .ok (.iadd, 1) := by decide +kernel
theorem tn_dl_771 : decode code 771 = .ok (.iaload, 1) := by decide +kernel
theorem tn_dl_772 : decode code 772 = .ok (.aload_n 0, 1) := by decide +kernel
theorem tn_dl_773 : decode code 773 = .ok (.iload 4, 2) := by decide +kernel
theorem tn_dl_775 : decode code 775 = .ok (.iconst 2, 1) := by decide +kernel
theorem tn_dl_776 : decode code 776 = .ok (.iadd, 1) := by decide +kernel
theorem tn_dl_777 : decode code 777 = .ok (.iaload, 1) := by decide +kernel
theorem tn_dl_778 : decode code 778 = .ok (.invokevirtual 107, 3) := by decide +kernel
theorem tn_dl_781 : decode code 781 = .ok (.istore 6, 2) := by decide +kernel
theorem tn_dl_783 : decode code 783 = .ok (.aload_n 2, 1) := by decide +kernel
theorem tn_dl_784 : decode code 784 = .ok (.invokevirtual 72, 3) := by decide +kernel
theorem tn_dl_787 : decode code 787 = .ok (.iload 5, 2) := by decide +kernel
theorem tn_dl_789 : decode code 789 = .ok (.if_icmp .eq 5, 3) := by decide +kernel
theorem tn_dl_794 : decode code 794 = .ok (.iload 5, 2) := by decide +kernel
theorem tn_dl_796 : decode code 796 = .ok (.ifCond .ne 22, 3) := by decide +kernel
theorem tn_dl_799 : decode code 799 = .ok (.aload_n 3, 1) := by decide +kernel
theorem tn_dl_800 : decode code 800 = .ok (.iconst 0, 1) := by decide +kernel
theorem tn_dl_801 : decode code 801 = .ok (.laload, 1) := by decide +kernel
theorem tn_dl_802 : decode code 802 = .ok (.iload 6, 2) := by decide +kernel
theorem tn_dl_804 : decode code 804 = .ok (.ifCond .eq 7, 3) := by decide +kernel
theorem tn_dl_807 : decode code 807 = .ok (.lconst 1, 1) := by decide +kernel
theorem tn_dl_808 : decode code 808 = .ok (.goto 4, 3) := by decide +kernel
theorem tn_dl_811 : decode code 811 = .ok (.lconst 0, 1) := by decide +kernel
theorem tn_dl_812 : decode code 812 = .ok (.lcmp, 1) := by decide +kernel
theorem tn_dl_813 : decode code 813 = .ok (.ifCond .eq 5, 3) := by decide +kernel
theorem tn_dl_818 : decode code 818 = .ok (.goto 172, 3) := by decide +kernel
theorem tn_dl_821 : decode code 821 = .ok (.aload_n 1, 1) := by decide +kernel
theorem tn_dl_822 : decode code 822 = .ok (.aload_n 0, 1) := by decide +kernel
theorem tn_dl_823 : decode code 823 = .ok (.iload 4, 2) := by decide +kernel
theorem tn_dl_825 : decode code 825 = .ok (.iconst 1, 1) := by decide +kernel
theorem tn_dl_826 : decode code 826 = .ok (.iadd, 1) := by decide +kernel
theorem tn_dl_827 : decode code 827 = .ok (.iaload, 1) := by decide +kernel
theorem tn_dl_828 : decode code 828 = .ok (.aload_n 3, 1) := by decide +kernel
theorem tn_dl_829 : decode code 829 = .ok (.invokestatic 108, 3) := by decide +kernel
theorem tn_dl_832 : decode code 832 = .ok (.istore 5, 2) := by decide +kernel
theorem tn_dl_834 : decode code 834 = .ok (.aload_n 2, 1) := by decide +kernel
theorem tn_dl_835 : decode code 835 = .ok (.aload_n 0, 1) := by decide +kernel
theorem tn_dl_836 : decode code 836 = .ok (.iload 4, 2) := by decide +kernel
theorem tn_dl_838 : decode code 838 = .ok (.iconst 1, 1) := by decide +kernel
theorem tn_dl_839 : decode code 839 = .ok (.iadd, 1) := by decide +kernel
theorem tn_dl_840 : decode code 840 = .ok (.iaload, 1) := by decide +kernel
theorem tn_dl_841 : decode code 841 = .ok (.invokevirtual 110, 3) := by decide +kernel
theorem tn_dl_844 : decode code 844 = .ok (.istore 6, 2) := by decide +kernel
theorem tn_dl_846 : decode code 846 = .ok (.aload_n 2, 1) := by decide +kernel
theorem tn_dl_847 : decode code 847 = .ok (.invokevirtual 72, 3) := by decide +kernel
theorem tn_dl_850 : decode code 850 = .ok (.iload 5, 2) := by decide +kernel
theorem tn_dl_852 : decode code 852 = .ok (.if_icmp .eq 5, 3) := by decide +kernel
theorem tn_dl_857 : decode code 857 = .ok (.iload 5, 2) := by decide +kernel
theorem tn_dl_859 : decode code 859 = .ok (.ifCond .ne 15, 3) := by decide +kernel
theorem tn_dl_862 : decode code 862 = .ok (.aload_n 3, 1) := by decide +kernel
theorem tn_dl_863 : decode code 863 = .ok (.iconst 0, 1) := by decide +kernel
theorem tn_dl_864 : decode code 864 = .ok (.laload, 1) := by decide +kernel
theorem tn_dl_865 : decode code 865 = .ok (.iload 6, 2) := by decide +kernel
theorem tn_dl_867 : decode code 867 = .ok (.i2l, 1) := by decide +kernel
theorem tn_dl_868 : decode code 868 = .ok (.lcmp, 1) := by decide +kernel
theorem tn_dl_869 : decode code 869 = .ok (.ifCond .eq 5, 3) := by decide +kernel
theorem tn_dl_874 : decode code 874 = .ok (.goto 116, 3) := by decide +kernel
theorem tn_dl_877 : decode code 877 = .ok (.aload_n 1, 1) := by decide +kernel
theorem tn_dl_878 : decode code 878 = .ok (.aload_n 3, 1) := by decide +kernel
theorem tn_dl_879 : decode code 879 = .ok (.invokestatic 111, 3) := by decide +kernel
theorem tn_dl_882 : decode code 882 = .ok (.istore 5, 2) := by decide +kernel
theorem tn_dl_884 : decode code 884 = .ok (.aload_n 2, 1) := by decide +kernel
theorem tn_dl_885 : decode code 885 = .ok (.invokevirtual 113, 3) := by decide +kernel
theorem tn_dl_888 : decode code 888 = .ok (.istore 6, 2) := by decide +kernel
theorem tn_dl_890 : decode code 890 = .ok (.aload_n 2, 1) := by decide +kernel
theorem tn_dl_891 : decode code 891 = .ok (.invokevirtual 72, 3) := by decide +kernel
theorem tn_dl_894 : decode code 894 = .ok (.iload 5, 2) := by decide +kernel
theorem tn_dl_896 : decode code 896 = .ok (.if_icmp .eq 5, 3) := by decide +kernel
theorem tn_dl_901 : decode code 901 = .ok (.iload 5, 2) := by decide +kernel
theorem tn_dl_903 : decode code 903 = .ok (.ifCond .ne 15, 3) := by decide +kernel
theorem tn_dl_906 : decode code 906 = .ok (.aload_n 3, 1) := by decide +kernel
theorem tn_dl_907 : decode code 907 = .ok (.iconst 0, 1) := by decide +kernel
theorem tn_dl_908 : decode code 908 = .ok (.laload, 1) := by decide +kernel
theorem tn_dl_909 : decode code 909 = .ok (.iload 6, 2) := by decide +kernel
theorem tn_dl_911 : decode code 911 = .ok (.i2l, 1) := by decide +kernel
theorem tn_dl_912 : decode code 912 = .ok (.lcmp, 1) := by decide +kernel
theorem tn_dl_913 : decode code 913 = .ok (.ifCond .eq 5, 3) := by decide +kernel
theorem tn_dl_918 : decode code 918 = .ok (.goto 72, 3) := by decide +kernel
theorem tn_dl_921 : decode code 921 = .ok (.aload_n 1, 1) := by decide +kernel
theorem tn_dl_922 : decode code 922 = .ok (.aload_n 3, 1) := by decide +kernel
theorem tn_dl_923 : decode code 923 = .ok (.invokestatic 114, 3) := by decide +kernel
theorem tn_dl_926 : decode code 926 = .ok (.istore 5, 2) := by decide +kernel
theorem tn_dl_928 : decode code 928 = .ok (.aload_n 2, 1) := by decide +kernel
theorem tn_dl_929 : decode code 929 = .ok (.invokevirtual 116, 3) := by decide +kernel
theorem tn_dl_932 : decode code 932 = .ok (.istore 6, 2) := by decide +kernel
theorem tn_dl_934 : decode code 934 = .ok (.aload_n 2, 1) := by decide +kernel
theorem tn_dl_935 : decode code 935 = .ok (.invokevirtual 72, 3) := by decide +kernel
theorem tn_dl_938 : decode code 938 = .ok (.iload 5, 2) := by decide +kernel
theorem tn_dl_940 : decode code 940 = .ok (.if_icmp .eq 5, 3) := by decide +kernel
theorem tn_dl_945 : decode code 945 = .ok (.iload 5, 2) := by decide +kernel
theorem tn_dl_947 : decode code 947 = .ok (.ifCond .ne 15, 3) := by decide +kernel
theorem tn_dl_950 : decode code 950 = .ok (.aload_n 3, 1) := by decide +kernel
theorem tn_dl_951 : decode code 951 = .ok (.iconst 0, 1) := by decide +kernel
theorem tn_dl_952 : decode code 952 = .ok (.laload, 1) := by decide +kernel
theorem tn_dl_953 : decode code 953 = .ok (.iload 6, 2) := by decide +kernel
theorem tn_dl_955 : decode code 955 = .ok (.i2l, 1) := by decide +kernel
theorem tn_dl_956 : decode code 956 = .ok (.lcmp, 1) := by decide +kernel
theorem tn_dl_957 : decode code 957 = .ok (.ifCond .eq 5, 3) := by decide +kernel
theorem tn_dl_962 : decode code 962 = .ok (.goto 28, 3) := by decide +kernel
theorem tn_dl_965 : decode code 965 = .ok (.aload_n 1, 1) := by decide +kernel
theorem tn_dl_966 : decode code 966 = .ok (.aload_n 0, 1) := by decide +kernel
theorem tn_dl_967 : decode code 967 = .ok (.iload 4, 2) := by decide +kernel
theorem tn_dl_969 : decode code 969 = .ok (.iconst 1, 1) := by decide +kernel
theorem tn_dl_970 : decode code 970 = .ok (.iadd, 1) := by decide +kernel
theorem tn_dl_971 : decode code 971 = .ok (.iaload, 1) := by decide +kernel
theorem tn_dl_972 : decode code 972 = .ok (.invokevirtual 117, 3) := by decide +kernel
theorem tn_dl_975 : decode code 975 = .ok (.aload_n 2, 1) := by decide +kernel
theorem tn_dl_976 : decode code 976 = .ok (.aload_n 0, 1) := by decide +kernel
theorem tn_dl_977 : decode code 977 = .ok (.iload 4, 2) := by decide +kernel
theorem tn_dl_979 : decode code 979 = .ok (.iconst 1, 1) := by decide +kernel
theorem tn_dl_980 : decode code 980 = .ok (.iadd, 1) := by decide +kernel
theorem tn_dl_981 : decode code 981 = .ok (.iaload, 1) := by decide +kernel
theorem tn_dl_982 : decode code 982 = .ok (.invokevirtual 120, 3) := by decide +kernel
theorem tn_dl_985 : decode code 985 = .ok (.if_icmp .eq 5, 3) := by decide +kernel
section LAW2
variable {l : Launch} {p : Program} {e : Env} {s : State} {m : MethodId} {args : Array Value} {below : List Frame} {meth : Method} {c : Code} {H : Heap} {locs : List Loc} {cells slots : Nat} {Qe : State → Prop} {ls : Array Slot} {adX adY : Nat → Nat} {ca : Nat → ClassId} {cL : ClassId} {qo : Nat} {D : va_G} {f : Nat → Int64} {hX hY : am_S} {b L : Nat} {xs : Nat → Int32} {A : Nat → Prop}
set_option maxHeartbeats 1000000 in
theorem tn_case_sign (C : tn_lc l p s m args c b L xs A D ca cL) {i0 : Nat} (hi : i0 + 4 < L) (hR : tn_R hX hY) (hl : lv_has ls 7 (tn_lv b adX adY qo (nI i0))) (hP : va_P D tn_cl (tn_LW adX adY ca cL qo f hX hY) H) (hD : va_D A (tn_LW adX adY ca cL qo f hX hY)) (hS : va_S A s.heap H locs) (hce : cells + 2 ≤ 1070) (hsl : slots + 12 ≤ 27272)
    (kk : ∀ (hX1 hY1 : am_S) (f1 : Nat → Int64) (H1 : Heap) (locs1 : List Loc) (ls1 : Array Slot), tn_R hX1 hY1 → va_P D tn_cl (tn_LW adX adY ca cL qo f1 hX1 hY1) H1 → va_D A (tn_LW adX adY ca cL qo f1 hX1 hY1) → va_S A s.heap H1 locs1 → lv_has ls1 7 (tn_lv b adX adY qo (nI i0)) → W p l e room_1 s m args below meth c H1 locs1 (cells + 2) (slots + 12) Qe (F0 m 990 ls1 [])) :
    W p l e room_1 s m args below meth c H locs cells slots Qe (F0 m 112 ls []) := by
  obtain ⟨hl9, hx, hb, hml, hown, hts, hns, hE, hK, hA, hsc, hbl, hbA, hL⟩ := id C
  refine lv_aload_n hx hb tn_dl_112 rfl (lv_at hl 1 rfl) ?_
  refine lv_aload_n hx hb tn_dl_113 rfl (lv_at hl 0 rfl) ?_
  refine lv_iload hx hb tn_dl_114 (lv_at hl 4 rfl) ?_
  refine lv_iconst (v := 1) hx hb tn_dl_116 (by decide) ?_
  refine lv_iadd hx hb tn_dl_117 ?_
  refine va_sld hx hb hsc hbl hbA hS (tn_vin (j := 1) (by decide) (by omega) hL) tn_dl_118 ?_
  refine lv_aload_n hx hb tn_dl_119 rfl (lv_at hl 3 rfl) ?_
  refine tn_cs (av := [.ref (adX 0), .int (xs (nI i0 + 1).toNatClampNeg), .ref qo]) (rest := []) (n := 3) C (tn_h_sign hl9 (xs (nI i0 + 1).toNatClampNeg) (pr_sign hR) (fun h1 o q => by obtain ⟨_, _, q9⟩ := am_AW.ends q; exact tn_ag_k q9.2) H.size) hP hD hS hl.1 tn_wl0 tn_wl1 tn_wl2 tn_wl3 rfl (by decide +kernel) rfl rfl rfl (Nat.le_of_ble_eq_true rfl) (Nat.le_of_ble_eq_true rfl) (by omega) (by omega) (Nat.le_of_ble_eq_true rfl) tn_dl_120 (fun hX1 o k f1 H1 locs1 hq hou hP1 hD1 hS1 => ?_)
  refine W.widen (k := cells + 2) (n := slots + 12) (by omega) (by omega) ?_
  refine lv_istore (i := 5) (lv' := (5, .int k) :: tn_lv b adX adY qo (nI i0)) hx hb tn_dl_123 hl (by decide) rfl (fun ls hl => ?_)
  refine lv_aload_n hx hb tn_dl_125 rfl (lv_at hl 3 rfl) ?_
  refine lv_aload_n hx hb tn_dl_126 rfl (lv_at hl 1 rfl) ?_
  refine lv_iload hx hb tn_dl_127 (lv_at hl 5 rfl) ?_
  refine lv_iconst (v := 1) hx hb tn_dl_129 (by decide) ?_
  refine lv_iadd hx hb tn_dl_130 ?_
  refine va_sld hx hb hsc hbl hbA hS1 (tn_vin (j := 1) (by decide) (by omega) hL) tn_dl_131 ?_
  refine tn_cy (μ := 56) (M := tn_m56) (zs := [.int (xs (nI i0 + 1).toNatClampNeg)]) (rest := []) C rfl hq (Nat.le_of_ble_eq_true rfl) (tn_intS tn_int0) hP1 hD1 hS1 hl.1 rfl rfl tn_wl4 tn_wl5 tn_wl6 (by decide +kernel : (parseMethodDescriptor tn_m56.1.desc).map (fun d => d.parameters.length) = some 1) (Nat.le_of_ble_eq_true rfl) (Nat.le_of_ble_eq_true rfl) rfl rfl hce hsl (Nat.le_of_ble_eq_true rfl) tn_dl_132 (fun h' o' q => tn_ag_r q.2) (fun v hY1 H2 locs2 q hP2 hD2 hS2 => ?_)
  exact tn_tailI (pc := 135) C tn_dl_135 tn_dl_137 tn_dl_138 tn_dl_141 tn_dl_143 tn_dl_148 tn_dl_150 tn_dl_153 tn_dl_154 tn_dl_155 tn_dl_156 tn_dl_158 tn_dl_159 tn_dl_160 tn_dl_165 (by decide) hl hP2 hD2 hS2 hou q.2 hce hsl (fun H3 locs3 ls3 hP3 hD3 hS3 hl3 => kk _ _ _ H3 locs3 ls3 q.1 hP3 hD3 hS3 hl3)
set_option maxHeartbeats 1000000 in
theorem tn_case_unknown (C : tn_lc l p s m args c b L xs A D ca cL) {i0 : Nat} (hi : i0 + 4 < L) (hR : tn_R hX hY) (hl : lv_has ls 7 (tn_lv b adX adY qo (nI i0))) (hP : va_P D tn_cl (tn_LW adX adY ca cL qo f hX hY) H) (hD : va_D A (tn_LW adX adY ca cL qo f hX hY)) (hS : va_S A s.heap H locs) (hce : cells + 2 ≤ 1070) (hsl : slots + 12 ≤ 27272)
    (kk : ∀ (hX1 hY1 : am_S) (f1 : Nat → Int64) (H1 : Heap) (locs1 : List Loc) (ls1 : Array Slot), tn_R hX1 hY1 → va_P D tn_cl (tn_LW adX adY ca cL qo f1 hX1 hY1) H1 → va_D A (tn_LW adX adY ca cL qo f1 hX1 hY1) → va_S A s.heap H1 locs1 → lv_has ls1 7 (tn_lv b adX adY qo (nI i0)) → W p l e room_1 s m args below meth c H1 locs1 (cells + 2) (slots + 12) Qe (F0 m 990 ls1 [])) :
    W p l e room_1 s m args below meth c H locs cells slots Qe (F0 m 168 ls []) := by
  obtain ⟨hl9, hx, hb, hml, hown, hts, hns, hE, hK, hA, hsc, hbl, hbA, hL⟩ := id C
  refine lv_aload_n hx hb tn_dl_168 rfl (lv_at hl 1 rfl) ?_
  refine lv_aload_n hx hb tn_dl_169 rfl (lv_at hl 3 rfl) ?_
  refine tn_cs (av := [.ref (adX 0), .ref qo]) (rest := []) (n := 2) C (tn_h_unknown hl9  (pr_unknown hR) (fun h1 o q => by obtain ⟨_, _, q9⟩ := am_AW.ends q; exact tn_ag_k q9.2) H.size) hP hD hS hl.1 tn_wl7 tn_wl8 tn_wl9 tn_wl3 rfl (by decide +kernel) rfl rfl rfl (Nat.le_of_ble_eq_true rfl) (Nat.le_of_ble_eq_true rfl) (by omega) (by omega) (Nat.le_of_ble_eq_true rfl) tn_dl_170 (fun hX1 o k f1 H1 locs1 hq hou hP1 hD1 hS1 => ?_)
  refine W.widen (k := cells + 2) (n := slots + 12) (by omega) (by omega) ?_
  refine lv_istore (i := 5) (lv' := (5, .int k) :: tn_lv b adX adY qo (nI i0)) hx hb tn_dl_173 hl (by decide) rfl (fun ls hl => ?_)
  refine lv_aload_n hx hb tn_dl_175 rfl (lv_at hl 3 rfl) ?_
  refine tn_cy (μ := 57) (M := tn_m57) (zs := []) (rest := []) C rfl hq (Nat.le_of_ble_eq_true rfl) tn_int0 hP1 hD1 hS1 hl.1 rfl rfl tn_wl10 tn_wl11 tn_wl12 (by decide +kernel : (parseMethodDescriptor tn_m57.1.desc).map (fun d => d.parameters.length) = some 0) (Nat.le_of_ble_eq_true rfl) (Nat.le_of_ble_eq_true rfl) rfl rfl hce hsl (Nat.le_of_ble_eq_true rfl) tn_dl_176 (fun h' o' q => tn_ag_r q.2) (fun v hY1 H2 locs2 q hP2 hD2 hS2 => ?_)
  exact tn_tailI (pc := 179) C tn_dl_179 tn_dl_181 tn_dl_182 tn_dl_185 tn_dl_187 tn_dl_192 tn_dl_194 tn_dl_197 tn_dl_198 tn_dl_199 tn_dl_200 tn_dl_202 tn_dl_203 tn_dl_204 tn_dl_209 (by decide) hl hP2 hD2 hS2 hou q.2 hce hsl (fun H3 locs3 ls3 hP3 hD3 hS3 hl3 => kk _ _ _ H3 locs3 ls3 q.1 hP3 hD3 hS3 hl3)
set_option maxHeartbeats 1000000 in
theorem tn_case_term (C : tn_lc l p s m args c b L xs A D ca cL) {i0 : Nat} (hi : i0 + 4 < L) (hR : tn_R hX hY) (hl : lv_has ls 7 (tn_lv b adX adY qo (nI i0))) (hP : va_P D tn_cl (tn_LW adX adY ca cL qo f hX hY) H) (hD : va_D A (tn_LW adX adY ca cL qo f hX hY)) (hS : va_S A s.heap H locs) (hce : cells + 2 ≤ 1070) (hsl : slots + 12 ≤ 27272)
    (kk : ∀ (hX1 hY1 : am_S) (f1 : Nat → Int64) (H1 : Heap) (locs1 : List Loc) (ls1 : Array Slot), tn_R hX1 hY1 → va_P D tn_cl (tn_LW adX adY ca cL qo f1 hX1 hY1) H1 → va_D A (tn_LW adX adY ca cL qo f1 hX1 hY1) → va_S A s.heap H1 locs1 → lv_has ls1 7 (tn_lv b adX adY qo (nI i0)) → W p l e room_1 s m args below meth c H1 locs1 (cells + 2) (slots + 12) Qe (F0 m 990 ls1 [])) :
    W p l e room_1 s m args below meth c H locs cells slots Qe (F0 m 212 ls []) := by
  obtain ⟨hl9, hx, hb, hml, hown, hts, hns, hE, hK, hA, hsc, hbl, hbA, hL⟩ := id C
  refine lv_aload_n hx hb tn_dl_212 rfl (lv_at hl 1 rfl) ?_
  refine lv_aload_n hx hb tn_dl_213 rfl (lv_at hl 0 rfl) ?_
  refine lv_iload hx hb tn_dl_214 (lv_at hl 4 rfl) ?_
  refine lv_iconst (v := 1) hx hb tn_dl_216 (by decide) ?_
  refine lv_iadd hx hb tn_dl_217 ?_
  refine va_sld hx hb hsc hbl hbA hS (tn_vin (j := 1) (by decide) (by omega) hL) tn_dl_218 ?_
  refine lv_aload_n hx hb tn_dl_219 rfl (lv_at hl 0 rfl) ?_
  refine lv_iload hx hb tn_dl_220 (lv_at hl 4 rfl) ?_
  refine lv_iconst (v := 2) hx hb tn_dl_222 (by decide) ?_
  refine lv_iadd hx hb tn_dl_223 ?_
  refine va_sld hx hb hsc hbl hbA hS (tn_vin (j := 2) (by decide) (by omega) hL) tn_dl_224 ?_
  refine lv_aload_n hx hb tn_dl_225 rfl (lv_at hl 0 rfl) ?_
  refine lv_iload hx hb tn_dl_226 (lv_at hl 4 rfl) ?_
  refine lv_iconst (v := 3) hx hb tn_dl_228 (by decide) ?_
  refine lv_iadd hx hb tn_dl_229 ?_
  refine va_sld hx hb hsc hbl hbA hS (tn_vin (j := 3) (by decide) (by omega) hL) tn_dl_230 ?_
  refine lv_aload_n hx hb tn_dl_231 rfl (lv_at hl 0 rfl) ?_
  refine lv_iload hx hb tn_dl_232 (lv_at hl 4 rfl) ?_
  refine lv_iconst (v := 4) hx hb tn_dl_234 (by decide) ?_
  refine lv_iadd hx hb tn_dl_235 ?_
  refine va_sld hx hb hsc hbl hbA hS (tn_vin (j := 4) (by decide) (by omega) hL) tn_dl_236 ?_
  refine lv_aload_n hx hb tn_dl_237 rfl (lv_at hl 3 rfl) ?_
  refine tn_cs (av := [.ref (adX 0), .int (xs (nI i0 + 1).toNatClampNeg), .int (xs (nI i0 + 2).toNatClampNeg), .int (xs (nI i0 + 3).toNatClampNeg), .int (xs (nI i0 + 4).toNatClampNeg), .ref qo]) (rest := []) (n := 6) C (tn_h_term hl9 (xs (nI i0 + 1).toNatClampNeg) (xs (nI i0 + 2).toNatClampNeg) (xs (nI i0 + 3).toNatClampNeg) (xs (nI i0 + 4).toNatClampNeg) (pr_term hR) (fun h1 o q => by obtain ⟨_, _, q9⟩ := am_AW.ends q; exact tn_ag_k q9.2) H.size) hP hD hS hl.1 tn_wl13 tn_wl14 tn_wl15 tn_wl3 rfl (by decide +kernel) rfl rfl rfl (Nat.le_of_ble_eq_true rfl) (Nat.le_of_ble_eq_true rfl) (by omega) (by omega) (Nat.le_of_ble_eq_true rfl) tn_dl_238 (fun hX1 o k f1 H1 locs1 hq hou hP1 hD1 hS1 => ?_)
  refine W.widen (k := cells + 2) (n := slots + 12) (by omega) (by omega) ?_
  refine lv_istore (i := 5) (lv' := (5, .int k) :: tn_lv b adX adY qo (nI i0)) hx hb tn_dl_241 hl (by decide) rfl (fun ls hl => ?_)
  refine lv_aload_n hx hb tn_dl_243 rfl (lv_at hl 3 rfl) ?_
  refine lv_aload_n hx hb tn_dl_244 rfl (lv_at hl 1 rfl) ?_
  refine lv_iload hx hb tn_dl_245 (lv_at hl 5 rfl) ?_
  refine lv_iconst (v := 1) hx hb tn_dl_247 (by decide) ?_
  refine lv_iadd hx hb tn_dl_248 ?_
  refine va_sld hx hb hsc hbl hbA hS1 (tn_vin (j := 1) (by decide) (by omega) hL) tn_dl_249 ?_
  refine lv_aload_n hx hb tn_dl_250 rfl (lv_at hl 1 rfl) ?_
  refine lv_iload hx hb tn_dl_251 (lv_at hl 5 rfl) ?_
  refine lv_iconst (v := 2) hx hb tn_dl_253 (by decide) ?_
  refine lv_iadd hx hb tn_dl_254 ?_
  refine va_sld hx hb hsc hbl hbA hS1 (tn_vin (j := 2) (by decide) (by omega) hL) tn_dl_255 ?_
  refine lv_aload_n hx hb tn_dl_256 rfl (lv_at hl 1 rfl) ?_
  refine lv_iload hx hb tn_dl_257 (lv_at hl 5 rfl) ?_
  refine lv_iconst (v := 3) hx hb tn_dl_259 (by decide) ?_
  refine lv_iadd hx hb tn_dl_260 ?_
  refine va_sld hx hb hsc hbl hbA hS1 (tn_vin (j := 3) (by decide) (by omega) hL) tn_dl_261 ?_
  refine lv_aload_n hx hb tn_dl_262 rfl (lv_at hl 1 rfl) ?_
  refine lv_iload hx hb tn_dl_263 (lv_at hl 5 rfl) ?_
  refine lv_iconst (v := 4) hx hb tn_dl_265 (by decide) ?_
  refine lv_iadd hx hb tn_dl_266 ?_
  refine va_sld hx hb hsc hbl hbA hS1 (tn_vin (j := 4) (by decide) (by omega) hL) tn_dl_267 ?_
  refine tn_cy (μ := 61) (M := tn_m61) (zs := [.int (xs (nI i0 + 1).toNatClampNeg), .int (xs (nI i0 + 2).toNatClampNeg), .int (xs (nI i0 + 3).toNatClampNeg), .int (xs (nI i0 + 4).toNatClampNeg)]) (rest := []) C rfl hq (Nat.le_of_ble_eq_true rfl) (tn_intS (tn_intS (tn_intS (tn_intS tn_int0)))) hP1 hD1 hS1 hl.1 rfl rfl tn_wl16 tn_wl17 tn_wl18 (by decide +kernel : (parseMethodDescriptor tn_m61.1.desc).map (fun d => d.parameters.length) = some 4) (Nat.le_of_ble_eq_true rfl) (Nat.le_of_ble_eq_true rfl) rfl rfl hce hsl (Nat.le_of_ble_eq_true rfl) tn_dl_268 (fun h' o' q => tn_ag_r q.2) (fun v hY1 H2 locs2 q hP2 hD2 hS2 => ?_)
  exact tn_tailI (pc := 271) C tn_dl_271 tn_dl_273 tn_dl_274 tn_dl_277 tn_dl_279 tn_dl_284 tn_dl_286 tn_dl_289 tn_dl_290 tn_dl_291 tn_dl_292 tn_dl_294 tn_dl_295 tn_dl_296 tn_dl_301 (by decide) hl hP2 hD2 hS2 hou q.2 hce hsl (fun H3 locs3 ls3 hP3 hD3 hS3 hl3 => kk _ _ _ H3 locs3 ls3 q.1 hP3 hD3 hS3 hl3)
set_option maxHeartbeats 1000000 in
theorem tn_case_equal (C : tn_lc l p s m args c b L xs A D ca cL) {i0 : Nat} (hi : i0 + 4 < L) (hR : tn_R hX hY) (hl : lv_has ls 7 (tn_lv b adX adY qo (nI i0))) (hP : va_P D tn_cl (tn_LW adX adY ca cL qo f hX hY) H) (hD : va_D A (tn_LW adX adY ca cL qo f hX hY)) (hS : va_S A s.heap H locs) (hce : cells + 2 ≤ 1070) (hsl : slots + 12 ≤ 27272)
    (kk : ∀ (hX1 hY1 : am_S) (f1 : Nat → Int64) (H1 : Heap) (locs1 : List Loc) (ls1 : Array Slot), tn_R hX1 hY1 → va_P D tn_cl (tn_LW adX adY ca cL qo f1 hX1 hY1) H1 → va_D A (tn_LW adX adY ca cL qo f1 hX1 hY1) → va_S A s.heap H1 locs1 → lv_has ls1 7 (tn_lv b adX adY qo (nI i0)) → W p l e room_1 s m args below meth c H1 locs1 (cells + 2) (slots + 12) Qe (F0 m 990 ls1 [])) :
    W p l e room_1 s m args below meth c H locs cells slots Qe (F0 m 304 ls []) := by
  obtain ⟨hl9, hx, hb, hml, hown, hts, hns, hE, hK, hA, hsc, hbl, hbA, hL⟩ := id C
  refine lv_aload_n hx hb tn_dl_304 rfl (lv_at hl 1 rfl) ?_
  refine lv_aload_n hx hb tn_dl_305 rfl (lv_at hl 0 rfl) ?_
  refine lv_iload hx hb tn_dl_306 (lv_at hl 4 rfl) ?_
  refine lv_iconst (v := 1) hx hb tn_dl_308 (by decide) ?_
  refine lv_iadd hx hb tn_dl_309 ?_
  refine va_sld hx hb hsc hbl hbA hS (tn_vin (j := 1) (by decide) (by omega) hL) tn_dl_310 ?_
  refine lv_aload_n hx hb tn_dl_311 rfl (lv_at hl 0 rfl) ?_
  refine lv_iload hx hb tn_dl_312 (lv_at hl 4 rfl) ?_
  refine lv_iconst (v := 2) hx hb tn_dl_314 (by decide) ?_
  refine lv_iadd hx hb tn_dl_315 ?_
  refine va_sld hx hb hsc hbl hbA hS (tn_vin (j := 2) (by decide) (by omega) hL) tn_dl_316 ?_
  refine lv_aload_n hx hb tn_dl_317 rfl (lv_at hl 3 rfl) ?_
  refine tn_cs (av := [.ref (adX 0), .int (xs (nI i0 + 1).toNatClampNeg), .int (xs (nI i0 + 2).toNatClampNeg), .ref qo]) (rest := []) (n := 4) C (tn_h_equal hl9 (xs (nI i0 + 1).toNatClampNeg) (xs (nI i0 + 2).toNatClampNeg) (pr_equal hR) (fun h1 o q => by obtain ⟨_, _, q9⟩ := am_AW.ends q; exact tn_ag_k q9.2) H.size) hP hD hS hl.1 tn_wl19 tn_wl20 tn_wl21 tn_wl3 rfl (by decide +kernel) rfl rfl rfl (Nat.le_of_ble_eq_true rfl) (Nat.le_of_ble_eq_true rfl) (by omega) (by omega) (Nat.le_of_ble_eq_true rfl) tn_dl_318 (fun hX1 o k f1 H1 locs1 hq hou hP1 hD1 hS1 => ?_)
  refine W.widen (k := cells + 2) (n := slots + 12) (by omega) (by omega) ?_
  refine lv_istore (i := 5) (lv' := (5, .int k) :: tn_lv b adX adY qo (nI i0)) hx hb tn_dl_321 hl (by decide) rfl (fun ls hl => ?_)
  refine lv_aload_n hx hb tn_dl_323 rfl (lv_at hl 3 rfl) ?_
  refine lv_aload_n hx hb tn_dl_324 rfl (lv_at hl 1 rfl) ?_
  refine lv_iload hx hb tn_dl_325 (lv_at hl 5 rfl) ?_
  refine lv_iconst (v := 1) hx hb tn_dl_327 (by decide) ?_
  refine lv_iadd hx hb tn_dl_328 ?_
  refine va_sld hx hb hsc hbl hbA hS1 (tn_vin (j := 1) (by decide) (by omega) hL) tn_dl_329 ?_
  refine lv_aload_n hx hb tn_dl_330 rfl (lv_at hl 1 rfl) ?_
  refine lv_iload hx hb tn_dl_331 (lv_at hl 5 rfl) ?_
  refine lv_iconst (v := 2) hx hb tn_dl_333 (by decide) ?_
  refine lv_iadd hx hb tn_dl_334 ?_
  refine va_sld hx hb hsc hbl hbA hS1 (tn_vin (j := 2) (by decide) (by omega) hL) tn_dl_335 ?_
  refine tn_cy (μ := 63) (M := tn_m63) (zs := [.int (xs (nI i0 + 1).toNatClampNeg), .int (xs (nI i0 + 2).toNatClampNeg)]) (rest := []) C rfl hq (Nat.le_of_ble_eq_true rfl) (tn_intS (tn_intS tn_int0)) hP1 hD1 hS1 hl.1 rfl rfl tn_wl22 tn_wl23 tn_wl24 (by decide +kernel : (parseMethodDescriptor tn_m63.1.desc).map (fun d => d.parameters.length) = some 2) (Nat.le_of_ble_eq_true rfl) (Nat.le_of_ble_eq_true rfl) rfl rfl hce hsl (Nat.le_of_ble_eq_true rfl) tn_dl_336 (fun h' o' q => tn_ag_r q.2) (fun v hY1 H2 locs2 q hP2 hD2 hS2 => ?_)
  exact tn_tailB (pc := 339) C tn_dl_339 tn_dl_341 tn_dl_342 tn_dl_345 tn_dl_347 tn_dl_352 tn_dl_354 tn_dl_357 tn_dl_358 tn_dl_359 tn_dl_360 tn_dl_362 tn_dl_365 tn_dl_366 tn_dl_369 tn_dl_370 tn_dl_371 tn_dl_376 (by decide) hl hP2 hD2 hS2 hou q.2 hce hsl (fun H3 locs3 ls3 hP3 hD3 hS3 hl3 => kk _ _ _ H3 locs3 ls3 q.1 hP3 hD3 hS3 hl3)
set_option maxHeartbeats 1000000 in
theorem tn_case_same (C : tn_lc l p s m args c b L xs A D ca cL) {i0 : Nat} (hi : i0 + 4 < L) (hR : tn_R hX hY) (hl : lv_has ls 7 (tn_lv b adX adY qo (nI i0))) (hP : va_P D tn_cl (tn_LW adX adY ca cL qo f hX hY) H) (hD : va_D A (tn_LW adX adY ca cL qo f hX hY)) (hS : va_S A s.heap H locs) (hce : cells + 2 ≤ 1070) (hsl : slots + 12 ≤ 27272)
    (kk : ∀ (hX1 hY1 : am_S) (f1 : Nat → Int64) (H1 : Heap) (locs1 : List Loc) (ls1 : Array Slot), tn_R hX1 hY1 → va_P D tn_cl (tn_LW adX adY ca cL qo f1 hX1 hY1) H1 → va_D A (tn_LW adX adY ca cL qo f1 hX1 hY1) → va_S A s.heap H1 locs1 → lv_has ls1 7 (tn_lv b adX adY qo (nI i0)) → W p l e room_1 s m args below meth c H1 locs1 (cells + 2) (slots + 12) Qe (F0 m 990 ls1 [])) :
    W p l e room_1 s m args below meth c H locs cells slots Qe (F0 m 379 ls []) := by
  obtain ⟨hl9, hx, hb, hml, hown, hts, hns, hE, hK, hA, hsc, hbl, hbA, hL⟩ := id C
  refine lv_aload_n hx hb tn_dl_379 rfl (lv_at hl 1 rfl) ?_
  refine lv_aload_n hx hb tn_dl_380 rfl (lv_at hl 0 rfl) ?_
  refine lv_iload hx hb tn_dl_381 (lv_at hl 4 rfl) ?_
  refine lv_iconst (v := 1) hx hb tn_dl_383 (by decide) ?_
  refine lv_iadd hx hb tn_dl_384 ?_
  refine va_sld hx hb hsc hbl hbA hS (tn_vin (j := 1) (by decide) (by omega) hL) tn_dl_385 ?_
  refine lv_aload_n hx hb tn_dl_386 rfl (lv_at hl 0 rfl) ?_
  refine lv_iload hx hb tn_dl_387 (lv_at hl 4 rfl) ?_
  refine lv_iconst (v := 2) hx hb tn_dl_389 (by decide) ?_
  refine lv_iadd hx hb tn_dl_390 ?_
  refine va_sld hx hb hsc hbl hbA hS (tn_vin (j := 2) (by decide) (by omega) hL) tn_dl_391 ?_
  refine lv_aload_n hx hb tn_dl_392 rfl (lv_at hl 3 rfl) ?_
  refine tn_cs (av := [.ref (adX 0), .int (xs (nI i0 + 1).toNatClampNeg), .int (xs (nI i0 + 2).toNatClampNeg), .ref qo]) (rest := []) (n := 4) C (tn_h_same hl9 (xs (nI i0 + 1).toNatClampNeg) (xs (nI i0 + 2).toNatClampNeg) (pr_same hR) (fun h1 o q => by obtain ⟨_, _, q9⟩ := am_AW.ends q; exact tn_ag_k q9.2) H.size) hP hD hS hl.1 tn_wl25 tn_wl26 tn_wl27 tn_wl3 rfl (by decide +kernel) rfl rfl rfl (Nat.le_of_ble_eq_true rfl) (Nat.le_of_ble_eq_true rfl) (by omega) (by omega) (Nat.le_of_ble_eq_true rfl) tn_dl_393 (fun hX1 o k f1 H1 locs1 hq hou hP1 hD1 hS1 => ?_)
  refine W.widen (k := cells + 2) (n := slots + 12) (by omega) (by omega) ?_
  refine lv_istore (i := 5) (lv' := (5, .int k) :: tn_lv b adX adY qo (nI i0)) hx hb tn_dl_396 hl (by decide) rfl (fun ls hl => ?_)
  refine lv_aload_n hx hb tn_dl_398 rfl (lv_at hl 3 rfl) ?_
  refine lv_aload_n hx hb tn_dl_399 rfl (lv_at hl 1 rfl) ?_
  refine lv_iload hx hb tn_dl_400 (lv_at hl 5 rfl) ?_
  refine lv_iconst (v := 1) hx hb tn_dl_402 (by decide) ?_
  refine lv_iadd hx hb tn_dl_403 ?_
  refine va_sld hx hb hsc hbl hbA hS1 (tn_vin (j := 1) (by decide) (by omega) hL) tn_dl_404 ?_
  refine lv_aload_n hx hb tn_dl_405 rfl (lv_at hl 1 rfl) ?_
  refine lv_iload hx hb tn_dl_406 (lv_at hl 5 rfl) ?_
  refine lv_iconst (v := 2) hx hb tn_dl_408 (by decide) ?_
  refine lv_iadd hx hb tn_dl_409 ?_
  refine va_sld hx hb hsc hbl hbA hS1 (tn_vin (j := 2) (by decide) (by omega) hL) tn_dl_410 ?_
  refine tn_cy (μ := 65) (M := tn_m65) (zs := [.int (xs (nI i0 + 1).toNatClampNeg), .int (xs (nI i0 + 2).toNatClampNeg)]) (rest := []) C rfl hq (Nat.le_of_ble_eq_true rfl) (tn_intS (tn_intS tn_int0)) hP1 hD1 hS1 hl.1 rfl rfl tn_wl28 tn_wl29 tn_wl30 (by decide +kernel : (parseMethodDescriptor tn_m65.1.desc).map (fun d => d.parameters.length) = some 2) (Nat.le_of_ble_eq_true rfl) (Nat.le_of_ble_eq_true rfl) rfl rfl hce hsl (Nat.le_of_ble_eq_true rfl) tn_dl_411 (fun h' o' q => tn_ag_r q.2) (fun v hY1 H2 locs2 q hP2 hD2 hS2 => ?_)
  exact tn_tailB (pc := 414) C tn_dl_414 tn_dl_416 tn_dl_417 tn_dl_420 tn_dl_422 tn_dl_427 tn_dl_429 tn_dl_432 tn_dl_433 tn_dl_434 tn_dl_435 tn_dl_437 tn_dl_440 tn_dl_441 tn_dl_444 tn_dl_445 tn_dl_446 tn_dl_451 (by decide) hl hP2 hD2 hS2 hou q.2 hce hsl (fun H3 locs3 ls3 hP3 hD3 hS3 hl3 => kk _ _ _ H3 locs3 ls3 q.1 hP3 hD3 hS3 hl3)
set_option maxHeartbeats 1000000 in
theorem tn_case_top (C : tn_lc l p s m args c b L xs A D ca cL) {i0 : Nat} (hi : i0 + 4 < L) (hR : tn_R hX hY) (hl : lv_has ls 7 (tn_lv b adX adY qo (nI i0))) (hP : va_P D tn_cl (tn_LW adX adY ca cL qo f hX hY) H) (hD : va_D A (tn_LW adX adY ca cL qo f hX hY)) (hS : va_S A s.heap H locs) (hce : cells + 2 ≤ 1070) (hsl : slots + 12 ≤ 27272)
    (kk : ∀ (hX1 hY1 : am_S) (f1 : Nat → Int64) (H1 : Heap) (locs1 : List Loc) (ls1 : Array Slot), tn_R hX1 hY1 → va_P D tn_cl (tn_LW adX adY ca cL qo f1 hX1 hY1) H1 → va_D A (tn_LW adX adY ca cL qo f1 hX1 hY1) → va_S A s.heap H1 locs1 → lv_has ls1 7 (tn_lv b adX adY qo (nI i0)) → W p l e room_1 s m args below meth c H1 locs1 (cells + 2) (slots + 12) Qe (F0 m 990 ls1 [])) :
    W p l e room_1 s m args below meth c H locs cells slots Qe (F0 m 454 ls []) := by
  obtain ⟨hl9, hx, hb, hml, hown, hts, hns, hE, hK, hA, hsc, hbl, hbA, hL⟩ := id C
  refine lv_aload_n hx hb tn_dl_454 rfl (lv_at hl 1 rfl) ?_
  refine lv_aload_n hx hb tn_dl_455 rfl (lv_at hl 0 rfl) ?_
  refine lv_iload hx hb tn_dl_456 (lv_at hl 4 rfl) ?_
  refine lv_iconst (v := 1) hx hb tn_dl_458 (by decide) ?_
  refine lv_iadd hx hb tn_dl_459 ?_
  refine va_sld hx hb hsc hbl hbA hS (tn_vin (j := 1) (by decide) (by omega) hL) tn_dl_460 ?_
  refine lv_aload_n hx hb tn_dl_461 rfl (lv_at hl 3 rfl) ?_
  refine tn_cs (av := [.ref (adX 0), .int (xs (nI i0 + 1).toNatClampNeg), .ref qo]) (rest := []) (n := 3) C (tn_h_top hl9 (xs (nI i0 + 1).toNatClampNeg) (pr_top hR) (fun h1 o q => by obtain ⟨_, _, q9⟩ := am_AW.ends q; exact tn_ag_k q9.2) H.size) hP hD hS hl.1 tn_wl31 tn_wl32 tn_wl33 tn_wl3 rfl (by decide +kernel) rfl rfl rfl (Nat.le_of_ble_eq_true rfl) (Nat.le_of_ble_eq_true rfl) (by omega) (by omega) (Nat.le_of_ble_eq_true rfl) tn_dl_462 (fun hX1 o k f1 H1 locs1 hq hou hP1 hD1 hS1 => ?_)
  refine W.widen (k := cells + 2) (n := slots + 12) (by omega) (by omega) ?_
  refine lv_istore (i := 5) (lv' := (5, .int k) :: tn_lv b adX adY qo (nI i0)) hx hb tn_dl_465 hl (by decide) rfl (fun ls hl => ?_)
  refine lv_aload_n hx hb tn_dl_467 rfl (lv_at hl 3 rfl) ?_
  refine lv_aload_n hx hb tn_dl_468 rfl (lv_at hl 1 rfl) ?_
  refine lv_iload hx hb tn_dl_469 (lv_at hl 5 rfl) ?_
  refine lv_iconst (v := 1) hx hb tn_dl_471 (by decide) ?_
  refine lv_iadd hx hb tn_dl_472 ?_
  refine va_sld hx hb hsc hbl hbA hS1 (tn_vin (j := 1) (by decide) (by omega) hL) tn_dl_473 ?_
  refine tn_cy (μ := 66) (M := tn_m66) (zs := [.int (xs (nI i0 + 1).toNatClampNeg)]) (rest := []) C rfl hq (Nat.le_of_ble_eq_true rfl) (tn_intS tn_int0) hP1 hD1 hS1 hl.1 rfl rfl tn_wl34 tn_wl35 tn_wl36 (by decide +kernel : (parseMethodDescriptor tn_m66.1.desc).map (fun d => d.parameters.length) = some 1) (Nat.le_of_ble_eq_true rfl) (Nat.le_of_ble_eq_true rfl) rfl rfl hce hsl (Nat.le_of_ble_eq_true rfl) tn_dl_474 (fun h' o' q => tn_ag_r q.2) (fun v hY1 H2 locs2 q hP2 hD2 hS2 => ?_)
  exact tn_tailI (pc := 477) C tn_dl_477 tn_dl_479 tn_dl_480 tn_dl_483 tn_dl_485 tn_dl_490 tn_dl_492 tn_dl_495 tn_dl_496 tn_dl_497 tn_dl_498 tn_dl_500 tn_dl_501 tn_dl_502 tn_dl_507 (by decide) hl hP2 hD2 hS2 hou q.2 hce hsl (fun H3 locs3 ls3 hP3 hD3 hS3 hl3 => kk _ _ _ H3 locs3 ls3 q.1 hP3 hD3 hS3 hl3)
set_option maxHeartbeats 1000000 in
theorem tn_case_part (C : tn_lc l p s m args c b L xs A D ca cL) {i0 : Nat} (hi : i0 + 4 < L) (hR : tn_R hX hY) (hl : lv_has ls 7 (tn_lv b adX adY qo (nI i0))) (hP : va_P D tn_cl (tn_LW adX adY ca cL qo f hX hY) H) (hD : va_D A (tn_LW adX adY ca cL qo f hX hY)) (hS : va_S A s.heap H locs) (hce : cells + 2 ≤ 1070) (hsl : slots + 12 ≤ 27272)
    (kk : ∀ (hX1 hY1 : am_S) (f1 : Nat → Int64) (H1 : Heap) (locs1 : List Loc) (ls1 : Array Slot), tn_R hX1 hY1 → va_P D tn_cl (tn_LW adX adY ca cL qo f1 hX1 hY1) H1 → va_D A (tn_LW adX adY ca cL qo f1 hX1 hY1) → va_S A s.heap H1 locs1 → lv_has ls1 7 (tn_lv b adX adY qo (nI i0)) → W p l e room_1 s m args below meth c H1 locs1 (cells + 2) (slots + 12) Qe (F0 m 990 ls1 [])) :
    W p l e room_1 s m args below meth c H locs cells slots Qe (F0 m 510 ls []) := by
  obtain ⟨hl9, hx, hb, hml, hown, hts, hns, hE, hK, hA, hsc, hbl, hbA, hL⟩ := id C
  refine lv_aload_n hx hb tn_dl_510 rfl (lv_at hl 1 rfl) ?_
  refine lv_aload_n hx hb tn_dl_511 rfl (lv_at hl 0 rfl) ?_
  refine lv_iload hx hb tn_dl_512 (lv_at hl 4 rfl) ?_
  refine lv_iconst (v := 1) hx hb tn_dl_514 (by decide) ?_
  refine lv_iadd hx hb tn_dl_515 ?_
  refine va_sld hx hb hsc hbl hbA hS (tn_vin (j := 1) (by decide) (by omega) hL) tn_dl_516 ?_
  refine lv_aload_n hx hb tn_dl_517 rfl (lv_at hl 0 rfl) ?_
  refine lv_iload hx hb tn_dl_518 (lv_at hl 4 rfl) ?_
  refine lv_iconst (v := 2) hx hb tn_dl_520 (by decide) ?_
  refine lv_iadd hx hb tn_dl_521 ?_
  refine va_sld hx hb hsc hbl hbA hS (tn_vin (j := 2) (by decide) (by omega) hL) tn_dl_522 ?_
  refine lv_aload_n hx hb tn_dl_523 rfl (lv_at hl 3 rfl) ?_
  refine tn_cs (av := [.ref (adX 0), .int (xs (nI i0 + 1).toNatClampNeg), .int (xs (nI i0 + 2).toNatClampNeg), .ref qo]) (rest := []) (n := 4) C (tn_h_part hl9 (xs (nI i0 + 1).toNatClampNeg) (xs (nI i0 + 2).toNatClampNeg) (pr_part hR) (fun h1 o q => by obtain ⟨_, _, q9⟩ := am_AW.ends q; exact tn_ag_k q9.2) H.size) hP hD hS hl.1 tn_wl37 tn_wl38 tn_wl39 tn_wl3 rfl (by decide +kernel) rfl rfl rfl (Nat.le_of_ble_eq_true rfl) (Nat.le_of_ble_eq_true rfl) (by omega) (by omega) (Nat.le_of_ble_eq_true rfl) tn_dl_524 (fun hX1 o k f1 H1 locs1 hq hou hP1 hD1 hS1 => ?_)
  refine W.widen (k := cells + 2) (n := slots + 12) (by omega) (by omega) ?_
  refine lv_istore (i := 5) (lv' := (5, .int k) :: tn_lv b adX adY qo (nI i0)) hx hb tn_dl_527 hl (by decide) rfl (fun ls hl => ?_)
  refine lv_aload_n hx hb tn_dl_529 rfl (lv_at hl 3 rfl) ?_
  refine lv_aload_n hx hb tn_dl_530 rfl (lv_at hl 1 rfl) ?_
  refine lv_iload hx hb tn_dl_531 (lv_at hl 5 rfl) ?_
  refine lv_iconst (v := 1) hx hb tn_dl_533 (by decide) ?_
  refine lv_iadd hx hb tn_dl_534 ?_
  refine va_sld hx hb hsc hbl hbA hS1 (tn_vin (j := 1) (by decide) (by omega) hL) tn_dl_535 ?_
  refine lv_aload_n hx hb tn_dl_536 rfl (lv_at hl 1 rfl) ?_
  refine lv_iload hx hb tn_dl_537 (lv_at hl 5 rfl) ?_
  refine lv_iconst (v := 2) hx hb tn_dl_539 (by decide) ?_
  refine lv_iadd hx hb tn_dl_540 ?_
  refine va_sld hx hb hsc hbl hbA hS1 (tn_vin (j := 2) (by decide) (by omega) hL) tn_dl_541 ?_
  refine tn_cy (μ := 67) (M := tn_m67) (zs := [.int (xs (nI i0 + 1).toNatClampNeg), .int (xs (nI i0 + 2).toNatClampNeg)]) (rest := []) C rfl hq (Nat.le_of_ble_eq_true rfl) (tn_intS (tn_intS tn_int0)) hP1 hD1 hS1 hl.1 rfl rfl tn_wl40 tn_wl41 tn_wl42 (by decide +kernel : (parseMethodDescriptor tn_m67.1.desc).map (fun d => d.parameters.length) = some 2) (Nat.le_of_ble_eq_true rfl) (Nat.le_of_ble_eq_true rfl) rfl rfl hce hsl (Nat.le_of_ble_eq_true rfl) tn_dl_542 (fun h' o' q => tn_ag_r q.2) (fun v hY1 H2 locs2 q hP2 hD2 hS2 => ?_)
  exact tn_tailI (pc := 545) C tn_dl_545 tn_dl_547 tn_dl_548 tn_dl_551 tn_dl_553 tn_dl_558 tn_dl_560 tn_dl_563 tn_dl_564 tn_dl_565 tn_dl_566 tn_dl_568 tn_dl_569 tn_dl_570 tn_dl_575 (by decide) hl hP2 hD2 hS2 hou q.2 hce hsl (fun H3 locs3 ls3 hP3 hD3 hS3 hl3 => kk _ _ _ H3 locs3 ls3 q.1 hP3 hD3 hS3 hl3)
set_option maxHeartbeats 1000000 in
theorem tn_case_least (C : tn_lc l p s m args c b L xs A D ca cL) {i0 : Nat} (hi : i0 + 4 < L) (hR : tn_R hX hY) (hl : lv_has ls 7 (tn_lv b adX adY qo (nI i0))) (hP : va_P D tn_cl (tn_LW adX adY ca cL qo f hX hY) H) (hD : va_D A (tn_LW adX adY ca cL qo f hX hY)) (hS : va_S A s.heap H locs) (hce : cells + 2 ≤ 1070) (hsl : slots + 12 ≤ 27272)
    (kk : ∀ (hX1 hY1 : am_S) (f1 : Nat → Int64) (H1 : Heap) (locs1 : List Loc) (ls1 : Array Slot), tn_R hX1 hY1 → va_P D tn_cl (tn_LW adX adY ca cL qo f1 hX1 hY1) H1 → va_D A (tn_LW adX adY ca cL qo f1 hX1 hY1) → va_S A s.heap H1 locs1 → lv_has ls1 7 (tn_lv b adX adY qo (nI i0)) → W p l e room_1 s m args below meth c H1 locs1 (cells + 2) (slots + 12) Qe (F0 m 990 ls1 [])) :
    W p l e room_1 s m args below meth c H locs cells slots Qe (F0 m 578 ls []) := by
  obtain ⟨hl9, hx, hb, hml, hown, hts, hns, hE, hK, hA, hsc, hbl, hbA, hL⟩ := id C
  refine lv_aload_n hx hb tn_dl_578 rfl (lv_at hl 1 rfl) ?_
  refine lv_aload_n hx hb tn_dl_579 rfl (lv_at hl 0 rfl) ?_
  refine lv_iload hx hb tn_dl_580 (lv_at hl 4 rfl) ?_
  refine lv_iconst (v := 1) hx hb tn_dl_582 (by decide) ?_
  refine lv_iadd hx hb tn_dl_583 ?_
  refine va_sld hx hb hsc hbl hbA hS (tn_vin (j := 1) (by decide) (by omega) hL) tn_dl_584 ?_
  refine lv_aload_n hx hb tn_dl_585 rfl (lv_at hl 3 rfl) ?_
  refine tn_cs (av := [.ref (adX 0), .int (xs (nI i0 + 1).toNatClampNeg), .ref qo]) (rest := []) (n := 3) C (tn_h_least hl9 (xs (nI i0 + 1).toNatClampNeg) (pr_least hR) (fun h1 o q => by obtain ⟨_, _, q9⟩ := am_AW.ends q; exact tn_ag_k q9.2) H.size) hP hD hS hl.1 tn_wl43 tn_wl44 tn_wl45 tn_wl3 rfl (by decide +kernel) rfl rfl rfl (Nat.le_of_ble_eq_true rfl) (Nat.le_of_ble_eq_true rfl) (by omega) (by omega) (Nat.le_of_ble_eq_true rfl) tn_dl_586 (fun hX1 o k f1 H1 locs1 hq hou hP1 hD1 hS1 => ?_)
  refine W.widen (k := cells + 2) (n := slots + 12) (by omega) (by omega) ?_
  refine lv_istore (i := 5) (lv' := (5, .int k) :: tn_lv b adX adY qo (nI i0)) hx hb tn_dl_589 hl (by decide) rfl (fun ls hl => ?_)
  refine lv_aload_n hx hb tn_dl_591 rfl (lv_at hl 3 rfl) ?_
  refine lv_aload_n hx hb tn_dl_592 rfl (lv_at hl 1 rfl) ?_
  refine lv_iload hx hb tn_dl_593 (lv_at hl 5 rfl) ?_
  refine lv_iconst (v := 1) hx hb tn_dl_595 (by decide) ?_
  refine lv_iadd hx hb tn_dl_596 ?_
  refine va_sld hx hb hsc hbl hbA hS1 (tn_vin (j := 1) (by decide) (by omega) hL) tn_dl_597 ?_
  refine tn_cy (μ := 68) (M := tn_m68) (zs := [.int (xs (nI i0 + 1).toNatClampNeg)]) (rest := []) C rfl hq (Nat.le_of_ble_eq_true rfl) (tn_intS tn_int0) hP1 hD1 hS1 hl.1 rfl rfl tn_wl46 tn_wl47 tn_wl48 (by decide +kernel : (parseMethodDescriptor tn_m68.1.desc).map (fun d => d.parameters.length) = some 1) (Nat.le_of_ble_eq_true rfl) (Nat.le_of_ble_eq_true rfl) rfl rfl hce hsl (Nat.le_of_ble_eq_true rfl) tn_dl_598 (fun h' o' q => tn_ag_r q.2) (fun v hY1 H2 locs2 q hP2 hD2 hS2 => ?_)
  exact tn_tailI (pc := 601) C tn_dl_601 tn_dl_603 tn_dl_604 tn_dl_607 tn_dl_609 tn_dl_614 tn_dl_616 tn_dl_619 tn_dl_620 tn_dl_621 tn_dl_622 tn_dl_624 tn_dl_625 tn_dl_626 tn_dl_631 (by decide) hl hP2 hD2 hS2 hou q.2 hce hsl (fun H3 locs3 ls3 hP3 hD3 hS3 hl3 => kk _ _ _ H3 locs3 ls3 q.1 hP3 hD3 hS3 hl3)
set_option maxHeartbeats 1000000 in
theorem tn_case_size (C : tn_lc l p s m args c b L xs A D ca cL) {i0 : Nat} (hi : i0 + 4 < L) (hR : tn_R hX hY) (hl : lv_has ls 7 (tn_lv b adX adY qo (nI i0))) (hP : va_P D tn_cl (tn_LW adX adY ca cL qo f hX hY) H) (hD : va_D A (tn_LW adX adY ca cL qo f hX hY)) (hS : va_S A s.heap H locs) (hce : cells + 2 ≤ 1070) (hsl : slots + 12 ≤ 27272)
    (kk : ∀ (hX1 hY1 : am_S) (f1 : Nat → Int64) (H1 : Heap) (locs1 : List Loc) (ls1 : Array Slot), tn_R hX1 hY1 → va_P D tn_cl (tn_LW adX adY ca cL qo f1 hX1 hY1) H1 → va_D A (tn_LW adX adY ca cL qo f1 hX1 hY1) → va_S A s.heap H1 locs1 → lv_has ls1 7 (tn_lv b adX adY qo (nI i0)) → W p l e room_1 s m args below meth c H1 locs1 (cells + 2) (slots + 12) Qe (F0 m 990 ls1 [])) :
    W p l e room_1 s m args below meth c H locs cells slots Qe (F0 m 634 ls []) := by
  obtain ⟨hl9, hx, hb, hml, hown, hts, hns, hE, hK, hA, hsc, hbl, hbA, hL⟩ := id C
  refine lv_aload_n hx hb tn_dl_634 rfl (lv_at hl 1 rfl) ?_
  refine lv_aload_n hx hb tn_dl_635 rfl (lv_at hl 0 rfl) ?_
  refine lv_iload hx hb tn_dl_636 (lv_at hl 4 rfl) ?_
  refine lv_iconst (v := 1) hx hb tn_dl_638 (by decide) ?_
  refine lv_iadd hx hb tn_dl_639 ?_
  refine va_sld hx hb hsc hbl hbA hS (tn_vin (j := 1) (by decide) (by omega) hL) tn_dl_640 ?_
  refine lv_aload_n hx hb tn_dl_641 rfl (lv_at hl 3 rfl) ?_
  refine tn_cs (av := [.ref (adX 0), .int (xs (nI i0 + 1).toNatClampNeg), .ref qo]) (rest := []) (n := 3) C (tn_h_size hl9 (xs (nI i0 + 1).toNatClampNeg) (pr_size hR) (fun h1 o q => by obtain ⟨_, _, q9⟩ := am_AW.ends q; exact tn_ag_k q9.2) H.size) hP hD hS hl.1 tn_wl49 tn_wl50 tn_wl51 tn_wl3 rfl (by decide +kernel) rfl rfl rfl (Nat.le_of_ble_eq_true rfl) (Nat.le_of_ble_eq_true rfl) (by omega) (by omega) (Nat.le_of_ble_eq_true rfl) tn_dl_642 (fun hX1 o k f1 H1 locs1 hq hou hP1 hD1 hS1 => ?_)
  refine W.widen (k := cells + 2) (n := slots + 12) (by omega) (by omega) ?_
  refine lv_istore (i := 5) (lv' := (5, .int k) :: tn_lv b adX adY qo (nI i0)) hx hb tn_dl_645 hl (by decide) rfl (fun ls hl => ?_)
  refine lv_aload_n hx hb tn_dl_647 rfl (lv_at hl 3 rfl) ?_
  refine lv_aload_n hx hb tn_dl_648 rfl (lv_at hl 1 rfl) ?_
  refine lv_iload hx hb tn_dl_649 (lv_at hl 5 rfl) ?_
  refine lv_iconst (v := 1) hx hb tn_dl_651 (by decide) ?_
  refine lv_iadd hx hb tn_dl_652 ?_
  refine va_sld hx hb hsc hbl hbA hS1 (tn_vin (j := 1) (by decide) (by omega) hL) tn_dl_653 ?_
  refine tn_cy (μ := 69) (M := tn_m69) (zs := [.int (xs (nI i0 + 1).toNatClampNeg)]) (rest := []) C rfl hq (Nat.le_of_ble_eq_true rfl) (tn_intS tn_int0) hP1 hD1 hS1 hl.1 rfl rfl tn_wl52 tn_wl53 tn_wl54 (by decide +kernel : (parseMethodDescriptor tn_m69.1.desc).map (fun d => d.parameters.length) = some 1) (Nat.le_of_ble_eq_true rfl) (Nat.le_of_ble_eq_true rfl) rfl rfl hce hsl (Nat.le_of_ble_eq_true rfl) tn_dl_654 (fun h' o' q => tn_ag_r q.2) (fun v hY1 H2 locs2 q hP2 hD2 hS2 => ?_)
  exact tn_tailI (pc := 657) C tn_dl_657 tn_dl_659 tn_dl_660 tn_dl_663 tn_dl_665 tn_dl_670 tn_dl_672 tn_dl_675 tn_dl_676 tn_dl_677 tn_dl_678 tn_dl_680 tn_dl_681 tn_dl_682 tn_dl_687 (by decide) hl hP2 hD2 hS2 hou q.2 hce hsl (fun H3 locs3 ls3 hP3 hD3 hS3 hl3 => kk _ _ _ H3 locs3 ls3 q.1 hP3 hD3 hS3 hl3)
set_option maxHeartbeats 1000000 in
theorem tn_case_depth (C : tn_lc l p s m args c b L xs A D ca cL) {i0 : Nat} (hi : i0 + 4 < L) (hR : tn_R hX hY) (hl : lv_has ls 7 (tn_lv b adX adY qo (nI i0))) (hP : va_P D tn_cl (tn_LW adX adY ca cL qo f hX hY) H) (hD : va_D A (tn_LW adX adY ca cL qo f hX hY)) (hS : va_S A s.heap H locs) (hce : cells + 2 ≤ 1070) (hsl : slots + 12 ≤ 27272)
    (kk : ∀ (hX1 hY1 : am_S) (f1 : Nat → Int64) (H1 : Heap) (locs1 : List Loc) (ls1 : Array Slot), tn_R hX1 hY1 → va_P D tn_cl (tn_LW adX adY ca cL qo f1 hX1 hY1) H1 → va_D A (tn_LW adX adY ca cL qo f1 hX1 hY1) → va_S A s.heap H1 locs1 → lv_has ls1 7 (tn_lv b adX adY qo (nI i0)) → W p l e room_1 s m args below meth c H1 locs1 (cells + 2) (slots + 12) Qe (F0 m 990 ls1 [])) :
    W p l e room_1 s m args below meth c H locs cells slots Qe (F0 m 690 ls []) := by
  obtain ⟨hl9, hx, hb, hml, hown, hts, hns, hE, hK, hA, hsc, hbl, hbA, hL⟩ := id C
  refine lv_aload_n hx hb tn_dl_690 rfl (lv_at hl 1 rfl) ?_
  refine lv_aload_n hx hb tn_dl_691 rfl (lv_at hl 0 rfl) ?_
  refine lv_iload hx hb tn_dl_692 (lv_at hl 4 rfl) ?_
  refine lv_iconst (v := 1) hx hb tn_dl_694 (by decide) ?_
  refine lv_iadd hx hb tn_dl_695 ?_
  refine va_sld hx hb hsc hbl hbA hS (tn_vin (j := 1) (by decide) (by omega) hL) tn_dl_696 ?_
  refine lv_aload_n hx hb tn_dl_697 rfl (lv_at hl 3 rfl) ?_
  refine tn_cs (av := [.ref (adX 0), .int (xs (nI i0 + 1).toNatClampNeg), .ref qo]) (rest := []) (n := 3) C (tn_h_depth hl9 (xs (nI i0 + 1).toNatClampNeg) (pr_depth hR) (fun h1 o q => by obtain ⟨_, _, q9⟩ := am_AW.ends q; exact tn_ag_k q9.2) H.size) hP hD hS hl.1 tn_wl55 tn_wl56 tn_wl57 tn_wl3 rfl (by decide +kernel) rfl rfl rfl (Nat.le_of_ble_eq_true rfl) (Nat.le_of_ble_eq_true rfl) (by omega) (by omega) (Nat.le_of_ble_eq_true rfl) tn_dl_698 (fun hX1 o k f1 H1 locs1 hq hou hP1 hD1 hS1 => ?_)
  refine W.widen (k := cells + 2) (n := slots + 12) (by omega) (by omega) ?_
  refine lv_istore (i := 5) (lv' := (5, .int k) :: tn_lv b adX adY qo (nI i0)) hx hb tn_dl_701 hl (by decide) rfl (fun ls hl => ?_)
  refine lv_aload_n hx hb tn_dl_703 rfl (lv_at hl 3 rfl) ?_
  refine lv_aload_n hx hb tn_dl_704 rfl (lv_at hl 1 rfl) ?_
  refine lv_iload hx hb tn_dl_705 (lv_at hl 5 rfl) ?_
  refine lv_iconst (v := 1) hx hb tn_dl_707 (by decide) ?_
  refine lv_iadd hx hb tn_dl_708 ?_
  refine va_sld hx hb hsc hbl hbA hS1 (tn_vin (j := 1) (by decide) (by omega) hL) tn_dl_709 ?_
  refine tn_cy (μ := 70) (M := tn_m70) (zs := [.int (xs (nI i0 + 1).toNatClampNeg)]) (rest := []) C rfl hq (Nat.le_of_ble_eq_true rfl) (tn_intS tn_int0) hP1 hD1 hS1 hl.1 rfl rfl tn_wl58 tn_wl59 tn_wl60 (by decide +kernel : (parseMethodDescriptor tn_m70.1.desc).map (fun d => d.parameters.length) = some 1) (Nat.le_of_ble_eq_true rfl) (Nat.le_of_ble_eq_true rfl) rfl rfl hce hsl (Nat.le_of_ble_eq_true rfl) tn_dl_710 (fun h' o' q => tn_ag_r q.2) (fun v hY1 H2 locs2 q hP2 hD2 hS2 => ?_)
  exact tn_tailI (pc := 713) C tn_dl_713 tn_dl_715 tn_dl_716 tn_dl_719 tn_dl_721 tn_dl_726 tn_dl_728 tn_dl_731 tn_dl_732 tn_dl_733 tn_dl_734 tn_dl_736 tn_dl_737 tn_dl_738 tn_dl_743 (by decide) hl hP2 hD2 hS2 hou q.2 hce hsl (fun H3 locs3 ls3 hP3 hD3 hS3 hl3 => kk _ _ _ H3 locs3 ls3 q.1 hP3 hD3 hS3 hl3)
set_option maxHeartbeats 1000000 in
theorem tn_case_inside (C : tn_lc l p s m args c b L xs A D ca cL) {i0 : Nat} (hi : i0 + 4 < L) (hR : tn_R hX hY) (hl : lv_has ls 7 (tn_lv b adX adY qo (nI i0))) (hP : va_P D tn_cl (tn_LW adX adY ca cL qo f hX hY) H) (hD : va_D A (tn_LW adX adY ca cL qo f hX hY)) (hS : va_S A s.heap H locs) (hce : cells + 2 ≤ 1070) (hsl : slots + 12 ≤ 27272)
    (kk : ∀ (hX1 hY1 : am_S) (f1 : Nat → Int64) (H1 : Heap) (locs1 : List Loc) (ls1 : Array Slot), tn_R hX1 hY1 → va_P D tn_cl (tn_LW adX adY ca cL qo f1 hX1 hY1) H1 → va_D A (tn_LW adX adY ca cL qo f1 hX1 hY1) → va_S A s.heap H1 locs1 → lv_has ls1 7 (tn_lv b adX adY qo (nI i0)) → W p l e room_1 s m args below meth c H1 locs1 (cells + 2) (slots + 12) Qe (F0 m 990 ls1 [])) :
    W p l e room_1 s m args below meth c H locs cells slots Qe (F0 m 746 ls []) := by
  obtain ⟨hl9, hx, hb, hml, hown, hts, hns, hE, hK, hA, hsc, hbl, hbA, hL⟩ := id C
  refine lv_aload_n hx hb tn_dl_746 rfl (lv_at hl 1 rfl) ?_
  refine lv_aload_n hx hb tn_dl_747 rfl (lv_at hl 0 rfl) ?_
  refine lv_iload hx hb tn_dl_748 (lv_at hl 4 rfl) ?_
  refine lv_iconst (v := 1) hx hb tn_dl_750 (by decide) ?_
  refine lv_iadd hx hb tn_dl_751 ?_
  refine va_sld hx hb hsc hbl hbA hS (tn_vin (j := 1) (by decide) (by omega) hL) tn_dl_752 ?_
  refine lv_aload_n hx hb tn_dl_753 rfl (lv_at hl 0 rfl) ?_
  refine lv_iload hx hb tn_dl_754 (lv_at hl 4 rfl) ?_
  refine lv_iconst (v := 2) hx hb tn_dl_756 (by decide) ?_
  refine lv_iadd hx hb tn_dl_757 ?_
  refine va_sld hx hb hsc hbl hbA hS (tn_vin (j := 2) (by decide) (by omega) hL) tn_dl_758 ?_
  refine lv_aload_n hx hb tn_dl_759 rfl (lv_at hl 3 rfl) ?_
  refine tn_cs (av := [.ref (adX 0), .int (xs (nI i0 + 1).toNatClampNeg), .int (xs (nI i0 + 2).toNatClampNeg), .ref qo]) (rest := []) (n := 4) C (tn_h_inside hl9 (xs (nI i0 + 1).toNatClampNeg) (xs (nI i0 + 2).toNatClampNeg) (pr_inside hR) (fun h1 o q => by obtain ⟨_, _, q9⟩ := am_AW.ends q; exact tn_ag_k q9.2) H.size) hP hD hS hl.1 tn_wl61 tn_wl62 tn_wl63 tn_wl3 rfl (by decide +kernel) rfl rfl rfl (Nat.le_of_ble_eq_true rfl) (Nat.le_of_ble_eq_true rfl) (by omega) (by omega) (Nat.le_of_ble_eq_true rfl) tn_dl_760 (fun hX1 o k f1 H1 locs1 hq hou hP1 hD1 hS1 => ?_)
  refine W.widen (k := cells + 2) (n := slots + 12) (by omega) (by omega) ?_
  refine lv_istore (i := 5) (lv' := (5, .int k) :: tn_lv b adX adY qo (nI i0)) hx hb tn_dl_763 hl (by decide) rfl (fun ls hl => ?_)
  refine lv_aload_n hx hb tn_dl_765 rfl (lv_at hl 3 rfl) ?_
  refine lv_aload_n hx hb tn_dl_766 rfl (lv_at hl 1 rfl) ?_
  refine lv_iload hx hb tn_dl_767 (lv_at hl 5 rfl) ?_
  refine lv_iconst (v := 1) hx hb tn_dl_769 (by decide) ?_
  refine lv_iadd hx hb tn_dl_770 ?_
  refine va_sld hx hb hsc hbl hbA hS1 (tn_vin (j := 1) (by decide) (by omega) hL) tn_dl_771 ?_
  refine lv_aload_n hx hb tn_dl_772 rfl (lv_at hl 1 rfl) ?_
  refine lv_iload hx hb tn_dl_773 (lv_at hl 5 rfl) ?_
  refine lv_iconst (v := 2) hx hb tn_dl_775 (by decide) ?_
  refine lv_iadd hx hb tn_dl_776 ?_
  refine va_sld hx hb hsc hbl hbA hS1 (tn_vin (j := 2) (by decide) (by omega) hL) tn_dl_777 ?_
  refine tn_cy (μ := 71) (M := tn_m71) (zs := [.int (xs (nI i0 + 1).toNatClampNeg), .int (xs (nI i0 + 2).toNatClampNeg)]) (rest := []) C rfl hq (Nat.le_of_ble_eq_true rfl) (tn_intS (tn_intS tn_int0)) hP1 hD1 hS1 hl.1 rfl rfl tn_wl64 tn_wl65 tn_wl66 (by decide +kernel : (parseMethodDescriptor tn_m71.1.desc).map (fun d => d.parameters.length) = some 2) (Nat.le_of_ble_eq_true rfl) (Nat.le_of_ble_eq_true rfl) rfl rfl hce hsl (Nat.le_of_ble_eq_true rfl) tn_dl_778 (fun h' o' q => tn_ag_r q.2) (fun v hY1 H2 locs2 q hP2 hD2 hS2 => ?_)
  exact tn_tailB (pc := 781) C tn_dl_781 tn_dl_783 tn_dl_784 tn_dl_787 tn_dl_789 tn_dl_794 tn_dl_796 tn_dl_799 tn_dl_800 tn_dl_801 tn_dl_802 tn_dl_804 tn_dl_807 tn_dl_808 tn_dl_811 tn_dl_812 tn_dl_813 tn_dl_818 (by decide) hl hP2 hD2 hS2 hou q.2 hce hsl (fun H3 locs3 ls3 hP3 hD3 hS3 hl3 => kk _ _ _ H3 locs3 ls3 q.1 hP3 hD3 hS3 hl3)
set_option maxHeartbeats 1000000 in
theorem tn_case_unknowns (C : tn_lc l p s m args c b L xs A D ca cL) {i0 : Nat} (hi : i0 + 4 < L) (hR : tn_R hX hY) (hl : lv_has ls 7 (tn_lv b adX adY qo (nI i0))) (hP : va_P D tn_cl (tn_LW adX adY ca cL qo f hX hY) H) (hD : va_D A (tn_LW adX adY ca cL qo f hX hY)) (hS : va_S A s.heap H locs) (hce : cells + 2 ≤ 1070) (hsl : slots + 12 ≤ 27272)
    (kk : ∀ (hX1 hY1 : am_S) (f1 : Nat → Int64) (H1 : Heap) (locs1 : List Loc) (ls1 : Array Slot), tn_R hX1 hY1 → va_P D tn_cl (tn_LW adX adY ca cL qo f1 hX1 hY1) H1 → va_D A (tn_LW adX adY ca cL qo f1 hX1 hY1) → va_S A s.heap H1 locs1 → lv_has ls1 7 (tn_lv b adX adY qo (nI i0)) → W p l e room_1 s m args below meth c H1 locs1 (cells + 2) (slots + 12) Qe (F0 m 990 ls1 [])) :
    W p l e room_1 s m args below meth c H locs cells slots Qe (F0 m 821 ls []) := by
  obtain ⟨hl9, hx, hb, hml, hown, hts, hns, hE, hK, hA, hsc, hbl, hbA, hL⟩ := id C
  refine lv_aload_n hx hb tn_dl_821 rfl (lv_at hl 1 rfl) ?_
  refine lv_aload_n hx hb tn_dl_822 rfl (lv_at hl 0 rfl) ?_
  refine lv_iload hx hb tn_dl_823 (lv_at hl 4 rfl) ?_
  refine lv_iconst (v := 1) hx hb tn_dl_825 (by decide) ?_
  refine lv_iadd hx hb tn_dl_826 ?_
  refine va_sld hx hb hsc hbl hbA hS (tn_vin (j := 1) (by decide) (by omega) hL) tn_dl_827 ?_
  refine lv_aload_n hx hb tn_dl_828 rfl (lv_at hl 3 rfl) ?_
  refine tn_cs (av := [.ref (adX 0), .int (xs (nI i0 + 1).toNatClampNeg), .ref qo]) (rest := []) (n := 3) C (tn_h_unknowns hl9 (xs (nI i0 + 1).toNatClampNeg) (pr_unknowns hR) (fun h1 o q => by obtain ⟨_, _, q9⟩ := am_AW.ends q; exact tn_ag_k q9.2) H.size) hP hD hS hl.1 tn_wl67 tn_wl68 tn_wl69 tn_wl3 rfl (by decide +kernel) rfl rfl rfl (Nat.le_of_ble_eq_true rfl) (Nat.le_of_ble_eq_true rfl) (by omega) (by omega) (Nat.le_of_ble_eq_true rfl) tn_dl_829 (fun hX1 o k f1 H1 locs1 hq hou hP1 hD1 hS1 => ?_)
  refine W.widen (k := cells + 2) (n := slots + 12) (by omega) (by omega) ?_
  refine lv_istore (i := 5) (lv' := (5, .int k) :: tn_lv b adX adY qo (nI i0)) hx hb tn_dl_832 hl (by decide) rfl (fun ls hl => ?_)
  refine lv_aload_n hx hb tn_dl_834 rfl (lv_at hl 3 rfl) ?_
  refine lv_aload_n hx hb tn_dl_835 rfl (lv_at hl 1 rfl) ?_
  refine lv_iload hx hb tn_dl_836 (lv_at hl 5 rfl) ?_
  refine lv_iconst (v := 1) hx hb tn_dl_838 (by decide) ?_
  refine lv_iadd hx hb tn_dl_839 ?_
  refine va_sld hx hb hsc hbl hbA hS1 (tn_vin (j := 1) (by decide) (by omega) hL) tn_dl_840 ?_
  refine tn_cy (μ := 73) (M := tn_m73) (zs := [.int (xs (nI i0 + 1).toNatClampNeg)]) (rest := []) C rfl hq (Nat.le_of_ble_eq_true rfl) (tn_intS tn_int0) hP1 hD1 hS1 hl.1 rfl rfl tn_wl70 tn_wl71 tn_wl72 (by decide +kernel : (parseMethodDescriptor tn_m73.1.desc).map (fun d => d.parameters.length) = some 1) (Nat.le_of_ble_eq_true rfl) (Nat.le_of_ble_eq_true rfl) rfl rfl hce hsl (Nat.le_of_ble_eq_true rfl) tn_dl_841 (fun h' o' q => tn_ag_r q.2) (fun v hY1 H2 locs2 q hP2 hD2 hS2 => ?_)
  exact tn_tailI (pc := 844) C tn_dl_844 tn_dl_846 tn_dl_847 tn_dl_850 tn_dl_852 tn_dl_857 tn_dl_859 tn_dl_862 tn_dl_863 tn_dl_864 tn_dl_865 tn_dl_867 tn_dl_868 tn_dl_869 tn_dl_874 (by decide) hl hP2 hD2 hS2 hou q.2 hce hsl (fun H3 locs3 ls3 hP3 hD3 hS3 hl3 => kk _ _ _ H3 locs3 ls3 q.1 hP3 hD3 hS3 hl3)
set_option maxHeartbeats 1000000 in
theorem tn_case_mark (C : tn_lc l p s m args c b L xs A D ca cL) {i0 : Nat} (hi : i0 + 4 < L) (hR : tn_R hX hY) (hl : lv_has ls 7 (tn_lv b adX adY qo (nI i0))) (hP : va_P D tn_cl (tn_LW adX adY ca cL qo f hX hY) H) (hD : va_D A (tn_LW adX adY ca cL qo f hX hY)) (hS : va_S A s.heap H locs) (hce : cells + 2 ≤ 1070) (hsl : slots + 12 ≤ 27272)
    (kk : ∀ (hX1 hY1 : am_S) (f1 : Nat → Int64) (H1 : Heap) (locs1 : List Loc) (ls1 : Array Slot), tn_R hX1 hY1 → va_P D tn_cl (tn_LW adX adY ca cL qo f1 hX1 hY1) H1 → va_D A (tn_LW adX adY ca cL qo f1 hX1 hY1) → va_S A s.heap H1 locs1 → lv_has ls1 7 (tn_lv b adX adY qo (nI i0)) → W p l e room_1 s m args below meth c H1 locs1 (cells + 2) (slots + 12) Qe (F0 m 990 ls1 [])) :
    W p l e room_1 s m args below meth c H locs cells slots Qe (F0 m 877 ls []) := by
  obtain ⟨hl9, hx, hb, hml, hown, hts, hns, hE, hK, hA, hsc, hbl, hbA, hL⟩ := id C
  refine lv_aload_n hx hb tn_dl_877 rfl (lv_at hl 1 rfl) ?_
  refine lv_aload_n hx hb tn_dl_878 rfl (lv_at hl 3 rfl) ?_
  refine tn_cs (av := [.ref (adX 0), .ref qo]) (rest := []) (n := 2) C (tn_h_mark hl9  (pr_mark hR) (fun h1 o q => by obtain ⟨_, _, q9⟩ := am_AW.ends q; exact tn_ag_k q9.2) H.size) hP hD hS hl.1 tn_wl73 tn_wl74 tn_wl75 tn_wl3 rfl (by decide +kernel) rfl rfl rfl (Nat.le_of_ble_eq_true rfl) (Nat.le_of_ble_eq_true rfl) (by omega) (by omega) (Nat.le_of_ble_eq_true rfl) tn_dl_879 (fun hX1 o k f1 H1 locs1 hq hou hP1 hD1 hS1 => ?_)
  refine W.widen (k := cells + 2) (n := slots + 12) (by omega) (by omega) ?_
  refine lv_istore (i := 5) (lv' := (5, .int k) :: tn_lv b adX adY qo (nI i0)) hx hb tn_dl_882 hl (by decide) rfl (fun ls hl => ?_)
  refine lv_aload_n hx hb tn_dl_884 rfl (lv_at hl 3 rfl) ?_
  refine tn_cy (μ := 74) (M := tn_m74) (zs := []) (rest := []) C rfl hq (Nat.le_of_ble_eq_true rfl) tn_int0 hP1 hD1 hS1 hl.1 rfl rfl tn_wl76 tn_wl77 tn_wl78 (by decide +kernel : (parseMethodDescriptor tn_m74.1.desc).map (fun d => d.parameters.length) = some 0) (Nat.le_of_ble_eq_true rfl) (Nat.le_of_ble_eq_true rfl) rfl rfl hce hsl (Nat.le_of_ble_eq_true rfl) tn_dl_885 (fun h' o' q => tn_ag_r q.2) (fun v hY1 H2 locs2 q hP2 hD2 hS2 => ?_)
  exact tn_tailI (pc := 888) C tn_dl_888 tn_dl_890 tn_dl_891 tn_dl_894 tn_dl_896 tn_dl_901 tn_dl_903 tn_dl_906 tn_dl_907 tn_dl_908 tn_dl_909 tn_dl_911 tn_dl_912 tn_dl_913 tn_dl_918 (by decide) hl hP2 hD2 hS2 hou q.2 hce hsl (fun H3 locs3 ls3 hP3 hD3 hS3 hl3 => kk _ _ _ H3 locs3 ls3 q.1 hP3 hD3 hS3 hl3)
set_option maxHeartbeats 1000000 in
theorem tn_case_back (C : tn_lc l p s m args c b L xs A D ca cL) {i0 : Nat} (hi : i0 + 4 < L) (hR : tn_R hX hY) (hl : lv_has ls 7 (tn_lv b adX adY qo (nI i0))) (hP : va_P D tn_cl (tn_LW adX adY ca cL qo f hX hY) H) (hD : va_D A (tn_LW adX adY ca cL qo f hX hY)) (hS : va_S A s.heap H locs) (hce : cells + 2 ≤ 1070) (hsl : slots + 12 ≤ 27272)
    (kk : ∀ (hX1 hY1 : am_S) (f1 : Nat → Int64) (H1 : Heap) (locs1 : List Loc) (ls1 : Array Slot), tn_R hX1 hY1 → va_P D tn_cl (tn_LW adX adY ca cL qo f1 hX1 hY1) H1 → va_D A (tn_LW adX adY ca cL qo f1 hX1 hY1) → va_S A s.heap H1 locs1 → lv_has ls1 7 (tn_lv b adX adY qo (nI i0)) → W p l e room_1 s m args below meth c H1 locs1 (cells + 2) (slots + 12) Qe (F0 m 990 ls1 [])) :
    W p l e room_1 s m args below meth c H locs cells slots Qe (F0 m 921 ls []) := by
  obtain ⟨hl9, hx, hb, hml, hown, hts, hns, hE, hK, hA, hsc, hbl, hbA, hL⟩ := id C
  refine lv_aload_n hx hb tn_dl_921 rfl (lv_at hl 1 rfl) ?_
  refine lv_aload_n hx hb tn_dl_922 rfl (lv_at hl 3 rfl) ?_
  refine tn_cs (av := [.ref (adX 0), .ref qo]) (rest := []) (n := 2) C (tn_h_back hl9  (pr_back hR) (fun h1 o q => by obtain ⟨_, _, q9⟩ := am_AW.ends q; exact tn_ag_k q9.2) H.size) hP hD hS hl.1 tn_wl79 tn_wl80 tn_wl81 tn_wl3 rfl (by decide +kernel) rfl rfl rfl (Nat.le_of_ble_eq_true rfl) (Nat.le_of_ble_eq_true rfl) (by omega) (by omega) (Nat.le_of_ble_eq_true rfl) tn_dl_923 (fun hX1 o k f1 H1 locs1 hq hou hP1 hD1 hS1 => ?_)
  refine W.widen (k := cells + 2) (n := slots + 12) (by omega) (by omega) ?_
  refine lv_istore (i := 5) (lv' := (5, .int k) :: tn_lv b adX adY qo (nI i0)) hx hb tn_dl_926 hl (by decide) rfl (fun ls hl => ?_)
  refine lv_aload_n hx hb tn_dl_928 rfl (lv_at hl 3 rfl) ?_
  refine tn_cy (μ := 75) (M := tn_m75) (zs := []) (rest := []) C rfl hq (Nat.le_of_ble_eq_true rfl) tn_int0 hP1 hD1 hS1 hl.1 rfl rfl tn_wl82 tn_wl83 tn_wl84 (by decide +kernel : (parseMethodDescriptor tn_m75.1.desc).map (fun d => d.parameters.length) = some 0) (Nat.le_of_ble_eq_true rfl) (Nat.le_of_ble_eq_true rfl) rfl rfl hce hsl (Nat.le_of_ble_eq_true rfl) tn_dl_929 (fun h' o' q => tn_ag_r q.2) (fun v hY1 H2 locs2 q hP2 hD2 hS2 => ?_)
  exact tn_tailI (pc := 932) C tn_dl_932 tn_dl_934 tn_dl_935 tn_dl_938 tn_dl_940 tn_dl_945 tn_dl_947 tn_dl_950 tn_dl_951 tn_dl_952 tn_dl_953 tn_dl_955 tn_dl_956 tn_dl_957 tn_dl_962 (by decide) hl hP2 hD2 hS2 hou q.2 hce hsl (fun H3 locs3 ls3 hP3 hD3 hS3 hl3 => kk _ _ _ H3 locs3 ls3 q.1 hP3 hD3 hS3 hl3)
set_option maxHeartbeats 1000000 in
theorem tn_case_count (C : tn_lc l p s m args c b L xs A D ca cL) {i0 : Nat} (hi : i0 + 4 < L) (hR : tn_R hX hY) (hl : lv_has ls 7 (tn_lv b adX adY qo (nI i0))) (hP : va_P D tn_cl (tn_LW adX adY ca cL qo f hX hY) H) (hD : va_D A (tn_LW adX adY ca cL qo f hX hY)) (hS : va_S A s.heap H locs) (hce : cells + 2 ≤ 1070) (hsl : slots + 12 ≤ 27272)
    (kk : ∀ (hX1 hY1 : am_S) (f1 : Nat → Int64) (H1 : Heap) (locs1 : List Loc) (ls1 : Array Slot), tn_R hX1 hY1 → va_P D tn_cl (tn_LW adX adY ca cL qo f1 hX1 hY1) H1 → va_D A (tn_LW adX adY ca cL qo f1 hX1 hY1) → va_S A s.heap H1 locs1 → lv_has ls1 7 (tn_lv b adX adY qo (nI i0)) → W p l e room_1 s m args below meth c H1 locs1 (cells + 2) (slots + 12) Qe (F0 m 990 ls1 [])) :
    W p l e room_1 s m args below meth c H locs cells slots Qe (F0 m 965 ls []) := by
  obtain ⟨hl9, hx, hb, hml, hown, hts, hns, hE, hK, hA, hsc, hbl, hbA, hL⟩ := id C
  refine lv_aload_n hx hb tn_dl_965 rfl (lv_at hl 1 rfl) ?_
  refine lv_aload_n hx hb tn_dl_966 rfl (lv_at hl 0 rfl) ?_
  refine lv_iload hx hb tn_dl_967 (lv_at hl 4 rfl) ?_
  refine lv_iconst (v := 1) hx hb tn_dl_969 (by decide) ?_
  refine lv_iadd hx hb tn_dl_970 ?_
  refine va_sld hx hb hsc hbl hbA hS (tn_vin (j := 1) (by decide) (by omega) hL) tn_dl_971 ?_
  have hP0 : va_P D tn_cl (([(qo, .inl (cL, 1, .inr (.inl f)))] ++ am_W tn_Y adY ca hY) ++ am_W tn_X adX ca hX) H := va_P.swap hP
  have hD0 : va_D A (([(qo, .inl (cL, 1, .inr (.inl f)))] ++ am_W tn_Y adY ca hY) ++ am_W tn_X adX ca hX) := va_D.swap hD
  refine tn_cv (μ := 38) (M := tn_m38) rfl (xs := [.int (xs (nI i0 + 1).toNatClampNeg)]) (rest := []) (nL := 7) (tn_sX hl9 (pr_count hR)) (Nat.le_of_ble_eq_true rfl) (tn_intS tn_int0) hx hb hml hl.1 hown hts hns hE (tn_t3_ty hK) hP0 hD0 hS hA tn_X0 rfl tn_wl85 tn_wl86 tn_wl87 (by decide +kernel : (parseMethodDescriptor tn_m38.1.desc).map (fun d => d.parameters.length) = some 1) (Nat.le_of_ble_eq_true rfl) (Nat.le_of_ble_eq_true rfl) (show cells + 0 ≤ 1070 by omega) (show slots + 0 ≤ 27272 by omega) (Nat.le_of_ble_eq_true rfl) tn_dl_972 (fun E ce q9 hX1 H1 locs1 hq hP1 hD1 hS1 hce1 hcv hcl => ?_) (fun r hX1 H1 locs1 hq hP1 hD1 hS1 => ?_)
  · obtain ⟨_, _, q9⟩ := am_AW.ends hq
    rcases q9.2 with ⟨v, h, -, -⟩ | ⟨E1, v, h, h1, -, -, -⟩
    · cases h
    · exact absurd h1 (Nat.lt_irrefl 0)
  · obtain ⟨v, rfl⟩ : ∃ v, r = some (.int v) := by
      obtain ⟨_, _, q9⟩ := am_AW.ends hq
      rcases q9.2 with ⟨v, h, -, -⟩ | ⟨E1, v, h, h1, -, -, -⟩
      · cases h
        exact ⟨v, rfl⟩
      · cases h
    refine W.widen (k := cells + 2) (n := slots + 12) (show cells + 0 ≤ cells + 2 by omega) (show slots + 0 ≤ slots + 12 by omega) ?_
    refine W.eq (g2 := F0 m 975 ls [.int v]) rfl ?_
    have hP2 : va_P D tn_cl (tn_LW adX adY ca cL qo f hX1 hY) H1 := va_P.swap hP1
    have hD2 : va_D A (tn_LW adX adY ca cL qo f hX1 hY) := va_D.swap hD1
    refine lv_aload_n hx hb tn_dl_975 rfl (lv_at hl 2 rfl) ?_
    refine lv_aload_n hx hb tn_dl_976 rfl (lv_at hl 0 rfl) ?_
    refine lv_iload hx hb tn_dl_977 (lv_at hl 4 rfl) ?_
    refine lv_iconst (v := 1) hx hb tn_dl_979 (by decide) ?_
    refine lv_iadd hx hb tn_dl_980 ?_
    refine va_sld hx hb hsc hbl hbA hS1 (tn_vin (j := 1) (by decide) (by omega) hL) tn_dl_981 ?_
    refine tn_cy (μ := 76) (M := tn_m76) (zs := [.int (xs (nI i0 + 1).toNatClampNeg)]) (rest := [.int v]) C rfl hq (Nat.le_of_ble_eq_true rfl) (tn_intS tn_int0) hP2 hD2 hS1 hl.1 rfl rfl tn_wl88 tn_wl89 tn_wl90 (by decide +kernel : (parseMethodDescriptor tn_m76.1.desc).map (fun d => d.parameters.length) = some 1) (Nat.le_of_ble_eq_true rfl) (Nat.le_of_ble_eq_true rfl) rfl rfl hce hsl (Nat.le_of_ble_eq_true rfl) tn_dl_982 (fun h' o' q => tn_ag_r q.2) (fun v2 hY1 H2 locs2 q hP3 hD3 hS3 => ?_)
    have hv : v = v2 := by
      rcases q.2 with ⟨w, h, h2, -⟩ | ⟨E1, w, h, h1, -, -, -⟩
      · cases h
        cases h2
        rfl
      · cases h
    refine lv_icmp_eq (tgt := 990) hx hb tn_dl_985 (by decide) (fun _ => ?_) (fun hn => absurd hv hn)
    exact kk _ _ _ H2 locs2 ls q.1 hP3 hD3 hS3 hl
end LAW2
