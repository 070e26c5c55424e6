/-! the words of the methods, by wip/whole/gen/gen2.py -/
set_option maxRecDepth 100000 in
theorem md_0 : Cond.code (my 0) (mb 0) (mx 0) (mr 0) ∈ lw_tbl := List.mem_of_getElem? (i := 1057) rfl
set_option maxRecDepth 100000 in
theorem md_1 : Cond.code (my 1) (mb 1) (mx 1) (mr 1) ∈ lw_tbl := List.mem_of_getElem? (i := 652) rfl
set_option maxRecDepth 100000 in
theorem md_2 : Cond.code (my 2) (mb 2) (mx 2) (mr 2) ∈ lw_tbl := List.mem_of_getElem? (i := 483) rfl
set_option maxRecDepth 100000 in
theorem md_3 : Cond.code (my 3) (mb 3) (mx 3) (mr 3) ∈ lw_tbl := List.mem_of_getElem? (i := 496) rfl
set_option maxRecDepth 100000 in
theorem md_4 : Cond.code (my 4) (mb 4) (mx 4) (mr 4) ∈ lw_tbl := List.mem_of_getElem? (i := 113) rfl
set_option maxRecDepth 100000 in
theorem md_5 : Cond.code (my 5) (mb 5) (mx 5) (mr 5) ∈ lw_tbl := List.mem_of_getElem? (i := 468) rfl
set_option maxRecDepth 100000 in
theorem md_6 : Cond.code (my 6) (mb 6) (mx 6) (mr 6) ∈ lw_tbl := List.mem_of_getElem? (i := 91) rfl
set_option maxRecDepth 100000 in
theorem md_7 : Cond.code (my 7) (mb 7) (mx 7) (mr 7) ∈ lw_tbl := List.mem_of_getElem? (i := 541) rfl
set_option maxRecDepth 100000 in
theorem md_8 : Cond.code (my 8) (mb 8) (mx 8) (mr 8) ∈ lw_tbl := List.mem_of_getElem? (i := 537) rfl
set_option maxRecDepth 100000 in
theorem md_9 : Cond.code (my 9) (mb 9) (mx 9) (mr 9) ∈ lw_tbl := List.mem_of_getElem? (i := 554) rfl
set_option maxRecDepth 100000 in
theorem md_10 : Cond.code (my 10) (mb 10) (mx 10) (mr 10) ∈ lw_tbl := List.mem_of_getElem? (i := 548) rfl
set_option maxRecDepth 100000 in
theorem md_11 : Cond.code (my 11) (mb 11) (mx 11) (mr 11) ∈ lw_tbl := List.mem_of_getElem? (i := 559) rfl
set_option maxRecDepth 100000 in
theorem md_12 : Cond.code (my 12) (mb 12) (mx 12) (mr 12) ∈ lw_tbl := List.mem_of_getElem? (i := 305) rfl
set_option maxRecDepth 100000 in
theorem md_13 : Cond.code (my 13) (mb 13) (mx 13) (mr 13) ∈ lw_tbl := List.mem_of_getElem? (i := 434) rfl
set_option maxRecDepth 100000 in
theorem md_14 : Cond.code (my 14) (mb 14) (mx 14) (mr 14) ∈ lw_tbl := List.mem_of_getElem? (i := 579) rfl
set_option maxRecDepth 100000 in
theorem md_15 : Cond.code (my 15) (mb 15) (mx 15) (mr 15) ∈ lw_tbl := List.mem_of_getElem? (i := 681) rfl
set_option maxRecDepth 100000 in
theorem md_16 : Cond.code (my 16) (mb 16) (mx 16) (mr 16) ∈ lw_tbl := List.mem_of_getElem? (i := 529) rfl
set_option maxRecDepth 100000 in
theorem md_17 : Cond.code (my 17) (mb 17) (mx 17) (mr 17) ∈ lw_tbl := List.mem_of_getElem? (i := 660) rfl
set_option maxRecDepth 100000 in
theorem md_18 : Cond.code (my 18) (mb 18) (mx 18) (mr 18) ∈ lw_tbl := List.mem_of_getElem? (i := 545) rfl
set_option maxRecDepth 100000 in
theorem md_19 : Cond.code (my 19) (mb 19) (mx 19) (mr 19) ∈ lw_tbl := List.mem_of_getElem? (i := 421) rfl
set_option maxRecDepth 100000 in
theorem md_20 : Cond.code (my 20) (mb 20) (mx 20) (mr 20) ∈ lw_tbl := List.mem_of_getElem? (i := 624) rfl
set_option maxRecDepth 100000 in
theorem md_21 : Cond.code (my 21) (mb 21) (mx 21) (mr 21) ∈ lw_tbl := List.mem_of_getElem? (i := 440) rfl
set_option maxRecDepth 100000 in
theorem md_22 : Cond.code (my 22) (mb 22) (mx 22) (mr 22) ∈ lw_tbl := List.mem_of_getElem? (i := 515) rfl
set_option maxRecDepth 100000 in
theorem md_23 : Cond.code (my 23) (mb 23) (mx 23) (mr 23) ∈ lw_tbl := List.mem_of_getElem? (i := 632) rfl
set_option maxRecDepth 100000 in
theorem md_24 : Cond.code (my 24) (mb 24) (mx 24) (mr 24) ∈ lw_tbl := List.mem_of_getElem? (i := 510) rfl
set_option maxRecDepth 100000 in
theorem md_25 : Cond.code (my 25) (mb 25) (mx 25) (mr 25) ∈ lw_tbl := List.mem_of_getElem? (i := 506) rfl
set_option maxRecDepth 100000 in
theorem md_26 : Cond.code (my 26) (mb 26) (mx 26) (mr 26) ∈ lw_tbl := List.mem_of_getElem? (i := 628) rfl
set_option maxRecDepth 100000 in
theorem md_27 : Cond.code (my 27) (mb 27) (mx 27) (mr 27) ∈ lw_tbl := List.mem_of_getElem? (i := 640) rfl
set_option maxRecDepth 100000 in
theorem md_28 : Cond.code (my 28) (mb 28) (mx 28) (mr 28) ∈ lw_tbl := List.mem_of_getElem? (i := 487) rfl
set_option maxRecDepth 100000 in
theorem md_29 : Cond.code (my 29) (mb 29) (mx 29) (mr 29) ∈ lw_tbl := List.mem_of_getElem? (i := 502) rfl
set_option maxRecDepth 100000 in
theorem md_30 : Cond.code (my 30) (mb 30) (mx 30) (mr 30) ∈ lw_tbl := List.mem_of_getElem? (i := 126) rfl
set_option maxRecDepth 100000 in
theorem md_31 : Cond.code (my 31) (mb 31) (mx 31) (mr 31) ∈ lw_tbl := List.mem_of_getElem? (i := 267) rfl
set_option maxRecDepth 100000 in
theorem md_32 : Cond.code (my 32) (mb 32) (mx 32) (mr 32) ∈ lw_tbl := List.mem_of_getElem? (i := 225) rfl
set_option maxRecDepth 100000 in
theorem md_33 : Cond.code (my 33) (mb 33) (mx 33) (mr 33) ∈ lw_tbl := List.mem_of_getElem? (i := 271) rfl
set_option maxRecDepth 100000 in
theorem md_34 : Cond.code (my 34) (mb 34) (mx 34) (mr 34) ∈ lw_tbl := List.mem_of_getElem? (i := 229) rfl
set_option maxRecDepth 100000 in
theorem md_35 : Cond.code (my 35) (mb 35) (mx 35) (mr 35) ∈ lw_tbl := List.mem_of_getElem? (i := 476) rfl
set_option maxRecDepth 100000 in
theorem md_36 : Cond.code (my 36) (mb 36) (mx 36) (mr 36) ∈ lw_tbl := List.mem_of_getElem? (i := 491) rfl
set_option maxRecDepth 100000 in
theorem md_37 : Cond.code (my 37) (mb 37) (mx 37) (mr 37) ∈ lw_tbl := List.mem_of_getElem? (i := 153) rfl
set_option maxRecDepth 100000 in
theorem md_38 : Cond.code (my 38) (mb 38) (mx 38) (mr 38) ∈ lw_tbl := List.mem_of_getElem? (i := 394) rfl
set_option maxRecDepth 100000 in
theorem md_39 : Cond.code (my 39) (mb 39) (mx 39) (mr 39) ∈ lw_tbl := List.mem_of_getElem? (i := 690) rfl
set_option maxRecDepth 100000 in
theorem md_40 : Cond.code (my 40) (mb 40) (mx 40) (mr 40) ∈ lw_tbl := List.mem_of_getElem? (i := 448) rfl
set_option maxRecDepth 100000 in
theorem md_41 : Cond.code (my 41) (mb 41) (mx 41) (mr 41) ∈ lw_tbl := List.mem_of_getElem? (i := 472) rfl
set_option maxRecDepth 100000 in
theorem md_42 : Cond.code (my 42) (mb 42) (mx 42) (mr 42) ∈ lw_tbl := List.mem_of_getElem? (i := 521) rfl
set_option maxRecDepth 100000 in
theorem md_43 : Cond.code (my 43) (mb 43) (mx 43) (mr 43) ∈ lw_tbl := List.mem_of_getElem? (i := 525) rfl
set_option maxRecDepth 100000 in
theorem md_44 : Cond.code (my 44) (mb 44) (mx 44) (mr 44) ∈ lw_tbl := List.mem_of_getElem? (i := 533) rfl
set_option maxRecDepth 100000 in
theorem md_45 : Cond.code (my 45) (mb 45) (mx 45) (mr 45) ∈ lw_tbl := List.mem_of_getElem? (i := 460) rfl
set_option maxRecDepth 100000 in
theorem md_46 : Cond.code (my 46) (mb 46) (mx 46) (mr 46) ∈ lw_tbl := List.mem_of_getElem? (i := 456) rfl
set_option maxRecDepth 100000 in
theorem md_47 : Cond.code (my 47) (mb 47) (mx 47) (mr 47) ∈ lw_tbl := List.mem_of_getElem? (i := 465) rfl
set_option maxRecDepth 100000 in
theorem md_48 : Cond.code (my 48) (mb 48) (mx 48) (mr 48) ∈ lw_tbl := List.mem_of_getElem? (i := 452) rfl
set_option maxRecDepth 100000 in
theorem md_49 : Cond.code (my 49) (mb 49) (mx 49) (mr 49) ∈ lw_tbl := List.mem_of_getElem? (i := 71) rfl
set_option maxRecDepth 100000 in
theorem md_50 : Cond.code (my 50) (mb 50) (mx 50) (mr 50) ∈ lw_tbl := List.mem_of_getElem? (i := 249) rfl
set_option maxRecDepth 100000 in
theorem md_51 : Cond.code (my 51) (mb 51) (mx 51) (mr 51) ∈ lw_tbl := List.mem_of_getElem? (i := 241) rfl
set_option maxRecDepth 100000 in
theorem md_52 : Cond.code (my 52) (mb 52) (mx 52) (mr 52) ∈ lw_tbl := List.mem_of_getElem? (i := 254) rfl
set_option maxRecDepth 100000 in
theorem md_53 : Cond.code (my 53) (mb 53) (mx 53) (mr 53) ∈ lw_tbl := List.mem_of_getElem? (i := 245) rfl
set_option maxRecDepth 100000 in
theorem md_54 : Cond.code (my 54) (mb 54) (mx 54) (mr 54) ∈ lw_tbl := List.mem_of_getElem? (i := 258) rfl
set_option maxRecDepth 100000 in
theorem md_55 : Cond.code (my 55) (mb 55) (mx 55) (mr 55) ∈ lw_tbl := List.mem_of_getElem? (i := 109) rfl
set_option maxRecDepth 100000 in
theorem md_56 : Cond.code (my 56) (mb 56) (mx 56) (mr 56) ∈ lw_tbl := List.mem_of_getElem? (i := 281) rfl
set_option maxRecDepth 100000 in
theorem md_57 : Cond.code (my 57) (mb 57) (mx 57) (mr 57) ∈ lw_tbl := List.mem_of_getElem? (i := 302) rfl
set_option maxRecDepth 100000 in
theorem md_58 : Cond.code (my 58) (mb 58) (mx 58) (mr 58) ∈ lw_tbl := List.mem_of_getElem? (i := 57) rfl
set_option maxRecDepth 100000 in
theorem md_59 : Cond.code (my 59) (mb 59) (mx 59) (mr 59) ∈ lw_tbl := List.mem_of_getElem? (i := 197) rfl
set_option maxRecDepth 100000 in
theorem md_60 : Cond.code (my 60) (mb 60) (mx 60) (mr 60) ∈ lw_tbl := List.mem_of_getElem? (i := 218) rfl
set_option maxRecDepth 100000 in
theorem md_61 : Cond.code (my 61) (mb 61) (mx 61) (mr 61) ∈ lw_tbl := List.mem_of_getElem? (i := 234) rfl
set_option maxRecDepth 100000 in
theorem md_62 : Cond.code (my 62) (mb 62) (mx 62) (mr 62) ∈ lw_tbl := List.mem_of_getElem? (i := 263) rfl
set_option maxRecDepth 100000 in
theorem md_63 : Cond.code (my 63) (mb 63) (mx 63) (mr 63) ∈ lw_tbl := List.mem_of_getElem? (i := 275) rfl
set_option maxRecDepth 100000 in
theorem md_64 : Cond.code (my 64) (mb 64) (mx 64) (mr 64) ∈ lw_tbl := List.mem_of_getElem? (i := 285) rfl
set_option maxRecDepth 100000 in
theorem md_65 : Cond.code (my 65) (mb 65) (mx 65) (mr 65) ∈ lw_tbl := List.mem_of_getElem? (i := 289) rfl
set_option maxRecDepth 100000 in
theorem md_66 : Cond.code (my 66) (mb 66) (mx 66) (mr 66) ∈ lw_tbl := List.mem_of_getElem? (i := 398) rfl
set_option maxRecDepth 100000 in
theorem md_67 : Cond.code (my 67) (mb 67) (mx 67) (mr 67) ∈ lw_tbl := List.mem_of_getElem? (i := 402) rfl
set_option maxRecDepth 100000 in
theorem md_68 : Cond.code (my 68) (mb 68) (mx 68) (mr 68) ∈ lw_tbl := List.mem_of_getElem? (i := 408) rfl
set_option maxRecDepth 100000 in
theorem md_69 : Cond.code (my 69) (mb 69) (mx 69) (mr 69) ∈ lw_tbl := List.mem_of_getElem? (i := 416) rfl
set_option maxRecDepth 100000 in
theorem md_70 : Cond.code (my 70) (mb 70) (mx 70) (mr 70) ∈ lw_tbl := List.mem_of_getElem? (i := 425) rfl
set_option maxRecDepth 100000 in
theorem md_71 : Cond.code (my 71) (mb 71) (mx 71) (mr 71) ∈ lw_tbl := List.mem_of_getElem? (i := 430) rfl
set_option maxRecDepth 100000 in
theorem md_72 : Cond.code (my 72) (mb 72) (mx 72) (mr 72) ∈ lw_tbl := List.mem_of_getElem? (i := 444) rfl
set_option maxRecDepth 100000 in
theorem md_73 : Cond.code (my 73) (mb 73) (mx 73) (mr 73) ∈ lw_tbl := List.mem_of_getElem? (i := 567) rfl
set_option maxRecDepth 100000 in
theorem md_74 : Cond.code (my 74) (mb 74) (mx 74) (mr 74) ∈ lw_tbl := List.mem_of_getElem? (i := 575) rfl
set_option maxRecDepth 100000 in
theorem md_75 : Cond.code (my 75) (mb 75) (mx 75) (mr 75) ∈ lw_tbl := List.mem_of_getElem? (i := 584) rfl
set_option maxRecDepth 100000 in
theorem md_76 : Cond.code (my 76) (mb 76) (mx 76) (mr 76) ∈ lw_tbl := List.mem_of_getElem? (i := 588) rfl
set_option maxRecDepth 100000 in
theorem md_77 : Cond.code (my 77) (mb 77) (mx 77) (mr 77) ∈ lw_tbl := List.mem_of_getElem? (i := 593) rfl
set_option maxRecDepth 100000 in
theorem md_78 : Cond.code (my 78) (mb 78) (mx 78) (mr 78) ∈ lw_tbl := List.mem_of_getElem? (i := 599) rfl
set_option maxRecDepth 100000 in
theorem md_79 : Cond.code (my 79) (mb 79) (mx 79) (mr 79) ∈ lw_tbl := List.mem_of_getElem? (i := 605) rfl
set_option maxRecDepth 100000 in
theorem md_80 : Cond.code (my 80) (mb 80) (mx 80) (mr 80) ∈ lw_tbl := List.mem_of_getElem? (i := 610) rfl
set_option maxRecDepth 100000 in
theorem md_81 : Cond.code (my 81) (mb 81) (mx 81) (mr 81) ∈ lw_tbl := List.mem_of_getElem? (i := 615) rfl
set_option maxRecDepth 100000 in
theorem md_82 : Cond.code (my 82) (mb 82) (mx 82) (mr 82) ∈ lw_tbl := List.mem_of_getElem? (i := 620) rfl
set_option maxRecDepth 100000 in
theorem md_83 : Cond.code (my 83) (mb 83) (mx 83) (mr 83) ∈ lw_tbl := List.mem_of_getElem? (i := 636) rfl
set_option maxRecDepth 100000 in
theorem md_84 : Cond.code (my 84) (mb 84) (mx 84) (mr 84) ∈ lw_tbl := List.mem_of_getElem? (i := 645) rfl
set_option maxRecDepth 100000 in
theorem md_85 : Cond.code (my 85) (mb 85) (mx 85) (mr 85) ∈ lw_tbl := List.mem_of_getElem? (i := 656) rfl
set_option maxRecDepth 100000 in
theorem md_86 : Cond.code (my 86) (mb 86) (mx 86) (mr 86) ∈ lw_tbl := List.mem_of_getElem? (i := 669) rfl
set_option maxRecDepth 100000 in
theorem md_87 : Cond.code (my 87) (mb 87) (mx 87) (mr 87) ∈ lw_tbl := List.mem_of_getElem? (i := 673) rfl
set_option maxRecDepth 100000 in
theorem md_88 : Cond.code (my 88) (mb 88) (mx 88) (mr 88) ∈ lw_tbl := List.mem_of_getElem? (i := 677) rfl
set_option maxRecDepth 100000 in
theorem md_89 : Cond.code (my 89) (mb 89) (mx 89) (mr 89) ∈ lw_tbl := List.mem_of_getElem? (i := 686) rfl
set_option maxRecDepth 100000 in
theorem md_90 : Cond.code (my 90) (mb 90) (mx 90) (mr 90) ∈ lw_tbl := List.mem_of_getElem? (i := 694) rfl
set_option maxRecDepth 100000 in
theorem md_91 : Cond.code (my 91) (mb 91) (mx 91) (mr 91) ∈ lw_tbl := List.mem_of_getElem? (i := 209) rfl
set_option maxRecDepth 100000 in
theorem md_92 : Cond.code (my 92) (mb 92) (mx 92) (mr 92) ∈ lw_tbl := List.mem_of_getElem? (i := 571) rfl
set_option maxRecDepth 100000 in
theorem md_93 : Cond.code (my 93) (mb 93) (mx 93) (mr 93) ∈ lw_tbl := List.mem_of_getElem? (i := 201) rfl
set_option maxRecDepth 100000 in
theorem md_94 : Cond.code (my 94) (mb 94) (mx 94) (mr 94) ∈ lw_tbl := List.mem_of_getElem? (i := 297) rfl
set_option maxRecDepth 100000 in
theorem md_95 : Cond.code (my 95) (mb 95) (mx 95) (mr 95) ∈ lw_tbl := List.mem_of_getElem? (i := 412) rfl
set_option maxRecDepth 100000 in
theorem md_96 : Cond.code (my 96) (mb 96) (mx 96) (mr 96) ∈ lw_tbl := List.mem_of_getElem? (i := 204) rfl
set_option maxRecDepth 100000 in
theorem md_97 : Cond.code (my 97) (mb 97) (mx 97) (mr 97) ∈ lw_tbl := List.mem_of_getElem? (i := 237) rfl
set_option maxRecDepth 100000 in
theorem md_98 : Cond.code (my 98) (mb 98) (mx 98) (mr 98) ∈ lw_tbl := List.mem_of_getElem? (i := 221) rfl
set_option maxRecDepth 100000 in
theorem md_99 : Cond.code (my 99) (mb 99) (mx 99) (mr 99) ∈ lw_tbl := List.mem_of_getElem? (i := 480) rfl
set_option maxRecDepth 100000 in
theorem md_100 : Cond.code (my 100) (mb 100) (mx 100) (mr 100) ∈ lw_tbl := List.mem_of_getElem? (i := 293) rfl
set_option maxRecDepth 100000 in
theorem md_101 : Cond.code (my 101) (mb 101) (mx 101) (mr 101) ∈ lw_tbl := List.mem_of_getElem? (i := 390) rfl
set_option maxRecDepth 100000 in
theorem md_102 : Cond.code (my 102) (mb 102) (mx 102) (mr 102) ∈ lw_tbl := List.mem_of_getElem? (i := 214) rfl
set_option maxRecDepth 100000 in
theorem md_103 : Cond.code (my 103) (mb 103) (mx 103) (mr 103) ∈ lw_tbl := List.mem_of_getElem? (i := 648) rfl
set_option maxRecDepth 100000 in
theorem md_104 : Cond.code (my 104) (mb 104) (mx 104) (mr 104) ∈ lw_tbl := List.mem_of_getElem? (i := 663) rfl
set_option maxRecDepth 100000 in
theorem md_105 : Cond.code (my 105) (mb 105) (mx 105) (mr 105) ∈ lw_tbl := List.mem_of_getElem? (i := 699) rfl
set_option maxRecDepth 100000 in
theorem md_106 : Cond.code (my 106) (mb 106) (mx 106) (mr 106) ∈ lw_tbl := List.mem_of_getElem? (i := 822) rfl
set_option maxRecDepth 100000 in
theorem md_107 : Cond.code (my 107) (mb 107) (mx 107) (mr 107) ∈ lw_tbl := List.mem_of_getElem? (i := 817) rfl
set_option maxRecDepth 100000 in
theorem md_108 : Cond.code (my 108) (mb 108) (mx 108) (mr 108) ∈ lw_tbl := List.mem_of_getElem? (i := 972) rfl
set_option maxRecDepth 100000 in
theorem md_109 : Cond.code (my 109) (mb 109) (mx 109) (mr 109) ∈ lw_tbl := List.mem_of_getElem? (i := 814) rfl
set_option maxRecDepth 100000 in
theorem md_110 : Cond.code (my 110) (mb 110) (mx 110) (mr 110) ∈ lw_tbl := List.mem_of_getElem? (i := 837) rfl
set_option maxRecDepth 100000 in
theorem md_111 : Cond.code (my 111) (mb 111) (mx 111) (mr 111) ∈ lw_tbl := List.mem_of_getElem? (i := 830) rfl
set_option maxRecDepth 100000 in
theorem md_112 : Cond.code (my 112) (mb 112) (mx 112) (mr 112) ∈ lw_tbl := List.mem_of_getElem? (i := 871) rfl
set_option maxRecDepth 100000 in
theorem md_113 : Cond.code (my 113) (mb 113) (mx 113) (mr 113) ∈ lw_tbl := List.mem_of_getElem? (i := 891) rfl
set_option maxRecDepth 100000 in
theorem md_114 : Cond.code (my 114) (mb 114) (mx 114) (mr 114) ∈ lw_tbl := List.mem_of_getElem? (i := 811) rfl
set_option maxRecDepth 100000 in
theorem md_115 : Cond.code (my 115) (mb 115) (mx 115) (mr 115) ∈ lw_tbl := List.mem_of_getElem? (i := 827) rfl
set_option maxRecDepth 100000 in
theorem md_116 : Cond.code (my 116) (mb 116) (mx 116) (mr 116) ∈ lw_tbl := List.mem_of_getElem? (i := 841) rfl
set_option maxRecDepth 100000 in
theorem md_117 : Cond.code (my 117) (mb 117) (mx 117) (mr 117) ∈ lw_tbl := List.mem_of_getElem? (i := 834) rfl
set_option maxRecDepth 100000 in
theorem md_118 : Cond.code (my 118) (mb 118) (mx 118) (mr 118) ∈ lw_tbl := List.mem_of_getElem? (i := 850) rfl
set_option maxRecDepth 100000 in
theorem md_119 : Cond.code (my 119) (mb 119) (mx 119) (mr 119) ∈ lw_tbl := List.mem_of_getElem? (i := 846) rfl
set_option maxRecDepth 100000 in
theorem md_120 : Cond.code (my 120) (mb 120) (mx 120) (mr 120) ∈ lw_tbl := List.mem_of_getElem? (i := 854) rfl
set_option maxRecDepth 100000 in
theorem md_121 : Cond.code (my 121) (mb 121) (mx 121) (mr 121) ∈ lw_tbl := List.mem_of_getElem? (i := 860) rfl
set_option maxRecDepth 100000 in
theorem md_122 : Cond.code (my 122) (mb 122) (mx 122) (mr 122) ∈ lw_tbl := List.mem_of_getElem? (i := 875) rfl
set_option maxRecDepth 100000 in
theorem md_123 : Cond.code (my 123) (mb 123) (mx 123) (mr 123) ∈ lw_tbl := List.mem_of_getElem? (i := 868) rfl
set_option maxRecDepth 100000 in
theorem md_124 : Cond.code (my 124) (mb 124) (mx 124) (mr 124) ∈ lw_tbl := List.mem_of_getElem? (i := 864) rfl
set_option maxRecDepth 100000 in
theorem md_125 : Cond.code (my 125) (mb 125) (mx 125) (mr 125) ∈ lw_tbl := List.mem_of_getElem? (i := 879) rfl
set_option maxRecDepth 100000 in
theorem md_126 : Cond.code (my 126) (mb 126) (mx 126) (mr 126) ∈ lw_tbl := List.mem_of_getElem? (i := 883) rfl
set_option maxRecDepth 100000 in
theorem md_127 : Cond.code (my 127) (mb 127) (mx 127) (mr 127) ∈ lw_tbl := List.mem_of_getElem? (i := 887) rfl
set_option maxRecDepth 100000 in
theorem md_128 : Cond.code (my 128) (mb 128) (mx 128) (mr 128) ∈ lw_tbl := List.mem_of_getElem? (i := 904) rfl
set_option maxRecDepth 100000 in
theorem md_129 : Cond.code (my 129) (mb 129) (mx 129) (mr 129) ∈ lw_tbl := List.mem_of_getElem? (i := 900) rfl
set_option maxRecDepth 100000 in
theorem md_130 : Cond.code (my 130) (mb 130) (mx 130) (mr 130) ∈ lw_tbl := List.mem_of_getElem? (i := 895) rfl
set_option maxRecDepth 100000 in
theorem md_131 : Cond.code (my 131) (mb 131) (mx 131) (mr 131) ∈ lw_tbl := List.mem_of_getElem? (i := 908) rfl
set_option maxRecDepth 100000 in
theorem md_132 : Cond.code (my 132) (mb 132) (mx 132) (mr 132) ∈ lw_tbl := List.mem_of_getElem? (i := 917) rfl
set_option maxRecDepth 100000 in
theorem md_133 : Cond.code (my 133) (mb 133) (mx 133) (mr 133) ∈ lw_tbl := List.mem_of_getElem? (i := 913) rfl
set_option maxRecDepth 100000 in
theorem md_134 : Cond.code (my 134) (mb 134) (mx 134) (mr 134) ∈ lw_tbl := List.mem_of_getElem? (i := 930) rfl
set_option maxRecDepth 100000 in
theorem md_135 : Cond.code (my 135) (mb 135) (mx 135) (mr 135) ∈ lw_tbl := List.mem_of_getElem? (i := 926) rfl
set_option maxRecDepth 100000 in
theorem md_136 : Cond.code (my 136) (mb 136) (mx 136) (mr 136) ∈ lw_tbl := List.mem_of_getElem? (i := 934) rfl
set_option maxRecDepth 100000 in
theorem md_137 : Cond.code (my 137) (mb 137) (mx 137) (mr 137) ∈ lw_tbl := List.mem_of_getElem? (i := 990) rfl
set_option maxRecDepth 100000 in
theorem md_138 : Cond.code (my 138) (mb 138) (mx 138) (mr 138) ∈ lw_tbl := List.mem_of_getElem? (i := 985) rfl
set_option maxRecDepth 100000 in
theorem md_139 : Cond.code (my 139) (mb 139) (mx 139) (mr 139) ∈ lw_tbl := List.mem_of_getElem? (i := 946) rfl
set_option maxRecDepth 100000 in
theorem md_140 : Cond.code (my 140) (mb 140) (mx 140) (mr 140) ∈ lw_tbl := List.mem_of_getElem? (i := 942) rfl
set_option maxRecDepth 100000 in
theorem md_141 : Cond.code (my 141) (mb 141) (mx 141) (mr 141) ∈ lw_tbl := List.mem_of_getElem? (i := 981) rfl
set_option maxRecDepth 100000 in
theorem md_142 : Cond.code (my 142) (mb 142) (mx 142) (mr 142) ∈ lw_tbl := List.mem_of_getElem? (i := 938) rfl
set_option maxRecDepth 100000 in
theorem md_143 : Cond.code (my 143) (mb 143) (mx 143) (mr 143) ∈ lw_tbl := List.mem_of_getElem? (i := 962) rfl
set_option maxRecDepth 100000 in
theorem md_144 : Cond.code (my 144) (mb 144) (mx 144) (mr 144) ∈ lw_tbl := List.mem_of_getElem? (i := 965) rfl
set_option maxRecDepth 100000 in
theorem md_145 : Cond.code (my 145) (mb 145) (mx 145) (mr 145) ∈ lw_tbl := List.mem_of_getElem? (i := 976) rfl
set_option maxRecDepth 100000 in
theorem md_146 : Cond.code (my 146) (mb 146) (mx 146) (mr 146) ∈ lw_tbl := List.mem_of_getElem? (i := 958) rfl
set_option maxRecDepth 100000 in
theorem md_147 : Cond.code (my 147) (mb 147) (mx 147) (mr 147) ∈ lw_tbl := List.mem_of_getElem? (i := 969) rfl
set_option maxRecDepth 100000 in
theorem md_148 : Cond.code (my 148) (mb 148) (mx 148) (mr 148) ∈ lw_tbl := List.mem_of_getElem? (i := 954) rfl
set_option maxRecDepth 100000 in
theorem md_149 : Cond.code (my 149) (mb 149) (mx 149) (mr 149) ∈ lw_tbl := List.mem_of_getElem? (i := 950) rfl
set_option maxRecDepth 100000 in
theorem md_150 : Cond.code (my 150) (mb 150) (mx 150) (mr 150) ∈ lw_tbl := List.mem_of_getElem? (i := 921) rfl
set_option maxRecDepth 100000 in
theorem md_151 : Cond.code (my 151) (mb 151) (mx 151) (mr 151) ∈ lw_tbl := List.mem_of_getElem? (i := 994) rfl
set_option maxRecDepth 100000 in
theorem md_152 : Cond.code (my 152) (mb 152) (mx 152) (mr 152) ∈ lw_tbl := List.mem_of_getElem? (i := 1002) rfl
set_option maxRecDepth 100000 in
theorem md_153 : Cond.code (my 153) (mb 153) (mx 153) (mr 153) ∈ lw_tbl := List.mem_of_getElem? (i := 998) rfl
set_option maxRecDepth 100000 in
theorem md_154 : Cond.code (my 154) (mb 154) (mx 154) (mr 154) ∈ lw_tbl := List.mem_of_getElem? (i := 1006) rfl
set_option maxRecDepth 100000 in
theorem md_155 : Cond.code (my 155) (mb 155) (mx 155) (mr 155) ∈ lw_tbl := List.mem_of_getElem? (i := 1013) rfl
set_option maxRecDepth 100000 in
theorem md_156 : Cond.code (my 156) (mb 156) (mx 156) (mr 156) ∈ lw_tbl := List.mem_of_getElem? (i := 1010) rfl
set_option maxRecDepth 100000 in
theorem md_157 : Cond.code (my 157) (mb 157) (mx 157) (mr 157) ∈ lw_tbl := List.mem_of_getElem? (i := 1017) rfl
set_option maxRecDepth 100000 in
theorem md_158 : Cond.code (my 158) (mb 158) (mx 158) (mr 158) ∈ lw_tbl := List.mem_of_getElem? (i := 1021) rfl
set_option maxRecDepth 100000 in
theorem md_159 : Cond.code (my 159) (mb 159) (mx 159) (mr 159) ∈ lw_tbl := List.mem_of_getElem? (i := 1025) rfl
set_option maxRecDepth 100000 in
theorem md_160 : Cond.code (my 160) (mb 160) (mx 160) (mr 160) ∈ lw_tbl := List.mem_of_getElem? (i := 1029) rfl
set_option maxRecDepth 100000 in
theorem md_161 : Cond.code (my 161) (mb 161) (mx 161) (mr 161) ∈ lw_tbl := List.mem_of_getElem? (i := 1033) rfl
set_option maxRecDepth 100000 in
theorem md_162 : Cond.code (my 162) (mb 162) (mx 162) (mr 162) ∈ lw_tbl := List.mem_of_getElem? (i := 1037) rfl
set_option maxRecDepth 100000 in
theorem md_163 : Cond.code (my 163) (mb 163) (mx 163) (mr 163) ∈ lw_tbl := List.mem_of_getElem? (i := 1045) rfl
set_option maxRecDepth 100000 in
theorem md_164 : Cond.code (my 164) (mb 164) (mx 164) (mr 164) ∈ lw_tbl := List.mem_of_getElem? (i := 1041) rfl
set_option maxRecDepth 100000 in
theorem md_165 : Cond.code (my 165) (mb 165) (mx 165) (mr 165) ∈ lw_tbl := List.mem_of_getElem? (i := 1054) rfl
set_option maxRecDepth 100000 in
theorem md_166 : Cond.code (my 166) (mb 166) (mx 166) (mr 166) ∈ lw_tbl := List.mem_of_getElem? (i := 1050) rfl
set_option maxRecDepth 100000 in
theorem md_167 : Cond.code (my 167) (mb 167) (mx 167) (mr 167) ∈ lw_tbl := List.mem_of_getElem? (i := 1065) rfl
set_option maxRecDepth 100000 in
theorem md_168 : Cond.code (my 168) (mb 168) (mx 168) (mr 168) ∈ lw_tbl := List.mem_of_getElem? (i := 1061) rfl
set_option maxRecDepth 100000 in
theorem md_169 : Cond.code (my 169) (mb 169) (mx 169) (mr 169) ∈ lw_tbl := List.mem_of_getElem? (i := 1069) rfl
set_option maxRecDepth 100000 in
theorem md_170 : Cond.code (my 170) (mb 170) (mx 170) (mr 170) ∈ lw_tbl := List.mem_of_getElem? (i := 1073) rfl
set_option maxRecDepth 100000 in
theorem md_171 : Cond.code (my 171) (mb 171) (mx 171) (mr 171) ∈ lw_tbl := List.mem_of_getElem? (i := 1077) rfl
set_option maxRecDepth 100000 in
theorem md_172 : Cond.code (my 172) (mb 172) (mx 172) (mr 172) ∈ lw_tbl := List.mem_of_getElem? (i := 1081) rfl
set_option maxRecDepth 100000 in
theorem md_173 : Cond.code (my 173) (mb 173) (mx 173) (mr 173) ∈ lw_tbl := List.mem_of_getElem? (i := 1085) rfl
theorem mdOK : ∀ mi, mi < 174 → Cond.code (my mi) (mb mi) (mx mi) (mr mi) ∈ lw_tbl
  | 0, _ => md_0
  | 1, _ => md_1
  | 2, _ => md_2
  | 3, _ => md_3
  | 4, _ => md_4
  | 5, _ => md_5
  | 6, _ => md_6
  | 7, _ => md_7
  | 8, _ => md_8
  | 9, _ => md_9
  | 10, _ => md_10
  | 11, _ => md_11
  | 12, _ => md_12
  | 13, _ => md_13
  | 14, _ => md_14
  | 15, _ => md_15
  | 16, _ => md_16
  | 17, _ => md_17
  | 18, _ => md_18
  | 19, _ => md_19
  | 20, _ => md_20
  | 21, _ => md_21
  | 22, _ => md_22
  | 23, _ => md_23
  | 24, _ => md_24
  | 25, _ => md_25
  | 26, _ => md_26
  | 27, _ => md_27
  | 28, _ => md_28
  | 29, _ => md_29
  | 30, _ => md_30
  | 31, _ => md_31
  | 32, _ => md_32
  | 33, _ => md_33
  | 34, _ => md_34
  | 35, _ => md_35
  | 36, _ => md_36
  | 37, _ => md_37
  | 38, _ => md_38
  | 39, _ => md_39
  | 40, _ => md_40
  | 41, _ => md_41
  | 42, _ => md_42
  | 43, _ => md_43
  | 44, _ => md_44
  | 45, _ => md_45
  | 46, _ => md_46
  | 47, _ => md_47
  | 48, _ => md_48
  | 49, _ => md_49
  | 50, _ => md_50
  | 51, _ => md_51
  | 52, _ => md_52
  | 53, _ => md_53
  | 54, _ => md_54
  | 55, _ => md_55
  | 56, _ => md_56
  | 57, _ => md_57
  | 58, _ => md_58
  | 59, _ => md_59
  | 60, _ => md_60
  | 61, _ => md_61
  | 62, _ => md_62
  | 63, _ => md_63
  | 64, _ => md_64
  | 65, _ => md_65
  | 66, _ => md_66
  | 67, _ => md_67
  | 68, _ => md_68
  | 69, _ => md_69
  | 70, _ => md_70
  | 71, _ => md_71
  | 72, _ => md_72
  | 73, _ => md_73
  | 74, _ => md_74
  | 75, _ => md_75
  | 76, _ => md_76
  | 77, _ => md_77
  | 78, _ => md_78
  | 79, _ => md_79
  | 80, _ => md_80
  | 81, _ => md_81
  | 82, _ => md_82
  | 83, _ => md_83
  | 84, _ => md_84
  | 85, _ => md_85
  | 86, _ => md_86
  | 87, _ => md_87
  | 88, _ => md_88
  | 89, _ => md_89
  | 90, _ => md_90
  | 91, _ => md_91
  | 92, _ => md_92
  | 93, _ => md_93
  | 94, _ => md_94
  | 95, _ => md_95
  | 96, _ => md_96
  | 97, _ => md_97
  | 98, _ => md_98
  | 99, _ => md_99
  | 100, _ => md_100
  | 101, _ => md_101
  | 102, _ => md_102
  | 103, _ => md_103
  | 104, _ => md_104
  | 105, _ => md_105
  | 106, _ => md_106
  | 107, _ => md_107
  | 108, _ => md_108
  | 109, _ => md_109
  | 110, _ => md_110
  | 111, _ => md_111
  | 112, _ => md_112
  | 113, _ => md_113
  | 114, _ => md_114
  | 115, _ => md_115
  | 116, _ => md_116
  | 117, _ => md_117
  | 118, _ => md_118
  | 119, _ => md_119
  | 120, _ => md_120
  | 121, _ => md_121
  | 122, _ => md_122
  | 123, _ => md_123
  | 124, _ => md_124
  | 125, _ => md_125
  | 126, _ => md_126
  | 127, _ => md_127
  | 128, _ => md_128
  | 129, _ => md_129
  | 130, _ => md_130
  | 131, _ => md_131
  | 132, _ => md_132
  | 133, _ => md_133
  | 134, _ => md_134
  | 135, _ => md_135
  | 136, _ => md_136
  | 137, _ => md_137
  | 138, _ => md_138
  | 139, _ => md_139
  | 140, _ => md_140
  | 141, _ => md_141
  | 142, _ => md_142
  | 143, _ => md_143
  | 144, _ => md_144
  | 145, _ => md_145
  | 146, _ => md_146
  | 147, _ => md_147
  | 148, _ => md_148
  | 149, _ => md_149
  | 150, _ => md_150
  | 151, _ => md_151
  | 152, _ => md_152
  | 153, _ => md_153
  | 154, _ => md_154
  | 155, _ => md_155
  | 156, _ => md_156
  | 157, _ => md_157
  | 158, _ => md_158
  | 159, _ => md_159
  | 160, _ => md_160
  | 161, _ => md_161
  | 162, _ => md_162
  | 163, _ => md_163
  | 164, _ => md_164
  | 165, _ => md_165
  | 166, _ => md_166
  | 167, _ => md_167
  | 168, _ => md_168
  | 169, _ => md_169
  | 170, _ => md_170
  | 171, _ => md_171
  | 172, _ => md_172
  | 173, _ => md_173
  | k + 174, h => absurd h (by omega)
def mw3 : Nat → Nat × Nat × Nat
  | 0 => (52, 1056, 0)
  | 1 => (47, 651, 0)
  | 2 => (47, 482, 0)
  | 3 => (47, 495, 0)
  | 4 => (47, 112, 0)
  | 5 => (47, 467, 0)
  | 6 => (45, 90, 0)
  | 7 => (45, 539, 540)
  | 8 => (45, 535, 536)
  | 9 => (45, 553, 13)
  | 10 => (45, 547, 0)
  | 11 => (45, 558, 0)
  | 12 => (51, 304, 0)
  | 13 => (51, 432, 433)
  | 14 => (51, 577, 578)
  | 15 => (51, 679, 680)
  | 16 => (51, 527, 528)
  | 17 => (51, 658, 659)
  | 18 => (51, 543, 544)
  | 19 => (51, 419, 420)
  | 20 => (51, 622, 623)
  | 21 => (51, 438, 439)
  | 22 => (51, 513, 514)
  | 23 => (51, 630, 631)
  | 24 => (51, 508, 509)
  | 25 => (51, 504, 505)
  | 26 => (51, 626, 627)
  | 27 => (51, 638, 639)
  | 28 => (51, 485, 486)
  | 29 => (51, 500, 501)
  | 30 => (48, 125, 0)
  | 31 => (48, 265, 266)
  | 32 => (48, 223, 224)
  | 33 => (48, 269, 270)
  | 34 => (48, 227, 228)
  | 35 => (48, 474, 475)
  | 36 => (48, 489, 490)
  | 37 => (49, 152, 0)
  | 38 => (49, 392, 393)
  | 39 => (49, 688, 689)
  | 40 => (49, 446, 447)
  | 41 => (49, 471, 9)
  | 42 => (49, 520, 10)
  | 43 => (49, 524, 11)
  | 44 => (49, 532, 12)
  | 45 => (49, 458, 459)
  | 46 => (49, 454, 455)
  | 47 => (49, 463, 464)
  | 48 => (49, 450, 451)
  | 49 => (44, 70, 0)
  | 50 => (44, 247, 248)
  | 51 => (44, 239, 240)
  | 52 => (44, 252, 253)
  | 53 => (44, 244, 3)
  | 54 => (44, 257, 4)
  | 55 => (46, 108, 0)
  | 56 => (46, 279, 280)
  | 57 => (46, 300, 301)
  | 58 => (43, 56, 0)
  | 59 => (43, 195, 196)
  | 60 => (43, 216, 217)
  | 61 => (43, 232, 233)
  | 62 => (43, 261, 262)
  | 63 => (43, 273, 274)
  | 64 => (43, 283, 284)
  | 65 => (43, 287, 288)
  | 66 => (43, 396, 397)
  | 67 => (43, 400, 401)
  | 68 => (43, 406, 407)
  | 69 => (43, 414, 415)
  | 70 => (43, 423, 424)
  | 71 => (43, 428, 429)
  | 72 => (43, 442, 443)
  | 73 => (43, 565, 566)
  | 74 => (43, 573, 574)
  | 75 => (43, 582, 583)
  | 76 => (43, 586, 587)
  | 77 => (43, 591, 592)
  | 78 => (43, 597, 598)
  | 79 => (43, 603, 604)
  | 80 => (43, 608, 609)
  | 81 => (43, 613, 614)
  | 82 => (43, 618, 619)
  | 83 => (43, 634, 635)
  | 84 => (43, 643, 644)
  | 85 => (43, 654, 655)
  | 86 => (43, 667, 668)
  | 87 => (43, 671, 672)
  | 88 => (43, 675, 676)
  | 89 => (43, 684, 685)
  | 90 => (43, 692, 693)
  | 91 => (43, 208, 1)
  | 92 => (43, 570, 14)
  | 93 => (43, 200, 0)
  | 94 => (43, 296, 6)
  | 95 => (43, 411, 8)
  | 96 => (43, 203, 0)
  | 97 => (43, 236, 0)
  | 98 => (43, 220, 0)
  | 99 => (43, 479, 0)
  | 100 => (43, 292, 5)
  | 101 => (43, 389, 7)
  | 102 => (43, 213, 2)
  | 103 => (43, 647, 0)
  | 104 => (43, 662, 0)
  | 105 => (50, 698, 0)
  | 106 => (50, 821, 15)
  | 107 => (50, 816, 0)
  | 108 => (50, 971, 0)
  | 109 => (50, 813, 0)
  | 110 => (50, 836, 0)
  | 111 => (50, 829, 0)
  | 112 => (50, 870, 0)
  | 113 => (50, 890, 20)
  | 114 => (50, 809, 810)
  | 115 => (50, 825, 826)
  | 116 => (50, 840, 16)
  | 117 => (50, 832, 833)
  | 118 => (50, 849, 17)
  | 119 => (50, 844, 845)
  | 120 => (50, 852, 853)
  | 121 => (50, 858, 859)
  | 122 => (50, 874, 19)
  | 123 => (50, 867, 18)
  | 124 => (50, 862, 863)
  | 125 => (50, 877, 878)
  | 126 => (50, 881, 882)
  | 127 => (50, 885, 886)
  | 128 => (50, 903, 22)
  | 129 => (50, 899, 21)
  | 130 => (50, 893, 894)
  | 131 => (50, 906, 907)
  | 132 => (50, 916, 23)
  | 133 => (50, 911, 912)
  | 134 => (50, 929, 25)
  | 135 => (50, 925, 24)
  | 136 => (50, 933, 26)
  | 137 => (50, 989, 37)
  | 138 => (50, 984, 36)
  | 139 => (50, 945, 29)
  | 140 => (50, 941, 28)
  | 141 => (50, 980, 35)
  | 142 => (50, 937, 27)
  | 143 => (50, 961, 33)
  | 144 => (50, 964, 0)
  | 145 => (50, 975, 0)
  | 146 => (50, 957, 32)
  | 147 => (50, 968, 34)
  | 148 => (50, 953, 31)
  | 149 => (50, 949, 30)
  | 150 => (50, 919, 920)
  | 151 => (50, 992, 993)
  | 152 => (50, 1001, 38)
  | 153 => (50, 996, 997)
  | 154 => (50, 1004, 1005)
  | 155 => (50, 1012, 0)
  | 156 => (50, 1008, 1009)
  | 157 => (50, 1015, 1016)
  | 158 => (50, 1019, 1020)
  | 159 => (50, 1023, 1024)
  | 160 => (50, 1027, 1028)
  | 161 => (50, 1031, 1032)
  | 162 => (50, 1035, 1036)
  | 163 => (50, 1044, 39)
  | 164 => (50, 1039, 1040)
  | 165 => (50, 1053, 40)
  | 166 => (50, 1048, 1049)
  | 167 => (50, 1064, 41)
  | 168 => (50, 1059, 1060)
  | 169 => (50, 1067, 1068)
  | 170 => (50, 1071, 1072)
  | 171 => (50, 1075, 1076)
  | 172 => (50, 1079, 1080)
  | 173 => (50, 1083, 1084)
  | _ => (0, 0, 0)
def wAt (w : Nat) (q : Cond) : Bool := decide (lw_tbl[w]? = some q) && goodWord q
/-- static 0, <init> 1, else 2 -/
def mk3 : Nat → Nat
  | 0 => 0
  | 1 => 0
  | 2 => 0
  | 3 => 0
  | 4 => 0
  | 5 => 0
  | 6 => 1
  | 7 => 2
  | 8 => 2
  | 9 => 2
  | 10 => 0
  | 11 => 0
  | 12 => 1
  | 13 => 2
  | 14 => 2
  | 15 => 2
  | 16 => 2
  | 17 => 2
  | 18 => 2
  | 19 => 2
  | 20 => 2
  | 21 => 2
  | 22 => 2
  | 23 => 2
  | 24 => 2
  | 25 => 2
  | 26 => 2
  | 27 => 2
  | 28 => 2
  | 29 => 2
  | 30 => 1
  | 31 => 2
  | 32 => 2
  | 33 => 2
  | 34 => 2
  | 35 => 2
  | 36 => 2
  | 37 => 1
  | 38 => 2
  | 39 => 2
  | 40 => 2
  | 41 => 2
  | 42 => 2
  | 43 => 2
  | 44 => 2
  | 45 => 2
  | 46 => 2
  | 47 => 2
  | 48 => 2
  | 49 => 1
  | 50 => 2
  | 51 => 2
  | 52 => 2
  | 53 => 2
  | 54 => 2
  | 55 => 1
  | 56 => 2
  | 57 => 2
  | 58 => 1
  | 59 => 2
  | 60 => 2
  | 61 => 2
  | 62 => 2
  | 63 => 2
  | 64 => 2
  | 65 => 2
  | 66 => 2
  | 67 => 2
  | 68 => 2
  | 69 => 2
  | 70 => 2
  | 71 => 2
  | 72 => 2
  | 73 => 2
  | 74 => 2
  | 75 => 2
  | 76 => 2
  | 77 => 2
  | 78 => 2
  | 79 => 2
  | 80 => 2
  | 81 => 2
  | 82 => 2
  | 83 => 2
  | 84 => 2
  | 85 => 2
  | 86 => 2
  | 87 => 2
  | 88 => 2
  | 89 => 2
  | 90 => 2
  | 91 => 2
  | 92 => 2
  | 93 => 2
  | 94 => 2
  | 95 => 2
  | 96 => 0
  | 97 => 0
  | 98 => 0
  | 99 => 0
  | 100 => 2
  | 101 => 2
  | 102 => 2
  | 103 => 0
  | 104 => 0
  | 105 => 1
  | 106 => 2
  | 107 => 0
  | 108 => 0
  | 109 => 0
  | 110 => 0
  | 111 => 0
  | 112 => 0
  | 113 => 2
  | 114 => 2
  | 115 => 2
  | 116 => 2
  | 117 => 2
  | 118 => 2
  | 119 => 2
  | 120 => 2
  | 121 => 2
  | 122 => 2
  | 123 => 2
  | 124 => 2
  | 125 => 2
  | 126 => 2
  | 127 => 2
  | 128 => 2
  | 129 => 2
  | 130 => 2
  | 131 => 2
  | 132 => 2
  | 133 => 2
  | 134 => 2
  | 135 => 2
  | 136 => 2
  | 137 => 2
  | 138 => 2
  | 139 => 2
  | 140 => 2
  | 141 => 2
  | 142 => 2
  | 143 => 2
  | 144 => 0
  | 145 => 0
  | 146 => 2
  | 147 => 2
  | 148 => 2
  | 149 => 2
  | 150 => 2
  | 151 => 2
  | 152 => 2
  | 153 => 2
  | 154 => 2
  | 155 => 0
  | 156 => 2
  | 157 => 2
  | 158 => 2
  | 159 => 2
  | 160 => 2
  | 161 => 2
  | 162 => 2
  | 163 => 2
  | 164 => 2
  | 165 => 2
  | 166 => 2
  | 167 => 2
  | 168 => 2
  | 169 => 2
  | 170 => 2
  | 171 => 2
  | 172 => 2
  | 173 => 2
  | 174 => 0
  | _ => 3
def vM (i : Nat) : Bool := wAt (mw3 i).1 (.initialized (my i).cls) && (match mk3 i with
  | 0 => wAt (mw3 i).2.1 (.static (my i))
  | 1 => wAt (mw3 i).2.1 (.instanceMethod (my i)) && decide ((my i).name = "<init>") && decide (mr i = none)
  | _ => wAt (mw3 i).2.1 (.instanceMethod (my i)) && wAt (mw3 i).2.2 (.selects (my i).cls (my i) (my i)) && decide (rk i = 10 + (cls.findIdx? (fun q => decide (q.1 = (my i).cls))).getD 99)) &&
  decide ((parseMethodDescriptor (my i).desc).map (fun d => d.parameters.length) = some (mp i)) && decide (mx i ≤ 19) && plainFor (my i) && decide ((my i).cls ≠ "java/lang/invoke/MethodHandle") && decide ((my i).cls ≠ "java/lang/invoke/VarHandle") && (decide (rb i = 1) == decide (mr i = some .boolean))
theorem vM_0 : ∀ i, i < 25 → vM (0 + i) = true := by decide +kernel
theorem vM_25 : ∀ i, i < 25 → vM (25 + i) = true := by decide +kernel
theorem vM_50 : ∀ i, i < 25 → vM (50 + i) = true := by decide +kernel
theorem vM_75 : ∀ i, i < 25 → vM (75 + i) = true := by decide +kernel
theorem vM_100 : ∀ i, i < 25 → vM (100 + i) = true := by decide +kernel
theorem vM_125 : ∀ i, i < 25 → vM (125 + i) = true := by decide +kernel
theorem vM_150 : ∀ i, i < 24 → vM (150 + i) = true := by decide +kernel
theorem vMOK (i : Nat) (h : i < 174) : vM i = true := by
  by_cases h0 : i < 25
  · have := vM_0 (i - 0) (by omega)
    rwa [show 0 + (i - 0) = i by omega] at this
  by_cases h25 : i < 50
  · have := vM_25 (i - 25) (by omega)
    rwa [show 25 + (i - 25) = i by omega] at this
  by_cases h50 : i < 75
  · have := vM_50 (i - 50) (by omega)
    rwa [show 50 + (i - 50) = i by omega] at this
  by_cases h75 : i < 100
  · have := vM_75 (i - 75) (by omega)
    rwa [show 75 + (i - 75) = i by omega] at this
  by_cases h100 : i < 125
  · have := vM_100 (i - 100) (by omega)
    rwa [show 100 + (i - 100) = i by omega] at this
  by_cases h125 : i < 150
  · have := vM_125 (i - 125) (by omega)
    rwa [show 125 + (i - 125) = i by omega] at this
  by_cases h150 : i < 174
  · have := vM_150 (i - 150) (by omega)
    rwa [show 150 + (i - 150) = i by omega] at this
  exact absurd h (by omega)
