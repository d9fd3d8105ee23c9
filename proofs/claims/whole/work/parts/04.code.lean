/-! every method has its code among the words -/
set_option maxRecDepth 100000 in
theorem xco_0 : Cond.code (xY 0) (xB 0) (xmx 0) (xrt 0) ∈ lw_tbl := List.mem_of_getElem? (i := 346) rfl
set_option maxRecDepth 100000 in
theorem xco_1 : Cond.code (xY 1) (xB 1) (xmx 1) (xrt 1) ∈ lw_tbl := List.mem_of_getElem? (i := 539) rfl
set_option maxRecDepth 100000 in
theorem xco_2 : Cond.code (xY 2) (xB 2) (xmx 2) (xrt 2) ∈ lw_tbl := List.mem_of_getElem? (i := 777) rfl
set_option maxRecDepth 100000 in
theorem xco_3 : Cond.code (xY 3) (xB 3) (xmx 3) (xrt 3) ∈ lw_tbl := List.mem_of_getElem? (i := 783) rfl
set_option maxRecDepth 100000 in
theorem xco_4 : Cond.code (xY 4) (xB 4) (xmx 4) (xrt 4) ∈ lw_tbl := List.mem_of_getElem? (i := 789) rfl
set_option maxRecDepth 100000 in
theorem xco_5 : Cond.code (xY 5) (xB 5) (xmx 5) (xrt 5) ∈ lw_tbl := List.mem_of_getElem? (i := 122) rfl
set_option maxRecDepth 100000 in
theorem xco_6 : Cond.code (xY 6) (xB 6) (xmx 6) (xrt 6) ∈ lw_tbl := List.mem_of_getElem? (i := 625) rfl
set_option maxRecDepth 100000 in
theorem xco_7 : Cond.code (xY 7) (xB 7) (xmx 7) (xrt 7) ∈ lw_tbl := List.mem_of_getElem? (i := 646) rfl
set_option maxRecDepth 100000 in
theorem xco_8 : Cond.code (xY 8) (xB 8) (xmx 8) (xrt 8) ∈ lw_tbl := List.mem_of_getElem? (i := 833) rfl
set_option maxRecDepth 100000 in
theorem xco_9 : Cond.code (xY 9) (xB 9) (xmx 9) (xrt 9) ∈ lw_tbl := List.mem_of_getElem? (i := 829) rfl
set_option maxRecDepth 100000 in
theorem xco_10 : Cond.code (xY 10) (xB 10) (xmx 10) (xrt 10) ∈ lw_tbl := List.mem_of_getElem? (i := 544) rfl
set_option maxRecDepth 100000 in
theorem xco_11 : Cond.code (xY 11) (xB 11) (xmx 11) (xrt 11) ∈ lw_tbl := List.mem_of_getElem? (i := 552) rfl
set_option maxRecDepth 100000 in
theorem xco_12 : Cond.code (xY 12) (xB 12) (xmx 12) (xrt 12) ∈ lw_tbl := List.mem_of_getElem? (i := 566) rfl
set_option maxRecDepth 100000 in
theorem xco_13 : Cond.code (xY 13) (xB 13) (xmx 13) (xrt 13) ∈ lw_tbl := List.mem_of_getElem? (i := 571) rfl
set_option maxRecDepth 100000 in
theorem xco_14 : Cond.code (xY 14) (xB 14) (xmx 14) (xrt 14) ∈ lw_tbl := List.mem_of_getElem? (i := 578) rfl
set_option maxRecDepth 100000 in
theorem xco_15 : Cond.code (xY 15) (xB 15) (xmx 15) (xrt 15) ∈ lw_tbl := List.mem_of_getElem? (i := 582) rfl
set_option maxRecDepth 100000 in
theorem xco_16 : Cond.code (xY 16) (xB 16) (xmx 16) (xrt 16) ∈ lw_tbl := List.mem_of_getElem? (i := 586) rfl
set_option maxRecDepth 100000 in
theorem xco_17 : Cond.code (xY 17) (xB 17) (xmx 17) (xrt 17) ∈ lw_tbl := List.mem_of_getElem? (i := 598) rfl
set_option maxRecDepth 100000 in
theorem xco_18 : Cond.code (xY 18) (xB 18) (xmx 18) (xrt 18) ∈ lw_tbl := List.mem_of_getElem? (i := 602) rfl
set_option maxRecDepth 100000 in
theorem xco_19 : Cond.code (xY 19) (xB 19) (xmx 19) (xrt 19) ∈ lw_tbl := List.mem_of_getElem? (i := 606) rfl
set_option maxRecDepth 100000 in
theorem xco_20 : Cond.code (xY 20) (xB 20) (xmx 20) (xrt 20) ∈ lw_tbl := List.mem_of_getElem? (i := 611) rfl
set_option maxRecDepth 100000 in
theorem xco_21 : Cond.code (xY 21) (xB 21) (xmx 21) (xrt 21) ∈ lw_tbl := List.mem_of_getElem? (i := 616) rfl
set_option maxRecDepth 100000 in
theorem xco_22 : Cond.code (xY 22) (xB 22) (xmx 22) (xrt 22) ∈ lw_tbl := List.mem_of_getElem? (i := 621) rfl
set_option maxRecDepth 100000 in
theorem xco_23 : Cond.code (xY 23) (xB 23) (xmx 23) (xrt 23) ∈ lw_tbl := List.mem_of_getElem? (i := 629) rfl
set_option maxRecDepth 100000 in
theorem xco_24 : Cond.code (xY 24) (xB 24) (xmx 24) (xrt 24) ∈ lw_tbl := List.mem_of_getElem? (i := 633) rfl
set_option maxRecDepth 100000 in
theorem xco_25 : Cond.code (xY 25) (xB 25) (xmx 25) (xrt 25) ∈ lw_tbl := List.mem_of_getElem? (i := 637) rfl
set_option maxRecDepth 100000 in
theorem xco_26 : Cond.code (xY 26) (xB 26) (xmx 26) (xrt 26) ∈ lw_tbl := List.mem_of_getElem? (i := 641) rfl
set_option maxRecDepth 100000 in
theorem xco_27 : Cond.code (xY 27) (xB 27) (xmx 27) (xrt 27) ∈ lw_tbl := List.mem_of_getElem? (i := 653) rfl
set_option maxRecDepth 100000 in
theorem xco_28 : Cond.code (xY 28) (xB 28) (xmx 28) (xrt 28) ∈ lw_tbl := List.mem_of_getElem? (i := 368) rfl
set_option maxRecDepth 100000 in
theorem xco_29 : Cond.code (xY 29) (xB 29) (xmx 29) (xrt 29) ∈ lw_tbl := List.mem_of_getElem? (i := 803) rfl
set_option maxRecDepth 100000 in
theorem xco_30 : Cond.code (xY 30) (xB 30) (xmx 30) (xrt 30) ∈ lw_tbl := List.mem_of_getElem? (i := 845) rfl
set_option maxRecDepth 100000 in
theorem xco_31 : Cond.code (xY 31) (xB 31) (xmx 31) (xrt 31) ∈ lw_tbl := List.mem_of_getElem? (i := 809) rfl
set_option maxRecDepth 100000 in
theorem xco_32 : Cond.code (xY 32) (xB 32) (xmx 32) (xrt 32) ∈ lw_tbl := List.mem_of_getElem? (i := 813) rfl
set_option maxRecDepth 100000 in
theorem xco_33 : Cond.code (xY 33) (xB 33) (xmx 33) (xrt 33) ∈ lw_tbl := List.mem_of_getElem? (i := 825) rfl
set_option maxRecDepth 100000 in
theorem xco_34 : Cond.code (xY 34) (xB 34) (xmx 34) (xrt 34) ∈ lw_tbl := List.mem_of_getElem? (i := 837) rfl
set_option maxRecDepth 100000 in
theorem xco_35 : Cond.code (xY 35) (xB 35) (xmx 35) (xrt 35) ∈ lw_tbl := List.mem_of_getElem? (i := 841) rfl
set_option maxRecDepth 100000 in
theorem xco_36 : Cond.code (xY 36) (xB 36) (xmx 36) (xrt 36) ∈ lw_tbl := List.mem_of_getElem? (i := 820) rfl
set_option maxRecDepth 100000 in
theorem xco_37 : Cond.code (xY 37) (xB 37) (xmx 37) (xrt 37) ∈ lw_tbl := List.mem_of_getElem? (i := 218) rfl
set_option maxRecDepth 100000 in
theorem xco_38 : Cond.code (xY 38) (xB 38) (xmx 38) (xrt 38) ∈ lw_tbl := List.mem_of_getElem? (i := 561) rfl
set_option maxRecDepth 100000 in
theorem xco_39 : Cond.code (xY 39) (xB 39) (xmx 39) (xrt 39) ∈ lw_tbl := List.mem_of_getElem? (i := 666) rfl
set_option maxRecDepth 100000 in
theorem xco_40 : Cond.code (xY 40) (xB 40) (xmx 40) (xrt 40) ∈ lw_tbl := List.mem_of_getElem? (i := 670) rfl
set_option maxRecDepth 100000 in
theorem xco_41 : Cond.code (xY 41) (xB 41) (xmx 41) (xrt 41) ∈ lw_tbl := List.mem_of_getElem? (i := 678) rfl
set_option maxRecDepth 100000 in
theorem xco_42 : Cond.code (xY 42) (xB 42) (xmx 42) (xrt 42) ∈ lw_tbl := List.mem_of_getElem? (i := 682) rfl
set_option maxRecDepth 100000 in
theorem xco_43 : Cond.code (xY 43) (xB 43) (xmx 43) (xrt 43) ∈ lw_tbl := List.mem_of_getElem? (i := 686) rfl
set_option maxRecDepth 100000 in
theorem xco_44 : Cond.code (xY 44) (xB 44) (xmx 44) (xrt 44) ∈ lw_tbl := List.mem_of_getElem? (i := 723) rfl
set_option maxRecDepth 100000 in
theorem xco_45 : Cond.code (xY 45) (xB 45) (xmx 45) (xrt 45) ∈ lw_tbl := List.mem_of_getElem? (i := 727) rfl
set_option maxRecDepth 100000 in
theorem xco_46 : Cond.code (xY 46) (xB 46) (xmx 46) (xrt 46) ∈ lw_tbl := List.mem_of_getElem? (i := 731) rfl
set_option maxRecDepth 100000 in
theorem xco_47 : Cond.code (xY 47) (xB 47) (xmx 47) (xrt 47) ∈ lw_tbl := List.mem_of_getElem? (i := 691) rfl
set_option maxRecDepth 100000 in
theorem xco_48 : Cond.code (xY 48) (xB 48) (xmx 48) (xrt 48) ∈ lw_tbl := List.mem_of_getElem? (i := 695) rfl
set_option maxRecDepth 100000 in
theorem xco_49 : Cond.code (xY 49) (xB 49) (xmx 49) (xrt 49) ∈ lw_tbl := List.mem_of_getElem? (i := 699) rfl
set_option maxRecDepth 100000 in
theorem xco_50 : Cond.code (xY 50) (xB 50) (xmx 50) (xrt 50) ∈ lw_tbl := List.mem_of_getElem? (i := 712) rfl
set_option maxRecDepth 100000 in
theorem xco_51 : Cond.code (xY 51) (xB 51) (xmx 51) (xrt 51) ∈ lw_tbl := List.mem_of_getElem? (i := 703) rfl
set_option maxRecDepth 100000 in
theorem xco_52 : Cond.code (xY 52) (xB 52) (xmx 52) (xrt 52) ∈ lw_tbl := List.mem_of_getElem? (i := 708) rfl
set_option maxRecDepth 100000 in
theorem xco_53 : Cond.code (xY 53) (xB 53) (xmx 53) (xrt 53) ∈ lw_tbl := List.mem_of_getElem? (i := 716) rfl
set_option maxRecDepth 100000 in
theorem xco_54 : Cond.code (xY 54) (xB 54) (xmx 54) (xrt 54) ∈ lw_tbl := List.mem_of_getElem? (i := 105) rfl
set_option maxRecDepth 100000 in
theorem xco_55 : Cond.code (xY 55) (xB 55) (xmx 55) (xrt 55) ∈ lw_tbl := List.mem_of_getElem? (i := 415) rfl
set_option maxRecDepth 100000 in
theorem xco_56 : Cond.code (xY 56) (xB 56) (xmx 56) (xrt 56) ∈ lw_tbl := List.mem_of_getElem? (i := 456) rfl
set_option maxRecDepth 100000 in
theorem xco_57 : Cond.code (xY 57) (xB 57) (xmx 57) (xrt 57) ∈ lw_tbl := List.mem_of_getElem? (i := 491) rfl
set_option maxRecDepth 100000 in
theorem xco_58 : Cond.code (xY 58) (xB 58) (xmx 58) (xrt 58) ∈ lw_tbl := List.mem_of_getElem? (i := 526) rfl
set_option maxRecDepth 100000 in
theorem xco_59 : Cond.code (xY 59) (xB 59) (xmx 59) (xrt 59) ∈ lw_tbl := List.mem_of_getElem? (i := 590) rfl
set_option maxRecDepth 100000 in
theorem xco_60 : Cond.code (xY 60) (xB 60) (xmx 60) (xrt 60) ∈ lw_tbl := List.mem_of_getElem? (i := 594) rfl
set_option maxRecDepth 100000 in
theorem xco_61 : Cond.code (xY 61) (xB 61) (xmx 61) (xrt 61) ∈ lw_tbl := List.mem_of_getElem? (i := 423) rfl
set_option maxRecDepth 100000 in
theorem xco_62 : Cond.code (xY 62) (xB 62) (xmx 62) (xrt 62) ∈ lw_tbl := List.mem_of_getElem? (i := 435) rfl
set_option maxRecDepth 100000 in
theorem xco_63 : Cond.code (xY 63) (xB 63) (xmx 63) (xrt 63) ∈ lw_tbl := List.mem_of_getElem? (i := 461) rfl
set_option maxRecDepth 100000 in
theorem xco_64 : Cond.code (xY 64) (xB 64) (xmx 64) (xrt 64) ∈ lw_tbl := List.mem_of_getElem? (i := 556) rfl
set_option maxRecDepth 100000 in
theorem xco_65 : Cond.code (xY 65) (xB 65) (xmx 65) (xrt 65) ∈ lw_tbl := List.mem_of_getElem? (i := 451) rfl
set_option maxRecDepth 100000 in
theorem xco_66 : Cond.code (xY 66) (xB 66) (xmx 66) (xrt 66) ∈ lw_tbl := List.mem_of_getElem? (i := 427) rfl
set_option maxRecDepth 100000 in
theorem xco_67 : Cond.code (xY 67) (xB 67) (xmx 67) (xrt 67) ∈ lw_tbl := List.mem_of_getElem? (i := 136) rfl
set_option maxRecDepth 100000 in
theorem xco_68 : Cond.code (xY 68) (xB 68) (xmx 68) (xrt 68) ∈ lw_tbl := List.mem_of_getElem? (i := 474) rfl
set_option maxRecDepth 100000 in
theorem xco_69 : Cond.code (xY 69) (xB 69) (xmx 69) (xrt 69) ∈ lw_tbl := List.mem_of_getElem? (i := 498) rfl
set_option maxRecDepth 100000 in
theorem xco_70 : Cond.code (xY 70) (xB 70) (xmx 70) (xrt 70) ∈ lw_tbl := List.mem_of_getElem? (i := 485) rfl
set_option maxRecDepth 100000 in
theorem xco_71 : Cond.code (xY 71) (xB 71) (xmx 71) (xrt 71) ∈ lw_tbl := List.mem_of_getElem? (i := 477) rfl
set_option maxRecDepth 100000 in
theorem xco_72 : Cond.code (xY 72) (xB 72) (xmx 72) (xrt 72) ∈ lw_tbl := List.mem_of_getElem? (i := 494) rfl
set_option maxRecDepth 100000 in
theorem xco_73 : Cond.code (xY 73) (xB 73) (xmx 73) (xrt 73) ∈ lw_tbl := List.mem_of_getElem? (i := 128) rfl
set_option maxRecDepth 100000 in
theorem xco_74 : Cond.code (xY 74) (xB 74) (xmx 74) (xrt 74) ∈ lw_tbl := List.mem_of_getElem? (i := 512) rfl
set_option maxRecDepth 100000 in
theorem xco_75 : Cond.code (xY 75) (xB 75) (xmx 75) (xrt 75) ∈ lw_tbl := List.mem_of_getElem? (i := 522) rfl
set_option maxRecDepth 100000 in
theorem xco_76 : Cond.code (xY 76) (xB 76) (xmx 76) (xrt 76) ∈ lw_tbl := List.mem_of_getElem? (i := 657) rfl
set_option maxRecDepth 100000 in
theorem xco_77 : Cond.code (xY 77) (xB 77) (xmx 77) (xrt 77) ∈ lw_tbl := List.mem_of_getElem? (i := 760) rfl
set_option maxRecDepth 100000 in
theorem xco_78 : Cond.code (xY 78) (xB 78) (xmx 78) (xrt 78) ∈ lw_tbl := List.mem_of_getElem? (i := 443) rfl
set_option maxRecDepth 100000 in
theorem xco_79 : Cond.code (xY 79) (xB 79) (xmx 79) (xrt 79) ∈ lw_tbl := List.mem_of_getElem? (i := 447) rfl
set_option maxRecDepth 100000 in
theorem xco_80 : Cond.code (xY 80) (xB 80) (xmx 80) (xrt 80) ∈ lw_tbl := List.mem_of_getElem? (i := 466) rfl
set_option maxRecDepth 100000 in
theorem xco_81 : Cond.code (xY 81) (xB 81) (xmx 81) (xrt 81) ∈ lw_tbl := List.mem_of_getElem? (i := 471) rfl
set_option maxRecDepth 100000 in
theorem xco_82 : Cond.code (xY 82) (xB 82) (xmx 82) (xrt 82) ∈ lw_tbl := List.mem_of_getElem? (i := 530) rfl
set_option maxRecDepth 100000 in
theorem xco_83 : Cond.code (xY 83) (xB 83) (xmx 83) (xrt 83) ∈ lw_tbl := List.mem_of_getElem? (i := 534) rfl
set_option maxRecDepth 100000 in
theorem xco_84 : Cond.code (xY 84) (xB 84) (xmx 84) (xrt 84) ∈ lw_tbl := List.mem_of_getElem? (i := 508) rfl
set_option maxRecDepth 100000 in
theorem xco_85 : Cond.code (xY 85) (xB 85) (xmx 85) (xrt 85) ∈ lw_tbl := List.mem_of_getElem? (i := 516) rfl
set_option maxRecDepth 100000 in
theorem xco_86 : Cond.code (xY 86) (xB 86) (xmx 86) (xrt 86) ∈ lw_tbl := List.mem_of_getElem? (i := 97) rfl
set_option maxRecDepth 100000 in
theorem xco_87 : Cond.code (xY 87) (xB 87) (xmx 87) (xrt 87) ∈ lw_tbl := List.mem_of_getElem? (i := 411) rfl
set_option maxRecDepth 100000 in
theorem xco_88 : Cond.code (xY 88) (xB 88) (xmx 88) (xrt 88) ∈ lw_tbl := List.mem_of_getElem? (i := 431) rfl
set_option maxRecDepth 100000 in
theorem xco_89 : Cond.code (xY 89) (xB 89) (xmx 89) (xrt 89) ∈ lw_tbl := List.mem_of_getElem? (i := 439) rfl
set_option maxRecDepth 100000 in
theorem xco_90 : Cond.code (xY 90) (xB 90) (xmx 90) (xrt 90) ∈ lw_tbl := List.mem_of_getElem? (i := 662) rfl
set_option maxRecDepth 100000 in
theorem xco_91 : Cond.code (xY 91) (xB 91) (xmx 91) (xrt 91) ∈ lw_tbl := List.mem_of_getElem? (i := 736) rfl
set_option maxRecDepth 100000 in
theorem xco_92 : Cond.code (xY 92) (xB 92) (xmx 92) (xrt 92) ∈ lw_tbl := List.mem_of_getElem? (i := 740) rfl
set_option maxRecDepth 100000 in
theorem xco_93 : Cond.code (xY 93) (xB 93) (xmx 93) (xrt 93) ∈ lw_tbl := List.mem_of_getElem? (i := 745) rfl
set_option maxRecDepth 100000 in
theorem xco_94 : Cond.code (xY 94) (xB 94) (xmx 94) (xrt 94) ∈ lw_tbl := List.mem_of_getElem? (i := 750) rfl
set_option maxRecDepth 100000 in
theorem xco_95 : Cond.code (xY 95) (xB 95) (xmx 95) (xrt 95) ∈ lw_tbl := List.mem_of_getElem? (i := 754) rfl
set_option maxRecDepth 100000 in
theorem xco_96 : Cond.code (xY 96) (xB 96) (xmx 96) (xrt 96) ∈ lw_tbl := List.mem_of_getElem? (i := 764) rfl
set_option maxRecDepth 100000 in
theorem xco_97 : Cond.code (xY 97) (xB 97) (xmx 97) (xrt 97) ∈ lw_tbl := List.mem_of_getElem? (i := 769) rfl
set_option maxRecDepth 100000 in
theorem xco_98 : Cond.code (xY 98) (xB 98) (xmx 98) (xrt 98) ∈ lw_tbl := List.mem_of_getElem? (i := 773) rfl
set_option maxRecDepth 100000 in
theorem xco_99 : Cond.code (xY 99) (xB 99) (xmx 99) (xrt 99) ∈ lw_tbl := List.mem_of_getElem? (i := 795) rfl
set_option maxRecDepth 100000 in
theorem xco_100 : Cond.code (xY 100) (xB 100) (xmx 100) (xrt 100) ∈ lw_tbl := List.mem_of_getElem? (i := 799) rfl
set_option maxRecDepth 100000 in
theorem xco_101 : Cond.code (xY 101) (xB 101) (xmx 101) (xrt 101) ∈ lw_tbl := List.mem_of_getElem? (i := 850) rfl
set_option maxRecDepth 100000 in
theorem xco_102 : Cond.code (xY 102) (xB 102) (xmx 102) (xrt 102) ∈ lw_tbl := List.mem_of_getElem? (i := 854) rfl
set_option maxRecDepth 100000 in
theorem xco_103 : Cond.code (xY 103) (xB 103) (xmx 103) (xrt 103) ∈ lw_tbl := List.mem_of_getElem? (i := 419) rfl
set_option maxRecDepth 100000 in
theorem xco_104 : Cond.code (xY 104) (xB 104) (xmx 104) (xrt 104) ∈ lw_tbl := List.mem_of_getElem? (i := 504) rfl
set_option maxRecDepth 100000 in
theorem xco_105 : Cond.code (xY 105) (xB 105) (xmx 105) (xrt 105) ∈ lw_tbl := List.mem_of_getElem? (i := 481) rfl
set_option maxRecDepth 100000 in
theorem xco_106 : Cond.code (xY 106) (xB 106) (xmx 106) (xrt 106) ∈ lw_tbl := List.mem_of_getElem? (i := 719) rfl
set_option maxRecDepth 100000 in
theorem xco_107 : Cond.code (xY 107) (xB 107) (xmx 107) (xrt 107) ∈ lw_tbl := List.mem_of_getElem? (i := 501) rfl
set_option maxRecDepth 100000 in
theorem xco_108 : Cond.code (xY 108) (xB 108) (xmx 108) (xrt 108) ∈ lw_tbl := List.mem_of_getElem? (i := 649) rfl
set_option maxRecDepth 100000 in
theorem xco_109 : Cond.code (xY 109) (xB 109) (xmx 109) (xrt 109) ∈ lw_tbl := List.mem_of_getElem? (i := 860) rfl
set_option maxRecDepth 100000 in
theorem xco_110 : Cond.code (xY 110) (xB 110) (xmx 110) (xrt 110) ∈ lw_tbl := List.mem_of_getElem? (i := 1139) rfl
set_option maxRecDepth 100000 in
theorem xco_111 : Cond.code (xY 111) (xB 111) (xmx 111) (xrt 111) ∈ lw_tbl := List.mem_of_getElem? (i := 888) rfl
set_option maxRecDepth 100000 in
theorem xco_112 : Cond.code (xY 112) (xB 112) (xmx 112) (xrt 112) ∈ lw_tbl := List.mem_of_getElem? (i := 1149) rfl
set_option maxRecDepth 100000 in
theorem xco_113 : Cond.code (xY 113) (xB 113) (xmx 113) (xrt 113) ∈ lw_tbl := List.mem_of_getElem? (i := 1120) rfl
set_option maxRecDepth 100000 in
theorem xco_114 : Cond.code (xY 114) (xB 114) (xmx 114) (xrt 114) ∈ lw_tbl := List.mem_of_getElem? (i := 1124) rfl
set_option maxRecDepth 100000 in
theorem xco_115 : Cond.code (xY 115) (xB 115) (xmx 115) (xrt 115) ∈ lw_tbl := List.mem_of_getElem? (i := 1136) rfl
set_option maxRecDepth 100000 in
theorem xco_116 : Cond.code (xY 116) (xB 116) (xmx 116) (xrt 116) ∈ lw_tbl := List.mem_of_getElem? (i := 1142) rfl
set_option maxRecDepth 100000 in
theorem xco_117 : Cond.code (xY 117) (xB 117) (xmx 117) (xrt 117) ∈ lw_tbl := List.mem_of_getElem? (i := 1146) rfl
set_option maxRecDepth 100000 in
theorem xco_118 : Cond.code (xY 118) (xB 118) (xmx 118) (xrt 118) ∈ lw_tbl := List.mem_of_getElem? (i := 1132) rfl
set_option maxRecDepth 100000 in
theorem xco_119 : Cond.code (xY 119) (xB 119) (xmx 119) (xrt 119) ∈ lw_tbl := List.mem_of_getElem? (i := 1153) rfl
set_option maxRecDepth 100000 in
theorem xco_120 : Cond.code (xY 120) (xB 120) (xmx 120) (xrt 120) ∈ lw_tbl := List.mem_of_getElem? (i := 1161) rfl
set_option maxRecDepth 100000 in
theorem xco_121 : Cond.code (xY 121) (xB 121) (xmx 121) (xrt 121) ∈ lw_tbl := List.mem_of_getElem? (i := 1157) rfl
set_option maxRecDepth 100000 in
theorem xco_122 : Cond.code (xY 122) (xB 122) (xmx 122) (xrt 122) ∈ lw_tbl := List.mem_of_getElem? (i := 1128) rfl
set_option maxRecDepth 100000 in
theorem xco_123 : Cond.code (xY 123) (xB 123) (xmx 123) (xrt 123) ∈ lw_tbl := List.mem_of_getElem? (i := 1177) rfl
set_option maxRecDepth 100000 in
theorem xco_124 : Cond.code (xY 124) (xB 124) (xmx 124) (xrt 124) ∈ lw_tbl := List.mem_of_getElem? (i := 1173) rfl
set_option maxRecDepth 100000 in
theorem xco_125 : Cond.code (xY 125) (xB 125) (xmx 125) (xrt 125) ∈ lw_tbl := List.mem_of_getElem? (i := 1197) rfl
set_option maxRecDepth 100000 in
theorem xco_126 : Cond.code (xY 126) (xB 126) (xmx 126) (xrt 126) ∈ lw_tbl := List.mem_of_getElem? (i := 1201) rfl
set_option maxRecDepth 100000 in
theorem xco_127 : Cond.code (xY 127) (xB 127) (xmx 127) (xrt 127) ∈ lw_tbl := List.mem_of_getElem? (i := 1209) rfl
set_option maxRecDepth 100000 in
theorem xco_128 : Cond.code (xY 128) (xB 128) (xmx 128) (xrt 128) ∈ lw_tbl := List.mem_of_getElem? (i := 1185) rfl
set_option maxRecDepth 100000 in
theorem xco_129 : Cond.code (xY 129) (xB 129) (xmx 129) (xrt 129) ∈ lw_tbl := List.mem_of_getElem? (i := 1193) rfl
set_option maxRecDepth 100000 in
theorem xco_130 : Cond.code (xY 130) (xB 130) (xmx 130) (xrt 130) ∈ lw_tbl := List.mem_of_getElem? (i := 1189) rfl
set_option maxRecDepth 100000 in
theorem xco_131 : Cond.code (xY 131) (xB 131) (xmx 131) (xrt 131) ∈ lw_tbl := List.mem_of_getElem? (i := 1181) rfl
set_option maxRecDepth 100000 in
theorem xco_132 : Cond.code (xY 132) (xB 132) (xmx 132) (xrt 132) ∈ lw_tbl := List.mem_of_getElem? (i := 1205) rfl
set_option maxRecDepth 100000 in
theorem xco_133 : Cond.code (xY 133) (xB 133) (xmx 133) (xrt 133) ∈ lw_tbl := List.mem_of_getElem? (i := 1169) rfl
set_option maxRecDepth 100000 in
theorem xco_134 : Cond.code (xY 134) (xB 134) (xmx 134) (xrt 134) ∈ lw_tbl := List.mem_of_getElem? (i := 1165) rfl
set_option maxRecDepth 100000 in
theorem xco_135 : Cond.code (xY 135) (xB 135) (xmx 135) (xrt 135) ∈ lw_tbl := List.mem_of_getElem? (i := 1213) rfl
set_option maxRecDepth 100000 in
theorem xco_136 : Cond.code (xY 136) (xB 136) (xmx 136) (xrt 136) ∈ lw_tbl := List.mem_of_getElem? (i := 869) rfl
set_option maxRecDepth 100000 in
theorem xco_137 : Cond.code (xY 137) (xB 137) (xmx 137) (xrt 137) ∈ lw_tbl := List.mem_of_getElem? (i := 885) rfl
set_option maxRecDepth 100000 in
theorem xco_138 : Cond.code (xY 138) (xB 138) (xmx 138) (xrt 138) ∈ lw_tbl := List.mem_of_getElem? (i := 881) rfl
set_option maxRecDepth 100000 in
theorem xco_139 : Cond.code (xY 139) (xB 139) (xmx 139) (xrt 139) ∈ lw_tbl := List.mem_of_getElem? (i := 877) rfl
set_option maxRecDepth 100000 in
theorem xco_140 : Cond.code (xY 140) (xB 140) (xmx 140) (xrt 140) ∈ lw_tbl := List.mem_of_getElem? (i := 873) rfl
set_option maxRecDepth 100000 in
theorem xco_141 : Cond.code (xY 141) (xB 141) (xmx 141) (xrt 141) ∈ lw_tbl := List.mem_of_getElem? (i := 865) rfl
set_option maxRecDepth 100000 in
theorem xco_142 : Cond.code (xY 142) (xB 142) (xmx 142) (xrt 142) ∈ lw_tbl := List.mem_of_getElem? (i := 892) rfl
set_option maxRecDepth 100000 in
theorem xco_143 : Cond.code (xY 143) (xB 143) (xmx 143) (xrt 143) ∈ lw_tbl := List.mem_of_getElem? (i := 1217) rfl
set_option maxRecDepth 100000 in
theorem xco_144 : Cond.code (xY 144) (xB 144) (xmx 144) (xrt 144) ∈ lw_tbl := List.mem_of_getElem? (i := 1225) rfl
set_option maxRecDepth 100000 in
theorem xco_145 : Cond.code (xY 145) (xB 145) (xmx 145) (xrt 145) ∈ lw_tbl := List.mem_of_getElem? (i := 1221) rfl
set_option maxRecDepth 100000 in
theorem xco_146 : Cond.code (xY 146) (xB 146) (xmx 146) (xrt 146) ∈ lw_tbl := List.mem_of_getElem? (i := 1229) rfl
set_option maxRecDepth 100000 in
theorem xco_147 : Cond.code (xY 147) (xB 147) (xmx 147) (xrt 147) ∈ lw_tbl := List.mem_of_getElem? (i := 1237) rfl
set_option maxRecDepth 100000 in
theorem xco_148 : Cond.code (xY 148) (xB 148) (xmx 148) (xrt 148) ∈ lw_tbl := List.mem_of_getElem? (i := 1241) rfl
set_option maxRecDepth 100000 in
theorem xco_149 : Cond.code (xY 149) (xB 149) (xmx 149) (xrt 149) ∈ lw_tbl := List.mem_of_getElem? (i := 1233) rfl
set_option maxRecDepth 100000 in
theorem xco_150 : Cond.code (xY 150) (xB 150) (xmx 150) (xrt 150) ∈ lw_tbl := List.mem_of_getElem? (i := 1245) rfl
set_option maxRecDepth 100000 in
theorem xco_151 : Cond.code (xY 151) (xB 151) (xmx 151) (xrt 151) ∈ lw_tbl := List.mem_of_getElem? (i := 1257) rfl
set_option maxRecDepth 100000 in
theorem xco_152 : Cond.code (xY 152) (xB 152) (xmx 152) (xrt 152) ∈ lw_tbl := List.mem_of_getElem? (i := 1261) rfl
set_option maxRecDepth 100000 in
theorem xco_153 : Cond.code (xY 153) (xB 153) (xmx 153) (xrt 153) ∈ lw_tbl := List.mem_of_getElem? (i := 1253) rfl
set_option maxRecDepth 100000 in
theorem xco_154 : Cond.code (xY 154) (xB 154) (xmx 154) (xrt 154) ∈ lw_tbl := List.mem_of_getElem? (i := 1249) rfl
set_option maxRecDepth 100000 in
theorem xco_155 : Cond.code (xY 155) (xB 155) (xmx 155) (xrt 155) ∈ lw_tbl := List.mem_of_getElem? (i := 1265) rfl
set_option maxRecDepth 100000 in
theorem xco_156 : Cond.code (xY 156) (xB 156) (xmx 156) (xrt 156) ∈ lw_tbl := List.mem_of_getElem? (i := 1269) rfl
set_option maxRecDepth 100000 in
theorem xco_157 : Cond.code (xY 157) (xB 157) (xmx 157) (xrt 157) ∈ lw_tbl := List.mem_of_getElem? (i := 1285) rfl
set_option maxRecDepth 100000 in
theorem xco_158 : Cond.code (xY 158) (xB 158) (xmx 158) (xrt 158) ∈ lw_tbl := List.mem_of_getElem? (i := 1281) rfl
set_option maxRecDepth 100000 in
theorem xco_159 : Cond.code (xY 159) (xB 159) (xmx 159) (xrt 159) ∈ lw_tbl := List.mem_of_getElem? (i := 1289) rfl
set_option maxRecDepth 100000 in
theorem xco_160 : Cond.code (xY 160) (xB 160) (xmx 160) (xrt 160) ∈ lw_tbl := List.mem_of_getElem? (i := 1277) rfl
set_option maxRecDepth 100000 in
theorem xco_161 : Cond.code (xY 161) (xB 161) (xmx 161) (xrt 161) ∈ lw_tbl := List.mem_of_getElem? (i := 1273) rfl
set_option maxRecDepth 100000 in
theorem xco_162 : Cond.code (xY 162) (xB 162) (xmx 162) (xrt 162) ∈ lw_tbl := List.mem_of_getElem? (i := 1293) rfl
set_option maxRecDepth 100000 in
theorem xco_163 : Cond.code (xY 163) (xB 163) (xmx 163) (xrt 163) ∈ lw_tbl := List.mem_of_getElem? (i := 1297) rfl
set_option maxRecDepth 100000 in
theorem xco_all : ∀ m ∈ [0, 1, 2, 3, 4, 5, 6, 7, 8, 9, 10, 11, 12, 13, 14, 15, 16, 17, 18, 19, 20, 21, 22, 23, 24, 25, 26, 27, 28, 29, 30, 31, 32, 33, 34, 35, 36, 37, 38, 39, 40, 41, 42, 43, 44, 45, 46, 47, 48, 49, 50, 51, 52, 53, 54, 55, 56, 57, 58, 59, 60, 61, 62, 63, 64, 65, 66, 67, 68, 69, 70, 71, 72, 73, 74, 75, 76, 77, 78, 79, 80, 81, 82, 83, 84, 85, 86, 87, 88, 89, 90, 91, 92, 93, 94, 95, 96, 97, 98, 99, 100, 101, 102, 103, 104, 105, 106, 107, 108, 109, 110, 111, 112, 113, 114, 115, 116, 117, 118, 119, 120, 121, 122, 123, 124, 125, 126, 127, 128, 129, 130, 131, 132, 133, 134, 135, 136, 137, 138, 139, 140, 141, 142, 143, 144, 145, 146, 147, 148, 149, 150, 151, 152, 153, 154, 155, 156, 157, 158, 159, 160, 161, 162, 163], Cond.code (xY m) (xB m) (xmx m) (xrt m) ∈ lw_tbl := List.forall_mem_cons.mpr ⟨xco_0, List.forall_mem_cons.mpr ⟨xco_1, List.forall_mem_cons.mpr ⟨xco_2, List.forall_mem_cons.mpr ⟨xco_3, List.forall_mem_cons.mpr ⟨xco_4, List.forall_mem_cons.mpr ⟨xco_5, List.forall_mem_cons.mpr ⟨xco_6, List.forall_mem_cons.mpr ⟨xco_7, List.forall_mem_cons.mpr ⟨xco_8, List.forall_mem_cons.mpr ⟨xco_9, List.forall_mem_cons.mpr ⟨xco_10, List.forall_mem_cons.mpr ⟨xco_11, List.forall_mem_cons.mpr ⟨xco_12, List.forall_mem_cons.mpr ⟨xco_13, List.forall_mem_cons.mpr ⟨xco_14, List.forall_mem_cons.mpr ⟨xco_15, List.forall_mem_cons.mpr ⟨xco_16, List.forall_mem_cons.mpr ⟨xco_17, List.forall_mem_cons.mpr ⟨xco_18, List.forall_mem_cons.mpr ⟨xco_19, List.forall_mem_cons.mpr ⟨xco_20, List.forall_mem_cons.mpr ⟨xco_21, List.forall_mem_cons.mpr ⟨xco_22, List.forall_mem_cons.mpr ⟨xco_23, List.forall_mem_cons.mpr ⟨xco_24, List.forall_mem_cons.mpr ⟨xco_25, List.forall_mem_cons.mpr ⟨xco_26, List.forall_mem_cons.mpr ⟨xco_27, List.forall_mem_cons.mpr ⟨xco_28, List.forall_mem_cons.mpr ⟨xco_29, List.forall_mem_cons.mpr ⟨xco_30, List.forall_mem_cons.mpr ⟨xco_31, List.forall_mem_cons.mpr ⟨xco_32, List.forall_mem_cons.mpr ⟨xco_33, List.forall_mem_cons.mpr ⟨xco_34, List.forall_mem_cons.mpr ⟨xco_35, List.forall_mem_cons.mpr ⟨xco_36, List.forall_mem_cons.mpr ⟨xco_37, List.forall_mem_cons.mpr ⟨xco_38, List.forall_mem_cons.mpr ⟨xco_39, List.forall_mem_cons.mpr ⟨xco_40, List.forall_mem_cons.mpr ⟨xco_41, List.forall_mem_cons.mpr ⟨xco_42, List.forall_mem_cons.mpr ⟨xco_43, List.forall_mem_cons.mpr ⟨xco_44, List.forall_mem_cons.mpr ⟨xco_45, List.forall_mem_cons.mpr ⟨xco_46, List.forall_mem_cons.mpr ⟨xco_47, List.forall_mem_cons.mpr ⟨xco_48, List.forall_mem_cons.mpr ⟨xco_49, List.forall_mem_cons.mpr ⟨xco_50, List.forall_mem_cons.mpr ⟨xco_51, List.forall_mem_cons.mpr ⟨xco_52, List.forall_mem_cons.mpr ⟨xco_53, List.forall_mem_cons.mpr ⟨xco_54, List.forall_mem_cons.mpr ⟨xco_55, List.forall_mem_cons.mpr ⟨xco_56, List.forall_mem_cons.mpr ⟨xco_57, List.forall_mem_cons.mpr ⟨xco_58, List.forall_mem_cons.mpr ⟨xco_59, List.forall_mem_cons.mpr ⟨xco_60, List.forall_mem_cons.mpr ⟨xco_61, List.forall_mem_cons.mpr ⟨xco_62, List.forall_mem_cons.mpr ⟨xco_63, List.forall_mem_cons.mpr ⟨xco_64, List.forall_mem_cons.mpr ⟨xco_65, List.forall_mem_cons.mpr ⟨xco_66, List.forall_mem_cons.mpr ⟨xco_67, List.forall_mem_cons.mpr ⟨xco_68, List.forall_mem_cons.mpr ⟨xco_69, List.forall_mem_cons.mpr ⟨xco_70, List.forall_mem_cons.mpr ⟨xco_71, List.forall_mem_cons.mpr ⟨xco_72, List.forall_mem_cons.mpr ⟨xco_73, List.forall_mem_cons.mpr ⟨xco_74, List.forall_mem_cons.mpr ⟨xco_75, List.forall_mem_cons.mpr ⟨xco_76, List.forall_mem_cons.mpr ⟨xco_77, List.forall_mem_cons.mpr ⟨xco_78, List.forall_mem_cons.mpr ⟨xco_79, List.forall_mem_cons.mpr ⟨xco_80, List.forall_mem_cons.mpr ⟨xco_81, List.forall_mem_cons.mpr ⟨xco_82, List.forall_mem_cons.mpr ⟨xco_83, List.forall_mem_cons.mpr ⟨xco_84, List.forall_mem_cons.mpr ⟨xco_85, List.forall_mem_cons.mpr ⟨xco_86, List.forall_mem_cons.mpr ⟨xco_87, List.forall_mem_cons.mpr ⟨xco_88, List.forall_mem_cons.mpr ⟨xco_89, List.forall_mem_cons.mpr ⟨xco_90, List.forall_mem_cons.mpr ⟨xco_91, List.forall_mem_cons.mpr ⟨xco_92, List.forall_mem_cons.mpr ⟨xco_93, List.forall_mem_cons.mpr ⟨xco_94, List.forall_mem_cons.mpr ⟨xco_95, List.forall_mem_cons.mpr ⟨xco_96, List.forall_mem_cons.mpr ⟨xco_97, List.forall_mem_cons.mpr ⟨xco_98, List.forall_mem_cons.mpr ⟨xco_99, List.forall_mem_cons.mpr ⟨xco_100, List.forall_mem_cons.mpr ⟨xco_101, List.forall_mem_cons.mpr ⟨xco_102, List.forall_mem_cons.mpr ⟨xco_103, List.forall_mem_cons.mpr ⟨xco_104, List.forall_mem_cons.mpr ⟨xco_105, List.forall_mem_cons.mpr ⟨xco_106, List.forall_mem_cons.mpr ⟨xco_107, List.forall_mem_cons.mpr ⟨xco_108, List.forall_mem_cons.mpr ⟨xco_109, List.forall_mem_cons.mpr ⟨xco_110, List.forall_mem_cons.mpr ⟨xco_111, List.forall_mem_cons.mpr ⟨xco_112, List.forall_mem_cons.mpr ⟨xco_113, List.forall_mem_cons.mpr ⟨xco_114, List.forall_mem_cons.mpr ⟨xco_115, List.forall_mem_cons.mpr ⟨xco_116, List.forall_mem_cons.mpr ⟨xco_117, List.forall_mem_cons.mpr ⟨xco_118, List.forall_mem_cons.mpr ⟨xco_119, List.forall_mem_cons.mpr ⟨xco_120, List.forall_mem_cons.mpr ⟨xco_121, List.forall_mem_cons.mpr ⟨xco_122, List.forall_mem_cons.mpr ⟨xco_123, List.forall_mem_cons.mpr ⟨xco_124, List.forall_mem_cons.mpr ⟨xco_125, List.forall_mem_cons.mpr ⟨xco_126, List.forall_mem_cons.mpr ⟨xco_127, List.forall_mem_cons.mpr ⟨xco_128, List.forall_mem_cons.mpr ⟨xco_129, List.forall_mem_cons.mpr ⟨xco_130, List.forall_mem_cons.mpr ⟨xco_131, List.forall_mem_cons.mpr ⟨xco_132, List.forall_mem_cons.mpr ⟨xco_133, List.forall_mem_cons.mpr ⟨xco_134, List.forall_mem_cons.mpr ⟨xco_135, List.forall_mem_cons.mpr ⟨xco_136, List.forall_mem_cons.mpr ⟨xco_137, List.forall_mem_cons.mpr ⟨xco_138, List.forall_mem_cons.mpr ⟨xco_139, List.forall_mem_cons.mpr ⟨xco_140, List.forall_mem_cons.mpr ⟨xco_141, List.forall_mem_cons.mpr ⟨xco_142, List.forall_mem_cons.mpr ⟨xco_143, List.forall_mem_cons.mpr ⟨xco_144, List.forall_mem_cons.mpr ⟨xco_145, List.forall_mem_cons.mpr ⟨xco_146, List.forall_mem_cons.mpr ⟨xco_147, List.forall_mem_cons.mpr ⟨xco_148, List.forall_mem_cons.mpr ⟨xco_149, List.forall_mem_cons.mpr ⟨xco_150, List.forall_mem_cons.mpr ⟨xco_151, List.forall_mem_cons.mpr ⟨xco_152, List.forall_mem_cons.mpr ⟨xco_153, List.forall_mem_cons.mpr ⟨xco_154, List.forall_mem_cons.mpr ⟨xco_155, List.forall_mem_cons.mpr ⟨xco_156, List.forall_mem_cons.mpr ⟨xco_157, List.forall_mem_cons.mpr ⟨xco_158, List.forall_mem_cons.mpr ⟨xco_159, List.forall_mem_cons.mpr ⟨xco_160, List.forall_mem_cons.mpr ⟨xco_161, List.forall_mem_cons.mpr ⟨xco_162, List.forall_mem_cons.mpr ⟨xco_163, fun _ h => absurd h List.not_mem_nil⟩⟩⟩⟩⟩⟩⟩⟩⟩⟩⟩⟩⟩⟩⟩⟩⟩⟩⟩⟩⟩⟩⟩⟩⟩⟩⟩⟩⟩⟩⟩⟩⟩⟩⟩⟩⟩⟩⟩⟩⟩⟩⟩⟩⟩⟩⟩⟩⟩⟩⟩⟩⟩⟩⟩⟩⟩⟩⟩⟩⟩⟩⟩⟩⟩⟩⟩⟩⟩⟩⟩⟩⟩⟩⟩⟩⟩⟩⟩⟩⟩⟩⟩⟩⟩⟩⟩⟩⟩⟩⟩⟩⟩⟩⟩⟩⟩⟩⟩⟩⟩⟩⟩⟩⟩⟩⟩⟩⟩⟩⟩⟩⟩⟩⟩⟩⟩⟩⟩⟩⟩⟩⟩⟩⟩⟩⟩⟩⟩⟩⟩⟩⟩⟩⟩⟩⟩⟩⟩⟩⟩⟩⟩⟩⟩⟩⟩⟩⟩⟩⟩⟩⟩⟩⟩⟩⟩⟩⟩⟩⟩⟩⟩⟩
set_option maxRecDepth 100000 in
theorem xco {m : Nat} (h : m ≤ 163) : Cond.code (xY m) (xB m) (xmx m) (xrt m) ∈ lw_tbl := xco_all m (List.mem_range.mpr (Nat.lt_succ_of_le h))
