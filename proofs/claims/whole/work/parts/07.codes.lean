/-! the words of the methods' codes, by their places -/
set_option maxRecDepth 100000 in
theorem cd_0 : at? 210 = some (Cond.code (ymn 0) (cod 0) (mxl 0) (rty 0)) := rfl
set_option maxRecDepth 100000 in
theorem cd_1 : at? 853 = some (Cond.code (ymn 1) (cod 1) (mxl 1) (rty 1)) := rfl
set_option maxRecDepth 100000 in
theorem cd_2 : at? 847 = some (Cond.code (ymn 2) (cod 2) (mxl 2) (rty 2)) := rfl
set_option maxRecDepth 100000 in
theorem cd_3 : at? 1050 = some (Cond.code (ymn 3) (cod 3) (mxl 3) (rty 3)) := rfl
set_option maxRecDepth 100000 in
theorem cd_4 : at? 1008 = some (Cond.code (ymn 4) (cod 4) (mxl 4) (rty 4)) := rfl
set_option maxRecDepth 100000 in
theorem cd_5 : at? 1012 = some (Cond.code (ymn 5) (cod 5) (mxl 5) (rty 5)) := rfl
set_option maxRecDepth 100000 in
theorem cd_6 : at? 955 = some (Cond.code (ymn 6) (cod 6) (mxl 6) (rty 6)) := rfl
set_option maxRecDepth 100000 in
theorem cd_7 : at? 960 = some (Cond.code (ymn 7) (cod 7) (mxl 7) (rty 7)) := rfl
set_option maxRecDepth 100000 in
theorem cd_8 : at? 266 = some (Cond.code (ymn 8) (cod 8) (mxl 8) (rty 8)) := rfl
set_option maxRecDepth 100000 in
theorem cd_9 : at? 470 = some (Cond.code (ymn 9) (cod 9) (mxl 9) (rty 9)) := rfl
set_option maxRecDepth 100000 in
theorem cd_10 : at? 946 = some (Cond.code (ymn 10) (cod 10) (mxl 10) (rty 10)) := rfl
set_option maxRecDepth 100000 in
theorem cd_11 : at? 929 = some (Cond.code (ymn 11) (cod 11) (mxl 11) (rty 11)) := rfl
set_option maxRecDepth 100000 in
theorem cd_12 : at? 123 = some (Cond.code (ymn 12) (cod 12) (mxl 12) (rty 12)) := rfl
set_option maxRecDepth 100000 in
theorem cd_13 : at? 639 = some (Cond.code (ymn 13) (cod 13) (mxl 13) (rty 13)) := rfl
set_option maxRecDepth 100000 in
theorem cd_14 : at? 648 = some (Cond.code (ymn 14) (cod 14) (mxl 14) (rty 14)) := rfl
set_option maxRecDepth 100000 in
theorem cd_15 : at? 652 = some (Cond.code (ymn 15) (cod 15) (mxl 15) (rty 15)) := rfl
set_option maxRecDepth 100000 in
theorem cd_16 : at? 681 = some (Cond.code (ymn 16) (cod 16) (mxl 16) (rty 16)) := rfl
set_option maxRecDepth 100000 in
theorem cd_17 : at? 673 = some (Cond.code (ymn 17) (cod 17) (mxl 17) (rty 17)) := rfl
set_option maxRecDepth 100000 in
theorem cd_18 : at? 755 = some (Cond.code (ymn 18) (cod 18) (mxl 18) (rty 18)) := rfl
set_option maxRecDepth 100000 in
theorem cd_19 : at? 762 = some (Cond.code (ymn 19) (cod 19) (mxl 19) (rty 19)) := rfl
set_option maxRecDepth 100000 in
theorem cd_20 : at? 216 = some (Cond.code (ymn 20) (cod 20) (mxl 20) (rty 20)) := rfl
set_option maxRecDepth 100000 in
theorem cd_21 : at? 788 = some (Cond.code (ymn 21) (cod 21) (mxl 21) (rty 21)) := rfl
set_option maxRecDepth 100000 in
theorem cd_22 : at? 1028 = some (Cond.code (ymn 22) (cod 22) (mxl 22) (rty 22)) := rfl
set_option maxRecDepth 100000 in
theorem cd_23 : at? 776 = some (Cond.code (ymn 23) (cod 23) (mxl 23) (rty 23)) := rfl
set_option maxRecDepth 100000 in
theorem cd_24 : at? 335 = some (Cond.code (ymn 24) (cod 24) (mxl 24) (rty 24)) := rfl
set_option maxRecDepth 100000 in
theorem cd_25 : at? 834 = some (Cond.code (ymn 25) (cod 25) (mxl 25) (rty 25)) := rfl
set_option maxRecDepth 100000 in
theorem cd_26 : at? 842 = some (Cond.code (ymn 26) (cod 26) (mxl 26) (rty 26)) := rfl
set_option maxRecDepth 100000 in
theorem cd_27 : at? 910 = some (Cond.code (ymn 27) (cod 27) (mxl 27) (rty 27)) := rfl
set_option maxRecDepth 100000 in
theorem cd_28 : at? 865 = some (Cond.code (ymn 28) (cod 28) (mxl 28) (rty 28)) := rfl
set_option maxRecDepth 100000 in
theorem cd_29 : at? 103 = some (Cond.code (ymn 29) (cod 29) (mxl 29) (rty 29)) := rfl
set_option maxRecDepth 100000 in
theorem cd_30 : at? 701 = some (Cond.code (ymn 30) (cod 30) (mxl 30) (rty 30)) := rfl
set_option maxRecDepth 100000 in
theorem cd_31 : at? 974 = some (Cond.code (ymn 31) (cod 31) (mxl 31) (rty 31)) := rfl
set_option maxRecDepth 100000 in
theorem cd_32 : at? 978 = some (Cond.code (ymn 32) (cod 32) (mxl 32) (rty 32)) := rfl
set_option maxRecDepth 100000 in
theorem cd_33 : at? 350 = some (Cond.code (ymn 33) (cod 33) (mxl 33) (rty 33)) := rfl
set_option maxRecDepth 100000 in
theorem cd_34 : at? 46 = some (Cond.code (ymn 34) (cod 34) (mxl 34) (rty 34)) := rfl
set_option maxRecDepth 100000 in
theorem cd_35 : at? 505 = some (Cond.code (ymn 35) (cod 35) (mxl 35) (rty 35)) := rfl
set_option maxRecDepth 100000 in
theorem cd_36 : at? 521 = some (Cond.code (ymn 36) (cod 36) (mxl 36) (rty 36)) := rfl
set_option maxRecDepth 100000 in
theorem cd_37 : at? 644 = some (Cond.code (ymn 37) (cod 37) (mxl 37) (rty 37)) := rfl
set_option maxRecDepth 100000 in
theorem cd_38 : at? 630 = some (Cond.code (ymn 38) (cod 38) (mxl 38) (rty 38)) := rfl
set_option maxRecDepth 100000 in
theorem cd_39 : at? 525 = some (Cond.code (ymn 39) (cod 39) (mxl 39) (rty 39)) := rfl
set_option maxRecDepth 100000 in
theorem cd_40 : at? 616 = some (Cond.code (ymn 40) (cod 40) (mxl 40) (rty 40)) := rfl
set_option maxRecDepth 100000 in
theorem cd_41 : at? 623 = some (Cond.code (ymn 41) (cod 41) (mxl 41) (rty 41)) := rfl
set_option maxRecDepth 100000 in
theorem cd_42 : at? 533 = some (Cond.code (ymn 42) (cod 42) (mxl 42) (rty 42)) := rfl
set_option maxRecDepth 100000 in
theorem cd_43 : at? 564 = some (Cond.code (ymn 43) (cod 43) (mxl 43) (rty 43)) := rfl
set_option maxRecDepth 100000 in
theorem cd_44 : at? 528 = some (Cond.code (ymn 44) (cod 44) (mxl 44) (rty 44)) := rfl
set_option maxRecDepth 100000 in
theorem cd_45 : at? 619 = some (Cond.code (ymn 45) (cod 45) (mxl 45) (rty 45)) := rfl
set_option maxRecDepth 100000 in
theorem cd_46 : at? 626 = some (Cond.code (ymn 46) (cod 46) (mxl 46) (rty 46)) := rfl
set_option maxRecDepth 100000 in
theorem cd_47 : at? 536 = some (Cond.code (ymn 47) (cod 47) (mxl 47) (rty 47)) := rfl
set_option maxRecDepth 100000 in
theorem cd_48 : at? 40 = some (Cond.code (ymn 48) (cod 48) (mxl 48) (rty 48)) := rfl
set_option maxRecDepth 100000 in
theorem cd_49 : at? 517 = some (Cond.code (ymn 49) (cod 49) (mxl 49) (rty 49)) := rfl
set_option maxRecDepth 100000 in
theorem cd_50 : at? 685 = some (Cond.code (ymn 50) (cod 50) (mxl 50) (rty 50)) := rfl
set_option maxRecDepth 100000 in
theorem cd_51 : at? 706 = some (Cond.code (ymn 51) (cod 51) (mxl 51) (rty 51)) := rfl
set_option maxRecDepth 100000 in
theorem cd_52 : at? 730 = some (Cond.code (ymn 52) (cod 52) (mxl 52) (rty 52)) := rfl
set_option maxRecDepth 100000 in
theorem cd_53 : at? 635 = some (Cond.code (ymn 53) (cod 53) (mxl 53) (rty 53)) := rfl
set_option maxRecDepth 100000 in
theorem cd_54 : at? 657 = some (Cond.code (ymn 54) (cod 54) (mxl 54) (rty 54)) := rfl
set_option maxRecDepth 100000 in
theorem cd_55 : at? 661 = some (Cond.code (ymn 55) (cod 55) (mxl 55) (rty 55)) := rfl
set_option maxRecDepth 100000 in
theorem cd_56 : at? 677 = some (Cond.code (ymn 56) (cod 56) (mxl 56) (rty 56)) := rfl
set_option maxRecDepth 100000 in
theorem cd_57 : at? 665 = some (Cond.code (ymn 57) (cod 57) (mxl 57) (rty 57)) := rfl
set_option maxRecDepth 100000 in
theorem cd_58 : at? 669 = some (Cond.code (ymn 58) (cod 58) (mxl 58) (rty 58)) := rfl
set_option maxRecDepth 100000 in
theorem cd_59 : at? 697 = some (Cond.code (ymn 59) (cod 59) (mxl 59) (rty 59)) := rfl
set_option maxRecDepth 100000 in
theorem cd_60 : at? 689 = some (Cond.code (ymn 60) (cod 60) (mxl 60) (rty 60)) := rfl
set_option maxRecDepth 100000 in
theorem cd_61 : at? 693 = some (Cond.code (ymn 61) (cod 61) (mxl 61) (rty 61)) := rfl
set_option maxRecDepth 100000 in
theorem cd_62 : at? 710 = some (Cond.code (ymn 62) (cod 62) (mxl 62) (rty 62)) := rfl
set_option maxRecDepth 100000 in
theorem cd_63 : at? 722 = some (Cond.code (ymn 63) (cod 63) (mxl 63) (rty 63)) := rfl
set_option maxRecDepth 100000 in
theorem cd_64 : at? 151 = some (Cond.code (ymn 64) (cod 64) (mxl 64) (rty 64)) := rfl
set_option maxRecDepth 100000 in
theorem cd_65 : at? 714 = some (Cond.code (ymn 65) (cod 65) (mxl 65) (rty 65)) := rfl
set_option maxRecDepth 100000 in
theorem cd_66 : at? 718 = some (Cond.code (ymn 66) (cod 66) (mxl 66) (rty 66)) := rfl
set_option maxRecDepth 100000 in
theorem cd_67 : at? 726 = some (Cond.code (ymn 67) (cod 67) (mxl 67) (rty 67)) := rfl
set_option maxRecDepth 100000 in
theorem cd_68 : at? 386 = some (Cond.code (ymn 68) (cod 68) (mxl 68) (rty 68)) := rfl
set_option maxRecDepth 100000 in
theorem cd_69 : at? 1037 = some (Cond.code (ymn 69) (cod 69) (mxl 69) (rty 69)) := rfl
set_option maxRecDepth 100000 in
theorem cd_70 : at? 26 = some (Cond.code (ymn 70) (cod 70) (mxl 70) (rty 70)) := rfl
set_option maxRecDepth 100000 in
theorem cd_71 : at? 463 = some (Cond.code (ymn 71) (cod 71) (mxl 71) (rty 71)) := rfl
set_option maxRecDepth 100000 in
theorem cd_72 : at? 474 = some (Cond.code (ymn 72) (cod 72) (mxl 72) (rty 72)) := rfl
set_option maxRecDepth 100000 in
theorem cd_73 : at? 482 = some (Cond.code (ymn 73) (cod 73) (mxl 73) (rty 73)) := rfl
set_option maxRecDepth 100000 in
theorem cd_74 : at? 489 = some (Cond.code (ymn 74) (cod 74) (mxl 74) (rty 74)) := rfl
set_option maxRecDepth 100000 in
theorem cd_75 : at? 497 = some (Cond.code (ymn 75) (cod 75) (mxl 75) (rty 75)) := rfl
set_option maxRecDepth 100000 in
theorem cd_76 : at? 501 = some (Cond.code (ymn 76) (cod 76) (mxl 76) (rty 76)) := rfl
set_option maxRecDepth 100000 in
theorem cd_77 : at? 509 = some (Cond.code (ymn 77) (cod 77) (mxl 77) (rty 77)) := rfl
set_option maxRecDepth 100000 in
theorem cd_78 : at? 513 = some (Cond.code (ymn 78) (cod 78) (mxl 78) (rty 78)) := rfl
set_option maxRecDepth 100000 in
theorem cd_79 : at? 735 = some (Cond.code (ymn 79) (cod 79) (mxl 79) (rty 79)) := rfl
set_option maxRecDepth 100000 in
theorem cd_80 : at? 739 = some (Cond.code (ymn 80) (cod 80) (mxl 80) (rty 80)) := rfl
set_option maxRecDepth 100000 in
theorem cd_81 : at? 780 = some (Cond.code (ymn 81) (cod 81) (mxl 81) (rty 81)) := rfl
set_option maxRecDepth 100000 in
theorem cd_82 : at? 804 = some (Cond.code (ymn 82) (cod 82) (mxl 82) (rty 82)) := rfl
set_option maxRecDepth 100000 in
theorem cd_83 : at? 812 = some (Cond.code (ymn 83) (cod 83) (mxl 83) (rty 83)) := rfl
set_option maxRecDepth 100000 in
theorem cd_84 : at? 827 = some (Cond.code (ymn 84) (cod 84) (mxl 84) (rty 84)) := rfl
set_option maxRecDepth 100000 in
theorem cd_85 : at? 858 = some (Cond.code (ymn 85) (cod 85) (mxl 85) (rty 85)) := rfl
set_option maxRecDepth 100000 in
theorem cd_86 : at? 890 = some (Cond.code (ymn 86) (cod 86) (mxl 86) (rty 86)) := rfl
set_option maxRecDepth 100000 in
theorem cd_87 : at? 898 = some (Cond.code (ymn 87) (cod 87) (mxl 87) (rty 87)) := rfl
set_option maxRecDepth 100000 in
theorem cd_88 : at? 902 = some (Cond.code (ymn 88) (cod 88) (mxl 88) (rty 88)) := rfl
set_option maxRecDepth 100000 in
theorem cd_89 : at? 906 = some (Cond.code (ymn 89) (cod 89) (mxl 89) (rty 89)) := rfl
set_option maxRecDepth 100000 in
theorem cd_90 : at? 925 = some (Cond.code (ymn 90) (cod 90) (mxl 90) (rty 90)) := rfl
set_option maxRecDepth 100000 in
theorem cd_91 : at? 938 = some (Cond.code (ymn 91) (cod 91) (mxl 91) (rty 91)) := rfl
set_option maxRecDepth 100000 in
theorem cd_92 : at? 970 = some (Cond.code (ymn 92) (cod 92) (mxl 92) (rty 92)) := rfl
set_option maxRecDepth 100000 in
theorem cd_93 : at? 985 = some (Cond.code (ymn 93) (cod 93) (mxl 93) (rty 93)) := rfl
set_option maxRecDepth 100000 in
theorem cd_94 : at? 994 = some (Cond.code (ymn 94) (cod 94) (mxl 94) (rty 94)) := rfl
set_option maxRecDepth 100000 in
theorem cd_95 : at? 1016 = some (Cond.code (ymn 95) (cod 95) (mxl 95) (rty 95)) := rfl
set_option maxRecDepth 100000 in
theorem cd_96 : at? 1020 = some (Cond.code (ymn 96) (cod 96) (mxl 96) (rty 96)) := rfl
set_option maxRecDepth 100000 in
theorem cd_97 : at? 1041 = some (Cond.code (ymn 97) (cod 97) (mxl 97) (rty 97)) := rfl
set_option maxRecDepth 100000 in
theorem cd_98 : at? 1066 = some (Cond.code (ymn 98) (cod 98) (mxl 98) (rty 98)) := rfl
set_option maxRecDepth 100000 in
theorem cd_99 : at? 1086 = some (Cond.code (ymn 99) (cod 99) (mxl 99) (rty 99)) := rfl
set_option maxRecDepth 100000 in
theorem cd_100 : at? 1090 = some (Cond.code (ymn 100) (cod 100) (mxl 100) (rty 100)) := rfl
set_option maxRecDepth 100000 in
theorem cd_101 : at? 1103 = some (Cond.code (ymn 101) (cod 101) (mxl 101) (rty 101)) := rfl
set_option maxRecDepth 100000 in
theorem cd_102 : at? 466 = some (Cond.code (ymn 102) (cod 102) (mxl 102) (rty 102)) := rfl
set_option maxRecDepth 100000 in
theorem cd_103 : at? 966 = some (Cond.code (ymn 103) (cod 103) (mxl 103) (rty 103)) := rfl
set_option maxRecDepth 100000 in
theorem cd_104 : at? 478 = some (Cond.code (ymn 104) (cod 104) (mxl 104) (rty 104)) := rfl
set_option maxRecDepth 100000 in
theorem cd_105 : at? 493 = some (Cond.code (ymn 105) (cod 105) (mxl 105) (rty 105)) := rfl
set_option maxRecDepth 100000 in
theorem cd_106 : at? 808 = some (Cond.code (ymn 106) (cod 106) (mxl 106) (rty 106)) := rfl
set_option maxRecDepth 100000 in
theorem cd_107 : at? 894 = some (Cond.code (ymn 107) (cod 107) (mxl 107) (rty 107)) := rfl
set_option maxRecDepth 100000 in
theorem cd_108 : at? 1070 = some (Cond.code (ymn 108) (cod 108) (mxl 108) (rty 108)) := rfl
set_option maxRecDepth 100000 in
theorem cd_109 : at? 784 = some (Cond.code (ymn 109) (cod 109) (mxl 109) (rty 109)) := rfl
set_option maxRecDepth 100000 in
theorem cd_110 : at? 830 = some (Cond.code (ymn 110) (cod 110) (mxl 110) (rty 110)) := rfl
set_option maxRecDepth 100000 in
theorem cd_111 : at? 861 = some (Cond.code (ymn 111) (cod 111) (mxl 111) (rty 111)) := rfl
set_option maxRecDepth 100000 in
theorem cd_112 : at? 751 = some (Cond.code (ymn 112) (cod 112) (mxl 112) (rty 112)) := rfl
set_option maxRecDepth 100000 in
theorem cd_113 : at? 820 = some (Cond.code (ymn 113) (cod 113) (mxl 113) (rty 113)) := rfl
set_option maxRecDepth 100000 in
theorem cd_114 : at? 747 = some (Cond.code (ymn 114) (cod 114) (mxl 114) (rty 114)) := rfl
set_option maxRecDepth 100000 in
theorem cd_115 : at? 816 = some (Cond.code (ymn 115) (cod 115) (mxl 115) (rty 115)) := rfl
set_option maxRecDepth 100000 in
theorem cd_116 : at? 874 = some (Cond.code (ymn 116) (cod 116) (mxl 116) (rty 116)) := rfl
set_option maxRecDepth 100000 in
theorem cd_117 : at? 878 = some (Cond.code (ymn 117) (cod 117) (mxl 117) (rty 117)) := rfl
set_option maxRecDepth 100000 in
theorem cd_118 : at? 792 = some (Cond.code (ymn 118) (cod 118) (mxl 118) (rty 118)) := rfl
set_option maxRecDepth 100000 in
theorem cd_119 : at? 796 = some (Cond.code (ymn 119) (cod 119) (mxl 119) (rty 119)) := rfl
set_option maxRecDepth 100000 in
theorem cd_120 : at? 743 = some (Cond.code (ymn 120) (cod 120) (mxl 120) (rty 120)) := rfl
set_option maxRecDepth 100000 in
theorem cd_121 : at? 882 = some (Cond.code (ymn 121) (cod 121) (mxl 121) (rty 121)) := rfl
set_option maxRecDepth 100000 in
theorem cd_122 : at? 914 = some (Cond.code (ymn 122) (cod 122) (mxl 122) (rty 122)) := rfl
set_option maxRecDepth 100000 in
theorem cd_123 : at? 918 = some (Cond.code (ymn 123) (cod 123) (mxl 123) (rty 123)) := rfl
set_option maxRecDepth 100000 in
theorem cd_124 : at? 799 = some (Cond.code (ymn 124) (cod 124) (mxl 124) (rty 124)) := rfl
set_option maxRecDepth 100000 in
theorem cd_125 : at? 823 = some (Cond.code (ymn 125) (cod 125) (mxl 125) (rty 125)) := rfl
set_option maxRecDepth 100000 in
theorem cd_126 : at? 934 = some (Cond.code (ymn 126) (cod 126) (mxl 126) (rty 126)) := rfl
set_option maxRecDepth 100000 in
theorem cd_127 : at? 838 = some (Cond.code (ymn 127) (cod 127) (mxl 127) (rty 127)) := rfl
set_option maxRecDepth 100000 in
theorem cd_128 : at? 870 = some (Cond.code (ymn 128) (cod 128) (mxl 128) (rty 128)) := rfl
set_option maxRecDepth 100000 in
theorem cd_129 : at? 989 = some (Cond.code (ymn 129) (cod 129) (mxl 129) (rty 129)) := rfl
set_option maxRecDepth 100000 in
theorem cd_130 : at? 998 = some (Cond.code (ymn 130) (cod 130) (mxl 130) (rty 130)) := rfl
set_option maxRecDepth 100000 in
theorem cd_131 : at? 942 = some (Cond.code (ymn 131) (cod 131) (mxl 131) (rty 131)) := rfl
set_option maxRecDepth 100000 in
theorem cd_132 : at? 951 = some (Cond.code (ymn 132) (cod 132) (mxl 132) (rty 132)) := rfl
set_option maxRecDepth 100000 in
theorem cd_133 : at? 1024 = some (Cond.code (ymn 133) (cod 133) (mxl 133) (rty 133)) := rfl
set_option maxRecDepth 100000 in
theorem cd_134 : at? 1033 = some (Cond.code (ymn 134) (cod 134) (mxl 134) (rty 134)) := rfl
set_option maxRecDepth 100000 in
theorem cd_135 : at? 1046 = some (Cond.code (ymn 135) (cod 135) (mxl 135) (rty 135)) := rfl
set_option maxRecDepth 100000 in
theorem cd_136 : at? 1054 = some (Cond.code (ymn 136) (cod 136) (mxl 136) (rty 136)) := rfl
set_option maxRecDepth 100000 in
theorem cd_137 : at? 1058 = some (Cond.code (ymn 137) (cod 137) (mxl 137) (rty 137)) := rfl
set_option maxRecDepth 100000 in
theorem cd_138 : at? 1062 = some (Cond.code (ymn 138) (cod 138) (mxl 138) (rty 138)) := rfl
set_option maxRecDepth 100000 in
theorem cd_139 : at? 886 = some (Cond.code (ymn 139) (cod 139) (mxl 139) (rty 139)) := rfl
set_option maxRecDepth 100000 in
theorem cd_140 : at? 1078 = some (Cond.code (ymn 140) (cod 140) (mxl 140) (rty 140)) := rfl
set_option maxRecDepth 100000 in
theorem cd_141 : at? 1074 = some (Cond.code (ymn 141) (cod 141) (mxl 141) (rty 141)) := rfl
set_option maxRecDepth 100000 in
theorem cd_142 : at? 1082 = some (Cond.code (ymn 142) (cod 142) (mxl 142) (rty 142)) := rfl
set_option maxRecDepth 100000 in
theorem cd_143 : at? 1094 = some (Cond.code (ymn 143) (cod 143) (mxl 143) (rty 143)) := rfl
set_option maxRecDepth 100000 in
theorem cd_144 : at? 1098 = some (Cond.code (ymn 144) (cod 144) (mxl 144) (rty 144)) := rfl
set_option maxRecDepth 100000 in
theorem cd_145 : at? 1108 = some (Cond.code (ymn 145) (cod 145) (mxl 145) (rty 145)) := rfl
set_option maxRecDepth 100000 in
theorem cd_146 : at? 1403 = some (Cond.code (ymn 146) (cod 146) (mxl 146) (rty 146)) := rfl
set_option maxRecDepth 100000 in
theorem cd_147 : at? 1411 = some (Cond.code (ymn 147) (cod 147) (mxl 147) (rty 147)) := rfl
set_option maxRecDepth 100000 in
theorem cd_148 : at? 1422 = some (Cond.code (ymn 148) (cod 148) (mxl 148) (rty 148)) := rfl
set_option maxRecDepth 100000 in
theorem cd_149 : at? 1400 = some (Cond.code (ymn 149) (cod 149) (mxl 149) (rty 149)) := rfl
set_option maxRecDepth 100000 in
theorem cd_150 : at? 1598 = some (Cond.code (ymn 150) (cod 150) (mxl 150) (rty 150)) := rfl
set_option maxRecDepth 100000 in
theorem cd_151 : at? 1397 = some (Cond.code (ymn 151) (cod 151) (mxl 151) (rty 151)) := rfl
set_option maxRecDepth 100000 in
theorem cd_152 : at? 1407 = some (Cond.code (ymn 152) (cod 152) (mxl 152) (rty 152)) := rfl
set_option maxRecDepth 100000 in
theorem cd_153 : at? 1415 = some (Cond.code (ymn 153) (cod 153) (mxl 153) (rty 153)) := rfl
set_option maxRecDepth 100000 in
theorem cd_154 : at? 1419 = some (Cond.code (ymn 154) (cod 154) (mxl 154) (rty 154)) := rfl
set_option maxRecDepth 100000 in
theorem cd_155 : at? 1426 = some (Cond.code (ymn 155) (cod 155) (mxl 155) (rty 155)) := rfl
set_option maxRecDepth 100000 in
theorem cd_156 : at? 1621 = some (Cond.code (ymn 156) (cod 156) (mxl 156) (rty 156)) := rfl
set_option maxRecDepth 100000 in
theorem cd_157 : at? 1625 = some (Cond.code (ymn 157) (cod 157) (mxl 157) (rty 157)) := rfl
set_option maxRecDepth 100000 in
theorem cd_158 : at? 1670 = some (Cond.code (ymn 158) (cod 158) (mxl 158) (rty 158)) := rfl
set_option maxRecDepth 100000 in
theorem cd_159 : at? 1430 = some (Cond.code (ymn 159) (cod 159) (mxl 159) (rty 159)) := rfl
set_option maxRecDepth 100000 in
theorem cd_160 : at? 1434 = some (Cond.code (ymn 160) (cod 160) (mxl 160) (rty 160)) := rfl
set_option maxRecDepth 100000 in
theorem cd_161 : at? 1446 = some (Cond.code (ymn 161) (cod 161) (mxl 161) (rty 161)) := rfl
set_option maxRecDepth 100000 in
theorem cd_162 : at? 1449 = some (Cond.code (ymn 162) (cod 162) (mxl 162) (rty 162)) := rfl
set_option maxRecDepth 100000 in
theorem cd_163 : at? 1489 = some (Cond.code (ymn 163) (cod 163) (mxl 163) (rty 163)) := rfl
set_option maxRecDepth 100000 in
theorem cd_164 : at? 1462 = some (Cond.code (ymn 164) (cod 164) (mxl 164) (rty 164)) := rfl
set_option maxRecDepth 100000 in
theorem cd_165 : at? 1457 = some (Cond.code (ymn 165) (cod 165) (mxl 165) (rty 165)) := rfl
set_option maxRecDepth 100000 in
theorem cd_166 : at? 1453 = some (Cond.code (ymn 166) (cod 166) (mxl 166) (rty 166)) := rfl
set_option maxRecDepth 100000 in
theorem cd_167 : at? 1493 = some (Cond.code (ymn 167) (cod 167) (mxl 167) (rty 167)) := rfl
set_option maxRecDepth 100000 in
theorem cd_168 : at? 1442 = some (Cond.code (ymn 168) (cod 168) (mxl 168) (rty 168)) := rfl
set_option maxRecDepth 100000 in
theorem cd_169 : at? 1505 = some (Cond.code (ymn 169) (cod 169) (mxl 169) (rty 169)) := rfl
set_option maxRecDepth 100000 in
theorem cd_170 : at? 1521 = some (Cond.code (ymn 170) (cod 170) (mxl 170) (rty 170)) := rfl
set_option maxRecDepth 100000 in
theorem cd_171 : at? 1525 = some (Cond.code (ymn 171) (cod 171) (mxl 171) (rty 171)) := rfl
set_option maxRecDepth 100000 in
theorem cd_172 : at? 1509 = some (Cond.code (ymn 172) (cod 172) (mxl 172) (rty 172)) := rfl
set_option maxRecDepth 100000 in
theorem cd_173 : at? 1513 = some (Cond.code (ymn 173) (cod 173) (mxl 173) (rty 173)) := rfl
set_option maxRecDepth 100000 in
theorem cd_174 : at? 1517 = some (Cond.code (ymn 174) (cod 174) (mxl 174) (rty 174)) := rfl
set_option maxRecDepth 100000 in
theorem cd_175 : at? 1501 = some (Cond.code (ymn 175) (cod 175) (mxl 175) (rty 175)) := rfl
set_option maxRecDepth 100000 in
theorem cd_176 : at? 1529 = some (Cond.code (ymn 176) (cod 176) (mxl 176) (rty 176)) := rfl
set_option maxRecDepth 100000 in
theorem cd_177 : at? 1533 = some (Cond.code (ymn 177) (cod 177) (mxl 177) (rty 177)) := rfl
set_option maxRecDepth 100000 in
theorem cd_178 : at? 1497 = some (Cond.code (ymn 178) (cod 178) (mxl 178) (rty 178)) := rfl
set_option maxRecDepth 100000 in
theorem cd_179 : at? 1438 = some (Cond.code (ymn 179) (cod 179) (mxl 179) (rty 179)) := rfl
set_option maxRecDepth 100000 in
theorem cd_180 : at? 1537 = some (Cond.code (ymn 180) (cod 180) (mxl 180) (rty 180)) := rfl
set_option maxRecDepth 100000 in
theorem cd_181 : at? 1541 = some (Cond.code (ymn 181) (cod 181) (mxl 181) (rty 181)) := rfl
set_option maxRecDepth 100000 in
theorem cd_182 : at? 1567 = some (Cond.code (ymn 182) (cod 182) (mxl 182) (rty 182)) := rfl
set_option maxRecDepth 100000 in
theorem cd_183 : at? 1564 = some (Cond.code (ymn 183) (cod 183) (mxl 183) (rty 183)) := rfl
set_option maxRecDepth 100000 in
theorem cd_184 : at? 1560 = some (Cond.code (ymn 184) (cod 184) (mxl 184) (rty 184)) := rfl
set_option maxRecDepth 100000 in
theorem cd_185 : at? 1556 = some (Cond.code (ymn 185) (cod 185) (mxl 185) (rty 185)) := rfl
set_option maxRecDepth 100000 in
theorem cd_186 : at? 1613 = some (Cond.code (ymn 186) (cod 186) (mxl 186) (rty 186)) := rfl
set_option maxRecDepth 100000 in
theorem cd_187 : at? 1610 = some (Cond.code (ymn 187) (cod 187) (mxl 187) (rty 187)) := rfl
set_option maxRecDepth 100000 in
theorem cd_188 : at? 1606 = some (Cond.code (ymn 188) (cod 188) (mxl 188) (rty 188)) := rfl
set_option maxRecDepth 100000 in
theorem cd_189 : at? 1570 = some (Cond.code (ymn 189) (cod 189) (mxl 189) (rty 189)) := rfl
set_option maxRecDepth 100000 in
theorem cd_190 : at? 1646 = some (Cond.code (ymn 190) (cod 190) (mxl 190) (rty 190)) := rfl
set_option maxRecDepth 100000 in
theorem cd_191 : at? 1552 = some (Cond.code (ymn 191) (cod 191) (mxl 191) (rty 191)) := rfl
set_option maxRecDepth 100000 in
theorem cd_192 : at? 1586 = some (Cond.code (ymn 192) (cod 192) (mxl 192) (rty 192)) := rfl
set_option maxRecDepth 100000 in
theorem cd_193 : at? 1629 = some (Cond.code (ymn 193) (cod 193) (mxl 193) (rty 193)) := rfl
set_option maxRecDepth 100000 in
theorem cd_194 : at? 1638 = some (Cond.code (ymn 194) (cod 194) (mxl 194) (rty 194)) := rfl
set_option maxRecDepth 100000 in
theorem cd_195 : at? 1590 = some (Cond.code (ymn 195) (cod 195) (mxl 195) (rty 195)) := rfl
set_option maxRecDepth 100000 in
theorem cd_196 : at? 1582 = some (Cond.code (ymn 196) (cod 196) (mxl 196) (rty 196)) := rfl
set_option maxRecDepth 100000 in
theorem cd_197 : at? 1574 = some (Cond.code (ymn 197) (cod 197) (mxl 197) (rty 197)) := rfl
set_option maxRecDepth 100000 in
theorem cd_198 : at? 1548 = some (Cond.code (ymn 198) (cod 198) (mxl 198) (rty 198)) := rfl
set_option maxRecDepth 100000 in
theorem cd_199 : at? 1545 = some (Cond.code (ymn 199) (cod 199) (mxl 199) (rty 199)) := rfl
set_option maxRecDepth 100000 in
theorem cd_200 : at? 1578 = some (Cond.code (ymn 200) (cod 200) (mxl 200) (rty 200)) := rfl
set_option maxRecDepth 100000 in
theorem cd_201 : at? 1594 = some (Cond.code (ymn 201) (cod 201) (mxl 201) (rty 201)) := rfl
set_option maxRecDepth 100000 in
theorem cd_202 : at? 1602 = some (Cond.code (ymn 202) (cod 202) (mxl 202) (rty 202)) := rfl
set_option maxRecDepth 100000 in
theorem cd_203 : at? 1617 = some (Cond.code (ymn 203) (cod 203) (mxl 203) (rty 203)) := rfl
set_option maxRecDepth 100000 in
theorem cd_204 : at? 1642 = some (Cond.code (ymn 204) (cod 204) (mxl 204) (rty 204)) := rfl
set_option maxRecDepth 100000 in
theorem cd_205 : at? 1634 = some (Cond.code (ymn 205) (cod 205) (mxl 205) (rty 205)) := rfl
set_option maxRecDepth 100000 in
theorem cd_206 : at? 1654 = some (Cond.code (ymn 206) (cod 206) (mxl 206) (rty 206)) := rfl
set_option maxRecDepth 100000 in
theorem cd_207 : at? 1782 = some (Cond.code (ymn 207) (cod 207) (mxl 207) (rty 207)) := rfl
set_option maxRecDepth 100000 in
theorem cd_208 : at? 1650 = some (Cond.code (ymn 208) (cod 208) (mxl 208) (rty 208)) := rfl
set_option maxRecDepth 100000 in
theorem cd_209 : at? 1658 = some (Cond.code (ymn 209) (cod 209) (mxl 209) (rty 209)) := rfl
set_option maxRecDepth 100000 in
theorem cd_210 : at? 1662 = some (Cond.code (ymn 210) (cod 210) (mxl 210) (rty 210)) := rfl
set_option maxRecDepth 100000 in
theorem cd_211 : at? 1678 = some (Cond.code (ymn 211) (cod 211) (mxl 211) (rty 211)) := rfl
set_option maxRecDepth 100000 in
theorem cd_212 : at? 1674 = some (Cond.code (ymn 212) (cod 212) (mxl 212) (rty 212)) := rfl
set_option maxRecDepth 100000 in
theorem cd_213 : at? 1682 = some (Cond.code (ymn 213) (cod 213) (mxl 213) (rty 213)) := rfl
set_option maxRecDepth 100000 in
theorem cd_214 : at? 1666 = some (Cond.code (ymn 214) (cod 214) (mxl 214) (rty 214)) := rfl
set_option maxRecDepth 100000 in
theorem cd_215 : at? 1690 = some (Cond.code (ymn 215) (cod 215) (mxl 215) (rty 215)) := rfl
set_option maxRecDepth 100000 in
theorem cd_216 : at? 1686 = some (Cond.code (ymn 216) (cod 216) (mxl 216) (rty 216)) := rfl
set_option maxRecDepth 100000 in
theorem cd_217 : at? 1698 = some (Cond.code (ymn 217) (cod 217) (mxl 217) (rty 217)) := rfl
set_option maxRecDepth 100000 in
theorem cd_218 : at? 1702 = some (Cond.code (ymn 218) (cod 218) (mxl 218) (rty 218)) := rfl
set_option maxRecDepth 100000 in
theorem cd_219 : at? 1694 = some (Cond.code (ymn 219) (cod 219) (mxl 219) (rty 219)) := rfl
set_option maxRecDepth 100000 in
theorem cd_220 : at? 1710 = some (Cond.code (ymn 220) (cod 220) (mxl 220) (rty 220)) := rfl
set_option maxRecDepth 100000 in
theorem cd_221 : at? 1706 = some (Cond.code (ymn 221) (cod 221) (mxl 221) (rty 221)) := rfl
set_option maxRecDepth 100000 in
theorem cd_222 : at? 1718 = some (Cond.code (ymn 222) (cod 222) (mxl 222) (rty 222)) := rfl
set_option maxRecDepth 100000 in
theorem cd_223 : at? 1714 = some (Cond.code (ymn 223) (cod 223) (mxl 223) (rty 223)) := rfl
set_option maxRecDepth 100000 in
theorem cd_224 : at? 1726 = some (Cond.code (ymn 224) (cod 224) (mxl 224) (rty 224)) := rfl
set_option maxRecDepth 100000 in
theorem cd_225 : at? 1723 = some (Cond.code (ymn 225) (cod 225) (mxl 225) (rty 225)) := rfl
set_option maxRecDepth 100000 in
theorem cd_226 : at? 1730 = some (Cond.code (ymn 226) (cod 226) (mxl 226) (rty 226)) := rfl
set_option maxRecDepth 100000 in
theorem cd_227 : at? 1741 = some (Cond.code (ymn 227) (cod 227) (mxl 227) (rty 227)) := rfl
set_option maxRecDepth 100000 in
theorem cd_228 : at? 1745 = some (Cond.code (ymn 228) (cod 228) (mxl 228) (rty 228)) := rfl
set_option maxRecDepth 100000 in
theorem cd_229 : at? 1737 = some (Cond.code (ymn 229) (cod 229) (mxl 229) (rty 229)) := rfl
set_option maxRecDepth 100000 in
theorem cd_230 : at? 1734 = some (Cond.code (ymn 230) (cod 230) (mxl 230) (rty 230)) := rfl
set_option maxRecDepth 100000 in
theorem cd_231 : at? 1754 = some (Cond.code (ymn 231) (cod 231) (mxl 231) (rty 231)) := rfl
set_option maxRecDepth 100000 in
theorem cd_232 : at? 1758 = some (Cond.code (ymn 232) (cod 232) (mxl 232) (rty 232)) := rfl
set_option maxRecDepth 100000 in
theorem cd_233 : at? 1762 = some (Cond.code (ymn 233) (cod 233) (mxl 233) (rty 233)) := rfl
set_option maxRecDepth 100000 in
theorem cd_234 : at? 1766 = some (Cond.code (ymn 234) (cod 234) (mxl 234) (rty 234)) := rfl
set_option maxRecDepth 100000 in
theorem cd_235 : at? 1749 = some (Cond.code (ymn 235) (cod 235) (mxl 235) (rty 235)) := rfl
set_option maxRecDepth 100000 in
theorem cd_236 : at? 1778 = some (Cond.code (ymn 236) (cod 236) (mxl 236) (rty 236)) := rfl
set_option maxRecDepth 100000 in
theorem cd_237 : at? 1774 = some (Cond.code (ymn 237) (cod 237) (mxl 237) (rty 237)) := rfl
set_option maxRecDepth 100000 in
theorem cd_238 : at? 1770 = some (Cond.code (ymn 238) (cod 238) (mxl 238) (rty 238)) := rfl
set_option maxRecDepth 100000 in
theorem cd_239 : at? 1786 = some (Cond.code (ymn 239) (cod 239) (mxl 239) (rty 239)) := rfl
set_option maxRecDepth 100000 in
theorem cd_240 : at? 1794 = some (Cond.code (ymn 240) (cod 240) (mxl 240) (rty 240)) := rfl
set_option maxRecDepth 100000 in
theorem cd_241 : at? 1790 = some (Cond.code (ymn 241) (cod 241) (mxl 241) (rty 241)) := rfl
set_option maxRecDepth 100000 in
theorem cd_242 : at? 1798 = some (Cond.code (ymn 242) (cod 242) (mxl 242) (rty 242)) := rfl
set_option maxRecDepth 100000 in
theorem cd_243 : at? 981 = some (Cond.code (ymn 243) (cod 243) (mxl 243) (rty 243)) := rfl
set_option maxRecDepth 100000 in
theorem cd_244 : at? 1001 = some (Cond.code (ymn 244) (cod 244) (mxl 244) (rty 244)) := rfl
set_option maxRecDepth 100000 in
theorem cd_245 : at? 963 = some (Cond.code (ymn 245) (cod 245) (mxl 245) (rty 245)) := rfl
set_option maxRecDepth 100000 in
theorem cd_246 : at? 921 = some (Cond.code (ymn 246) (cod 246) (mxl 246) (rty 246)) := rfl
set_option maxRecDepth 100000 in
theorem cd_247 : at? 772 = some (Cond.code (ymn 247) (cod 247) (mxl 247) (rty 247)) := rfl
set_option maxRecDepth 100000 in
theorem cd_248 : at? 769 = some (Cond.code (ymn 248) (cod 248) (mxl 248) (rty 248)) := rfl
set_option maxRecDepth 100000 in
theorem cd_249 : at? 331 = some (Cond.code (ymn 249) (cod 249) (mxl 249) (rty 249)) := rfl
theorem code_ok (z : Nat) (h : z < 250) : at? (mwW z).1 = some (Cond.code (ymn z) (cod z) (mxl z) (rty z)) := match z, h with
  | 0, _ => cd_0
  | 1, _ => cd_1
  | 2, _ => cd_2
  | 3, _ => cd_3
  | 4, _ => cd_4
  | 5, _ => cd_5
  | 6, _ => cd_6
  | 7, _ => cd_7
  | 8, _ => cd_8
  | 9, _ => cd_9
  | 10, _ => cd_10
  | 11, _ => cd_11
  | 12, _ => cd_12
  | 13, _ => cd_13
  | 14, _ => cd_14
  | 15, _ => cd_15
  | 16, _ => cd_16
  | 17, _ => cd_17
  | 18, _ => cd_18
  | 19, _ => cd_19
  | 20, _ => cd_20
  | 21, _ => cd_21
  | 22, _ => cd_22
  | 23, _ => cd_23
  | 24, _ => cd_24
  | 25, _ => cd_25
  | 26, _ => cd_26
  | 27, _ => cd_27
  | 28, _ => cd_28
  | 29, _ => cd_29
  | 30, _ => cd_30
  | 31, _ => cd_31
  | 32, _ => cd_32
  | 33, _ => cd_33
  | 34, _ => cd_34
  | 35, _ => cd_35
  | 36, _ => cd_36
  | 37, _ => cd_37
  | 38, _ => cd_38
  | 39, _ => cd_39
  | 40, _ => cd_40
  | 41, _ => cd_41
  | 42, _ => cd_42
  | 43, _ => cd_43
  | 44, _ => cd_44
  | 45, _ => cd_45
  | 46, _ => cd_46
  | 47, _ => cd_47
  | 48, _ => cd_48
  | 49, _ => cd_49
  | 50, _ => cd_50
  | 51, _ => cd_51
  | 52, _ => cd_52
  | 53, _ => cd_53
  | 54, _ => cd_54
  | 55, _ => cd_55
  | 56, _ => cd_56
  | 57, _ => cd_57
  | 58, _ => cd_58
  | 59, _ => cd_59
  | 60, _ => cd_60
  | 61, _ => cd_61
  | 62, _ => cd_62
  | 63, _ => cd_63
  | 64, _ => cd_64
  | 65, _ => cd_65
  | 66, _ => cd_66
  | 67, _ => cd_67
  | 68, _ => cd_68
  | 69, _ => cd_69
  | 70, _ => cd_70
  | 71, _ => cd_71
  | 72, _ => cd_72
  | 73, _ => cd_73
  | 74, _ => cd_74
  | 75, _ => cd_75
  | 76, _ => cd_76
  | 77, _ => cd_77
  | 78, _ => cd_78
  | 79, _ => cd_79
  | 80, _ => cd_80
  | 81, _ => cd_81
  | 82, _ => cd_82
  | 83, _ => cd_83
  | 84, _ => cd_84
  | 85, _ => cd_85
  | 86, _ => cd_86
  | 87, _ => cd_87
  | 88, _ => cd_88
  | 89, _ => cd_89
  | 90, _ => cd_90
  | 91, _ => cd_91
  | 92, _ => cd_92
  | 93, _ => cd_93
  | 94, _ => cd_94
  | 95, _ => cd_95
  | 96, _ => cd_96
  | 97, _ => cd_97
  | 98, _ => cd_98
  | 99, _ => cd_99
  | 100, _ => cd_100
  | 101, _ => cd_101
  | 102, _ => cd_102
  | 103, _ => cd_103
  | 104, _ => cd_104
  | 105, _ => cd_105
  | 106, _ => cd_106
  | 107, _ => cd_107
  | 108, _ => cd_108
  | 109, _ => cd_109
  | 110, _ => cd_110
  | 111, _ => cd_111
  | 112, _ => cd_112
  | 113, _ => cd_113
  | 114, _ => cd_114
  | 115, _ => cd_115
  | 116, _ => cd_116
  | 117, _ => cd_117
  | 118, _ => cd_118
  | 119, _ => cd_119
  | 120, _ => cd_120
  | 121, _ => cd_121
  | 122, _ => cd_122
  | 123, _ => cd_123
  | 124, _ => cd_124
  | 125, _ => cd_125
  | 126, _ => cd_126
  | 127, _ => cd_127
  | 128, _ => cd_128
  | 129, _ => cd_129
  | 130, _ => cd_130
  | 131, _ => cd_131
  | 132, _ => cd_132
  | 133, _ => cd_133
  | 134, _ => cd_134
  | 135, _ => cd_135
  | 136, _ => cd_136
  | 137, _ => cd_137
  | 138, _ => cd_138
  | 139, _ => cd_139
  | 140, _ => cd_140
  | 141, _ => cd_141
  | 142, _ => cd_142
  | 143, _ => cd_143
  | 144, _ => cd_144
  | 145, _ => cd_145
  | 146, _ => cd_146
  | 147, _ => cd_147
  | 148, _ => cd_148
  | 149, _ => cd_149
  | 150, _ => cd_150
  | 151, _ => cd_151
  | 152, _ => cd_152
  | 153, _ => cd_153
  | 154, _ => cd_154
  | 155, _ => cd_155
  | 156, _ => cd_156
  | 157, _ => cd_157
  | 158, _ => cd_158
  | 159, _ => cd_159
  | 160, _ => cd_160
  | 161, _ => cd_161
  | 162, _ => cd_162
  | 163, _ => cd_163
  | 164, _ => cd_164
  | 165, _ => cd_165
  | 166, _ => cd_166
  | 167, _ => cd_167
  | 168, _ => cd_168
  | 169, _ => cd_169
  | 170, _ => cd_170
  | 171, _ => cd_171
  | 172, _ => cd_172
  | 173, _ => cd_173
  | 174, _ => cd_174
  | 175, _ => cd_175
  | 176, _ => cd_176
  | 177, _ => cd_177
  | 178, _ => cd_178
  | 179, _ => cd_179
  | 180, _ => cd_180
  | 181, _ => cd_181
  | 182, _ => cd_182
  | 183, _ => cd_183
  | 184, _ => cd_184
  | 185, _ => cd_185
  | 186, _ => cd_186
  | 187, _ => cd_187
  | 188, _ => cd_188
  | 189, _ => cd_189
  | 190, _ => cd_190
  | 191, _ => cd_191
  | 192, _ => cd_192
  | 193, _ => cd_193
  | 194, _ => cd_194
  | 195, _ => cd_195
  | 196, _ => cd_196
  | 197, _ => cd_197
  | 198, _ => cd_198
  | 199, _ => cd_199
  | 200, _ => cd_200
  | 201, _ => cd_201
  | 202, _ => cd_202
  | 203, _ => cd_203
  | 204, _ => cd_204
  | 205, _ => cd_205
  | 206, _ => cd_206
  | 207, _ => cd_207
  | 208, _ => cd_208
  | 209, _ => cd_209
  | 210, _ => cd_210
  | 211, _ => cd_211
  | 212, _ => cd_212
  | 213, _ => cd_213
  | 214, _ => cd_214
  | 215, _ => cd_215
  | 216, _ => cd_216
  | 217, _ => cd_217
  | 218, _ => cd_218
  | 219, _ => cd_219
  | 220, _ => cd_220
  | 221, _ => cd_221
  | 222, _ => cd_222
  | 223, _ => cd_223
  | 224, _ => cd_224
  | 225, _ => cd_225
  | 226, _ => cd_226
  | 227, _ => cd_227
  | 228, _ => cd_228
  | 229, _ => cd_229
  | 230, _ => cd_230
  | 231, _ => cd_231
  | 232, _ => cd_232
  | 233, _ => cd_233
  | 234, _ => cd_234
  | 235, _ => cd_235
  | 236, _ => cd_236
  | 237, _ => cd_237
  | 238, _ => cd_238
  | 239, _ => cd_239
  | 240, _ => cd_240
  | 241, _ => cd_241
  | 242, _ => cd_242
  | 243, _ => cd_243
  | 244, _ => cd_244
  | 245, _ => cd_245
  | 246, _ => cd_246
  | 247, _ => cd_247
  | 248, _ => cd_248
  | 249, _ => cd_249
  | n + 250, h => absurd h (by omega)
