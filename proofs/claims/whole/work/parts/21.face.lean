theorem oB_50 : (Int8.ofInt (50)).toInt32 = (50 : Int32) := by decide +kernel
theorem lk_X11_293 : Jvm.Cond.constant RX11 293 (-100000) ∈ lw_g := lw_gm 1278 (by decide +kernel) rfl
theorem lf_X11_12 : xfl RX11 12 10 0 (tyX11 0) true := ⟨_, _, _, _, xc_X11, by decide, rfl, rfl, rfl, lw_gm 470 (by decide +kernel) rfl⟩
theorem lf_X11_126 : xfl RX11 126 8 1 (tyX9 1) false := ⟨_, _, _, _, xc_X9, by decide, rfl, rfl, rfl, lw_gm 213 (by decide +kernel) rfl⟩
theorem lf_X11_143 : xfl RX11 143 3 1 (tyX4 1) false := ⟨_, _, _, _, xc_X4, by decide, rfl, rfl, rfl, lw_gm 251 (by decide +kernel) rfl⟩
theorem lf_X11_146 : xfl RX11 146 4 1 (tyX5 1) false := ⟨_, _, _, _, xc_X5, by decide, rfl, rfl, rfl, lw_gm 275 (by decide +kernel) rfl⟩
theorem lf_X11_158 : xfl RX11 158 4 3 (tyX5 3) true := ⟨_, _, _, _, xc_X5, by decide, rfl, rfl, rfl, lw_gm 280 (by decide +kernel) rfl⟩
theorem lf_X11_162 : xfl RX11 162 4 2 (tyX5 2) true := ⟨_, _, _, _, xc_X5, by decide, rfl, rfl, rfl, lw_gm 277 (by decide +kernel) rfl⟩
theorem lf_X11_21 : xfl RX11 21 10 1 (tyX11 1) true := ⟨_, _, _, _, xc_X11, by decide, rfl, rfl, rfl, lw_gm 471 (by decide +kernel) rfl⟩
theorem lf_X11_213 : xfl RX11 213 4 4 (tyX5 4) true := ⟨_, _, _, _, xc_X5, by decide, rfl, rfl, rfl, lw_gm 283 (by decide +kernel) rfl⟩
theorem lf_X11_228 : xfl RX11 228 4 5 (tyX5 5) true := ⟨_, _, _, _, xc_X5, by decide, rfl, rfl, rfl, lw_gm 286 (by decide +kernel) rfl⟩
theorem lf_X11_262 : xfl RX11 262 5 1 (tyX6 1) false := ⟨_, _, _, _, xc_X6, by decide, rfl, rfl, rfl, lw_gm 421 (by decide +kernel) rfl⟩
theorem lf_X11_28 : xfl RX11 28 10 2 (tyX11 2) true := ⟨_, _, _, _, xc_X11, by decide, rfl, rfl, rfl, lw_gm 472 (by decide +kernel) rfl⟩
theorem lf_X11_335 : xfl RX11 335 0 1 (tyX0 1) false := ⟨_, _, _, _, xc_X0, by decide, rfl, rfl, rfl, lw_gm 154 (by decide +kernel) rfl⟩
theorem lf_X11_338 : xfl RX11 338 0 2 (tyX0 2) false := ⟨_, _, _, _, xc_X0, by decide, rfl, rfl, rfl, lw_gm 156 (by decide +kernel) rfl⟩
theorem lf_X11_341 : xfl RX11 341 3 0 (tyX4 0) false := ⟨_, _, _, _, xc_X4, by decide, rfl, rfl, rfl, lw_gm 249 (by decide +kernel) rfl⟩
theorem lf_X11_342 : xfl RX11 342 9 2 (tyX10 2) false := ⟨_, _, _, _, xc_X10, by decide, rfl, rfl, rfl, lw_gm 395 (by decide +kernel) rfl⟩
theorem lf_X11_343 : xfl RX11 343 0 0 (tyX0 0) true := ⟨_, _, _, _, xc_X0, by decide, rfl, rfl, rfl, lw_gm 151 (by decide +kernel) rfl⟩
theorem lf_X11_346 : xfl RX11 346 5 0 (tyX6 0) false := ⟨_, _, _, _, xc_X6, by decide, rfl, rfl, rfl, lw_gm 419 (by decide +kernel) rfl⟩
theorem lf_X11_37 : xfl RX11 37 10 3 (tyX11 3) true := ⟨_, _, _, _, xc_X11, by decide, rfl, rfl, rfl, lw_gm 473 (by decide +kernel) rfl⟩
theorem lf_X11_46 : xfl RX11 46 10 4 (tyX11 4) true := ⟨_, _, _, _, xc_X11, by decide, rfl, rfl, rfl, lw_gm 474 (by decide +kernel) rfl⟩
theorem lf_X11_55 : xfl RX11 55 10 5 (tyX11 5) true := ⟨_, _, _, _, xc_X11, by decide, rfl, rfl, rfl, lw_gm 475 (by decide +kernel) rfl⟩
theorem lf_X11_62 : xfl RX11 62 10 6 (tyX11 6) true := ⟨_, _, _, _, xc_X11, by decide, rfl, rfl, rfl, lw_gm 476 (by decide +kernel) rfl⟩
theorem lf_X11_69 : xfl RX11 69 10 7 (tyX11 7) true := ⟨_, _, _, _, xc_X11, by decide, rfl, rfl, rfl, lw_gm 477 (by decide +kernel) rfl⟩
theorem lf_X11_76 : xfl RX11 76 10 8 (tyX11 8) true := ⟨_, _, _, _, xc_X11, by decide, rfl, rfl, rfl, lw_gm 478 (by decide +kernel) rfl⟩
theorem lc_X11_101 : xlV RX11 101 yX0_isLet cX0_isLet 2 (some .boolean) 1 0 := ⟨⟨lw_gm 550 (by decide +kernel) rfl, lw_gm 105 (by decide +kernel) rfl, lw_gm 553 (by decide +kernel) rfl, ⟨by decide, by decide, by decide +kernel⟩, by decide⟩, lw_gm 551 (by decide +kernel) rfl, lw_gm 552 (by decide +kernel) rfl, _, _, rfl⟩
theorem lc_X11_104 : xlV RX11 104 yX0_isLawful cX0_isLawful 3 (some .boolean) 1 0 := ⟨⟨lw_gm 562 (by decide +kernel) rfl, lw_gm 105 (by decide +kernel) rfl, lw_gm 565 (by decide +kernel) rfl, ⟨by decide, by decide, by decide +kernel⟩, by decide⟩, lw_gm 563 (by decide +kernel) rfl, lw_gm 564 (by decide +kernel) rfl, _, _, rfl⟩
theorem lc_X11_107 : xlV RX11 107 yX0_beatingRow cX0_beatingRow 1 (some .int) 0 0 := ⟨⟨lw_gm 578 (by decide +kernel) rfl, lw_gm 105 (by decide +kernel) rfl, lw_gm 581 (by decide +kernel) rfl, ⟨by decide, by decide, by decide +kernel⟩, by decide⟩, lw_gm 579 (by decide +kernel) rfl, lw_gm 580 (by decide +kernel) rfl, _, _, rfl⟩
theorem lc_X11_110 : xlV RX11 110 yX0_barredRow cX0_barredRow 1 (some .int) 0 0 := ⟨⟨lw_gm 599 (by decide +kernel) rfl, lw_gm 105 (by decide +kernel) rfl, lw_gm 602 (by decide +kernel) rfl, ⟨by decide, by decide, by decide +kernel⟩, by decide⟩, lw_gm 600 (by decide +kernel) rfl, lw_gm 601 (by decide +kernel) rfl, _, _, rfl⟩
theorem lc_X11_113 : xlV RX11 113 yX0_letRows cX0_letRows 1 (some .int) 0 0 := ⟨⟨lw_gm 607 (by decide +kernel) rfl, lw_gm 105 (by decide +kernel) rfl, lw_gm 610 (by decide +kernel) rfl, ⟨by decide, by decide, by decide +kernel⟩, by decide⟩, lw_gm 608 (by decide +kernel) rfl, lw_gm 609 (by decide +kernel) rfl, _, _, rfl⟩
theorem lc_X11_116 : xlV RX11 116 yX0_neededStraps cX0_neededStraps 1 (some .int) 0 0 := ⟨⟨lw_gm 615 (by decide +kernel) rfl, lw_gm 105 (by decide +kernel) rfl, lw_gm 618 (by decide +kernel) rfl, ⟨by decide, by decide, by decide +kernel⟩, by decide⟩, lw_gm 616 (by decide +kernel) rfl, lw_gm 617 (by decide +kernel) rfl, _, _, rfl⟩
theorem lc_X11_119 : xlV RX11 119 yX0_waysToPull cX0_waysToPull 4 (some .int) 1 0 := ⟨⟨lw_gm 623 (by decide +kernel) rfl, lw_gm 105 (by decide +kernel) rfl, lw_gm 626 (by decide +kernel) rfl, ⟨by decide, by decide, by decide +kernel⟩, by decide⟩, lw_gm 624 (by decide +kernel) rfl, lw_gm 625 (by decide +kernel) rfl, _, _, rfl⟩
theorem lc_X11_123 : xlS RX11 123 yX9_bytesIn cX9_bytesIn 3 (some .int) 1 := ⟨⟨lw_gm 632 (by decide +kernel) rfl, lw_gm 108 (by decide +kernel) rfl, lw_gm 634 (by decide +kernel) rfl, ⟨by decide, by decide, by decide +kernel⟩, by decide⟩, lw_gm 633 (by decide +kernel) rfl⟩
theorem lc_X11_130 : xlV RX11 130 yX9_append cX9_append 4 none 1 8 := ⟨⟨lw_gm 635 (by decide +kernel) rfl, lw_gm 108 (by decide +kernel) rfl, lw_gm 638 (by decide +kernel) rfl, ⟨by decide, by decide, by decide +kernel⟩, by decide⟩, lw_gm 636 (by decide +kernel) rfl, lw_gm 637 (by decide +kernel) rfl, _, _, rfl⟩
theorem lc_X11_133 : xlV RX11 133 yX4_faultIn cX4_faultIn 2 (some .int) 1 3 := ⟨⟨lw_gm 648 (by decide +kernel) rfl, lw_gm 109 (by decide +kernel) rfl, lw_gm 651 (by decide +kernel) rfl, ⟨by decide, by decide, by decide +kernel⟩, by decide⟩, lw_gm 649 (by decide +kernel) rfl, lw_gm 650 (by decide +kernel) rfl, _, _, rfl⟩
theorem lc_X11_137 : xlV RX11 137 yX4_add cX4_add 2 (some .int) 1 3 := ⟨⟨lw_gm 723 (by decide +kernel) rfl, lw_gm 109 (by decide +kernel) rfl, lw_gm 726 (by decide +kernel) rfl, ⟨by decide, by decide, by decide +kernel⟩, by decide⟩, lw_gm 724 (by decide +kernel) rfl, lw_gm 725 (by decide +kernel) rfl, _, _, rfl⟩
theorem lc_X11_140 : xlV RX11 140 yX4_isLaw cX4_isLaw 2 (some .boolean) 1 3 := ⟨⟨lw_gm 738 (by decide +kernel) rfl, lw_gm 109 (by decide +kernel) rfl, lw_gm 741 (by decide +kernel) rfl, ⟨by decide, by decide, by decide +kernel⟩, by decide⟩, lw_gm 739 (by decide +kernel) rfl, lw_gm 740 (by decide +kernel) rfl, _, _, rfl⟩
theorem lc_X11_149 : xlV RX11 149 yX11_settleVoters cX11_settleVoters 3 none 1 10 := ⟨⟨lw_gm 743 (by decide +kernel) rfl, lw_gm 104 (by decide +kernel) rfl, lw_gm 746 (by decide +kernel) rfl, ⟨by decide, by decide, by decide +kernel⟩, by decide⟩, lw_gm 745 (by decide +kernel) rfl, lw_gm 12 (by decide +kernel) rfl, _, _, rfl⟩
theorem lc_X11_152 : xlV RX11 152 yX5_add cX5_add 8 (some .int) 5 4 := ⟨⟨lw_gm 768 (by decide +kernel) rfl, lw_gm 111 (by decide +kernel) rfl, lw_gm 771 (by decide +kernel) rfl, ⟨by decide, by decide, by decide +kernel⟩, by decide⟩, lw_gm 769 (by decide +kernel) rfl, lw_gm 770 (by decide +kernel) rfl, _, _, rfl⟩
theorem lc_X11_155 : xlV RX11 155 yX5_isMachine cX5_isMachine 2 (some .boolean) 1 4 := ⟨⟨lw_gm 747 (by decide +kernel) rfl, lw_gm 111 (by decide +kernel) rfl, lw_gm 750 (by decide +kernel) rfl, ⟨by decide, by decide, by decide +kernel⟩, by decide⟩, lw_gm 748 (by decide +kernel) rfl, lw_gm 749 (by decide +kernel) rfl, _, _, rfl⟩
theorem lc_X11_165 : xlV RX11 165 yX4_votersBy cX4_votersBy 4 (some .int) 3 3 := ⟨⟨lw_gm 752 (by decide +kernel) rfl, lw_gm 109 (by decide +kernel) rfl, lw_gm 755 (by decide +kernel) rfl, ⟨by decide, by decide, by decide +kernel⟩, by decide⟩, lw_gm 753 (by decide +kernel) rfl, lw_gm 754 (by decide +kernel) rfl, _, _, rfl⟩
theorem lc_X11_169 : xlS RX11 169 yX1_put cX1_put 3 none 3 := ⟨⟨lw_gm 763 (by decide +kernel) rfl, lw_gm 106 (by decide +kernel) rfl, lw_gm 527 (by decide +kernel) rfl, ⟨by decide, by decide, by decide +kernel⟩, by decide⟩, lw_gm 526 (by decide +kernel) rfl⟩
theorem lc_X11_173 : xlS RX11 173 yX1_at cX1_at 2 (some .int) 2 := ⟨⟨lw_gm 780 (by decide +kernel) rfl, lw_gm 106 (by decide +kernel) rfl, lw_gm 560 (by decide +kernel) rfl, ⟨by decide, by decide, by decide +kernel⟩, by decide⟩, lw_gm 559 (by decide +kernel) rfl⟩
theorem lc_X11_177 : xlV RX11 177 yX4_agreeing cX4_agreeing 5 (some .int) 2 3 := ⟨⟨lw_gm 785 (by decide +kernel) rfl, lw_gm 109 (by decide +kernel) rfl, lw_gm 788 (by decide +kernel) rfl, ⟨by decide, by decide, by decide +kernel⟩, by decide⟩, lw_gm 786 (by decide +kernel) rfl, lw_gm 787 (by decide +kernel) rfl, _, _, rfl⟩
theorem lc_X11_180 : xlV RX11 180 yX5_setShown cX5_setShown 4 (some .boolean) 3 4 := ⟨⟨lw_gm 795 (by decide +kernel) rfl, lw_gm 111 (by decide +kernel) rfl, lw_gm 798 (by decide +kernel) rfl, ⟨by decide, by decide, by decide +kernel⟩, by decide⟩, lw_gm 796 (by decide +kernel) rfl, lw_gm 797 (by decide +kernel) rfl, _, _, rfl⟩
theorem lc_X11_183 : xlV RX11 183 yX5_addFault cX5_addFault 7 (some .int) 4 4 := ⟨⟨lw_gm 815 (by decide +kernel) rfl, lw_gm 111 (by decide +kernel) rfl, lw_gm 818 (by decide +kernel) rfl, ⟨by decide, by decide, by decide +kernel⟩, by decide⟩, lw_gm 816 (by decide +kernel) rfl, lw_gm 817 (by decide +kernel) rfl, _, _, rfl⟩
theorem lc_X11_187 : xlV RX11 187 yX2_howMany cX2_howMany 4 (some .int) 1 1 := ⟨⟨lw_gm 836 (by decide +kernel) rfl, lw_gm 112 (by decide +kernel) rfl, lw_gm 839 (by decide +kernel) rfl, ⟨by decide, by decide, by decide +kernel⟩, by decide⟩, lw_gm 837 (by decide +kernel) rfl, lw_gm 838 (by decide +kernel) rfl, _, _, rfl⟩
theorem lc_X11_190 : xlV RX11 190 yX2_numbered cX2_numbered 5 (some .int) 2 1 := ⟨⟨lw_gm 912 (by decide +kernel) rfl, lw_gm 112 (by decide +kernel) rfl, lw_gm 915 (by decide +kernel) rfl, ⟨by decide, by decide, by decide +kernel⟩, by decide⟩, lw_gm 913 (by decide +kernel) rfl, lw_gm 914 (by decide +kernel) rfl, _, _, rfl⟩
theorem lc_X11_193 : xlV RX11 193 yX2_fewest cX2_fewest 4 (some .int) 1 1 := ⟨⟨lw_gm 920 (by decide +kernel) rfl, lw_gm 112 (by decide +kernel) rfl, lw_gm 923 (by decide +kernel) rfl, ⟨by decide, by decide, by decide +kernel⟩, by decide⟩, lw_gm 921 (by decide +kernel) rfl, lw_gm 922 (by decide +kernel) rfl, _, _, rfl⟩
theorem lc_X11_196 : xlV RX11 196 yX2_inAll cX2_inAll 4 (some .int) 1 1 := ⟨⟨lw_gm 925 (by decide +kernel) rfl, lw_gm 112 (by decide +kernel) rfl, lw_gm 928 (by decide +kernel) rfl, ⟨by decide, by decide, by decide +kernel⟩, by decide⟩, lw_gm 926 (by decide +kernel) rfl, lw_gm 927 (by decide +kernel) rfl, _, _, rfl⟩
theorem lc_X11_199 : xlV RX11 199 yX2_inSome cX2_inSome 4 (some .int) 1 1 := ⟨⟨lw_gm 929 (by decide +kernel) rfl, lw_gm 112 (by decide +kernel) rfl, lw_gm 932 (by decide +kernel) rfl, ⟨by decide, by decide, by decide +kernel⟩, by decide⟩, lw_gm 930 (by decide +kernel) rfl, lw_gm 931 (by decide +kernel) rfl, _, _, rfl⟩
theorem lc_X11_202 : xlV RX11 202 yX0_officeOf cX0_officeOf 3 (some .int) 1 0 := ⟨⟨lw_gm 937 (by decide +kernel) rfl, lw_gm 105 (by decide +kernel) rfl, lw_gm 940 (by decide +kernel) rfl, ⟨by decide, by decide, by decide +kernel⟩, by decide⟩, lw_gm 938 (by decide +kernel) rfl, lw_gm 939 (by decide +kernel) rfl, _, _, rfl⟩
theorem lc_X11_205 : xlV RX11 205 yX8_pullsAt cX8_pullsAt 6 (some .int) 3 7 := ⟨⟨lw_gm 941 (by decide +kernel) rfl, lw_gm 113 (by decide +kernel) rfl, lw_gm 944 (by decide +kernel) rfl, ⟨by decide, by decide, by decide +kernel⟩, by decide⟩, lw_gm 942 (by decide +kernel) rfl, lw_gm 943 (by decide +kernel) rfl, _, _, rfl⟩
theorem lc_X11_209 : xlV RX11 209 yX2_lay cX2_lay 5 (some .boolean) 2 1 := ⟨⟨lw_gm 963 (by decide +kernel) rfl, lw_gm 112 (by decide +kernel) rfl, lw_gm 849 (by decide +kernel) rfl, ⟨by decide, by decide, by decide +kernel⟩, by decide⟩, lw_gm 847 (by decide +kernel) rfl, lw_gm 848 (by decide +kernel) rfl, _, _, rfl⟩
theorem lc_X11_216 : xlV RX11 216 yX8_pullsOverAll cX8_pullsOverAll 6 (some .int) 2 7 := ⟨⟨lw_gm 968 (by decide +kernel) rfl, lw_gm 113 (by decide +kernel) rfl, lw_gm 971 (by decide +kernel) rfl, ⟨by decide, by decide, by decide +kernel⟩, by decide⟩, lw_gm 969 (by decide +kernel) rfl, lw_gm 970 (by decide +kernel) rfl, _, _, rfl⟩
theorem lc_X11_219 : xlV RX11 219 yX8_leastLead cX8_leastLead 4 (some .int) 2 7 := ⟨⟨lw_gm 977 (by decide +kernel) rfl, lw_gm 113 (by decide +kernel) rfl, lw_gm 980 (by decide +kernel) rfl, ⟨by decide, by decide, by decide +kernel⟩, by decide⟩, lw_gm 978 (by decide +kernel) rfl, lw_gm 979 (by decide +kernel) rfl, _, _, rfl⟩
theorem lc_X11_222 : xlV RX11 222 yX0_isOffice cX0_isOffice 2 (some .boolean) 1 0 := ⟨⟨lw_gm 1007 (by decide +kernel) rfl, lw_gm 105 (by decide +kernel) rfl, lw_gm 831 (by decide +kernel) rfl, ⟨by decide, by decide, by decide +kernel⟩, by decide⟩, lw_gm 829 (by decide +kernel) rfl, lw_gm 830 (by decide +kernel) rfl, _, _, rfl⟩
theorem lc_X11_225 : xlV RX11 225 yX8_winner cX8_winner 3 (some .int) 1 7 := ⟨⟨lw_gm 1008 (by decide +kernel) rfl, lw_gm 113 (by decide +kernel) rfl, lw_gm 1011 (by decide +kernel) rfl, ⟨by decide, by decide, by decide +kernel⟩, by decide⟩, lw_gm 1009 (by decide +kernel) rfl, lw_gm 1010 (by decide +kernel) rfl, _, _, rfl⟩
theorem lc_X11_231 : xlV RX11 231 yX8_cheapestOpening cX8_cheapestOpening 5 (some .int) 1 7 := ⟨⟨lw_gm 1024 (by decide +kernel) rfl, lw_gm 113 (by decide +kernel) rfl, lw_gm 1027 (by decide +kernel) rfl, ⟨by decide, by decide, by decide +kernel⟩, by decide⟩, lw_gm 1025 (by decide +kernel) rfl, lw_gm 1026 (by decide +kernel) rfl, _, _, rfl⟩
theorem lc_X11_234 : xlV RX11 234 yX8_costOf cX8_costOf 4 (some .int) 1 7 := ⟨⟨lw_gm 1047 (by decide +kernel) rfl, lw_gm 113 (by decide +kernel) rfl, lw_gm 1045 (by decide +kernel) rfl, ⟨by decide, by decide, by decide +kernel⟩, by decide⟩, lw_gm 1043 (by decide +kernel) rfl, lw_gm 1044 (by decide +kernel) rfl, _, _, rfl⟩
theorem lc_X11_237 : xlV RX11 237 yX10_add cX10_add 3 (some .int) 2 9 := ⟨⟨lw_gm 1052 (by decide +kernel) rfl, lw_gm 114 (by decide +kernel) rfl, lw_gm 1055 (by decide +kernel) rfl, ⟨by decide, by decide, by decide +kernel⟩, by decide⟩, lw_gm 1053 (by decide +kernel) rfl, lw_gm 1054 (by decide +kernel) rfl, _, _, rfl⟩
theorem lc_X11_239 : xlV RX11 239 yX10_isTest cX10_isTest 2 (some .boolean) 1 9 := ⟨⟨lw_gm 1063 (by decide +kernel) rfl, lw_gm 114 (by decide +kernel) rfl, lw_gm 1066 (by decide +kernel) rfl, ⟨by decide, by decide, by decide +kernel⟩, by decide⟩, lw_gm 1064 (by decide +kernel) rfl, lw_gm 1065 (by decide +kernel) rfl, _, _, rfl⟩
theorem lc_X11_242 : xlV RX11 242 yX10_seenBy cX10_seenBy 5 (some .int) 2 9 := ⟨⟨lw_gm 1067 (by decide +kernel) rfl, lw_gm 114 (by decide +kernel) rfl, lw_gm 1070 (by decide +kernel) rfl, ⟨by decide, by decide, by decide +kernel⟩, by decide⟩, lw_gm 1068 (by decide +kernel) rfl, lw_gm 1069 (by decide +kernel) rfl, _, _, rfl⟩
theorem lc_X11_245 : xlV RX11 245 yX10_fewestSeeingAll cX10_fewestSeeingAll 5 (some .int) 1 9 := ⟨⟨lw_gm 1099 (by decide +kernel) rfl, lw_gm 114 (by decide +kernel) rfl, lw_gm 1102 (by decide +kernel) rfl, ⟨by decide, by decide, by decide +kernel⟩, by decide⟩, lw_gm 1100 (by decide +kernel) rfl, lw_gm 1101 (by decide +kernel) rfl, _, _, rfl⟩
theorem lc_X11_248 : xlV RX11 248 yX0_shuffle cX0_shuffle 8 (some .int) 2 0 := ⟨⟨lw_gm 1114 (by decide +kernel) rfl, lw_gm 105 (by decide +kernel) rfl, lw_gm 1117 (by decide +kernel) rfl, ⟨by decide, by decide, by decide +kernel⟩, by decide⟩, lw_gm 1115 (by decide +kernel) rfl, lw_gm 1116 (by decide +kernel) rfl, _, _, rfl⟩
theorem lc_X11_252 : xlV RX11 252 yX0_shuffledAt cX0_shuffledAt 3 (some .int) 2 0 := ⟨⟨lw_gm 1121 (by decide +kernel) rfl, lw_gm 105 (by decide +kernel) rfl, lw_gm 1124 (by decide +kernel) rfl, ⟨by decide, by decide, by decide +kernel⟩, by decide⟩, lw_gm 1122 (by decide +kernel) rfl, lw_gm 1123 (by decide +kernel) rfl, _, _, rfl⟩
theorem lc_X11_255 : xlV RX11 255 yX6_addName cX6_addName 3 (some .int) 1 5 := ⟨⟨lw_gm 1134 (by decide +kernel) rfl, lw_gm 115 (by decide +kernel) rfl, lw_gm 1137 (by decide +kernel) rfl, ⟨by decide, by decide, by decide +kernel⟩, by decide⟩, lw_gm 1135 (by decide +kernel) rfl, lw_gm 1136 (by decide +kernel) rfl, _, _, rfl⟩
theorem lc_X11_258 : xlV RX11 258 yX6_setReading cX6_setReading 7 (some .boolean) 3 5 := ⟨⟨lw_gm 1158 (by decide +kernel) rfl, lw_gm 115 (by decide +kernel) rfl, lw_gm 1161 (by decide +kernel) rfl, ⟨by decide, by decide, by decide +kernel⟩, by decide⟩, lw_gm 1159 (by decide +kernel) rfl, lw_gm 1160 (by decide +kernel) rfl, _, _, rfl⟩
theorem lc_X11_265 : xlV RX11 265 yX6_isRead cX6_isRead 4 (some .boolean) 2 5 := ⟨⟨lw_gm 1174 (by decide +kernel) rfl, lw_gm 115 (by decide +kernel) rfl, lw_gm 1177 (by decide +kernel) rfl, ⟨by decide, by decide, by decide +kernel⟩, by decide⟩, lw_gm 1175 (by decide +kernel) rfl, lw_gm 1176 (by decide +kernel) rfl, _, _, rfl⟩
theorem lc_X11_268 : xlV RX11 268 yX6_isName cX6_isName 2 (some .boolean) 1 5 := ⟨⟨lw_gm 1178 (by decide +kernel) rfl, lw_gm 115 (by decide +kernel) rfl, lw_gm 1181 (by decide +kernel) rfl, ⟨by decide, by decide, by decide +kernel⟩, by decide⟩, lw_gm 1179 (by decide +kernel) rfl, lw_gm 1180 (by decide +kernel) rfl, _, _, rfl⟩
theorem lc_X11_271 : xlV RX11 271 yX6_farFrom cX6_farFrom 4 (some .int) 3 5 := ⟨⟨lw_gm 1182 (by decide +kernel) rfl, lw_gm 115 (by decide +kernel) rfl, lw_gm 1185 (by decide +kernel) rfl, ⟨by decide, by decide, by decide +kernel⟩, by decide⟩, lw_gm 1183 (by decide +kernel) rfl, lw_gm 1184 (by decide +kernel) rfl, _, _, rfl⟩
theorem lc_X11_274 : xlV RX11 274 yX6_nearest cX6_nearest 7 (some .int) 2 5 := ⟨⟨lw_gm 1190 (by decide +kernel) rfl, lw_gm 115 (by decide +kernel) rfl, lw_gm 1193 (by decide +kernel) rfl, ⟨by decide, by decide, by decide +kernel⟩, by decide⟩, lw_gm 1191 (by decide +kernel) rfl, lw_gm 1192 (by decide +kernel) rfl, _, _, rfl⟩
theorem lc_X11_277 : xlV RX11 277 yX6_agreedName cX6_agreedName 6 (some .int) 1 5 := ⟨⟨lw_gm 1200 (by decide +kernel) rfl, lw_gm 115 (by decide +kernel) rfl, lw_gm 1203 (by decide +kernel) rfl, ⟨by decide, by decide, by decide +kernel⟩, by decide⟩, lw_gm 1201 (by decide +kernel) rfl, lw_gm 1202 (by decide +kernel) rfl, _, _, rfl⟩
theorem lc_X11_280 : xlV RX11 280 yX6_howMany cX6_howMany 4 (some .int) 1 5 := ⟨⟨lw_gm 1216 (by decide +kernel) rfl, lw_gm 115 (by decide +kernel) rfl, lw_gm 1219 (by decide +kernel) rfl, ⟨by decide, by decide, by decide +kernel⟩, by decide⟩, lw_gm 1217 (by decide +kernel) rfl, lw_gm 1218 (by decide +kernel) rfl, _, _, rfl⟩
theorem lc_X11_281 : xlV RX11 281 yX6_sureFor cX6_sureFor 4 (some .int) 1 5 := ⟨⟨lw_gm 1237 (by decide +kernel) rfl, lw_gm 115 (by decide +kernel) rfl, lw_gm 1240 (by decide +kernel) rfl, ⟨by decide, by decide, by decide +kernel⟩, by decide⟩, lw_gm 1238 (by decide +kernel) rfl, lw_gm 1239 (by decide +kernel) rfl, _, _, rfl⟩
theorem lc_X11_284 : xlV RX11 284 yX6_mostFor cX6_mostFor 4 (some .int) 1 5 := ⟨⟨lw_gm 1241 (by decide +kernel) rfl, lw_gm 115 (by decide +kernel) rfl, lw_gm 1244 (by decide +kernel) rfl, ⟨by decide, by decide, by decide +kernel⟩, by decide⟩, lw_gm 1242 (by decide +kernel) rfl, lw_gm 1243 (by decide +kernel) rfl, _, _, rfl⟩
theorem lc_X11_287 : xlV RX11 287 yX6_sureWinner cX6_sureWinner 2 (some .int) 0 5 := ⟨⟨lw_gm 1254 (by decide +kernel) rfl, lw_gm 115 (by decide +kernel) rfl, lw_gm 1257 (by decide +kernel) rfl, ⟨by decide, by decide, by decide +kernel⟩, by decide⟩, lw_gm 1255 (by decide +kernel) rfl, lw_gm 1256 (by decide +kernel) rfl, _, _, rfl⟩
theorem lc_X11_290 : xlV RX11 290 yX8_setAbsent cX8_setAbsent 5 (some .boolean) 3 7 := ⟨⟨lw_gm 1268 (by decide +kernel) rfl, lw_gm 113 (by decide +kernel) rfl, lw_gm 1271 (by decide +kernel) rfl, ⟨by decide, by decide, by decide +kernel⟩, by decide⟩, lw_gm 1269 (by decide +kernel) rfl, lw_gm 1270 (by decide +kernel) rfl, _, _, rfl⟩
theorem lc_X11_294 : xlV RX11 294 yX8_leastAbsent cX8_leastAbsent 2 (some .int) 1 7 := ⟨⟨lw_gm 1279 (by decide +kernel) rfl, lw_gm 113 (by decide +kernel) rfl, lw_gm 1282 (by decide +kernel) rfl, ⟨by decide, by decide, by decide +kernel⟩, by decide⟩, lw_gm 1280 (by decide +kernel) rfl, lw_gm 1281 (by decide +kernel) rfl, _, _, rfl⟩
theorem lc_X11_297 : xlV RX11 297 yX8_mostAbsent cX8_mostAbsent 2 (some .int) 1 7 := ⟨⟨lw_gm 1283 (by decide +kernel) rfl, lw_gm 113 (by decide +kernel) rfl, lw_gm 1286 (by decide +kernel) rfl, ⟨by decide, by decide, by decide +kernel⟩, by decide⟩, lw_gm 1284 (by decide +kernel) rfl, lw_gm 1285 (by decide +kernel) rfl, _, _, rfl⟩
theorem lc_X11_300 : xlV RX11 300 yX7_add cX7_add 8 (some .int) 4 6 := ⟨⟨lw_gm 1291 (by decide +kernel) rfl, lw_gm 116 (by decide +kernel) rfl, lw_gm 1294 (by decide +kernel) rfl, ⟨by decide, by decide, by decide +kernel⟩, by decide⟩, lw_gm 1292 (by decide +kernel) rfl, lw_gm 1293 (by decide +kernel) rfl, _, _, rfl⟩
theorem lc_X11_302 : xlV RX11 302 yX7_badEvents cX7_badEvents 2 (some .int) 1 6 := ⟨⟨lw_gm 1311 (by decide +kernel) rfl, lw_gm 116 (by decide +kernel) rfl, lw_gm 1314 (by decide +kernel) rfl, ⟨by decide, by decide, by decide +kernel⟩, by decide⟩, lw_gm 1312 (by decide +kernel) rfl, lw_gm 1313 (by decide +kernel) rfl, _, _, rfl⟩
theorem lc_X11_305 : xlS RX11 305 yX7_isSpan cX7_isSpan 2 (some .boolean) 2 := ⟨⟨lw_gm 1324 (by decide +kernel) rfl, lw_gm 116 (by decide +kernel) rfl, lw_gm 1326 (by decide +kernel) rfl, ⟨by decide, by decide, by decide +kernel⟩, by decide⟩, lw_gm 1325 (by decide +kernel) rfl⟩
theorem lc_X11_308 : xlV RX11 308 yX7_openTime cX7_openTime 12 (some .int) 4 6 := ⟨⟨lw_gm 1327 (by decide +kernel) rfl, lw_gm 116 (by decide +kernel) rfl, lw_gm 1330 (by decide +kernel) rfl, ⟨by decide, by decide, by decide +kernel⟩, by decide⟩, lw_gm 1328 (by decide +kernel) rfl, lw_gm 1329 (by decide +kernel) rfl, _, _, rfl⟩
theorem lc_X11_311 : xlS RX11 311 yX7_isTime cX7_isTime 1 (some .boolean) 1 := ⟨⟨lw_gm 1338 (by decide +kernel) rfl, lw_gm 116 (by decide +kernel) rfl, lw_gm 1298 (by decide +kernel) rfl, ⟨by decide, by decide, by decide +kernel⟩, by decide⟩, lw_gm 1297 (by decide +kernel) rfl⟩
theorem lc_X11_314 : xlV RX11 314 yX7_placeThen cX7_placeThen 6 (some .int) 2 6 := ⟨⟨lw_gm 1339 (by decide +kernel) rfl, lw_gm 116 (by decide +kernel) rfl, lw_gm 1342 (by decide +kernel) rfl, ⟨by decide, by decide, by decide +kernel⟩, by decide⟩, lw_gm 1340 (by decide +kernel) rfl, lw_gm 1341 (by decide +kernel) rfl, _, _, rfl⟩
theorem lc_X11_317 : xlS RX11 317 yX7_isPlace cX7_isPlace 1 (some .boolean) 1 := ⟨⟨lw_gm 1347 (by decide +kernel) rfl, lw_gm 116 (by decide +kernel) rfl, lw_gm 1305 (by decide +kernel) rfl, ⟨by decide, by decide, by decide +kernel⟩, by decide⟩, lw_gm 1304 (by decide +kernel) rfl⟩
theorem lc_X11_320 : xlV RX11 320 yX5_addRecount cX5_addRecount 6 (some .int) 3 4 := ⟨⟨lw_gm 1352 (by decide +kernel) rfl, lw_gm 111 (by decide +kernel) rfl, lw_gm 1355 (by decide +kernel) rfl, ⟨by decide, by decide, by decide +kernel⟩, by decide⟩, lw_gm 1353 (by decide +kernel) rfl, lw_gm 1354 (by decide +kernel) rfl, _, _, rfl⟩
theorem lc_X11_323 : xlV RX11 323 yX5_keptRecount cX5_keptRecount 6 (some .int) 3 4 := ⟨⟨lw_gm 1360 (by decide +kernel) rfl, lw_gm 111 (by decide +kernel) rfl, lw_gm 1363 (by decide +kernel) rfl, ⟨by decide, by decide, by decide +kernel⟩, by decide⟩, lw_gm 1361 (by decide +kernel) rfl, lw_gm 1362 (by decide +kernel) rfl, _, _, rfl⟩
theorem lc_X11_326 : xlV RX11 326 yX5_changes cX5_changes 8 (some .int) 2 4 := ⟨⟨lw_gm 1368 (by decide +kernel) rfl, lw_gm 111 (by decide +kernel) rfl, lw_gm 1371 (by decide +kernel) rfl, ⟨by decide, by decide, by decide +kernel⟩, by decide⟩, lw_gm 1369 (by decide +kernel) rfl, lw_gm 1370 (by decide +kernel) rfl, _, _, rfl⟩
theorem lc_X11_329 : xlV RX11 329 yX5_unlikeShown cX5_unlikeShown 4 (some .int) 1 4 := ⟨⟨lw_gm 1376 (by decide +kernel) rfl, lw_gm 111 (by decide +kernel) rfl, lw_gm 1379 (by decide +kernel) rfl, ⟨by decide, by decide, by decide +kernel⟩, by decide⟩, lw_gm 1377 (by decide +kernel) rfl, lw_gm 1378 (by decide +kernel) rfl, _, _, rfl⟩
theorem lc_X11_332 : xlV RX11 332 yX5_takeRecounts cX5_takeRecounts 4 (some .int) 1 4 := ⟨⟨lw_gm 1390 (by decide +kernel) rfl, lw_gm 111 (by decide +kernel) rfl, lw_gm 1393 (by decide +kernel) rfl, ⟨by decide, by decide, by decide +kernel⟩, by decide⟩, lw_gm 1391 (by decide +kernel) rfl, lw_gm 1392 (by decide +kernel) rfl, _, _, rfl⟩
theorem lc_X11_80 : xlV RX11 80 yX0_addOffice cX0_addOffice 3 (some .int) 2 0 := ⟨⟨lw_gm 502 (by decide +kernel) rfl, lw_gm 105 (by decide +kernel) rfl, lw_gm 505 (by decide +kernel) rfl, ⟨by decide, by decide, by decide +kernel⟩, by decide⟩, lw_gm 503 (by decide +kernel) rfl, lw_gm 504 (by decide +kernel) rfl, _, _, rfl⟩
theorem lc_X11_84 : xlV RX11 84 yX0_addStrap cX0_addStrap 3 (some .int) 2 0 := ⟨⟨lw_gm 532 (by decide +kernel) rfl, lw_gm 105 (by decide +kernel) rfl, lw_gm 535 (by decide +kernel) rfl, ⟨by decide, by decide, by decide +kernel⟩, by decide⟩, lw_gm 533 (by decide +kernel) rfl, lw_gm 534 (by decide +kernel) rfl, _, _, rfl⟩
theorem lc_X11_87 : xlV RX11 87 yX0_dropStrap cX0_dropStrap 1 (some .int) 0 0 := ⟨⟨lw_gm 540 (by decide +kernel) rfl, lw_gm 105 (by decide +kernel) rfl, lw_gm 543 (by decide +kernel) rfl, ⟨by decide, by decide, by decide +kernel⟩, by decide⟩, lw_gm 541 (by decide +kernel) rfl, lw_gm 542 (by decide +kernel) rfl, _, _, rfl⟩
theorem lc_X11_91 : xlV RX11 91 yX0_isRow cX0_isRow 2 (some .boolean) 1 0 := ⟨⟨lw_gm 548 (by decide +kernel) rfl, lw_gm 105 (by decide +kernel) rfl, lw_gm 509 (by decide +kernel) rfl, ⟨by decide, by decide, by decide +kernel⟩, by decide⟩, lw_gm 507 (by decide +kernel) rfl, lw_gm 508 (by decide +kernel) rfl, _, _, rfl⟩
theorem lc_X11_95 : xlS RX11 95 yX1_within cX1_within 3 (some .boolean) 3 := ⟨⟨lw_gm 549 (by decide +kernel) rfl, lw_gm 106 (by decide +kernel) rfl, lw_gm 518 (by decide +kernel) rfl, ⟨by decide, by decide, by decide +kernel⟩, by decide⟩, lw_gm 517 (by decide +kernel) rfl⟩
def F_X11_office  (x1 : Int32) (x2 : Int32)   (M : xM) : Option (Int32 × xM) :=
  (F_X0_addOffice x1 x2 M).bind fun q1 =>
  some (q1.1, q1.2)
set_option maxRecDepth 100000 in
set_option maxHeartbeats 4000000 in
theorem w_X11_office {l : Launch} (x1 : Int32) (x2 : Int32)     (M : xM)  : AW SC l RX11 cX11_office 3 (some .int) 4 ki (F_X11_office x1 x2  M) 0 [some (xr 0), some (xi x1), some (xi x2)] [] M := by
  unfold F_X11_office
  refine A_aload_n dX11_office_0 rfl ?_
  refine A_getr lf_X11_12 rfl rfl dX11_office_1 ?_
  refine A_iload_n dX11_office_4 rfl ?_
  refine A_iload_n dX11_office_5 rfl ?_
  refine A_callVi (a_X0_addOffice (l := l) _ _ _ ) lc_X11_80 rfl rfl (by decide) (Nat.le_of_ble_eq_true rfl) rfl dX11_office_6 (fun q1 Mq1 hq1 => ?_)
  exact A_iret rfl dX11_office_9
theorem a_X11_office {l : Launch}  (x1 : Int32) (x2 : Int32) (M : xM)  : AM SC l yX11_office cX11_office 3 (some .int) 4 ki [xr 0, xi x1, xi x2] M (F_X11_office  x1 x2  M) :=
  AM.of (L0 := [some (xr 0), some (xi x1), some (xi x2)]) (w_X11_office (l := l) x1 x2  M ) (by decide +kernel) rfl (Nat.le_of_ble_eq_true rfl) ⟨rfl, rfl, rfl, trivial⟩
def F_X11_strap  (x1 : Int32) (x2 : Int32)   (M : xM) : Option (Int32 × xM) :=
  (F_X0_addStrap x1 x2 M).bind fun q1 =>
  some (q1.1, q1.2)
set_option maxRecDepth 100000 in
set_option maxHeartbeats 4000000 in
theorem w_X11_strap {l : Launch} (x1 : Int32) (x2 : Int32)     (M : xM)  : AW SC l RX11 cX11_strap 3 (some .int) 4 ki (F_X11_strap x1 x2  M) 0 [some (xr 0), some (xi x1), some (xi x2)] [] M := by
  unfold F_X11_strap
  refine A_aload_n dX11_strap_0 rfl ?_
  refine A_getr lf_X11_12 rfl rfl dX11_strap_1 ?_
  refine A_iload_n dX11_strap_4 rfl ?_
  refine A_iload_n dX11_strap_5 rfl ?_
  refine A_callVi (a_X0_addStrap (l := l) _ _ _ ) lc_X11_84 rfl rfl (by decide) (Nat.le_of_ble_eq_true rfl) rfl dX11_strap_6 (fun q1 Mq1 hq1 => ?_)
  exact A_iret rfl dX11_strap_9
theorem a_X11_strap {l : Launch}  (x1 : Int32) (x2 : Int32) (M : xM)  : AM SC l yX11_strap cX11_strap 3 (some .int) 4 ki [xr 0, xi x1, xi x2] M (F_X11_strap  x1 x2  M) :=
  AM.of (L0 := [some (xr 0), some (xi x1), some (xi x2)]) (w_X11_strap (l := l) x1 x2  M ) (by decide +kernel) rfl (Nat.le_of_ble_eq_true rfl) ⟨rfl, rfl, rfl, trivial⟩
def F_X11_unstrap     (M : xM) : Option (Int32 × xM) :=
  (F_X0_dropStrap M).bind fun q1 =>
  some (q1.1, q1.2)
set_option maxRecDepth 100000 in
set_option maxHeartbeats 4000000 in
theorem w_X11_unstrap {l : Launch}      (M : xM)  : AW SC l RX11 cX11_unstrap 1 (some .int) 1 ki (F_X11_unstrap   M) 0 [some (xr 0)] [] M := by
  unfold F_X11_unstrap
  refine A_aload_n dX11_unstrap_0 rfl ?_
  refine A_getr lf_X11_12 rfl rfl dX11_unstrap_1 ?_
  refine A_callVi (a_X0_dropStrap (l := l)  _ ) lc_X11_87 rfl rfl (by decide) (Nat.le_of_ble_eq_true rfl) rfl dX11_unstrap_4 (fun q1 Mq1 hq1 => ?_)
  exact A_iret rfl dX11_unstrap_7
theorem a_X11_unstrap {l : Launch}   (M : xM)  : AM SC l yX11_unstrap cX11_unstrap 1 (some .int) 1 ki [xr 0] M (F_X11_unstrap    M) :=
  AM.of (L0 := [some (xr 0)]) (w_X11_unstrap (l := l)   M ) (by decide +kernel) rfl (Nat.le_of_ble_eq_true rfl) ⟨rfl, trivial⟩
def F_X11_may_b45 (fu : Nat)  (x1 : Int32) (x2 : Int32)  (s0 : Int32) (M : xM) : Option (Int32 × xM) :=
  (if s0 = 0 then
  some ((0 : Int32), M)
  else
  some ((1 : Int32), M))
set_option maxRecDepth 100000 in
set_option maxHeartbeats 4000000 in
theorem a_X11_may_b45 {l : Launch} (fu : Nat) (x1 : Int32) (x2 : Int32)    (s0 : Int32) (M : xM)  : AW SC l RX11 cX11_may 4 (some .int) 3 ki (F_X11_may_b45 fu x1 x2 s0 M) 45 [none, none, none, none] [xi s0] M := by
  unfold F_X11_may_b45
  refine A_istore_n dX11_may_45 (Nat.le_of_ble_eq_true rfl) rfl ?_
  refine A_iload_n dX11_may_46 rfl ?_
  refine A_if_eq (tgt := 54) dX11_may_47 (by decide) (fun _ => ?_) (fun _ => ?_)
  · refine A_iconst (v := (0 : Int32)) dX11_may_54 oI_0 ?_
    exact A_iret rfl dX11_may_55
  · refine A_iconst (v := (1 : Int32)) dX11_may_50 oI_1 ?_
    refine A_goto (tgt := 55) dX11_may_51 (by decide) ?_
    exact A_iret rfl dX11_may_55
def F_X11_may (fu : Nat)  (x1 : Int32) (x2 : Int32)   (M : xM) : Option (Int32 × xM) :=
  (if (P_X0_isRow x1 M) = 0 then
  some ((-1 : Int32), M)
  else
  (if (P_X1_within x2 (0 : Int32) (1 : Int32) M) = 0 then
  some ((-1 : Int32), M)
  else
  (if x2 = 0 then
  (F_X0_isLet fu x1 M).bind fun q2 =>
  F_X11_may_b45 fu x1 x2 q2.1 q2.2
  else
  (F_X0_isLawful fu x1 M).bind fun q1 =>
  F_X11_may_b45 fu x1 x2 q1.1 q1.2)))
set_option maxRecDepth 100000 in
set_option maxHeartbeats 4000000 in
theorem w_X11_may {l : Launch} (fu : Nat) (x1 : Int32) (x2 : Int32)     (M : xM)  : AW SC l RX11 cX11_may 4 (some .int) 3 ki (F_X11_may fu x1 x2  M) 0 [some (xr 0), some (xi x1), some (xi x2), none] [] M := by
  unfold F_X11_may
  refine A_aload_n dX11_may_0 rfl ?_
  refine A_getr lf_X11_12 rfl rfl dX11_may_1 ?_
  refine A_iload_n dX11_may_4 rfl ?_
  refine A_callVp (a_X0_isRow (l := l) _ _ ) lc_X11_91 rfl rfl (by decide) (Nat.le_of_ble_eq_true rfl) rfl dX11_may_5 ?_
  refine A_if_eq (tgt := 20) dX11_may_8 (by decide) (fun _ => ?_) (fun _ => ?_)
  · refine A_iconst (v := (-1 : Int32)) dX11_may_20 oI_m1 ?_
    exact A_iret rfl dX11_may_21
  · refine A_iload_n dX11_may_11 rfl ?_
    refine A_iconst (v := (0 : Int32)) dX11_may_12 oI_0 ?_
    refine A_iconst (v := (1 : Int32)) dX11_may_13 oI_1 ?_
    refine A_callSp (a_X1_within (S := SC) (l := l) _ _ _ _ ) lc_X11_95 rfl (by decide) (Nat.le_of_ble_eq_true rfl) rfl dX11_may_14 ?_
    refine A_if_ne (tgt := 22) dX11_may_17 (by decide) (fun _ => ?_) (fun _ => ?_)
    · refine A_iconst (v := (-1 : Int32)) dX11_may_20 oI_m1 ?_
      exact A_iret rfl dX11_may_21
    · refine A_iload_n dX11_may_22 rfl ?_
      refine A_if_ne (tgt := 37) dX11_may_23 (by decide) (fun _ => ?_) (fun _ => ?_)
      · refine A_aload_n dX11_may_26 rfl ?_
        refine A_getr lf_X11_12 rfl rfl dX11_may_27 ?_
        refine A_iload_n dX11_may_30 rfl ?_
        refine A_callVi (a_X0_isLet (l := l) fu _ _ ) lc_X11_101 rfl rfl (by decide) (Nat.le_of_ble_eq_true rfl) rfl dX11_may_31 (fun q2 Mq2 hq2 => ?_)
        refine A_goto (tgt := 45) dX11_may_34 (by decide) ?_
        exact (a_X11_may_b45 (l := l) fu x1 x2  _ _ ).sub trivial
      · refine A_aload_n dX11_may_37 rfl ?_
        refine A_getr lf_X11_12 rfl rfl dX11_may_38 ?_
        refine A_iload_n dX11_may_41 rfl ?_
        refine A_callVi (a_X0_isLawful (l := l) fu _ _ ) lc_X11_104 rfl rfl (by decide) (Nat.le_of_ble_eq_true rfl) rfl dX11_may_42 (fun q1 Mq1 hq1 => ?_)
        exact (a_X11_may_b45 (l := l) fu x1 x2  _ _ ).sub trivial
theorem a_X11_may {l : Launch} (fu : Nat)  (x1 : Int32) (x2 : Int32) (M : xM)  : AM SC l yX11_may cX11_may 4 (some .int) 3 ki [xr 0, xi x1, xi x2] M (F_X11_may fu x1 x2  M) :=
  AM.of (L0 := [some (xr 0), some (xi x1), some (xi x2), none]) (w_X11_may (l := l) fu x1 x2  M ) (by decide +kernel) rfl (Nat.le_of_ble_eq_true rfl) ⟨rfl, rfl, rfl, trivial⟩
def F_X11_proof (fu : Nat)  (x1 : Int32)   (M : xM) : Option (Int32 × xM) :=
  (if (P_X1_within x1 (0 : Int32) (1 : Int32) M) = 0 then
  some ((-1 : Int32), M)
  else
  (if x1 = 0 then
  (F_X0_beatingRow fu M).bind fun q2 =>
  some (q2.1, q2.2)
  else
  (F_X0_barredRow fu M).bind fun q1 =>
  some (q1.1, q1.2)))
set_option maxRecDepth 100000 in
set_option maxHeartbeats 4000000 in
theorem w_X11_proof {l : Launch} (fu : Nat) (x1 : Int32)     (M : xM)  : AW SC l RX11 cX11_proof 2 (some .int) 6 ki (F_X11_proof fu x1  M) 0 [some (xr 0), some (xi x1)] [] M := by
  unfold F_X11_proof
  refine A_iload_n dX11_proof_0 rfl ?_
  refine A_iconst (v := (0 : Int32)) dX11_proof_1 oI_0 ?_
  refine A_iconst (v := (1 : Int32)) dX11_proof_2 oI_1 ?_
  refine A_callSp (a_X1_within (S := SC) (l := l) _ _ _ _ ) lc_X11_95 rfl (by decide) (Nat.le_of_ble_eq_true rfl) rfl dX11_proof_3 ?_
  refine A_if_ne (tgt := 11) dX11_proof_6 (by decide) (fun _ => ?_) (fun _ => ?_)
  · refine A_iconst (v := (-1 : Int32)) dX11_proof_9 oI_m1 ?_
    exact A_iret rfl dX11_proof_10
  · refine A_iload_n dX11_proof_11 rfl ?_
    refine A_if_ne (tgt := 25) dX11_proof_12 (by decide) (fun _ => ?_) (fun _ => ?_)
    · refine A_aload_n dX11_proof_15 rfl ?_
      refine A_getr lf_X11_12 rfl rfl dX11_proof_16 ?_
      refine A_callVi (a_X0_beatingRow (l := l) fu  _ ) lc_X11_107 rfl rfl (by decide) (Nat.le_of_ble_eq_true rfl) rfl dX11_proof_19 (fun q2 Mq2 hq2 => ?_)
      refine A_goto (tgt := 32) dX11_proof_22 (by decide) ?_
      exact A_iret rfl dX11_proof_32
    · refine A_aload_n dX11_proof_25 rfl ?_
      refine A_getr lf_X11_12 rfl rfl dX11_proof_26 ?_
      refine A_callVi (a_X0_barredRow (l := l) fu  _ ) lc_X11_110 rfl rfl (by decide) (Nat.le_of_ble_eq_true rfl) rfl dX11_proof_29 (fun q1 Mq1 hq1 => ?_)
      exact A_iret rfl dX11_proof_32
theorem a_X11_proof {l : Launch} (fu : Nat)  (x1 : Int32) (M : xM)  : AM SC l yX11_proof cX11_proof 2 (some .int) 6 ki [xr 0, xi x1] M (F_X11_proof fu x1  M) :=
  AM.of (L0 := [some (xr 0), some (xi x1)]) (w_X11_proof (l := l) fu x1  M ) (by decide +kernel) rfl (Nat.le_of_ble_eq_true rfl) ⟨rfl, rfl, trivial⟩
def F_X11_rows (fu : Nat)     (M : xM) : Option (Int32 × xM) :=
  (F_X0_letRows fu M).bind fun q1 =>
  some (q1.1, q1.2)
set_option maxRecDepth 100000 in
set_option maxHeartbeats 4000000 in
theorem w_X11_rows {l : Launch} (fu : Nat)      (M : xM)  : AW SC l RX11 cX11_rows 1 (some .int) 6 ki (F_X11_rows fu  M) 0 [some (xr 0)] [] M := by
  unfold F_X11_rows
  refine A_aload_n dX11_rows_0 rfl ?_
  refine A_getr lf_X11_12 rfl rfl dX11_rows_1 ?_
  refine A_callVi (a_X0_letRows (l := l) fu  _ ) lc_X11_113 rfl rfl (by decide) (Nat.le_of_ble_eq_true rfl) rfl dX11_rows_4 (fun q1 Mq1 hq1 => ?_)
  exact A_iret rfl dX11_rows_7
theorem a_X11_rows {l : Launch} (fu : Nat)   (M : xM)  : AM SC l yX11_rows cX11_rows 1 (some .int) 6 ki [xr 0] M (F_X11_rows fu   M) :=
  AM.of (L0 := [some (xr 0)]) (w_X11_rows (l := l) fu  M ) (by decide +kernel) rfl (Nat.le_of_ble_eq_true rfl) ⟨rfl, trivial⟩
def F_X11_need (fu : Nat)     (M : xM) : Option (Int32 × xM) :=
  (F_X0_neededStraps fu M).bind fun q1 =>
  some (q1.1, q1.2)
set_option maxRecDepth 100000 in
set_option maxHeartbeats 4000000 in
theorem w_X11_need {l : Launch} (fu : Nat)      (M : xM)  : AW SC l RX11 cX11_need 1 (some .int) 6 ki (F_X11_need fu  M) 0 [some (xr 0)] [] M := by
  unfold F_X11_need
  refine A_aload_n dX11_need_0 rfl ?_
  refine A_getr lf_X11_12 rfl rfl dX11_need_1 ?_
  refine A_callVi (a_X0_neededStraps (l := l) fu  _ ) lc_X11_116 rfl rfl (by decide) (Nat.le_of_ble_eq_true rfl) rfl dX11_need_4 (fun q1 Mq1 hq1 => ?_)
  exact A_iret rfl dX11_need_7
theorem a_X11_need {l : Launch} (fu : Nat)   (M : xM)  : AM SC l yX11_need cX11_need 1 (some .int) 6 ki [xr 0] M (F_X11_need fu   M) :=
  AM.of (L0 := [some (xr 0)]) (w_X11_need (l := l) fu  M ) (by decide +kernel) rfl (Nat.le_of_ble_eq_true rfl) ⟨rfl, trivial⟩
def F_X11_orders (fu : Nat)  (x1 : Int32)   (M : xM) : Option (Int32 × xM) :=
  (F_X0_waysToPull fu x1 M).bind fun q1 =>
  some (q1.1, q1.2)
set_option maxRecDepth 100000 in
set_option maxHeartbeats 4000000 in
theorem w_X11_orders {l : Launch} (fu : Nat) (x1 : Int32)     (M : xM)  : AW SC l RX11 cX11_orders 2 (some .int) 4 ki (F_X11_orders fu x1  M) 0 [some (xr 0), some (xi x1)] [] M := by
  unfold F_X11_orders
  refine A_aload_n dX11_orders_0 rfl ?_
  refine A_getr lf_X11_12 rfl rfl dX11_orders_1 ?_
  refine A_iload_n dX11_orders_4 rfl ?_
  refine A_callVi (a_X0_waysToPull (l := l) fu _ _ ) lc_X11_119 rfl rfl (by decide) (Nat.le_of_ble_eq_true rfl) rfl dX11_orders_5 (fun q1 Mq1 hq1 => ?_)
  exact A_iret rfl dX11_orders_8
theorem a_X11_orders {l : Launch} (fu : Nat)  (x1 : Int32) (M : xM)  : AM SC l yX11_orders cX11_orders 2 (some .int) 4 ki [xr 0, xi x1] M (F_X11_orders fu x1  M) :=
  AM.of (L0 := [some (xr 0), some (xi x1)]) (w_X11_orders (l := l) fu x1  M ) (by decide +kernel) rfl (Nat.le_of_ble_eq_true rfl) ⟨rfl, rfl, trivial⟩
def F_X11_feed (fu : Nat)  (x1 : Int32) (x2 : Int32) (x3 : Int32) (x4 : Int32) (x5 : Int32)   (M : xM) : Option (Int32 × xM) :=
  (F_X9_bytesIn fu x1 M).bind fun q1 =>
  (F_X9_bytesIn fu x2 q1.2).bind fun q2 =>
  (F_X9_bytesIn fu x3 q2.2).bind fun q3 =>
  (F_X9_bytesIn fu x4 q3.2).bind fun q4 =>
  (F_X9_bytesIn fu x5 q4.2).bind fun q5 =>
  (if ((q5.2 2 1) + ((((q1.1 + q2.1) + q3.1) + q4.1) + q5.1)) ≤ (120 : Int32) then
  (F_X9_append fu x1 q5.2).bind fun q6 =>
  (F_X9_append fu x2 q6).bind fun q7 =>
  (F_X9_append fu x3 q7).bind fun q8 =>
  (F_X9_append fu x4 q8).bind fun q9 =>
  (F_X9_append fu x5 q9).bind fun q10 =>
  some ((q10 2 1), q10)
  else
  some ((-1 : Int32), q5.2))
set_option maxRecDepth 100000 in
set_option maxHeartbeats 4000000 in
theorem w_X11_feed {l : Launch} (fu : Nat) (x1 : Int32) (x2 : Int32) (x3 : Int32) (x4 : Int32) (x5 : Int32)     (M : xM)  : AW SC l RX11 cX11_feed 7 (some .int) 2 ki (F_X11_feed fu x1 x2 x3 x4 x5  M) 0 [some (xr 0), some (xi x1), some (xi x2), some (xi x3), some (xi x4), some (xi x5), none] [] M := by
  unfold F_X11_feed
  refine A_iload_n dX11_feed_0 rfl ?_
  refine A_callSi (a_X9_bytesIn (l := l) fu _ _ ) lc_X11_123 rfl (by decide) (Nat.le_of_ble_eq_true rfl) rfl dX11_feed_1 (fun q1 Mq1 hq1 => ?_)
  refine A_iload_n dX11_feed_4 rfl ?_
  refine A_callSi (a_X9_bytesIn (l := l) fu _ _ ) lc_X11_123 rfl (by decide) (Nat.le_of_ble_eq_true rfl) rfl dX11_feed_5 (fun q2 Mq2 hq2 => ?_)
  refine A_iadd dX11_feed_8 ?_
  refine A_iload_n dX11_feed_9 rfl ?_
  refine A_callSi (a_X9_bytesIn (l := l) fu _ _ ) lc_X11_123 rfl (by decide) (Nat.le_of_ble_eq_true rfl) rfl dX11_feed_10 (fun q3 Mq3 hq3 => ?_)
  refine A_iadd dX11_feed_13 ?_
  refine A_iload dX11_feed_14 rfl ?_
  refine A_callSi (a_X9_bytesIn (l := l) fu _ _ ) lc_X11_123 rfl (by decide) (Nat.le_of_ble_eq_true rfl) rfl dX11_feed_16 (fun q4 Mq4 hq4 => ?_)
  refine A_iadd dX11_feed_19 ?_
  refine A_iload dX11_feed_20 rfl ?_
  refine A_callSi (a_X9_bytesIn (l := l) fu _ _ ) lc_X11_123 rfl (by decide) (Nat.le_of_ble_eq_true rfl) rfl dX11_feed_22 (fun q5 Mq5 hq5 => ?_)
  refine A_iadd dX11_feed_25 ?_
  refine A_istore dX11_feed_26 (Nat.le_of_ble_eq_true rfl) rfl ?_
  refine A_aload_n dX11_feed_28 rfl ?_
  refine A_getr lf_X11_21 rfl rfl dX11_feed_29 ?_
  refine A_geti lf_X11_126 rfl rfl dX11_feed_32 ?_
  refine A_iload dX11_feed_35 rfl ?_
  refine A_iadd dX11_feed_37 ?_
  refine A_bipush (v := (120 : Int32)) dX11_feed_38 oB_120 ?_
  refine A_icmp_le (tgt := 45) dX11_feed_40 (by decide) (fun _ => ?_) (fun _ => ?_)
  · refine A_aload_n dX11_feed_45 rfl ?_
    refine A_getr lf_X11_21 rfl rfl dX11_feed_46 ?_
    refine A_iload_n dX11_feed_49 rfl ?_
    refine A_callVv (a_X9_append (l := l) fu _ _ ) lc_X11_130 rfl rfl (by decide) (Nat.le_of_ble_eq_true rfl) rfl dX11_feed_50 (fun q6 hq6 => ?_)
    refine A_aload_n dX11_feed_53 rfl ?_
    refine A_getr lf_X11_21 rfl rfl dX11_feed_54 ?_
    refine A_iload_n dX11_feed_57 rfl ?_
    refine A_callVv (a_X9_append (l := l) fu _ _ ) lc_X11_130 rfl rfl (by decide) (Nat.le_of_ble_eq_true rfl) rfl dX11_feed_58 (fun q7 hq7 => ?_)
    refine A_aload_n dX11_feed_61 rfl ?_
    refine A_getr lf_X11_21 rfl rfl dX11_feed_62 ?_
    refine A_iload_n dX11_feed_65 rfl ?_
    refine A_callVv (a_X9_append (l := l) fu _ _ ) lc_X11_130 rfl rfl (by decide) (Nat.le_of_ble_eq_true rfl) rfl dX11_feed_66 (fun q8 hq8 => ?_)
    refine A_aload_n dX11_feed_69 rfl ?_
    refine A_getr lf_X11_21 rfl rfl dX11_feed_70 ?_
    refine A_iload dX11_feed_73 rfl ?_
    refine A_callVv (a_X9_append (l := l) fu _ _ ) lc_X11_130 rfl rfl (by decide) (Nat.le_of_ble_eq_true rfl) rfl dX11_feed_75 (fun q9 hq9 => ?_)
    refine A_aload_n dX11_feed_78 rfl ?_
    refine A_getr lf_X11_21 rfl rfl dX11_feed_79 ?_
    refine A_iload dX11_feed_82 rfl ?_
    refine A_callVv (a_X9_append (l := l) fu _ _ ) lc_X11_130 rfl rfl (by decide) (Nat.le_of_ble_eq_true rfl) rfl dX11_feed_84 (fun q10 hq10 => ?_)
    refine A_aload_n dX11_feed_87 rfl ?_
    refine A_getr lf_X11_21 rfl rfl dX11_feed_88 ?_
    refine A_geti lf_X11_126 rfl rfl dX11_feed_91 ?_
    exact A_iret rfl dX11_feed_94
  · refine A_iconst (v := (-1 : Int32)) dX11_feed_43 oI_m1 ?_
    exact A_iret rfl dX11_feed_44
theorem a_X11_feed {l : Launch} (fu : Nat)  (x1 : Int32) (x2 : Int32) (x3 : Int32) (x4 : Int32) (x5 : Int32) (M : xM)  : AM SC l yX11_feed cX11_feed 7 (some .int) 2 ki [xr 0, xi x1, xi x2, xi x3, xi x4, xi x5] M (F_X11_feed fu x1 x2 x3 x4 x5  M) :=
  AM.of (L0 := [some (xr 0), some (xi x1), some (xi x2), some (xi x3), some (xi x4), some (xi x5), none]) (w_X11_feed (l := l) fu x1 x2 x3 x4 x5  M ) (by decide +kernel) rfl (Nat.le_of_ble_eq_true rfl) ⟨rfl, rfl, rfl, rfl, rfl, rfl, trivial⟩
def F_X11_end  (x1 : Int32)   (M : xM) : Option (Int32 × xM) :=
  (if (P_X1_within x1 (0 : Int32) (M 2 1) M) = 0 then
  some ((0 : Int32), M)
  else
  some ((1 : Int32), (xset M 2 1 x1)))
set_option maxRecDepth 100000 in
set_option maxHeartbeats 4000000 in
theorem w_X11_end {l : Launch} (x1 : Int32)     (M : xM)  : AW SC l RX11 cX11_end 2 (some .boolean) 1 ki (F_X11_end x1  M) 0 [some (xr 0), some (xi x1)] [] M := by
  unfold F_X11_end
  refine A_iload_n dX11_end_0 rfl ?_
  refine A_iconst (v := (0 : Int32)) dX11_end_1 oI_0 ?_
  refine A_aload_n dX11_end_2 rfl ?_
  refine A_getr lf_X11_21 rfl rfl dX11_end_3 ?_
  refine A_geti lf_X11_126 rfl rfl dX11_end_6 ?_
  refine A_callSp (a_X1_within (S := SC) (l := l) _ _ _ _ ) lc_X11_95 rfl (by decide) (Nat.le_of_ble_eq_true rfl) rfl dX11_end_9 ?_
  refine A_if_ne (tgt := 17) dX11_end_12 (by decide) (fun _ => ?_) (fun _ => ?_)
  · refine A_iconst (v := (0 : Int32)) dX11_end_15 oI_0 ?_
    exact A_zret' rfl (Or.inl rfl) dX11_end_16
  · refine A_aload_n dX11_end_17 rfl ?_
    refine A_getr lf_X11_21 rfl rfl dX11_end_18 ?_
    refine A_iload_n dX11_end_21 rfl ?_
    refine A_puti lf_X11_126 rfl rfl dX11_end_22 ?_
    refine A_iconst (v := (1 : Int32)) dX11_end_25 oI_1 ?_
    exact A_zret' rfl (Or.inr rfl) dX11_end_26
theorem a_X11_end {l : Launch}  (x1 : Int32) (M : xM)  : AM SC l yX11_end cX11_end 2 (some .boolean) 1 ki [xr 0, xi x1] M (F_X11_end  x1  M) :=
  AM.of (L0 := [some (xr 0), some (xi x1)]) (w_X11_end (l := l) x1  M ) (by decide +kernel) rfl (Nat.le_of_ble_eq_true rfl) ⟨rfl, rfl, trivial⟩
def F_X11_fault (fu : Nat)     (M : xM) : Option (Int32 × xM) :=
  (F_X4_faultIn fu M).bind fun q1 =>
  some (q1.1, q1.2)
set_option maxRecDepth 100000 in
set_option maxHeartbeats 4000000 in
theorem w_X11_fault {l : Launch} (fu : Nat)      (M : xM)  : AW SC l RX11 cX11_fault 1 (some .int) 67 ki (F_X11_fault fu  M) 0 [some (xr 0)] [] M := by
  unfold F_X11_fault
  refine A_aload_n dX11_fault_0 rfl ?_
  refine A_getr lf_X11_28 rfl rfl dX11_fault_1 ?_
  refine A_aload_n dX11_fault_4 rfl ?_
  refine A_getr lf_X11_21 rfl rfl dX11_fault_5 ?_
  refine A_callVi (a_X4_faultIn (l := l) fu  _ ) lc_X11_133 rfl rfl (by decide) (Nat.le_of_ble_eq_true rfl) rfl dX11_fault_8 (fun q1 Mq1 hq1 => ?_)
  exact A_iret rfl dX11_fault_11
theorem a_X11_fault {l : Launch} (fu : Nat)   (M : xM)  : AM SC l yX11_fault cX11_fault 1 (some .int) 67 ki [xr 0] M (F_X11_fault fu   M) :=
  AM.of (L0 := [some (xr 0)]) (w_X11_fault (l := l) fu  M ) (by decide +kernel) rfl (Nat.le_of_ble_eq_true rfl) ⟨rfl, trivial⟩
def F_X11_law (fu : Nat)     (M : xM) : Option (Int32 × xM) :=
  (F_X4_add fu M).bind fun q1 =>
  some (q1.1, q1.2)
set_option maxRecDepth 100000 in
set_option maxHeartbeats 4000000 in
theorem w_X11_law {l : Launch} (fu : Nat)      (M : xM)  : AW SC l RX11 cX11_law 1 (some .int) 68 ki (F_X11_law fu  M) 0 [some (xr 0)] [] M := by
  unfold F_X11_law
  refine A_aload_n dX11_law_0 rfl ?_
  refine A_getr lf_X11_28 rfl rfl dX11_law_1 ?_
  refine A_aload_n dX11_law_4 rfl ?_
  refine A_getr lf_X11_21 rfl rfl dX11_law_5 ?_
  refine A_callVi (a_X4_add (l := l) fu  _ ) lc_X11_137 rfl rfl (by decide) (Nat.le_of_ble_eq_true rfl) rfl dX11_law_8 (fun q1 Mq1 hq1 => ?_)
  exact A_iret rfl dX11_law_11
theorem a_X11_law {l : Launch} (fu : Nat)   (M : xM)  : AM SC l yX11_law cX11_law 1 (some .int) 68 ki [xr 0] M (F_X11_law fu   M) :=
  AM.of (L0 := [some (xr 0)]) (w_X11_law (l := l) fu  M ) (by decide +kernel) rfl (Nat.le_of_ble_eq_true rfl) ⟨rfl, trivial⟩
def F_X11_settleVoters (fu : Nat)  (x1 : Int32)   (M : xM) : Option (xM) :=
  (if (P_X5_isMachine x1 M) = 0 then
  some M
  else
  (F_X4_votersBy fu (M 3 1) 22 30 (x1 * (5 : Int32)) M).bind fun q1 =>
  (F_X1_put 23 6 x1 q1.1 q1.2).bind fun q2 =>
  some q2)
set_option maxRecDepth 100000 in
set_option maxHeartbeats 4000000 in
theorem w_X11_settleVoters {l : Launch} (fu : Nat) (x1 : Int32)     (M : xM)  : AW SC l RX11 cX11_settleVoters 3 none 67 kv (F_X11_settleVoters fu x1  M) 0 [some (xr 0), some (xi x1), none] [] M := by
  unfold F_X11_settleVoters
  refine A_aload_n dX11_settleVoters_0 rfl ?_
  refine A_getr lf_X11_37 rfl rfl dX11_settleVoters_1 ?_
  refine A_iload_n dX11_settleVoters_4 rfl ?_
  refine A_callVp (a_X5_isMachine (l := l) _ _ ) lc_X11_155 rfl rfl (by decide) (Nat.le_of_ble_eq_true rfl) rfl dX11_settleVoters_5 ?_
  refine A_if_eq (tgt := 48) dX11_settleVoters_8 (by decide) (fun _ => ?_) (fun _ => ?_)
  · exact A_vret rfl dX11_settleVoters_48
  · refine A_iload_n dX11_settleVoters_11 rfl ?_
    refine A_iconst (v := (5 : Int32)) dX11_settleVoters_12 oI_5 ?_
    refine A_imul dX11_settleVoters_13 ?_
    refine A_istore_n dX11_settleVoters_14 (Nat.le_of_ble_eq_true rfl) rfl ?_
    refine A_aload_n dX11_settleVoters_15 rfl ?_
    refine A_getr lf_X11_37 rfl rfl dX11_settleVoters_16 ?_
    refine A_getr lf_X11_158 rfl rfl dX11_settleVoters_19 ?_
    refine A_iload_n dX11_settleVoters_22 rfl ?_
    refine A_aload_n dX11_settleVoters_23 rfl ?_
    refine A_getr lf_X11_28 rfl rfl dX11_settleVoters_24 ?_
    refine A_aload_n dX11_settleVoters_27 rfl ?_
    refine A_getr lf_X11_28 rfl rfl dX11_settleVoters_28 ?_
    refine A_geti lf_X11_143 rfl rfl dX11_settleVoters_31 ?_
    refine A_aload_n dX11_settleVoters_34 rfl ?_
    refine A_getr lf_X11_37 rfl rfl dX11_settleVoters_35 ?_
    refine A_getr lf_X11_162 rfl rfl dX11_settleVoters_38 ?_
    refine A_iload_n dX11_settleVoters_41 rfl ?_
    refine A_callVi (a_X4_votersBy (l := l) fu _ _ _ _ _ rfl) lc_X11_165 rfl rfl (by decide) (Nat.le_of_ble_eq_true rfl) rfl dX11_settleVoters_42 (fun q1 Mq1 hq1 => ?_)
    refine A_callSv (a_X1_put (S := SC) (l := l) _ _ _ _ _ rfl) lc_X11_169 rfl (by decide) (Nat.le_of_ble_eq_true rfl) rfl dX11_settleVoters_45 (fun q2 hq2 => ?_)
    exact A_vret rfl dX11_settleVoters_48
theorem a_X11_settleVoters {l : Launch} (fu : Nat)  (x1 : Int32) (M : xM)  : AM SC l yX11_settleVoters cX11_settleVoters 3 none 67 kv [xr 0, xi x1] M (F_X11_settleVoters fu x1  M) :=
  AM.of (L0 := [some (xr 0), some (xi x1), none]) (w_X11_settleVoters (l := l) fu x1  M ) (by decide +kernel) rfl (Nat.le_of_ble_eq_true rfl) ⟨rfl, rfl, trivial⟩
def F_X11_use_b28 (fu : Nat)  (x1 : Int32)  : Nat → Int32 → xM → Option (Int32 × xM)
  | 0, _, _ => none
  | n + 1, x2, M =>
    (if (M 5 1) ≤ x2 then
    some ((1 : Int32), M)
    else
    (F_X11_settleVoters fu x2 M).bind fun q1 =>
    F_X11_use_b28 fu x1 n (x2 + (1 : Int32)) q1)
set_option maxRecDepth 100000 in
set_option maxHeartbeats 4000000 in
theorem a_X11_use_b28 {l : Launch} (fu : Nat) (x1 : Int32)    : ∀ (n : Nat) (x2 : Int32) (M : xM), AW SC l RX11 cX11_use 3 (some .boolean) 68 ki (F_X11_use_b28 fu x1 n x2 M) 28 [some (xr 0), none, some (xi x2)] [] M := by
  intro n
  induction n with
  | zero =>
    intro x2 M
    exact AW.none
  | succ n ih =>
    intro x2 M
    rw [F_X11_use_b28]
    refine A_iload_n dX11_use_28 rfl ?_
    refine A_aload_n dX11_use_29 rfl ?_
    refine A_getr lf_X11_37 rfl rfl dX11_use_30 ?_
    refine A_geti lf_X11_146 rfl rfl dX11_use_33 ?_
    refine A_icmp_ge (tgt := 50) dX11_use_36 (by decide) (fun _ => ?_) (fun _ => ?_)
    · refine A_iconst (v := (1 : Int32)) dX11_use_50 oI_1 ?_
      exact A_zret' rfl (Or.inr rfl) dX11_use_51
    · refine A_aload_n dX11_use_39 rfl ?_
      refine A_iload_n dX11_use_40 rfl ?_
      refine A_callVv (a_X11_settleVoters (l := l) fu _ _ ) lc_X11_149 rfl rfl (by decide) (Nat.le_of_ble_eq_true rfl) rfl dX11_use_41 (fun q1 hq1 => ?_)
      refine A_iinc dX11_use_44 rfl oI_1 (Nat.le_of_ble_eq_true rfl) rfl ?_
      refine A_goto (tgt := 28) dX11_use_47 (by decide) ?_
      exact (ih _ _).sub ⟨rfl, rfl, trivial⟩
def F_X11_use_b18 (fu : Nat)  (x1 : Int32)   (M : xM) : Option (Int32 × xM) :=
  F_X11_use_b28 fu x1 fu (0 : Int32) (xset M 3 1 x1)
set_option maxRecDepth 100000 in
set_option maxHeartbeats 4000000 in
theorem a_X11_use_b18 {l : Launch} (fu : Nat) (x1 : Int32)     (M : xM)  : AW SC l RX11 cX11_use 3 (some .boolean) 68 ki (F_X11_use_b18 fu x1  M) 18 [some (xr 0), some (xi x1), none] [] M := by
  unfold F_X11_use_b18
  refine A_aload_n dX11_use_18 rfl ?_
  refine A_getr lf_X11_28 rfl rfl dX11_use_19 ?_
  refine A_iload_n dX11_use_22 rfl ?_
  refine A_puti lf_X11_143 rfl rfl dX11_use_23 ?_
  refine A_iconst (v := (0 : Int32)) dX11_use_26 oI_0 ?_
  refine A_istore_n dX11_use_27 (Nat.le_of_ble_eq_true rfl) rfl ?_
  exact (a_X11_use_b28 (l := l) fu x1  fu _ _).sub ⟨rfl, rfl, trivial⟩
def F_X11_use (fu : Nat)  (x1 : Int32)   (M : xM) : Option (Int32 × xM) :=
  (if x1 = (-1 : Int32) then
  F_X11_use_b18 fu x1  M
  else
  (if (P_X4_isLaw x1 M) = 0 then
  some ((0 : Int32), M)
  else
  F_X11_use_b18 fu x1  M))
set_option maxRecDepth 100000 in
set_option maxHeartbeats 4000000 in
theorem w_X11_use {l : Launch} (fu : Nat) (x1 : Int32)     (M : xM)  : AW SC l RX11 cX11_use 3 (some .boolean) 68 ki (F_X11_use fu x1  M) 0 [some (xr 0), some (xi x1), none] [] M := by
  unfold F_X11_use
  refine A_iload_n dX11_use_0 rfl ?_
  refine A_iconst (v := (-1 : Int32)) dX11_use_1 oI_m1 ?_
  refine A_icmp_eq (tgt := 18) dX11_use_2 (by decide) (fun _ => ?_) (fun _ => ?_)
  · exact (a_X11_use_b18 (l := l) fu x1   _ ).sub ⟨rfl, rfl, trivial⟩
  · refine A_aload_n dX11_use_5 rfl ?_
    refine A_getr lf_X11_28 rfl rfl dX11_use_6 ?_
    refine A_iload_n dX11_use_9 rfl ?_
    refine A_callVp (a_X4_isLaw (l := l) _ _ ) lc_X11_140 rfl rfl (by decide) (Nat.le_of_ble_eq_true rfl) rfl dX11_use_10 ?_
    refine A_if_ne (tgt := 18) dX11_use_13 (by decide) (fun _ => ?_) (fun _ => ?_)
    · refine A_iconst (v := (0 : Int32)) dX11_use_16 oI_0 ?_
      exact A_zret' rfl (Or.inl rfl) dX11_use_17
    · exact (a_X11_use_b18 (l := l) fu x1   _ ).sub ⟨rfl, rfl, trivial⟩
theorem a_X11_use {l : Launch} (fu : Nat)  (x1 : Int32) (M : xM)  : AM SC l yX11_use cX11_use 3 (some .boolean) 68 ki [xr 0, xi x1] M (F_X11_use fu x1  M) :=
  AM.of (L0 := [some (xr 0), some (xi x1), none]) (w_X11_use (l := l) fu x1  M ) (by decide +kernel) rfl (Nat.le_of_ble_eq_true rfl) ⟨rfl, rfl, trivial⟩
def F_X11_machine (fu : Nat)  (x1 : Int32) (x2 : Int32) (x3 : Int32) (x4 : Int32) (x5 : Int32)   (M : xM) : Option (Int32 × xM) :=
  (F_X5_add x1 x2 x3 x4 x5 M).bind fun q1 =>
  (F_X11_settleVoters fu q1.1 q1.2).bind fun q2 =>
  some (q1.1, q2)
set_option maxRecDepth 100000 in
set_option maxHeartbeats 4000000 in
theorem w_X11_machine {l : Launch} (fu : Nat) (x1 : Int32) (x2 : Int32) (x3 : Int32) (x4 : Int32) (x5 : Int32)     (M : xM)  : AW SC l RX11 cX11_machine 7 (some .int) 68 ki (F_X11_machine fu x1 x2 x3 x4 x5  M) 0 [some (xr 0), some (xi x1), some (xi x2), some (xi x3), some (xi x4), some (xi x5), none] [] M := by
  unfold F_X11_machine
  refine A_aload_n dX11_machine_0 rfl ?_
  refine A_getr lf_X11_37 rfl rfl dX11_machine_1 ?_
  refine A_iload_n dX11_machine_4 rfl ?_
  refine A_iload_n dX11_machine_5 rfl ?_
  refine A_iload_n dX11_machine_6 rfl ?_
  refine A_iload dX11_machine_7 rfl ?_
  refine A_iload dX11_machine_9 rfl ?_
  refine A_callVi (a_X5_add (l := l) _ _ _ _ _ _ ) lc_X11_152 rfl rfl (by decide) (Nat.le_of_ble_eq_true rfl) rfl dX11_machine_11 (fun q1 Mq1 hq1 => ?_)
  refine A_istore dX11_machine_14 (Nat.le_of_ble_eq_true rfl) rfl ?_
  refine A_aload_n dX11_machine_16 rfl ?_
  refine A_iload dX11_machine_17 rfl ?_
  refine A_callVv (a_X11_settleVoters (l := l) fu _ _ ) lc_X11_149 rfl rfl (by decide) (Nat.le_of_ble_eq_true rfl) rfl dX11_machine_19 (fun q2 hq2 => ?_)
  refine A_iload dX11_machine_22 rfl ?_
  exact A_iret rfl dX11_machine_24
theorem a_X11_machine {l : Launch} (fu : Nat)  (x1 : Int32) (x2 : Int32) (x3 : Int32) (x4 : Int32) (x5 : Int32) (M : xM)  : AM SC l yX11_machine cX11_machine 7 (some .int) 68 ki [xr 0, xi x1, xi x2, xi x3, xi x4, xi x5] M (F_X11_machine fu x1 x2 x3 x4 x5  M) :=
  AM.of (L0 := [some (xr 0), some (xi x1), some (xi x2), some (xi x3), some (xi x4), some (xi x5), none]) (w_X11_machine (l := l) fu x1 x2 x3 x4 x5  M ) (by decide +kernel) rfl (Nat.le_of_ble_eq_true rfl) ⟨rfl, rfl, rfl, rfl, rfl, rfl, trivial⟩
def P_X11_voters  (x1 : Int32)   (M : xM) : Int32 :=
  (if (P_X5_isMachine x1 M) = 0 then
  (-1 : Int32)
  else
  (P_X1_at 23 6 x1 M))
set_option maxRecDepth 100000 in
set_option maxHeartbeats 4000000 in
theorem w_X11_voters {l : Launch} (x1 : Int32)     (M : xM)  : AW SC l RX11 cX11_voters 2 (some .int) 2 ki (some (P_X11_voters x1  M, M)) 0 [some (xr 0), some (xi x1)] [] M := by
  unfold P_X11_voters
  refine A_aload_n dX11_voters_0 rfl ?_
  refine A_getr lf_X11_37 rfl rfl dX11_voters_1 ?_
  refine A_iload_n dX11_voters_4 rfl ?_
  refine A_callVp (a_X5_isMachine (l := l) _ _ ) lc_X11_155 rfl rfl (by decide) (Nat.le_of_ble_eq_true rfl) rfl dX11_voters_5 ?_
  refine A_if_eq_p (tgt := 25) dX11_voters_8 (by decide) (fun _ => ?_) (fun _ => ?_)
  · refine A_iconst (v := (-1 : Int32)) dX11_voters_25 oI_m1 ?_
    exact A_iret rfl dX11_voters_26
  · refine A_aload_n dX11_voters_11 rfl ?_
    refine A_getr lf_X11_37 rfl rfl dX11_voters_12 ?_
    refine A_getr lf_X11_158 rfl rfl dX11_voters_15 ?_
    refine A_iload_n dX11_voters_18 rfl ?_
    refine A_callSp (a_X1_at (S := SC) (l := l) _ _ _ _ rfl) lc_X11_173 rfl (by decide) (Nat.le_of_ble_eq_true rfl) rfl dX11_voters_19 ?_
    refine A_goto (tgt := 26) dX11_voters_22 (by decide) ?_
    exact A_iret rfl dX11_voters_26
theorem a_X11_voters {l : Launch}  (x1 : Int32) (M : xM)  : AM SC l yX11_voters cX11_voters 2 (some .int) 2 ki [xr 0, xi x1] M (some (P_X11_voters  x1  M, M)) :=
  AM.of (L0 := [some (xr 0), some (xi x1)]) (w_X11_voters (l := l) x1  M ) (by decide +kernel) rfl (Nat.le_of_ble_eq_true rfl) ⟨rfl, rfl, trivial⟩
def F_X11_agree (fu : Nat)  (x1 : Int32)   (M : xM) : Option (Int32 × xM) :=
  (if (P_X5_isMachine x1 M) = 0 then
  some ((-1 : Int32), M)
  else
  (F_X4_agreeing fu 22 30 (x1 * (5 : Int32)) M).bind fun q1 =>
  some (q1.1, q1.2))
set_option maxRecDepth 100000 in
set_option maxHeartbeats 4000000 in
theorem w_X11_agree {l : Launch} (fu : Nat) (x1 : Int32)     (M : xM)  : AW SC l RX11 cX11_agree 2 (some .int) 68 ki (F_X11_agree fu x1  M) 0 [some (xr 0), some (xi x1)] [] M := by
  unfold F_X11_agree
  refine A_aload_n dX11_agree_0 rfl ?_
  refine A_getr lf_X11_37 rfl rfl dX11_agree_1 ?_
  refine A_iload_n dX11_agree_4 rfl ?_
  refine A_callVp (a_X5_isMachine (l := l) _ _ ) lc_X11_155 rfl rfl (by decide) (Nat.le_of_ble_eq_true rfl) rfl dX11_agree_5 ?_
  refine A_if_ne (tgt := 13) dX11_agree_8 (by decide) (fun _ => ?_) (fun _ => ?_)
  · refine A_iconst (v := (-1 : Int32)) dX11_agree_11 oI_m1 ?_
    exact A_iret rfl dX11_agree_12
  · refine A_aload_n dX11_agree_13 rfl ?_
    refine A_getr lf_X11_28 rfl rfl dX11_agree_14 ?_
    refine A_aload_n dX11_agree_17 rfl ?_
    refine A_getr lf_X11_37 rfl rfl dX11_agree_18 ?_
    refine A_getr lf_X11_162 rfl rfl dX11_agree_21 ?_
    refine A_iload_n dX11_agree_24 rfl ?_
    refine A_iconst (v := (5 : Int32)) dX11_agree_25 oI_5 ?_
    refine A_imul dX11_agree_26 ?_
    refine A_callVi (a_X4_agreeing (l := l) fu _ _ _ _ rfl) lc_X11_177 rfl rfl (by decide) (Nat.le_of_ble_eq_true rfl) rfl dX11_agree_27 (fun q1 Mq1 hq1 => ?_)
    exact A_iret rfl dX11_agree_30
theorem a_X11_agree {l : Launch} (fu : Nat)  (x1 : Int32) (M : xM)  : AM SC l yX11_agree cX11_agree 2 (some .int) 68 ki [xr 0, xi x1] M (F_X11_agree fu x1  M) :=
  AM.of (L0 := [some (xr 0), some (xi x1)]) (w_X11_agree (l := l) fu x1  M ) (by decide +kernel) rfl (Nat.le_of_ble_eq_true rfl) ⟨rfl, rfl, trivial⟩
def F_X11_show  (x1 : Int32) (x2 : Int32) (x3 : Int32)   (M : xM) : Option (Int32 × xM) :=
  (F_X5_setShown x1 x2 x3 M).bind fun q1 =>
  (if q1.1 = 0 ∨ q1.1 = 1 then some (q1.1, q1.2) else none)
set_option maxRecDepth 100000 in
set_option maxHeartbeats 4000000 in
theorem w_X11_show {l : Launch} (x1 : Int32) (x2 : Int32) (x3 : Int32)     (M : xM)  : AW SC l RX11 cX11_show 4 (some .boolean) 4 ki (F_X11_show x1 x2 x3  M) 0 [some (xr 0), some (xi x1), some (xi x2), some (xi x3)] [] M := by
  unfold F_X11_show
  refine A_aload_n dX11_show_0 rfl ?_
  refine A_getr lf_X11_37 rfl rfl dX11_show_1 ?_
  refine A_iload_n dX11_show_4 rfl ?_
  refine A_iload_n dX11_show_5 rfl ?_
  refine A_iload_n dX11_show_6 rfl ?_
  refine A_callVi (a_X5_setShown (l := l) _ _ _ _ ) lc_X11_180 rfl rfl (by decide) (Nat.le_of_ble_eq_true rfl) rfl dX11_show_7 (fun q1 Mq1 hq1 => ?_)
  exact A_zret rfl dX11_show_10
theorem a_X11_show {l : Launch}  (x1 : Int32) (x2 : Int32) (x3 : Int32) (M : xM)  : AM SC l yX11_show cX11_show 4 (some .boolean) 4 ki [xr 0, xi x1, xi x2, xi x3] M (F_X11_show  x1 x2 x3  M) :=
  AM.of (L0 := [some (xr 0), some (xi x1), some (xi x2), some (xi x3)]) (w_X11_show (l := l) x1 x2 x3  M ) (by decide +kernel) rfl (Nat.le_of_ble_eq_true rfl) ⟨rfl, rfl, rfl, rfl, trivial⟩
def F_X11_trouble  (x1 : Int32) (x2 : Int32) (x3 : Int32) (x4 : Int32)   (M : xM) : Option (Int32 × xM) :=
  (F_X5_addFault x1 x2 x3 x4 M).bind fun q1 =>
  some (q1.1, q1.2)
set_option maxRecDepth 100000 in
set_option maxHeartbeats 4000000 in
theorem w_X11_trouble {l : Launch} (x1 : Int32) (x2 : Int32) (x3 : Int32) (x4 : Int32)     (M : xM)  : AW SC l RX11 cX11_trouble 5 (some .int) 4 ki (F_X11_trouble x1 x2 x3 x4  M) 0 [some (xr 0), some (xi x1), some (xi x2), some (xi x3), some (xi x4)] [] M := by
  unfold F_X11_trouble
  refine A_aload_n dX11_trouble_0 rfl ?_
  refine A_getr lf_X11_37 rfl rfl dX11_trouble_1 ?_
  refine A_iload_n dX11_trouble_4 rfl ?_
  refine A_iload_n dX11_trouble_5 rfl ?_
  refine A_iload_n dX11_trouble_6 rfl ?_
  refine A_iload dX11_trouble_7 rfl ?_
  refine A_callVi (a_X5_addFault (l := l) _ _ _ _ _ ) lc_X11_183 rfl rfl (by decide) (Nat.le_of_ble_eq_true rfl) rfl dX11_trouble_9 (fun q1 Mq1 hq1 => ?_)
  exact A_iret rfl dX11_trouble_12
theorem a_X11_trouble {l : Launch}  (x1 : Int32) (x2 : Int32) (x3 : Int32) (x4 : Int32) (M : xM)  : AM SC l yX11_trouble cX11_trouble 5 (some .int) 4 ki [xr 0, xi x1, xi x2, xi x3, xi x4] M (F_X11_trouble  x1 x2 x3 x4  M) :=
  AM.of (L0 := [some (xr 0), some (xi x1), some (xi x2), some (xi x3), some (xi x4)]) (w_X11_trouble (l := l) x1 x2 x3 x4  M ) (by decide +kernel) rfl (Nat.le_of_ble_eq_true rfl) ⟨rfl, rfl, rfl, rfl, rfl, trivial⟩
def F_X11_fitting (fu : Nat)  (x1 : Int32) (x2 : Int32)   (M : xM) : Option (Int32 × xM) :=
  (if (P_X5_isMachine x1 M) = 0 then
  some ((-1 : Int32), M)
  else
  (if x2 = (-1 : Int32) then
  (F_X2_howMany fu x1 M).bind fun q2 =>
  some (q2.1, q2.2)
  else
  (F_X2_numbered fu x1 x2 M).bind fun q1 =>
  some (q1.1, q1.2)))
set_option maxRecDepth 100000 in
set_option maxHeartbeats 4000000 in
theorem w_X11_fitting {l : Launch} (fu : Nat) (x1 : Int32) (x2 : Int32)     (M : xM)  : AW SC l RX11 cX11_fitting 3 (some .int) 6 ki (F_X11_fitting fu x1 x2  M) 0 [some (xr 0), some (xi x1), some (xi x2)] [] M := by
  unfold F_X11_fitting
  refine A_aload_n dX11_fitting_0 rfl ?_
  refine A_getr lf_X11_37 rfl rfl dX11_fitting_1 ?_
  refine A_iload_n dX11_fitting_4 rfl ?_
  refine A_callVp (a_X5_isMachine (l := l) _ _ ) lc_X11_155 rfl rfl (by decide) (Nat.le_of_ble_eq_true rfl) rfl dX11_fitting_5 ?_
  refine A_if_ne (tgt := 13) dX11_fitting_8 (by decide) (fun _ => ?_) (fun _ => ?_)
  · refine A_iconst (v := (-1 : Int32)) dX11_fitting_11 oI_m1 ?_
    exact A_iret rfl dX11_fitting_12
  · refine A_iload_n dX11_fitting_13 rfl ?_
    refine A_iconst (v := (-1 : Int32)) dX11_fitting_14 oI_m1 ?_
    refine A_icmp_ne (tgt := 29) dX11_fitting_15 (by decide) (fun _ => ?_) (fun _ => ?_)
    · refine A_aload_n dX11_fitting_18 rfl ?_
      refine A_getr lf_X11_46 rfl rfl dX11_fitting_19 ?_
      refine A_iload_n dX11_fitting_22 rfl ?_
      refine A_callVi (a_X2_howMany (l := l) fu _ _ ) lc_X11_187 rfl rfl (by decide) (Nat.le_of_ble_eq_true rfl) rfl dX11_fitting_23 (fun q2 Mq2 hq2 => ?_)
      refine A_goto (tgt := 38) dX11_fitting_26 (by decide) ?_
      exact A_iret rfl dX11_fitting_38
    · refine A_aload_n dX11_fitting_29 rfl ?_
      refine A_getr lf_X11_46 rfl rfl dX11_fitting_30 ?_
      refine A_iload_n dX11_fitting_33 rfl ?_
      refine A_iload_n dX11_fitting_34 rfl ?_
      refine A_callVi (a_X2_numbered (l := l) fu _ _ _ ) lc_X11_190 rfl rfl (by decide) (Nat.le_of_ble_eq_true rfl) rfl dX11_fitting_35 (fun q1 Mq1 hq1 => ?_)
      exact A_iret rfl dX11_fitting_38
theorem a_X11_fitting {l : Launch} (fu : Nat)  (x1 : Int32) (x2 : Int32) (M : xM)  : AM SC l yX11_fitting cX11_fitting 3 (some .int) 6 ki [xr 0, xi x1, xi x2] M (F_X11_fitting fu x1 x2  M) :=
  AM.of (L0 := [some (xr 0), some (xi x1), some (xi x2)]) (w_X11_fitting (l := l) fu x1 x2  M ) (by decide +kernel) rfl (Nat.le_of_ble_eq_true rfl) ⟨rfl, rfl, rfl, trivial⟩
def F_X11_sets (fu : Nat)  (x1 : Int32) (x2 : Int32)   (M : xM) : Option (Int32 × xM) :=
  (if (P_X5_isMachine x1 M) = 0 then
  some ((-1 : Int32), M)
  else
  (if (P_X1_within x2 (0 : Int32) (2 : Int32) M) = 0 then
  some ((-1 : Int32), M)
  else
  (if x2 = 0 then
  (F_X2_fewest fu x1 M).bind fun q3 =>
  some (q3.1, q3.2)
  else
  (if x2 = (1 : Int32) then
  (F_X2_inAll fu x1 M).bind fun q2 =>
  some (q2.1, q2.2)
  else
  (F_X2_inSome fu x1 M).bind fun q1 =>
  some (q1.1, q1.2)))))
set_option maxRecDepth 100000 in
set_option maxHeartbeats 4000000 in
theorem w_X11_sets {l : Launch} (fu : Nat) (x1 : Int32) (x2 : Int32)     (M : xM)  : AW SC l RX11 cX11_sets 3 (some .int) 6 ki (F_X11_sets fu x1 x2  M) 0 [some (xr 0), some (xi x1), some (xi x2)] [] M := by
  unfold F_X11_sets
  refine A_aload_n dX11_sets_0 rfl ?_
  refine A_getr lf_X11_37 rfl rfl dX11_sets_1 ?_
  refine A_iload_n dX11_sets_4 rfl ?_
  refine A_callVp (a_X5_isMachine (l := l) _ _ ) lc_X11_155 rfl rfl (by decide) (Nat.le_of_ble_eq_true rfl) rfl dX11_sets_5 ?_
  refine A_if_eq (tgt := 20) dX11_sets_8 (by decide) (fun _ => ?_) (fun _ => ?_)
  · refine A_iconst (v := (-1 : Int32)) dX11_sets_20 oI_m1 ?_
    exact A_iret rfl dX11_sets_21
  · refine A_iload_n dX11_sets_11 rfl ?_
    refine A_iconst (v := (0 : Int32)) dX11_sets_12 oI_0 ?_
    refine A_iconst (v := (2 : Int32)) dX11_sets_13 oI_2 ?_
    refine A_callSp (a_X1_within (S := SC) (l := l) _ _ _ _ ) lc_X11_95 rfl (by decide) (Nat.le_of_ble_eq_true rfl) rfl dX11_sets_14 ?_
    refine A_if_ne (tgt := 22) dX11_sets_17 (by decide) (fun _ => ?_) (fun _ => ?_)
    · refine A_iconst (v := (-1 : Int32)) dX11_sets_20 oI_m1 ?_
      exact A_iret rfl dX11_sets_21
    · refine A_iload_n dX11_sets_22 rfl ?_
      refine A_if_ne (tgt := 35) dX11_sets_23 (by decide) (fun _ => ?_) (fun _ => ?_)
      · refine A_aload_n dX11_sets_26 rfl ?_
        refine A_getr lf_X11_46 rfl rfl dX11_sets_27 ?_
        refine A_iload_n dX11_sets_30 rfl ?_
        refine A_callVi (a_X2_fewest (l := l) fu _ _ ) lc_X11_193 rfl rfl (by decide) (Nat.le_of_ble_eq_true rfl) rfl dX11_sets_31 (fun q3 Mq3 hq3 => ?_)
        exact A_iret rfl dX11_sets_34
      · refine A_iload_n dX11_sets_35 rfl ?_
        refine A_iconst (v := (1 : Int32)) dX11_sets_36 oI_1 ?_
        refine A_icmp_ne (tgt := 51) dX11_sets_37 (by decide) (fun _ => ?_) (fun _ => ?_)
        · refine A_aload_n dX11_sets_40 rfl ?_
          refine A_getr lf_X11_46 rfl rfl dX11_sets_41 ?_
          refine A_iload_n dX11_sets_44 rfl ?_
          refine A_callVi (a_X2_inAll (l := l) fu _ _ ) lc_X11_196 rfl rfl (by decide) (Nat.le_of_ble_eq_true rfl) rfl dX11_sets_45 (fun q2 Mq2 hq2 => ?_)
          refine A_goto (tgt := 59) dX11_sets_48 (by decide) ?_
          exact A_iret rfl dX11_sets_59
        · refine A_aload_n dX11_sets_51 rfl ?_
          refine A_getr lf_X11_46 rfl rfl dX11_sets_52 ?_
          refine A_iload_n dX11_sets_55 rfl ?_
          refine A_callVi (a_X2_inSome (l := l) fu _ _ ) lc_X11_199 rfl rfl (by decide) (Nat.le_of_ble_eq_true rfl) rfl dX11_sets_56 (fun q1 Mq1 hq1 => ?_)
          exact A_iret rfl dX11_sets_59
theorem a_X11_sets {l : Launch} (fu : Nat)  (x1 : Int32) (x2 : Int32) (M : xM)  : AM SC l yX11_sets cX11_sets 3 (some .int) 6 ki [xr 0, xi x1, xi x2] M (F_X11_sets fu x1 x2  M) :=
  AM.of (L0 := [some (xr 0), some (xi x1), some (xi x2)]) (w_X11_sets (l := l) fu x1 x2  M ) (by decide +kernel) rfl (Nat.le_of_ble_eq_true rfl) ⟨rfl, rfl, rfl, trivial⟩
def F_X11_span (fu : Nat)  (x1 : Int32) (x2 : Int32) (x3 : Int32)   (M : xM) : Option (Int32 × xM) :=
  (if (P_X5_isMachine x1 M) = 0 then
  some ((-1 : Int32), M)
  else
  (F_X0_officeOf fu x2 M).bind fun q1 =>
  (if q1.1 = (-1 : Int32) then
  some ((-1 : Int32), q1.2)
  else
  (if (P_X1_within x3 (0 : Int32) (1 : Int32) q1.2) = 0 then
  some ((-1 : Int32), q1.2)
  else
  (F_X8_pullsAt fu x1 x2 x3 q1.2).bind fun q2 =>
  some (q2.1, q2.2))))
set_option maxRecDepth 100000 in
set_option maxHeartbeats 4000000 in
theorem w_X11_span {l : Launch} (fu : Nat) (x1 : Int32) (x2 : Int32) (x3 : Int32)     (M : xM)  : AW SC l RX11 cX11_span 4 (some .int) 7 ki (F_X11_span fu x1 x2 x3  M) 0 [some (xr 0), some (xi x1), some (xi x2), some (xi x3)] [] M := by
  unfold F_X11_span
  refine A_aload_n dX11_span_0 rfl ?_
  refine A_getr lf_X11_37 rfl rfl dX11_span_1 ?_
  refine A_iload_n dX11_span_4 rfl ?_
  refine A_callVp (a_X5_isMachine (l := l) _ _ ) lc_X11_155 rfl rfl (by decide) (Nat.le_of_ble_eq_true rfl) rfl dX11_span_5 ?_
  refine A_if_eq (tgt := 32) dX11_span_8 (by decide) (fun _ => ?_) (fun _ => ?_)
  · refine A_iconst (v := (-1 : Int32)) dX11_span_32 oI_m1 ?_
    exact A_iret rfl dX11_span_33
  · refine A_aload_n dX11_span_11 rfl ?_
    refine A_getr lf_X11_12 rfl rfl dX11_span_12 ?_
    refine A_iload_n dX11_span_15 rfl ?_
    refine A_callVi (a_X0_officeOf (l := l) fu _ _ ) lc_X11_202 rfl rfl (by decide) (Nat.le_of_ble_eq_true rfl) rfl dX11_span_16 (fun q1 Mq1 hq1 => ?_)
    refine A_iconst (v := (-1 : Int32)) dX11_span_19 oI_m1 ?_
    refine A_icmp_eq (tgt := 32) dX11_span_20 (by decide) (fun _ => ?_) (fun _ => ?_)
    · refine A_iconst (v := (-1 : Int32)) dX11_span_32 oI_m1 ?_
      exact A_iret rfl dX11_span_33
    · refine A_iload_n dX11_span_23 rfl ?_
      refine A_iconst (v := (0 : Int32)) dX11_span_24 oI_0 ?_
      refine A_iconst (v := (1 : Int32)) dX11_span_25 oI_1 ?_
      refine A_callSp (a_X1_within (S := SC) (l := l) _ _ _ _ ) lc_X11_95 rfl (by decide) (Nat.le_of_ble_eq_true rfl) rfl dX11_span_26 ?_
      refine A_if_ne (tgt := 34) dX11_span_29 (by decide) (fun _ => ?_) (fun _ => ?_)
      · refine A_iconst (v := (-1 : Int32)) dX11_span_32 oI_m1 ?_
        exact A_iret rfl dX11_span_33
      · refine A_aload_n dX11_span_34 rfl ?_
        refine A_getr lf_X11_55 rfl rfl dX11_span_35 ?_
        refine A_iload_n dX11_span_38 rfl ?_
        refine A_iload_n dX11_span_39 rfl ?_
        refine A_iload_n dX11_span_40 rfl ?_
        refine A_callVi (a_X8_pullsAt (l := l) fu _ _ _ _ ) lc_X11_205 rfl rfl (by decide) (Nat.le_of_ble_eq_true rfl) rfl dX11_span_41 (fun q2 Mq2 hq2 => ?_)
        exact A_iret rfl dX11_span_44
theorem a_X11_span {l : Launch} (fu : Nat)  (x1 : Int32) (x2 : Int32) (x3 : Int32) (M : xM)  : AM SC l yX11_span cX11_span 4 (some .int) 7 ki [xr 0, xi x1, xi x2, xi x3] M (F_X11_span fu x1 x2 x3  M) :=
  AM.of (L0 := [some (xr 0), some (xi x1), some (xi x2), some (xi x3)]) (w_X11_span (l := l) fu x1 x2 x3  M ) (by decide +kernel) rfl (Nat.le_of_ble_eq_true rfl) ⟨rfl, rfl, rfl, rfl, trivial⟩
def F_X11_open_b30 (fu : Nat)  (x1 : Int32) (x2 : Int32)   (M : xM) : Option (Int32 × xM) :=
  (F_X1_put 24 6 x1 x2 M).bind fun q1 =>
  some ((1 : Int32), q1)
set_option maxRecDepth 100000 in
set_option maxHeartbeats 4000000 in
theorem a_X11_open_b30 {l : Launch} (fu : Nat) (x1 : Int32) (x2 : Int32)     (M : xM)  : AW SC l RX11 cX11_open 3 (some .boolean) 5 ki (F_X11_open_b30 fu x1 x2  M) 30 [some (xr 0), some (xi x1), some (xi x2)] [] M := by
  unfold F_X11_open_b30
  refine A_aload_n dX11_open_30 rfl ?_
  refine A_getr lf_X11_37 rfl rfl dX11_open_31 ?_
  refine A_getr lf_X11_213 rfl rfl dX11_open_34 ?_
  refine A_iload_n dX11_open_37 rfl ?_
  refine A_iload_n dX11_open_38 rfl ?_
  refine A_callSv (a_X1_put (S := SC) (l := l) _ _ _ _ _ rfl) lc_X11_169 rfl (by decide) (Nat.le_of_ble_eq_true rfl) rfl dX11_open_39 (fun q1 hq1 => ?_)
  refine A_iconst (v := (1 : Int32)) dX11_open_42 oI_1 ?_
  exact A_zret' rfl (Or.inr rfl) dX11_open_43
def F_X11_open (fu : Nat)  (x1 : Int32) (x2 : Int32)   (M : xM) : Option (Int32 × xM) :=
  (if (P_X5_isMachine x1 M) = 0 then
  some ((0 : Int32), M)
  else
  (if x2 = (-1 : Int32) then
  F_X11_open_b30 fu x1 x2  M
  else
  (F_X2_lay fu x1 x2 M).bind fun q1 =>
  (if q1.1 = 0 then
  some ((0 : Int32), q1.2)
  else
  F_X11_open_b30 fu x1 x2  q1.2)))
set_option maxRecDepth 100000 in
set_option maxHeartbeats 4000000 in
theorem w_X11_open {l : Launch} (fu : Nat) (x1 : Int32) (x2 : Int32)     (M : xM)  : AW SC l RX11 cX11_open 3 (some .boolean) 5 ki (F_X11_open fu x1 x2  M) 0 [some (xr 0), some (xi x1), some (xi x2)] [] M := by
  unfold F_X11_open
  refine A_aload_n dX11_open_0 rfl ?_
  refine A_getr lf_X11_37 rfl rfl dX11_open_1 ?_
  refine A_iload_n dX11_open_4 rfl ?_
  refine A_callVp (a_X5_isMachine (l := l) _ _ ) lc_X11_155 rfl rfl (by decide) (Nat.le_of_ble_eq_true rfl) rfl dX11_open_5 ?_
  refine A_if_eq (tgt := 28) dX11_open_8 (by decide) (fun _ => ?_) (fun _ => ?_)
  · refine A_iconst (v := (0 : Int32)) dX11_open_28 oI_0 ?_
    exact A_zret' rfl (Or.inl rfl) dX11_open_29
  · refine A_iload_n dX11_open_11 rfl ?_
    refine A_iconst (v := (-1 : Int32)) dX11_open_12 oI_m1 ?_
    refine A_icmp_eq (tgt := 30) dX11_open_13 (by decide) (fun _ => ?_) (fun _ => ?_)
    · exact (a_X11_open_b30 (l := l) fu x1 x2   _ ).sub ⟨rfl, rfl, rfl, trivial⟩
    · refine A_aload_n dX11_open_16 rfl ?_
      refine A_getr lf_X11_46 rfl rfl dX11_open_17 ?_
      refine A_iload_n dX11_open_20 rfl ?_
      refine A_iload_n dX11_open_21 rfl ?_
      refine A_callVi (a_X2_lay (l := l) fu _ _ _ ) lc_X11_209 rfl rfl (by decide) (Nat.le_of_ble_eq_true rfl) rfl dX11_open_22 (fun q1 Mq1 hq1 => ?_)
      refine A_if_ne (tgt := 30) dX11_open_25 (by decide) (fun _ => ?_) (fun _ => ?_)
      · refine A_iconst (v := (0 : Int32)) dX11_open_28 oI_0 ?_
        exact A_zret' rfl (Or.inl rfl) dX11_open_29
      · exact (a_X11_open_b30 (l := l) fu x1 x2   _ ).sub ⟨rfl, rfl, rfl, trivial⟩
theorem a_X11_open {l : Launch} (fu : Nat)  (x1 : Int32) (x2 : Int32) (M : xM)  : AM SC l yX11_open cX11_open 3 (some .boolean) 5 ki [xr 0, xi x1, xi x2] M (F_X11_open fu x1 x2  M) :=
  AM.of (L0 := [some (xr 0), some (xi x1), some (xi x2)]) (w_X11_open (l := l) fu x1 x2  M ) (by decide +kernel) rfl (Nat.le_of_ble_eq_true rfl) ⟨rfl, rfl, rfl, trivial⟩
def F_X11_total (fu : Nat)  (x1 : Int32) (x2 : Int32)   (M : xM) : Option (Int32 × xM) :=
  (F_X0_officeOf fu x1 M).bind fun q1 =>
  (if q1.1 = (-1 : Int32) then
  some ((-1 : Int32), q1.2)
  else
  (if (P_X1_within x2 (0 : Int32) (1 : Int32) q1.2) = 0 then
  some ((-1 : Int32), q1.2)
  else
  (F_X8_pullsOverAll fu x1 x2 q1.2).bind fun q2 =>
  some (q2.1, q2.2)))
set_option maxRecDepth 100000 in
set_option maxHeartbeats 4000000 in
theorem w_X11_total {l : Launch} (fu : Nat) (x1 : Int32) (x2 : Int32)     (M : xM)  : AW SC l RX11 cX11_total 3 (some .int) 8 ki (F_X11_total fu x1 x2  M) 0 [some (xr 0), some (xi x1), some (xi x2)] [] M := by
  unfold F_X11_total
  refine A_aload_n dX11_total_0 rfl ?_
  refine A_getr lf_X11_12 rfl rfl dX11_total_1 ?_
  refine A_iload_n dX11_total_4 rfl ?_
  refine A_callVi (a_X0_officeOf (l := l) fu _ _ ) lc_X11_202 rfl rfl (by decide) (Nat.le_of_ble_eq_true rfl) rfl dX11_total_5 (fun q1 Mq1 hq1 => ?_)
  refine A_iconst (v := (-1 : Int32)) dX11_total_8 oI_m1 ?_
  refine A_icmp_eq (tgt := 21) dX11_total_9 (by decide) (fun _ => ?_) (fun _ => ?_)
  · refine A_iconst (v := (-1 : Int32)) dX11_total_21 oI_m1 ?_
    exact A_iret rfl dX11_total_22
  · refine A_iload_n dX11_total_12 rfl ?_
    refine A_iconst (v := (0 : Int32)) dX11_total_13 oI_0 ?_
    refine A_iconst (v := (1 : Int32)) dX11_total_14 oI_1 ?_
    refine A_callSp (a_X1_within (S := SC) (l := l) _ _ _ _ ) lc_X11_95 rfl (by decide) (Nat.le_of_ble_eq_true rfl) rfl dX11_total_15 ?_
    refine A_if_ne (tgt := 23) dX11_total_18 (by decide) (fun _ => ?_) (fun _ => ?_)
    · refine A_iconst (v := (-1 : Int32)) dX11_total_21 oI_m1 ?_
      exact A_iret rfl dX11_total_22
    · refine A_aload_n dX11_total_23 rfl ?_
      refine A_getr lf_X11_55 rfl rfl dX11_total_24 ?_
      refine A_iload_n dX11_total_27 rfl ?_
      refine A_iload_n dX11_total_28 rfl ?_
      refine A_callVi (a_X8_pullsOverAll (l := l) fu _ _ _ ) lc_X11_216 rfl rfl (by decide) (Nat.le_of_ble_eq_true rfl) rfl dX11_total_29 (fun q2 Mq2 hq2 => ?_)
      exact A_iret rfl dX11_total_32
theorem a_X11_total {l : Launch} (fu : Nat)  (x1 : Int32) (x2 : Int32) (M : xM)  : AM SC l yX11_total cX11_total 3 (some .int) 8 ki [xr 0, xi x1, xi x2] M (F_X11_total fu x1 x2  M) :=
  AM.of (L0 := [some (xr 0), some (xi x1), some (xi x2)]) (w_X11_total (l := l) fu x1 x2  M ) (by decide +kernel) rfl (Nat.le_of_ble_eq_true rfl) ⟨rfl, rfl, rfl, trivial⟩
def F_X11_ahead (fu : Nat)  (x1 : Int32) (x2 : Int32)   (M : xM) : Option (Int32 × xM) :=
  (F_X8_leastLead fu x1 x2 M).bind fun q1 =>
  some (q1.1, q1.2)
set_option maxRecDepth 100000 in
set_option maxHeartbeats 4000000 in
theorem w_X11_ahead {l : Launch} (fu : Nat) (x1 : Int32) (x2 : Int32)     (M : xM)  : AW SC l RX11 cX11_ahead 3 (some .int) 8 ki (F_X11_ahead fu x1 x2  M) 0 [some (xr 0), some (xi x1), some (xi x2)] [] M := by
  unfold F_X11_ahead
  refine A_aload_n dX11_ahead_0 rfl ?_
  refine A_getr lf_X11_55 rfl rfl dX11_ahead_1 ?_
  refine A_iload_n dX11_ahead_4 rfl ?_
  refine A_iload_n dX11_ahead_5 rfl ?_
  refine A_callVi (a_X8_leastLead (l := l) fu _ _ _ ) lc_X11_219 rfl rfl (by decide) (Nat.le_of_ble_eq_true rfl) rfl dX11_ahead_6 (fun q1 Mq1 hq1 => ?_)
  exact A_iret rfl dX11_ahead_9
theorem a_X11_ahead {l : Launch} (fu : Nat)  (x1 : Int32) (x2 : Int32) (M : xM)  : AM SC l yX11_ahead cX11_ahead 3 (some .int) 8 ki [xr 0, xi x1, xi x2] M (F_X11_ahead fu x1 x2  M) :=
  AM.of (L0 := [some (xr 0), some (xi x1), some (xi x2)]) (w_X11_ahead (l := l) fu x1 x2  M ) (by decide +kernel) rfl (Nat.le_of_ble_eq_true rfl) ⟨rfl, rfl, rfl, trivial⟩
def F_X11_wins (fu : Nat)  (x1 : Int32)   (M : xM) : Option (Int32 × xM) :=
  (if (P_X0_isOffice x1 M) = 0 then
  some ((-1 : Int32), M)
  else
  (F_X8_winner fu x1 M).bind fun q1 =>
  some (q1.1, q1.2))
set_option maxRecDepth 100000 in
set_option maxHeartbeats 4000000 in
theorem w_X11_wins {l : Launch} (fu : Nat) (x1 : Int32)     (M : xM)  : AW SC l RX11 cX11_wins 2 (some .int) 8 ki (F_X11_wins fu x1  M) 0 [some (xr 0), some (xi x1)] [] M := by
  unfold F_X11_wins
  refine A_aload_n dX11_wins_0 rfl ?_
  refine A_getr lf_X11_12 rfl rfl dX11_wins_1 ?_
  refine A_iload_n dX11_wins_4 rfl ?_
  refine A_callVp (a_X0_isOffice (l := l) _ _ ) lc_X11_222 rfl rfl (by decide) (Nat.le_of_ble_eq_true rfl) rfl dX11_wins_5 ?_
  refine A_if_eq (tgt := 22) dX11_wins_8 (by decide) (fun _ => ?_) (fun _ => ?_)
  · refine A_iconst (v := (-1 : Int32)) dX11_wins_22 oI_m1 ?_
    exact A_iret rfl dX11_wins_23
  · refine A_aload_n dX11_wins_11 rfl ?_
    refine A_getr lf_X11_55 rfl rfl dX11_wins_12 ?_
    refine A_iload_n dX11_wins_15 rfl ?_
    refine A_callVi (a_X8_winner (l := l) fu _ _ ) lc_X11_225 rfl rfl (by decide) (Nat.le_of_ble_eq_true rfl) rfl dX11_wins_16 (fun q1 Mq1 hq1 => ?_)
    refine A_goto (tgt := 23) dX11_wins_19 (by decide) ?_
    exact A_iret rfl dX11_wins_23
theorem a_X11_wins {l : Launch} (fu : Nat)  (x1 : Int32) (M : xM)  : AM SC l yX11_wins cX11_wins 2 (some .int) 8 ki [xr 0, xi x1] M (F_X11_wins fu x1  M) :=
  AM.of (L0 := [some (xr 0), some (xi x1)]) (w_X11_wins (l := l) fu x1  M ) (by decide +kernel) rfl (Nat.le_of_ble_eq_true rfl) ⟨rfl, rfl, trivial⟩
def F_X11_cost  (x1 : Int32) (x2 : Int32)   (M : xM) : Option (Int32 × xM) :=
  (if (P_X5_isMachine x1 M) = 0 then
  some ((0 : Int32), M)
  else
  (if (P_X1_within x2 (1 : Int32) (50 : Int32) M) = 0 then
  some ((0 : Int32), M)
  else
  (F_X1_put 25 6 x1 x2 M).bind fun q1 =>
  some ((1 : Int32), q1)))
set_option maxRecDepth 100000 in
set_option maxHeartbeats 4000000 in
theorem w_X11_cost {l : Launch} (x1 : Int32) (x2 : Int32)     (M : xM)  : AW SC l RX11 cX11_cost 3 (some .boolean) 2 ki (F_X11_cost x1 x2  M) 0 [some (xr 0), some (xi x1), some (xi x2)] [] M := by
  unfold F_X11_cost
  refine A_aload_n dX11_cost_0 rfl ?_
  refine A_getr lf_X11_37 rfl rfl dX11_cost_1 ?_
  refine A_iload_n dX11_cost_4 rfl ?_
  refine A_callVp (a_X5_isMachine (l := l) _ _ ) lc_X11_155 rfl rfl (by decide) (Nat.le_of_ble_eq_true rfl) rfl dX11_cost_5 ?_
  refine A_if_eq (tgt := 21) dX11_cost_8 (by decide) (fun _ => ?_) (fun _ => ?_)
  · refine A_iconst (v := (0 : Int32)) dX11_cost_21 oI_0 ?_
    exact A_zret' rfl (Or.inl rfl) dX11_cost_22
  · refine A_iload_n dX11_cost_11 rfl ?_
    refine A_iconst (v := (1 : Int32)) dX11_cost_12 oI_1 ?_
    refine A_bipush (v := (50 : Int32)) dX11_cost_13 oB_50 ?_
    refine A_callSp (a_X1_within (S := SC) (l := l) _ _ _ _ ) lc_X11_95 rfl (by decide) (Nat.le_of_ble_eq_true rfl) rfl dX11_cost_15 ?_
    refine A_if_ne (tgt := 23) dX11_cost_18 (by decide) (fun _ => ?_) (fun _ => ?_)
    · refine A_iconst (v := (0 : Int32)) dX11_cost_21 oI_0 ?_
      exact A_zret' rfl (Or.inl rfl) dX11_cost_22
    · refine A_aload_n dX11_cost_23 rfl ?_
      refine A_getr lf_X11_37 rfl rfl dX11_cost_24 ?_
      refine A_getr lf_X11_228 rfl rfl dX11_cost_27 ?_
      refine A_iload_n dX11_cost_30 rfl ?_
      refine A_iload_n dX11_cost_31 rfl ?_
      refine A_callSv (a_X1_put (S := SC) (l := l) _ _ _ _ _ rfl) lc_X11_169 rfl (by decide) (Nat.le_of_ble_eq_true rfl) rfl dX11_cost_32 (fun q1 hq1 => ?_)
      refine A_iconst (v := (1 : Int32)) dX11_cost_35 oI_1 ?_
      exact A_zret' rfl (Or.inr rfl) dX11_cost_36
theorem a_X11_cost {l : Launch}  (x1 : Int32) (x2 : Int32) (M : xM)  : AM SC l yX11_cost cX11_cost 3 (some .boolean) 2 ki [xr 0, xi x1, xi x2] M (F_X11_cost  x1 x2  M) :=
  AM.of (L0 := [some (xr 0), some (xi x1), some (xi x2)]) (w_X11_cost (l := l) x1 x2  M ) (by decide +kernel) rfl (Nat.le_of_ble_eq_true rfl) ⟨rfl, rfl, rfl, trivial⟩
def F_X11_till_b41 (fu : Nat)  (x1 : Int32) (x2 : Int32)  (x3 : Int32) (M : xM) : Option (Int32 × xM) :=
  some (x3, M)
set_option maxRecDepth 100000 in
set_option maxHeartbeats 4000000 in
theorem a_X11_till_b41 {l : Launch} (fu : Nat) (x1 : Int32) (x2 : Int32)    (x3 : Int32) (M : xM)  : AW SC l RX11 cX11_till 4 (some .int) 8 ki (F_X11_till_b41 fu x1 x2 x3 M) 41 [none, none, none, some (xi x3)] [] M := by
  unfold F_X11_till_b41
  refine A_iload_n dX11_till_41 rfl ?_
  refine A_goto (tgt := 53) dX11_till_42 (by decide) ?_
  exact A_iret rfl dX11_till_53
def F_X11_till (fu : Nat)  (x1 : Int32) (x2 : Int32)   (M : xM) : Option (Int32 × xM) :=
  (F_X0_officeOf fu x1 M).bind fun q1 =>
  (if q1.1 = (-1 : Int32) then
  some ((-1 : Int32), q1.2)
  else
  (if (P_X1_within x2 (0 : Int32) (1 : Int32) q1.2) = 0 then
  some ((-1 : Int32), q1.2)
  else
  (F_X8_cheapestOpening fu x1 q1.2).bind fun q2 =>
  (if q2.1 = (-1 : Int32) then
  F_X11_till_b41 fu x1 x2 q2.1 q2.2
  else
  (if x2 = 0 then
  F_X11_till_b41 fu x1 x2 q2.1 q2.2
  else
  (F_X8_costOf fu q2.1 q2.2).bind fun q3 =>
  some (q3.1, q3.2)))))
set_option maxRecDepth 100000 in
set_option maxHeartbeats 4000000 in
theorem w_X11_till {l : Launch} (fu : Nat) (x1 : Int32) (x2 : Int32)     (M : xM)  : AW SC l RX11 cX11_till 4 (some .int) 8 ki (F_X11_till fu x1 x2  M) 0 [some (xr 0), some (xi x1), some (xi x2), none] [] M := by
  unfold F_X11_till
  refine A_aload_n dX11_till_0 rfl ?_
  refine A_getr lf_X11_12 rfl rfl dX11_till_1 ?_
  refine A_iload_n dX11_till_4 rfl ?_
  refine A_callVi (a_X0_officeOf (l := l) fu _ _ ) lc_X11_202 rfl rfl (by decide) (Nat.le_of_ble_eq_true rfl) rfl dX11_till_5 (fun q1 Mq1 hq1 => ?_)
  refine A_iconst (v := (-1 : Int32)) dX11_till_8 oI_m1 ?_
  refine A_icmp_eq (tgt := 21) dX11_till_9 (by decide) (fun _ => ?_) (fun _ => ?_)
  · refine A_iconst (v := (-1 : Int32)) dX11_till_21 oI_m1 ?_
    exact A_iret rfl dX11_till_22
  · refine A_iload_n dX11_till_12 rfl ?_
    refine A_iconst (v := (0 : Int32)) dX11_till_13 oI_0 ?_
    refine A_iconst (v := (1 : Int32)) dX11_till_14 oI_1 ?_
    refine A_callSp (a_X1_within (S := SC) (l := l) _ _ _ _ ) lc_X11_95 rfl (by decide) (Nat.le_of_ble_eq_true rfl) rfl dX11_till_15 ?_
    refine A_if_ne (tgt := 23) dX11_till_18 (by decide) (fun _ => ?_) (fun _ => ?_)
    · refine A_iconst (v := (-1 : Int32)) dX11_till_21 oI_m1 ?_
      exact A_iret rfl dX11_till_22
    · refine A_aload_n dX11_till_23 rfl ?_
      refine A_getr lf_X11_55 rfl rfl dX11_till_24 ?_
      refine A_iload_n dX11_till_27 rfl ?_
      refine A_callVi (a_X8_cheapestOpening (l := l) fu _ _ ) lc_X11_231 rfl rfl (by decide) (Nat.le_of_ble_eq_true rfl) rfl dX11_till_28 (fun q2 Mq2 hq2 => ?_)
      refine A_istore_n dX11_till_31 (Nat.le_of_ble_eq_true rfl) rfl ?_
      refine A_iload_n dX11_till_32 rfl ?_
      refine A_iconst (v := (-1 : Int32)) dX11_till_33 oI_m1 ?_
      refine A_icmp_eq (tgt := 41) dX11_till_34 (by decide) (fun _ => ?_) (fun _ => ?_)
      · exact (a_X11_till_b41 (l := l) fu x1 x2  _ _ ).sub ⟨rfl, trivial⟩
      · refine A_iload_n dX11_till_37 rfl ?_
        refine A_if_ne (tgt := 45) dX11_till_38 (by decide) (fun _ => ?_) (fun _ => ?_)
        · exact (a_X11_till_b41 (l := l) fu x1 x2  _ _ ).sub ⟨rfl, trivial⟩
        · refine A_aload_n dX11_till_45 rfl ?_
          refine A_getr lf_X11_55 rfl rfl dX11_till_46 ?_
          refine A_iload_n dX11_till_49 rfl ?_
          refine A_callVi (a_X8_costOf (l := l) fu _ _ ) lc_X11_234 rfl rfl (by decide) (Nat.le_of_ble_eq_true rfl) rfl dX11_till_50 (fun q3 Mq3 hq3 => ?_)
          exact A_iret rfl dX11_till_53
theorem a_X11_till {l : Launch} (fu : Nat)  (x1 : Int32) (x2 : Int32) (M : xM)  : AM SC l yX11_till cX11_till 4 (some .int) 8 ki [xr 0, xi x1, xi x2] M (F_X11_till fu x1 x2  M) :=
  AM.of (L0 := [some (xr 0), some (xi x1), some (xi x2), none]) (w_X11_till (l := l) fu x1 x2  M ) (by decide +kernel) rfl (Nat.le_of_ble_eq_true rfl) ⟨rfl, rfl, rfl, trivial⟩
def F_X11_test  (x1 : Int32) (x2 : Int32)   (M : xM) : Option (Int32 × xM) :=
  (F_X10_add x1 x2 M).bind fun q1 =>
  some (q1.1, q1.2)
set_option maxRecDepth 100000 in
set_option maxHeartbeats 4000000 in
theorem w_X11_test {l : Launch} (x1 : Int32) (x2 : Int32)     (M : xM)  : AW SC l RX11 cX11_test 3 (some .int) 4 ki (F_X11_test x1 x2  M) 0 [some (xr 0), some (xi x1), some (xi x2)] [] M := by
  unfold F_X11_test
  refine A_aload_n dX11_test_0 rfl ?_
  refine A_getr lf_X11_62 rfl rfl dX11_test_1 ?_
  refine A_iload_n dX11_test_4 rfl ?_
  refine A_iload_n dX11_test_5 rfl ?_
  refine A_callVi (a_X10_add (l := l) _ _ _ ) lc_X11_237 rfl rfl (by decide) (Nat.le_of_ble_eq_true rfl) rfl dX11_test_6 (fun q1 Mq1 hq1 => ?_)
  exact A_iret rfl dX11_test_9
theorem a_X11_test {l : Launch}  (x1 : Int32) (x2 : Int32) (M : xM)  : AM SC l yX11_test cX11_test 3 (some .int) 4 ki [xr 0, xi x1, xi x2] M (F_X11_test  x1 x2  M) :=
  AM.of (L0 := [some (xr 0), some (xi x1), some (xi x2)]) (w_X11_test (l := l) x1 x2  M ) (by decide +kernel) rfl (Nat.le_of_ble_eq_true rfl) ⟨rfl, rfl, rfl, trivial⟩
def F_X11_sees (fu : Nat)  (x1 : Int32) (x2 : Int32)   (M : xM) : Option (Int32 × xM) :=
  (if (P_X10_isTest x1 M) = 0 then
  some ((-1 : Int32), M)
  else
  (if (P_X5_isMachine x2 M) = 0 then
  some ((-1 : Int32), M)
  else
  (F_X10_seenBy fu x1 x2 M).bind fun q1 =>
  some (q1.1, q1.2)))
set_option maxRecDepth 100000 in
set_option maxHeartbeats 4000000 in
theorem w_X11_sees {l : Launch} (fu : Nat) (x1 : Int32) (x2 : Int32)     (M : xM)  : AW SC l RX11 cX11_sees 3 (some .int) 6 ki (F_X11_sees fu x1 x2  M) 0 [some (xr 0), some (xi x1), some (xi x2)] [] M := by
  unfold F_X11_sees
  refine A_aload_n dX11_sees_0 rfl ?_
  refine A_getr lf_X11_62 rfl rfl dX11_sees_1 ?_
  refine A_iload_n dX11_sees_4 rfl ?_
  refine A_callVp (a_X10_isTest (l := l) _ _ ) lc_X11_239 rfl rfl (by decide) (Nat.le_of_ble_eq_true rfl) rfl dX11_sees_5 ?_
  refine A_if_eq (tgt := 22) dX11_sees_8 (by decide) (fun _ => ?_) (fun _ => ?_)
  · refine A_iconst (v := (-1 : Int32)) dX11_sees_22 oI_m1 ?_
    exact A_iret rfl dX11_sees_23
  · refine A_aload_n dX11_sees_11 rfl ?_
    refine A_getr lf_X11_37 rfl rfl dX11_sees_12 ?_
    refine A_iload_n dX11_sees_15 rfl ?_
    refine A_callVp (a_X5_isMachine (l := l) _ _ ) lc_X11_155 rfl rfl (by decide) (Nat.le_of_ble_eq_true rfl) rfl dX11_sees_16 ?_
    refine A_if_ne (tgt := 24) dX11_sees_19 (by decide) (fun _ => ?_) (fun _ => ?_)
    · refine A_iconst (v := (-1 : Int32)) dX11_sees_22 oI_m1 ?_
      exact A_iret rfl dX11_sees_23
    · refine A_aload_n dX11_sees_24 rfl ?_
      refine A_getr lf_X11_62 rfl rfl dX11_sees_25 ?_
      refine A_iload_n dX11_sees_28 rfl ?_
      refine A_iload_n dX11_sees_29 rfl ?_
      refine A_callVi (a_X10_seenBy (l := l) fu _ _ _ ) lc_X11_242 rfl rfl (by decide) (Nat.le_of_ble_eq_true rfl) rfl dX11_sees_30 (fun q1 Mq1 hq1 => ?_)
      exact A_iret rfl dX11_sees_33
theorem a_X11_sees {l : Launch} (fu : Nat)  (x1 : Int32) (x2 : Int32) (M : xM)  : AM SC l yX11_sees cX11_sees 3 (some .int) 6 ki [xr 0, xi x1, xi x2] M (F_X11_sees fu x1 x2  M) :=
  AM.of (L0 := [some (xr 0), some (xi x1), some (xi x2)]) (w_X11_sees (l := l) fu x1 x2  M ) (by decide +kernel) rfl (Nat.le_of_ble_eq_true rfl) ⟨rfl, rfl, rfl, trivial⟩
def F_X11_cover (fu : Nat)  (x1 : Int32)   (M : xM) : Option (Int32 × xM) :=
  (if (P_X5_isMachine x1 M) = 0 then
  some ((-1 : Int32), M)
  else
  (F_X10_fewestSeeingAll fu x1 M).bind fun q1 =>
  some (q1.1, q1.2))
set_option maxRecDepth 100000 in
set_option maxHeartbeats 4000000 in
theorem w_X11_cover {l : Launch} (fu : Nat) (x1 : Int32)     (M : xM)  : AW SC l RX11 cX11_cover 2 (some .int) 7 ki (F_X11_cover fu x1  M) 0 [some (xr 0), some (xi x1)] [] M := by
  unfold F_X11_cover
  refine A_aload_n dX11_cover_0 rfl ?_
  refine A_getr lf_X11_37 rfl rfl dX11_cover_1 ?_
  refine A_iload_n dX11_cover_4 rfl ?_
  refine A_callVp (a_X5_isMachine (l := l) _ _ ) lc_X11_155 rfl rfl (by decide) (Nat.le_of_ble_eq_true rfl) rfl dX11_cover_5 ?_
  refine A_if_eq (tgt := 22) dX11_cover_8 (by decide) (fun _ => ?_) (fun _ => ?_)
  · refine A_iconst (v := (-1 : Int32)) dX11_cover_22 oI_m1 ?_
    exact A_iret rfl dX11_cover_23
  · refine A_aload_n dX11_cover_11 rfl ?_
    refine A_getr lf_X11_62 rfl rfl dX11_cover_12 ?_
    refine A_iload_n dX11_cover_15 rfl ?_
    refine A_callVi (a_X10_fewestSeeingAll (l := l) fu _ _ ) lc_X11_245 rfl rfl (by decide) (Nat.le_of_ble_eq_true rfl) rfl dX11_cover_16 (fun q1 Mq1 hq1 => ?_)
    refine A_goto (tgt := 23) dX11_cover_19 (by decide) ?_
    exact A_iret rfl dX11_cover_23
theorem a_X11_cover {l : Launch} (fu : Nat)  (x1 : Int32) (M : xM)  : AM SC l yX11_cover cX11_cover 2 (some .int) 7 ki [xr 0, xi x1] M (F_X11_cover fu x1  M) :=
  AM.of (L0 := [some (xr 0), some (xi x1)]) (w_X11_cover (l := l) fu x1  M ) (by decide +kernel) rfl (Nat.le_of_ble_eq_true rfl) ⟨rfl, rfl, trivial⟩
def F_X11_name (fu : Nat)  (x1 : Int32) (x2 : Int64) (x4 : Int32) (x5 : Int32)   (M : xM) : Option (Int32 × xM) :=
  (if (P_X0_isOffice x1 M) = 0 then
  some ((-1 : Int32), M)
  else
  (if (P_X1_within x4 (0 : Int32) (5 : Int32) M) = 0 then
  some ((-1 : Int32), M)
  else
  (F_X0_shuffle fu x1 x2 M).bind fun q1 =>
  (if (P_X1_within x5 (0 : Int32) (q1.1 - (1 : Int32)) q1.2) = 0 then
  some ((-1 : Int32), q1.2)
  else
  some ((P_X0_shuffledAt (x5 - x4) q1.1 q1.2), q1.2))))
set_option maxRecDepth 100000 in
set_option maxHeartbeats 4000000 in
theorem w_X11_name {l : Launch} (fu : Nat) (x1 : Int32) (x2 : Int64) (x4 : Int32) (x5 : Int32)     (M : xM)  : AW SC l RX11 cX11_name 7 (some .int) 3 ki (F_X11_name fu x1 x2 x4 x5  M) 0 [some (xr 0), some (xi x1), some (xl x2), none, some (xi x4), some (xi x5), none] [] M := by
  unfold F_X11_name
  refine A_aload_n dX11_name_0 rfl ?_
  refine A_getr lf_X11_12 rfl rfl dX11_name_1 ?_
  refine A_iload_n dX11_name_4 rfl ?_
  refine A_callVp (a_X0_isOffice (l := l) _ _ ) lc_X11_222 rfl rfl (by decide) (Nat.le_of_ble_eq_true rfl) rfl dX11_name_5 ?_
  refine A_if_eq (tgt := 21) dX11_name_8 (by decide) (fun _ => ?_) (fun _ => ?_)
  · refine A_iconst (v := (-1 : Int32)) dX11_name_21 oI_m1 ?_
    exact A_iret rfl dX11_name_22
  · refine A_iload dX11_name_11 rfl ?_
    refine A_iconst (v := (0 : Int32)) dX11_name_13 oI_0 ?_
    refine A_iconst (v := (5 : Int32)) dX11_name_14 oI_5 ?_
    refine A_callSp (a_X1_within (S := SC) (l := l) _ _ _ _ ) lc_X11_95 rfl (by decide) (Nat.le_of_ble_eq_true rfl) rfl dX11_name_15 ?_
    refine A_if_ne (tgt := 23) dX11_name_18 (by decide) (fun _ => ?_) (fun _ => ?_)
    · refine A_iconst (v := (-1 : Int32)) dX11_name_21 oI_m1 ?_
      exact A_iret rfl dX11_name_22
    · refine A_aload_n dX11_name_23 rfl ?_
      refine A_getr lf_X11_12 rfl rfl dX11_name_24 ?_
      refine A_iload_n dX11_name_27 rfl ?_
      refine A_lload_n dX11_name_28 rfl ?_
      refine A_callVi (a_X0_shuffle (l := l) fu _ _ _ ) lc_X11_248 rfl rfl (by decide) (Nat.le_of_ble_eq_true rfl) rfl dX11_name_29 (fun q1 Mq1 hq1 => ?_)
      refine A_istore dX11_name_32 (Nat.le_of_ble_eq_true rfl) rfl ?_
      refine A_iload dX11_name_34 rfl ?_
      refine A_iconst (v := (0 : Int32)) dX11_name_36 oI_0 ?_
      refine A_iload dX11_name_37 rfl ?_
      refine A_iconst (v := (1 : Int32)) dX11_name_39 oI_1 ?_
      refine A_isub dX11_name_40 ?_
      refine A_callSp (a_X1_within (S := SC) (l := l) _ _ _ _ ) lc_X11_95 rfl (by decide) (Nat.le_of_ble_eq_true rfl) rfl dX11_name_41 ?_
      refine A_if_eq (tgt := 64) dX11_name_44 (by decide) (fun _ => ?_) (fun _ => ?_)
      · refine A_iconst (v := (-1 : Int32)) dX11_name_64 oI_m1 ?_
        exact A_iret rfl dX11_name_65
      · refine A_aload_n dX11_name_47 rfl ?_
        refine A_getr lf_X11_12 rfl rfl dX11_name_48 ?_
        refine A_iload dX11_name_51 rfl ?_
        refine A_iload dX11_name_53 rfl ?_
        refine A_isub dX11_name_55 ?_
        refine A_iload dX11_name_56 rfl ?_
        refine A_callVp (a_X0_shuffledAt (l := l) _ _ _ ) lc_X11_252 rfl rfl (by decide) (Nat.le_of_ble_eq_true rfl) rfl dX11_name_58 ?_
        refine A_goto (tgt := 65) dX11_name_61 (by decide) ?_
        exact A_iret rfl dX11_name_65
theorem a_X11_name {l : Launch} (fu : Nat)  (x1 : Int32) (x2 : Int64) (x4 : Int32) (x5 : Int32) (M : xM)  : AM SC l yX11_name cX11_name 7 (some .int) 3 ki [xr 0, xi x1, xl x2, xi x4, xi x5] M (F_X11_name fu x1 x2 x4 x5  M) :=
  AM.of (L0 := [some (xr 0), some (xi x1), some (xl x2), none, some (xi x4), some (xi x5), none]) (w_X11_name (l := l) fu x1 x2 x4 x5  M ) (by decide +kernel) rfl (Nat.le_of_ble_eq_true rfl) ⟨rfl, rfl, rfl, rfl, rfl, trivial⟩
def F_X11_first_b73 (fu : Nat)  (x1 : Int32) (x2 : Int64) (x4 : Int32) (k47 : Int32 → Int32 → Int32 → xM → Option (Int32 × xM)) (x6 : Int32) (x7 : Int32) (x8 : Int32) (M : xM) : Option (Int32 × xM) :=
  k47 x6 x7 (x8 + (1 : Int32)) M
set_option maxRecDepth 100000 in
set_option maxHeartbeats 4000000 in
theorem a_X11_first_b73 {l : Launch} (fu : Nat) (x1 : Int32) (x2 : Int64) (x4 : Int32)  {k47 : Int32 → Int32 → Int32 → xM → Option (Int32 × xM)} (hk47 : ∀ (b0 : Int32) (b1 : Int32) (b2 : Int32) (M : xM), AW SC l RX11 cX11_first 9 (some .int) 3 ki (k47 b0 b1 b2 M) 47 [some (xr 0), some (xi x1), none, none, some (xi x4), none, some (xi b0), some (xi b1), some (xi b2)] [] M) (x6 : Int32) (x7 : Int32) (x8 : Int32) (M : xM)  : AW SC l RX11 cX11_first 9 (some .int) 3 ki (F_X11_first_b73 fu x1 x2 x4 k47 x6 x7 x8 M) 73 [some (xr 0), some (xi x1), none, none, some (xi x4), none, some (xi x6), some (xi x7), some (xi x8)] [] M := by
  unfold F_X11_first_b73
  refine A_iinc dX11_first_73 rfl oI_1 (Nat.le_of_ble_eq_true rfl) rfl ?_
  refine A_goto (tgt := 47) dX11_first_76 (by decide) ?_
  exact (hk47 _ _ _ _).sub ⟨rfl, rfl, rfl, rfl, rfl, rfl, trivial⟩
def F_X11_first_b47 (fu : Nat)  (x1 : Int32) (x2 : Int64) (x4 : Int32)  : Nat → Int32 → Int32 → Int32 → xM → Option (Int32 × xM)
  | 0, _, _, _, _ => none
  | n + 1, x6, x7, x8, M =>
    (if x4 ≤ x8 then
    some (x7, M)
    else
    (if (P_X0_shuffledAt (-x8) x6 M) = x1 then
    F_X11_first_b73 fu x1 x2 x4 (F_X11_first_b47 fu x1 x2 x4 n) x6 (x7 + (1 : Int32)) x8 M
    else
    F_X11_first_b73 fu x1 x2 x4 (F_X11_first_b47 fu x1 x2 x4 n) x6 x7 x8 M))
set_option maxRecDepth 100000 in
set_option maxHeartbeats 4000000 in
theorem a_X11_first_b47 {l : Launch} (fu : Nat) (x1 : Int32) (x2 : Int64) (x4 : Int32)    : ∀ (n : Nat) (x6 : Int32) (x7 : Int32) (x8 : Int32) (M : xM), AW SC l RX11 cX11_first 9 (some .int) 3 ki (F_X11_first_b47 fu x1 x2 x4 n x6 x7 x8 M) 47 [some (xr 0), some (xi x1), none, none, some (xi x4), none, some (xi x6), some (xi x7), some (xi x8)] [] M := by
  intro n
  induction n with
  | zero =>
    intro x6 x7 x8 M
    exact AW.none
  | succ n ih =>
    intro x6 x7 x8 M
    rw [F_X11_first_b47]
    refine A_iload dX11_first_47 rfl ?_
    refine A_iload dX11_first_49 rfl ?_
    refine A_icmp_ge (tgt := 79) dX11_first_51 (by decide) (fun _ => ?_) (fun _ => ?_)
    · refine A_iload dX11_first_79 rfl ?_
      exact A_iret rfl dX11_first_81
    · refine A_aload_n dX11_first_54 rfl ?_
      refine A_getr lf_X11_12 rfl rfl dX11_first_55 ?_
      refine A_iload dX11_first_58 rfl ?_
      refine A_ineg dX11_first_60 ?_
      refine A_iload dX11_first_61 rfl ?_
      refine A_callVp (a_X0_shuffledAt (l := l) _ _ _ ) lc_X11_252 rfl rfl (by decide) (Nat.le_of_ble_eq_true rfl) rfl dX11_first_63 ?_
      refine A_iload_n dX11_first_66 rfl ?_
      refine A_icmp_ne (tgt := 73) dX11_first_67 (by decide) (fun _ => ?_) (fun _ => ?_)
      · refine A_iinc dX11_first_70 rfl oI_1 (Nat.le_of_ble_eq_true rfl) rfl ?_
        exact (a_X11_first_b73 (l := l) fu x1 x2 x4 ih _ _ _ _ ).sub ⟨rfl, rfl, rfl, rfl, rfl, rfl, trivial⟩
      · exact (a_X11_first_b73 (l := l) fu x1 x2 x4 ih _ _ _ _ ).sub ⟨rfl, rfl, rfl, rfl, rfl, rfl, trivial⟩
def F_X11_first (fu : Nat)  (x1 : Int32) (x2 : Int64) (x4 : Int32)   (M : xM) : Option (Int32 × xM) :=
  (F_X0_officeOf fu x1 M).bind fun q1 =>
  (if q1.1 = (-1 : Int32) then
  some ((-1 : Int32), q1.2)
  else
  (if (P_X1_within x4 (1 : Int32) (100 : Int32) q1.2) = 0 then
  some ((-1 : Int32), q1.2)
  else
  (F_X0_shuffle fu q1.1 x2 q1.2).bind fun q2 =>
  F_X11_first_b47 fu x1 x2 x4 fu q2.1 (0 : Int32) (0 : Int32) q2.2))
set_option maxRecDepth 100000 in
set_option maxHeartbeats 4000000 in
theorem w_X11_first {l : Launch} (fu : Nat) (x1 : Int32) (x2 : Int64) (x4 : Int32)     (M : xM)  : AW SC l RX11 cX11_first 9 (some .int) 3 ki (F_X11_first fu x1 x2 x4  M) 0 [some (xr 0), some (xi x1), some (xl x2), none, some (xi x4), none, none, none, none] [] M := by
  unfold F_X11_first
  refine A_aload_n dX11_first_0 rfl ?_
  refine A_getr lf_X11_12 rfl rfl dX11_first_1 ?_
  refine A_iload_n dX11_first_4 rfl ?_
  refine A_callVi (a_X0_officeOf (l := l) fu _ _ ) lc_X11_202 rfl rfl (by decide) (Nat.le_of_ble_eq_true rfl) rfl dX11_first_5 (fun q1 Mq1 hq1 => ?_)
  refine A_istore dX11_first_8 (Nat.le_of_ble_eq_true rfl) rfl ?_
  refine A_iload dX11_first_10 rfl ?_
  refine A_iconst (v := (-1 : Int32)) dX11_first_12 oI_m1 ?_
  refine A_icmp_eq (tgt := 27) dX11_first_13 (by decide) (fun _ => ?_) (fun _ => ?_)
  · refine A_iconst (v := (-1 : Int32)) dX11_first_27 oI_m1 ?_
    exact A_iret rfl dX11_first_28
  · refine A_iload dX11_first_16 rfl ?_
    refine A_iconst (v := (1 : Int32)) dX11_first_18 oI_1 ?_
    refine A_bipush (v := (100 : Int32)) dX11_first_19 oB_100 ?_
    refine A_callSp (a_X1_within (S := SC) (l := l) _ _ _ _ ) lc_X11_95 rfl (by decide) (Nat.le_of_ble_eq_true rfl) rfl dX11_first_21 ?_
    refine A_if_ne (tgt := 29) dX11_first_24 (by decide) (fun _ => ?_) (fun _ => ?_)
    · refine A_iconst (v := (-1 : Int32)) dX11_first_27 oI_m1 ?_
      exact A_iret rfl dX11_first_28
    · refine A_aload_n dX11_first_29 rfl ?_
      refine A_getr lf_X11_12 rfl rfl dX11_first_30 ?_
      refine A_iload dX11_first_33 rfl ?_
      refine A_lload_n dX11_first_35 rfl ?_
      refine A_callVi (a_X0_shuffle (l := l) fu _ _ _ ) lc_X11_248 rfl rfl (by decide) (Nat.le_of_ble_eq_true rfl) rfl dX11_first_36 (fun q2 Mq2 hq2 => ?_)
      refine A_istore dX11_first_39 (Nat.le_of_ble_eq_true rfl) rfl ?_
      refine A_iconst (v := (0 : Int32)) dX11_first_41 oI_0 ?_
      refine A_istore dX11_first_42 (Nat.le_of_ble_eq_true rfl) rfl ?_
      refine A_iconst (v := (0 : Int32)) dX11_first_44 oI_0 ?_
      refine A_istore dX11_first_45 (Nat.le_of_ble_eq_true rfl) rfl ?_
      exact (a_X11_first_b47 (l := l) fu x1 x2 x4  fu _ _ _ _).sub ⟨rfl, rfl, rfl, rfl, rfl, rfl, trivial⟩
theorem a_X11_first {l : Launch} (fu : Nat)  (x1 : Int32) (x2 : Int64) (x4 : Int32) (M : xM)  : AM SC l yX11_first cX11_first 9 (some .int) 3 ki [xr 0, xi x1, xl x2, xi x4] M (F_X11_first fu x1 x2 x4  M) :=
  AM.of (L0 := [some (xr 0), some (xi x1), some (xl x2), none, some (xi x4), none, none, none, none]) (w_X11_first (l := l) fu x1 x2 x4  M ) (by decide +kernel) rfl (Nat.le_of_ble_eq_true rfl) ⟨rfl, rfl, rfl, rfl, trivial⟩
def F_X11_known (fu : Nat)     (M : xM) : Option (Int32 × xM) :=
  (F_X6_addName fu M).bind fun q1 =>
  some (q1.1, q1.2)
set_option maxRecDepth 100000 in
set_option maxHeartbeats 4000000 in
theorem w_X11_known {l : Launch} (fu : Nat)      (M : xM)  : AW SC l RX11 cX11_known 1 (some .int) 4 ki (F_X11_known fu  M) 0 [some (xr 0)] [] M := by
  unfold F_X11_known
  refine A_aload_n dX11_known_0 rfl ?_
  refine A_getr lf_X11_69 rfl rfl dX11_known_1 ?_
  refine A_aload_n dX11_known_4 rfl ?_
  refine A_getr lf_X11_21 rfl rfl dX11_known_5 ?_
  refine A_callVi (a_X6_addName (l := l) fu  _ ) lc_X11_255 rfl rfl (by decide) (Nat.le_of_ble_eq_true rfl) rfl dX11_known_8 (fun q1 Mq1 hq1 => ?_)
  exact A_iret rfl dX11_known_11
theorem a_X11_known {l : Launch} (fu : Nat)   (M : xM)  : AM SC l yX11_known cX11_known 1 (some .int) 4 ki [xr 0] M (F_X11_known fu   M) :=
  AM.of (L0 := [some (xr 0)]) (w_X11_known (l := l) fu  M ) (by decide +kernel) rfl (Nat.le_of_ble_eq_true rfl) ⟨rfl, trivial⟩
def F_X11_read (fu : Nat)  (x1 : Int32) (x2 : Int32)   (M : xM) : Option (Int32 × xM) :=
  (F_X6_setReading fu x1 x2 M).bind fun q1 =>
  (if q1.1 = 0 ∨ q1.1 = 1 then some (q1.1, q1.2) else none)
set_option maxRecDepth 100000 in
set_option maxHeartbeats 4000000 in
theorem w_X11_read {l : Launch} (fu : Nat) (x1 : Int32) (x2 : Int32)     (M : xM)  : AW SC l RX11 cX11_read 3 (some .boolean) 4 ki (F_X11_read fu x1 x2  M) 0 [some (xr 0), some (xi x1), some (xi x2)] [] M := by
  unfold F_X11_read
  refine A_aload_n dX11_read_0 rfl ?_
  refine A_getr lf_X11_69 rfl rfl dX11_read_1 ?_
  refine A_iload_n dX11_read_4 rfl ?_
  refine A_iload_n dX11_read_5 rfl ?_
  refine A_aload_n dX11_read_6 rfl ?_
  refine A_getr lf_X11_21 rfl rfl dX11_read_7 ?_
  refine A_callVi (a_X6_setReading (l := l) fu _ _ _ ) lc_X11_258 rfl rfl (by decide) (Nat.le_of_ble_eq_true rfl) rfl dX11_read_10 (fun q1 Mq1 hq1 => ?_)
  exact A_zret rfl dX11_read_13
theorem a_X11_read {l : Launch} (fu : Nat)  (x1 : Int32) (x2 : Int32) (M : xM)  : AM SC l yX11_read cX11_read 3 (some .boolean) 4 ki [xr 0, xi x1, xi x2] M (F_X11_read fu x1 x2  M) :=
  AM.of (L0 := [some (xr 0), some (xi x1), some (xi x2)]) (w_X11_read (l := l) fu x1 x2  M ) (by decide +kernel) rfl (Nat.le_of_ble_eq_true rfl) ⟨rfl, rfl, rfl, trivial⟩
def F_X11_limit  (x1 : Int32)   (M : xM) : Option (Int32 × xM) :=
  (if (P_X1_within x1 (0 : Int32) (8 : Int32) M) = 0 then
  some ((0 : Int32), M)
  else
  some ((1 : Int32), (xset M 9 1 x1)))
set_option maxRecDepth 100000 in
set_option maxHeartbeats 4000000 in
theorem w_X11_limit {l : Launch} (x1 : Int32)     (M : xM)  : AW SC l RX11 cX11_limit 2 (some .boolean) 1 ki (F_X11_limit x1  M) 0 [some (xr 0), some (xi x1)] [] M := by
  unfold F_X11_limit
  refine A_iload_n dX11_limit_0 rfl ?_
  refine A_iconst (v := (0 : Int32)) dX11_limit_1 oI_0 ?_
  refine A_bipush (v := (8 : Int32)) dX11_limit_2 oB_8 ?_
  refine A_callSp (a_X1_within (S := SC) (l := l) _ _ _ _ ) lc_X11_95 rfl (by decide) (Nat.le_of_ble_eq_true rfl) rfl dX11_limit_4 ?_
  refine A_if_ne (tgt := 12) dX11_limit_7 (by decide) (fun _ => ?_) (fun _ => ?_)
  · refine A_iconst (v := (0 : Int32)) dX11_limit_10 oI_0 ?_
    exact A_zret' rfl (Or.inl rfl) dX11_limit_11
  · refine A_aload_n dX11_limit_12 rfl ?_
    refine A_getr lf_X11_69 rfl rfl dX11_limit_13 ?_
    refine A_iload_n dX11_limit_16 rfl ?_
    refine A_puti lf_X11_262 rfl rfl dX11_limit_17 ?_
    refine A_iconst (v := (1 : Int32)) dX11_limit_20 oI_1 ?_
    exact A_zret' rfl (Or.inr rfl) dX11_limit_21
theorem a_X11_limit {l : Launch}  (x1 : Int32) (M : xM)  : AM SC l yX11_limit cX11_limit 2 (some .boolean) 1 ki [xr 0, xi x1] M (F_X11_limit  x1  M) :=
  AM.of (L0 := [some (xr 0), some (xi x1)]) (w_X11_limit (l := l) x1  M ) (by decide +kernel) rfl (Nat.le_of_ble_eq_true rfl) ⟨rfl, rfl, trivial⟩
def P_X11_far  (x1 : Int32) (x2 : Int32) (x3 : Int32)   (M : xM) : Int32 :=
  (if (P_X6_isRead x1 x2 M) = 0 then
  (-1 : Int32)
  else
  (if (P_X6_isName x3 M) = 0 then
  (-1 : Int32)
  else
  (P_X6_farFrom x1 x2 x3 M)))
set_option maxRecDepth 100000 in
set_option maxHeartbeats 4000000 in
theorem w_X11_far {l : Launch} (x1 : Int32) (x2 : Int32) (x3 : Int32)     (M : xM)  : AW SC l RX11 cX11_far 4 (some .int) 2 ki (some (P_X11_far x1 x2 x3  M, M)) 0 [some (xr 0), some (xi x1), some (xi x2), some (xi x3)] [] M := by
  unfold P_X11_far
  refine A_aload_n dX11_far_0 rfl ?_
  refine A_getr lf_X11_69 rfl rfl dX11_far_1 ?_
  refine A_iload_n dX11_far_4 rfl ?_
  refine A_iload_n dX11_far_5 rfl ?_
  refine A_callVp (a_X6_isRead (l := l) _ _ _ ) lc_X11_265 rfl rfl (by decide) (Nat.le_of_ble_eq_true rfl) rfl dX11_far_6 ?_
  refine A_if_eq_p (tgt := 23) dX11_far_9 (by decide) (fun _ => ?_) (fun _ => ?_)
  · refine A_iconst (v := (-1 : Int32)) dX11_far_23 oI_m1 ?_
    exact A_iret rfl dX11_far_24
  · refine A_aload_n dX11_far_12 rfl ?_
    refine A_getr lf_X11_69 rfl rfl dX11_far_13 ?_
    refine A_iload_n dX11_far_16 rfl ?_
    refine A_callVp (a_X6_isName (l := l) _ _ ) lc_X11_268 rfl rfl (by decide) (Nat.le_of_ble_eq_true rfl) rfl dX11_far_17 ?_
    refine A_if_ne_p (tgt := 25) dX11_far_20 (by decide) (fun _ => ?_) (fun _ => ?_)
    · refine A_iconst (v := (-1 : Int32)) dX11_far_23 oI_m1 ?_
      exact A_iret rfl dX11_far_24
    · refine A_aload_n dX11_far_25 rfl ?_
      refine A_getr lf_X11_69 rfl rfl dX11_far_26 ?_
      refine A_iload_n dX11_far_29 rfl ?_
      refine A_iload_n dX11_far_30 rfl ?_
      refine A_iload_n dX11_far_31 rfl ?_
      refine A_callVp (a_X6_farFrom (l := l) _ _ _ _ ) lc_X11_271 rfl rfl (by decide) (Nat.le_of_ble_eq_true rfl) rfl dX11_far_32 ?_
      exact A_iret rfl dX11_far_35
theorem a_X11_far {l : Launch}  (x1 : Int32) (x2 : Int32) (x3 : Int32) (M : xM)  : AM SC l yX11_far cX11_far 4 (some .int) 2 ki [xr 0, xi x1, xi x2, xi x3] M (some (P_X11_far  x1 x2 x3  M, M)) :=
  AM.of (L0 := [some (xr 0), some (xi x1), some (xi x2), some (xi x3)]) (w_X11_far (l := l) x1 x2 x3  M ) (by decide +kernel) rfl (Nat.le_of_ble_eq_true rfl) ⟨rfl, rfl, rfl, rfl, trivial⟩
def F_X11_goes (fu : Nat)  (x1 : Int32) (x2 : Int32)   (M : xM) : Option (Int32 × xM) :=
  (if (P_X6_isRead x1 x2 M) = 0 then
  some ((-1 : Int32), M)
  else
  (F_X6_nearest fu x1 x2 M).bind fun q1 =>
  some (q1.1, q1.2))
set_option maxRecDepth 100000 in
set_option maxHeartbeats 4000000 in
theorem w_X11_goes {l : Launch} (fu : Nat) (x1 : Int32) (x2 : Int32)     (M : xM)  : AW SC l RX11 cX11_goes 3 (some .int) 3 ki (F_X11_goes fu x1 x2  M) 0 [some (xr 0), some (xi x1), some (xi x2)] [] M := by
  unfold F_X11_goes
  refine A_aload_n dX11_goes_0 rfl ?_
  refine A_getr lf_X11_69 rfl rfl dX11_goes_1 ?_
  refine A_iload_n dX11_goes_4 rfl ?_
  refine A_iload_n dX11_goes_5 rfl ?_
  refine A_callVp (a_X6_isRead (l := l) _ _ _ ) lc_X11_265 rfl rfl (by decide) (Nat.le_of_ble_eq_true rfl) rfl dX11_goes_6 ?_
  refine A_if_eq (tgt := 24) dX11_goes_9 (by decide) (fun _ => ?_) (fun _ => ?_)
  · refine A_iconst (v := (-1 : Int32)) dX11_goes_24 oI_m1 ?_
    exact A_iret rfl dX11_goes_25
  · refine A_aload_n dX11_goes_12 rfl ?_
    refine A_getr lf_X11_69 rfl rfl dX11_goes_13 ?_
    refine A_iload_n dX11_goes_16 rfl ?_
    refine A_iload_n dX11_goes_17 rfl ?_
    refine A_callVi (a_X6_nearest (l := l) fu _ _ _ ) lc_X11_274 rfl rfl (by decide) (Nat.le_of_ble_eq_true rfl) rfl dX11_goes_18 (fun q1 Mq1 hq1 => ?_)
    refine A_goto (tgt := 25) dX11_goes_21 (by decide) ?_
    exact A_iret rfl dX11_goes_25
theorem a_X11_goes {l : Launch} (fu : Nat)  (x1 : Int32) (x2 : Int32) (M : xM)  : AM SC l yX11_goes cX11_goes 3 (some .int) 3 ki [xr 0, xi x1, xi x2] M (F_X11_goes fu x1 x2  M) :=
  AM.of (L0 := [some (xr 0), some (xi x1), some (xi x2)]) (w_X11_goes (l := l) fu x1 x2  M ) (by decide +kernel) rfl (Nat.le_of_ble_eq_true rfl) ⟨rfl, rfl, rfl, trivial⟩
def F_X11_agrees (fu : Nat)  (x1 : Int32)   (M : xM) : Option (Int32 × xM) :=
  (F_X6_agreedName fu x1 M).bind fun q1 =>
  some (q1.1, q1.2)
set_option maxRecDepth 100000 in
set_option maxHeartbeats 4000000 in
theorem w_X11_agrees {l : Launch} (fu : Nat) (x1 : Int32)     (M : xM)  : AW SC l RX11 cX11_agrees 2 (some .int) 4 ki (F_X11_agrees fu x1  M) 0 [some (xr 0), some (xi x1)] [] M := by
  unfold F_X11_agrees
  refine A_aload_n dX11_agrees_0 rfl ?_
  refine A_getr lf_X11_69 rfl rfl dX11_agrees_1 ?_
  refine A_iload_n dX11_agrees_4 rfl ?_
  refine A_callVi (a_X6_agreedName (l := l) fu _ _ ) lc_X11_277 rfl rfl (by decide) (Nat.le_of_ble_eq_true rfl) rfl dX11_agrees_5 (fun q1 Mq1 hq1 => ?_)
  exact A_iret rfl dX11_agrees_8
theorem a_X11_agrees {l : Launch} (fu : Nat)  (x1 : Int32) (M : xM)  : AM SC l yX11_agrees cX11_agrees 2 (some .int) 4 ki [xr 0, xi x1] M (F_X11_agrees fu x1  M) :=
  AM.of (L0 := [some (xr 0), some (xi x1)]) (w_X11_agrees (l := l) fu x1  M ) (by decide +kernel) rfl (Nat.le_of_ble_eq_true rfl) ⟨rfl, rfl, trivial⟩
def F_X11_papers (fu : Nat)  (x1 : Int32)   (M : xM) : Option (Int32 × xM) :=
  (if (P_X1_within x1 (0 : Int32) (3 : Int32) M) = 0 then
  some ((-1 : Int32), M)
  else
  (F_X6_howMany fu x1 M).bind fun q1 =>
  some (q1.1, q1.2))
set_option maxRecDepth 100000 in
set_option maxHeartbeats 4000000 in
theorem w_X11_papers {l : Launch} (fu : Nat) (x1 : Int32)     (M : xM)  : AW SC l RX11 cX11_papers 2 (some .int) 6 ki (F_X11_papers fu x1  M) 0 [some (xr 0), some (xi x1)] [] M := by
  unfold F_X11_papers
  refine A_iload_n dX11_papers_0 rfl ?_
  refine A_iconst (v := (0 : Int32)) dX11_papers_1 oI_0 ?_
  refine A_iconst (v := (3 : Int32)) dX11_papers_2 oI_3 ?_
  refine A_callSp (a_X1_within (S := SC) (l := l) _ _ _ _ ) lc_X11_95 rfl (by decide) (Nat.le_of_ble_eq_true rfl) rfl dX11_papers_3 ?_
  refine A_if_eq (tgt := 20) dX11_papers_6 (by decide) (fun _ => ?_) (fun _ => ?_)
  · refine A_iconst (v := (-1 : Int32)) dX11_papers_20 oI_m1 ?_
    exact A_iret rfl dX11_papers_21
  · refine A_aload_n dX11_papers_9 rfl ?_
    refine A_getr lf_X11_69 rfl rfl dX11_papers_10 ?_
    refine A_iload_n dX11_papers_13 rfl ?_
    refine A_callVi (a_X6_howMany (l := l) fu _ _ ) lc_X11_280 rfl rfl (by decide) (Nat.le_of_ble_eq_true rfl) rfl dX11_papers_14 (fun q1 Mq1 hq1 => ?_)
    refine A_goto (tgt := 21) dX11_papers_17 (by decide) ?_
    exact A_iret rfl dX11_papers_21
theorem a_X11_papers {l : Launch} (fu : Nat)  (x1 : Int32) (M : xM)  : AM SC l yX11_papers cX11_papers 2 (some .int) 6 ki [xr 0, xi x1] M (F_X11_papers fu x1  M) :=
  AM.of (L0 := [some (xr 0), some (xi x1)]) (w_X11_papers (l := l) fu x1  M ) (by decide +kernel) rfl (Nat.le_of_ble_eq_true rfl) ⟨rfl, rfl, trivial⟩
def F_X11_writtenFor (fu : Nat)  (x1 : Int32) (x2 : Int32)   (M : xM) : Option (Int32 × xM) :=
  (if (P_X6_isName x1 M) = 0 then
  some ((-1 : Int32), M)
  else
  (if (P_X1_within x2 (0 : Int32) (1 : Int32) M) = 0 then
  some ((-1 : Int32), M)
  else
  (if x2 = 0 then
  (F_X6_sureFor fu x1 M).bind fun q2 =>
  some (q2.1, q2.2)
  else
  (F_X6_mostFor fu x1 M).bind fun q1 =>
  some (q1.1, q1.2))))
set_option maxRecDepth 100000 in
set_option maxHeartbeats 4000000 in
theorem w_X11_writtenFor {l : Launch} (fu : Nat) (x1 : Int32) (x2 : Int32)     (M : xM)  : AW SC l RX11 cX11_writtenFor 3 (some .int) 5 ki (F_X11_writtenFor fu x1 x2  M) 0 [some (xr 0), some (xi x1), some (xi x2)] [] M := by
  unfold F_X11_writtenFor
  refine A_aload_n dX11_writtenFor_0 rfl ?_
  refine A_getr lf_X11_69 rfl rfl dX11_writtenFor_1 ?_
  refine A_iload_n dX11_writtenFor_4 rfl ?_
  refine A_callVp (a_X6_isName (l := l) _ _ ) lc_X11_268 rfl rfl (by decide) (Nat.le_of_ble_eq_true rfl) rfl dX11_writtenFor_5 ?_
  refine A_if_eq (tgt := 20) dX11_writtenFor_8 (by decide) (fun _ => ?_) (fun _ => ?_)
  · refine A_iconst (v := (-1 : Int32)) dX11_writtenFor_20 oI_m1 ?_
    exact A_iret rfl dX11_writtenFor_21
  · refine A_iload_n dX11_writtenFor_11 rfl ?_
    refine A_iconst (v := (0 : Int32)) dX11_writtenFor_12 oI_0 ?_
    refine A_iconst (v := (1 : Int32)) dX11_writtenFor_13 oI_1 ?_
    refine A_callSp (a_X1_within (S := SC) (l := l) _ _ _ _ ) lc_X11_95 rfl (by decide) (Nat.le_of_ble_eq_true rfl) rfl dX11_writtenFor_14 ?_
    refine A_if_ne (tgt := 22) dX11_writtenFor_17 (by decide) (fun _ => ?_) (fun _ => ?_)
    · refine A_iconst (v := (-1 : Int32)) dX11_writtenFor_20 oI_m1 ?_
      exact A_iret rfl dX11_writtenFor_21
    · refine A_iload_n dX11_writtenFor_22 rfl ?_
      refine A_if_ne (tgt := 37) dX11_writtenFor_23 (by decide) (fun _ => ?_) (fun _ => ?_)
      · refine A_aload_n dX11_writtenFor_26 rfl ?_
        refine A_getr lf_X11_69 rfl rfl dX11_writtenFor_27 ?_
        refine A_iload_n dX11_writtenFor_30 rfl ?_
        refine A_callVi (a_X6_sureFor (l := l) fu _ _ ) lc_X11_281 rfl rfl (by decide) (Nat.le_of_ble_eq_true rfl) rfl dX11_writtenFor_31 (fun q2 Mq2 hq2 => ?_)
        refine A_goto (tgt := 45) dX11_writtenFor_34 (by decide) ?_
        exact A_iret rfl dX11_writtenFor_45
      · refine A_aload_n dX11_writtenFor_37 rfl ?_
        refine A_getr lf_X11_69 rfl rfl dX11_writtenFor_38 ?_
        refine A_iload_n dX11_writtenFor_41 rfl ?_
        refine A_callVi (a_X6_mostFor (l := l) fu _ _ ) lc_X11_284 rfl rfl (by decide) (Nat.le_of_ble_eq_true rfl) rfl dX11_writtenFor_42 (fun q1 Mq1 hq1 => ?_)
        exact A_iret rfl dX11_writtenFor_45
theorem a_X11_writtenFor {l : Launch} (fu : Nat)  (x1 : Int32) (x2 : Int32) (M : xM)  : AM SC l yX11_writtenFor cX11_writtenFor 3 (some .int) 5 ki [xr 0, xi x1, xi x2] M (F_X11_writtenFor fu x1 x2  M) :=
  AM.of (L0 := [some (xr 0), some (xi x1), some (xi x2)]) (w_X11_writtenFor (l := l) fu x1 x2  M ) (by decide +kernel) rfl (Nat.le_of_ble_eq_true rfl) ⟨rfl, rfl, rfl, trivial⟩
def F_X11_elected (fu : Nat)     (M : xM) : Option (Int32 × xM) :=
  (F_X6_sureWinner fu M).bind fun q1 =>
  some (q1.1, q1.2)
set_option maxRecDepth 100000 in
set_option maxHeartbeats 4000000 in
theorem w_X11_elected {l : Launch} (fu : Nat)      (M : xM)  : AW SC l RX11 cX11_elected 1 (some .int) 7 ki (F_X11_elected fu  M) 0 [some (xr 0)] [] M := by
  unfold F_X11_elected
  refine A_aload_n dX11_elected_0 rfl ?_
  refine A_getr lf_X11_69 rfl rfl dX11_elected_1 ?_
  refine A_callVi (a_X6_sureWinner (l := l) fu  _ ) lc_X11_287 rfl rfl (by decide) (Nat.le_of_ble_eq_true rfl) rfl dX11_elected_4 (fun q1 Mq1 hq1 => ?_)
  exact A_iret rfl dX11_elected_7
theorem a_X11_elected {l : Launch} (fu : Nat)   (M : xM)  : AM SC l yX11_elected cX11_elected 1 (some .int) 7 ki [xr 0] M (F_X11_elected fu   M) :=
  AM.of (L0 := [some (xr 0)]) (w_X11_elected (l := l) fu  M ) (by decide +kernel) rfl (Nat.le_of_ble_eq_true rfl) ⟨rfl, trivial⟩
def F_X11_absent  (x1 : Int32) (x2 : Int32) (x3 : Int32)   (M : xM) : Option (Int32 × xM) :=
  (F_X8_setAbsent x1 x2 x3 M).bind fun q1 =>
  (if q1.1 = 0 ∨ q1.1 = 1 then some (q1.1, q1.2) else none)
set_option maxRecDepth 100000 in
set_option maxHeartbeats 4000000 in
theorem w_X11_absent {l : Launch} (x1 : Int32) (x2 : Int32) (x3 : Int32)     (M : xM)  : AW SC l RX11 cX11_absent 4 (some .boolean) 3 ki (F_X11_absent x1 x2 x3  M) 0 [some (xr 0), some (xi x1), some (xi x2), some (xi x3)] [] M := by
  unfold F_X11_absent
  refine A_aload_n dX11_absent_0 rfl ?_
  refine A_getr lf_X11_55 rfl rfl dX11_absent_1 ?_
  refine A_iload_n dX11_absent_4 rfl ?_
  refine A_iload_n dX11_absent_5 rfl ?_
  refine A_iload_n dX11_absent_6 rfl ?_
  refine A_callVi (a_X8_setAbsent (l := l) _ _ _ _ ) lc_X11_290 rfl rfl (by decide) (Nat.le_of_ble_eq_true rfl) rfl dX11_absent_7 (fun q1 Mq1 hq1 => ?_)
  exact A_zret rfl dX11_absent_10
theorem a_X11_absent {l : Launch}  (x1 : Int32) (x2 : Int32) (x3 : Int32) (M : xM)  : AM SC l yX11_absent cX11_absent 4 (some .boolean) 3 ki [xr 0, xi x1, xi x2, xi x3] M (F_X11_absent  x1 x2 x3  M) :=
  AM.of (L0 := [some (xr 0), some (xi x1), some (xi x2), some (xi x3)]) (w_X11_absent (l := l) x1 x2 x3  M ) (by decide +kernel) rfl (Nat.le_of_ble_eq_true rfl) ⟨rfl, rfl, rfl, rfl, trivial⟩
def F_X11_joinedAhead (fu : Nat)  (x1 : Int32) (x2 : Int32)   (M : xM) : Option (Int32 × xM) :=
  (F_X8_leastLead fu x1 x2 M).bind fun q1 =>
  (if q1.1 = (-100000 : Int32) then
  some ((-100000 : Int32), q1.2)
  else
  some (((q1.1 + (P_X8_leastAbsent x1 q1.2)) - (P_X8_mostAbsent x2 q1.2)), q1.2))
set_option maxRecDepth 100000 in
set_option maxHeartbeats 4000000 in
theorem w_X11_joinedAhead {l : Launch} (fu : Nat) (x1 : Int32) (x2 : Int32)     (M : xM)  : AW SC l RX11 cX11_joinedAhead 4 (some .int) 8 ki (F_X11_joinedAhead fu x1 x2  M) 0 [some (xr 0), some (xi x1), some (xi x2), none] [] M := by
  unfold F_X11_joinedAhead
  refine A_aload_n dX11_joinedAhead_0 rfl ?_
  refine A_getr lf_X11_55 rfl rfl dX11_joinedAhead_1 ?_
  refine A_iload_n dX11_joinedAhead_4 rfl ?_
  refine A_iload_n dX11_joinedAhead_5 rfl ?_
  refine A_callVi (a_X8_leastLead (l := l) fu _ _ _ ) lc_X11_219 rfl rfl (by decide) (Nat.le_of_ble_eq_true rfl) rfl dX11_joinedAhead_6 (fun q1 Mq1 hq1 => ?_)
  refine A_istore_n dX11_joinedAhead_9 (Nat.le_of_ble_eq_true rfl) rfl ?_
  refine A_iload_n dX11_joinedAhead_10 rfl ?_
  refine A_ldcw (v := (-100000 : Int32)) dX11_joinedAhead_11 lk_X11_293 ?_
  refine A_icmp_ne (tgt := 23) dX11_joinedAhead_14 (by decide) (fun _ => ?_) (fun _ => ?_)
  · refine A_ldcw (v := (-100000 : Int32)) dX11_joinedAhead_17 lk_X11_293 ?_
    refine A_goto (tgt := 42) dX11_joinedAhead_20 (by decide) ?_
    exact A_iret rfl dX11_joinedAhead_42
  · refine A_iload_n dX11_joinedAhead_23 rfl ?_
    refine A_aload_n dX11_joinedAhead_24 rfl ?_
    refine A_getr lf_X11_55 rfl rfl dX11_joinedAhead_25 ?_
    refine A_iload_n dX11_joinedAhead_28 rfl ?_
    refine A_callVp (a_X8_leastAbsent (l := l) _ _ ) lc_X11_294 rfl rfl (by decide) (Nat.le_of_ble_eq_true rfl) rfl dX11_joinedAhead_29 ?_
    refine A_iadd dX11_joinedAhead_32 ?_
    refine A_aload_n dX11_joinedAhead_33 rfl ?_
    refine A_getr lf_X11_55 rfl rfl dX11_joinedAhead_34 ?_
    refine A_iload_n dX11_joinedAhead_37 rfl ?_
    refine A_callVp (a_X8_mostAbsent (l := l) _ _ ) lc_X11_297 rfl rfl (by decide) (Nat.le_of_ble_eq_true rfl) rfl dX11_joinedAhead_38 ?_
    refine A_isub dX11_joinedAhead_41 ?_
    exact A_iret rfl dX11_joinedAhead_42
theorem a_X11_joinedAhead {l : Launch} (fu : Nat)  (x1 : Int32) (x2 : Int32) (M : xM)  : AM SC l yX11_joinedAhead cX11_joinedAhead 4 (some .int) 8 ki [xr 0, xi x1, xi x2] M (F_X11_joinedAhead fu x1 x2  M) :=
  AM.of (L0 := [some (xr 0), some (xi x1), some (xi x2), none]) (w_X11_joinedAhead (l := l) fu x1 x2  M ) (by decide +kernel) rfl (Nat.le_of_ble_eq_true rfl) ⟨rfl, rfl, rfl, trivial⟩
def F_X11_event  (x1 : Int32) (x2 : Int32) (x3 : Int32) (x4 : Int32)   (M : xM) : Option (Int32 × xM) :=
  (if (P_X5_isMachine x1 M) = 0 then
  some ((-1 : Int32), M)
  else
  (F_X7_add x1 x2 x3 x4 M).bind fun q1 =>
  some (q1.1, q1.2))
set_option maxRecDepth 100000 in
set_option maxHeartbeats 4000000 in
theorem w_X11_event {l : Launch} (x1 : Int32) (x2 : Int32) (x3 : Int32) (x4 : Int32)     (M : xM)  : AW SC l RX11 cX11_event 5 (some .int) 4 ki (F_X11_event x1 x2 x3 x4  M) 0 [some (xr 0), some (xi x1), some (xi x2), some (xi x3), some (xi x4)] [] M := by
  unfold F_X11_event
  refine A_aload_n dX11_event_0 rfl ?_
  refine A_getr lf_X11_37 rfl rfl dX11_event_1 ?_
  refine A_iload_n dX11_event_4 rfl ?_
  refine A_callVp (a_X5_isMachine (l := l) _ _ ) lc_X11_155 rfl rfl (by decide) (Nat.le_of_ble_eq_true rfl) rfl dX11_event_5 ?_
  refine A_if_eq (tgt := 26) dX11_event_8 (by decide) (fun _ => ?_) (fun _ => ?_)
  · refine A_iconst (v := (-1 : Int32)) dX11_event_26 oI_m1 ?_
    exact A_iret rfl dX11_event_27
  · refine A_aload_n dX11_event_11 rfl ?_
    refine A_getr lf_X11_76 rfl rfl dX11_event_12 ?_
    refine A_iload_n dX11_event_15 rfl ?_
    refine A_iload_n dX11_event_16 rfl ?_
    refine A_iload_n dX11_event_17 rfl ?_
    refine A_iload dX11_event_18 rfl ?_
    refine A_callVi (a_X7_add (l := l) _ _ _ _ _ ) lc_X11_300 rfl rfl (by decide) (Nat.le_of_ble_eq_true rfl) rfl dX11_event_20 (fun q1 Mq1 hq1 => ?_)
    refine A_goto (tgt := 27) dX11_event_23 (by decide) ?_
    exact A_iret rfl dX11_event_27
theorem a_X11_event {l : Launch}  (x1 : Int32) (x2 : Int32) (x3 : Int32) (x4 : Int32) (M : xM)  : AM SC l yX11_event cX11_event 5 (some .int) 4 ki [xr 0, xi x1, xi x2, xi x3, xi x4] M (F_X11_event  x1 x2 x3 x4  M) :=
  AM.of (L0 := [some (xr 0), some (xi x1), some (xi x2), some (xi x3), some (xi x4)]) (w_X11_event (l := l) x1 x2 x3 x4  M ) (by decide +kernel) rfl (Nat.le_of_ble_eq_true rfl) ⟨rfl, rfl, rfl, rfl, rfl, trivial⟩
def F_X11_badOnes (fu : Nat)  (x1 : Int32)   (M : xM) : Option (Int32 × xM) :=
  (if (P_X5_isMachine x1 M) = 0 then
  some ((-1 : Int32), M)
  else
  (F_X7_badEvents fu x1 M).bind fun q1 =>
  some (q1.1, q1.2))
set_option maxRecDepth 100000 in
set_option maxHeartbeats 4000000 in
theorem w_X11_badOnes {l : Launch} (fu : Nat) (x1 : Int32)     (M : xM)  : AW SC l RX11 cX11_badOnes 2 (some .int) 3 ki (F_X11_badOnes fu x1  M) 0 [some (xr 0), some (xi x1)] [] M := by
  unfold F_X11_badOnes
  refine A_aload_n dX11_badOnes_0 rfl ?_
  refine A_getr lf_X11_37 rfl rfl dX11_badOnes_1 ?_
  refine A_iload_n dX11_badOnes_4 rfl ?_
  refine A_callVp (a_X5_isMachine (l := l) _ _ ) lc_X11_155 rfl rfl (by decide) (Nat.le_of_ble_eq_true rfl) rfl dX11_badOnes_5 ?_
  refine A_if_eq (tgt := 22) dX11_badOnes_8 (by decide) (fun _ => ?_) (fun _ => ?_)
  · refine A_iconst (v := (-1 : Int32)) dX11_badOnes_22 oI_m1 ?_
    exact A_iret rfl dX11_badOnes_23
  · refine A_aload_n dX11_badOnes_11 rfl ?_
    refine A_getr lf_X11_76 rfl rfl dX11_badOnes_12 ?_
    refine A_iload_n dX11_badOnes_15 rfl ?_
    refine A_callVi (a_X7_badEvents (l := l) fu _ _ ) lc_X11_302 rfl rfl (by decide) (Nat.le_of_ble_eq_true rfl) rfl dX11_badOnes_16 (fun q1 Mq1 hq1 => ?_)
    refine A_goto (tgt := 23) dX11_badOnes_19 (by decide) ?_
    exact A_iret rfl dX11_badOnes_23
theorem a_X11_badOnes {l : Launch} (fu : Nat)  (x1 : Int32) (M : xM)  : AM SC l yX11_badOnes cX11_badOnes 2 (some .int) 3 ki [xr 0, xi x1] M (F_X11_badOnes fu x1  M) :=
  AM.of (L0 := [some (xr 0), some (xi x1)]) (w_X11_badOnes (l := l) fu x1  M ) (by decide +kernel) rfl (Nat.le_of_ble_eq_true rfl) ⟨rfl, rfl, trivial⟩
def F_X11_exposed (fu : Nat)  (x1 : Int32) (x2 : Int32) (x3 : Int32)   (M : xM) : Option (Int32 × xM) :=
  (if (P_X5_isMachine x1 M) = 0 then
  some ((-1 : Int32), M)
  else
  (if (P_X7_isSpan x2 x3 M) = 0 then
  some ((-1 : Int32), M)
  else
  (F_X7_openTime fu x1 (-1 : Int32) x2 x3 M).bind fun q1 =>
  some (q1.1, q1.2)))
set_option maxRecDepth 100000 in
set_option maxHeartbeats 4000000 in
theorem w_X11_exposed {l : Launch} (fu : Nat) (x1 : Int32) (x2 : Int32) (x3 : Int32)     (M : xM)  : AW SC l RX11 cX11_exposed 4 (some .int) 3 ki (F_X11_exposed fu x1 x2 x3  M) 0 [some (xr 0), some (xi x1), some (xi x2), some (xi x3)] [] M := by
  unfold F_X11_exposed
  refine A_aload_n dX11_exposed_0 rfl ?_
  refine A_getr lf_X11_37 rfl rfl dX11_exposed_1 ?_
  refine A_iload_n dX11_exposed_4 rfl ?_
  refine A_callVp (a_X5_isMachine (l := l) _ _ ) lc_X11_155 rfl rfl (by decide) (Nat.le_of_ble_eq_true rfl) rfl dX11_exposed_5 ?_
  refine A_if_eq (tgt := 19) dX11_exposed_8 (by decide) (fun _ => ?_) (fun _ => ?_)
  · refine A_iconst (v := (-1 : Int32)) dX11_exposed_19 oI_m1 ?_
    exact A_iret rfl dX11_exposed_20
  · refine A_iload_n dX11_exposed_11 rfl ?_
    refine A_iload_n dX11_exposed_12 rfl ?_
    refine A_callSp (a_X7_isSpan (l := l) _ _ _ ) lc_X11_305 rfl (by decide) (Nat.le_of_ble_eq_true rfl) rfl dX11_exposed_13 ?_
    refine A_if_ne (tgt := 21) dX11_exposed_16 (by decide) (fun _ => ?_) (fun _ => ?_)
    · refine A_iconst (v := (-1 : Int32)) dX11_exposed_19 oI_m1 ?_
      exact A_iret rfl dX11_exposed_20
    · refine A_aload_n dX11_exposed_21 rfl ?_
      refine A_getr lf_X11_76 rfl rfl dX11_exposed_22 ?_
      refine A_iload_n dX11_exposed_25 rfl ?_
      refine A_iconst (v := (-1 : Int32)) dX11_exposed_26 oI_m1 ?_
      refine A_iload_n dX11_exposed_27 rfl ?_
      refine A_iload_n dX11_exposed_28 rfl ?_
      refine A_callVi (a_X7_openTime (l := l) fu _ _ _ _ _ ) lc_X11_308 rfl rfl (by decide) (Nat.le_of_ble_eq_true rfl) rfl dX11_exposed_29 (fun q1 Mq1 hq1 => ?_)
      exact A_iret rfl dX11_exposed_32
theorem a_X11_exposed {l : Launch} (fu : Nat)  (x1 : Int32) (x2 : Int32) (x3 : Int32) (M : xM)  : AM SC l yX11_exposed cX11_exposed 4 (some .int) 3 ki [xr 0, xi x1, xi x2, xi x3] M (F_X11_exposed fu x1 x2 x3  M) :=
  AM.of (L0 := [some (xr 0), some (xi x1), some (xi x2), some (xi x3)]) (w_X11_exposed (l := l) fu x1 x2 x3  M ) (by decide +kernel) rfl (Nat.le_of_ble_eq_true rfl) ⟨rfl, rfl, rfl, rfl, trivial⟩
def F_X11_placeAt (fu : Nat)  (x1 : Int32) (x2 : Int32)   (M : xM) : Option (Int32 × xM) :=
  (if (P_X5_isMachine x1 M) = 0 then
  some ((-1 : Int32), M)
  else
  (if (P_X7_isTime x2 M) = 0 then
  some ((-1 : Int32), M)
  else
  (F_X7_placeThen fu x1 x2 M).bind fun q1 =>
  some (q1.1, q1.2)))
set_option maxRecDepth 100000 in
set_option maxHeartbeats 4000000 in
theorem w_X11_placeAt {l : Launch} (fu : Nat) (x1 : Int32) (x2 : Int32)     (M : xM)  : AW SC l RX11 cX11_placeAt 3 (some .int) 2 ki (F_X11_placeAt fu x1 x2  M) 0 [some (xr 0), some (xi x1), some (xi x2)] [] M := by
  unfold F_X11_placeAt
  refine A_aload_n dX11_placeAt_0 rfl ?_
  refine A_getr lf_X11_37 rfl rfl dX11_placeAt_1 ?_
  refine A_iload_n dX11_placeAt_4 rfl ?_
  refine A_callVp (a_X5_isMachine (l := l) _ _ ) lc_X11_155 rfl rfl (by decide) (Nat.le_of_ble_eq_true rfl) rfl dX11_placeAt_5 ?_
  refine A_if_eq (tgt := 18) dX11_placeAt_8 (by decide) (fun _ => ?_) (fun _ => ?_)
  · refine A_iconst (v := (-1 : Int32)) dX11_placeAt_18 oI_m1 ?_
    exact A_iret rfl dX11_placeAt_19
  · refine A_iload_n dX11_placeAt_11 rfl ?_
    refine A_callSp (a_X7_isTime (l := l) _ _ ) lc_X11_311 rfl (by decide) (Nat.le_of_ble_eq_true rfl) rfl dX11_placeAt_12 ?_
    refine A_if_ne (tgt := 20) dX11_placeAt_15 (by decide) (fun _ => ?_) (fun _ => ?_)
    · refine A_iconst (v := (-1 : Int32)) dX11_placeAt_18 oI_m1 ?_
      exact A_iret rfl dX11_placeAt_19
    · refine A_aload_n dX11_placeAt_20 rfl ?_
      refine A_getr lf_X11_76 rfl rfl dX11_placeAt_21 ?_
      refine A_iload_n dX11_placeAt_24 rfl ?_
      refine A_iload_n dX11_placeAt_25 rfl ?_
      refine A_callVi (a_X7_placeThen (l := l) fu _ _ _ ) lc_X11_314 rfl rfl (by decide) (Nat.le_of_ble_eq_true rfl) rfl dX11_placeAt_26 (fun q1 Mq1 hq1 => ?_)
      exact A_iret rfl dX11_placeAt_29
theorem a_X11_placeAt {l : Launch} (fu : Nat)  (x1 : Int32) (x2 : Int32) (M : xM)  : AM SC l yX11_placeAt cX11_placeAt 3 (some .int) 2 ki [xr 0, xi x1, xi x2] M (F_X11_placeAt fu x1 x2  M) :=
  AM.of (L0 := [some (xr 0), some (xi x1), some (xi x2)]) (w_X11_placeAt (l := l) fu x1 x2  M ) (by decide +kernel) rfl (Nat.le_of_ble_eq_true rfl) ⟨rfl, rfl, rfl, trivial⟩
def F_X11_alone (fu : Nat)  (x1 : Int32) (x2 : Int32) (x3 : Int32) (x4 : Int32)   (M : xM) : Option (Int32 × xM) :=
  (if (P_X5_isMachine x1 M) = 0 then
  some ((-1 : Int32), M)
  else
  (if (P_X7_isSpan x3 x4 M) = 0 then
  some ((-1 : Int32), M)
  else
  (if (P_X7_isPlace x2 M) = 0 then
  some ((-1 : Int32), M)
  else
  (F_X7_openTime fu x1 x2 x3 x4 M).bind fun q1 =>
  some (q1.1, q1.2))))
set_option maxRecDepth 100000 in
set_option maxHeartbeats 4000000 in
theorem w_X11_alone {l : Launch} (fu : Nat) (x1 : Int32) (x2 : Int32) (x3 : Int32) (x4 : Int32)     (M : xM)  : AW SC l RX11 cX11_alone 5 (some .int) 3 ki (F_X11_alone fu x1 x2 x3 x4  M) 0 [some (xr 0), some (xi x1), some (xi x2), some (xi x3), some (xi x4)] [] M := by
  unfold F_X11_alone
  refine A_aload_n dX11_alone_0 rfl ?_
  refine A_getr lf_X11_37 rfl rfl dX11_alone_1 ?_
  refine A_iload_n dX11_alone_4 rfl ?_
  refine A_callVp (a_X5_isMachine (l := l) _ _ ) lc_X11_155 rfl rfl (by decide) (Nat.le_of_ble_eq_true rfl) rfl dX11_alone_5 ?_
  refine A_if_eq (tgt := 27) dX11_alone_8 (by decide) (fun _ => ?_) (fun _ => ?_)
  · refine A_iconst (v := (-1 : Int32)) dX11_alone_27 oI_m1 ?_
    exact A_iret rfl dX11_alone_28
  · refine A_iload_n dX11_alone_11 rfl ?_
    refine A_iload dX11_alone_12 rfl ?_
    refine A_callSp (a_X7_isSpan (l := l) _ _ _ ) lc_X11_305 rfl (by decide) (Nat.le_of_ble_eq_true rfl) rfl dX11_alone_14 ?_
    refine A_if_eq (tgt := 27) dX11_alone_17 (by decide) (fun _ => ?_) (fun _ => ?_)
    · refine A_iconst (v := (-1 : Int32)) dX11_alone_27 oI_m1 ?_
      exact A_iret rfl dX11_alone_28
    · refine A_iload_n dX11_alone_20 rfl ?_
      refine A_callSp (a_X7_isPlace (l := l) _ _ ) lc_X11_317 rfl (by decide) (Nat.le_of_ble_eq_true rfl) rfl dX11_alone_21 ?_
      refine A_if_ne (tgt := 29) dX11_alone_24 (by decide) (fun _ => ?_) (fun _ => ?_)
      · refine A_iconst (v := (-1 : Int32)) dX11_alone_27 oI_m1 ?_
        exact A_iret rfl dX11_alone_28
      · refine A_aload_n dX11_alone_29 rfl ?_
        refine A_getr lf_X11_76 rfl rfl dX11_alone_30 ?_
        refine A_iload_n dX11_alone_33 rfl ?_
        refine A_iload_n dX11_alone_34 rfl ?_
        refine A_iload_n dX11_alone_35 rfl ?_
        refine A_iload dX11_alone_36 rfl ?_
        refine A_callVi (a_X7_openTime (l := l) fu _ _ _ _ _ ) lc_X11_308 rfl rfl (by decide) (Nat.le_of_ble_eq_true rfl) rfl dX11_alone_38 (fun q1 Mq1 hq1 => ?_)
        exact A_iret rfl dX11_alone_41
theorem a_X11_alone {l : Launch} (fu : Nat)  (x1 : Int32) (x2 : Int32) (x3 : Int32) (x4 : Int32) (M : xM)  : AM SC l yX11_alone cX11_alone 5 (some .int) 3 ki [xr 0, xi x1, xi x2, xi x3, xi x4] M (F_X11_alone fu x1 x2 x3 x4  M) :=
  AM.of (L0 := [some (xr 0), some (xi x1), some (xi x2), some (xi x3), some (xi x4)]) (w_X11_alone (l := l) fu x1 x2 x3 x4  M ) (by decide +kernel) rfl (Nat.le_of_ble_eq_true rfl) ⟨rfl, rfl, rfl, rfl, rfl, trivial⟩
def F_X11_recount  (x1 : Int32) (x2 : Int32) (x3 : Int32)   (M : xM) : Option (Int32 × xM) :=
  (F_X5_addRecount x1 x2 x3 M).bind fun q1 =>
  some (q1.1, q1.2)
set_option maxRecDepth 100000 in
set_option maxHeartbeats 4000000 in
theorem w_X11_recount {l : Launch} (x1 : Int32) (x2 : Int32) (x3 : Int32)     (M : xM)  : AW SC l RX11 cX11_recount 4 (some .int) 4 ki (F_X11_recount x1 x2 x3  M) 0 [some (xr 0), some (xi x1), some (xi x2), some (xi x3)] [] M := by
  unfold F_X11_recount
  refine A_aload_n dX11_recount_0 rfl ?_
  refine A_getr lf_X11_37 rfl rfl dX11_recount_1 ?_
  refine A_iload_n dX11_recount_4 rfl ?_
  refine A_iload_n dX11_recount_5 rfl ?_
  refine A_iload_n dX11_recount_6 rfl ?_
  refine A_callVi (a_X5_addRecount (l := l) _ _ _ _ ) lc_X11_320 rfl rfl (by decide) (Nat.le_of_ble_eq_true rfl) rfl dX11_recount_7 (fun q1 Mq1 hq1 => ?_)
  exact A_iret rfl dX11_recount_10
theorem a_X11_recount {l : Launch}  (x1 : Int32) (x2 : Int32) (x3 : Int32) (M : xM)  : AM SC l yX11_recount cX11_recount 4 (some .int) 4 ki [xr 0, xi x1, xi x2, xi x3] M (F_X11_recount  x1 x2 x3  M) :=
  AM.of (L0 := [some (xr 0), some (xi x1), some (xi x2), some (xi x3)]) (w_X11_recount (l := l) x1 x2 x3  M ) (by decide +kernel) rfl (Nat.le_of_ble_eq_true rfl) ⟨rfl, rfl, rfl, rfl, trivial⟩
def P_X11_kept  (x1 : Int32) (x2 : Int32) (x3 : Int32)   (M : xM) : Int32 :=
  (P_X5_keptRecount x1 x2 x3 M)
set_option maxRecDepth 100000 in
set_option maxHeartbeats 4000000 in
theorem w_X11_kept {l : Launch} (x1 : Int32) (x2 : Int32) (x3 : Int32)     (M : xM)  : AW SC l RX11 cX11_kept 4 (some .int) 4 ki (some (P_X11_kept x1 x2 x3  M, M)) 0 [some (xr 0), some (xi x1), some (xi x2), some (xi x3)] [] M := by
  unfold P_X11_kept
  refine A_aload_n dX11_kept_0 rfl ?_
  refine A_getr lf_X11_37 rfl rfl dX11_kept_1 ?_
  refine A_iload_n dX11_kept_4 rfl ?_
  refine A_iload_n dX11_kept_5 rfl ?_
  refine A_iload_n dX11_kept_6 rfl ?_
  refine A_callVp (a_X5_keptRecount (l := l) _ _ _ _ ) lc_X11_323 rfl rfl (by decide) (Nat.le_of_ble_eq_true rfl) rfl dX11_kept_7 ?_
  exact A_iret rfl dX11_kept_10
theorem a_X11_kept {l : Launch}  (x1 : Int32) (x2 : Int32) (x3 : Int32) (M : xM)  : AM SC l yX11_kept cX11_kept 4 (some .int) 4 ki [xr 0, xi x1, xi x2, xi x3] M (some (P_X11_kept  x1 x2 x3  M, M)) :=
  AM.of (L0 := [some (xr 0), some (xi x1), some (xi x2), some (xi x3)]) (w_X11_kept (l := l) x1 x2 x3  M ) (by decide +kernel) rfl (Nat.le_of_ble_eq_true rfl) ⟨rfl, rfl, rfl, rfl, trivial⟩
def F_X11_changed (fu : Nat)  (x1 : Int32) (x2 : Int32)   (M : xM) : Option (Int32 × xM) :=
  (F_X5_changes fu x1 x2 M).bind fun q1 =>
  some (q1.1, q1.2)
set_option maxRecDepth 100000 in
set_option maxHeartbeats 4000000 in
theorem w_X11_changed {l : Launch} (fu : Nat) (x1 : Int32) (x2 : Int32)     (M : xM)  : AW SC l RX11 cX11_changed 3 (some .int) 4 ki (F_X11_changed fu x1 x2  M) 0 [some (xr 0), some (xi x1), some (xi x2)] [] M := by
  unfold F_X11_changed
  refine A_aload_n dX11_changed_0 rfl ?_
  refine A_getr lf_X11_37 rfl rfl dX11_changed_1 ?_
  refine A_iload_n dX11_changed_4 rfl ?_
  refine A_iload_n dX11_changed_5 rfl ?_
  refine A_callVi (a_X5_changes (l := l) fu _ _ _ ) lc_X11_326 rfl rfl (by decide) (Nat.le_of_ble_eq_true rfl) rfl dX11_changed_6 (fun q1 Mq1 hq1 => ?_)
  exact A_iret rfl dX11_changed_9
theorem a_X11_changed {l : Launch} (fu : Nat)  (x1 : Int32) (x2 : Int32) (M : xM)  : AM SC l yX11_changed cX11_changed 3 (some .int) 4 ki [xr 0, xi x1, xi x2] M (F_X11_changed fu x1 x2  M) :=
  AM.of (L0 := [some (xr 0), some (xi x1), some (xi x2)]) (w_X11_changed (l := l) fu x1 x2  M ) (by decide +kernel) rfl (Nat.le_of_ble_eq_true rfl) ⟨rfl, rfl, rfl, trivial⟩
def F_X11_differs (fu : Nat)  (x1 : Int32)   (M : xM) : Option (Int32 × xM) :=
  (if (P_X5_isMachine x1 M) = 0 then
  some ((-1 : Int32), M)
  else
  (F_X5_unlikeShown fu x1 M).bind fun q1 =>
  some (q1.1, q1.2))
set_option maxRecDepth 100000 in
set_option maxHeartbeats 4000000 in
theorem w_X11_differs {l : Launch} (fu : Nat) (x1 : Int32)     (M : xM)  : AW SC l RX11 cX11_differs 2 (some .int) 3 ki (F_X11_differs fu x1  M) 0 [some (xr 0), some (xi x1)] [] M := by
  unfold F_X11_differs
  refine A_aload_n dX11_differs_0 rfl ?_
  refine A_getr lf_X11_37 rfl rfl dX11_differs_1 ?_
  refine A_iload_n dX11_differs_4 rfl ?_
  refine A_callVp (a_X5_isMachine (l := l) _ _ ) lc_X11_155 rfl rfl (by decide) (Nat.le_of_ble_eq_true rfl) rfl dX11_differs_5 ?_
  refine A_if_eq (tgt := 22) dX11_differs_8 (by decide) (fun _ => ?_) (fun _ => ?_)
  · refine A_iconst (v := (-1 : Int32)) dX11_differs_22 oI_m1 ?_
    exact A_iret rfl dX11_differs_23
  · refine A_aload_n dX11_differs_11 rfl ?_
    refine A_getr lf_X11_37 rfl rfl dX11_differs_12 ?_
    refine A_iload_n dX11_differs_15 rfl ?_
    refine A_callVi (a_X5_unlikeShown (l := l) fu _ _ ) lc_X11_329 rfl rfl (by decide) (Nat.le_of_ble_eq_true rfl) rfl dX11_differs_16 (fun q1 Mq1 hq1 => ?_)
    refine A_goto (tgt := 23) dX11_differs_19 (by decide) ?_
    exact A_iret rfl dX11_differs_23
theorem a_X11_differs {l : Launch} (fu : Nat)  (x1 : Int32) (M : xM)  : AM SC l yX11_differs cX11_differs 2 (some .int) 3 ki [xr 0, xi x1] M (F_X11_differs fu x1  M) :=
  AM.of (L0 := [some (xr 0), some (xi x1)]) (w_X11_differs (l := l) fu x1  M ) (by decide +kernel) rfl (Nat.le_of_ble_eq_true rfl) ⟨rfl, rfl, trivial⟩
def F_X11_take (fu : Nat)  (x1 : Int32)   (M : xM) : Option (Int32 × xM) :=
  (if (P_X5_isMachine x1 M) = 0 then
  some ((-1 : Int32), M)
  else
  (F_X5_takeRecounts fu x1 M).bind fun q1 =>
  some (q1.1, q1.2))
set_option maxRecDepth 100000 in
set_option maxHeartbeats 4000000 in
theorem w_X11_take {l : Launch} (fu : Nat) (x1 : Int32)     (M : xM)  : AW SC l RX11 cX11_take 2 (some .int) 4 ki (F_X11_take fu x1  M) 0 [some (xr 0), some (xi x1)] [] M := by
  unfold F_X11_take
  refine A_aload_n dX11_take_0 rfl ?_
  refine A_getr lf_X11_37 rfl rfl dX11_take_1 ?_
  refine A_iload_n dX11_take_4 rfl ?_
  refine A_callVp (a_X5_isMachine (l := l) _ _ ) lc_X11_155 rfl rfl (by decide) (Nat.le_of_ble_eq_true rfl) rfl dX11_take_5 ?_
  refine A_if_eq (tgt := 22) dX11_take_8 (by decide) (fun _ => ?_) (fun _ => ?_)
  · refine A_iconst (v := (-1 : Int32)) dX11_take_22 oI_m1 ?_
    exact A_iret rfl dX11_take_23
  · refine A_aload_n dX11_take_11 rfl ?_
    refine A_getr lf_X11_37 rfl rfl dX11_take_12 ?_
    refine A_iload_n dX11_take_15 rfl ?_
    refine A_callVi (a_X5_takeRecounts (l := l) fu _ _ ) lc_X11_332 rfl rfl (by decide) (Nat.le_of_ble_eq_true rfl) rfl dX11_take_16 (fun q1 Mq1 hq1 => ?_)
    refine A_goto (tgt := 23) dX11_take_19 (by decide) ?_
    exact A_iret rfl dX11_take_23
theorem a_X11_take {l : Launch} (fu : Nat)  (x1 : Int32) (M : xM)  : AM SC l yX11_take cX11_take 2 (some .int) 4 ki [xr 0, xi x1] M (F_X11_take fu x1  M) :=
  AM.of (L0 := [some (xr 0), some (xi x1)]) (w_X11_take (l := l) fu x1  M ) (by decide +kernel) rfl (Nat.le_of_ble_eq_true rfl) ⟨rfl, rfl, trivial⟩
def P_X11_count  (x1 : Int32)   (M : xM) : Int32 :=
  (if x1 = (0 : Int32) then
  (M 1 1)
  else
  (if x1 = (1 : Int32) then
  (M 1 2)
  else
  (if x1 = (2 : Int32) then
  (M 3 0)
  else
  (if x1 = (3 : Int32) then
  (M 5 1)
  else
  (if x1 = (4 : Int32) then
  (M 8 2)
  else
  (if x1 = (5 : Int32) then
  (M 2 1)
  else
  (if x1 = (6 : Int32) then
  (M 3 1)
  else
  (if x1 = (7 : Int32) then
  (M 1 0)
  else
  (if x1 = (8 : Int32) then
  (M 9 0)
  else
  (-100000 : Int32))))))))))
set_option maxRecDepth 100000 in
set_option maxHeartbeats 4000000 in
theorem w_X11_count {l : Launch} (x1 : Int32)     (M : xM)  : AW SC l RX11 cX11_count 2 (some .int) 0 ki (some (P_X11_count x1  M, M)) 0 [some (xr 0), some (xi x1)] [] M := by
  unfold P_X11_count
  refine A_iload_n dX11_count_0 rfl ?_
  refine AW.ite_p (fun e => ?_) (fun e0 => ?_)
  · refine A_tableIn (off := 51) (tgt := 52) dX11_count_1 (by rw [e]; decide) (by rw [e]; decide) (by rw [e]; rfl) (by decide) ?_
    refine A_aload_n dX11_count_52 rfl ?_
    refine A_getr lf_X11_12 rfl rfl dX11_count_53 ?_
    refine A_geti lf_X11_335 rfl rfl dX11_count_56 ?_
    exact A_iret rfl dX11_count_59
  · refine AW.ite_p (fun e => ?_) (fun e1 => ?_)
    · refine A_tableIn (off := 59) (tgt := 60) dX11_count_1 (by rw [e]; decide) (by rw [e]; decide) (by rw [e]; rfl) (by decide) ?_
      refine A_aload_n dX11_count_60 rfl ?_
      refine A_getr lf_X11_12 rfl rfl dX11_count_61 ?_
      refine A_geti lf_X11_338 rfl rfl dX11_count_64 ?_
      exact A_iret rfl dX11_count_67
    · refine AW.ite_p (fun e => ?_) (fun e2 => ?_)
      · refine A_tableIn (off := 67) (tgt := 68) dX11_count_1 (by rw [e]; decide) (by rw [e]; decide) (by rw [e]; rfl) (by decide) ?_
        refine A_aload_n dX11_count_68 rfl ?_
        refine A_getr lf_X11_28 rfl rfl dX11_count_69 ?_
        refine A_geti lf_X11_341 rfl rfl dX11_count_72 ?_
        exact A_iret rfl dX11_count_75
      · refine AW.ite_p (fun e => ?_) (fun e3 => ?_)
        · refine A_tableIn (off := 75) (tgt := 76) dX11_count_1 (by rw [e]; decide) (by rw [e]; decide) (by rw [e]; rfl) (by decide) ?_
          refine A_aload_n dX11_count_76 rfl ?_
          refine A_getr lf_X11_37 rfl rfl dX11_count_77 ?_
          refine A_geti lf_X11_146 rfl rfl dX11_count_80 ?_
          exact A_iret rfl dX11_count_83
        · refine AW.ite_p (fun e => ?_) (fun e4 => ?_)
          · refine A_tableIn (off := 83) (tgt := 84) dX11_count_1 (by rw [e]; decide) (by rw [e]; decide) (by rw [e]; rfl) (by decide) ?_
            refine A_aload_n dX11_count_84 rfl ?_
            refine A_getr lf_X11_62 rfl rfl dX11_count_85 ?_
            refine A_geti lf_X11_342 rfl rfl dX11_count_88 ?_
            exact A_iret rfl dX11_count_91
          · refine AW.ite_p (fun e => ?_) (fun e5 => ?_)
            · refine A_tableIn (off := 91) (tgt := 92) dX11_count_1 (by rw [e]; decide) (by rw [e]; decide) (by rw [e]; rfl) (by decide) ?_
              refine A_aload_n dX11_count_92 rfl ?_
              refine A_getr lf_X11_21 rfl rfl dX11_count_93 ?_
              refine A_geti lf_X11_126 rfl rfl dX11_count_96 ?_
              exact A_iret rfl dX11_count_99
            · refine AW.ite_p (fun e => ?_) (fun e6 => ?_)
              · refine A_tableIn (off := 99) (tgt := 100) dX11_count_1 (by rw [e]; decide) (by rw [e]; decide) (by rw [e]; rfl) (by decide) ?_
                refine A_aload_n dX11_count_100 rfl ?_
                refine A_getr lf_X11_28 rfl rfl dX11_count_101 ?_
                refine A_geti lf_X11_143 rfl rfl dX11_count_104 ?_
                exact A_iret rfl dX11_count_107
              · refine AW.ite_p (fun e => ?_) (fun e7 => ?_)
                · refine A_tableIn (off := 107) (tgt := 108) dX11_count_1 (by rw [e]; decide) (by rw [e]; decide) (by rw [e]; rfl) (by decide) ?_
                  refine A_aload_n dX11_count_108 rfl ?_
                  refine A_getr lf_X11_12 rfl rfl dX11_count_109 ?_
                  refine A_geti lf_X11_343 rfl rfl dX11_count_112 ?_
                  exact A_iret rfl dX11_count_115
                · refine AW.ite_p (fun e => ?_) (fun e8 => ?_)
                  · refine A_tableIn (off := 115) (tgt := 116) dX11_count_1 (by rw [e]; decide) (by rw [e]; decide) (by rw [e]; rfl) (by decide) ?_
                    refine A_aload_n dX11_count_116 rfl ?_
                    refine A_getr lf_X11_69 rfl rfl dX11_count_117 ?_
                    refine A_geti lf_X11_346 rfl rfl dX11_count_120 ?_
                    exact A_iret rfl dX11_count_123
                  · refine A_tableOut (tgt := 124) dX11_count_1 (by have z0 := xne (k := 0) (by decide) e0; have z1 := xne (k := 1) (by decide) e1; have z2 := xne (k := 2) (by decide) e2; have z3 := xne (k := 3) (by decide) e3; have z4 := xne (k := 4) (by decide) e4; have z5 := xne (k := 5) (by decide) e5; have z6 := xne (k := 6) (by decide) e6; have z7 := xne (k := 7) (by decide) e7; have z8 := xne (k := 8) (by decide) e8; omega) (by decide) ?_
                    refine A_ldcw (v := (-100000 : Int32)) dX11_count_124 lk_X11_293 ?_
                    exact A_iret rfl dX11_count_127
theorem a_X11_count {l : Launch}  (x1 : Int32) (M : xM)  : AM SC l yX11_count cX11_count 2 (some .int) 0 ki [xr 0, xi x1] M (some (P_X11_count  x1  M, M)) :=
  AM.of (L0 := [some (xr 0), some (xi x1)]) (w_X11_count (l := l) x1  M ) (by decide +kernel) rfl (Nat.le_of_ble_eq_true rfl) ⟨rfl, rfl, trivial⟩
