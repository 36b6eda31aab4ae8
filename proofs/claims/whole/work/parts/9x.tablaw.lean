/-! TABLES of the law and of its wrappers (printed by wip/whole/gen/genlaw.py) -/
theorem wk_e615d098d0 : ZWd (.methodLink RL 7 yX12_feed) := zwd_t 1014 (by decide +kernel) (by decide +kernel)
theorem wk_e22b7cbcbd : ZWd (.instanceMethod yX12_feed) := zwd_t 1015 (by decide +kernel) (by decide +kernel)
theorem wk_72527d795e : ZWd (.selects RX12 yX12_feed yX12_feed) := zwd_t 1016 (by decide +kernel) (by decide +kernel)
theorem wk_828ac68a05 : ZWd (.classLink RL 13 "java/lang/IllegalStateException") := zwd_t 1013 (by decide +kernel) (by decide +kernel)
theorem wk_edffb8ebe6 : ZWd (.codeWith yL_feed cL_feed 8 (some .int) [(0, 16, 19, 13)]) := zwd_t 1012 (by decide +kernel) (by decide +kernel)
theorem wk_12f3d4c903 : ZWd (.initialized RL) := zwd_t 0 (by decide +kernel) (by decide +kernel)
theorem wk_157a4ed16e : ZWd (.methodLink RL 15 yX12_trim) := zwd_t 1042 (by decide +kernel) (by decide +kernel)
theorem wk_5510a8ef6a : ZWd (.instanceMethod yX12_trim) := zwd_t 1043 (by decide +kernel) (by decide +kernel)
theorem wk_69c62d05db : ZWd (.selects RX12 yX12_trim yX12_trim) := zwd_t 1044 (by decide +kernel) (by decide +kernel)
theorem wk_def4f79548 : ZWd (.classLink RL 19 "java/lang/IllegalArgumentException") := zwd_t 1041 (by decide +kernel) (by decide +kernel)
theorem wk_b9e78a24c6 : ZWd (.codeWith yL_trim cL_trim 4 (some .int) [(0, 9, 12, 19)]) := zwd_t 1040 (by decide +kernel) (by decide +kernel)
theorem wk_81f768e370 : ZWd (.methodLink RL 21 yX12_count) := zwd_t 1066 (by decide +kernel) (by decide +kernel)
theorem wk_aa5906303f : ZWd (.classLink RL 24 "java/lang/IndexOutOfBoundsException") := zwd_t 1065 (by decide +kernel) (by decide +kernel)
theorem wk_7f769d9d52 : ZWd (.codeWith yL_count cL_count 4 (some .int) [(0, 9, 12, 24)]) := zwd_t 1064 (by decide +kernel) (by decide +kernel)
theorem wk_4671a157db : ZWd (.methodLink RL 26 yX12_card) := zwd_t 1070 (by decide +kernel) (by decide +kernel)
theorem wk_3add1dc03c : ZWd (.codeWith yL_card cL_card 5 (some .int) [(0, 10, 13, 24)]) := zwd_t 1069 (by decide +kernel) (by decide +kernel)
theorem wk_10d7556cd8 : ZWd (.methodLink RL 30 yX12_merchant) := zwd_t 1074 (by decide +kernel) (by decide +kernel)
theorem wk_9d800b4644 : ZWd (.codeWith yL_merchant cL_merchant 5 (some .int) [(0, 10, 13, 24)]) := zwd_t 1073 (by decide +kernel) (by decide +kernel)
theorem wk_0ffbd6490f : ZWd (.methodLink RL 33 yX12_owns) := zwd_t 1078 (by decide +kernel) (by decide +kernel)
theorem wk_43e608c02c : ZWd (.instanceMethod yX12_owns) := zwd_t 1079 (by decide +kernel) (by decide +kernel)
theorem wk_89ec1294a3 : ZWd (.selects RX12 yX12_owns yX12_owns) := zwd_t 1080 (by decide +kernel) (by decide +kernel)
theorem wk_eaf8dcd2c3 : ZWd (.codeWith yL_owns cL_owns 5 (some .int) [(0, 10, 13, 24)]) := zwd_t 1077 (by decide +kernel) (by decide +kernel)
theorem wk_ed2f83fc8d : ZWd (.methodLink RL 36 yX12_deck) := zwd_t 1085 (by decide +kernel) (by decide +kernel)
theorem wk_10c729394c : ZWd (.instanceMethod yX12_deck) := zwd_t 1086 (by decide +kernel) (by decide +kernel)
theorem wk_8c10269fe6 : ZWd (.selects RX12 yX12_deck yX12_deck) := zwd_t 1087 (by decide +kernel) (by decide +kernel)
theorem wk_9c8c21bf15 : ZWd (.codeWith yL_deck cL_deck 5 (some .int) [(0, 10, 13, 24)]) := zwd_t 1084 (by decide +kernel) (by decide +kernel)
theorem wk_4b8404bebe : ZWd (.methodLink RL 39 yX12_discard) := zwd_t 1097 (by decide +kernel) (by decide +kernel)
theorem wk_36ad4fce85 : ZWd (.instanceMethod yX12_discard) := zwd_t 1098 (by decide +kernel) (by decide +kernel)
theorem wk_91866345e2 : ZWd (.selects RX12 yX12_discard yX12_discard) := zwd_t 1099 (by decide +kernel) (by decide +kernel)
theorem wk_788a560a54 : ZWd (.codeWith yL_discard cL_discard 5 (some .int) [(0, 10, 13, 24)]) := zwd_t 1096 (by decide +kernel) (by decide +kernel)
theorem wk_5852149b01 : ZWd (.methodLink RL 42 yX12_give) := zwd_t 1104 (by decide +kernel) (by decide +kernel)
theorem wk_4f3fd60747 : ZWd (.instanceMethod yX12_give) := zwd_t 1105 (by decide +kernel) (by decide +kernel)
theorem wk_77494be3dd : ZWd (.selects RX12 yX12_give yX12_give) := zwd_t 1106 (by decide +kernel) (by decide +kernel)
theorem wk_84df799cf8 : ZWd (.codeWith yL_give cL_give 5 (some .int) [(0, 10, 13, 24), (0, 10, 17, 13)]) := zwd_t 1103 (by decide +kernel) (by decide +kernel)
theorem wk_b64ed7add5 : ZWd (.methodLink RL 45 yX12_trash) := zwd_t 1122 (by decide +kernel) (by decide +kernel)
theorem wk_ff4695299d : ZWd (.instanceMethod yX12_trash) := zwd_t 1123 (by decide +kernel) (by decide +kernel)
theorem wk_c0e664542a : ZWd (.selects RX12 yX12_trash yX12_trash) := zwd_t 1124 (by decide +kernel) (by decide +kernel)
theorem wk_c669d7f83a : ZWd (.codeWith yL_trash cL_trash 5 (some .int) [(0, 10, 13, 24), (0, 10, 17, 13)]) := zwd_t 1121 (by decide +kernel) (by decide +kernel)
theorem wk_8f2f5a0deb : ZWd (.methodLink RL 48 yX12_shuffle) := zwd_t 1143 (by decide +kernel) (by decide +kernel)
theorem wk_4cffc0bd80 : ZWd (.instanceMethod yX12_shuffle) := zwd_t 1144 (by decide +kernel) (by decide +kernel)
theorem wk_e821ca9fcc : ZWd (.selects RX12 yX12_shuffle yX12_shuffle) := zwd_t 1145 (by decide +kernel) (by decide +kernel)
theorem wk_9d5da5db52 : ZWd (.codeWith yL_shuffle cL_shuffle 4 (some .int) [(0, 9, 12, 24)]) := zwd_t 1142 (by decide +kernel) (by decide +kernel)
theorem wk_eb9e415bdc : ZWd (.methodLink RL 51 yX12_play) := zwd_t 1159 (by decide +kernel) (by decide +kernel)
theorem wk_781ca89723 : ZWd (.instanceMethod yX12_play) := zwd_t 1160 (by decide +kernel) (by decide +kernel)
theorem wk_f416006da9 : ZWd (.selects RX12 yX12_play yX12_play) := zwd_t 1161 (by decide +kernel) (by decide +kernel)
theorem wk_23fbbf3f31 : ZWd (.codeWith yL_play cL_play 4 (some .int) [(0, 9, 12, 19)]) := zwd_t 1158 (by decide +kernel) (by decide +kernel)
theorem wk_180dc220c5 : ZWd (.methodLink RL 54 yX12_next) := zwd_t 1273 (by decide +kernel) (by decide +kernel)
theorem wk_196bc9a52f : ZWd (.instanceMethod yX12_next) := zwd_t 1274 (by decide +kernel) (by decide +kernel)
theorem wk_f00fe9d1c6 : ZWd (.selects RX12 yX12_next yX12_next) := zwd_t 1275 (by decide +kernel) (by decide +kernel)
theorem wk_e83362d9eb : ZWd (.codeWith yL_next cL_next 5 (some .int) [(0, 10, 13, 24)]) := zwd_t 1272 (by decide +kernel) (by decide +kernel)
theorem wk_0f0bc45b1a : ZWd (.methodLink RL 57 yX12_foresee) := zwd_t 1294 (by decide +kernel) (by decide +kernel)
theorem wk_7229a99696 : ZWd (.instanceMethod yX12_foresee) := zwd_t 1295 (by decide +kernel) (by decide +kernel)
theorem wk_b1f30f4389 : ZWd (.selects RX12 yX12_foresee yX12_foresee) := zwd_t 1296 (by decide +kernel) (by decide +kernel)
theorem wk_ef89709739 : ZWd (.codeWith yL_foresee cL_foresee 5 (some .int) [(0, 10, 13, 19), (0, 10, 17, 24)]) := zwd_t 1293 (by decide +kernel) (by decide +kernel)
theorem wk_2a60cab5e8 : ZWd (.methodLink RL 60 yX12_missed) := zwd_t 1302 (by decide +kernel) (by decide +kernel)
theorem wk_e8154f4f3d : ZWd (.instanceMethod yX12_missed) := zwd_t 1303 (by decide +kernel) (by decide +kernel)
theorem wk_3bdf4aecec : ZWd (.selects RX12 yX12_missed yX12_missed) := zwd_t 1304 (by decide +kernel) (by decide +kernel)
theorem wk_44bd13e3a4 : ZWd (.codeWith yL_missed cL_missed 5 (some .int) [(0, 10, 13, 24), (0, 10, 17, 19)]) := zwd_t 1301 (by decide +kernel) (by decide +kernel)
theorem wk_531cacd9c4 : ZWd (.methodLink RL 63 yX12_advise) := zwd_t 1309 (by decide +kernel) (by decide +kernel)
theorem wk_a5aac4f788 : ZWd (.instanceMethod yX12_advise) := zwd_t 1310 (by decide +kernel) (by decide +kernel)
theorem wk_6edd9f95d7 : ZWd (.selects RX12 yX12_advise yX12_advise) := zwd_t 1311 (by decide +kernel) (by decide +kernel)
theorem wk_506ed07959 : ZWd (.codeWith yL_advise cL_advise 5 (some .int) [(0, 10, 13, 24), (0, 10, 17, 19)]) := zwd_t 1308 (by decide +kernel) (by decide +kernel)
theorem wk_0f2264d174 : ZWd (.classLink RL 8 RX12) := zwd_t 32 (by decide +kernel) (by decide +kernel)
theorem wk_6df1e814d4 : ZWd (.instantiable RX12 6) := zwd_t 33 (by decide +kernel) (by decide +kernel)
theorem wk_5ef2bf456b : ZWd (.methodLink RL 66 yX12_init) := zwd_t 34 (by decide +kernel) (by decide +kernel)
theorem wk_2f9f9dd4d0 : ZWd (.instanceMethod yX12_init) := zwd_t 35 (by decide +kernel) (by decide +kernel)
theorem wk_009bcf05c2 : ZWd (.classLink RL 67 RX15) := zwd_t 1313 (by decide +kernel) (by decide +kernel)
theorem wk_a4c394ef95 : ZWd (.instantiable RX15 23) := zwd_t 1314 (by decide +kernel) (by decide +kernel)
theorem wk_9ba446a952 : ZWd (.methodLink RL 69 yX15_init) := zwd_t 1315 (by decide +kernel) (by decide +kernel)
theorem wk_33bcc9c536 : ZWd (.instanceMethod yX15_init) := zwd_t 1316 (by decide +kernel) (by decide +kernel)
theorem wk_7505085bfc : ZWd (.methodLink RL 70 yL_feed) := zwd_t 1010 (by decide +kernel) (by decide +kernel)
theorem wk_4da218d123 : ZWd (.static yL_feed) := zwd_t 1011 (by decide +kernel) (by decide +kernel)
theorem wk_2f34bd3346 : ZWd (.methodLink RL 75 yX15_feed) := zwd_t 1546 (by decide +kernel) (by decide +kernel)
theorem wk_85996bc158 : ZWd (.instanceMethod yX15_feed) := zwd_t 1547 (by decide +kernel) (by decide +kernel)
theorem wk_659593fa18 : ZWd (.selects RX15 yX15_feed yX15_feed) := zwd_t 1548 (by decide +kernel) (by decide +kernel)
theorem wk_bc2877298b : ZWd (.methodLink RL 76 yX15_thrown) := zwd_t 1542 (by decide +kernel) (by decide +kernel)
theorem wk_295876f299 : ZWd (.instanceMethod yX15_thrown) := zwd_t 1543 (by decide +kernel) (by decide +kernel)
theorem wk_ce551bf8fa : ZWd (.selects RX15 yX15_thrown yX15_thrown) := zwd_t 1544 (by decide +kernel) (by decide +kernel)
theorem wk_da10d79421 : ZWd (.methodLink RL 80 yL_trim) := zwd_t 1038 (by decide +kernel) (by decide +kernel)
theorem wk_44fc5fc148 : ZWd (.static yL_trim) := zwd_t 1039 (by decide +kernel) (by decide +kernel)
theorem wk_08200c9f29 : ZWd (.methodLink RL 83 yX15_trim) := zwd_t 1554 (by decide +kernel) (by decide +kernel)
theorem wk_e54689ac52 : ZWd (.instanceMethod yX15_trim) := zwd_t 1555 (by decide +kernel) (by decide +kernel)
theorem wk_0e1d4f3d60 : ZWd (.selects RX15 yX15_trim yX15_trim) := zwd_t 1556 (by decide +kernel) (by decide +kernel)
theorem wk_8e11f109f2 : ZWd (.methodLink RL 84 yX12_teach) := zwd_t 407 (by decide +kernel) (by decide +kernel)
theorem wk_0ea70e7338 : ZWd (.instanceMethod yX12_teach) := zwd_t 408 (by decide +kernel) (by decide +kernel)
theorem wk_44d42b705a : ZWd (.selects RX12 yX12_teach yX12_teach) := zwd_t 409 (by decide +kernel) (by decide +kernel)
theorem wk_88a08f8185 : ZWd (.methodLink RL 87 yX15_teach) := zwd_t 1561 (by decide +kernel) (by decide +kernel)
theorem wk_5be499db61 : ZWd (.instanceMethod yX15_teach) := zwd_t 1562 (by decide +kernel) (by decide +kernel)
theorem wk_fbe715c306 : ZWd (.selects RX15 yX15_teach yX15_teach) := zwd_t 1563 (by decide +kernel) (by decide +kernel)
theorem wk_9c0db278e9 : ZWd (.methodLink RL 88 yX12_errorAt) := zwd_t 844 (by decide +kernel) (by decide +kernel)
theorem wk_d50e0cebaf : ZWd (.instanceMethod yX12_errorAt) := zwd_t 845 (by decide +kernel) (by decide +kernel)
theorem wk_7d3f71a483 : ZWd (.selects RX12 yX12_errorAt yX12_errorAt) := zwd_t 846 (by decide +kernel) (by decide +kernel)
theorem wk_65e29eabec : ZWd (.methodLink RL 91 yX15_errorAt) := zwd_t 1772 (by decide +kernel) (by decide +kernel)
theorem wk_a390c26773 : ZWd (.instanceMethod yX15_errorAt) := zwd_t 1773 (by decide +kernel) (by decide +kernel)
theorem wk_b547d9b098 : ZWd (.selects RX15 yX15_errorAt yX15_errorAt) := zwd_t 1774 (by decide +kernel) (by decide +kernel)
theorem wk_ac009bb99e : ZWd (.methodLink RL 92 yL_count) := zwd_t 1062 (by decide +kernel) (by decide +kernel)
theorem wk_25c0822901 : ZWd (.static yL_count) := zwd_t 1063 (by decide +kernel) (by decide +kernel)
theorem wk_087533578f : ZWd (.methodLink RL 94 yX15_count) := zwd_t 1776 (by decide +kernel) (by decide +kernel)
theorem wk_482ca0eedc : ZWd (.instanceMethod yX15_count) := zwd_t 1777 (by decide +kernel) (by decide +kernel)
theorem wk_cde4b38802 : ZWd (.selects RX15 yX15_count yX15_count) := zwd_t 1778 (by decide +kernel) (by decide +kernel)
theorem wk_67d50e483a : ZWd (.methodLink RL 95 yL_card) := zwd_t 1067 (by decide +kernel) (by decide +kernel)
theorem wk_18c1e6d005 : ZWd (.static yL_card) := zwd_t 1068 (by decide +kernel) (by decide +kernel)
theorem wk_3b4236dad6 : ZWd (.methodLink RL 98 yX15_card) := zwd_t 1788 (by decide +kernel) (by decide +kernel)
theorem wk_6dfbad3ec7 : ZWd (.instanceMethod yX15_card) := zwd_t 1789 (by decide +kernel) (by decide +kernel)
theorem wk_497bd8b4c1 : ZWd (.selects RX15 yX15_card yX15_card) := zwd_t 1790 (by decide +kernel) (by decide +kernel)
theorem wk_6085c5622a : ZWd (.methodLink RL 99 yL_merchant) := zwd_t 1071 (by decide +kernel) (by decide +kernel)
theorem wk_374e3e8572 : ZWd (.static yL_merchant) := zwd_t 1072 (by decide +kernel) (by decide +kernel)
theorem wk_cdfeee1f41 : ZWd (.methodLink RL 101 yX15_merchant) := zwd_t 1804 (by decide +kernel) (by decide +kernel)
theorem wk_53cacd85f0 : ZWd (.instanceMethod yX15_merchant) := zwd_t 1805 (by decide +kernel) (by decide +kernel)
theorem wk_55fe79b921 : ZWd (.selects RX15 yX15_merchant yX15_merchant) := zwd_t 1806 (by decide +kernel) (by decide +kernel)
theorem wk_3bc49851ad : ZWd (.methodLink RL 102 yL_owns) := zwd_t 1075 (by decide +kernel) (by decide +kernel)
theorem wk_cfae8bfe60 : ZWd (.static yL_owns) := zwd_t 1076 (by decide +kernel) (by decide +kernel)
theorem wk_38bcbfbba7 : ZWd (.methodLink RL 104 yX15_owns) := zwd_t 1820 (by decide +kernel) (by decide +kernel)
theorem wk_d5373ebc13 : ZWd (.instanceMethod yX15_owns) := zwd_t 1821 (by decide +kernel) (by decide +kernel)
theorem wk_a45559161e : ZWd (.selects RX15 yX15_owns yX15_owns) := zwd_t 1822 (by decide +kernel) (by decide +kernel)
theorem wk_48edc03c42 : ZWd (.methodLink RL 105 yL_deck) := zwd_t 1082 (by decide +kernel) (by decide +kernel)
theorem wk_6a8d4557b0 : ZWd (.static yL_deck) := zwd_t 1083 (by decide +kernel) (by decide +kernel)
theorem wk_d8abb40f78 : ZWd (.methodLink RL 107 yX15_deck) := zwd_t 1824 (by decide +kernel) (by decide +kernel)
theorem wk_16685b6cb2 : ZWd (.instanceMethod yX15_deck) := zwd_t 1825 (by decide +kernel) (by decide +kernel)
theorem wk_4633606b8b : ZWd (.selects RX15 yX15_deck yX15_deck) := zwd_t 1826 (by decide +kernel) (by decide +kernel)
theorem wk_c1647418a8 : ZWd (.methodLink RL 108 yL_discard) := zwd_t 1094 (by decide +kernel) (by decide +kernel)
theorem wk_894e733208 : ZWd (.static yL_discard) := zwd_t 1095 (by decide +kernel) (by decide +kernel)
theorem wk_12ec44299c : ZWd (.methodLink RL 110 yX15_discard) := zwd_t 1828 (by decide +kernel) (by decide +kernel)
theorem wk_fa05f0343f : ZWd (.instanceMethod yX15_discard) := zwd_t 1829 (by decide +kernel) (by decide +kernel)
theorem wk_39c2d4a226 : ZWd (.selects RX15 yX15_discard yX15_discard) := zwd_t 1830 (by decide +kernel) (by decide +kernel)
theorem wk_f4d1e3ccf3 : ZWd (.methodLink RL 111 yX12_leader) := zwd_t 848 (by decide +kernel) (by decide +kernel)
theorem wk_28f2b95b49 : ZWd (.instanceMethod yX12_leader) := zwd_t 849 (by decide +kernel) (by decide +kernel)
theorem wk_6a053d5722 : ZWd (.selects RX12 yX12_leader yX12_leader) := zwd_t 850 (by decide +kernel) (by decide +kernel)
theorem wk_25d59eca5e : ZWd (.methodLink RL 114 yX15_leader) := zwd_t 1832 (by decide +kernel) (by decide +kernel)
theorem wk_9f7fd3d3c7 : ZWd (.instanceMethod yX15_leader) := zwd_t 1833 (by decide +kernel) (by decide +kernel)
theorem wk_3c858c5fa6 : ZWd (.selects RX15 yX15_leader yX15_leader) := zwd_t 1834 (by decide +kernel) (by decide +kernel)
theorem wk_e6c96b82bd : ZWd (.methodLink RL 115 yL_give) := zwd_t 1101 (by decide +kernel) (by decide +kernel)
theorem wk_0e11537eab : ZWd (.static yL_give) := zwd_t 1102 (by decide +kernel) (by decide +kernel)
theorem wk_4632e87229 : ZWd (.methodLink RL 117 yX15_give_) := zwd_t 1840 (by decide +kernel) (by decide +kernel)
theorem wk_17d2125f67 : ZWd (.instanceMethod yX15_give_) := zwd_t 1841 (by decide +kernel) (by decide +kernel)
theorem wk_a3c37ff94c : ZWd (.selects RX15 yX15_give_ yX15_give_) := zwd_t 1842 (by decide +kernel) (by decide +kernel)
theorem wk_9861d1c26f : ZWd (.methodLink RL 118 yL_trash) := zwd_t 1119 (by decide +kernel) (by decide +kernel)
theorem wk_c36edd3e78 : ZWd (.static yL_trash) := zwd_t 1120 (by decide +kernel) (by decide +kernel)
theorem wk_52667070d6 : ZWd (.methodLink RL 120 yX15_trash) := zwd_t 1851 (by decide +kernel) (by decide +kernel)
theorem wk_80ab00dc4b : ZWd (.instanceMethod yX15_trash) := zwd_t 1852 (by decide +kernel) (by decide +kernel)
theorem wk_dabe2a89f4 : ZWd (.selects RX15 yX15_trash yX15_trash) := zwd_t 1853 (by decide +kernel) (by decide +kernel)
theorem wk_b61d5e4acf : ZWd (.methodLink RL 121 yL_shuffle) := zwd_t 1140 (by decide +kernel) (by decide +kernel)
theorem wk_f40ccf7e52 : ZWd (.static yL_shuffle) := zwd_t 1141 (by decide +kernel) (by decide +kernel)
theorem wk_6a5ee8a1dd : ZWd (.methodLink RL 123 yX15_shuffle) := zwd_t 1855 (by decide +kernel) (by decide +kernel)
theorem wk_e26465ec72 : ZWd (.instanceMethod yX15_shuffle) := zwd_t 1856 (by decide +kernel) (by decide +kernel)
theorem wk_8db10693d3 : ZWd (.selects RX15 yX15_shuffle yX15_shuffle) := zwd_t 1857 (by decide +kernel) (by decide +kernel)
theorem wk_b448d255f7 : ZWd (.methodLink RL 124 yL_play) := zwd_t 1156 (by decide +kernel) (by decide +kernel)
theorem wk_4b40f2ea11 : ZWd (.static yL_play) := zwd_t 1157 (by decide +kernel) (by decide +kernel)
theorem wk_2198817a64 : ZWd (.methodLink RL 126 yX15_play) := zwd_t 1868 (by decide +kernel) (by decide +kernel)
theorem wk_7407bce15f : ZWd (.instanceMethod yX15_play) := zwd_t 1869 (by decide +kernel) (by decide +kernel)
theorem wk_8467554ceb : ZWd (.selects RX15 yX15_play yX15_play) := zwd_t 1870 (by decide +kernel) (by decide +kernel)
theorem wk_806ba00a91 : ZWd (.methodLink RL 127 yL_next) := zwd_t 1270 (by decide +kernel) (by decide +kernel)
theorem wk_e482132932 : ZWd (.static yL_next) := zwd_t 1271 (by decide +kernel) (by decide +kernel)
theorem wk_2210f8069f : ZWd (.methodLink RL 129 yX15_next) := zwd_t 1956 (by decide +kernel) (by decide +kernel)
theorem wk_5d0773dc65 : ZWd (.instanceMethod yX15_next) := zwd_t 1957 (by decide +kernel) (by decide +kernel)
theorem wk_a76fbb1e94 : ZWd (.selects RX15 yX15_next yX15_next) := zwd_t 1958 (by decide +kernel) (by decide +kernel)
theorem wk_153301abe8 : ZWd (.methodLink RL 130 yL_foresee) := zwd_t 1291 (by decide +kernel) (by decide +kernel)
theorem wk_3a5693cd22 : ZWd (.static yL_foresee) := zwd_t 1292 (by decide +kernel) (by decide +kernel)
theorem wk_2e791df7b2 : ZWd (.methodLink RL 132 yX15_foresee) := zwd_t 1967 (by decide +kernel) (by decide +kernel)
theorem wk_305c69e37c : ZWd (.instanceMethod yX15_foresee) := zwd_t 1968 (by decide +kernel) (by decide +kernel)
theorem wk_ea43f4a086 : ZWd (.selects RX15 yX15_foresee yX15_foresee) := zwd_t 1969 (by decide +kernel) (by decide +kernel)
theorem wk_12eb97d2cc : ZWd (.methodLink RL 133 yL_missed) := zwd_t 1299 (by decide +kernel) (by decide +kernel)
theorem wk_692660d7d2 : ZWd (.static yL_missed) := zwd_t 1300 (by decide +kernel) (by decide +kernel)
theorem wk_5b10e88ba1 : ZWd (.methodLink RL 135 yX15_missed) := zwd_t 1971 (by decide +kernel) (by decide +kernel)
theorem wk_4b3908fe3b : ZWd (.instanceMethod yX15_missed) := zwd_t 1972 (by decide +kernel) (by decide +kernel)
theorem wk_01af81f16c : ZWd (.selects RX15 yX15_missed yX15_missed) := zwd_t 1973 (by decide +kernel) (by decide +kernel)
theorem wk_f1c9b8c94d : ZWd (.methodLink RL 136 yL_advise) := zwd_t 1306 (by decide +kernel) (by decide +kernel)
theorem wk_e8c54ef136 : ZWd (.static yL_advise) := zwd_t 1307 (by decide +kernel) (by decide +kernel)
theorem wk_dbe3f9d9c1 : ZWd (.methodLink RL 138 yX15_advise) := zwd_t 1975 (by decide +kernel) (by decide +kernel)
theorem wk_082cd6e7cd : ZWd (.instanceMethod yX15_advise) := zwd_t 1976 (by decide +kernel) (by decide +kernel)
theorem wk_6f153f6ac6 : ZWd (.selects RX15 yX15_advise yX15_advise) := zwd_t 1977 (by decide +kernel) (by decide +kernel)
theorem wk_f7c1ec8a37 : ZWd (.methodLink RL 139 yX12_mean) := zwd_t 865 (by decide +kernel) (by decide +kernel)
theorem wk_0299f5f2ec : ZWd (.instanceMethod yX12_mean) := zwd_t 866 (by decide +kernel) (by decide +kernel)
theorem wk_9fb39dba9b : ZWd (.selects RX12 yX12_mean yX12_mean) := zwd_t 867 (by decide +kernel) (by decide +kernel)
theorem wk_8d7d0d00af : ZWd (.methodLink RL 143 yX15_mean) := zwd_t 1979 (by decide +kernel) (by decide +kernel)
theorem wk_edce454435 : ZWd (.instanceMethod yX15_mean) := zwd_t 1980 (by decide +kernel) (by decide +kernel)
theorem wk_c7fb64b3b2 : ZWd (.selects RX15 yX15_mean yX15_mean) := zwd_t 1981 (by decide +kernel) (by decide +kernel)
theorem wk_c2e9f59b59 : ZWd (.methodLink RL 144 yX12_digest) := zwd_t 870 (by decide +kernel) (by decide +kernel)
theorem wk_d42988131b : ZWd (.instanceMethod yX12_digest) := zwd_t 871 (by decide +kernel) (by decide +kernel)
theorem wk_59fca7ea0e : ZWd (.selects RX12 yX12_digest yX12_digest) := zwd_t 872 (by decide +kernel) (by decide +kernel)
theorem wk_4e284502cb : ZWd (.methodLink RL 148 yX15_digest) := zwd_t 1983 (by decide +kernel) (by decide +kernel)
theorem wk_688eb496cd : ZWd (.instanceMethod yX15_digest) := zwd_t 1984 (by decide +kernel) (by decide +kernel)
theorem wk_6d8fcced90 : ZWd (.selects RX15 yX15_digest yX15_digest) := zwd_t 1985 (by decide +kernel) (by decide +kernel)
def ML_feed : ZMY := (yL_feed, cL_feed, 8, (some .int))
theorem mcL_feed : ZMCH ML_feed [(0, 16, 19, 13)] 7 := ⟨wk_edffb8ebe6, wk_12f3d4c903, ⟨by decide +kernel, by decide +kernel, by decide +kernel⟩, by decide +kernel⟩
def ML_trim : ZMY := (yL_trim, cL_trim, 4, (some .int))
theorem mcL_trim : ZMCH ML_trim [(0, 9, 12, 19)] 3 := ⟨wk_b9e78a24c6, wk_12f3d4c903, ⟨by decide +kernel, by decide +kernel, by decide +kernel⟩, by decide +kernel⟩
def ML_count : ZMY := (yL_count, cL_count, 4, (some .int))
theorem mcL_count : ZMCH ML_count [(0, 9, 12, 24)] 3 := ⟨wk_7f769d9d52, wk_12f3d4c903, ⟨by decide +kernel, by decide +kernel, by decide +kernel⟩, by decide +kernel⟩
def ML_card : ZMY := (yL_card, cL_card, 5, (some .int))
theorem mcL_card : ZMCH ML_card [(0, 10, 13, 24)] 4 := ⟨wk_3add1dc03c, wk_12f3d4c903, ⟨by decide +kernel, by decide +kernel, by decide +kernel⟩, by decide +kernel⟩
def ML_merchant : ZMY := (yL_merchant, cL_merchant, 5, (some .int))
theorem mcL_merchant : ZMCH ML_merchant [(0, 10, 13, 24)] 4 := ⟨wk_9d800b4644, wk_12f3d4c903, ⟨by decide +kernel, by decide +kernel, by decide +kernel⟩, by decide +kernel⟩
def ML_owns : ZMY := (yL_owns, cL_owns, 5, (some .int))
theorem mcL_owns : ZMCH ML_owns [(0, 10, 13, 24)] 4 := ⟨wk_eaf8dcd2c3, wk_12f3d4c903, ⟨by decide +kernel, by decide +kernel, by decide +kernel⟩, by decide +kernel⟩
def ML_deck : ZMY := (yL_deck, cL_deck, 5, (some .int))
theorem mcL_deck : ZMCH ML_deck [(0, 10, 13, 24)] 4 := ⟨wk_9c8c21bf15, wk_12f3d4c903, ⟨by decide +kernel, by decide +kernel, by decide +kernel⟩, by decide +kernel⟩
def ML_discard : ZMY := (yL_discard, cL_discard, 5, (some .int))
theorem mcL_discard : ZMCH ML_discard [(0, 10, 13, 24)] 4 := ⟨wk_788a560a54, wk_12f3d4c903, ⟨by decide +kernel, by decide +kernel, by decide +kernel⟩, by decide +kernel⟩
def ML_give : ZMY := (yL_give, cL_give, 5, (some .int))
theorem mcL_give : ZMCH ML_give [(0, 10, 13, 24), (0, 10, 17, 13)] 4 := ⟨wk_84df799cf8, wk_12f3d4c903, ⟨by decide +kernel, by decide +kernel, by decide +kernel⟩, by decide +kernel⟩
def ML_trash : ZMY := (yL_trash, cL_trash, 5, (some .int))
theorem mcL_trash : ZMCH ML_trash [(0, 10, 13, 24), (0, 10, 17, 13)] 4 := ⟨wk_c669d7f83a, wk_12f3d4c903, ⟨by decide +kernel, by decide +kernel, by decide +kernel⟩, by decide +kernel⟩
def ML_shuffle : ZMY := (yL_shuffle, cL_shuffle, 4, (some .int))
theorem mcL_shuffle : ZMCH ML_shuffle [(0, 9, 12, 24)] 3 := ⟨wk_9d5da5db52, wk_12f3d4c903, ⟨by decide +kernel, by decide +kernel, by decide +kernel⟩, by decide +kernel⟩
def ML_play : ZMY := (yL_play, cL_play, 4, (some .int))
theorem mcL_play : ZMCH ML_play [(0, 9, 12, 19)] 3 := ⟨wk_23fbbf3f31, wk_12f3d4c903, ⟨by decide +kernel, by decide +kernel, by decide +kernel⟩, by decide +kernel⟩
def ML_next : ZMY := (yL_next, cL_next, 5, (some .int))
theorem mcL_next : ZMCH ML_next [(0, 10, 13, 24)] 4 := ⟨wk_e83362d9eb, wk_12f3d4c903, ⟨by decide +kernel, by decide +kernel, by decide +kernel⟩, by decide +kernel⟩
def ML_foresee : ZMY := (yL_foresee, cL_foresee, 5, (some .int))
theorem mcL_foresee : ZMCH ML_foresee [(0, 10, 13, 19), (0, 10, 17, 24)] 4 := ⟨wk_ef89709739, wk_12f3d4c903, ⟨by decide +kernel, by decide +kernel, by decide +kernel⟩, by decide +kernel⟩
def ML_missed : ZMY := (yL_missed, cL_missed, 5, (some .int))
theorem mcL_missed : ZMCH ML_missed [(0, 10, 13, 24), (0, 10, 17, 19)] 4 := ⟨wk_44bd13e3a4, wk_12f3d4c903, ⟨by decide +kernel, by decide +kernel, by decide +kernel⟩, by decide +kernel⟩
def ML_advise : ZMY := (yL_advise, cL_advise, 5, (some .int))
theorem mcL_advise : ZMCH ML_advise [(0, 10, 13, 24), (0, 10, 17, 19)] 4 := ⟨wk_506ed07959, wk_12f3d4c903, ⟨by decide +kernel, by decide +kernel, by decide +kernel⟩, by decide +kernel⟩
def ML_law : ZMY := (yL_law, cL_law, 9, (some .boolean))
def tb_L_feed (E : ZEX) (d mc ms : Nat) : List (Nat × ZStep) := [(0, s_aload 6 2), (2, s_const (.int (0)) 3), (3, s_aload 0 4), (4, s_iload 1 5), (5, s_iload 2 6), (6, s_iload 3 7), (7, s_iload 4 9), (9, s_iload 5 11), (11, s_callVC E d mc ms 11 MX12_feed 5 14 [("java/lang/IllegalStateException", 19)]), (14, s_i2l 15), (15, s_lastore E 16), (16, s_goto 23), (19, s_astore 7 21), (21, s_const (.int (1)) 22), (22, s_ireturn), (23, s_const (.int (0)) 24), (24, s_ireturn)]
set_option maxRecDepth 20000 in
theorem ok_L_feed {E : ZEX} {X : ZMX} {d mc ms : Nat} {P : ZPT} {T : ZTT} (hNC : ZNC E) (hl9 : X.2.1.stackTraces = false) (hMH : zMH X [(0, 16, 19, 13)]) (h : ZCX E X ML_feed d mc ms P T) : ∀ pc, ZRow E X ML_feed mc ms P T pc (ztb (tb_L_feed E d mc ms) pc) := ztb_ok (by
  unfold tb_L_feed
  refine zfmc (r_aload h (pc := 0) 6 (by decide +kernel)) ?_
  refine zfmc (r_iconst h (pc := 2) (z := 0) (by decide +kernel) (0) (by decide +kernel)) ?_
  refine zfmc (r_aload_n h (pc := 3) (kf := 0) 0 (by decide +kernel) rfl) ?_
  refine zfmc (r_iload_n h (pc := 4) (kf := 1) 1 (by decide +kernel) rfl) ?_
  refine zfmc (r_iload_n h (pc := 5) (kf := 2) 2 (by decide +kernel) rfl) ?_
  refine zfmc (r_iload_n h (pc := 6) (kf := 3) 3 (by decide +kernel) rfl) ?_
  refine zfmc (r_iload h (pc := 7) 4 (by decide +kernel)) ?_
  refine zfmc (r_iload h (pc := 9) 5 (by decide +kernel)) ?_
  refine zfmc (r_callVC h hl9 (pc := 11) (ix := 7) (by decide +kernel) ckX12 5 mcX12_feed wk_e22b7cbcbd wk_e615d098d0 wk_72527d795e rfl (hcs9 := [("java/lang/IllegalStateException", 19)]) (zfmc (zcat1 h hMH (by omega) (by omega) (by decide) wk_828ac68a05 (fun U H q => (hNC U H q).2.2.2.1)) zfm0)) ?_
  refine zfmc (r_i2l h (pc := 14) (by decide +kernel)) ?_
  refine zfmc (r_lastore h (pc := 15) (by decide +kernel)) ?_
  refine zfmc (r_goto h (pc := 16) (off := 7) (by decide +kernel) 23 (by decide +kernel)) ?_
  refine zfmc (r_astore h (pc := 19) 7 (by decide +kernel) (by decide +kernel)) ?_
  refine zfmc (r_iconst h (pc := 21) (z := 1) (by decide +kernel) (1) (by decide +kernel)) ?_
  refine zfmc (r_ireturn h (pc := 22) (by decide +kernel) rfl) ?_
  refine zfmc (r_iconst h (pc := 23) (z := 0) (by decide +kernel) (0) (by decide +kernel)) ?_
  refine zfmc (r_ireturn h (pc := 24) (by decide +kernel) rfl) ?_
  exact zfm0)
def tb_L_trim (E : ZEX) (d mc ms : Nat) : List (Nat × ZStep) := [(0, s_aload 2 1), (1, s_const (.int (0)) 2), (2, s_aload 0 3), (3, s_iload 1 4), (4, s_callVC E d mc ms 11 MX12_trim 1 7 [("java/lang/IllegalArgumentException", 12)]), (7, s_i2l 8), (8, s_lastore E 9), (9, s_goto 15), (12, s_astore 3 13), (13, s_const (.int (1)) 14), (14, s_ireturn), (15, s_const (.int (0)) 16), (16, s_ireturn)]
set_option maxRecDepth 20000 in
theorem ok_L_trim {E : ZEX} {X : ZMX} {d mc ms : Nat} {P : ZPT} {T : ZTT} (hNC : ZNC E) (hl9 : X.2.1.stackTraces = false) (hMH : zMH X [(0, 9, 12, 19)]) (h : ZCX E X ML_trim d mc ms P T) : ∀ pc, ZRow E X ML_trim mc ms P T pc (ztb (tb_L_trim E d mc ms) pc) := ztb_ok (by
  unfold tb_L_trim
  refine zfmc (r_aload_n h (pc := 0) (kf := 2) 2 (by decide +kernel) rfl) ?_
  refine zfmc (r_iconst h (pc := 1) (z := 0) (by decide +kernel) (0) (by decide +kernel)) ?_
  refine zfmc (r_aload_n h (pc := 2) (kf := 0) 0 (by decide +kernel) rfl) ?_
  refine zfmc (r_iload_n h (pc := 3) (kf := 1) 1 (by decide +kernel) rfl) ?_
  refine zfmc (r_callVC h hl9 (pc := 4) (ix := 15) (by decide +kernel) ckX12 1 mcX12_trim wk_5510a8ef6a wk_157a4ed16e wk_69c62d05db rfl (hcs9 := [("java/lang/IllegalArgumentException", 12)]) (zfmc (zcat1 h hMH (by omega) (by omega) (by decide) wk_def4f79548 (fun U H q => (hNC U H q).2.2.2.2.1)) zfm0)) ?_
  refine zfmc (r_i2l h (pc := 7) (by decide +kernel)) ?_
  refine zfmc (r_lastore h (pc := 8) (by decide +kernel)) ?_
  refine zfmc (r_goto h (pc := 9) (off := 6) (by decide +kernel) 15 (by decide +kernel)) ?_
  refine zfmc (r_astore_n h (pc := 12) (kf := 3) 3 (by decide +kernel) rfl (by decide +kernel)) ?_
  refine zfmc (r_iconst h (pc := 13) (z := 1) (by decide +kernel) (1) (by decide +kernel)) ?_
  refine zfmc (r_ireturn h (pc := 14) (by decide +kernel) rfl) ?_
  refine zfmc (r_iconst h (pc := 15) (z := 0) (by decide +kernel) (0) (by decide +kernel)) ?_
  refine zfmc (r_ireturn h (pc := 16) (by decide +kernel) rfl) ?_
  exact zfm0)
def tb_L_count (E : ZEX) (d mc ms : Nat) : List (Nat × ZStep) := [(0, s_aload 2 1), (1, s_const (.int (0)) 2), (2, s_aload 0 3), (3, s_iload 1 4), (4, s_callVC E d mc ms 11 MX12_count 1 7 [("java/lang/IndexOutOfBoundsException", 12)]), (7, s_i2l 8), (8, s_lastore E 9), (9, s_goto 15), (12, s_astore 3 13), (13, s_const (.int (1)) 14), (14, s_ireturn), (15, s_const (.int (0)) 16), (16, s_ireturn)]
set_option maxRecDepth 20000 in
theorem ok_L_count {E : ZEX} {X : ZMX} {d mc ms : Nat} {P : ZPT} {T : ZTT} (hNC : ZNC E) (hl9 : X.2.1.stackTraces = false) (hMH : zMH X [(0, 9, 12, 24)]) (h : ZCX E X ML_count d mc ms P T) : ∀ pc, ZRow E X ML_count mc ms P T pc (ztb (tb_L_count E d mc ms) pc) := ztb_ok (by
  unfold tb_L_count
  refine zfmc (r_aload_n h (pc := 0) (kf := 2) 2 (by decide +kernel) rfl) ?_
  refine zfmc (r_iconst h (pc := 1) (z := 0) (by decide +kernel) (0) (by decide +kernel)) ?_
  refine zfmc (r_aload_n h (pc := 2) (kf := 0) 0 (by decide +kernel) rfl) ?_
  refine zfmc (r_iload_n h (pc := 3) (kf := 1) 1 (by decide +kernel) rfl) ?_
  refine zfmc (r_callVC h hl9 (pc := 4) (ix := 21) (by decide +kernel) ckX12 1 mcX12_count wk_61d67a02ce wk_81f768e370 wk_7a6c07293b rfl (hcs9 := [("java/lang/IndexOutOfBoundsException", 12)]) (zfmc (zcat1 h hMH (by omega) (by omega) (by decide) wk_aa5906303f (fun U H q => (hNC U H q).2.2.2.2.2)) zfm0)) ?_
  refine zfmc (r_i2l h (pc := 7) (by decide +kernel)) ?_
  refine zfmc (r_lastore h (pc := 8) (by decide +kernel)) ?_
  refine zfmc (r_goto h (pc := 9) (off := 6) (by decide +kernel) 15 (by decide +kernel)) ?_
  refine zfmc (r_astore_n h (pc := 12) (kf := 3) 3 (by decide +kernel) rfl (by decide +kernel)) ?_
  refine zfmc (r_iconst h (pc := 13) (z := 1) (by decide +kernel) (1) (by decide +kernel)) ?_
  refine zfmc (r_ireturn h (pc := 14) (by decide +kernel) rfl) ?_
  refine zfmc (r_iconst h (pc := 15) (z := 0) (by decide +kernel) (0) (by decide +kernel)) ?_
  refine zfmc (r_ireturn h (pc := 16) (by decide +kernel) rfl) ?_
  exact zfm0)
def tb_L_card (E : ZEX) (d mc ms : Nat) : List (Nat × ZStep) := [(0, s_aload 3 1), (1, s_const (.int (0)) 2), (2, s_aload 0 3), (3, s_iload 1 4), (4, s_iload 2 5), (5, s_callVC E d mc ms 11 MX12_card 2 8 [("java/lang/IndexOutOfBoundsException", 13)]), (8, s_i2l 9), (9, s_lastore E 10), (10, s_goto 17), (13, s_astore 4 15), (15, s_const (.int (1)) 16), (16, s_ireturn), (17, s_const (.int (0)) 18), (18, s_ireturn)]
set_option maxRecDepth 20000 in
theorem ok_L_card {E : ZEX} {X : ZMX} {d mc ms : Nat} {P : ZPT} {T : ZTT} (hNC : ZNC E) (hl9 : X.2.1.stackTraces = false) (hMH : zMH X [(0, 10, 13, 24)]) (h : ZCX E X ML_card d mc ms P T) : ∀ pc, ZRow E X ML_card mc ms P T pc (ztb (tb_L_card E d mc ms) pc) := ztb_ok (by
  unfold tb_L_card
  refine zfmc (r_aload_n h (pc := 0) (kf := 3) 3 (by decide +kernel) rfl) ?_
  refine zfmc (r_iconst h (pc := 1) (z := 0) (by decide +kernel) (0) (by decide +kernel)) ?_
  refine zfmc (r_aload_n h (pc := 2) (kf := 0) 0 (by decide +kernel) rfl) ?_
  refine zfmc (r_iload_n h (pc := 3) (kf := 1) 1 (by decide +kernel) rfl) ?_
  refine zfmc (r_iload_n h (pc := 4) (kf := 2) 2 (by decide +kernel) rfl) ?_
  refine zfmc (r_callVC h hl9 (pc := 5) (ix := 26) (by decide +kernel) ckX12 2 mcX12_card wk_4e5f38be25 wk_4671a157db wk_db4a844cdf rfl (hcs9 := [("java/lang/IndexOutOfBoundsException", 13)]) (zfmc (zcat1 h hMH (by omega) (by omega) (by decide) wk_aa5906303f (fun U H q => (hNC U H q).2.2.2.2.2)) zfm0)) ?_
  refine zfmc (r_i2l h (pc := 8) (by decide +kernel)) ?_
  refine zfmc (r_lastore h (pc := 9) (by decide +kernel)) ?_
  refine zfmc (r_goto h (pc := 10) (off := 7) (by decide +kernel) 17 (by decide +kernel)) ?_
  refine zfmc (r_astore h (pc := 13) 4 (by decide +kernel) (by decide +kernel)) ?_
  refine zfmc (r_iconst h (pc := 15) (z := 1) (by decide +kernel) (1) (by decide +kernel)) ?_
  refine zfmc (r_ireturn h (pc := 16) (by decide +kernel) rfl) ?_
  refine zfmc (r_iconst h (pc := 17) (z := 0) (by decide +kernel) (0) (by decide +kernel)) ?_
  refine zfmc (r_ireturn h (pc := 18) (by decide +kernel) rfl) ?_
  exact zfm0)
def tb_L_merchant (E : ZEX) (d mc ms : Nat) : List (Nat × ZStep) := [(0, s_aload 3 1), (1, s_const (.int (0)) 2), (2, s_aload 0 3), (3, s_iload 1 4), (4, s_iload 2 5), (5, s_callVC E d mc ms 11 MX12_merchant 2 8 [("java/lang/IndexOutOfBoundsException", 13)]), (8, s_i2l 9), (9, s_lastore E 10), (10, s_goto 17), (13, s_astore 4 15), (15, s_const (.int (1)) 16), (16, s_ireturn), (17, s_const (.int (0)) 18), (18, s_ireturn)]
set_option maxRecDepth 20000 in
theorem ok_L_merchant {E : ZEX} {X : ZMX} {d mc ms : Nat} {P : ZPT} {T : ZTT} (hNC : ZNC E) (hl9 : X.2.1.stackTraces = false) (hMH : zMH X [(0, 10, 13, 24)]) (h : ZCX E X ML_merchant d mc ms P T) : ∀ pc, ZRow E X ML_merchant mc ms P T pc (ztb (tb_L_merchant E d mc ms) pc) := ztb_ok (by
  unfold tb_L_merchant
  refine zfmc (r_aload_n h (pc := 0) (kf := 3) 3 (by decide +kernel) rfl) ?_
  refine zfmc (r_iconst h (pc := 1) (z := 0) (by decide +kernel) (0) (by decide +kernel)) ?_
  refine zfmc (r_aload_n h (pc := 2) (kf := 0) 0 (by decide +kernel) rfl) ?_
  refine zfmc (r_iload_n h (pc := 3) (kf := 1) 1 (by decide +kernel) rfl) ?_
  refine zfmc (r_iload_n h (pc := 4) (kf := 2) 2 (by decide +kernel) rfl) ?_
  refine zfmc (r_callVC h hl9 (pc := 5) (ix := 30) (by decide +kernel) ckX12 2 mcX12_merchant wk_465241fbd3 wk_10d7556cd8 wk_a0efd6b80e rfl (hcs9 := [("java/lang/IndexOutOfBoundsException", 13)]) (zfmc (zcat1 h hMH (by omega) (by omega) (by decide) wk_aa5906303f (fun U H q => (hNC U H q).2.2.2.2.2)) zfm0)) ?_
  refine zfmc (r_i2l h (pc := 8) (by decide +kernel)) ?_
  refine zfmc (r_lastore h (pc := 9) (by decide +kernel)) ?_
  refine zfmc (r_goto h (pc := 10) (off := 7) (by decide +kernel) 17 (by decide +kernel)) ?_
  refine zfmc (r_astore h (pc := 13) 4 (by decide +kernel) (by decide +kernel)) ?_
  refine zfmc (r_iconst h (pc := 15) (z := 1) (by decide +kernel) (1) (by decide +kernel)) ?_
  refine zfmc (r_ireturn h (pc := 16) (by decide +kernel) rfl) ?_
  refine zfmc (r_iconst h (pc := 17) (z := 0) (by decide +kernel) (0) (by decide +kernel)) ?_
  refine zfmc (r_ireturn h (pc := 18) (by decide +kernel) rfl) ?_
  exact zfm0)
def tb_L_owns (E : ZEX) (d mc ms : Nat) : List (Nat × ZStep) := [(0, s_aload 3 1), (1, s_const (.int (0)) 2), (2, s_aload 0 3), (3, s_iload 1 4), (4, s_iload 2 5), (5, s_callVC E d mc ms 11 MX12_owns 2 8 [("java/lang/IndexOutOfBoundsException", 13)]), (8, s_i2l 9), (9, s_lastore E 10), (10, s_goto 17), (13, s_astore 4 15), (15, s_const (.int (1)) 16), (16, s_ireturn), (17, s_const (.int (0)) 18), (18, s_ireturn)]
set_option maxRecDepth 20000 in
theorem ok_L_owns {E : ZEX} {X : ZMX} {d mc ms : Nat} {P : ZPT} {T : ZTT} (hNC : ZNC E) (hl9 : X.2.1.stackTraces = false) (hMH : zMH X [(0, 10, 13, 24)]) (h : ZCX E X ML_owns d mc ms P T) : ∀ pc, ZRow E X ML_owns mc ms P T pc (ztb (tb_L_owns E d mc ms) pc) := ztb_ok (by
  unfold tb_L_owns
  refine zfmc (r_aload_n h (pc := 0) (kf := 3) 3 (by decide +kernel) rfl) ?_
  refine zfmc (r_iconst h (pc := 1) (z := 0) (by decide +kernel) (0) (by decide +kernel)) ?_
  refine zfmc (r_aload_n h (pc := 2) (kf := 0) 0 (by decide +kernel) rfl) ?_
  refine zfmc (r_iload_n h (pc := 3) (kf := 1) 1 (by decide +kernel) rfl) ?_
  refine zfmc (r_iload_n h (pc := 4) (kf := 2) 2 (by decide +kernel) rfl) ?_
  refine zfmc (r_callVC h hl9 (pc := 5) (ix := 33) (by decide +kernel) ckX12 2 mcX12_owns wk_43e608c02c wk_0ffbd6490f wk_89ec1294a3 rfl (hcs9 := [("java/lang/IndexOutOfBoundsException", 13)]) (zfmc (zcat1 h hMH (by omega) (by omega) (by decide) wk_aa5906303f (fun U H q => (hNC U H q).2.2.2.2.2)) zfm0)) ?_
  refine zfmc (r_i2l h (pc := 8) (by decide +kernel)) ?_
  refine zfmc (r_lastore h (pc := 9) (by decide +kernel)) ?_
  refine zfmc (r_goto h (pc := 10) (off := 7) (by decide +kernel) 17 (by decide +kernel)) ?_
  refine zfmc (r_astore h (pc := 13) 4 (by decide +kernel) (by decide +kernel)) ?_
  refine zfmc (r_iconst h (pc := 15) (z := 1) (by decide +kernel) (1) (by decide +kernel)) ?_
  refine zfmc (r_ireturn h (pc := 16) (by decide +kernel) rfl) ?_
  refine zfmc (r_iconst h (pc := 17) (z := 0) (by decide +kernel) (0) (by decide +kernel)) ?_
  refine zfmc (r_ireturn h (pc := 18) (by decide +kernel) rfl) ?_
  exact zfm0)
def tb_L_deck (E : ZEX) (d mc ms : Nat) : List (Nat × ZStep) := [(0, s_aload 3 1), (1, s_const (.int (0)) 2), (2, s_aload 0 3), (3, s_iload 1 4), (4, s_iload 2 5), (5, s_callVC E d mc ms 11 MX12_deck 2 8 [("java/lang/IndexOutOfBoundsException", 13)]), (8, s_i2l 9), (9, s_lastore E 10), (10, s_goto 17), (13, s_astore 4 15), (15, s_const (.int (1)) 16), (16, s_ireturn), (17, s_const (.int (0)) 18), (18, s_ireturn)]
set_option maxRecDepth 20000 in
theorem ok_L_deck {E : ZEX} {X : ZMX} {d mc ms : Nat} {P : ZPT} {T : ZTT} (hNC : ZNC E) (hl9 : X.2.1.stackTraces = false) (hMH : zMH X [(0, 10, 13, 24)]) (h : ZCX E X ML_deck d mc ms P T) : ∀ pc, ZRow E X ML_deck mc ms P T pc (ztb (tb_L_deck E d mc ms) pc) := ztb_ok (by
  unfold tb_L_deck
  refine zfmc (r_aload_n h (pc := 0) (kf := 3) 3 (by decide +kernel) rfl) ?_
  refine zfmc (r_iconst h (pc := 1) (z := 0) (by decide +kernel) (0) (by decide +kernel)) ?_
  refine zfmc (r_aload_n h (pc := 2) (kf := 0) 0 (by decide +kernel) rfl) ?_
  refine zfmc (r_iload_n h (pc := 3) (kf := 1) 1 (by decide +kernel) rfl) ?_
  refine zfmc (r_iload_n h (pc := 4) (kf := 2) 2 (by decide +kernel) rfl) ?_
  refine zfmc (r_callVC h hl9 (pc := 5) (ix := 36) (by decide +kernel) ckX12 2 mcX12_deck wk_10c729394c wk_ed2f83fc8d wk_8c10269fe6 rfl (hcs9 := [("java/lang/IndexOutOfBoundsException", 13)]) (zfmc (zcat1 h hMH (by omega) (by omega) (by decide) wk_aa5906303f (fun U H q => (hNC U H q).2.2.2.2.2)) zfm0)) ?_
  refine zfmc (r_i2l h (pc := 8) (by decide +kernel)) ?_
  refine zfmc (r_lastore h (pc := 9) (by decide +kernel)) ?_
  refine zfmc (r_goto h (pc := 10) (off := 7) (by decide +kernel) 17 (by decide +kernel)) ?_
  refine zfmc (r_astore h (pc := 13) 4 (by decide +kernel) (by decide +kernel)) ?_
  refine zfmc (r_iconst h (pc := 15) (z := 1) (by decide +kernel) (1) (by decide +kernel)) ?_
  refine zfmc (r_ireturn h (pc := 16) (by decide +kernel) rfl) ?_
  refine zfmc (r_iconst h (pc := 17) (z := 0) (by decide +kernel) (0) (by decide +kernel)) ?_
  refine zfmc (r_ireturn h (pc := 18) (by decide +kernel) rfl) ?_
  exact zfm0)
def tb_L_discard (E : ZEX) (d mc ms : Nat) : List (Nat × ZStep) := [(0, s_aload 3 1), (1, s_const (.int (0)) 2), (2, s_aload 0 3), (3, s_iload 1 4), (4, s_iload 2 5), (5, s_callVC E d mc ms 11 MX12_discard 2 8 [("java/lang/IndexOutOfBoundsException", 13)]), (8, s_i2l 9), (9, s_lastore E 10), (10, s_goto 17), (13, s_astore 4 15), (15, s_const (.int (1)) 16), (16, s_ireturn), (17, s_const (.int (0)) 18), (18, s_ireturn)]
set_option maxRecDepth 20000 in
theorem ok_L_discard {E : ZEX} {X : ZMX} {d mc ms : Nat} {P : ZPT} {T : ZTT} (hNC : ZNC E) (hl9 : X.2.1.stackTraces = false) (hMH : zMH X [(0, 10, 13, 24)]) (h : ZCX E X ML_discard d mc ms P T) : ∀ pc, ZRow E X ML_discard mc ms P T pc (ztb (tb_L_discard E d mc ms) pc) := ztb_ok (by
  unfold tb_L_discard
  refine zfmc (r_aload_n h (pc := 0) (kf := 3) 3 (by decide +kernel) rfl) ?_
  refine zfmc (r_iconst h (pc := 1) (z := 0) (by decide +kernel) (0) (by decide +kernel)) ?_
  refine zfmc (r_aload_n h (pc := 2) (kf := 0) 0 (by decide +kernel) rfl) ?_
  refine zfmc (r_iload_n h (pc := 3) (kf := 1) 1 (by decide +kernel) rfl) ?_
  refine zfmc (r_iload_n h (pc := 4) (kf := 2) 2 (by decide +kernel) rfl) ?_
  refine zfmc (r_callVC h hl9 (pc := 5) (ix := 39) (by decide +kernel) ckX12 2 mcX12_discard wk_36ad4fce85 wk_4b8404bebe wk_91866345e2 rfl (hcs9 := [("java/lang/IndexOutOfBoundsException", 13)]) (zfmc (zcat1 h hMH (by omega) (by omega) (by decide) wk_aa5906303f (fun U H q => (hNC U H q).2.2.2.2.2)) zfm0)) ?_
  refine zfmc (r_i2l h (pc := 8) (by decide +kernel)) ?_
  refine zfmc (r_lastore h (pc := 9) (by decide +kernel)) ?_
  refine zfmc (r_goto h (pc := 10) (off := 7) (by decide +kernel) 17 (by decide +kernel)) ?_
  refine zfmc (r_astore h (pc := 13) 4 (by decide +kernel) (by decide +kernel)) ?_
  refine zfmc (r_iconst h (pc := 15) (z := 1) (by decide +kernel) (1) (by decide +kernel)) ?_
  refine zfmc (r_ireturn h (pc := 16) (by decide +kernel) rfl) ?_
  refine zfmc (r_iconst h (pc := 17) (z := 0) (by decide +kernel) (0) (by decide +kernel)) ?_
  refine zfmc (r_ireturn h (pc := 18) (by decide +kernel) rfl) ?_
  exact zfm0)
def tb_L_give (E : ZEX) (d mc ms : Nat) : List (Nat × ZStep) := [(0, s_aload 3 1), (1, s_const (.int (0)) 2), (2, s_aload 0 3), (3, s_iload 1 4), (4, s_iload 2 5), (5, s_callVC E d mc ms 11 MX12_give 2 8 [("java/lang/IndexOutOfBoundsException", 13), ("java/lang/IllegalStateException", 17)]), (8, s_i2l 9), (9, s_lastore E 10), (10, s_goto 21), (13, s_astore 4 15), (15, s_const (.int (1)) 16), (16, s_ireturn), (17, s_astore 4 19), (19, s_const (.int (2)) 20), (20, s_ireturn), (21, s_const (.int (0)) 22), (22, s_ireturn)]
set_option maxRecDepth 20000 in
theorem ok_L_give {E : ZEX} {X : ZMX} {d mc ms : Nat} {P : ZPT} {T : ZTT} (hNC : ZNC E) (hl9 : X.2.1.stackTraces = false) (hMH : zMH X [(0, 10, 13, 24), (0, 10, 17, 13)]) (h : ZCX E X ML_give d mc ms P T) : ∀ pc, ZRow E X ML_give mc ms P T pc (ztb (tb_L_give E d mc ms) pc) := ztb_ok (by
  unfold tb_L_give
  refine zfmc (r_aload_n h (pc := 0) (kf := 3) 3 (by decide +kernel) rfl) ?_
  refine zfmc (r_iconst h (pc := 1) (z := 0) (by decide +kernel) (0) (by decide +kernel)) ?_
  refine zfmc (r_aload_n h (pc := 2) (kf := 0) 0 (by decide +kernel) rfl) ?_
  refine zfmc (r_iload_n h (pc := 3) (kf := 1) 1 (by decide +kernel) rfl) ?_
  refine zfmc (r_iload_n h (pc := 4) (kf := 2) 2 (by decide +kernel) rfl) ?_
  refine zfmc (r_callVC h hl9 (pc := 5) (ix := 42) (by decide +kernel) ckX12 2 mcX12_give wk_4f3fd60747 wk_5852149b01 wk_77494be3dd rfl (hcs9 := [("java/lang/IndexOutOfBoundsException", 13), ("java/lang/IllegalStateException", 17)]) (zfmc (zcat1 h hMH (by omega) (by omega) (by decide) wk_aa5906303f (fun U H q => (hNC U H q).2.2.2.2.2)) (zfmc (zcat2 h hMH (by omega) (by omega) (by decide) (by decide) wk_828ac68a05 (fun U H q => (hNC U H q).2.2.2.1) wk_aa5906303f (fun U H q => (hNC U H q).1)) zfm0))) ?_
  refine zfmc (r_i2l h (pc := 8) (by decide +kernel)) ?_
  refine zfmc (r_lastore h (pc := 9) (by decide +kernel)) ?_
  refine zfmc (r_goto h (pc := 10) (off := 11) (by decide +kernel) 21 (by decide +kernel)) ?_
  refine zfmc (r_astore h (pc := 13) 4 (by decide +kernel) (by decide +kernel)) ?_
  refine zfmc (r_iconst h (pc := 15) (z := 1) (by decide +kernel) (1) (by decide +kernel)) ?_
  refine zfmc (r_ireturn h (pc := 16) (by decide +kernel) rfl) ?_
  refine zfmc (r_astore h (pc := 17) 4 (by decide +kernel) (by decide +kernel)) ?_
  refine zfmc (r_iconst h (pc := 19) (z := 2) (by decide +kernel) (2) (by decide +kernel)) ?_
  refine zfmc (r_ireturn h (pc := 20) (by decide +kernel) rfl) ?_
  refine zfmc (r_iconst h (pc := 21) (z := 0) (by decide +kernel) (0) (by decide +kernel)) ?_
  refine zfmc (r_ireturn h (pc := 22) (by decide +kernel) rfl) ?_
  exact zfm0)
def tb_L_trash (E : ZEX) (d mc ms : Nat) : List (Nat × ZStep) := [(0, s_aload 3 1), (1, s_const (.int (0)) 2), (2, s_aload 0 3), (3, s_iload 1 4), (4, s_iload 2 5), (5, s_callVC E d mc ms 11 MX12_trash 2 8 [("java/lang/IndexOutOfBoundsException", 13), ("java/lang/IllegalStateException", 17)]), (8, s_i2l 9), (9, s_lastore E 10), (10, s_goto 21), (13, s_astore 4 15), (15, s_const (.int (1)) 16), (16, s_ireturn), (17, s_astore 4 19), (19, s_const (.int (2)) 20), (20, s_ireturn), (21, s_const (.int (0)) 22), (22, s_ireturn)]
set_option maxRecDepth 20000 in
theorem ok_L_trash {E : ZEX} {X : ZMX} {d mc ms : Nat} {P : ZPT} {T : ZTT} (hNC : ZNC E) (hl9 : X.2.1.stackTraces = false) (hMH : zMH X [(0, 10, 13, 24), (0, 10, 17, 13)]) (h : ZCX E X ML_trash d mc ms P T) : ∀ pc, ZRow E X ML_trash mc ms P T pc (ztb (tb_L_trash E d mc ms) pc) := ztb_ok (by
  unfold tb_L_trash
  refine zfmc (r_aload_n h (pc := 0) (kf := 3) 3 (by decide +kernel) rfl) ?_
  refine zfmc (r_iconst h (pc := 1) (z := 0) (by decide +kernel) (0) (by decide +kernel)) ?_
  refine zfmc (r_aload_n h (pc := 2) (kf := 0) 0 (by decide +kernel) rfl) ?_
  refine zfmc (r_iload_n h (pc := 3) (kf := 1) 1 (by decide +kernel) rfl) ?_
  refine zfmc (r_iload_n h (pc := 4) (kf := 2) 2 (by decide +kernel) rfl) ?_
  refine zfmc (r_callVC h hl9 (pc := 5) (ix := 45) (by decide +kernel) ckX12 2 mcX12_trash wk_ff4695299d wk_b64ed7add5 wk_c0e664542a rfl (hcs9 := [("java/lang/IndexOutOfBoundsException", 13), ("java/lang/IllegalStateException", 17)]) (zfmc (zcat1 h hMH (by omega) (by omega) (by decide) wk_aa5906303f (fun U H q => (hNC U H q).2.2.2.2.2)) (zfmc (zcat2 h hMH (by omega) (by omega) (by decide) (by decide) wk_828ac68a05 (fun U H q => (hNC U H q).2.2.2.1) wk_aa5906303f (fun U H q => (hNC U H q).1)) zfm0))) ?_
  refine zfmc (r_i2l h (pc := 8) (by decide +kernel)) ?_
  refine zfmc (r_lastore h (pc := 9) (by decide +kernel)) ?_
  refine zfmc (r_goto h (pc := 10) (off := 11) (by decide +kernel) 21 (by decide +kernel)) ?_
  refine zfmc (r_astore h (pc := 13) 4 (by decide +kernel) (by decide +kernel)) ?_
  refine zfmc (r_iconst h (pc := 15) (z := 1) (by decide +kernel) (1) (by decide +kernel)) ?_
  refine zfmc (r_ireturn h (pc := 16) (by decide +kernel) rfl) ?_
  refine zfmc (r_astore h (pc := 17) 4 (by decide +kernel) (by decide +kernel)) ?_
  refine zfmc (r_iconst h (pc := 19) (z := 2) (by decide +kernel) (2) (by decide +kernel)) ?_
  refine zfmc (r_ireturn h (pc := 20) (by decide +kernel) rfl) ?_
  refine zfmc (r_iconst h (pc := 21) (z := 0) (by decide +kernel) (0) (by decide +kernel)) ?_
  refine zfmc (r_ireturn h (pc := 22) (by decide +kernel) rfl) ?_
  exact zfm0)
def tb_L_shuffle (E : ZEX) (d mc ms : Nat) : List (Nat × ZStep) := [(0, s_aload 2 1), (1, s_const (.int (0)) 2), (2, s_aload 0 3), (3, s_iload 1 4), (4, s_callVC E d mc ms 11 MX12_shuffle 1 7 [("java/lang/IndexOutOfBoundsException", 12)]), (7, s_i2l 8), (8, s_lastore E 9), (9, s_goto 15), (12, s_astore 3 13), (13, s_const (.int (1)) 14), (14, s_ireturn), (15, s_const (.int (0)) 16), (16, s_ireturn)]
set_option maxRecDepth 20000 in
theorem ok_L_shuffle {E : ZEX} {X : ZMX} {d mc ms : Nat} {P : ZPT} {T : ZTT} (hNC : ZNC E) (hl9 : X.2.1.stackTraces = false) (hMH : zMH X [(0, 9, 12, 24)]) (h : ZCX E X ML_shuffle d mc ms P T) : ∀ pc, ZRow E X ML_shuffle mc ms P T pc (ztb (tb_L_shuffle E d mc ms) pc) := ztb_ok (by
  unfold tb_L_shuffle
  refine zfmc (r_aload_n h (pc := 0) (kf := 2) 2 (by decide +kernel) rfl) ?_
  refine zfmc (r_iconst h (pc := 1) (z := 0) (by decide +kernel) (0) (by decide +kernel)) ?_
  refine zfmc (r_aload_n h (pc := 2) (kf := 0) 0 (by decide +kernel) rfl) ?_
  refine zfmc (r_iload_n h (pc := 3) (kf := 1) 1 (by decide +kernel) rfl) ?_
  refine zfmc (r_callVC h hl9 (pc := 4) (ix := 48) (by decide +kernel) ckX12 1 mcX12_shuffle wk_4cffc0bd80 wk_8f2f5a0deb wk_e821ca9fcc rfl (hcs9 := [("java/lang/IndexOutOfBoundsException", 12)]) (zfmc (zcat1 h hMH (by omega) (by omega) (by decide) wk_aa5906303f (fun U H q => (hNC U H q).2.2.2.2.2)) zfm0)) ?_
  refine zfmc (r_i2l h (pc := 7) (by decide +kernel)) ?_
  refine zfmc (r_lastore h (pc := 8) (by decide +kernel)) ?_
  refine zfmc (r_goto h (pc := 9) (off := 6) (by decide +kernel) 15 (by decide +kernel)) ?_
  refine zfmc (r_astore_n h (pc := 12) (kf := 3) 3 (by decide +kernel) rfl (by decide +kernel)) ?_
  refine zfmc (r_iconst h (pc := 13) (z := 1) (by decide +kernel) (1) (by decide +kernel)) ?_
  refine zfmc (r_ireturn h (pc := 14) (by decide +kernel) rfl) ?_
  refine zfmc (r_iconst h (pc := 15) (z := 0) (by decide +kernel) (0) (by decide +kernel)) ?_
  refine zfmc (r_ireturn h (pc := 16) (by decide +kernel) rfl) ?_
  exact zfm0)
def tb_L_play (E : ZEX) (d mc ms : Nat) : List (Nat × ZStep) := [(0, s_aload 2 1), (1, s_const (.int (0)) 2), (2, s_aload 0 3), (3, s_iload 1 4), (4, s_callVC E d mc ms 11 MX12_play 1 7 [("java/lang/IllegalArgumentException", 12)]), (7, s_i2l 8), (8, s_lastore E 9), (9, s_goto 15), (12, s_astore 3 13), (13, s_const (.int (1)) 14), (14, s_ireturn), (15, s_const (.int (0)) 16), (16, s_ireturn)]
set_option maxRecDepth 20000 in
theorem ok_L_play {E : ZEX} {X : ZMX} {d mc ms : Nat} {P : ZPT} {T : ZTT} (hNC : ZNC E) (hl9 : X.2.1.stackTraces = false) (hMH : zMH X [(0, 9, 12, 19)]) (h : ZCX E X ML_play d mc ms P T) : ∀ pc, ZRow E X ML_play mc ms P T pc (ztb (tb_L_play E d mc ms) pc) := ztb_ok (by
  unfold tb_L_play
  refine zfmc (r_aload_n h (pc := 0) (kf := 2) 2 (by decide +kernel) rfl) ?_
  refine zfmc (r_iconst h (pc := 1) (z := 0) (by decide +kernel) (0) (by decide +kernel)) ?_
  refine zfmc (r_aload_n h (pc := 2) (kf := 0) 0 (by decide +kernel) rfl) ?_
  refine zfmc (r_iload_n h (pc := 3) (kf := 1) 1 (by decide +kernel) rfl) ?_
  refine zfmc (r_callVC h hl9 (pc := 4) (ix := 51) (by decide +kernel) ckX12 1 mcX12_play wk_781ca89723 wk_eb9e415bdc wk_f416006da9 rfl (hcs9 := [("java/lang/IllegalArgumentException", 12)]) (zfmc (zcat1 h hMH (by omega) (by omega) (by decide) wk_def4f79548 (fun U H q => (hNC U H q).2.2.2.2.1)) zfm0)) ?_
  refine zfmc (r_i2l h (pc := 7) (by decide +kernel)) ?_
  refine zfmc (r_lastore h (pc := 8) (by decide +kernel)) ?_
  refine zfmc (r_goto h (pc := 9) (off := 6) (by decide +kernel) 15 (by decide +kernel)) ?_
  refine zfmc (r_astore_n h (pc := 12) (kf := 3) 3 (by decide +kernel) rfl (by decide +kernel)) ?_
  refine zfmc (r_iconst h (pc := 13) (z := 1) (by decide +kernel) (1) (by decide +kernel)) ?_
  refine zfmc (r_ireturn h (pc := 14) (by decide +kernel) rfl) ?_
  refine zfmc (r_iconst h (pc := 15) (z := 0) (by decide +kernel) (0) (by decide +kernel)) ?_
  refine zfmc (r_ireturn h (pc := 16) (by decide +kernel) rfl) ?_
  exact zfm0)
def tb_L_next (E : ZEX) (d mc ms : Nat) : List (Nat × ZStep) := [(0, s_aload 3 1), (1, s_const (.int (0)) 2), (2, s_aload 0 3), (3, s_iload 1 4), (4, s_iload 2 5), (5, s_callVC E d mc ms 11 MX12_next 2 8 [("java/lang/IndexOutOfBoundsException", 13)]), (8, s_i2l 9), (9, s_lastore E 10), (10, s_goto 17), (13, s_astore 4 15), (15, s_const (.int (1)) 16), (16, s_ireturn), (17, s_const (.int (0)) 18), (18, s_ireturn)]
set_option maxRecDepth 20000 in
theorem ok_L_next {E : ZEX} {X : ZMX} {d mc ms : Nat} {P : ZPT} {T : ZTT} (hNC : ZNC E) (hl9 : X.2.1.stackTraces = false) (hMH : zMH X [(0, 10, 13, 24)]) (h : ZCX E X ML_next d mc ms P T) : ∀ pc, ZRow E X ML_next mc ms P T pc (ztb (tb_L_next E d mc ms) pc) := ztb_ok (by
  unfold tb_L_next
  refine zfmc (r_aload_n h (pc := 0) (kf := 3) 3 (by decide +kernel) rfl) ?_
  refine zfmc (r_iconst h (pc := 1) (z := 0) (by decide +kernel) (0) (by decide +kernel)) ?_
  refine zfmc (r_aload_n h (pc := 2) (kf := 0) 0 (by decide +kernel) rfl) ?_
  refine zfmc (r_iload_n h (pc := 3) (kf := 1) 1 (by decide +kernel) rfl) ?_
  refine zfmc (r_iload_n h (pc := 4) (kf := 2) 2 (by decide +kernel) rfl) ?_
  refine zfmc (r_callVC h hl9 (pc := 5) (ix := 54) (by decide +kernel) ckX12 2 mcX12_next wk_196bc9a52f wk_180dc220c5 wk_f00fe9d1c6 rfl (hcs9 := [("java/lang/IndexOutOfBoundsException", 13)]) (zfmc (zcat1 h hMH (by omega) (by omega) (by decide) wk_aa5906303f (fun U H q => (hNC U H q).2.2.2.2.2)) zfm0)) ?_
  refine zfmc (r_i2l h (pc := 8) (by decide +kernel)) ?_
  refine zfmc (r_lastore h (pc := 9) (by decide +kernel)) ?_
  refine zfmc (r_goto h (pc := 10) (off := 7) (by decide +kernel) 17 (by decide +kernel)) ?_
  refine zfmc (r_astore h (pc := 13) 4 (by decide +kernel) (by decide +kernel)) ?_
  refine zfmc (r_iconst h (pc := 15) (z := 1) (by decide +kernel) (1) (by decide +kernel)) ?_
  refine zfmc (r_ireturn h (pc := 16) (by decide +kernel) rfl) ?_
  refine zfmc (r_iconst h (pc := 17) (z := 0) (by decide +kernel) (0) (by decide +kernel)) ?_
  refine zfmc (r_ireturn h (pc := 18) (by decide +kernel) rfl) ?_
  exact zfm0)
def tb_L_foresee (E : ZEX) (d mc ms : Nat) : List (Nat × ZStep) := [(0, s_aload 3 1), (1, s_const (.int (0)) 2), (2, s_aload 0 3), (3, s_iload 1 4), (4, s_iload 2 5), (5, s_callVC E d mc ms 11 MX12_foresee 2 8 [("java/lang/IllegalArgumentException", 13), ("java/lang/IndexOutOfBoundsException", 17)]), (8, s_i2l 9), (9, s_lastore E 10), (10, s_goto 21), (13, s_astore 4 15), (15, s_const (.int (1)) 16), (16, s_ireturn), (17, s_astore 4 19), (19, s_const (.int (2)) 20), (20, s_ireturn), (21, s_const (.int (0)) 22), (22, s_ireturn)]
set_option maxRecDepth 20000 in
theorem ok_L_foresee {E : ZEX} {X : ZMX} {d mc ms : Nat} {P : ZPT} {T : ZTT} (hNC : ZNC E) (hl9 : X.2.1.stackTraces = false) (hMH : zMH X [(0, 10, 13, 19), (0, 10, 17, 24)]) (h : ZCX E X ML_foresee d mc ms P T) : ∀ pc, ZRow E X ML_foresee mc ms P T pc (ztb (tb_L_foresee E d mc ms) pc) := ztb_ok (by
  unfold tb_L_foresee
  refine zfmc (r_aload_n h (pc := 0) (kf := 3) 3 (by decide +kernel) rfl) ?_
  refine zfmc (r_iconst h (pc := 1) (z := 0) (by decide +kernel) (0) (by decide +kernel)) ?_
  refine zfmc (r_aload_n h (pc := 2) (kf := 0) 0 (by decide +kernel) rfl) ?_
  refine zfmc (r_iload_n h (pc := 3) (kf := 1) 1 (by decide +kernel) rfl) ?_
  refine zfmc (r_iload_n h (pc := 4) (kf := 2) 2 (by decide +kernel) rfl) ?_
  refine zfmc (r_callVC h hl9 (pc := 5) (ix := 57) (by decide +kernel) ckX12 2 mcX12_foresee wk_7229a99696 wk_0f0bc45b1a wk_b1f30f4389 rfl (hcs9 := [("java/lang/IllegalArgumentException", 13), ("java/lang/IndexOutOfBoundsException", 17)]) (zfmc (zcat1 h hMH (by omega) (by omega) (by decide) wk_def4f79548 (fun U H q => (hNC U H q).2.2.2.2.1)) (zfmc (zcat2 h hMH (by omega) (by omega) (by decide) (by decide) wk_aa5906303f (fun U H q => (hNC U H q).2.2.2.2.2) wk_def4f79548 (fun U H q => (hNC U H q).2.2.1)) zfm0))) ?_
  refine zfmc (r_i2l h (pc := 8) (by decide +kernel)) ?_
  refine zfmc (r_lastore h (pc := 9) (by decide +kernel)) ?_
  refine zfmc (r_goto h (pc := 10) (off := 11) (by decide +kernel) 21 (by decide +kernel)) ?_
  refine zfmc (r_astore h (pc := 13) 4 (by decide +kernel) (by decide +kernel)) ?_
  refine zfmc (r_iconst h (pc := 15) (z := 1) (by decide +kernel) (1) (by decide +kernel)) ?_
  refine zfmc (r_ireturn h (pc := 16) (by decide +kernel) rfl) ?_
  refine zfmc (r_astore h (pc := 17) 4 (by decide +kernel) (by decide +kernel)) ?_
  refine zfmc (r_iconst h (pc := 19) (z := 2) (by decide +kernel) (2) (by decide +kernel)) ?_
  refine zfmc (r_ireturn h (pc := 20) (by decide +kernel) rfl) ?_
  refine zfmc (r_iconst h (pc := 21) (z := 0) (by decide +kernel) (0) (by decide +kernel)) ?_
  refine zfmc (r_ireturn h (pc := 22) (by decide +kernel) rfl) ?_
  exact zfm0)
def tb_L_missed (E : ZEX) (d mc ms : Nat) : List (Nat × ZStep) := [(0, s_aload 3 1), (1, s_const (.int (0)) 2), (2, s_aload 0 3), (3, s_iload 1 4), (4, s_iload 2 5), (5, s_callVC E d mc ms 11 MX12_missed 2 8 [("java/lang/IndexOutOfBoundsException", 13), ("java/lang/IllegalArgumentException", 17)]), (8, s_i2l 9), (9, s_lastore E 10), (10, s_goto 21), (13, s_astore 4 15), (15, s_const (.int (1)) 16), (16, s_ireturn), (17, s_astore 4 19), (19, s_const (.int (2)) 20), (20, s_ireturn), (21, s_const (.int (0)) 22), (22, s_ireturn)]
set_option maxRecDepth 20000 in
theorem ok_L_missed {E : ZEX} {X : ZMX} {d mc ms : Nat} {P : ZPT} {T : ZTT} (hNC : ZNC E) (hl9 : X.2.1.stackTraces = false) (hMH : zMH X [(0, 10, 13, 24), (0, 10, 17, 19)]) (h : ZCX E X ML_missed d mc ms P T) : ∀ pc, ZRow E X ML_missed mc ms P T pc (ztb (tb_L_missed E d mc ms) pc) := ztb_ok (by
  unfold tb_L_missed
  refine zfmc (r_aload_n h (pc := 0) (kf := 3) 3 (by decide +kernel) rfl) ?_
  refine zfmc (r_iconst h (pc := 1) (z := 0) (by decide +kernel) (0) (by decide +kernel)) ?_
  refine zfmc (r_aload_n h (pc := 2) (kf := 0) 0 (by decide +kernel) rfl) ?_
  refine zfmc (r_iload_n h (pc := 3) (kf := 1) 1 (by decide +kernel) rfl) ?_
  refine zfmc (r_iload_n h (pc := 4) (kf := 2) 2 (by decide +kernel) rfl) ?_
  refine zfmc (r_callVC h hl9 (pc := 5) (ix := 60) (by decide +kernel) ckX12 2 mcX12_missed wk_e8154f4f3d wk_2a60cab5e8 wk_3bdf4aecec rfl (hcs9 := [("java/lang/IndexOutOfBoundsException", 13), ("java/lang/IllegalArgumentException", 17)]) (zfmc (zcat1 h hMH (by omega) (by omega) (by decide) wk_aa5906303f (fun U H q => (hNC U H q).2.2.2.2.2)) (zfmc (zcat2 h hMH (by omega) (by omega) (by decide) (by decide) wk_def4f79548 (fun U H q => (hNC U H q).2.2.2.2.1) wk_aa5906303f (fun U H q => (hNC U H q).2.1)) zfm0))) ?_
  refine zfmc (r_i2l h (pc := 8) (by decide +kernel)) ?_
  refine zfmc (r_lastore h (pc := 9) (by decide +kernel)) ?_
  refine zfmc (r_goto h (pc := 10) (off := 11) (by decide +kernel) 21 (by decide +kernel)) ?_
  refine zfmc (r_astore h (pc := 13) 4 (by decide +kernel) (by decide +kernel)) ?_
  refine zfmc (r_iconst h (pc := 15) (z := 1) (by decide +kernel) (1) (by decide +kernel)) ?_
  refine zfmc (r_ireturn h (pc := 16) (by decide +kernel) rfl) ?_
  refine zfmc (r_astore h (pc := 17) 4 (by decide +kernel) (by decide +kernel)) ?_
  refine zfmc (r_iconst h (pc := 19) (z := 2) (by decide +kernel) (2) (by decide +kernel)) ?_
  refine zfmc (r_ireturn h (pc := 20) (by decide +kernel) rfl) ?_
  refine zfmc (r_iconst h (pc := 21) (z := 0) (by decide +kernel) (0) (by decide +kernel)) ?_
  refine zfmc (r_ireturn h (pc := 22) (by decide +kernel) rfl) ?_
  exact zfm0)
def tb_L_advise (E : ZEX) (d mc ms : Nat) : List (Nat × ZStep) := [(0, s_aload 3 1), (1, s_const (.int (0)) 2), (2, s_aload 0 3), (3, s_iload 1 4), (4, s_iload 2 5), (5, s_callVC E d mc ms 11 MX12_advise 2 8 [("java/lang/IndexOutOfBoundsException", 13), ("java/lang/IllegalArgumentException", 17)]), (8, s_i2l 9), (9, s_lastore E 10), (10, s_goto 21), (13, s_astore 4 15), (15, s_const (.int (1)) 16), (16, s_ireturn), (17, s_astore 4 19), (19, s_const (.int (2)) 20), (20, s_ireturn), (21, s_const (.int (0)) 22), (22, s_ireturn)]
set_option maxRecDepth 20000 in
theorem ok_L_advise {E : ZEX} {X : ZMX} {d mc ms : Nat} {P : ZPT} {T : ZTT} (hNC : ZNC E) (hl9 : X.2.1.stackTraces = false) (hMH : zMH X [(0, 10, 13, 24), (0, 10, 17, 19)]) (h : ZCX E X ML_advise d mc ms P T) : ∀ pc, ZRow E X ML_advise mc ms P T pc (ztb (tb_L_advise E d mc ms) pc) := ztb_ok (by
  unfold tb_L_advise
  refine zfmc (r_aload_n h (pc := 0) (kf := 3) 3 (by decide +kernel) rfl) ?_
  refine zfmc (r_iconst h (pc := 1) (z := 0) (by decide +kernel) (0) (by decide +kernel)) ?_
  refine zfmc (r_aload_n h (pc := 2) (kf := 0) 0 (by decide +kernel) rfl) ?_
  refine zfmc (r_iload_n h (pc := 3) (kf := 1) 1 (by decide +kernel) rfl) ?_
  refine zfmc (r_iload_n h (pc := 4) (kf := 2) 2 (by decide +kernel) rfl) ?_
  refine zfmc (r_callVC h hl9 (pc := 5) (ix := 63) (by decide +kernel) ckX12 2 mcX12_advise wk_a5aac4f788 wk_531cacd9c4 wk_6edd9f95d7 rfl (hcs9 := [("java/lang/IndexOutOfBoundsException", 13), ("java/lang/IllegalArgumentException", 17)]) (zfmc (zcat1 h hMH (by omega) (by omega) (by decide) wk_aa5906303f (fun U H q => (hNC U H q).2.2.2.2.2)) (zfmc (zcat2 h hMH (by omega) (by omega) (by decide) (by decide) wk_def4f79548 (fun U H q => (hNC U H q).2.2.2.2.1) wk_aa5906303f (fun U H q => (hNC U H q).2.1)) zfm0))) ?_
  refine zfmc (r_i2l h (pc := 8) (by decide +kernel)) ?_
  refine zfmc (r_lastore h (pc := 9) (by decide +kernel)) ?_
  refine zfmc (r_goto h (pc := 10) (off := 11) (by decide +kernel) 21 (by decide +kernel)) ?_
  refine zfmc (r_astore h (pc := 13) 4 (by decide +kernel) (by decide +kernel)) ?_
  refine zfmc (r_iconst h (pc := 15) (z := 1) (by decide +kernel) (1) (by decide +kernel)) ?_
  refine zfmc (r_ireturn h (pc := 16) (by decide +kernel) rfl) ?_
  refine zfmc (r_astore h (pc := 17) 4 (by decide +kernel) (by decide +kernel)) ?_
  refine zfmc (r_iconst h (pc := 19) (z := 2) (by decide +kernel) (2) (by decide +kernel)) ?_
  refine zfmc (r_ireturn h (pc := 20) (by decide +kernel) rfl) ?_
  refine zfmc (r_iconst h (pc := 21) (z := 0) (by decide +kernel) (0) (by decide +kernel)) ?_
  refine zfmc (r_ireturn h (pc := 22) (by decide +kernel) rfl) ?_
  exact zfm0)
def tb_L_law (E : ZEX) (d mc ms : Nat) (N : Nat) (xs : Nat → Int32) : List (Nat × ZStep) := [(0, s_new 11 6 fsX12 mc ms 3), (3, s_dup 4), (4, s_callI E d mc ms MX12_init 0 7), (7, s_astore 1 8), (8, s_new 14 23 fsX15 mc ms 11), (11, s_dup 12), (12, s_callI E d mc ms MX15_init 0 15), (15, s_astore 2 16), (16, s_const (.int (1)) 17), (17, s_newL E mc ms 19), (19, s_astore 3 20), (20, s_const (.int (0)) 21), (21, s_istore 4 23), (23, s_iload 4 25), (25, s_aload 0 26), (26, s_alenK E 300 N 27), (27, s_const (.int (6)) 29), (29, s_isub 30), (30, s_icmp_gt 1316 33), (33, s_aload 0 34), (34, s_iload 4 36), (36, s_ialdQ E 300 N xs 37), (37, s_const (.int (31)) 39), (39, s_iand 40), (40, s_tsw 0 [140, 244, 300, 313, 326, 382, 450, 518, 586, 654, 722, 735, 803, 871, 927, 983, 1051, 1119, 1187, 1255, 1296] 1310), (140, s_aload 1 141), (141, s_aload 0 142), (142, s_iload 4 144), (144, s_const (.int (1)) 145), (145, s_iadd 146), (146, s_ialdQ E 300 N xs 147), (147, s_aload 0 148), (148, s_iload 4 150), (150, s_const (.int (2)) 151), (151, s_iadd 152), (152, s_ialdQ E 300 N xs 153), (153, s_aload 0 154), (154, s_iload 4 156), (156, s_const (.int (3)) 157), (157, s_iadd 158), (158, s_ialdQ E 300 N xs 159), (159, s_aload 0 160), (160, s_iload 4 162), (162, s_const (.int (4)) 163), (163, s_iadd 164), (164, s_ialdQ E 300 N xs 165), (165, s_aload 0 166), (166, s_iload 4 168), (168, s_const (.int (5)) 169), (169, s_iadd 170), (170, s_ialdQ E 300 N xs 171), (171, s_aload 3 172), (172, s_callSH E d mc ms ML_feed [(0, 16, 19, 13)] 7 175), (175, s_istore 5 177), (177, s_aload 2 178), (178, s_aload 0 179), (179, s_iload 4 181), (181, s_const (.int (1)) 182), (182, s_iadd 183), (183, s_ialdQ E 300 N xs 184), (184, s_aload 0 185), (185, s_iload 4 187), (187, s_const (.int (2)) 188), (188, s_iadd 189), (189, s_ialdQ E 300 N xs 190), (190, s_aload 0 191), (191, s_iload 4 193), (193, s_const (.int (3)) 194), (194, s_iadd 195), (195, s_ialdQ E 300 N xs 196), (196, s_aload 0 197), (197, s_iload 4 199), (199, s_const (.int (4)) 200), (200, s_iadd 201), (201, s_ialdQ E 300 N xs 202), (202, s_aload 0 203), (203, s_iload 4 205), (205, s_const (.int (5)) 206), (206, s_iadd 207), (207, s_ialdQ E 300 N xs 208), (208, s_callV E d mc ms 14 MX15_feed 5 211), (211, s_istore 6 213), (213, s_aload 2 214), (214, s_callV E d mc ms 14 MX15_thrown 0 217), (217, s_iload 5 219), (219, s_icmp_eq 224 222), (222, s_const (.int (0)) 223), (223, s_zreturn), (224, s_iload 5 226), (226, s_if_ne 241 229), (229, s_aload 3 230), (230, s_const (.int (0)) 231), (231, s_laload E 232), (232, s_iload 6 234), (234, s_i2l 235), (235, s_lcmp 236), (236, s_if_eq 241 239), (239, s_const (.int (0)) 240), (240, s_zreturn), (241, s_goto 1310), (244, s_aload 1 245), (245, s_aload 0 246), (246, s_iload 4 248), (248, s_const (.int (1)) 249), (249, s_iadd 250), (250, s_ialdQ E 300 N xs 251), (251, s_aload 3 252), (252, s_callSH E d mc ms ML_trim [(0, 9, 12, 19)] 3 255), (255, s_istore 5 257), (257, s_aload 2 258), (258, s_aload 0 259), (259, s_iload 4 261), (261, s_const (.int (1)) 262), (262, s_iadd 263), (263, s_ialdQ E 300 N xs 264), (264, s_callV E d mc ms 14 MX15_trim 1 267), (267, s_istore 6 269), (269, s_aload 2 270), (270, s_callV E d mc ms 14 MX15_thrown 0 273), (273, s_iload 5 275), (275, s_icmp_eq 280 278), (278, s_const (.int (0)) 279), (279, s_zreturn), (280, s_iload 5 282), (282, s_if_ne 297 285), (285, s_aload 3 286), (286, s_const (.int (0)) 287), (287, s_laload E 288), (288, s_iload 6 290), (290, s_i2l 291), (291, s_lcmp 292), (292, s_if_eq 297 295), (295, s_const (.int (0)) 296), (296, s_zreturn), (297, s_goto 1310), (300, s_aload 1 301), (301, s_callV E d mc ms 11 MX12_teach 0 304), (304, s_aload 2 305), (305, s_callV E d mc ms 14 MX15_teach 0 308), (308, s_icmp_eq 1310 311), (311, s_const (.int (0)) 312), (312, s_zreturn), (313, s_aload 1 314), (314, s_callV E d mc ms 11 MX12_errorAt 0 317), (317, s_aload 2 318), (318, s_callV E d mc ms 14 MX15_errorAt 0 321), (321, s_icmp_eq 1310 324), (324, s_const (.int (0)) 325), (325, s_zreturn), (326, s_aload 1 327), (327, s_aload 0 328), (328, s_iload 4 330), (330, s_const (.int (1)) 331), (331, s_iadd 332), (332, s_ialdQ E 300 N xs 333), (333, s_aload 3 334), (334, s_callSH E d mc ms ML_count [(0, 9, 12, 24)] 3 337), (337, s_istore 5 339), (339, s_aload 2 340), (340, s_aload 0 341), (341, s_iload 4 343), (343, s_const (.int (1)) 344), (344, s_iadd 345), (345, s_ialdQ E 300 N xs 346), (346, s_callV E d mc ms 14 MX15_count 1 349), (349, s_istore 6 351), (351, s_aload 2 352), (352, s_callV E d mc ms 14 MX15_thrown 0 355), (355, s_iload 5 357), (357, s_icmp_eq 362 360), (360, s_const (.int (0)) 361), (361, s_zreturn), (362, s_iload 5 364), (364, s_if_ne 379 367), (367, s_aload 3 368), (368, s_const (.int (0)) 369), (369, s_laload E 370), (370, s_iload 6 372), (372, s_i2l 373), (373, s_lcmp 374), (374, s_if_eq 379 377), (377, s_const (.int (0)) 378), (378, s_zreturn), (379, s_goto 1310), (382, s_aload 1 383), (383, s_aload 0 384), (384, s_iload 4 386), (386, s_const (.int (1)) 387), (387, s_iadd 388), (388, s_ialdQ E 300 N xs 389), (389, s_aload 0 390), (390, s_iload 4 392), (392, s_const (.int (2)) 393), (393, s_iadd 394), (394, s_ialdQ E 300 N xs 395), (395, s_aload 3 396), (396, s_callSH E d mc ms ML_card [(0, 10, 13, 24)] 4 399), (399, s_istore 5 401), (401, s_aload 2 402), (402, s_aload 0 403), (403, s_iload 4 405), (405, s_const (.int (1)) 406), (406, s_iadd 407), (407, s_ialdQ E 300 N xs 408), (408, s_aload 0 409), (409, s_iload 4 411), (411, s_const (.int (2)) 412), (412, s_iadd 413), (413, s_ialdQ E 300 N xs 414), (414, s_callV E d mc ms 14 MX15_card 2 417), (417, s_istore 6 419), (419, s_aload 2 420), (420, s_callV E d mc ms 14 MX15_thrown 0 423), (423, s_iload 5 425), (425, s_icmp_eq 430 428), (428, s_const (.int (0)) 429), (429, s_zreturn), (430, s_iload 5 432), (432, s_if_ne 447 435), (435, s_aload 3 436), (436, s_const (.int (0)) 437), (437, s_laload E 438), (438, s_iload 6 440), (440, s_i2l 441), (441, s_lcmp 442), (442, s_if_eq 447 445), (445, s_const (.int (0)) 446), (446, s_zreturn), (447, s_goto 1310), (450, s_aload 1 451), (451, s_aload 0 452), (452, s_iload 4 454), (454, s_const (.int (1)) 455), (455, s_iadd 456), (456, s_ialdQ E 300 N xs 457), (457, s_aload 0 458), (458, s_iload 4 460), (460, s_const (.int (2)) 461), (461, s_iadd 462), (462, s_ialdQ E 300 N xs 463), (463, s_aload 3 464), (464, s_callSH E d mc ms ML_merchant [(0, 10, 13, 24)] 4 467), (467, s_istore 5 469), (469, s_aload 2 470), (470, s_aload 0 471), (471, s_iload 4 473), (473, s_const (.int (1)) 474), (474, s_iadd 475), (475, s_ialdQ E 300 N xs 476), (476, s_aload 0 477), (477, s_iload 4 479), (479, s_const (.int (2)) 480), (480, s_iadd 481), (481, s_ialdQ E 300 N xs 482), (482, s_callV E d mc ms 14 MX15_merchant 2 485), (485, s_istore 6 487), (487, s_aload 2 488), (488, s_callV E d mc ms 14 MX15_thrown 0 491), (491, s_iload 5 493), (493, s_icmp_eq 498 496), (496, s_const (.int (0)) 497), (497, s_zreturn), (498, s_iload 5 500), (500, s_if_ne 515 503), (503, s_aload 3 504), (504, s_const (.int (0)) 505), (505, s_laload E 506), (506, s_iload 6 508), (508, s_i2l 509), (509, s_lcmp 510), (510, s_if_eq 515 513), (513, s_const (.int (0)) 514), (514, s_zreturn), (515, s_goto 1310), (518, s_aload 1 519), (519, s_aload 0 520), (520, s_iload 4 522), (522, s_const (.int (1)) 523), (523, s_iadd 524), (524, s_ialdQ E 300 N xs 525), (525, s_aload 0 526), (526, s_iload 4 528), (528, s_const (.int (2)) 529), (529, s_iadd 530), (530, s_ialdQ E 300 N xs 531), (531, s_aload 3 532), (532, s_callSH E d mc ms ML_owns [(0, 10, 13, 24)] 4 535), (535, s_istore 5 537), (537, s_aload 2 538), (538, s_aload 0 539), (539, s_iload 4 541), (541, s_const (.int (1)) 542), (542, s_iadd 543), (543, s_ialdQ E 300 N xs 544), (544, s_aload 0 545), (545, s_iload 4 547), (547, s_const (.int (2)) 548), (548, s_iadd 549), (549, s_ialdQ E 300 N xs 550), (550, s_callV E d mc ms 14 MX15_owns 2 553), (553, s_istore 6 555), (555, s_aload 2 556), (556, s_callV E d mc ms 14 MX15_thrown 0 559), (559, s_iload 5 561), (561, s_icmp_eq 566 564), (564, s_const (.int (0)) 565), (565, s_zreturn), (566, s_iload 5 568), (568, s_if_ne 583 571), (571, s_aload 3 572), (572, s_const (.int (0)) 573), (573, s_laload E 574), (574, s_iload 6 576), (576, s_i2l 577), (577, s_lcmp 578), (578, s_if_eq 583 581), (581, s_const (.int (0)) 582), (582, s_zreturn), (583, s_goto 1310), (586, s_aload 1 587), (587, s_aload 0 588), (588, s_iload 4 590), (590, s_const (.int (1)) 591), (591, s_iadd 592), (592, s_ialdQ E 300 N xs 593), (593, s_aload 0 594), (594, s_iload 4 596), (596, s_const (.int (2)) 597), (597, s_iadd 598), (598, s_ialdQ E 300 N xs 599), (599, s_aload 3 600), (600, s_callSH E d mc ms ML_deck [(0, 10, 13, 24)] 4 603), (603, s_istore 5 605), (605, s_aload 2 606), (606, s_aload 0 607), (607, s_iload 4 609), (609, s_const (.int (1)) 610), (610, s_iadd 611), (611, s_ialdQ E 300 N xs 612), (612, s_aload 0 613), (613, s_iload 4 615), (615, s_const (.int (2)) 616), (616, s_iadd 617), (617, s_ialdQ E 300 N xs 618), (618, s_callV E d mc ms 14 MX15_deck 2 621), (621, s_istore 6 623), (623, s_aload 2 624), (624, s_callV E d mc ms 14 MX15_thrown 0 627), (627, s_iload 5 629), (629, s_icmp_eq 634 632), (632, s_const (.int (0)) 633), (633, s_zreturn), (634, s_iload 5 636), (636, s_if_ne 651 639), (639, s_aload 3 640), (640, s_const (.int (0)) 641), (641, s_laload E 642), (642, s_iload 6 644), (644, s_i2l 645), (645, s_lcmp 646), (646, s_if_eq 651 649), (649, s_const (.int (0)) 650), (650, s_zreturn), (651, s_goto 1310), (654, s_aload 1 655), (655, s_aload 0 656), (656, s_iload 4 658), (658, s_const (.int (1)) 659), (659, s_iadd 660), (660, s_ialdQ E 300 N xs 661), (661, s_aload 0 662), (662, s_iload 4 664), (664, s_const (.int (2)) 665), (665, s_iadd 666), (666, s_ialdQ E 300 N xs 667), (667, s_aload 3 668), (668, s_callSH E d mc ms ML_discard [(0, 10, 13, 24)] 4 671), (671, s_istore 5 673), (673, s_aload 2 674), (674, s_aload 0 675), (675, s_iload 4 677), (677, s_const (.int (1)) 678), (678, s_iadd 679), (679, s_ialdQ E 300 N xs 680), (680, s_aload 0 681), (681, s_iload 4 683), (683, s_const (.int (2)) 684), (684, s_iadd 685), (685, s_ialdQ E 300 N xs 686), (686, s_callV E d mc ms 14 MX15_discard 2 689), (689, s_istore 6 691), (691, s_aload 2 692), (692, s_callV E d mc ms 14 MX15_thrown 0 695), (695, s_iload 5 697), (697, s_icmp_eq 702 700), (700, s_const (.int (0)) 701), (701, s_zreturn), (702, s_iload 5 704), (704, s_if_ne 719 707), (707, s_aload 3 708), (708, s_const (.int (0)) 709), (709, s_laload E 710), (710, s_iload 6 712), (712, s_i2l 713), (713, s_lcmp 714), (714, s_if_eq 719 717), (717, s_const (.int (0)) 718), (718, s_zreturn), (719, s_goto 1310), (722, s_aload 1 723), (723, s_callV E d mc ms 11 MX12_leader 0 726), (726, s_aload 2 727), (727, s_callV E d mc ms 14 MX15_leader 0 730), (730, s_icmp_eq 1310 733), (733, s_const (.int (0)) 734), (734, s_zreturn), (735, s_aload 1 736), (736, s_aload 0 737), (737, s_iload 4 739), (739, s_const (.int (1)) 740), (740, s_iadd 741), (741, s_ialdQ E 300 N xs 742), (742, s_aload 0 743), (743, s_iload 4 745), (745, s_const (.int (2)) 746), (746, s_iadd 747), (747, s_ialdQ E 300 N xs 748), (748, s_aload 3 749), (749, s_callSH E d mc ms ML_give [(0, 10, 13, 24), (0, 10, 17, 13)] 4 752), (752, s_istore 5 754), (754, s_aload 2 755), (755, s_aload 0 756), (756, s_iload 4 758), (758, s_const (.int (1)) 759), (759, s_iadd 760), (760, s_ialdQ E 300 N xs 761), (761, s_aload 0 762), (762, s_iload 4 764), (764, s_const (.int (2)) 765), (765, s_iadd 766), (766, s_ialdQ E 300 N xs 767), (767, s_callV E d mc ms 14 MX15_give_ 2 770), (770, s_istore 6 772), (772, s_aload 2 773), (773, s_callV E d mc ms 14 MX15_thrown 0 776), (776, s_iload 5 778), (778, s_icmp_eq 783 781), (781, s_const (.int (0)) 782), (782, s_zreturn), (783, s_iload 5 785), (785, s_if_ne 800 788), (788, s_aload 3 789), (789, s_const (.int (0)) 790), (790, s_laload E 791), (791, s_iload 6 793), (793, s_i2l 794), (794, s_lcmp 795), (795, s_if_eq 800 798), (798, s_const (.int (0)) 799), (799, s_zreturn), (800, s_goto 1310), (803, s_aload 1 804), (804, s_aload 0 805), (805, s_iload 4 807), (807, s_const (.int (1)) 808), (808, s_iadd 809), (809, s_ialdQ E 300 N xs 810), (810, s_aload 0 811), (811, s_iload 4 813), (813, s_const (.int (2)) 814), (814, s_iadd 815), (815, s_ialdQ E 300 N xs 816), (816, s_aload 3 817), (817, s_callSH E d mc ms ML_trash [(0, 10, 13, 24), (0, 10, 17, 13)] 4 820), (820, s_istore 5 822), (822, s_aload 2 823), (823, s_aload 0 824), (824, s_iload 4 826), (826, s_const (.int (1)) 827), (827, s_iadd 828), (828, s_ialdQ E 300 N xs 829), (829, s_aload 0 830), (830, s_iload 4 832), (832, s_const (.int (2)) 833), (833, s_iadd 834), (834, s_ialdQ E 300 N xs 835), (835, s_callV E d mc ms 14 MX15_trash 2 838), (838, s_istore 6 840), (840, s_aload 2 841), (841, s_callV E d mc ms 14 MX15_thrown 0 844), (844, s_iload 5 846), (846, s_icmp_eq 851 849), (849, s_const (.int (0)) 850), (850, s_zreturn), (851, s_iload 5 853), (853, s_if_ne 868 856), (856, s_aload 3 857), (857, s_const (.int (0)) 858), (858, s_laload E 859), (859, s_iload 6 861), (861, s_i2l 862), (862, s_lcmp 863), (863, s_if_eq 868 866), (866, s_const (.int (0)) 867), (867, s_zreturn), (868, s_goto 1310), (871, s_aload 1 872), (872, s_aload 0 873), (873, s_iload 4 875), (875, s_const (.int (1)) 876), (876, s_iadd 877), (877, s_ialdQ E 300 N xs 878), (878, s_aload 3 879), (879, s_callSH E d mc ms ML_shuffle [(0, 9, 12, 24)] 3 882), (882, s_istore 5 884), (884, s_aload 2 885), (885, s_aload 0 886), (886, s_iload 4 888), (888, s_const (.int (1)) 889), (889, s_iadd 890), (890, s_ialdQ E 300 N xs 891), (891, s_callV E d mc ms 14 MX15_shuffle 1 894), (894, s_istore 6 896), (896, s_aload 2 897), (897, s_callV E d mc ms 14 MX15_thrown 0 900), (900, s_iload 5 902), (902, s_icmp_eq 907 905), (905, s_const (.int (0)) 906), (906, s_zreturn), (907, s_iload 5 909), (909, s_if_ne 924 912), (912, s_aload 3 913), (913, s_const (.int (0)) 914), (914, s_laload E 915), (915, s_iload 6 917), (917, s_i2l 918), (918, s_lcmp 919), (919, s_if_eq 924 922), (922, s_const (.int (0)) 923), (923, s_zreturn), (924, s_goto 1310), (927, s_aload 1 928), (928, s_aload 0 929), (929, s_iload 4 931), (931, s_const (.int (1)) 932), (932, s_iadd 933), (933, s_ialdQ E 300 N xs 934), (934, s_aload 3 935), (935, s_callSH E d mc ms ML_play [(0, 9, 12, 19)] 3 938), (938, s_istore 5 940), (940, s_aload 2 941), (941, s_aload 0 942), (942, s_iload 4 944), (944, s_const (.int (1)) 945), (945, s_iadd 946), (946, s_ialdQ E 300 N xs 947), (947, s_callV E d mc ms 14 MX15_play 1 950), (950, s_istore 6 952), (952, s_aload 2 953), (953, s_callV E d mc ms 14 MX15_thrown 0 956), (956, s_iload 5 958), (958, s_icmp_eq 963 961), (961, s_const (.int (0)) 962), (962, s_zreturn), (963, s_iload 5 965), (965, s_if_ne 980 968), (968, s_aload 3 969), (969, s_const (.int (0)) 970), (970, s_laload E 971), (971, s_iload 6 973), (973, s_i2l 974), (974, s_lcmp 975), (975, s_if_eq 980 978), (978, s_const (.int (0)) 979), (979, s_zreturn), (980, s_goto 1310), (983, s_aload 1 984), (984, s_aload 0 985), (985, s_iload 4 987), (987, s_const (.int (1)) 988), (988, s_iadd 989), (989, s_ialdQ E 300 N xs 990), (990, s_aload 0 991), (991, s_iload 4 993), (993, s_const (.int (2)) 994), (994, s_iadd 995), (995, s_ialdQ E 300 N xs 996), (996, s_aload 3 997), (997, s_callSH E d mc ms ML_next [(0, 10, 13, 24)] 4 1000), (1000, s_istore 5 1002), (1002, s_aload 2 1003), (1003, s_aload 0 1004), (1004, s_iload 4 1006), (1006, s_const (.int (1)) 1007), (1007, s_iadd 1008), (1008, s_ialdQ E 300 N xs 1009), (1009, s_aload 0 1010), (1010, s_iload 4 1012), (1012, s_const (.int (2)) 1013), (1013, s_iadd 1014), (1014, s_ialdQ E 300 N xs 1015), (1015, s_callV E d mc ms 14 MX15_next 2 1018), (1018, s_istore 6 1020), (1020, s_aload 2 1021), (1021, s_callV E d mc ms 14 MX15_thrown 0 1024), (1024, s_iload 5 1026), (1026, s_icmp_eq 1031 1029), (1029, s_const (.int (0)) 1030), (1030, s_zreturn), (1031, s_iload 5 1033), (1033, s_if_ne 1048 1036), (1036, s_aload 3 1037), (1037, s_const (.int (0)) 1038), (1038, s_laload E 1039), (1039, s_iload 6 1041), (1041, s_i2l 1042), (1042, s_lcmp 1043), (1043, s_if_eq 1048 1046), (1046, s_const (.int (0)) 1047), (1047, s_zreturn), (1048, s_goto 1310), (1051, s_aload 1 1052), (1052, s_aload 0 1053), (1053, s_iload 4 1055), (1055, s_const (.int (1)) 1056), (1056, s_iadd 1057), (1057, s_ialdQ E 300 N xs 1058), (1058, s_aload 0 1059), (1059, s_iload 4 1061), (1061, s_const (.int (2)) 1062), (1062, s_iadd 1063), (1063, s_ialdQ E 300 N xs 1064), (1064, s_aload 3 1065), (1065, s_callSH E d mc ms ML_foresee [(0, 10, 13, 19), (0, 10, 17, 24)] 4 1068), (1068, s_istore 5 1070), (1070, s_aload 2 1071), (1071, s_aload 0 1072), (1072, s_iload 4 1074), (1074, s_const (.int (1)) 1075), (1075, s_iadd 1076), (1076, s_ialdQ E 300 N xs 1077), (1077, s_aload 0 1078), (1078, s_iload 4 1080), (1080, s_const (.int (2)) 1081), (1081, s_iadd 1082), (1082, s_ialdQ E 300 N xs 1083), (1083, s_callV E d mc ms 14 MX15_foresee 2 1086), (1086, s_istore 6 1088), (1088, s_aload 2 1089), (1089, s_callV E d mc ms 14 MX15_thrown 0 1092), (1092, s_iload 5 1094), (1094, s_icmp_eq 1099 1097), (1097, s_const (.int (0)) 1098), (1098, s_zreturn), (1099, s_iload 5 1101), (1101, s_if_ne 1116 1104), (1104, s_aload 3 1105), (1105, s_const (.int (0)) 1106), (1106, s_laload E 1107), (1107, s_iload 6 1109), (1109, s_i2l 1110), (1110, s_lcmp 1111), (1111, s_if_eq 1116 1114), (1114, s_const (.int (0)) 1115), (1115, s_zreturn), (1116, s_goto 1310), (1119, s_aload 1 1120), (1120, s_aload 0 1121), (1121, s_iload 4 1123), (1123, s_const (.int (1)) 1124), (1124, s_iadd 1125), (1125, s_ialdQ E 300 N xs 1126), (1126, s_aload 0 1127), (1127, s_iload 4 1129), (1129, s_const (.int (2)) 1130), (1130, s_iadd 1131), (1131, s_ialdQ E 300 N xs 1132), (1132, s_aload 3 1133), (1133, s_callSH E d mc ms ML_missed [(0, 10, 13, 24), (0, 10, 17, 19)] 4 1136), (1136, s_istore 5 1138), (1138, s_aload 2 1139), (1139, s_aload 0 1140), (1140, s_iload 4 1142), (1142, s_const (.int (1)) 1143), (1143, s_iadd 1144), (1144, s_ialdQ E 300 N xs 1145), (1145, s_aload 0 1146), (1146, s_iload 4 1148), (1148, s_const (.int (2)) 1149), (1149, s_iadd 1150), (1150, s_ialdQ E 300 N xs 1151), (1151, s_callV E d mc ms 14 MX15_missed 2 1154), (1154, s_istore 6 1156), (1156, s_aload 2 1157), (1157, s_callV E d mc ms 14 MX15_thrown 0 1160), (1160, s_iload 5 1162), (1162, s_icmp_eq 1167 1165), (1165, s_const (.int (0)) 1166), (1166, s_zreturn), (1167, s_iload 5 1169), (1169, s_if_ne 1184 1172), (1172, s_aload 3 1173), (1173, s_const (.int (0)) 1174), (1174, s_laload E 1175), (1175, s_iload 6 1177), (1177, s_i2l 1178), (1178, s_lcmp 1179), (1179, s_if_eq 1184 1182), (1182, s_const (.int (0)) 1183), (1183, s_zreturn), (1184, s_goto 1310), (1187, s_aload 1 1188), (1188, s_aload 0 1189), (1189, s_iload 4 1191), (1191, s_const (.int (1)) 1192), (1192, s_iadd 1193), (1193, s_ialdQ E 300 N xs 1194), (1194, s_aload 0 1195), (1195, s_iload 4 1197), (1197, s_const (.int (2)) 1198), (1198, s_iadd 1199), (1199, s_ialdQ E 300 N xs 1200), (1200, s_aload 3 1201), (1201, s_callSH E d mc ms ML_advise [(0, 10, 13, 24), (0, 10, 17, 19)] 4 1204), (1204, s_istore 5 1206), (1206, s_aload 2 1207), (1207, s_aload 0 1208), (1208, s_iload 4 1210), (1210, s_const (.int (1)) 1211), (1211, s_iadd 1212), (1212, s_ialdQ E 300 N xs 1213), (1213, s_aload 0 1214), (1214, s_iload 4 1216), (1216, s_const (.int (2)) 1217), (1217, s_iadd 1218), (1218, s_ialdQ E 300 N xs 1219), (1219, s_callV E d mc ms 14 MX15_advise 2 1222), (1222, s_istore 6 1224), (1224, s_aload 2 1225), (1225, s_callV E d mc ms 14 MX15_thrown 0 1228), (1228, s_iload 5 1230), (1230, s_icmp_eq 1235 1233), (1233, s_const (.int (0)) 1234), (1234, s_zreturn), (1235, s_iload 5 1237), (1237, s_if_ne 1252 1240), (1240, s_aload 3 1241), (1241, s_const (.int (0)) 1242), (1242, s_laload E 1243), (1243, s_iload 6 1245), (1245, s_i2l 1246), (1246, s_lcmp 1247), (1247, s_if_eq 1252 1250), (1250, s_const (.int (0)) 1251), (1251, s_zreturn), (1252, s_goto 1310), (1255, s_aload 1 1256), (1256, s_callV E d mc ms 11 MX12_mean 0 1259), (1259, s_dstore 5 1261), (1261, s_aload 2 1262), (1262, s_callV E d mc ms 14 MX15_mean 0 1265), (1265, s_dstore 7 1267), (1267, s_dload 5 1269), (1269, s_dload 7 1271), (1271, s_dcmp .l 1272), (1272, s_if_eq 1293 1275), (1275, s_dload 5 1277), (1277, s_dload 5 1279), (1279, s_dcmp .l 1280), (1280, s_if_eq 1291 1283), (1283, s_dload 7 1285), (1285, s_dload 7 1287), (1287, s_dcmp .l 1288), (1288, s_if_ne 1293 1291), (1291, s_const (.int (0)) 1292), (1292, s_zreturn), (1293, s_goto 1310), (1296, s_aload 1 1297), (1297, s_callVC E d mc ms 11 MX12_digest 0 1300 []), (1300, s_aload 2 1301), (1301, s_callV E d mc ms 14 MX15_digest 0 1304), (1304, s_lcmp 1305), (1305, s_if_eq 1310 1308), (1308, s_const (.int (0)) 1309), (1309, s_zreturn), (1310, s_iinc 4 (6) 1313), (1313, s_goto 23), (1316, s_const (.int (1)) 1317), (1317, s_zreturn)]
set_option maxRecDepth 20000 in
theorem ok_L_law {E : ZEX} {X : ZMX} {d mc ms N : Nat} {xs : Nat → Int32} {P : ZPT} {T : ZTT} (hlS : X.2.1.stackTraces = false) (hSC : ZSC E N xs) (h : ZCX E X ML_law d mc ms P T) : ∀ pc, ZRow E X ML_law mc ms P T pc (ztb (tb_L_law E d mc ms N xs) pc) := ztb_ok (by
  unfold tb_L_law
  refine zfmc (r_new h (pc := 0) (ix := 8) (by decide +kernel) ckX12 fsX12 tyX12 tyX12_ok fsX12_ok wk_0f2264d174 wk_6df1e814d4 wk_2bebcca7ac) ?_
  refine zfmc (r_dup h (pc := 3) (by decide +kernel)) ?_
  refine zfmc (r_callI h (pc := 4) (ix := 66) (by decide +kernel) 0 mcX12_init wk_2f9f9dd4d0 rfl rfl wk_5ef2bf456b) ?_
  refine zfmc (r_astore_n h (pc := 7) (kf := 1) 1 (by decide +kernel) rfl (by decide +kernel)) ?_
  refine zfmc (r_new h (pc := 8) (ix := 67) (by decide +kernel) ckX15 fsX15 tyX15 tyX15_ok fsX15_ok wk_009bcf05c2 wk_a4c394ef95 wk_8353456950) ?_
  refine zfmc (r_dup h (pc := 11) (by decide +kernel)) ?_
  refine zfmc (r_callI h (pc := 12) (ix := 69) (by decide +kernel) 0 mcX15_init wk_33bcc9c536 rfl rfl wk_9ba446a952) ?_
  refine zfmc (r_astore_n h (pc := 15) (kf := 2) 2 (by decide +kernel) rfl (by decide +kernel)) ?_
  refine zfmc (r_iconst h (pc := 16) (z := 1) (by decide +kernel) (1) (by decide +kernel)) ?_
  refine zfmc (r_newL h (pc := 17) (by decide +kernel) wk_c8524a40b5) ?_
  refine zfmc (r_astore_n h (pc := 19) (kf := 3) 3 (by decide +kernel) rfl (by decide +kernel)) ?_
  refine zfmc (r_iconst h (pc := 20) (z := 0) (by decide +kernel) (0) (by decide +kernel)) ?_
  refine zfmc (r_istore h (pc := 21) 4 (by decide +kernel) (by decide +kernel)) ?_
  refine zfmc (r_iload h (pc := 23) 4 (by decide +kernel)) ?_
  refine zfmc (r_aload_n h (pc := 25) (kf := 0) 0 (by decide +kernel) rfl) ?_
  refine zfmc (r_alenK h (pc := 26) (by decide +kernel) (b := 300) hSC) ?_
  refine zfmc (r_bipush h (pc := 27) (z := 6) (by decide +kernel) (6) (by decide +kernel)) ?_
  refine zfmc (r_isub h (pc := 29) (by decide +kernel)) ?_
  refine zfmc (r_icmp_gt h (pc := 30) (off := 1286) (by decide +kernel) 1316 (by decide +kernel)) ?_
  refine zfmc (r_aload_n h (pc := 33) (kf := 0) 0 (by decide +kernel) rfl) ?_
  refine zfmc (r_iload h (pc := 34) 4 (by decide +kernel)) ?_
  refine zfmc (r_ialdQ h (pc := 36) (by decide +kernel) hSC) ?_
  refine zfmc (r_bipush h (pc := 37) (z := 31) (by decide +kernel) (31) (by decide +kernel)) ?_
  refine zfmc (r_iand h (pc := 39) (by decide +kernel)) ?_
  refine zfmc (r_tsw h (pc := 40) (dflt := 1270) (lo := 0) (hi := 20) (offs := #[100, 204, 260, 273, 286, 342, 410, 478, 546, 614, 682, 695, 763, 831, 887, 943, 1011, 1079, 1147, 1215, 1256]) (len := 100) (by decide +kernel) [140, 244, 300, 313, 326, 382, 450, 518, 586, 654, 722, 735, 803, 871, 927, 983, 1051, 1119, 1187, 1255, 1296] 1310 (by decide +kernel) (by decide +kernel) (by decide +kernel)) ?_
  refine zfmc (r_aload_n h (pc := 140) (kf := 1) 1 (by decide +kernel) rfl) ?_
  refine zfmc (r_aload_n h (pc := 141) (kf := 0) 0 (by decide +kernel) rfl) ?_
  refine zfmc (r_iload h (pc := 142) 4 (by decide +kernel)) ?_
  refine zfmc (r_iconst h (pc := 144) (z := 1) (by decide +kernel) (1) (by decide +kernel)) ?_
  refine zfmc (r_iadd h (pc := 145) (by decide +kernel)) ?_
  refine zfmc (r_ialdQ h (pc := 146) (by decide +kernel) hSC) ?_
  refine zfmc (r_aload_n h (pc := 147) (kf := 0) 0 (by decide +kernel) rfl) ?_
  refine zfmc (r_iload h (pc := 148) 4 (by decide +kernel)) ?_
  refine zfmc (r_iconst h (pc := 150) (z := 2) (by decide +kernel) (2) (by decide +kernel)) ?_
  refine zfmc (r_iadd h (pc := 151) (by decide +kernel)) ?_
  refine zfmc (r_ialdQ h (pc := 152) (by decide +kernel) hSC) ?_
  refine zfmc (r_aload_n h (pc := 153) (kf := 0) 0 (by decide +kernel) rfl) ?_
  refine zfmc (r_iload h (pc := 154) 4 (by decide +kernel)) ?_
  refine zfmc (r_iconst h (pc := 156) (z := 3) (by decide +kernel) (3) (by decide +kernel)) ?_
  refine zfmc (r_iadd h (pc := 157) (by decide +kernel)) ?_
  refine zfmc (r_ialdQ h (pc := 158) (by decide +kernel) hSC) ?_
  refine zfmc (r_aload_n h (pc := 159) (kf := 0) 0 (by decide +kernel) rfl) ?_
  refine zfmc (r_iload h (pc := 160) 4 (by decide +kernel)) ?_
  refine zfmc (r_iconst h (pc := 162) (z := 4) (by decide +kernel) (4) (by decide +kernel)) ?_
  refine zfmc (r_iadd h (pc := 163) (by decide +kernel)) ?_
  refine zfmc (r_ialdQ h (pc := 164) (by decide +kernel) hSC) ?_
  refine zfmc (r_aload_n h (pc := 165) (kf := 0) 0 (by decide +kernel) rfl) ?_
  refine zfmc (r_iload h (pc := 166) 4 (by decide +kernel)) ?_
  refine zfmc (r_iconst h (pc := 168) (z := 5) (by decide +kernel) (5) (by decide +kernel)) ?_
  refine zfmc (r_iadd h (pc := 169) (by decide +kernel)) ?_
  refine zfmc (r_ialdQ h (pc := 170) (by decide +kernel) hSC) ?_
  refine zfmc (r_aload_n h (pc := 171) (kf := 3) 3 (by decide +kernel) rfl) ?_
  refine zfmc (r_callSH h hlS (pc := 172) (ix := 70) (by decide +kernel) 7 mcL_feed wk_4da218d123 wk_7505085bfc) ?_
  refine zfmc (r_istore h (pc := 175) 5 (by decide +kernel) (by decide +kernel)) ?_
  refine zfmc (r_aload_n h (pc := 177) (kf := 2) 2 (by decide +kernel) rfl) ?_
  refine zfmc (r_aload_n h (pc := 178) (kf := 0) 0 (by decide +kernel) rfl) ?_
  refine zfmc (r_iload h (pc := 179) 4 (by decide +kernel)) ?_
  refine zfmc (r_iconst h (pc := 181) (z := 1) (by decide +kernel) (1) (by decide +kernel)) ?_
  refine zfmc (r_iadd h (pc := 182) (by decide +kernel)) ?_
  refine zfmc (r_ialdQ h (pc := 183) (by decide +kernel) hSC) ?_
  refine zfmc (r_aload_n h (pc := 184) (kf := 0) 0 (by decide +kernel) rfl) ?_
  refine zfmc (r_iload h (pc := 185) 4 (by decide +kernel)) ?_
  refine zfmc (r_iconst h (pc := 187) (z := 2) (by decide +kernel) (2) (by decide +kernel)) ?_
  refine zfmc (r_iadd h (pc := 188) (by decide +kernel)) ?_
  refine zfmc (r_ialdQ h (pc := 189) (by decide +kernel) hSC) ?_
  refine zfmc (r_aload_n h (pc := 190) (kf := 0) 0 (by decide +kernel) rfl) ?_
  refine zfmc (r_iload h (pc := 191) 4 (by decide +kernel)) ?_
  refine zfmc (r_iconst h (pc := 193) (z := 3) (by decide +kernel) (3) (by decide +kernel)) ?_
  refine zfmc (r_iadd h (pc := 194) (by decide +kernel)) ?_
  refine zfmc (r_ialdQ h (pc := 195) (by decide +kernel) hSC) ?_
  refine zfmc (r_aload_n h (pc := 196) (kf := 0) 0 (by decide +kernel) rfl) ?_
  refine zfmc (r_iload h (pc := 197) 4 (by decide +kernel)) ?_
  refine zfmc (r_iconst h (pc := 199) (z := 4) (by decide +kernel) (4) (by decide +kernel)) ?_
  refine zfmc (r_iadd h (pc := 200) (by decide +kernel)) ?_
  refine zfmc (r_ialdQ h (pc := 201) (by decide +kernel) hSC) ?_
  refine zfmc (r_aload_n h (pc := 202) (kf := 0) 0 (by decide +kernel) rfl) ?_
  refine zfmc (r_iload h (pc := 203) 4 (by decide +kernel)) ?_
  refine zfmc (r_iconst h (pc := 205) (z := 5) (by decide +kernel) (5) (by decide +kernel)) ?_
  refine zfmc (r_iadd h (pc := 206) (by decide +kernel)) ?_
  refine zfmc (r_ialdQ h (pc := 207) (by decide +kernel) hSC) ?_
  refine zfmc (r_callV h (pc := 208) (ix := 75) (by decide +kernel) ckX15 5 mcX15_feed wk_85996bc158 wk_2f34bd3346 wk_659593fa18 rfl) ?_
  refine zfmc (r_istore h (pc := 211) 6 (by decide +kernel) (by decide +kernel)) ?_
  refine zfmc (r_aload_n h (pc := 213) (kf := 2) 2 (by decide +kernel) rfl) ?_
  refine zfmc (r_callV h (pc := 214) (ix := 76) (by decide +kernel) ckX15 0 mcX15_thrown wk_295876f299 wk_bc2877298b wk_ce551bf8fa rfl) ?_
  refine zfmc (r_iload h (pc := 217) 5 (by decide +kernel)) ?_
  refine zfmc (r_icmp_eq h (pc := 219) (off := 5) (by decide +kernel) 224 (by decide +kernel)) ?_
  refine zfmc (r_iconst h (pc := 222) (z := 0) (by decide +kernel) (0) (by decide +kernel)) ?_
  refine zfmc (r_zreturn h (pc := 223) (by decide +kernel) rfl) ?_
  refine zfmc (r_iload h (pc := 224) 5 (by decide +kernel)) ?_
  refine zfmc (r_if_ne h (pc := 226) (off := 15) (by decide +kernel) 241 (by decide +kernel)) ?_
  refine zfmc (r_aload_n h (pc := 229) (kf := 3) 3 (by decide +kernel) rfl) ?_
  refine zfmc (r_iconst h (pc := 230) (z := 0) (by decide +kernel) (0) (by decide +kernel)) ?_
  refine zfmc (r_laload h (pc := 231) (by decide +kernel)) ?_
  refine zfmc (r_iload h (pc := 232) 6 (by decide +kernel)) ?_
  refine zfmc (r_i2l h (pc := 234) (by decide +kernel)) ?_
  refine zfmc (r_lcmp h (pc := 235) (by decide +kernel)) ?_
  refine zfmc (r_if_eq h (pc := 236) (off := 5) (by decide +kernel) 241 (by decide +kernel)) ?_
  refine zfmc (r_iconst h (pc := 239) (z := 0) (by decide +kernel) (0) (by decide +kernel)) ?_
  refine zfmc (r_zreturn h (pc := 240) (by decide +kernel) rfl) ?_
  refine zfmc (r_goto h (pc := 241) (off := 1069) (by decide +kernel) 1310 (by decide +kernel)) ?_
  refine zfmc (r_aload_n h (pc := 244) (kf := 1) 1 (by decide +kernel) rfl) ?_
  refine zfmc (r_aload_n h (pc := 245) (kf := 0) 0 (by decide +kernel) rfl) ?_
  refine zfmc (r_iload h (pc := 246) 4 (by decide +kernel)) ?_
  refine zfmc (r_iconst h (pc := 248) (z := 1) (by decide +kernel) (1) (by decide +kernel)) ?_
  refine zfmc (r_iadd h (pc := 249) (by decide +kernel)) ?_
  refine zfmc (r_ialdQ h (pc := 250) (by decide +kernel) hSC) ?_
  refine zfmc (r_aload_n h (pc := 251) (kf := 3) 3 (by decide +kernel) rfl) ?_
  refine zfmc (r_callSH h hlS (pc := 252) (ix := 80) (by decide +kernel) 3 mcL_trim wk_44fc5fc148 wk_da10d79421) ?_
  refine zfmc (r_istore h (pc := 255) 5 (by decide +kernel) (by decide +kernel)) ?_
  refine zfmc (r_aload_n h (pc := 257) (kf := 2) 2 (by decide +kernel) rfl) ?_
  refine zfmc (r_aload_n h (pc := 258) (kf := 0) 0 (by decide +kernel) rfl) ?_
  refine zfmc (r_iload h (pc := 259) 4 (by decide +kernel)) ?_
  refine zfmc (r_iconst h (pc := 261) (z := 1) (by decide +kernel) (1) (by decide +kernel)) ?_
  refine zfmc (r_iadd h (pc := 262) (by decide +kernel)) ?_
  refine zfmc (r_ialdQ h (pc := 263) (by decide +kernel) hSC) ?_
  refine zfmc (r_callV h (pc := 264) (ix := 83) (by decide +kernel) ckX15 1 mcX15_trim wk_e54689ac52 wk_08200c9f29 wk_0e1d4f3d60 rfl) ?_
  refine zfmc (r_istore h (pc := 267) 6 (by decide +kernel) (by decide +kernel)) ?_
  refine zfmc (r_aload_n h (pc := 269) (kf := 2) 2 (by decide +kernel) rfl) ?_
  refine zfmc (r_callV h (pc := 270) (ix := 76) (by decide +kernel) ckX15 0 mcX15_thrown wk_295876f299 wk_bc2877298b wk_ce551bf8fa rfl) ?_
  refine zfmc (r_iload h (pc := 273) 5 (by decide +kernel)) ?_
  refine zfmc (r_icmp_eq h (pc := 275) (off := 5) (by decide +kernel) 280 (by decide +kernel)) ?_
  refine zfmc (r_iconst h (pc := 278) (z := 0) (by decide +kernel) (0) (by decide +kernel)) ?_
  refine zfmc (r_zreturn h (pc := 279) (by decide +kernel) rfl) ?_
  refine zfmc (r_iload h (pc := 280) 5 (by decide +kernel)) ?_
  refine zfmc (r_if_ne h (pc := 282) (off := 15) (by decide +kernel) 297 (by decide +kernel)) ?_
  refine zfmc (r_aload_n h (pc := 285) (kf := 3) 3 (by decide +kernel) rfl) ?_
  refine zfmc (r_iconst h (pc := 286) (z := 0) (by decide +kernel) (0) (by decide +kernel)) ?_
  refine zfmc (r_laload h (pc := 287) (by decide +kernel)) ?_
  refine zfmc (r_iload h (pc := 288) 6 (by decide +kernel)) ?_
  refine zfmc (r_i2l h (pc := 290) (by decide +kernel)) ?_
  refine zfmc (r_lcmp h (pc := 291) (by decide +kernel)) ?_
  refine zfmc (r_if_eq h (pc := 292) (off := 5) (by decide +kernel) 297 (by decide +kernel)) ?_
  refine zfmc (r_iconst h (pc := 295) (z := 0) (by decide +kernel) (0) (by decide +kernel)) ?_
  refine zfmc (r_zreturn h (pc := 296) (by decide +kernel) rfl) ?_
  refine zfmc (r_goto h (pc := 297) (off := 1013) (by decide +kernel) 1310 (by decide +kernel)) ?_
  refine zfmc (r_aload_n h (pc := 300) (kf := 1) 1 (by decide +kernel) rfl) ?_
  refine zfmc (r_callV h (pc := 301) (ix := 84) (by decide +kernel) ckX12 0 mcX12_teach wk_0ea70e7338 wk_8e11f109f2 wk_44d42b705a rfl) ?_
  refine zfmc (r_aload_n h (pc := 304) (kf := 2) 2 (by decide +kernel) rfl) ?_
  refine zfmc (r_callV h (pc := 305) (ix := 87) (by decide +kernel) ckX15 0 mcX15_teach wk_5be499db61 wk_88a08f8185 wk_fbe715c306 rfl) ?_
  refine zfmc (r_icmp_eq h (pc := 308) (off := 1002) (by decide +kernel) 1310 (by decide +kernel)) ?_
  refine zfmc (r_iconst h (pc := 311) (z := 0) (by decide +kernel) (0) (by decide +kernel)) ?_
  refine zfmc (r_zreturn h (pc := 312) (by decide +kernel) rfl) ?_
  refine zfmc (r_aload_n h (pc := 313) (kf := 1) 1 (by decide +kernel) rfl) ?_
  refine zfmc (r_callV h (pc := 314) (ix := 88) (by decide +kernel) ckX12 0 mcX12_errorAt wk_d50e0cebaf wk_9c0db278e9 wk_7d3f71a483 rfl) ?_
  refine zfmc (r_aload_n h (pc := 317) (kf := 2) 2 (by decide +kernel) rfl) ?_
  refine zfmc (r_callV h (pc := 318) (ix := 91) (by decide +kernel) ckX15 0 mcX15_errorAt wk_a390c26773 wk_65e29eabec wk_b547d9b098 rfl) ?_
  refine zfmc (r_icmp_eq h (pc := 321) (off := 989) (by decide +kernel) 1310 (by decide +kernel)) ?_
  refine zfmc (r_iconst h (pc := 324) (z := 0) (by decide +kernel) (0) (by decide +kernel)) ?_
  refine zfmc (r_zreturn h (pc := 325) (by decide +kernel) rfl) ?_
  refine zfmc (r_aload_n h (pc := 326) (kf := 1) 1 (by decide +kernel) rfl) ?_
  refine zfmc (r_aload_n h (pc := 327) (kf := 0) 0 (by decide +kernel) rfl) ?_
  refine zfmc (r_iload h (pc := 328) 4 (by decide +kernel)) ?_
  refine zfmc (r_iconst h (pc := 330) (z := 1) (by decide +kernel) (1) (by decide +kernel)) ?_
  refine zfmc (r_iadd h (pc := 331) (by decide +kernel)) ?_
  refine zfmc (r_ialdQ h (pc := 332) (by decide +kernel) hSC) ?_
  refine zfmc (r_aload_n h (pc := 333) (kf := 3) 3 (by decide +kernel) rfl) ?_
  refine zfmc (r_callSH h hlS (pc := 334) (ix := 92) (by decide +kernel) 3 mcL_count wk_25c0822901 wk_ac009bb99e) ?_
  refine zfmc (r_istore h (pc := 337) 5 (by decide +kernel) (by decide +kernel)) ?_
  refine zfmc (r_aload_n h (pc := 339) (kf := 2) 2 (by decide +kernel) rfl) ?_
  refine zfmc (r_aload_n h (pc := 340) (kf := 0) 0 (by decide +kernel) rfl) ?_
  refine zfmc (r_iload h (pc := 341) 4 (by decide +kernel)) ?_
  refine zfmc (r_iconst h (pc := 343) (z := 1) (by decide +kernel) (1) (by decide +kernel)) ?_
  refine zfmc (r_iadd h (pc := 344) (by decide +kernel)) ?_
  refine zfmc (r_ialdQ h (pc := 345) (by decide +kernel) hSC) ?_
  refine zfmc (r_callV h (pc := 346) (ix := 94) (by decide +kernel) ckX15 1 mcX15_count wk_482ca0eedc wk_087533578f wk_cde4b38802 rfl) ?_
  refine zfmc (r_istore h (pc := 349) 6 (by decide +kernel) (by decide +kernel)) ?_
  refine zfmc (r_aload_n h (pc := 351) (kf := 2) 2 (by decide +kernel) rfl) ?_
  refine zfmc (r_callV h (pc := 352) (ix := 76) (by decide +kernel) ckX15 0 mcX15_thrown wk_295876f299 wk_bc2877298b wk_ce551bf8fa rfl) ?_
  refine zfmc (r_iload h (pc := 355) 5 (by decide +kernel)) ?_
  refine zfmc (r_icmp_eq h (pc := 357) (off := 5) (by decide +kernel) 362 (by decide +kernel)) ?_
  refine zfmc (r_iconst h (pc := 360) (z := 0) (by decide +kernel) (0) (by decide +kernel)) ?_
  refine zfmc (r_zreturn h (pc := 361) (by decide +kernel) rfl) ?_
  refine zfmc (r_iload h (pc := 362) 5 (by decide +kernel)) ?_
  refine zfmc (r_if_ne h (pc := 364) (off := 15) (by decide +kernel) 379 (by decide +kernel)) ?_
  refine zfmc (r_aload_n h (pc := 367) (kf := 3) 3 (by decide +kernel) rfl) ?_
  refine zfmc (r_iconst h (pc := 368) (z := 0) (by decide +kernel) (0) (by decide +kernel)) ?_
  refine zfmc (r_laload h (pc := 369) (by decide +kernel)) ?_
  refine zfmc (r_iload h (pc := 370) 6 (by decide +kernel)) ?_
  refine zfmc (r_i2l h (pc := 372) (by decide +kernel)) ?_
  refine zfmc (r_lcmp h (pc := 373) (by decide +kernel)) ?_
  refine zfmc (r_if_eq h (pc := 374) (off := 5) (by decide +kernel) 379 (by decide +kernel)) ?_
  refine zfmc (r_iconst h (pc := 377) (z := 0) (by decide +kernel) (0) (by decide +kernel)) ?_
  refine zfmc (r_zreturn h (pc := 378) (by decide +kernel) rfl) ?_
  refine zfmc (r_goto h (pc := 379) (off := 931) (by decide +kernel) 1310 (by decide +kernel)) ?_
  refine zfmc (r_aload_n h (pc := 382) (kf := 1) 1 (by decide +kernel) rfl) ?_
  refine zfmc (r_aload_n h (pc := 383) (kf := 0) 0 (by decide +kernel) rfl) ?_
  refine zfmc (r_iload h (pc := 384) 4 (by decide +kernel)) ?_
  refine zfmc (r_iconst h (pc := 386) (z := 1) (by decide +kernel) (1) (by decide +kernel)) ?_
  refine zfmc (r_iadd h (pc := 387) (by decide +kernel)) ?_
  refine zfmc (r_ialdQ h (pc := 388) (by decide +kernel) hSC) ?_
  refine zfmc (r_aload_n h (pc := 389) (kf := 0) 0 (by decide +kernel) rfl) ?_
  refine zfmc (r_iload h (pc := 390) 4 (by decide +kernel)) ?_
  refine zfmc (r_iconst h (pc := 392) (z := 2) (by decide +kernel) (2) (by decide +kernel)) ?_
  refine zfmc (r_iadd h (pc := 393) (by decide +kernel)) ?_
  refine zfmc (r_ialdQ h (pc := 394) (by decide +kernel) hSC) ?_
  refine zfmc (r_aload_n h (pc := 395) (kf := 3) 3 (by decide +kernel) rfl) ?_
  refine zfmc (r_callSH h hlS (pc := 396) (ix := 95) (by decide +kernel) 4 mcL_card wk_18c1e6d005 wk_67d50e483a) ?_
  refine zfmc (r_istore h (pc := 399) 5 (by decide +kernel) (by decide +kernel)) ?_
  refine zfmc (r_aload_n h (pc := 401) (kf := 2) 2 (by decide +kernel) rfl) ?_
  refine zfmc (r_aload_n h (pc := 402) (kf := 0) 0 (by decide +kernel) rfl) ?_
  refine zfmc (r_iload h (pc := 403) 4 (by decide +kernel)) ?_
  refine zfmc (r_iconst h (pc := 405) (z := 1) (by decide +kernel) (1) (by decide +kernel)) ?_
  refine zfmc (r_iadd h (pc := 406) (by decide +kernel)) ?_
  refine zfmc (r_ialdQ h (pc := 407) (by decide +kernel) hSC) ?_
  refine zfmc (r_aload_n h (pc := 408) (kf := 0) 0 (by decide +kernel) rfl) ?_
  refine zfmc (r_iload h (pc := 409) 4 (by decide +kernel)) ?_
  refine zfmc (r_iconst h (pc := 411) (z := 2) (by decide +kernel) (2) (by decide +kernel)) ?_
  refine zfmc (r_iadd h (pc := 412) (by decide +kernel)) ?_
  refine zfmc (r_ialdQ h (pc := 413) (by decide +kernel) hSC) ?_
  refine zfmc (r_callV h (pc := 414) (ix := 98) (by decide +kernel) ckX15 2 mcX15_card wk_6dfbad3ec7 wk_3b4236dad6 wk_497bd8b4c1 rfl) ?_
  refine zfmc (r_istore h (pc := 417) 6 (by decide +kernel) (by decide +kernel)) ?_
  refine zfmc (r_aload_n h (pc := 419) (kf := 2) 2 (by decide +kernel) rfl) ?_
  refine zfmc (r_callV h (pc := 420) (ix := 76) (by decide +kernel) ckX15 0 mcX15_thrown wk_295876f299 wk_bc2877298b wk_ce551bf8fa rfl) ?_
  refine zfmc (r_iload h (pc := 423) 5 (by decide +kernel)) ?_
  refine zfmc (r_icmp_eq h (pc := 425) (off := 5) (by decide +kernel) 430 (by decide +kernel)) ?_
  refine zfmc (r_iconst h (pc := 428) (z := 0) (by decide +kernel) (0) (by decide +kernel)) ?_
  refine zfmc (r_zreturn h (pc := 429) (by decide +kernel) rfl) ?_
  refine zfmc (r_iload h (pc := 430) 5 (by decide +kernel)) ?_
  refine zfmc (r_if_ne h (pc := 432) (off := 15) (by decide +kernel) 447 (by decide +kernel)) ?_
  refine zfmc (r_aload_n h (pc := 435) (kf := 3) 3 (by decide +kernel) rfl) ?_
  refine zfmc (r_iconst h (pc := 436) (z := 0) (by decide +kernel) (0) (by decide +kernel)) ?_
  refine zfmc (r_laload h (pc := 437) (by decide +kernel)) ?_
  refine zfmc (r_iload h (pc := 438) 6 (by decide +kernel)) ?_
  refine zfmc (r_i2l h (pc := 440) (by decide +kernel)) ?_
  refine zfmc (r_lcmp h (pc := 441) (by decide +kernel)) ?_
  refine zfmc (r_if_eq h (pc := 442) (off := 5) (by decide +kernel) 447 (by decide +kernel)) ?_
  refine zfmc (r_iconst h (pc := 445) (z := 0) (by decide +kernel) (0) (by decide +kernel)) ?_
  refine zfmc (r_zreturn h (pc := 446) (by decide +kernel) rfl) ?_
  refine zfmc (r_goto h (pc := 447) (off := 863) (by decide +kernel) 1310 (by decide +kernel)) ?_
  refine zfmc (r_aload_n h (pc := 450) (kf := 1) 1 (by decide +kernel) rfl) ?_
  refine zfmc (r_aload_n h (pc := 451) (kf := 0) 0 (by decide +kernel) rfl) ?_
  refine zfmc (r_iload h (pc := 452) 4 (by decide +kernel)) ?_
  refine zfmc (r_iconst h (pc := 454) (z := 1) (by decide +kernel) (1) (by decide +kernel)) ?_
  refine zfmc (r_iadd h (pc := 455) (by decide +kernel)) ?_
  refine zfmc (r_ialdQ h (pc := 456) (by decide +kernel) hSC) ?_
  refine zfmc (r_aload_n h (pc := 457) (kf := 0) 0 (by decide +kernel) rfl) ?_
  refine zfmc (r_iload h (pc := 458) 4 (by decide +kernel)) ?_
  refine zfmc (r_iconst h (pc := 460) (z := 2) (by decide +kernel) (2) (by decide +kernel)) ?_
  refine zfmc (r_iadd h (pc := 461) (by decide +kernel)) ?_
  refine zfmc (r_ialdQ h (pc := 462) (by decide +kernel) hSC) ?_
  refine zfmc (r_aload_n h (pc := 463) (kf := 3) 3 (by decide +kernel) rfl) ?_
  refine zfmc (r_callSH h hlS (pc := 464) (ix := 99) (by decide +kernel) 4 mcL_merchant wk_374e3e8572 wk_6085c5622a) ?_
  refine zfmc (r_istore h (pc := 467) 5 (by decide +kernel) (by decide +kernel)) ?_
  refine zfmc (r_aload_n h (pc := 469) (kf := 2) 2 (by decide +kernel) rfl) ?_
  refine zfmc (r_aload_n h (pc := 470) (kf := 0) 0 (by decide +kernel) rfl) ?_
  refine zfmc (r_iload h (pc := 471) 4 (by decide +kernel)) ?_
  refine zfmc (r_iconst h (pc := 473) (z := 1) (by decide +kernel) (1) (by decide +kernel)) ?_
  refine zfmc (r_iadd h (pc := 474) (by decide +kernel)) ?_
  refine zfmc (r_ialdQ h (pc := 475) (by decide +kernel) hSC) ?_
  refine zfmc (r_aload_n h (pc := 476) (kf := 0) 0 (by decide +kernel) rfl) ?_
  refine zfmc (r_iload h (pc := 477) 4 (by decide +kernel)) ?_
  refine zfmc (r_iconst h (pc := 479) (z := 2) (by decide +kernel) (2) (by decide +kernel)) ?_
  refine zfmc (r_iadd h (pc := 480) (by decide +kernel)) ?_
  refine zfmc (r_ialdQ h (pc := 481) (by decide +kernel) hSC) ?_
  refine zfmc (r_callV h (pc := 482) (ix := 101) (by decide +kernel) ckX15 2 mcX15_merchant wk_53cacd85f0 wk_cdfeee1f41 wk_55fe79b921 rfl) ?_
  refine zfmc (r_istore h (pc := 485) 6 (by decide +kernel) (by decide +kernel)) ?_
  refine zfmc (r_aload_n h (pc := 487) (kf := 2) 2 (by decide +kernel) rfl) ?_
  refine zfmc (r_callV h (pc := 488) (ix := 76) (by decide +kernel) ckX15 0 mcX15_thrown wk_295876f299 wk_bc2877298b wk_ce551bf8fa rfl) ?_
  refine zfmc (r_iload h (pc := 491) 5 (by decide +kernel)) ?_
  refine zfmc (r_icmp_eq h (pc := 493) (off := 5) (by decide +kernel) 498 (by decide +kernel)) ?_
  refine zfmc (r_iconst h (pc := 496) (z := 0) (by decide +kernel) (0) (by decide +kernel)) ?_
  refine zfmc (r_zreturn h (pc := 497) (by decide +kernel) rfl) ?_
  refine zfmc (r_iload h (pc := 498) 5 (by decide +kernel)) ?_
  refine zfmc (r_if_ne h (pc := 500) (off := 15) (by decide +kernel) 515 (by decide +kernel)) ?_
  refine zfmc (r_aload_n h (pc := 503) (kf := 3) 3 (by decide +kernel) rfl) ?_
  refine zfmc (r_iconst h (pc := 504) (z := 0) (by decide +kernel) (0) (by decide +kernel)) ?_
  refine zfmc (r_laload h (pc := 505) (by decide +kernel)) ?_
  refine zfmc (r_iload h (pc := 506) 6 (by decide +kernel)) ?_
  refine zfmc (r_i2l h (pc := 508) (by decide +kernel)) ?_
  refine zfmc (r_lcmp h (pc := 509) (by decide +kernel)) ?_
  refine zfmc (r_if_eq h (pc := 510) (off := 5) (by decide +kernel) 515 (by decide +kernel)) ?_
  refine zfmc (r_iconst h (pc := 513) (z := 0) (by decide +kernel) (0) (by decide +kernel)) ?_
  refine zfmc (r_zreturn h (pc := 514) (by decide +kernel) rfl) ?_
  refine zfmc (r_goto h (pc := 515) (off := 795) (by decide +kernel) 1310 (by decide +kernel)) ?_
  refine zfmc (r_aload_n h (pc := 518) (kf := 1) 1 (by decide +kernel) rfl) ?_
  refine zfmc (r_aload_n h (pc := 519) (kf := 0) 0 (by decide +kernel) rfl) ?_
  refine zfmc (r_iload h (pc := 520) 4 (by decide +kernel)) ?_
  refine zfmc (r_iconst h (pc := 522) (z := 1) (by decide +kernel) (1) (by decide +kernel)) ?_
  refine zfmc (r_iadd h (pc := 523) (by decide +kernel)) ?_
  refine zfmc (r_ialdQ h (pc := 524) (by decide +kernel) hSC) ?_
  refine zfmc (r_aload_n h (pc := 525) (kf := 0) 0 (by decide +kernel) rfl) ?_
  refine zfmc (r_iload h (pc := 526) 4 (by decide +kernel)) ?_
  refine zfmc (r_iconst h (pc := 528) (z := 2) (by decide +kernel) (2) (by decide +kernel)) ?_
  refine zfmc (r_iadd h (pc := 529) (by decide +kernel)) ?_
  refine zfmc (r_ialdQ h (pc := 530) (by decide +kernel) hSC) ?_
  refine zfmc (r_aload_n h (pc := 531) (kf := 3) 3 (by decide +kernel) rfl) ?_
  refine zfmc (r_callSH h hlS (pc := 532) (ix := 102) (by decide +kernel) 4 mcL_owns wk_cfae8bfe60 wk_3bc49851ad) ?_
  refine zfmc (r_istore h (pc := 535) 5 (by decide +kernel) (by decide +kernel)) ?_
  refine zfmc (r_aload_n h (pc := 537) (kf := 2) 2 (by decide +kernel) rfl) ?_
  refine zfmc (r_aload_n h (pc := 538) (kf := 0) 0 (by decide +kernel) rfl) ?_
  refine zfmc (r_iload h (pc := 539) 4 (by decide +kernel)) ?_
  refine zfmc (r_iconst h (pc := 541) (z := 1) (by decide +kernel) (1) (by decide +kernel)) ?_
  refine zfmc (r_iadd h (pc := 542) (by decide +kernel)) ?_
  refine zfmc (r_ialdQ h (pc := 543) (by decide +kernel) hSC) ?_
  refine zfmc (r_aload_n h (pc := 544) (kf := 0) 0 (by decide +kernel) rfl) ?_
  refine zfmc (r_iload h (pc := 545) 4 (by decide +kernel)) ?_
  refine zfmc (r_iconst h (pc := 547) (z := 2) (by decide +kernel) (2) (by decide +kernel)) ?_
  refine zfmc (r_iadd h (pc := 548) (by decide +kernel)) ?_
  refine zfmc (r_ialdQ h (pc := 549) (by decide +kernel) hSC) ?_
  refine zfmc (r_callV h (pc := 550) (ix := 104) (by decide +kernel) ckX15 2 mcX15_owns wk_d5373ebc13 wk_38bcbfbba7 wk_a45559161e rfl) ?_
  refine zfmc (r_istore h (pc := 553) 6 (by decide +kernel) (by decide +kernel)) ?_
  refine zfmc (r_aload_n h (pc := 555) (kf := 2) 2 (by decide +kernel) rfl) ?_
  refine zfmc (r_callV h (pc := 556) (ix := 76) (by decide +kernel) ckX15 0 mcX15_thrown wk_295876f299 wk_bc2877298b wk_ce551bf8fa rfl) ?_
  refine zfmc (r_iload h (pc := 559) 5 (by decide +kernel)) ?_
  refine zfmc (r_icmp_eq h (pc := 561) (off := 5) (by decide +kernel) 566 (by decide +kernel)) ?_
  refine zfmc (r_iconst h (pc := 564) (z := 0) (by decide +kernel) (0) (by decide +kernel)) ?_
  refine zfmc (r_zreturn h (pc := 565) (by decide +kernel) rfl) ?_
  refine zfmc (r_iload h (pc := 566) 5 (by decide +kernel)) ?_
  refine zfmc (r_if_ne h (pc := 568) (off := 15) (by decide +kernel) 583 (by decide +kernel)) ?_
  refine zfmc (r_aload_n h (pc := 571) (kf := 3) 3 (by decide +kernel) rfl) ?_
  refine zfmc (r_iconst h (pc := 572) (z := 0) (by decide +kernel) (0) (by decide +kernel)) ?_
  refine zfmc (r_laload h (pc := 573) (by decide +kernel)) ?_
  refine zfmc (r_iload h (pc := 574) 6 (by decide +kernel)) ?_
  refine zfmc (r_i2l h (pc := 576) (by decide +kernel)) ?_
  refine zfmc (r_lcmp h (pc := 577) (by decide +kernel)) ?_
  refine zfmc (r_if_eq h (pc := 578) (off := 5) (by decide +kernel) 583 (by decide +kernel)) ?_
  refine zfmc (r_iconst h (pc := 581) (z := 0) (by decide +kernel) (0) (by decide +kernel)) ?_
  refine zfmc (r_zreturn h (pc := 582) (by decide +kernel) rfl) ?_
  refine zfmc (r_goto h (pc := 583) (off := 727) (by decide +kernel) 1310 (by decide +kernel)) ?_
  refine zfmc (r_aload_n h (pc := 586) (kf := 1) 1 (by decide +kernel) rfl) ?_
  refine zfmc (r_aload_n h (pc := 587) (kf := 0) 0 (by decide +kernel) rfl) ?_
  refine zfmc (r_iload h (pc := 588) 4 (by decide +kernel)) ?_
  refine zfmc (r_iconst h (pc := 590) (z := 1) (by decide +kernel) (1) (by decide +kernel)) ?_
  refine zfmc (r_iadd h (pc := 591) (by decide +kernel)) ?_
  refine zfmc (r_ialdQ h (pc := 592) (by decide +kernel) hSC) ?_
  refine zfmc (r_aload_n h (pc := 593) (kf := 0) 0 (by decide +kernel) rfl) ?_
  refine zfmc (r_iload h (pc := 594) 4 (by decide +kernel)) ?_
  refine zfmc (r_iconst h (pc := 596) (z := 2) (by decide +kernel) (2) (by decide +kernel)) ?_
  refine zfmc (r_iadd h (pc := 597) (by decide +kernel)) ?_
  refine zfmc (r_ialdQ h (pc := 598) (by decide +kernel) hSC) ?_
  refine zfmc (r_aload_n h (pc := 599) (kf := 3) 3 (by decide +kernel) rfl) ?_
  refine zfmc (r_callSH h hlS (pc := 600) (ix := 105) (by decide +kernel) 4 mcL_deck wk_6a8d4557b0 wk_48edc03c42) ?_
  refine zfmc (r_istore h (pc := 603) 5 (by decide +kernel) (by decide +kernel)) ?_
  refine zfmc (r_aload_n h (pc := 605) (kf := 2) 2 (by decide +kernel) rfl) ?_
  refine zfmc (r_aload_n h (pc := 606) (kf := 0) 0 (by decide +kernel) rfl) ?_
  refine zfmc (r_iload h (pc := 607) 4 (by decide +kernel)) ?_
  refine zfmc (r_iconst h (pc := 609) (z := 1) (by decide +kernel) (1) (by decide +kernel)) ?_
  refine zfmc (r_iadd h (pc := 610) (by decide +kernel)) ?_
  refine zfmc (r_ialdQ h (pc := 611) (by decide +kernel) hSC) ?_
  refine zfmc (r_aload_n h (pc := 612) (kf := 0) 0 (by decide +kernel) rfl) ?_
  refine zfmc (r_iload h (pc := 613) 4 (by decide +kernel)) ?_
  refine zfmc (r_iconst h (pc := 615) (z := 2) (by decide +kernel) (2) (by decide +kernel)) ?_
  refine zfmc (r_iadd h (pc := 616) (by decide +kernel)) ?_
  refine zfmc (r_ialdQ h (pc := 617) (by decide +kernel) hSC) ?_
  refine zfmc (r_callV h (pc := 618) (ix := 107) (by decide +kernel) ckX15 2 mcX15_deck wk_16685b6cb2 wk_d8abb40f78 wk_4633606b8b rfl) ?_
  refine zfmc (r_istore h (pc := 621) 6 (by decide +kernel) (by decide +kernel)) ?_
  refine zfmc (r_aload_n h (pc := 623) (kf := 2) 2 (by decide +kernel) rfl) ?_
  refine zfmc (r_callV h (pc := 624) (ix := 76) (by decide +kernel) ckX15 0 mcX15_thrown wk_295876f299 wk_bc2877298b wk_ce551bf8fa rfl) ?_
  refine zfmc (r_iload h (pc := 627) 5 (by decide +kernel)) ?_
  refine zfmc (r_icmp_eq h (pc := 629) (off := 5) (by decide +kernel) 634 (by decide +kernel)) ?_
  refine zfmc (r_iconst h (pc := 632) (z := 0) (by decide +kernel) (0) (by decide +kernel)) ?_
  refine zfmc (r_zreturn h (pc := 633) (by decide +kernel) rfl) ?_
  refine zfmc (r_iload h (pc := 634) 5 (by decide +kernel)) ?_
  refine zfmc (r_if_ne h (pc := 636) (off := 15) (by decide +kernel) 651 (by decide +kernel)) ?_
  refine zfmc (r_aload_n h (pc := 639) (kf := 3) 3 (by decide +kernel) rfl) ?_
  refine zfmc (r_iconst h (pc := 640) (z := 0) (by decide +kernel) (0) (by decide +kernel)) ?_
  refine zfmc (r_laload h (pc := 641) (by decide +kernel)) ?_
  refine zfmc (r_iload h (pc := 642) 6 (by decide +kernel)) ?_
  refine zfmc (r_i2l h (pc := 644) (by decide +kernel)) ?_
  refine zfmc (r_lcmp h (pc := 645) (by decide +kernel)) ?_
  refine zfmc (r_if_eq h (pc := 646) (off := 5) (by decide +kernel) 651 (by decide +kernel)) ?_
  refine zfmc (r_iconst h (pc := 649) (z := 0) (by decide +kernel) (0) (by decide +kernel)) ?_
  refine zfmc (r_zreturn h (pc := 650) (by decide +kernel) rfl) ?_
  refine zfmc (r_goto h (pc := 651) (off := 659) (by decide +kernel) 1310 (by decide +kernel)) ?_
  refine zfmc (r_aload_n h (pc := 654) (kf := 1) 1 (by decide +kernel) rfl) ?_
  refine zfmc (r_aload_n h (pc := 655) (kf := 0) 0 (by decide +kernel) rfl) ?_
  refine zfmc (r_iload h (pc := 656) 4 (by decide +kernel)) ?_
  refine zfmc (r_iconst h (pc := 658) (z := 1) (by decide +kernel) (1) (by decide +kernel)) ?_
  refine zfmc (r_iadd h (pc := 659) (by decide +kernel)) ?_
  refine zfmc (r_ialdQ h (pc := 660) (by decide +kernel) hSC) ?_
  refine zfmc (r_aload_n h (pc := 661) (kf := 0) 0 (by decide +kernel) rfl) ?_
  refine zfmc (r_iload h (pc := 662) 4 (by decide +kernel)) ?_
  refine zfmc (r_iconst h (pc := 664) (z := 2) (by decide +kernel) (2) (by decide +kernel)) ?_
  refine zfmc (r_iadd h (pc := 665) (by decide +kernel)) ?_
  refine zfmc (r_ialdQ h (pc := 666) (by decide +kernel) hSC) ?_
  refine zfmc (r_aload_n h (pc := 667) (kf := 3) 3 (by decide +kernel) rfl) ?_
  refine zfmc (r_callSH h hlS (pc := 668) (ix := 108) (by decide +kernel) 4 mcL_discard wk_894e733208 wk_c1647418a8) ?_
  refine zfmc (r_istore h (pc := 671) 5 (by decide +kernel) (by decide +kernel)) ?_
  refine zfmc (r_aload_n h (pc := 673) (kf := 2) 2 (by decide +kernel) rfl) ?_
  refine zfmc (r_aload_n h (pc := 674) (kf := 0) 0 (by decide +kernel) rfl) ?_
  refine zfmc (r_iload h (pc := 675) 4 (by decide +kernel)) ?_
  refine zfmc (r_iconst h (pc := 677) (z := 1) (by decide +kernel) (1) (by decide +kernel)) ?_
  refine zfmc (r_iadd h (pc := 678) (by decide +kernel)) ?_
  refine zfmc (r_ialdQ h (pc := 679) (by decide +kernel) hSC) ?_
  refine zfmc (r_aload_n h (pc := 680) (kf := 0) 0 (by decide +kernel) rfl) ?_
  refine zfmc (r_iload h (pc := 681) 4 (by decide +kernel)) ?_
  refine zfmc (r_iconst h (pc := 683) (z := 2) (by decide +kernel) (2) (by decide +kernel)) ?_
  refine zfmc (r_iadd h (pc := 684) (by decide +kernel)) ?_
  refine zfmc (r_ialdQ h (pc := 685) (by decide +kernel) hSC) ?_
  refine zfmc (r_callV h (pc := 686) (ix := 110) (by decide +kernel) ckX15 2 mcX15_discard wk_fa05f0343f wk_12ec44299c wk_39c2d4a226 rfl) ?_
  refine zfmc (r_istore h (pc := 689) 6 (by decide +kernel) (by decide +kernel)) ?_
  refine zfmc (r_aload_n h (pc := 691) (kf := 2) 2 (by decide +kernel) rfl) ?_
  refine zfmc (r_callV h (pc := 692) (ix := 76) (by decide +kernel) ckX15 0 mcX15_thrown wk_295876f299 wk_bc2877298b wk_ce551bf8fa rfl) ?_
  refine zfmc (r_iload h (pc := 695) 5 (by decide +kernel)) ?_
  refine zfmc (r_icmp_eq h (pc := 697) (off := 5) (by decide +kernel) 702 (by decide +kernel)) ?_
  refine zfmc (r_iconst h (pc := 700) (z := 0) (by decide +kernel) (0) (by decide +kernel)) ?_
  refine zfmc (r_zreturn h (pc := 701) (by decide +kernel) rfl) ?_
  refine zfmc (r_iload h (pc := 702) 5 (by decide +kernel)) ?_
  refine zfmc (r_if_ne h (pc := 704) (off := 15) (by decide +kernel) 719 (by decide +kernel)) ?_
  refine zfmc (r_aload_n h (pc := 707) (kf := 3) 3 (by decide +kernel) rfl) ?_
  refine zfmc (r_iconst h (pc := 708) (z := 0) (by decide +kernel) (0) (by decide +kernel)) ?_
  refine zfmc (r_laload h (pc := 709) (by decide +kernel)) ?_
  refine zfmc (r_iload h (pc := 710) 6 (by decide +kernel)) ?_
  refine zfmc (r_i2l h (pc := 712) (by decide +kernel)) ?_
  refine zfmc (r_lcmp h (pc := 713) (by decide +kernel)) ?_
  refine zfmc (r_if_eq h (pc := 714) (off := 5) (by decide +kernel) 719 (by decide +kernel)) ?_
  refine zfmc (r_iconst h (pc := 717) (z := 0) (by decide +kernel) (0) (by decide +kernel)) ?_
  refine zfmc (r_zreturn h (pc := 718) (by decide +kernel) rfl) ?_
  refine zfmc (r_goto h (pc := 719) (off := 591) (by decide +kernel) 1310 (by decide +kernel)) ?_
  refine zfmc (r_aload_n h (pc := 722) (kf := 1) 1 (by decide +kernel) rfl) ?_
  refine zfmc (r_callV h (pc := 723) (ix := 111) (by decide +kernel) ckX12 0 mcX12_leader wk_28f2b95b49 wk_f4d1e3ccf3 wk_6a053d5722 rfl) ?_
  refine zfmc (r_aload_n h (pc := 726) (kf := 2) 2 (by decide +kernel) rfl) ?_
  refine zfmc (r_callV h (pc := 727) (ix := 114) (by decide +kernel) ckX15 0 mcX15_leader wk_9f7fd3d3c7 wk_25d59eca5e wk_3c858c5fa6 rfl) ?_
  refine zfmc (r_icmp_eq h (pc := 730) (off := 580) (by decide +kernel) 1310 (by decide +kernel)) ?_
  refine zfmc (r_iconst h (pc := 733) (z := 0) (by decide +kernel) (0) (by decide +kernel)) ?_
  refine zfmc (r_zreturn h (pc := 734) (by decide +kernel) rfl) ?_
  refine zfmc (r_aload_n h (pc := 735) (kf := 1) 1 (by decide +kernel) rfl) ?_
  refine zfmc (r_aload_n h (pc := 736) (kf := 0) 0 (by decide +kernel) rfl) ?_
  refine zfmc (r_iload h (pc := 737) 4 (by decide +kernel)) ?_
  refine zfmc (r_iconst h (pc := 739) (z := 1) (by decide +kernel) (1) (by decide +kernel)) ?_
  refine zfmc (r_iadd h (pc := 740) (by decide +kernel)) ?_
  refine zfmc (r_ialdQ h (pc := 741) (by decide +kernel) hSC) ?_
  refine zfmc (r_aload_n h (pc := 742) (kf := 0) 0 (by decide +kernel) rfl) ?_
  refine zfmc (r_iload h (pc := 743) 4 (by decide +kernel)) ?_
  refine zfmc (r_iconst h (pc := 745) (z := 2) (by decide +kernel) (2) (by decide +kernel)) ?_
  refine zfmc (r_iadd h (pc := 746) (by decide +kernel)) ?_
  refine zfmc (r_ialdQ h (pc := 747) (by decide +kernel) hSC) ?_
  refine zfmc (r_aload_n h (pc := 748) (kf := 3) 3 (by decide +kernel) rfl) ?_
  refine zfmc (r_callSH h hlS (pc := 749) (ix := 115) (by decide +kernel) 4 mcL_give wk_0e11537eab wk_e6c96b82bd) ?_
  refine zfmc (r_istore h (pc := 752) 5 (by decide +kernel) (by decide +kernel)) ?_
  refine zfmc (r_aload_n h (pc := 754) (kf := 2) 2 (by decide +kernel) rfl) ?_
  refine zfmc (r_aload_n h (pc := 755) (kf := 0) 0 (by decide +kernel) rfl) ?_
  refine zfmc (r_iload h (pc := 756) 4 (by decide +kernel)) ?_
  refine zfmc (r_iconst h (pc := 758) (z := 1) (by decide +kernel) (1) (by decide +kernel)) ?_
  refine zfmc (r_iadd h (pc := 759) (by decide +kernel)) ?_
  refine zfmc (r_ialdQ h (pc := 760) (by decide +kernel) hSC) ?_
  refine zfmc (r_aload_n h (pc := 761) (kf := 0) 0 (by decide +kernel) rfl) ?_
  refine zfmc (r_iload h (pc := 762) 4 (by decide +kernel)) ?_
  refine zfmc (r_iconst h (pc := 764) (z := 2) (by decide +kernel) (2) (by decide +kernel)) ?_
  refine zfmc (r_iadd h (pc := 765) (by decide +kernel)) ?_
  refine zfmc (r_ialdQ h (pc := 766) (by decide +kernel) hSC) ?_
  refine zfmc (r_callV h (pc := 767) (ix := 117) (by decide +kernel) ckX15 2 mcX15_give_ wk_17d2125f67 wk_4632e87229 wk_a3c37ff94c rfl) ?_
  refine zfmc (r_istore h (pc := 770) 6 (by decide +kernel) (by decide +kernel)) ?_
  refine zfmc (r_aload_n h (pc := 772) (kf := 2) 2 (by decide +kernel) rfl) ?_
  refine zfmc (r_callV h (pc := 773) (ix := 76) (by decide +kernel) ckX15 0 mcX15_thrown wk_295876f299 wk_bc2877298b wk_ce551bf8fa rfl) ?_
  refine zfmc (r_iload h (pc := 776) 5 (by decide +kernel)) ?_
  refine zfmc (r_icmp_eq h (pc := 778) (off := 5) (by decide +kernel) 783 (by decide +kernel)) ?_
  refine zfmc (r_iconst h (pc := 781) (z := 0) (by decide +kernel) (0) (by decide +kernel)) ?_
  refine zfmc (r_zreturn h (pc := 782) (by decide +kernel) rfl) ?_
  refine zfmc (r_iload h (pc := 783) 5 (by decide +kernel)) ?_
  refine zfmc (r_if_ne h (pc := 785) (off := 15) (by decide +kernel) 800 (by decide +kernel)) ?_
  refine zfmc (r_aload_n h (pc := 788) (kf := 3) 3 (by decide +kernel) rfl) ?_
  refine zfmc (r_iconst h (pc := 789) (z := 0) (by decide +kernel) (0) (by decide +kernel)) ?_
  refine zfmc (r_laload h (pc := 790) (by decide +kernel)) ?_
  refine zfmc (r_iload h (pc := 791) 6 (by decide +kernel)) ?_
  refine zfmc (r_i2l h (pc := 793) (by decide +kernel)) ?_
  refine zfmc (r_lcmp h (pc := 794) (by decide +kernel)) ?_
  refine zfmc (r_if_eq h (pc := 795) (off := 5) (by decide +kernel) 800 (by decide +kernel)) ?_
  refine zfmc (r_iconst h (pc := 798) (z := 0) (by decide +kernel) (0) (by decide +kernel)) ?_
  refine zfmc (r_zreturn h (pc := 799) (by decide +kernel) rfl) ?_
  refine zfmc (r_goto h (pc := 800) (off := 510) (by decide +kernel) 1310 (by decide +kernel)) ?_
  refine zfmc (r_aload_n h (pc := 803) (kf := 1) 1 (by decide +kernel) rfl) ?_
  refine zfmc (r_aload_n h (pc := 804) (kf := 0) 0 (by decide +kernel) rfl) ?_
  refine zfmc (r_iload h (pc := 805) 4 (by decide +kernel)) ?_
  refine zfmc (r_iconst h (pc := 807) (z := 1) (by decide +kernel) (1) (by decide +kernel)) ?_
  refine zfmc (r_iadd h (pc := 808) (by decide +kernel)) ?_
  refine zfmc (r_ialdQ h (pc := 809) (by decide +kernel) hSC) ?_
  refine zfmc (r_aload_n h (pc := 810) (kf := 0) 0 (by decide +kernel) rfl) ?_
  refine zfmc (r_iload h (pc := 811) 4 (by decide +kernel)) ?_
  refine zfmc (r_iconst h (pc := 813) (z := 2) (by decide +kernel) (2) (by decide +kernel)) ?_
  refine zfmc (r_iadd h (pc := 814) (by decide +kernel)) ?_
  refine zfmc (r_ialdQ h (pc := 815) (by decide +kernel) hSC) ?_
  refine zfmc (r_aload_n h (pc := 816) (kf := 3) 3 (by decide +kernel) rfl) ?_
  refine zfmc (r_callSH h hlS (pc := 817) (ix := 118) (by decide +kernel) 4 mcL_trash wk_c36edd3e78 wk_9861d1c26f) ?_
  refine zfmc (r_istore h (pc := 820) 5 (by decide +kernel) (by decide +kernel)) ?_
  refine zfmc (r_aload_n h (pc := 822) (kf := 2) 2 (by decide +kernel) rfl) ?_
  refine zfmc (r_aload_n h (pc := 823) (kf := 0) 0 (by decide +kernel) rfl) ?_
  refine zfmc (r_iload h (pc := 824) 4 (by decide +kernel)) ?_
  refine zfmc (r_iconst h (pc := 826) (z := 1) (by decide +kernel) (1) (by decide +kernel)) ?_
  refine zfmc (r_iadd h (pc := 827) (by decide +kernel)) ?_
  refine zfmc (r_ialdQ h (pc := 828) (by decide +kernel) hSC) ?_
  refine zfmc (r_aload_n h (pc := 829) (kf := 0) 0 (by decide +kernel) rfl) ?_
  refine zfmc (r_iload h (pc := 830) 4 (by decide +kernel)) ?_
  refine zfmc (r_iconst h (pc := 832) (z := 2) (by decide +kernel) (2) (by decide +kernel)) ?_
  refine zfmc (r_iadd h (pc := 833) (by decide +kernel)) ?_
  refine zfmc (r_ialdQ h (pc := 834) (by decide +kernel) hSC) ?_
  refine zfmc (r_callV h (pc := 835) (ix := 120) (by decide +kernel) ckX15 2 mcX15_trash wk_80ab00dc4b wk_52667070d6 wk_dabe2a89f4 rfl) ?_
  refine zfmc (r_istore h (pc := 838) 6 (by decide +kernel) (by decide +kernel)) ?_
  refine zfmc (r_aload_n h (pc := 840) (kf := 2) 2 (by decide +kernel) rfl) ?_
  refine zfmc (r_callV h (pc := 841) (ix := 76) (by decide +kernel) ckX15 0 mcX15_thrown wk_295876f299 wk_bc2877298b wk_ce551bf8fa rfl) ?_
  refine zfmc (r_iload h (pc := 844) 5 (by decide +kernel)) ?_
  refine zfmc (r_icmp_eq h (pc := 846) (off := 5) (by decide +kernel) 851 (by decide +kernel)) ?_
  refine zfmc (r_iconst h (pc := 849) (z := 0) (by decide +kernel) (0) (by decide +kernel)) ?_
  refine zfmc (r_zreturn h (pc := 850) (by decide +kernel) rfl) ?_
  refine zfmc (r_iload h (pc := 851) 5 (by decide +kernel)) ?_
  refine zfmc (r_if_ne h (pc := 853) (off := 15) (by decide +kernel) 868 (by decide +kernel)) ?_
  refine zfmc (r_aload_n h (pc := 856) (kf := 3) 3 (by decide +kernel) rfl) ?_
  refine zfmc (r_iconst h (pc := 857) (z := 0) (by decide +kernel) (0) (by decide +kernel)) ?_
  refine zfmc (r_laload h (pc := 858) (by decide +kernel)) ?_
  refine zfmc (r_iload h (pc := 859) 6 (by decide +kernel)) ?_
  refine zfmc (r_i2l h (pc := 861) (by decide +kernel)) ?_
  refine zfmc (r_lcmp h (pc := 862) (by decide +kernel)) ?_
  refine zfmc (r_if_eq h (pc := 863) (off := 5) (by decide +kernel) 868 (by decide +kernel)) ?_
  refine zfmc (r_iconst h (pc := 866) (z := 0) (by decide +kernel) (0) (by decide +kernel)) ?_
  refine zfmc (r_zreturn h (pc := 867) (by decide +kernel) rfl) ?_
  refine zfmc (r_goto h (pc := 868) (off := 442) (by decide +kernel) 1310 (by decide +kernel)) ?_
  refine zfmc (r_aload_n h (pc := 871) (kf := 1) 1 (by decide +kernel) rfl) ?_
  refine zfmc (r_aload_n h (pc := 872) (kf := 0) 0 (by decide +kernel) rfl) ?_
  refine zfmc (r_iload h (pc := 873) 4 (by decide +kernel)) ?_
  refine zfmc (r_iconst h (pc := 875) (z := 1) (by decide +kernel) (1) (by decide +kernel)) ?_
  refine zfmc (r_iadd h (pc := 876) (by decide +kernel)) ?_
  refine zfmc (r_ialdQ h (pc := 877) (by decide +kernel) hSC) ?_
  refine zfmc (r_aload_n h (pc := 878) (kf := 3) 3 (by decide +kernel) rfl) ?_
  refine zfmc (r_callSH h hlS (pc := 879) (ix := 121) (by decide +kernel) 3 mcL_shuffle wk_f40ccf7e52 wk_b61d5e4acf) ?_
  refine zfmc (r_istore h (pc := 882) 5 (by decide +kernel) (by decide +kernel)) ?_
  refine zfmc (r_aload_n h (pc := 884) (kf := 2) 2 (by decide +kernel) rfl) ?_
  refine zfmc (r_aload_n h (pc := 885) (kf := 0) 0 (by decide +kernel) rfl) ?_
  refine zfmc (r_iload h (pc := 886) 4 (by decide +kernel)) ?_
  refine zfmc (r_iconst h (pc := 888) (z := 1) (by decide +kernel) (1) (by decide +kernel)) ?_
  refine zfmc (r_iadd h (pc := 889) (by decide +kernel)) ?_
  refine zfmc (r_ialdQ h (pc := 890) (by decide +kernel) hSC) ?_
  refine zfmc (r_callV h (pc := 891) (ix := 123) (by decide +kernel) ckX15 1 mcX15_shuffle wk_e26465ec72 wk_6a5ee8a1dd wk_8db10693d3 rfl) ?_
  refine zfmc (r_istore h (pc := 894) 6 (by decide +kernel) (by decide +kernel)) ?_
  refine zfmc (r_aload_n h (pc := 896) (kf := 2) 2 (by decide +kernel) rfl) ?_
  refine zfmc (r_callV h (pc := 897) (ix := 76) (by decide +kernel) ckX15 0 mcX15_thrown wk_295876f299 wk_bc2877298b wk_ce551bf8fa rfl) ?_
  refine zfmc (r_iload h (pc := 900) 5 (by decide +kernel)) ?_
  refine zfmc (r_icmp_eq h (pc := 902) (off := 5) (by decide +kernel) 907 (by decide +kernel)) ?_
  refine zfmc (r_iconst h (pc := 905) (z := 0) (by decide +kernel) (0) (by decide +kernel)) ?_
  refine zfmc (r_zreturn h (pc := 906) (by decide +kernel) rfl) ?_
  refine zfmc (r_iload h (pc := 907) 5 (by decide +kernel)) ?_
  refine zfmc (r_if_ne h (pc := 909) (off := 15) (by decide +kernel) 924 (by decide +kernel)) ?_
  refine zfmc (r_aload_n h (pc := 912) (kf := 3) 3 (by decide +kernel) rfl) ?_
  refine zfmc (r_iconst h (pc := 913) (z := 0) (by decide +kernel) (0) (by decide +kernel)) ?_
  refine zfmc (r_laload h (pc := 914) (by decide +kernel)) ?_
  refine zfmc (r_iload h (pc := 915) 6 (by decide +kernel)) ?_
  refine zfmc (r_i2l h (pc := 917) (by decide +kernel)) ?_
  refine zfmc (r_lcmp h (pc := 918) (by decide +kernel)) ?_
  refine zfmc (r_if_eq h (pc := 919) (off := 5) (by decide +kernel) 924 (by decide +kernel)) ?_
  refine zfmc (r_iconst h (pc := 922) (z := 0) (by decide +kernel) (0) (by decide +kernel)) ?_
  refine zfmc (r_zreturn h (pc := 923) (by decide +kernel) rfl) ?_
  refine zfmc (r_goto h (pc := 924) (off := 386) (by decide +kernel) 1310 (by decide +kernel)) ?_
  refine zfmc (r_aload_n h (pc := 927) (kf := 1) 1 (by decide +kernel) rfl) ?_
  refine zfmc (r_aload_n h (pc := 928) (kf := 0) 0 (by decide +kernel) rfl) ?_
  refine zfmc (r_iload h (pc := 929) 4 (by decide +kernel)) ?_
  refine zfmc (r_iconst h (pc := 931) (z := 1) (by decide +kernel) (1) (by decide +kernel)) ?_
  refine zfmc (r_iadd h (pc := 932) (by decide +kernel)) ?_
  refine zfmc (r_ialdQ h (pc := 933) (by decide +kernel) hSC) ?_
  refine zfmc (r_aload_n h (pc := 934) (kf := 3) 3 (by decide +kernel) rfl) ?_
  refine zfmc (r_callSH h hlS (pc := 935) (ix := 124) (by decide +kernel) 3 mcL_play wk_4b40f2ea11 wk_b448d255f7) ?_
  refine zfmc (r_istore h (pc := 938) 5 (by decide +kernel) (by decide +kernel)) ?_
  refine zfmc (r_aload_n h (pc := 940) (kf := 2) 2 (by decide +kernel) rfl) ?_
  refine zfmc (r_aload_n h (pc := 941) (kf := 0) 0 (by decide +kernel) rfl) ?_
  refine zfmc (r_iload h (pc := 942) 4 (by decide +kernel)) ?_
  refine zfmc (r_iconst h (pc := 944) (z := 1) (by decide +kernel) (1) (by decide +kernel)) ?_
  refine zfmc (r_iadd h (pc := 945) (by decide +kernel)) ?_
  refine zfmc (r_ialdQ h (pc := 946) (by decide +kernel) hSC) ?_
  refine zfmc (r_callV h (pc := 947) (ix := 126) (by decide +kernel) ckX15 1 mcX15_play wk_7407bce15f wk_2198817a64 wk_8467554ceb rfl) ?_
  refine zfmc (r_istore h (pc := 950) 6 (by decide +kernel) (by decide +kernel)) ?_
  refine zfmc (r_aload_n h (pc := 952) (kf := 2) 2 (by decide +kernel) rfl) ?_
  refine zfmc (r_callV h (pc := 953) (ix := 76) (by decide +kernel) ckX15 0 mcX15_thrown wk_295876f299 wk_bc2877298b wk_ce551bf8fa rfl) ?_
  refine zfmc (r_iload h (pc := 956) 5 (by decide +kernel)) ?_
  refine zfmc (r_icmp_eq h (pc := 958) (off := 5) (by decide +kernel) 963 (by decide +kernel)) ?_
  refine zfmc (r_iconst h (pc := 961) (z := 0) (by decide +kernel) (0) (by decide +kernel)) ?_
  refine zfmc (r_zreturn h (pc := 962) (by decide +kernel) rfl) ?_
  refine zfmc (r_iload h (pc := 963) 5 (by decide +kernel)) ?_
  refine zfmc (r_if_ne h (pc := 965) (off := 15) (by decide +kernel) 980 (by decide +kernel)) ?_
  refine zfmc (r_aload_n h (pc := 968) (kf := 3) 3 (by decide +kernel) rfl) ?_
  refine zfmc (r_iconst h (pc := 969) (z := 0) (by decide +kernel) (0) (by decide +kernel)) ?_
  refine zfmc (r_laload h (pc := 970) (by decide +kernel)) ?_
  refine zfmc (r_iload h (pc := 971) 6 (by decide +kernel)) ?_
  refine zfmc (r_i2l h (pc := 973) (by decide +kernel)) ?_
  refine zfmc (r_lcmp h (pc := 974) (by decide +kernel)) ?_
  refine zfmc (r_if_eq h (pc := 975) (off := 5) (by decide +kernel) 980 (by decide +kernel)) ?_
  refine zfmc (r_iconst h (pc := 978) (z := 0) (by decide +kernel) (0) (by decide +kernel)) ?_
  refine zfmc (r_zreturn h (pc := 979) (by decide +kernel) rfl) ?_
  refine zfmc (r_goto h (pc := 980) (off := 330) (by decide +kernel) 1310 (by decide +kernel)) ?_
  refine zfmc (r_aload_n h (pc := 983) (kf := 1) 1 (by decide +kernel) rfl) ?_
  refine zfmc (r_aload_n h (pc := 984) (kf := 0) 0 (by decide +kernel) rfl) ?_
  refine zfmc (r_iload h (pc := 985) 4 (by decide +kernel)) ?_
  refine zfmc (r_iconst h (pc := 987) (z := 1) (by decide +kernel) (1) (by decide +kernel)) ?_
  refine zfmc (r_iadd h (pc := 988) (by decide +kernel)) ?_
  refine zfmc (r_ialdQ h (pc := 989) (by decide +kernel) hSC) ?_
  refine zfmc (r_aload_n h (pc := 990) (kf := 0) 0 (by decide +kernel) rfl) ?_
  refine zfmc (r_iload h (pc := 991) 4 (by decide +kernel)) ?_
  refine zfmc (r_iconst h (pc := 993) (z := 2) (by decide +kernel) (2) (by decide +kernel)) ?_
  refine zfmc (r_iadd h (pc := 994) (by decide +kernel)) ?_
  refine zfmc (r_ialdQ h (pc := 995) (by decide +kernel) hSC) ?_
  refine zfmc (r_aload_n h (pc := 996) (kf := 3) 3 (by decide +kernel) rfl) ?_
  refine zfmc (r_callSH h hlS (pc := 997) (ix := 127) (by decide +kernel) 4 mcL_next wk_e482132932 wk_806ba00a91) ?_
  refine zfmc (r_istore h (pc := 1000) 5 (by decide +kernel) (by decide +kernel)) ?_
  refine zfmc (r_aload_n h (pc := 1002) (kf := 2) 2 (by decide +kernel) rfl) ?_
  refine zfmc (r_aload_n h (pc := 1003) (kf := 0) 0 (by decide +kernel) rfl) ?_
  refine zfmc (r_iload h (pc := 1004) 4 (by decide +kernel)) ?_
  refine zfmc (r_iconst h (pc := 1006) (z := 1) (by decide +kernel) (1) (by decide +kernel)) ?_
  refine zfmc (r_iadd h (pc := 1007) (by decide +kernel)) ?_
  refine zfmc (r_ialdQ h (pc := 1008) (by decide +kernel) hSC) ?_
  refine zfmc (r_aload_n h (pc := 1009) (kf := 0) 0 (by decide +kernel) rfl) ?_
  refine zfmc (r_iload h (pc := 1010) 4 (by decide +kernel)) ?_
  refine zfmc (r_iconst h (pc := 1012) (z := 2) (by decide +kernel) (2) (by decide +kernel)) ?_
  refine zfmc (r_iadd h (pc := 1013) (by decide +kernel)) ?_
  refine zfmc (r_ialdQ h (pc := 1014) (by decide +kernel) hSC) ?_
  refine zfmc (r_callV h (pc := 1015) (ix := 129) (by decide +kernel) ckX15 2 mcX15_next wk_5d0773dc65 wk_2210f8069f wk_a76fbb1e94 rfl) ?_
  refine zfmc (r_istore h (pc := 1018) 6 (by decide +kernel) (by decide +kernel)) ?_
  refine zfmc (r_aload_n h (pc := 1020) (kf := 2) 2 (by decide +kernel) rfl) ?_
  refine zfmc (r_callV h (pc := 1021) (ix := 76) (by decide +kernel) ckX15 0 mcX15_thrown wk_295876f299 wk_bc2877298b wk_ce551bf8fa rfl) ?_
  refine zfmc (r_iload h (pc := 1024) 5 (by decide +kernel)) ?_
  refine zfmc (r_icmp_eq h (pc := 1026) (off := 5) (by decide +kernel) 1031 (by decide +kernel)) ?_
  refine zfmc (r_iconst h (pc := 1029) (z := 0) (by decide +kernel) (0) (by decide +kernel)) ?_
  refine zfmc (r_zreturn h (pc := 1030) (by decide +kernel) rfl) ?_
  refine zfmc (r_iload h (pc := 1031) 5 (by decide +kernel)) ?_
  refine zfmc (r_if_ne h (pc := 1033) (off := 15) (by decide +kernel) 1048 (by decide +kernel)) ?_
  refine zfmc (r_aload_n h (pc := 1036) (kf := 3) 3 (by decide +kernel) rfl) ?_
  refine zfmc (r_iconst h (pc := 1037) (z := 0) (by decide +kernel) (0) (by decide +kernel)) ?_
  refine zfmc (r_laload h (pc := 1038) (by decide +kernel)) ?_
  refine zfmc (r_iload h (pc := 1039) 6 (by decide +kernel)) ?_
  refine zfmc (r_i2l h (pc := 1041) (by decide +kernel)) ?_
  refine zfmc (r_lcmp h (pc := 1042) (by decide +kernel)) ?_
  refine zfmc (r_if_eq h (pc := 1043) (off := 5) (by decide +kernel) 1048 (by decide +kernel)) ?_
  refine zfmc (r_iconst h (pc := 1046) (z := 0) (by decide +kernel) (0) (by decide +kernel)) ?_
  refine zfmc (r_zreturn h (pc := 1047) (by decide +kernel) rfl) ?_
  refine zfmc (r_goto h (pc := 1048) (off := 262) (by decide +kernel) 1310 (by decide +kernel)) ?_
  refine zfmc (r_aload_n h (pc := 1051) (kf := 1) 1 (by decide +kernel) rfl) ?_
  refine zfmc (r_aload_n h (pc := 1052) (kf := 0) 0 (by decide +kernel) rfl) ?_
  refine zfmc (r_iload h (pc := 1053) 4 (by decide +kernel)) ?_
  refine zfmc (r_iconst h (pc := 1055) (z := 1) (by decide +kernel) (1) (by decide +kernel)) ?_
  refine zfmc (r_iadd h (pc := 1056) (by decide +kernel)) ?_
  refine zfmc (r_ialdQ h (pc := 1057) (by decide +kernel) hSC) ?_
  refine zfmc (r_aload_n h (pc := 1058) (kf := 0) 0 (by decide +kernel) rfl) ?_
  refine zfmc (r_iload h (pc := 1059) 4 (by decide +kernel)) ?_
  refine zfmc (r_iconst h (pc := 1061) (z := 2) (by decide +kernel) (2) (by decide +kernel)) ?_
  refine zfmc (r_iadd h (pc := 1062) (by decide +kernel)) ?_
  refine zfmc (r_ialdQ h (pc := 1063) (by decide +kernel) hSC) ?_
  refine zfmc (r_aload_n h (pc := 1064) (kf := 3) 3 (by decide +kernel) rfl) ?_
  refine zfmc (r_callSH h hlS (pc := 1065) (ix := 130) (by decide +kernel) 4 mcL_foresee wk_3a5693cd22 wk_153301abe8) ?_
  refine zfmc (r_istore h (pc := 1068) 5 (by decide +kernel) (by decide +kernel)) ?_
  refine zfmc (r_aload_n h (pc := 1070) (kf := 2) 2 (by decide +kernel) rfl) ?_
  refine zfmc (r_aload_n h (pc := 1071) (kf := 0) 0 (by decide +kernel) rfl) ?_
  refine zfmc (r_iload h (pc := 1072) 4 (by decide +kernel)) ?_
  refine zfmc (r_iconst h (pc := 1074) (z := 1) (by decide +kernel) (1) (by decide +kernel)) ?_
  refine zfmc (r_iadd h (pc := 1075) (by decide +kernel)) ?_
  refine zfmc (r_ialdQ h (pc := 1076) (by decide +kernel) hSC) ?_
  refine zfmc (r_aload_n h (pc := 1077) (kf := 0) 0 (by decide +kernel) rfl) ?_
  refine zfmc (r_iload h (pc := 1078) 4 (by decide +kernel)) ?_
  refine zfmc (r_iconst h (pc := 1080) (z := 2) (by decide +kernel) (2) (by decide +kernel)) ?_
  refine zfmc (r_iadd h (pc := 1081) (by decide +kernel)) ?_
  refine zfmc (r_ialdQ h (pc := 1082) (by decide +kernel) hSC) ?_
  refine zfmc (r_callV h (pc := 1083) (ix := 132) (by decide +kernel) ckX15 2 mcX15_foresee wk_305c69e37c wk_2e791df7b2 wk_ea43f4a086 rfl) ?_
  refine zfmc (r_istore h (pc := 1086) 6 (by decide +kernel) (by decide +kernel)) ?_
  refine zfmc (r_aload_n h (pc := 1088) (kf := 2) 2 (by decide +kernel) rfl) ?_
  refine zfmc (r_callV h (pc := 1089) (ix := 76) (by decide +kernel) ckX15 0 mcX15_thrown wk_295876f299 wk_bc2877298b wk_ce551bf8fa rfl) ?_
  refine zfmc (r_iload h (pc := 1092) 5 (by decide +kernel)) ?_
  refine zfmc (r_icmp_eq h (pc := 1094) (off := 5) (by decide +kernel) 1099 (by decide +kernel)) ?_
  refine zfmc (r_iconst h (pc := 1097) (z := 0) (by decide +kernel) (0) (by decide +kernel)) ?_
  refine zfmc (r_zreturn h (pc := 1098) (by decide +kernel) rfl) ?_
  refine zfmc (r_iload h (pc := 1099) 5 (by decide +kernel)) ?_
  refine zfmc (r_if_ne h (pc := 1101) (off := 15) (by decide +kernel) 1116 (by decide +kernel)) ?_
  refine zfmc (r_aload_n h (pc := 1104) (kf := 3) 3 (by decide +kernel) rfl) ?_
  refine zfmc (r_iconst h (pc := 1105) (z := 0) (by decide +kernel) (0) (by decide +kernel)) ?_
  refine zfmc (r_laload h (pc := 1106) (by decide +kernel)) ?_
  refine zfmc (r_iload h (pc := 1107) 6 (by decide +kernel)) ?_
  refine zfmc (r_i2l h (pc := 1109) (by decide +kernel)) ?_
  refine zfmc (r_lcmp h (pc := 1110) (by decide +kernel)) ?_
  refine zfmc (r_if_eq h (pc := 1111) (off := 5) (by decide +kernel) 1116 (by decide +kernel)) ?_
  refine zfmc (r_iconst h (pc := 1114) (z := 0) (by decide +kernel) (0) (by decide +kernel)) ?_
  refine zfmc (r_zreturn h (pc := 1115) (by decide +kernel) rfl) ?_
  refine zfmc (r_goto h (pc := 1116) (off := 194) (by decide +kernel) 1310 (by decide +kernel)) ?_
  refine zfmc (r_aload_n h (pc := 1119) (kf := 1) 1 (by decide +kernel) rfl) ?_
  refine zfmc (r_aload_n h (pc := 1120) (kf := 0) 0 (by decide +kernel) rfl) ?_
  refine zfmc (r_iload h (pc := 1121) 4 (by decide +kernel)) ?_
  refine zfmc (r_iconst h (pc := 1123) (z := 1) (by decide +kernel) (1) (by decide +kernel)) ?_
  refine zfmc (r_iadd h (pc := 1124) (by decide +kernel)) ?_
  refine zfmc (r_ialdQ h (pc := 1125) (by decide +kernel) hSC) ?_
  refine zfmc (r_aload_n h (pc := 1126) (kf := 0) 0 (by decide +kernel) rfl) ?_
  refine zfmc (r_iload h (pc := 1127) 4 (by decide +kernel)) ?_
  refine zfmc (r_iconst h (pc := 1129) (z := 2) (by decide +kernel) (2) (by decide +kernel)) ?_
  refine zfmc (r_iadd h (pc := 1130) (by decide +kernel)) ?_
  refine zfmc (r_ialdQ h (pc := 1131) (by decide +kernel) hSC) ?_
  refine zfmc (r_aload_n h (pc := 1132) (kf := 3) 3 (by decide +kernel) rfl) ?_
  refine zfmc (r_callSH h hlS (pc := 1133) (ix := 133) (by decide +kernel) 4 mcL_missed wk_692660d7d2 wk_12eb97d2cc) ?_
  refine zfmc (r_istore h (pc := 1136) 5 (by decide +kernel) (by decide +kernel)) ?_
  refine zfmc (r_aload_n h (pc := 1138) (kf := 2) 2 (by decide +kernel) rfl) ?_
  refine zfmc (r_aload_n h (pc := 1139) (kf := 0) 0 (by decide +kernel) rfl) ?_
  refine zfmc (r_iload h (pc := 1140) 4 (by decide +kernel)) ?_
  refine zfmc (r_iconst h (pc := 1142) (z := 1) (by decide +kernel) (1) (by decide +kernel)) ?_
  refine zfmc (r_iadd h (pc := 1143) (by decide +kernel)) ?_
  refine zfmc (r_ialdQ h (pc := 1144) (by decide +kernel) hSC) ?_
  refine zfmc (r_aload_n h (pc := 1145) (kf := 0) 0 (by decide +kernel) rfl) ?_
  refine zfmc (r_iload h (pc := 1146) 4 (by decide +kernel)) ?_
  refine zfmc (r_iconst h (pc := 1148) (z := 2) (by decide +kernel) (2) (by decide +kernel)) ?_
  refine zfmc (r_iadd h (pc := 1149) (by decide +kernel)) ?_
  refine zfmc (r_ialdQ h (pc := 1150) (by decide +kernel) hSC) ?_
  refine zfmc (r_callV h (pc := 1151) (ix := 135) (by decide +kernel) ckX15 2 mcX15_missed wk_4b3908fe3b wk_5b10e88ba1 wk_01af81f16c rfl) ?_
  refine zfmc (r_istore h (pc := 1154) 6 (by decide +kernel) (by decide +kernel)) ?_
  refine zfmc (r_aload_n h (pc := 1156) (kf := 2) 2 (by decide +kernel) rfl) ?_
  refine zfmc (r_callV h (pc := 1157) (ix := 76) (by decide +kernel) ckX15 0 mcX15_thrown wk_295876f299 wk_bc2877298b wk_ce551bf8fa rfl) ?_
  refine zfmc (r_iload h (pc := 1160) 5 (by decide +kernel)) ?_
  refine zfmc (r_icmp_eq h (pc := 1162) (off := 5) (by decide +kernel) 1167 (by decide +kernel)) ?_
  refine zfmc (r_iconst h (pc := 1165) (z := 0) (by decide +kernel) (0) (by decide +kernel)) ?_
  refine zfmc (r_zreturn h (pc := 1166) (by decide +kernel) rfl) ?_
  refine zfmc (r_iload h (pc := 1167) 5 (by decide +kernel)) ?_
  refine zfmc (r_if_ne h (pc := 1169) (off := 15) (by decide +kernel) 1184 (by decide +kernel)) ?_
  refine zfmc (r_aload_n h (pc := 1172) (kf := 3) 3 (by decide +kernel) rfl) ?_
  refine zfmc (r_iconst h (pc := 1173) (z := 0) (by decide +kernel) (0) (by decide +kernel)) ?_
  refine zfmc (r_laload h (pc := 1174) (by decide +kernel)) ?_
  refine zfmc (r_iload h (pc := 1175) 6 (by decide +kernel)) ?_
  refine zfmc (r_i2l h (pc := 1177) (by decide +kernel)) ?_
  refine zfmc (r_lcmp h (pc := 1178) (by decide +kernel)) ?_
  refine zfmc (r_if_eq h (pc := 1179) (off := 5) (by decide +kernel) 1184 (by decide +kernel)) ?_
  refine zfmc (r_iconst h (pc := 1182) (z := 0) (by decide +kernel) (0) (by decide +kernel)) ?_
  refine zfmc (r_zreturn h (pc := 1183) (by decide +kernel) rfl) ?_
  refine zfmc (r_goto h (pc := 1184) (off := 126) (by decide +kernel) 1310 (by decide +kernel)) ?_
  refine zfmc (r_aload_n h (pc := 1187) (kf := 1) 1 (by decide +kernel) rfl) ?_
  refine zfmc (r_aload_n h (pc := 1188) (kf := 0) 0 (by decide +kernel) rfl) ?_
  refine zfmc (r_iload h (pc := 1189) 4 (by decide +kernel)) ?_
  refine zfmc (r_iconst h (pc := 1191) (z := 1) (by decide +kernel) (1) (by decide +kernel)) ?_
  refine zfmc (r_iadd h (pc := 1192) (by decide +kernel)) ?_
  refine zfmc (r_ialdQ h (pc := 1193) (by decide +kernel) hSC) ?_
  refine zfmc (r_aload_n h (pc := 1194) (kf := 0) 0 (by decide +kernel) rfl) ?_
  refine zfmc (r_iload h (pc := 1195) 4 (by decide +kernel)) ?_
  refine zfmc (r_iconst h (pc := 1197) (z := 2) (by decide +kernel) (2) (by decide +kernel)) ?_
  refine zfmc (r_iadd h (pc := 1198) (by decide +kernel)) ?_
  refine zfmc (r_ialdQ h (pc := 1199) (by decide +kernel) hSC) ?_
  refine zfmc (r_aload_n h (pc := 1200) (kf := 3) 3 (by decide +kernel) rfl) ?_
  refine zfmc (r_callSH h hlS (pc := 1201) (ix := 136) (by decide +kernel) 4 mcL_advise wk_e8c54ef136 wk_f1c9b8c94d) ?_
  refine zfmc (r_istore h (pc := 1204) 5 (by decide +kernel) (by decide +kernel)) ?_
  refine zfmc (r_aload_n h (pc := 1206) (kf := 2) 2 (by decide +kernel) rfl) ?_
  refine zfmc (r_aload_n h (pc := 1207) (kf := 0) 0 (by decide +kernel) rfl) ?_
  refine zfmc (r_iload h (pc := 1208) 4 (by decide +kernel)) ?_
  refine zfmc (r_iconst h (pc := 1210) (z := 1) (by decide +kernel) (1) (by decide +kernel)) ?_
  refine zfmc (r_iadd h (pc := 1211) (by decide +kernel)) ?_
  refine zfmc (r_ialdQ h (pc := 1212) (by decide +kernel) hSC) ?_
  refine zfmc (r_aload_n h (pc := 1213) (kf := 0) 0 (by decide +kernel) rfl) ?_
  refine zfmc (r_iload h (pc := 1214) 4 (by decide +kernel)) ?_
  refine zfmc (r_iconst h (pc := 1216) (z := 2) (by decide +kernel) (2) (by decide +kernel)) ?_
  refine zfmc (r_iadd h (pc := 1217) (by decide +kernel)) ?_
  refine zfmc (r_ialdQ h (pc := 1218) (by decide +kernel) hSC) ?_
  refine zfmc (r_callV h (pc := 1219) (ix := 138) (by decide +kernel) ckX15 2 mcX15_advise wk_082cd6e7cd wk_dbe3f9d9c1 wk_6f153f6ac6 rfl) ?_
  refine zfmc (r_istore h (pc := 1222) 6 (by decide +kernel) (by decide +kernel)) ?_
  refine zfmc (r_aload_n h (pc := 1224) (kf := 2) 2 (by decide +kernel) rfl) ?_
  refine zfmc (r_callV h (pc := 1225) (ix := 76) (by decide +kernel) ckX15 0 mcX15_thrown wk_295876f299 wk_bc2877298b wk_ce551bf8fa rfl) ?_
  refine zfmc (r_iload h (pc := 1228) 5 (by decide +kernel)) ?_
  refine zfmc (r_icmp_eq h (pc := 1230) (off := 5) (by decide +kernel) 1235 (by decide +kernel)) ?_
  refine zfmc (r_iconst h (pc := 1233) (z := 0) (by decide +kernel) (0) (by decide +kernel)) ?_
  refine zfmc (r_zreturn h (pc := 1234) (by decide +kernel) rfl) ?_
  refine zfmc (r_iload h (pc := 1235) 5 (by decide +kernel)) ?_
  refine zfmc (r_if_ne h (pc := 1237) (off := 15) (by decide +kernel) 1252 (by decide +kernel)) ?_
  refine zfmc (r_aload_n h (pc := 1240) (kf := 3) 3 (by decide +kernel) rfl) ?_
  refine zfmc (r_iconst h (pc := 1241) (z := 0) (by decide +kernel) (0) (by decide +kernel)) ?_
  refine zfmc (r_laload h (pc := 1242) (by decide +kernel)) ?_
  refine zfmc (r_iload h (pc := 1243) 6 (by decide +kernel)) ?_
  refine zfmc (r_i2l h (pc := 1245) (by decide +kernel)) ?_
  refine zfmc (r_lcmp h (pc := 1246) (by decide +kernel)) ?_
  refine zfmc (r_if_eq h (pc := 1247) (off := 5) (by decide +kernel) 1252 (by decide +kernel)) ?_
  refine zfmc (r_iconst h (pc := 1250) (z := 0) (by decide +kernel) (0) (by decide +kernel)) ?_
  refine zfmc (r_zreturn h (pc := 1251) (by decide +kernel) rfl) ?_
  refine zfmc (r_goto h (pc := 1252) (off := 58) (by decide +kernel) 1310 (by decide +kernel)) ?_
  refine zfmc (r_aload_n h (pc := 1255) (kf := 1) 1 (by decide +kernel) rfl) ?_
  refine zfmc (r_callV h (pc := 1256) (ix := 139) (by decide +kernel) ckX12 0 mcX12_mean wk_0299f5f2ec wk_f7c1ec8a37 wk_9fb39dba9b rfl) ?_
  refine zfmc (r_dstore h (pc := 1259) 5 (by decide +kernel) (by decide +kernel)) ?_
  refine zfmc (r_aload_n h (pc := 1261) (kf := 2) 2 (by decide +kernel) rfl) ?_
  refine zfmc (r_callV h (pc := 1262) (ix := 143) (by decide +kernel) ckX15 0 mcX15_mean wk_edce454435 wk_8d7d0d00af wk_c7fb64b3b2 rfl) ?_
  refine zfmc (r_dstore h (pc := 1265) 7 (by decide +kernel) (by decide +kernel)) ?_
  refine zfmc (r_dload h (pc := 1267) 5 (by decide +kernel)) ?_
  refine zfmc (r_dload h (pc := 1269) 7 (by decide +kernel)) ?_
  refine zfmc (r_dcmp h (pc := 1271) (op := .l) (by decide +kernel)) ?_
  refine zfmc (r_if_eq h (pc := 1272) (off := 21) (by decide +kernel) 1293 (by decide +kernel)) ?_
  refine zfmc (r_dload h (pc := 1275) 5 (by decide +kernel)) ?_
  refine zfmc (r_dload h (pc := 1277) 5 (by decide +kernel)) ?_
  refine zfmc (r_dcmp h (pc := 1279) (op := .l) (by decide +kernel)) ?_
  refine zfmc (r_if_eq h (pc := 1280) (off := 11) (by decide +kernel) 1291 (by decide +kernel)) ?_
  refine zfmc (r_dload h (pc := 1283) 7 (by decide +kernel)) ?_
  refine zfmc (r_dload h (pc := 1285) 7 (by decide +kernel)) ?_
  refine zfmc (r_dcmp h (pc := 1287) (op := .l) (by decide +kernel)) ?_
  refine zfmc (r_if_ne h (pc := 1288) (off := 5) (by decide +kernel) 1293 (by decide +kernel)) ?_
  refine zfmc (r_iconst h (pc := 1291) (z := 0) (by decide +kernel) (0) (by decide +kernel)) ?_
  refine zfmc (r_zreturn h (pc := 1292) (by decide +kernel) rfl) ?_
  refine zfmc (r_goto h (pc := 1293) (off := 17) (by decide +kernel) 1310 (by decide +kernel)) ?_
  refine zfmc (r_aload_n h (pc := 1296) (kf := 1) 1 (by decide +kernel) rfl) ?_
  refine zfmc (r_callVC h hlS (pc := 1297) (ix := 144) (by decide +kernel) ckX12 0 mcX12_digest wk_d42988131b wk_c2e9f59b59 wk_59fca7ea0e rfl (hcs9 := []) (fun q hq => absurd hq List.not_mem_nil)) ?_
  refine zfmc (r_aload_n h (pc := 1300) (kf := 2) 2 (by decide +kernel) rfl) ?_
  refine zfmc (r_callV h (pc := 1301) (ix := 148) (by decide +kernel) ckX15 0 mcX15_digest wk_688eb496cd wk_4e284502cb wk_6d8fcced90 rfl) ?_
  refine zfmc (r_lcmp h (pc := 1304) (by decide +kernel)) ?_
  refine zfmc (r_if_eq h (pc := 1305) (off := 5) (by decide +kernel) 1310 (by decide +kernel)) ?_
  refine zfmc (r_iconst h (pc := 1308) (z := 0) (by decide +kernel) (0) (by decide +kernel)) ?_
  refine zfmc (r_zreturn h (pc := 1309) (by decide +kernel) rfl) ?_
  refine zfmc (r_iinc h (pc := 1310) 4 (z := 6) (by decide +kernel) (6) (by decide +kernel) (by decide +kernel)) ?_
  refine zfmc (r_goto h (pc := 1313) (off := -1290) (by decide +kernel) 23 (by decide +kernel)) ?_
  refine zfmc (r_iconst h (pc := 1316) (z := 1) (by decide +kernel) (1) (by decide +kernel)) ?_
  refine zfmc (r_zreturn h (pc := 1317) (by decide +kernel) rfl) ?_
  exact zfm0)
section
variable {E : ZEX} {d mc ms N : Nat} {xs : Nat → Int32} {cut : Nat → Bool} {G : ZCont} {R : ZRtn} {T : ZTT} {Z : Nat → ZCont}
theorem f_L_feed_0 (hZ : ZRN (ztb (tb_L_feed E d mc ms)) cut G R T Z) (f : Nat) (L : ZLV) (st : List Value) (σ : ZHp) (n k w : Nat) : Z (f + 1) 0 L st σ n k w = s_aload 6 2 L st σ n k w (zk1 cut G (Z f)) G R T := zrs hZ rfl f L st σ n k w
theorem f_L_feed_2 (hZ : ZRN (ztb (tb_L_feed E d mc ms)) cut G R T Z) (f : Nat) (L : ZLV) (st : List Value) (σ : ZHp) (n k w : Nat) : Z (f + 1) 2 L st σ n k w = s_const (.int (0)) 3 L st σ n k w (zk1 cut G (Z f)) G R T := zrs hZ rfl f L st σ n k w
theorem f_L_feed_3 (hZ : ZRN (ztb (tb_L_feed E d mc ms)) cut G R T Z) (f : Nat) (L : ZLV) (st : List Value) (σ : ZHp) (n k w : Nat) : Z (f + 1) 3 L st σ n k w = s_aload 0 4 L st σ n k w (zk1 cut G (Z f)) G R T := zrs hZ rfl f L st σ n k w
theorem f_L_feed_4 (hZ : ZRN (ztb (tb_L_feed E d mc ms)) cut G R T Z) (f : Nat) (L : ZLV) (st : List Value) (σ : ZHp) (n k w : Nat) : Z (f + 1) 4 L st σ n k w = s_iload 1 5 L st σ n k w (zk1 cut G (Z f)) G R T := zrs hZ rfl f L st σ n k w
theorem f_L_feed_5 (hZ : ZRN (ztb (tb_L_feed E d mc ms)) cut G R T Z) (f : Nat) (L : ZLV) (st : List Value) (σ : ZHp) (n k w : Nat) : Z (f + 1) 5 L st σ n k w = s_iload 2 6 L st σ n k w (zk1 cut G (Z f)) G R T := zrs hZ rfl f L st σ n k w
theorem f_L_feed_6 (hZ : ZRN (ztb (tb_L_feed E d mc ms)) cut G R T Z) (f : Nat) (L : ZLV) (st : List Value) (σ : ZHp) (n k w : Nat) : Z (f + 1) 6 L st σ n k w = s_iload 3 7 L st σ n k w (zk1 cut G (Z f)) G R T := zrs hZ rfl f L st σ n k w
theorem f_L_feed_7 (hZ : ZRN (ztb (tb_L_feed E d mc ms)) cut G R T Z) (f : Nat) (L : ZLV) (st : List Value) (σ : ZHp) (n k w : Nat) : Z (f + 1) 7 L st σ n k w = s_iload 4 9 L st σ n k w (zk1 cut G (Z f)) G R T := zrs hZ rfl f L st σ n k w
theorem f_L_feed_9 (hZ : ZRN (ztb (tb_L_feed E d mc ms)) cut G R T Z) (f : Nat) (L : ZLV) (st : List Value) (σ : ZHp) (n k w : Nat) : Z (f + 1) 9 L st σ n k w = s_iload 5 11 L st σ n k w (zk1 cut G (Z f)) G R T := zrs hZ rfl f L st σ n k w
theorem f_L_feed_11 (hZ : ZRN (ztb (tb_L_feed E d mc ms)) cut G R T Z) (f : Nat) (L : ZLV) (st : List Value) (σ : ZHp) (n k w : Nat) : Z (f + 1) 11 L st σ n k w = s_callVC E d mc ms 11 MX12_feed 5 14 [("java/lang/IllegalStateException", 19)] L st σ n k w (zk1 cut G (Z f)) G R T := zrs hZ rfl f L st σ n k w
theorem f_L_feed_14 (hZ : ZRN (ztb (tb_L_feed E d mc ms)) cut G R T Z) (f : Nat) (L : ZLV) (st : List Value) (σ : ZHp) (n k w : Nat) : Z (f + 1) 14 L st σ n k w = s_i2l 15 L st σ n k w (zk1 cut G (Z f)) G R T := zrs hZ rfl f L st σ n k w
theorem f_L_feed_15 (hZ : ZRN (ztb (tb_L_feed E d mc ms)) cut G R T Z) (f : Nat) (L : ZLV) (st : List Value) (σ : ZHp) (n k w : Nat) : Z (f + 1) 15 L st σ n k w = s_lastore E 16 L st σ n k w (zk1 cut G (Z f)) G R T := zrs hZ rfl f L st σ n k w
theorem f_L_feed_16 (hZ : ZRN (ztb (tb_L_feed E d mc ms)) cut G R T Z) (f : Nat) (L : ZLV) (st : List Value) (σ : ZHp) (n k w : Nat) : Z (f + 1) 16 L st σ n k w = s_goto 23 L st σ n k w (zk1 cut G (Z f)) G R T := zrs hZ rfl f L st σ n k w
theorem f_L_feed_19 (hZ : ZRN (ztb (tb_L_feed E d mc ms)) cut G R T Z) (f : Nat) (L : ZLV) (st : List Value) (σ : ZHp) (n k w : Nat) : Z (f + 1) 19 L st σ n k w = s_astore 7 21 L st σ n k w (zk1 cut G (Z f)) G R T := zrs hZ rfl f L st σ n k w
theorem f_L_feed_21 (hZ : ZRN (ztb (tb_L_feed E d mc ms)) cut G R T Z) (f : Nat) (L : ZLV) (st : List Value) (σ : ZHp) (n k w : Nat) : Z (f + 1) 21 L st σ n k w = s_const (.int (1)) 22 L st σ n k w (zk1 cut G (Z f)) G R T := zrs hZ rfl f L st σ n k w
theorem f_L_feed_22 (hZ : ZRN (ztb (tb_L_feed E d mc ms)) cut G R T Z) (f : Nat) (L : ZLV) (st : List Value) (σ : ZHp) (n k w : Nat) : Z (f + 1) 22 L st σ n k w = s_ireturn L st σ n k w (zk1 cut G (Z f)) G R T := zrs hZ rfl f L st σ n k w
theorem f_L_feed_23 (hZ : ZRN (ztb (tb_L_feed E d mc ms)) cut G R T Z) (f : Nat) (L : ZLV) (st : List Value) (σ : ZHp) (n k w : Nat) : Z (f + 1) 23 L st σ n k w = s_const (.int (0)) 24 L st σ n k w (zk1 cut G (Z f)) G R T := zrs hZ rfl f L st σ n k w
theorem f_L_feed_24 (hZ : ZRN (ztb (tb_L_feed E d mc ms)) cut G R T Z) (f : Nat) (L : ZLV) (st : List Value) (σ : ZHp) (n k w : Nat) : Z (f + 1) 24 L st σ n k w = s_ireturn L st σ n k w (zk1 cut G (Z f)) G R T := zrs hZ rfl f L st σ n k w
theorem f_L_trim_0 (hZ : ZRN (ztb (tb_L_trim E d mc ms)) cut G R T Z) (f : Nat) (L : ZLV) (st : List Value) (σ : ZHp) (n k w : Nat) : Z (f + 1) 0 L st σ n k w = s_aload 2 1 L st σ n k w (zk1 cut G (Z f)) G R T := zrs hZ rfl f L st σ n k w
theorem f_L_trim_1 (hZ : ZRN (ztb (tb_L_trim E d mc ms)) cut G R T Z) (f : Nat) (L : ZLV) (st : List Value) (σ : ZHp) (n k w : Nat) : Z (f + 1) 1 L st σ n k w = s_const (.int (0)) 2 L st σ n k w (zk1 cut G (Z f)) G R T := zrs hZ rfl f L st σ n k w
theorem f_L_trim_2 (hZ : ZRN (ztb (tb_L_trim E d mc ms)) cut G R T Z) (f : Nat) (L : ZLV) (st : List Value) (σ : ZHp) (n k w : Nat) : Z (f + 1) 2 L st σ n k w = s_aload 0 3 L st σ n k w (zk1 cut G (Z f)) G R T := zrs hZ rfl f L st σ n k w
theorem f_L_trim_3 (hZ : ZRN (ztb (tb_L_trim E d mc ms)) cut G R T Z) (f : Nat) (L : ZLV) (st : List Value) (σ : ZHp) (n k w : Nat) : Z (f + 1) 3 L st σ n k w = s_iload 1 4 L st σ n k w (zk1 cut G (Z f)) G R T := zrs hZ rfl f L st σ n k w
theorem f_L_trim_4 (hZ : ZRN (ztb (tb_L_trim E d mc ms)) cut G R T Z) (f : Nat) (L : ZLV) (st : List Value) (σ : ZHp) (n k w : Nat) : Z (f + 1) 4 L st σ n k w = s_callVC E d mc ms 11 MX12_trim 1 7 [("java/lang/IllegalArgumentException", 12)] L st σ n k w (zk1 cut G (Z f)) G R T := zrs hZ rfl f L st σ n k w
theorem f_L_trim_7 (hZ : ZRN (ztb (tb_L_trim E d mc ms)) cut G R T Z) (f : Nat) (L : ZLV) (st : List Value) (σ : ZHp) (n k w : Nat) : Z (f + 1) 7 L st σ n k w = s_i2l 8 L st σ n k w (zk1 cut G (Z f)) G R T := zrs hZ rfl f L st σ n k w
theorem f_L_trim_8 (hZ : ZRN (ztb (tb_L_trim E d mc ms)) cut G R T Z) (f : Nat) (L : ZLV) (st : List Value) (σ : ZHp) (n k w : Nat) : Z (f + 1) 8 L st σ n k w = s_lastore E 9 L st σ n k w (zk1 cut G (Z f)) G R T := zrs hZ rfl f L st σ n k w
theorem f_L_trim_9 (hZ : ZRN (ztb (tb_L_trim E d mc ms)) cut G R T Z) (f : Nat) (L : ZLV) (st : List Value) (σ : ZHp) (n k w : Nat) : Z (f + 1) 9 L st σ n k w = s_goto 15 L st σ n k w (zk1 cut G (Z f)) G R T := zrs hZ rfl f L st σ n k w
theorem f_L_trim_12 (hZ : ZRN (ztb (tb_L_trim E d mc ms)) cut G R T Z) (f : Nat) (L : ZLV) (st : List Value) (σ : ZHp) (n k w : Nat) : Z (f + 1) 12 L st σ n k w = s_astore 3 13 L st σ n k w (zk1 cut G (Z f)) G R T := zrs hZ rfl f L st σ n k w
theorem f_L_trim_13 (hZ : ZRN (ztb (tb_L_trim E d mc ms)) cut G R T Z) (f : Nat) (L : ZLV) (st : List Value) (σ : ZHp) (n k w : Nat) : Z (f + 1) 13 L st σ n k w = s_const (.int (1)) 14 L st σ n k w (zk1 cut G (Z f)) G R T := zrs hZ rfl f L st σ n k w
theorem f_L_trim_14 (hZ : ZRN (ztb (tb_L_trim E d mc ms)) cut G R T Z) (f : Nat) (L : ZLV) (st : List Value) (σ : ZHp) (n k w : Nat) : Z (f + 1) 14 L st σ n k w = s_ireturn L st σ n k w (zk1 cut G (Z f)) G R T := zrs hZ rfl f L st σ n k w
theorem f_L_trim_15 (hZ : ZRN (ztb (tb_L_trim E d mc ms)) cut G R T Z) (f : Nat) (L : ZLV) (st : List Value) (σ : ZHp) (n k w : Nat) : Z (f + 1) 15 L st σ n k w = s_const (.int (0)) 16 L st σ n k w (zk1 cut G (Z f)) G R T := zrs hZ rfl f L st σ n k w
theorem f_L_trim_16 (hZ : ZRN (ztb (tb_L_trim E d mc ms)) cut G R T Z) (f : Nat) (L : ZLV) (st : List Value) (σ : ZHp) (n k w : Nat) : Z (f + 1) 16 L st σ n k w = s_ireturn L st σ n k w (zk1 cut G (Z f)) G R T := zrs hZ rfl f L st σ n k w
theorem f_L_count_0 (hZ : ZRN (ztb (tb_L_count E d mc ms)) cut G R T Z) (f : Nat) (L : ZLV) (st : List Value) (σ : ZHp) (n k w : Nat) : Z (f + 1) 0 L st σ n k w = s_aload 2 1 L st σ n k w (zk1 cut G (Z f)) G R T := zrs hZ rfl f L st σ n k w
theorem f_L_count_1 (hZ : ZRN (ztb (tb_L_count E d mc ms)) cut G R T Z) (f : Nat) (L : ZLV) (st : List Value) (σ : ZHp) (n k w : Nat) : Z (f + 1) 1 L st σ n k w = s_const (.int (0)) 2 L st σ n k w (zk1 cut G (Z f)) G R T := zrs hZ rfl f L st σ n k w
theorem f_L_count_2 (hZ : ZRN (ztb (tb_L_count E d mc ms)) cut G R T Z) (f : Nat) (L : ZLV) (st : List Value) (σ : ZHp) (n k w : Nat) : Z (f + 1) 2 L st σ n k w = s_aload 0 3 L st σ n k w (zk1 cut G (Z f)) G R T := zrs hZ rfl f L st σ n k w
theorem f_L_count_3 (hZ : ZRN (ztb (tb_L_count E d mc ms)) cut G R T Z) (f : Nat) (L : ZLV) (st : List Value) (σ : ZHp) (n k w : Nat) : Z (f + 1) 3 L st σ n k w = s_iload 1 4 L st σ n k w (zk1 cut G (Z f)) G R T := zrs hZ rfl f L st σ n k w
theorem f_L_count_4 (hZ : ZRN (ztb (tb_L_count E d mc ms)) cut G R T Z) (f : Nat) (L : ZLV) (st : List Value) (σ : ZHp) (n k w : Nat) : Z (f + 1) 4 L st σ n k w = s_callVC E d mc ms 11 MX12_count 1 7 [("java/lang/IndexOutOfBoundsException", 12)] L st σ n k w (zk1 cut G (Z f)) G R T := zrs hZ rfl f L st σ n k w
theorem f_L_count_7 (hZ : ZRN (ztb (tb_L_count E d mc ms)) cut G R T Z) (f : Nat) (L : ZLV) (st : List Value) (σ : ZHp) (n k w : Nat) : Z (f + 1) 7 L st σ n k w = s_i2l 8 L st σ n k w (zk1 cut G (Z f)) G R T := zrs hZ rfl f L st σ n k w
theorem f_L_count_8 (hZ : ZRN (ztb (tb_L_count E d mc ms)) cut G R T Z) (f : Nat) (L : ZLV) (st : List Value) (σ : ZHp) (n k w : Nat) : Z (f + 1) 8 L st σ n k w = s_lastore E 9 L st σ n k w (zk1 cut G (Z f)) G R T := zrs hZ rfl f L st σ n k w
theorem f_L_count_9 (hZ : ZRN (ztb (tb_L_count E d mc ms)) cut G R T Z) (f : Nat) (L : ZLV) (st : List Value) (σ : ZHp) (n k w : Nat) : Z (f + 1) 9 L st σ n k w = s_goto 15 L st σ n k w (zk1 cut G (Z f)) G R T := zrs hZ rfl f L st σ n k w
theorem f_L_count_12 (hZ : ZRN (ztb (tb_L_count E d mc ms)) cut G R T Z) (f : Nat) (L : ZLV) (st : List Value) (σ : ZHp) (n k w : Nat) : Z (f + 1) 12 L st σ n k w = s_astore 3 13 L st σ n k w (zk1 cut G (Z f)) G R T := zrs hZ rfl f L st σ n k w
theorem f_L_count_13 (hZ : ZRN (ztb (tb_L_count E d mc ms)) cut G R T Z) (f : Nat) (L : ZLV) (st : List Value) (σ : ZHp) (n k w : Nat) : Z (f + 1) 13 L st σ n k w = s_const (.int (1)) 14 L st σ n k w (zk1 cut G (Z f)) G R T := zrs hZ rfl f L st σ n k w
theorem f_L_count_14 (hZ : ZRN (ztb (tb_L_count E d mc ms)) cut G R T Z) (f : Nat) (L : ZLV) (st : List Value) (σ : ZHp) (n k w : Nat) : Z (f + 1) 14 L st σ n k w = s_ireturn L st σ n k w (zk1 cut G (Z f)) G R T := zrs hZ rfl f L st σ n k w
theorem f_L_count_15 (hZ : ZRN (ztb (tb_L_count E d mc ms)) cut G R T Z) (f : Nat) (L : ZLV) (st : List Value) (σ : ZHp) (n k w : Nat) : Z (f + 1) 15 L st σ n k w = s_const (.int (0)) 16 L st σ n k w (zk1 cut G (Z f)) G R T := zrs hZ rfl f L st σ n k w
theorem f_L_count_16 (hZ : ZRN (ztb (tb_L_count E d mc ms)) cut G R T Z) (f : Nat) (L : ZLV) (st : List Value) (σ : ZHp) (n k w : Nat) : Z (f + 1) 16 L st σ n k w = s_ireturn L st σ n k w (zk1 cut G (Z f)) G R T := zrs hZ rfl f L st σ n k w
theorem f_L_card_0 (hZ : ZRN (ztb (tb_L_card E d mc ms)) cut G R T Z) (f : Nat) (L : ZLV) (st : List Value) (σ : ZHp) (n k w : Nat) : Z (f + 1) 0 L st σ n k w = s_aload 3 1 L st σ n k w (zk1 cut G (Z f)) G R T := zrs hZ rfl f L st σ n k w
theorem f_L_card_1 (hZ : ZRN (ztb (tb_L_card E d mc ms)) cut G R T Z) (f : Nat) (L : ZLV) (st : List Value) (σ : ZHp) (n k w : Nat) : Z (f + 1) 1 L st σ n k w = s_const (.int (0)) 2 L st σ n k w (zk1 cut G (Z f)) G R T := zrs hZ rfl f L st σ n k w
theorem f_L_card_2 (hZ : ZRN (ztb (tb_L_card E d mc ms)) cut G R T Z) (f : Nat) (L : ZLV) (st : List Value) (σ : ZHp) (n k w : Nat) : Z (f + 1) 2 L st σ n k w = s_aload 0 3 L st σ n k w (zk1 cut G (Z f)) G R T := zrs hZ rfl f L st σ n k w
theorem f_L_card_3 (hZ : ZRN (ztb (tb_L_card E d mc ms)) cut G R T Z) (f : Nat) (L : ZLV) (st : List Value) (σ : ZHp) (n k w : Nat) : Z (f + 1) 3 L st σ n k w = s_iload 1 4 L st σ n k w (zk1 cut G (Z f)) G R T := zrs hZ rfl f L st σ n k w
theorem f_L_card_4 (hZ : ZRN (ztb (tb_L_card E d mc ms)) cut G R T Z) (f : Nat) (L : ZLV) (st : List Value) (σ : ZHp) (n k w : Nat) : Z (f + 1) 4 L st σ n k w = s_iload 2 5 L st σ n k w (zk1 cut G (Z f)) G R T := zrs hZ rfl f L st σ n k w
theorem f_L_card_5 (hZ : ZRN (ztb (tb_L_card E d mc ms)) cut G R T Z) (f : Nat) (L : ZLV) (st : List Value) (σ : ZHp) (n k w : Nat) : Z (f + 1) 5 L st σ n k w = s_callVC E d mc ms 11 MX12_card 2 8 [("java/lang/IndexOutOfBoundsException", 13)] L st σ n k w (zk1 cut G (Z f)) G R T := zrs hZ rfl f L st σ n k w
theorem f_L_card_8 (hZ : ZRN (ztb (tb_L_card E d mc ms)) cut G R T Z) (f : Nat) (L : ZLV) (st : List Value) (σ : ZHp) (n k w : Nat) : Z (f + 1) 8 L st σ n k w = s_i2l 9 L st σ n k w (zk1 cut G (Z f)) G R T := zrs hZ rfl f L st σ n k w
theorem f_L_card_9 (hZ : ZRN (ztb (tb_L_card E d mc ms)) cut G R T Z) (f : Nat) (L : ZLV) (st : List Value) (σ : ZHp) (n k w : Nat) : Z (f + 1) 9 L st σ n k w = s_lastore E 10 L st σ n k w (zk1 cut G (Z f)) G R T := zrs hZ rfl f L st σ n k w
theorem f_L_card_10 (hZ : ZRN (ztb (tb_L_card E d mc ms)) cut G R T Z) (f : Nat) (L : ZLV) (st : List Value) (σ : ZHp) (n k w : Nat) : Z (f + 1) 10 L st σ n k w = s_goto 17 L st σ n k w (zk1 cut G (Z f)) G R T := zrs hZ rfl f L st σ n k w
theorem f_L_card_13 (hZ : ZRN (ztb (tb_L_card E d mc ms)) cut G R T Z) (f : Nat) (L : ZLV) (st : List Value) (σ : ZHp) (n k w : Nat) : Z (f + 1) 13 L st σ n k w = s_astore 4 15 L st σ n k w (zk1 cut G (Z f)) G R T := zrs hZ rfl f L st σ n k w
theorem f_L_card_15 (hZ : ZRN (ztb (tb_L_card E d mc ms)) cut G R T Z) (f : Nat) (L : ZLV) (st : List Value) (σ : ZHp) (n k w : Nat) : Z (f + 1) 15 L st σ n k w = s_const (.int (1)) 16 L st σ n k w (zk1 cut G (Z f)) G R T := zrs hZ rfl f L st σ n k w
theorem f_L_card_16 (hZ : ZRN (ztb (tb_L_card E d mc ms)) cut G R T Z) (f : Nat) (L : ZLV) (st : List Value) (σ : ZHp) (n k w : Nat) : Z (f + 1) 16 L st σ n k w = s_ireturn L st σ n k w (zk1 cut G (Z f)) G R T := zrs hZ rfl f L st σ n k w
theorem f_L_card_17 (hZ : ZRN (ztb (tb_L_card E d mc ms)) cut G R T Z) (f : Nat) (L : ZLV) (st : List Value) (σ : ZHp) (n k w : Nat) : Z (f + 1) 17 L st σ n k w = s_const (.int (0)) 18 L st σ n k w (zk1 cut G (Z f)) G R T := zrs hZ rfl f L st σ n k w
theorem f_L_card_18 (hZ : ZRN (ztb (tb_L_card E d mc ms)) cut G R T Z) (f : Nat) (L : ZLV) (st : List Value) (σ : ZHp) (n k w : Nat) : Z (f + 1) 18 L st σ n k w = s_ireturn L st σ n k w (zk1 cut G (Z f)) G R T := zrs hZ rfl f L st σ n k w
theorem f_L_merchant_0 (hZ : ZRN (ztb (tb_L_merchant E d mc ms)) cut G R T Z) (f : Nat) (L : ZLV) (st : List Value) (σ : ZHp) (n k w : Nat) : Z (f + 1) 0 L st σ n k w = s_aload 3 1 L st σ n k w (zk1 cut G (Z f)) G R T := zrs hZ rfl f L st σ n k w
theorem f_L_merchant_1 (hZ : ZRN (ztb (tb_L_merchant E d mc ms)) cut G R T Z) (f : Nat) (L : ZLV) (st : List Value) (σ : ZHp) (n k w : Nat) : Z (f + 1) 1 L st σ n k w = s_const (.int (0)) 2 L st σ n k w (zk1 cut G (Z f)) G R T := zrs hZ rfl f L st σ n k w
theorem f_L_merchant_2 (hZ : ZRN (ztb (tb_L_merchant E d mc ms)) cut G R T Z) (f : Nat) (L : ZLV) (st : List Value) (σ : ZHp) (n k w : Nat) : Z (f + 1) 2 L st σ n k w = s_aload 0 3 L st σ n k w (zk1 cut G (Z f)) G R T := zrs hZ rfl f L st σ n k w
theorem f_L_merchant_3 (hZ : ZRN (ztb (tb_L_merchant E d mc ms)) cut G R T Z) (f : Nat) (L : ZLV) (st : List Value) (σ : ZHp) (n k w : Nat) : Z (f + 1) 3 L st σ n k w = s_iload 1 4 L st σ n k w (zk1 cut G (Z f)) G R T := zrs hZ rfl f L st σ n k w
theorem f_L_merchant_4 (hZ : ZRN (ztb (tb_L_merchant E d mc ms)) cut G R T Z) (f : Nat) (L : ZLV) (st : List Value) (σ : ZHp) (n k w : Nat) : Z (f + 1) 4 L st σ n k w = s_iload 2 5 L st σ n k w (zk1 cut G (Z f)) G R T := zrs hZ rfl f L st σ n k w
theorem f_L_merchant_5 (hZ : ZRN (ztb (tb_L_merchant E d mc ms)) cut G R T Z) (f : Nat) (L : ZLV) (st : List Value) (σ : ZHp) (n k w : Nat) : Z (f + 1) 5 L st σ n k w = s_callVC E d mc ms 11 MX12_merchant 2 8 [("java/lang/IndexOutOfBoundsException", 13)] L st σ n k w (zk1 cut G (Z f)) G R T := zrs hZ rfl f L st σ n k w
theorem f_L_merchant_8 (hZ : ZRN (ztb (tb_L_merchant E d mc ms)) cut G R T Z) (f : Nat) (L : ZLV) (st : List Value) (σ : ZHp) (n k w : Nat) : Z (f + 1) 8 L st σ n k w = s_i2l 9 L st σ n k w (zk1 cut G (Z f)) G R T := zrs hZ rfl f L st σ n k w
theorem f_L_merchant_9 (hZ : ZRN (ztb (tb_L_merchant E d mc ms)) cut G R T Z) (f : Nat) (L : ZLV) (st : List Value) (σ : ZHp) (n k w : Nat) : Z (f + 1) 9 L st σ n k w = s_lastore E 10 L st σ n k w (zk1 cut G (Z f)) G R T := zrs hZ rfl f L st σ n k w
theorem f_L_merchant_10 (hZ : ZRN (ztb (tb_L_merchant E d mc ms)) cut G R T Z) (f : Nat) (L : ZLV) (st : List Value) (σ : ZHp) (n k w : Nat) : Z (f + 1) 10 L st σ n k w = s_goto 17 L st σ n k w (zk1 cut G (Z f)) G R T := zrs hZ rfl f L st σ n k w
theorem f_L_merchant_13 (hZ : ZRN (ztb (tb_L_merchant E d mc ms)) cut G R T Z) (f : Nat) (L : ZLV) (st : List Value) (σ : ZHp) (n k w : Nat) : Z (f + 1) 13 L st σ n k w = s_astore 4 15 L st σ n k w (zk1 cut G (Z f)) G R T := zrs hZ rfl f L st σ n k w
theorem f_L_merchant_15 (hZ : ZRN (ztb (tb_L_merchant E d mc ms)) cut G R T Z) (f : Nat) (L : ZLV) (st : List Value) (σ : ZHp) (n k w : Nat) : Z (f + 1) 15 L st σ n k w = s_const (.int (1)) 16 L st σ n k w (zk1 cut G (Z f)) G R T := zrs hZ rfl f L st σ n k w
theorem f_L_merchant_16 (hZ : ZRN (ztb (tb_L_merchant E d mc ms)) cut G R T Z) (f : Nat) (L : ZLV) (st : List Value) (σ : ZHp) (n k w : Nat) : Z (f + 1) 16 L st σ n k w = s_ireturn L st σ n k w (zk1 cut G (Z f)) G R T := zrs hZ rfl f L st σ n k w
theorem f_L_merchant_17 (hZ : ZRN (ztb (tb_L_merchant E d mc ms)) cut G R T Z) (f : Nat) (L : ZLV) (st : List Value) (σ : ZHp) (n k w : Nat) : Z (f + 1) 17 L st σ n k w = s_const (.int (0)) 18 L st σ n k w (zk1 cut G (Z f)) G R T := zrs hZ rfl f L st σ n k w
theorem f_L_merchant_18 (hZ : ZRN (ztb (tb_L_merchant E d mc ms)) cut G R T Z) (f : Nat) (L : ZLV) (st : List Value) (σ : ZHp) (n k w : Nat) : Z (f + 1) 18 L st σ n k w = s_ireturn L st σ n k w (zk1 cut G (Z f)) G R T := zrs hZ rfl f L st σ n k w
theorem f_L_owns_0 (hZ : ZRN (ztb (tb_L_owns E d mc ms)) cut G R T Z) (f : Nat) (L : ZLV) (st : List Value) (σ : ZHp) (n k w : Nat) : Z (f + 1) 0 L st σ n k w = s_aload 3 1 L st σ n k w (zk1 cut G (Z f)) G R T := zrs hZ rfl f L st σ n k w
theorem f_L_owns_1 (hZ : ZRN (ztb (tb_L_owns E d mc ms)) cut G R T Z) (f : Nat) (L : ZLV) (st : List Value) (σ : ZHp) (n k w : Nat) : Z (f + 1) 1 L st σ n k w = s_const (.int (0)) 2 L st σ n k w (zk1 cut G (Z f)) G R T := zrs hZ rfl f L st σ n k w
theorem f_L_owns_2 (hZ : ZRN (ztb (tb_L_owns E d mc ms)) cut G R T Z) (f : Nat) (L : ZLV) (st : List Value) (σ : ZHp) (n k w : Nat) : Z (f + 1) 2 L st σ n k w = s_aload 0 3 L st σ n k w (zk1 cut G (Z f)) G R T := zrs hZ rfl f L st σ n k w
theorem f_L_owns_3 (hZ : ZRN (ztb (tb_L_owns E d mc ms)) cut G R T Z) (f : Nat) (L : ZLV) (st : List Value) (σ : ZHp) (n k w : Nat) : Z (f + 1) 3 L st σ n k w = s_iload 1 4 L st σ n k w (zk1 cut G (Z f)) G R T := zrs hZ rfl f L st σ n k w
theorem f_L_owns_4 (hZ : ZRN (ztb (tb_L_owns E d mc ms)) cut G R T Z) (f : Nat) (L : ZLV) (st : List Value) (σ : ZHp) (n k w : Nat) : Z (f + 1) 4 L st σ n k w = s_iload 2 5 L st σ n k w (zk1 cut G (Z f)) G R T := zrs hZ rfl f L st σ n k w
theorem f_L_owns_5 (hZ : ZRN (ztb (tb_L_owns E d mc ms)) cut G R T Z) (f : Nat) (L : ZLV) (st : List Value) (σ : ZHp) (n k w : Nat) : Z (f + 1) 5 L st σ n k w = s_callVC E d mc ms 11 MX12_owns 2 8 [("java/lang/IndexOutOfBoundsException", 13)] L st σ n k w (zk1 cut G (Z f)) G R T := zrs hZ rfl f L st σ n k w
theorem f_L_owns_8 (hZ : ZRN (ztb (tb_L_owns E d mc ms)) cut G R T Z) (f : Nat) (L : ZLV) (st : List Value) (σ : ZHp) (n k w : Nat) : Z (f + 1) 8 L st σ n k w = s_i2l 9 L st σ n k w (zk1 cut G (Z f)) G R T := zrs hZ rfl f L st σ n k w
theorem f_L_owns_9 (hZ : ZRN (ztb (tb_L_owns E d mc ms)) cut G R T Z) (f : Nat) (L : ZLV) (st : List Value) (σ : ZHp) (n k w : Nat) : Z (f + 1) 9 L st σ n k w = s_lastore E 10 L st σ n k w (zk1 cut G (Z f)) G R T := zrs hZ rfl f L st σ n k w
theorem f_L_owns_10 (hZ : ZRN (ztb (tb_L_owns E d mc ms)) cut G R T Z) (f : Nat) (L : ZLV) (st : List Value) (σ : ZHp) (n k w : Nat) : Z (f + 1) 10 L st σ n k w = s_goto 17 L st σ n k w (zk1 cut G (Z f)) G R T := zrs hZ rfl f L st σ n k w
theorem f_L_owns_13 (hZ : ZRN (ztb (tb_L_owns E d mc ms)) cut G R T Z) (f : Nat) (L : ZLV) (st : List Value) (σ : ZHp) (n k w : Nat) : Z (f + 1) 13 L st σ n k w = s_astore 4 15 L st σ n k w (zk1 cut G (Z f)) G R T := zrs hZ rfl f L st σ n k w
theorem f_L_owns_15 (hZ : ZRN (ztb (tb_L_owns E d mc ms)) cut G R T Z) (f : Nat) (L : ZLV) (st : List Value) (σ : ZHp) (n k w : Nat) : Z (f + 1) 15 L st σ n k w = s_const (.int (1)) 16 L st σ n k w (zk1 cut G (Z f)) G R T := zrs hZ rfl f L st σ n k w
theorem f_L_owns_16 (hZ : ZRN (ztb (tb_L_owns E d mc ms)) cut G R T Z) (f : Nat) (L : ZLV) (st : List Value) (σ : ZHp) (n k w : Nat) : Z (f + 1) 16 L st σ n k w = s_ireturn L st σ n k w (zk1 cut G (Z f)) G R T := zrs hZ rfl f L st σ n k w
theorem f_L_owns_17 (hZ : ZRN (ztb (tb_L_owns E d mc ms)) cut G R T Z) (f : Nat) (L : ZLV) (st : List Value) (σ : ZHp) (n k w : Nat) : Z (f + 1) 17 L st σ n k w = s_const (.int (0)) 18 L st σ n k w (zk1 cut G (Z f)) G R T := zrs hZ rfl f L st σ n k w
theorem f_L_owns_18 (hZ : ZRN (ztb (tb_L_owns E d mc ms)) cut G R T Z) (f : Nat) (L : ZLV) (st : List Value) (σ : ZHp) (n k w : Nat) : Z (f + 1) 18 L st σ n k w = s_ireturn L st σ n k w (zk1 cut G (Z f)) G R T := zrs hZ rfl f L st σ n k w
theorem f_L_deck_0 (hZ : ZRN (ztb (tb_L_deck E d mc ms)) cut G R T Z) (f : Nat) (L : ZLV) (st : List Value) (σ : ZHp) (n k w : Nat) : Z (f + 1) 0 L st σ n k w = s_aload 3 1 L st σ n k w (zk1 cut G (Z f)) G R T := zrs hZ rfl f L st σ n k w
theorem f_L_deck_1 (hZ : ZRN (ztb (tb_L_deck E d mc ms)) cut G R T Z) (f : Nat) (L : ZLV) (st : List Value) (σ : ZHp) (n k w : Nat) : Z (f + 1) 1 L st σ n k w = s_const (.int (0)) 2 L st σ n k w (zk1 cut G (Z f)) G R T := zrs hZ rfl f L st σ n k w
theorem f_L_deck_2 (hZ : ZRN (ztb (tb_L_deck E d mc ms)) cut G R T Z) (f : Nat) (L : ZLV) (st : List Value) (σ : ZHp) (n k w : Nat) : Z (f + 1) 2 L st σ n k w = s_aload 0 3 L st σ n k w (zk1 cut G (Z f)) G R T := zrs hZ rfl f L st σ n k w
theorem f_L_deck_3 (hZ : ZRN (ztb (tb_L_deck E d mc ms)) cut G R T Z) (f : Nat) (L : ZLV) (st : List Value) (σ : ZHp) (n k w : Nat) : Z (f + 1) 3 L st σ n k w = s_iload 1 4 L st σ n k w (zk1 cut G (Z f)) G R T := zrs hZ rfl f L st σ n k w
theorem f_L_deck_4 (hZ : ZRN (ztb (tb_L_deck E d mc ms)) cut G R T Z) (f : Nat) (L : ZLV) (st : List Value) (σ : ZHp) (n k w : Nat) : Z (f + 1) 4 L st σ n k w = s_iload 2 5 L st σ n k w (zk1 cut G (Z f)) G R T := zrs hZ rfl f L st σ n k w
theorem f_L_deck_5 (hZ : ZRN (ztb (tb_L_deck E d mc ms)) cut G R T Z) (f : Nat) (L : ZLV) (st : List Value) (σ : ZHp) (n k w : Nat) : Z (f + 1) 5 L st σ n k w = s_callVC E d mc ms 11 MX12_deck 2 8 [("java/lang/IndexOutOfBoundsException", 13)] L st σ n k w (zk1 cut G (Z f)) G R T := zrs hZ rfl f L st σ n k w
theorem f_L_deck_8 (hZ : ZRN (ztb (tb_L_deck E d mc ms)) cut G R T Z) (f : Nat) (L : ZLV) (st : List Value) (σ : ZHp) (n k w : Nat) : Z (f + 1) 8 L st σ n k w = s_i2l 9 L st σ n k w (zk1 cut G (Z f)) G R T := zrs hZ rfl f L st σ n k w
theorem f_L_deck_9 (hZ : ZRN (ztb (tb_L_deck E d mc ms)) cut G R T Z) (f : Nat) (L : ZLV) (st : List Value) (σ : ZHp) (n k w : Nat) : Z (f + 1) 9 L st σ n k w = s_lastore E 10 L st σ n k w (zk1 cut G (Z f)) G R T := zrs hZ rfl f L st σ n k w
theorem f_L_deck_10 (hZ : ZRN (ztb (tb_L_deck E d mc ms)) cut G R T Z) (f : Nat) (L : ZLV) (st : List Value) (σ : ZHp) (n k w : Nat) : Z (f + 1) 10 L st σ n k w = s_goto 17 L st σ n k w (zk1 cut G (Z f)) G R T := zrs hZ rfl f L st σ n k w
theorem f_L_deck_13 (hZ : ZRN (ztb (tb_L_deck E d mc ms)) cut G R T Z) (f : Nat) (L : ZLV) (st : List Value) (σ : ZHp) (n k w : Nat) : Z (f + 1) 13 L st σ n k w = s_astore 4 15 L st σ n k w (zk1 cut G (Z f)) G R T := zrs hZ rfl f L st σ n k w
theorem f_L_deck_15 (hZ : ZRN (ztb (tb_L_deck E d mc ms)) cut G R T Z) (f : Nat) (L : ZLV) (st : List Value) (σ : ZHp) (n k w : Nat) : Z (f + 1) 15 L st σ n k w = s_const (.int (1)) 16 L st σ n k w (zk1 cut G (Z f)) G R T := zrs hZ rfl f L st σ n k w
theorem f_L_deck_16 (hZ : ZRN (ztb (tb_L_deck E d mc ms)) cut G R T Z) (f : Nat) (L : ZLV) (st : List Value) (σ : ZHp) (n k w : Nat) : Z (f + 1) 16 L st σ n k w = s_ireturn L st σ n k w (zk1 cut G (Z f)) G R T := zrs hZ rfl f L st σ n k w
theorem f_L_deck_17 (hZ : ZRN (ztb (tb_L_deck E d mc ms)) cut G R T Z) (f : Nat) (L : ZLV) (st : List Value) (σ : ZHp) (n k w : Nat) : Z (f + 1) 17 L st σ n k w = s_const (.int (0)) 18 L st σ n k w (zk1 cut G (Z f)) G R T := zrs hZ rfl f L st σ n k w
theorem f_L_deck_18 (hZ : ZRN (ztb (tb_L_deck E d mc ms)) cut G R T Z) (f : Nat) (L : ZLV) (st : List Value) (σ : ZHp) (n k w : Nat) : Z (f + 1) 18 L st σ n k w = s_ireturn L st σ n k w (zk1 cut G (Z f)) G R T := zrs hZ rfl f L st σ n k w
theorem f_L_discard_0 (hZ : ZRN (ztb (tb_L_discard E d mc ms)) cut G R T Z) (f : Nat) (L : ZLV) (st : List Value) (σ : ZHp) (n k w : Nat) : Z (f + 1) 0 L st σ n k w = s_aload 3 1 L st σ n k w (zk1 cut G (Z f)) G R T := zrs hZ rfl f L st σ n k w
theorem f_L_discard_1 (hZ : ZRN (ztb (tb_L_discard E d mc ms)) cut G R T Z) (f : Nat) (L : ZLV) (st : List Value) (σ : ZHp) (n k w : Nat) : Z (f + 1) 1 L st σ n k w = s_const (.int (0)) 2 L st σ n k w (zk1 cut G (Z f)) G R T := zrs hZ rfl f L st σ n k w
theorem f_L_discard_2 (hZ : ZRN (ztb (tb_L_discard E d mc ms)) cut G R T Z) (f : Nat) (L : ZLV) (st : List Value) (σ : ZHp) (n k w : Nat) : Z (f + 1) 2 L st σ n k w = s_aload 0 3 L st σ n k w (zk1 cut G (Z f)) G R T := zrs hZ rfl f L st σ n k w
theorem f_L_discard_3 (hZ : ZRN (ztb (tb_L_discard E d mc ms)) cut G R T Z) (f : Nat) (L : ZLV) (st : List Value) (σ : ZHp) (n k w : Nat) : Z (f + 1) 3 L st σ n k w = s_iload 1 4 L st σ n k w (zk1 cut G (Z f)) G R T := zrs hZ rfl f L st σ n k w
theorem f_L_discard_4 (hZ : ZRN (ztb (tb_L_discard E d mc ms)) cut G R T Z) (f : Nat) (L : ZLV) (st : List Value) (σ : ZHp) (n k w : Nat) : Z (f + 1) 4 L st σ n k w = s_iload 2 5 L st σ n k w (zk1 cut G (Z f)) G R T := zrs hZ rfl f L st σ n k w
theorem f_L_discard_5 (hZ : ZRN (ztb (tb_L_discard E d mc ms)) cut G R T Z) (f : Nat) (L : ZLV) (st : List Value) (σ : ZHp) (n k w : Nat) : Z (f + 1) 5 L st σ n k w = s_callVC E d mc ms 11 MX12_discard 2 8 [("java/lang/IndexOutOfBoundsException", 13)] L st σ n k w (zk1 cut G (Z f)) G R T := zrs hZ rfl f L st σ n k w
theorem f_L_discard_8 (hZ : ZRN (ztb (tb_L_discard E d mc ms)) cut G R T Z) (f : Nat) (L : ZLV) (st : List Value) (σ : ZHp) (n k w : Nat) : Z (f + 1) 8 L st σ n k w = s_i2l 9 L st σ n k w (zk1 cut G (Z f)) G R T := zrs hZ rfl f L st σ n k w
theorem f_L_discard_9 (hZ : ZRN (ztb (tb_L_discard E d mc ms)) cut G R T Z) (f : Nat) (L : ZLV) (st : List Value) (σ : ZHp) (n k w : Nat) : Z (f + 1) 9 L st σ n k w = s_lastore E 10 L st σ n k w (zk1 cut G (Z f)) G R T := zrs hZ rfl f L st σ n k w
theorem f_L_discard_10 (hZ : ZRN (ztb (tb_L_discard E d mc ms)) cut G R T Z) (f : Nat) (L : ZLV) (st : List Value) (σ : ZHp) (n k w : Nat) : Z (f + 1) 10 L st σ n k w = s_goto 17 L st σ n k w (zk1 cut G (Z f)) G R T := zrs hZ rfl f L st σ n k w
theorem f_L_discard_13 (hZ : ZRN (ztb (tb_L_discard E d mc ms)) cut G R T Z) (f : Nat) (L : ZLV) (st : List Value) (σ : ZHp) (n k w : Nat) : Z (f + 1) 13 L st σ n k w = s_astore 4 15 L st σ n k w (zk1 cut G (Z f)) G R T := zrs hZ rfl f L st σ n k w
theorem f_L_discard_15 (hZ : ZRN (ztb (tb_L_discard E d mc ms)) cut G R T Z) (f : Nat) (L : ZLV) (st : List Value) (σ : ZHp) (n k w : Nat) : Z (f + 1) 15 L st σ n k w = s_const (.int (1)) 16 L st σ n k w (zk1 cut G (Z f)) G R T := zrs hZ rfl f L st σ n k w
theorem f_L_discard_16 (hZ : ZRN (ztb (tb_L_discard E d mc ms)) cut G R T Z) (f : Nat) (L : ZLV) (st : List Value) (σ : ZHp) (n k w : Nat) : Z (f + 1) 16 L st σ n k w = s_ireturn L st σ n k w (zk1 cut G (Z f)) G R T := zrs hZ rfl f L st σ n k w
theorem f_L_discard_17 (hZ : ZRN (ztb (tb_L_discard E d mc ms)) cut G R T Z) (f : Nat) (L : ZLV) (st : List Value) (σ : ZHp) (n k w : Nat) : Z (f + 1) 17 L st σ n k w = s_const (.int (0)) 18 L st σ n k w (zk1 cut G (Z f)) G R T := zrs hZ rfl f L st σ n k w
theorem f_L_discard_18 (hZ : ZRN (ztb (tb_L_discard E d mc ms)) cut G R T Z) (f : Nat) (L : ZLV) (st : List Value) (σ : ZHp) (n k w : Nat) : Z (f + 1) 18 L st σ n k w = s_ireturn L st σ n k w (zk1 cut G (Z f)) G R T := zrs hZ rfl f L st σ n k w
theorem f_L_give_0 (hZ : ZRN (ztb (tb_L_give E d mc ms)) cut G R T Z) (f : Nat) (L : ZLV) (st : List Value) (σ : ZHp) (n k w : Nat) : Z (f + 1) 0 L st σ n k w = s_aload 3 1 L st σ n k w (zk1 cut G (Z f)) G R T := zrs hZ rfl f L st σ n k w
theorem f_L_give_1 (hZ : ZRN (ztb (tb_L_give E d mc ms)) cut G R T Z) (f : Nat) (L : ZLV) (st : List Value) (σ : ZHp) (n k w : Nat) : Z (f + 1) 1 L st σ n k w = s_const (.int (0)) 2 L st σ n k w (zk1 cut G (Z f)) G R T := zrs hZ rfl f L st σ n k w
theorem f_L_give_2 (hZ : ZRN (ztb (tb_L_give E d mc ms)) cut G R T Z) (f : Nat) (L : ZLV) (st : List Value) (σ : ZHp) (n k w : Nat) : Z (f + 1) 2 L st σ n k w = s_aload 0 3 L st σ n k w (zk1 cut G (Z f)) G R T := zrs hZ rfl f L st σ n k w
theorem f_L_give_3 (hZ : ZRN (ztb (tb_L_give E d mc ms)) cut G R T Z) (f : Nat) (L : ZLV) (st : List Value) (σ : ZHp) (n k w : Nat) : Z (f + 1) 3 L st σ n k w = s_iload 1 4 L st σ n k w (zk1 cut G (Z f)) G R T := zrs hZ rfl f L st σ n k w
theorem f_L_give_4 (hZ : ZRN (ztb (tb_L_give E d mc ms)) cut G R T Z) (f : Nat) (L : ZLV) (st : List Value) (σ : ZHp) (n k w : Nat) : Z (f + 1) 4 L st σ n k w = s_iload 2 5 L st σ n k w (zk1 cut G (Z f)) G R T := zrs hZ rfl f L st σ n k w
theorem f_L_give_5 (hZ : ZRN (ztb (tb_L_give E d mc ms)) cut G R T Z) (f : Nat) (L : ZLV) (st : List Value) (σ : ZHp) (n k w : Nat) : Z (f + 1) 5 L st σ n k w = s_callVC E d mc ms 11 MX12_give 2 8 [("java/lang/IndexOutOfBoundsException", 13), ("java/lang/IllegalStateException", 17)] L st σ n k w (zk1 cut G (Z f)) G R T := zrs hZ rfl f L st σ n k w
theorem f_L_give_8 (hZ : ZRN (ztb (tb_L_give E d mc ms)) cut G R T Z) (f : Nat) (L : ZLV) (st : List Value) (σ : ZHp) (n k w : Nat) : Z (f + 1) 8 L st σ n k w = s_i2l 9 L st σ n k w (zk1 cut G (Z f)) G R T := zrs hZ rfl f L st σ n k w
theorem f_L_give_9 (hZ : ZRN (ztb (tb_L_give E d mc ms)) cut G R T Z) (f : Nat) (L : ZLV) (st : List Value) (σ : ZHp) (n k w : Nat) : Z (f + 1) 9 L st σ n k w = s_lastore E 10 L st σ n k w (zk1 cut G (Z f)) G R T := zrs hZ rfl f L st σ n k w
theorem f_L_give_10 (hZ : ZRN (ztb (tb_L_give E d mc ms)) cut G R T Z) (f : Nat) (L : ZLV) (st : List Value) (σ : ZHp) (n k w : Nat) : Z (f + 1) 10 L st σ n k w = s_goto 21 L st σ n k w (zk1 cut G (Z f)) G R T := zrs hZ rfl f L st σ n k w
theorem f_L_give_13 (hZ : ZRN (ztb (tb_L_give E d mc ms)) cut G R T Z) (f : Nat) (L : ZLV) (st : List Value) (σ : ZHp) (n k w : Nat) : Z (f + 1) 13 L st σ n k w = s_astore 4 15 L st σ n k w (zk1 cut G (Z f)) G R T := zrs hZ rfl f L st σ n k w
theorem f_L_give_15 (hZ : ZRN (ztb (tb_L_give E d mc ms)) cut G R T Z) (f : Nat) (L : ZLV) (st : List Value) (σ : ZHp) (n k w : Nat) : Z (f + 1) 15 L st σ n k w = s_const (.int (1)) 16 L st σ n k w (zk1 cut G (Z f)) G R T := zrs hZ rfl f L st σ n k w
theorem f_L_give_16 (hZ : ZRN (ztb (tb_L_give E d mc ms)) cut G R T Z) (f : Nat) (L : ZLV) (st : List Value) (σ : ZHp) (n k w : Nat) : Z (f + 1) 16 L st σ n k w = s_ireturn L st σ n k w (zk1 cut G (Z f)) G R T := zrs hZ rfl f L st σ n k w
theorem f_L_give_17 (hZ : ZRN (ztb (tb_L_give E d mc ms)) cut G R T Z) (f : Nat) (L : ZLV) (st : List Value) (σ : ZHp) (n k w : Nat) : Z (f + 1) 17 L st σ n k w = s_astore 4 19 L st σ n k w (zk1 cut G (Z f)) G R T := zrs hZ rfl f L st σ n k w
theorem f_L_give_19 (hZ : ZRN (ztb (tb_L_give E d mc ms)) cut G R T Z) (f : Nat) (L : ZLV) (st : List Value) (σ : ZHp) (n k w : Nat) : Z (f + 1) 19 L st σ n k w = s_const (.int (2)) 20 L st σ n k w (zk1 cut G (Z f)) G R T := zrs hZ rfl f L st σ n k w
theorem f_L_give_20 (hZ : ZRN (ztb (tb_L_give E d mc ms)) cut G R T Z) (f : Nat) (L : ZLV) (st : List Value) (σ : ZHp) (n k w : Nat) : Z (f + 1) 20 L st σ n k w = s_ireturn L st σ n k w (zk1 cut G (Z f)) G R T := zrs hZ rfl f L st σ n k w
theorem f_L_give_21 (hZ : ZRN (ztb (tb_L_give E d mc ms)) cut G R T Z) (f : Nat) (L : ZLV) (st : List Value) (σ : ZHp) (n k w : Nat) : Z (f + 1) 21 L st σ n k w = s_const (.int (0)) 22 L st σ n k w (zk1 cut G (Z f)) G R T := zrs hZ rfl f L st σ n k w
theorem f_L_give_22 (hZ : ZRN (ztb (tb_L_give E d mc ms)) cut G R T Z) (f : Nat) (L : ZLV) (st : List Value) (σ : ZHp) (n k w : Nat) : Z (f + 1) 22 L st σ n k w = s_ireturn L st σ n k w (zk1 cut G (Z f)) G R T := zrs hZ rfl f L st σ n k w
theorem f_L_trash_0 (hZ : ZRN (ztb (tb_L_trash E d mc ms)) cut G R T Z) (f : Nat) (L : ZLV) (st : List Value) (σ : ZHp) (n k w : Nat) : Z (f + 1) 0 L st σ n k w = s_aload 3 1 L st σ n k w (zk1 cut G (Z f)) G R T := zrs hZ rfl f L st σ n k w
theorem f_L_trash_1 (hZ : ZRN (ztb (tb_L_trash E d mc ms)) cut G R T Z) (f : Nat) (L : ZLV) (st : List Value) (σ : ZHp) (n k w : Nat) : Z (f + 1) 1 L st σ n k w = s_const (.int (0)) 2 L st σ n k w (zk1 cut G (Z f)) G R T := zrs hZ rfl f L st σ n k w
theorem f_L_trash_2 (hZ : ZRN (ztb (tb_L_trash E d mc ms)) cut G R T Z) (f : Nat) (L : ZLV) (st : List Value) (σ : ZHp) (n k w : Nat) : Z (f + 1) 2 L st σ n k w = s_aload 0 3 L st σ n k w (zk1 cut G (Z f)) G R T := zrs hZ rfl f L st σ n k w
theorem f_L_trash_3 (hZ : ZRN (ztb (tb_L_trash E d mc ms)) cut G R T Z) (f : Nat) (L : ZLV) (st : List Value) (σ : ZHp) (n k w : Nat) : Z (f + 1) 3 L st σ n k w = s_iload 1 4 L st σ n k w (zk1 cut G (Z f)) G R T := zrs hZ rfl f L st σ n k w
theorem f_L_trash_4 (hZ : ZRN (ztb (tb_L_trash E d mc ms)) cut G R T Z) (f : Nat) (L : ZLV) (st : List Value) (σ : ZHp) (n k w : Nat) : Z (f + 1) 4 L st σ n k w = s_iload 2 5 L st σ n k w (zk1 cut G (Z f)) G R T := zrs hZ rfl f L st σ n k w
theorem f_L_trash_5 (hZ : ZRN (ztb (tb_L_trash E d mc ms)) cut G R T Z) (f : Nat) (L : ZLV) (st : List Value) (σ : ZHp) (n k w : Nat) : Z (f + 1) 5 L st σ n k w = s_callVC E d mc ms 11 MX12_trash 2 8 [("java/lang/IndexOutOfBoundsException", 13), ("java/lang/IllegalStateException", 17)] L st σ n k w (zk1 cut G (Z f)) G R T := zrs hZ rfl f L st σ n k w
theorem f_L_trash_8 (hZ : ZRN (ztb (tb_L_trash E d mc ms)) cut G R T Z) (f : Nat) (L : ZLV) (st : List Value) (σ : ZHp) (n k w : Nat) : Z (f + 1) 8 L st σ n k w = s_i2l 9 L st σ n k w (zk1 cut G (Z f)) G R T := zrs hZ rfl f L st σ n k w
theorem f_L_trash_9 (hZ : ZRN (ztb (tb_L_trash E d mc ms)) cut G R T Z) (f : Nat) (L : ZLV) (st : List Value) (σ : ZHp) (n k w : Nat) : Z (f + 1) 9 L st σ n k w = s_lastore E 10 L st σ n k w (zk1 cut G (Z f)) G R T := zrs hZ rfl f L st σ n k w
theorem f_L_trash_10 (hZ : ZRN (ztb (tb_L_trash E d mc ms)) cut G R T Z) (f : Nat) (L : ZLV) (st : List Value) (σ : ZHp) (n k w : Nat) : Z (f + 1) 10 L st σ n k w = s_goto 21 L st σ n k w (zk1 cut G (Z f)) G R T := zrs hZ rfl f L st σ n k w
theorem f_L_trash_13 (hZ : ZRN (ztb (tb_L_trash E d mc ms)) cut G R T Z) (f : Nat) (L : ZLV) (st : List Value) (σ : ZHp) (n k w : Nat) : Z (f + 1) 13 L st σ n k w = s_astore 4 15 L st σ n k w (zk1 cut G (Z f)) G R T := zrs hZ rfl f L st σ n k w
theorem f_L_trash_15 (hZ : ZRN (ztb (tb_L_trash E d mc ms)) cut G R T Z) (f : Nat) (L : ZLV) (st : List Value) (σ : ZHp) (n k w : Nat) : Z (f + 1) 15 L st σ n k w = s_const (.int (1)) 16 L st σ n k w (zk1 cut G (Z f)) G R T := zrs hZ rfl f L st σ n k w
theorem f_L_trash_16 (hZ : ZRN (ztb (tb_L_trash E d mc ms)) cut G R T Z) (f : Nat) (L : ZLV) (st : List Value) (σ : ZHp) (n k w : Nat) : Z (f + 1) 16 L st σ n k w = s_ireturn L st σ n k w (zk1 cut G (Z f)) G R T := zrs hZ rfl f L st σ n k w
theorem f_L_trash_17 (hZ : ZRN (ztb (tb_L_trash E d mc ms)) cut G R T Z) (f : Nat) (L : ZLV) (st : List Value) (σ : ZHp) (n k w : Nat) : Z (f + 1) 17 L st σ n k w = s_astore 4 19 L st σ n k w (zk1 cut G (Z f)) G R T := zrs hZ rfl f L st σ n k w
theorem f_L_trash_19 (hZ : ZRN (ztb (tb_L_trash E d mc ms)) cut G R T Z) (f : Nat) (L : ZLV) (st : List Value) (σ : ZHp) (n k w : Nat) : Z (f + 1) 19 L st σ n k w = s_const (.int (2)) 20 L st σ n k w (zk1 cut G (Z f)) G R T := zrs hZ rfl f L st σ n k w
theorem f_L_trash_20 (hZ : ZRN (ztb (tb_L_trash E d mc ms)) cut G R T Z) (f : Nat) (L : ZLV) (st : List Value) (σ : ZHp) (n k w : Nat) : Z (f + 1) 20 L st σ n k w = s_ireturn L st σ n k w (zk1 cut G (Z f)) G R T := zrs hZ rfl f L st σ n k w
theorem f_L_trash_21 (hZ : ZRN (ztb (tb_L_trash E d mc ms)) cut G R T Z) (f : Nat) (L : ZLV) (st : List Value) (σ : ZHp) (n k w : Nat) : Z (f + 1) 21 L st σ n k w = s_const (.int (0)) 22 L st σ n k w (zk1 cut G (Z f)) G R T := zrs hZ rfl f L st σ n k w
theorem f_L_trash_22 (hZ : ZRN (ztb (tb_L_trash E d mc ms)) cut G R T Z) (f : Nat) (L : ZLV) (st : List Value) (σ : ZHp) (n k w : Nat) : Z (f + 1) 22 L st σ n k w = s_ireturn L st σ n k w (zk1 cut G (Z f)) G R T := zrs hZ rfl f L st σ n k w
theorem f_L_shuffle_0 (hZ : ZRN (ztb (tb_L_shuffle E d mc ms)) cut G R T Z) (f : Nat) (L : ZLV) (st : List Value) (σ : ZHp) (n k w : Nat) : Z (f + 1) 0 L st σ n k w = s_aload 2 1 L st σ n k w (zk1 cut G (Z f)) G R T := zrs hZ rfl f L st σ n k w
theorem f_L_shuffle_1 (hZ : ZRN (ztb (tb_L_shuffle E d mc ms)) cut G R T Z) (f : Nat) (L : ZLV) (st : List Value) (σ : ZHp) (n k w : Nat) : Z (f + 1) 1 L st σ n k w = s_const (.int (0)) 2 L st σ n k w (zk1 cut G (Z f)) G R T := zrs hZ rfl f L st σ n k w
theorem f_L_shuffle_2 (hZ : ZRN (ztb (tb_L_shuffle E d mc ms)) cut G R T Z) (f : Nat) (L : ZLV) (st : List Value) (σ : ZHp) (n k w : Nat) : Z (f + 1) 2 L st σ n k w = s_aload 0 3 L st σ n k w (zk1 cut G (Z f)) G R T := zrs hZ rfl f L st σ n k w
theorem f_L_shuffle_3 (hZ : ZRN (ztb (tb_L_shuffle E d mc ms)) cut G R T Z) (f : Nat) (L : ZLV) (st : List Value) (σ : ZHp) (n k w : Nat) : Z (f + 1) 3 L st σ n k w = s_iload 1 4 L st σ n k w (zk1 cut G (Z f)) G R T := zrs hZ rfl f L st σ n k w
theorem f_L_shuffle_4 (hZ : ZRN (ztb (tb_L_shuffle E d mc ms)) cut G R T Z) (f : Nat) (L : ZLV) (st : List Value) (σ : ZHp) (n k w : Nat) : Z (f + 1) 4 L st σ n k w = s_callVC E d mc ms 11 MX12_shuffle 1 7 [("java/lang/IndexOutOfBoundsException", 12)] L st σ n k w (zk1 cut G (Z f)) G R T := zrs hZ rfl f L st σ n k w
theorem f_L_shuffle_7 (hZ : ZRN (ztb (tb_L_shuffle E d mc ms)) cut G R T Z) (f : Nat) (L : ZLV) (st : List Value) (σ : ZHp) (n k w : Nat) : Z (f + 1) 7 L st σ n k w = s_i2l 8 L st σ n k w (zk1 cut G (Z f)) G R T := zrs hZ rfl f L st σ n k w
theorem f_L_shuffle_8 (hZ : ZRN (ztb (tb_L_shuffle E d mc ms)) cut G R T Z) (f : Nat) (L : ZLV) (st : List Value) (σ : ZHp) (n k w : Nat) : Z (f + 1) 8 L st σ n k w = s_lastore E 9 L st σ n k w (zk1 cut G (Z f)) G R T := zrs hZ rfl f L st σ n k w
theorem f_L_shuffle_9 (hZ : ZRN (ztb (tb_L_shuffle E d mc ms)) cut G R T Z) (f : Nat) (L : ZLV) (st : List Value) (σ : ZHp) (n k w : Nat) : Z (f + 1) 9 L st σ n k w = s_goto 15 L st σ n k w (zk1 cut G (Z f)) G R T := zrs hZ rfl f L st σ n k w
theorem f_L_shuffle_12 (hZ : ZRN (ztb (tb_L_shuffle E d mc ms)) cut G R T Z) (f : Nat) (L : ZLV) (st : List Value) (σ : ZHp) (n k w : Nat) : Z (f + 1) 12 L st σ n k w = s_astore 3 13 L st σ n k w (zk1 cut G (Z f)) G R T := zrs hZ rfl f L st σ n k w
theorem f_L_shuffle_13 (hZ : ZRN (ztb (tb_L_shuffle E d mc ms)) cut G R T Z) (f : Nat) (L : ZLV) (st : List Value) (σ : ZHp) (n k w : Nat) : Z (f + 1) 13 L st σ n k w = s_const (.int (1)) 14 L st σ n k w (zk1 cut G (Z f)) G R T := zrs hZ rfl f L st σ n k w
theorem f_L_shuffle_14 (hZ : ZRN (ztb (tb_L_shuffle E d mc ms)) cut G R T Z) (f : Nat) (L : ZLV) (st : List Value) (σ : ZHp) (n k w : Nat) : Z (f + 1) 14 L st σ n k w = s_ireturn L st σ n k w (zk1 cut G (Z f)) G R T := zrs hZ rfl f L st σ n k w
theorem f_L_shuffle_15 (hZ : ZRN (ztb (tb_L_shuffle E d mc ms)) cut G R T Z) (f : Nat) (L : ZLV) (st : List Value) (σ : ZHp) (n k w : Nat) : Z (f + 1) 15 L st σ n k w = s_const (.int (0)) 16 L st σ n k w (zk1 cut G (Z f)) G R T := zrs hZ rfl f L st σ n k w
theorem f_L_shuffle_16 (hZ : ZRN (ztb (tb_L_shuffle E d mc ms)) cut G R T Z) (f : Nat) (L : ZLV) (st : List Value) (σ : ZHp) (n k w : Nat) : Z (f + 1) 16 L st σ n k w = s_ireturn L st σ n k w (zk1 cut G (Z f)) G R T := zrs hZ rfl f L st σ n k w
theorem f_L_play_0 (hZ : ZRN (ztb (tb_L_play E d mc ms)) cut G R T Z) (f : Nat) (L : ZLV) (st : List Value) (σ : ZHp) (n k w : Nat) : Z (f + 1) 0 L st σ n k w = s_aload 2 1 L st σ n k w (zk1 cut G (Z f)) G R T := zrs hZ rfl f L st σ n k w
theorem f_L_play_1 (hZ : ZRN (ztb (tb_L_play E d mc ms)) cut G R T Z) (f : Nat) (L : ZLV) (st : List Value) (σ : ZHp) (n k w : Nat) : Z (f + 1) 1 L st σ n k w = s_const (.int (0)) 2 L st σ n k w (zk1 cut G (Z f)) G R T := zrs hZ rfl f L st σ n k w
theorem f_L_play_2 (hZ : ZRN (ztb (tb_L_play E d mc ms)) cut G R T Z) (f : Nat) (L : ZLV) (st : List Value) (σ : ZHp) (n k w : Nat) : Z (f + 1) 2 L st σ n k w = s_aload 0 3 L st σ n k w (zk1 cut G (Z f)) G R T := zrs hZ rfl f L st σ n k w
theorem f_L_play_3 (hZ : ZRN (ztb (tb_L_play E d mc ms)) cut G R T Z) (f : Nat) (L : ZLV) (st : List Value) (σ : ZHp) (n k w : Nat) : Z (f + 1) 3 L st σ n k w = s_iload 1 4 L st σ n k w (zk1 cut G (Z f)) G R T := zrs hZ rfl f L st σ n k w
theorem f_L_play_4 (hZ : ZRN (ztb (tb_L_play E d mc ms)) cut G R T Z) (f : Nat) (L : ZLV) (st : List Value) (σ : ZHp) (n k w : Nat) : Z (f + 1) 4 L st σ n k w = s_callVC E d mc ms 11 MX12_play 1 7 [("java/lang/IllegalArgumentException", 12)] L st σ n k w (zk1 cut G (Z f)) G R T := zrs hZ rfl f L st σ n k w
theorem f_L_play_7 (hZ : ZRN (ztb (tb_L_play E d mc ms)) cut G R T Z) (f : Nat) (L : ZLV) (st : List Value) (σ : ZHp) (n k w : Nat) : Z (f + 1) 7 L st σ n k w = s_i2l 8 L st σ n k w (zk1 cut G (Z f)) G R T := zrs hZ rfl f L st σ n k w
theorem f_L_play_8 (hZ : ZRN (ztb (tb_L_play E d mc ms)) cut G R T Z) (f : Nat) (L : ZLV) (st : List Value) (σ : ZHp) (n k w : Nat) : Z (f + 1) 8 L st σ n k w = s_lastore E 9 L st σ n k w (zk1 cut G (Z f)) G R T := zrs hZ rfl f L st σ n k w
theorem f_L_play_9 (hZ : ZRN (ztb (tb_L_play E d mc ms)) cut G R T Z) (f : Nat) (L : ZLV) (st : List Value) (σ : ZHp) (n k w : Nat) : Z (f + 1) 9 L st σ n k w = s_goto 15 L st σ n k w (zk1 cut G (Z f)) G R T := zrs hZ rfl f L st σ n k w
theorem f_L_play_12 (hZ : ZRN (ztb (tb_L_play E d mc ms)) cut G R T Z) (f : Nat) (L : ZLV) (st : List Value) (σ : ZHp) (n k w : Nat) : Z (f + 1) 12 L st σ n k w = s_astore 3 13 L st σ n k w (zk1 cut G (Z f)) G R T := zrs hZ rfl f L st σ n k w
theorem f_L_play_13 (hZ : ZRN (ztb (tb_L_play E d mc ms)) cut G R T Z) (f : Nat) (L : ZLV) (st : List Value) (σ : ZHp) (n k w : Nat) : Z (f + 1) 13 L st σ n k w = s_const (.int (1)) 14 L st σ n k w (zk1 cut G (Z f)) G R T := zrs hZ rfl f L st σ n k w
theorem f_L_play_14 (hZ : ZRN (ztb (tb_L_play E d mc ms)) cut G R T Z) (f : Nat) (L : ZLV) (st : List Value) (σ : ZHp) (n k w : Nat) : Z (f + 1) 14 L st σ n k w = s_ireturn L st σ n k w (zk1 cut G (Z f)) G R T := zrs hZ rfl f L st σ n k w
theorem f_L_play_15 (hZ : ZRN (ztb (tb_L_play E d mc ms)) cut G R T Z) (f : Nat) (L : ZLV) (st : List Value) (σ : ZHp) (n k w : Nat) : Z (f + 1) 15 L st σ n k w = s_const (.int (0)) 16 L st σ n k w (zk1 cut G (Z f)) G R T := zrs hZ rfl f L st σ n k w
theorem f_L_play_16 (hZ : ZRN (ztb (tb_L_play E d mc ms)) cut G R T Z) (f : Nat) (L : ZLV) (st : List Value) (σ : ZHp) (n k w : Nat) : Z (f + 1) 16 L st σ n k w = s_ireturn L st σ n k w (zk1 cut G (Z f)) G R T := zrs hZ rfl f L st σ n k w
theorem f_L_next_0 (hZ : ZRN (ztb (tb_L_next E d mc ms)) cut G R T Z) (f : Nat) (L : ZLV) (st : List Value) (σ : ZHp) (n k w : Nat) : Z (f + 1) 0 L st σ n k w = s_aload 3 1 L st σ n k w (zk1 cut G (Z f)) G R T := zrs hZ rfl f L st σ n k w
theorem f_L_next_1 (hZ : ZRN (ztb (tb_L_next E d mc ms)) cut G R T Z) (f : Nat) (L : ZLV) (st : List Value) (σ : ZHp) (n k w : Nat) : Z (f + 1) 1 L st σ n k w = s_const (.int (0)) 2 L st σ n k w (zk1 cut G (Z f)) G R T := zrs hZ rfl f L st σ n k w
theorem f_L_next_2 (hZ : ZRN (ztb (tb_L_next E d mc ms)) cut G R T Z) (f : Nat) (L : ZLV) (st : List Value) (σ : ZHp) (n k w : Nat) : Z (f + 1) 2 L st σ n k w = s_aload 0 3 L st σ n k w (zk1 cut G (Z f)) G R T := zrs hZ rfl f L st σ n k w
theorem f_L_next_3 (hZ : ZRN (ztb (tb_L_next E d mc ms)) cut G R T Z) (f : Nat) (L : ZLV) (st : List Value) (σ : ZHp) (n k w : Nat) : Z (f + 1) 3 L st σ n k w = s_iload 1 4 L st σ n k w (zk1 cut G (Z f)) G R T := zrs hZ rfl f L st σ n k w
theorem f_L_next_4 (hZ : ZRN (ztb (tb_L_next E d mc ms)) cut G R T Z) (f : Nat) (L : ZLV) (st : List Value) (σ : ZHp) (n k w : Nat) : Z (f + 1) 4 L st σ n k w = s_iload 2 5 L st σ n k w (zk1 cut G (Z f)) G R T := zrs hZ rfl f L st σ n k w
theorem f_L_next_5 (hZ : ZRN (ztb (tb_L_next E d mc ms)) cut G R T Z) (f : Nat) (L : ZLV) (st : List Value) (σ : ZHp) (n k w : Nat) : Z (f + 1) 5 L st σ n k w = s_callVC E d mc ms 11 MX12_next 2 8 [("java/lang/IndexOutOfBoundsException", 13)] L st σ n k w (zk1 cut G (Z f)) G R T := zrs hZ rfl f L st σ n k w
theorem f_L_next_8 (hZ : ZRN (ztb (tb_L_next E d mc ms)) cut G R T Z) (f : Nat) (L : ZLV) (st : List Value) (σ : ZHp) (n k w : Nat) : Z (f + 1) 8 L st σ n k w = s_i2l 9 L st σ n k w (zk1 cut G (Z f)) G R T := zrs hZ rfl f L st σ n k w
theorem f_L_next_9 (hZ : ZRN (ztb (tb_L_next E d mc ms)) cut G R T Z) (f : Nat) (L : ZLV) (st : List Value) (σ : ZHp) (n k w : Nat) : Z (f + 1) 9 L st σ n k w = s_lastore E 10 L st σ n k w (zk1 cut G (Z f)) G R T := zrs hZ rfl f L st σ n k w
theorem f_L_next_10 (hZ : ZRN (ztb (tb_L_next E d mc ms)) cut G R T Z) (f : Nat) (L : ZLV) (st : List Value) (σ : ZHp) (n k w : Nat) : Z (f + 1) 10 L st σ n k w = s_goto 17 L st σ n k w (zk1 cut G (Z f)) G R T := zrs hZ rfl f L st σ n k w
theorem f_L_next_13 (hZ : ZRN (ztb (tb_L_next E d mc ms)) cut G R T Z) (f : Nat) (L : ZLV) (st : List Value) (σ : ZHp) (n k w : Nat) : Z (f + 1) 13 L st σ n k w = s_astore 4 15 L st σ n k w (zk1 cut G (Z f)) G R T := zrs hZ rfl f L st σ n k w
theorem f_L_next_15 (hZ : ZRN (ztb (tb_L_next E d mc ms)) cut G R T Z) (f : Nat) (L : ZLV) (st : List Value) (σ : ZHp) (n k w : Nat) : Z (f + 1) 15 L st σ n k w = s_const (.int (1)) 16 L st σ n k w (zk1 cut G (Z f)) G R T := zrs hZ rfl f L st σ n k w
theorem f_L_next_16 (hZ : ZRN (ztb (tb_L_next E d mc ms)) cut G R T Z) (f : Nat) (L : ZLV) (st : List Value) (σ : ZHp) (n k w : Nat) : Z (f + 1) 16 L st σ n k w = s_ireturn L st σ n k w (zk1 cut G (Z f)) G R T := zrs hZ rfl f L st σ n k w
theorem f_L_next_17 (hZ : ZRN (ztb (tb_L_next E d mc ms)) cut G R T Z) (f : Nat) (L : ZLV) (st : List Value) (σ : ZHp) (n k w : Nat) : Z (f + 1) 17 L st σ n k w = s_const (.int (0)) 18 L st σ n k w (zk1 cut G (Z f)) G R T := zrs hZ rfl f L st σ n k w
theorem f_L_next_18 (hZ : ZRN (ztb (tb_L_next E d mc ms)) cut G R T Z) (f : Nat) (L : ZLV) (st : List Value) (σ : ZHp) (n k w : Nat) : Z (f + 1) 18 L st σ n k w = s_ireturn L st σ n k w (zk1 cut G (Z f)) G R T := zrs hZ rfl f L st σ n k w
theorem f_L_foresee_0 (hZ : ZRN (ztb (tb_L_foresee E d mc ms)) cut G R T Z) (f : Nat) (L : ZLV) (st : List Value) (σ : ZHp) (n k w : Nat) : Z (f + 1) 0 L st σ n k w = s_aload 3 1 L st σ n k w (zk1 cut G (Z f)) G R T := zrs hZ rfl f L st σ n k w
theorem f_L_foresee_1 (hZ : ZRN (ztb (tb_L_foresee E d mc ms)) cut G R T Z) (f : Nat) (L : ZLV) (st : List Value) (σ : ZHp) (n k w : Nat) : Z (f + 1) 1 L st σ n k w = s_const (.int (0)) 2 L st σ n k w (zk1 cut G (Z f)) G R T := zrs hZ rfl f L st σ n k w
theorem f_L_foresee_2 (hZ : ZRN (ztb (tb_L_foresee E d mc ms)) cut G R T Z) (f : Nat) (L : ZLV) (st : List Value) (σ : ZHp) (n k w : Nat) : Z (f + 1) 2 L st σ n k w = s_aload 0 3 L st σ n k w (zk1 cut G (Z f)) G R T := zrs hZ rfl f L st σ n k w
theorem f_L_foresee_3 (hZ : ZRN (ztb (tb_L_foresee E d mc ms)) cut G R T Z) (f : Nat) (L : ZLV) (st : List Value) (σ : ZHp) (n k w : Nat) : Z (f + 1) 3 L st σ n k w = s_iload 1 4 L st σ n k w (zk1 cut G (Z f)) G R T := zrs hZ rfl f L st σ n k w
theorem f_L_foresee_4 (hZ : ZRN (ztb (tb_L_foresee E d mc ms)) cut G R T Z) (f : Nat) (L : ZLV) (st : List Value) (σ : ZHp) (n k w : Nat) : Z (f + 1) 4 L st σ n k w = s_iload 2 5 L st σ n k w (zk1 cut G (Z f)) G R T := zrs hZ rfl f L st σ n k w
theorem f_L_foresee_5 (hZ : ZRN (ztb (tb_L_foresee E d mc ms)) cut G R T Z) (f : Nat) (L : ZLV) (st : List Value) (σ : ZHp) (n k w : Nat) : Z (f + 1) 5 L st σ n k w = s_callVC E d mc ms 11 MX12_foresee 2 8 [("java/lang/IllegalArgumentException", 13), ("java/lang/IndexOutOfBoundsException", 17)] L st σ n k w (zk1 cut G (Z f)) G R T := zrs hZ rfl f L st σ n k w
theorem f_L_foresee_8 (hZ : ZRN (ztb (tb_L_foresee E d mc ms)) cut G R T Z) (f : Nat) (L : ZLV) (st : List Value) (σ : ZHp) (n k w : Nat) : Z (f + 1) 8 L st σ n k w = s_i2l 9 L st σ n k w (zk1 cut G (Z f)) G R T := zrs hZ rfl f L st σ n k w
theorem f_L_foresee_9 (hZ : ZRN (ztb (tb_L_foresee E d mc ms)) cut G R T Z) (f : Nat) (L : ZLV) (st : List Value) (σ : ZHp) (n k w : Nat) : Z (f + 1) 9 L st σ n k w = s_lastore E 10 L st σ n k w (zk1 cut G (Z f)) G R T := zrs hZ rfl f L st σ n k w
theorem f_L_foresee_10 (hZ : ZRN (ztb (tb_L_foresee E d mc ms)) cut G R T Z) (f : Nat) (L : ZLV) (st : List Value) (σ : ZHp) (n k w : Nat) : Z (f + 1) 10 L st σ n k w = s_goto 21 L st σ n k w (zk1 cut G (Z f)) G R T := zrs hZ rfl f L st σ n k w
theorem f_L_foresee_13 (hZ : ZRN (ztb (tb_L_foresee E d mc ms)) cut G R T Z) (f : Nat) (L : ZLV) (st : List Value) (σ : ZHp) (n k w : Nat) : Z (f + 1) 13 L st σ n k w = s_astore 4 15 L st σ n k w (zk1 cut G (Z f)) G R T := zrs hZ rfl f L st σ n k w
theorem f_L_foresee_15 (hZ : ZRN (ztb (tb_L_foresee E d mc ms)) cut G R T Z) (f : Nat) (L : ZLV) (st : List Value) (σ : ZHp) (n k w : Nat) : Z (f + 1) 15 L st σ n k w = s_const (.int (1)) 16 L st σ n k w (zk1 cut G (Z f)) G R T := zrs hZ rfl f L st σ n k w
theorem f_L_foresee_16 (hZ : ZRN (ztb (tb_L_foresee E d mc ms)) cut G R T Z) (f : Nat) (L : ZLV) (st : List Value) (σ : ZHp) (n k w : Nat) : Z (f + 1) 16 L st σ n k w = s_ireturn L st σ n k w (zk1 cut G (Z f)) G R T := zrs hZ rfl f L st σ n k w
theorem f_L_foresee_17 (hZ : ZRN (ztb (tb_L_foresee E d mc ms)) cut G R T Z) (f : Nat) (L : ZLV) (st : List Value) (σ : ZHp) (n k w : Nat) : Z (f + 1) 17 L st σ n k w = s_astore 4 19 L st σ n k w (zk1 cut G (Z f)) G R T := zrs hZ rfl f L st σ n k w
theorem f_L_foresee_19 (hZ : ZRN (ztb (tb_L_foresee E d mc ms)) cut G R T Z) (f : Nat) (L : ZLV) (st : List Value) (σ : ZHp) (n k w : Nat) : Z (f + 1) 19 L st σ n k w = s_const (.int (2)) 20 L st σ n k w (zk1 cut G (Z f)) G R T := zrs hZ rfl f L st σ n k w
theorem f_L_foresee_20 (hZ : ZRN (ztb (tb_L_foresee E d mc ms)) cut G R T Z) (f : Nat) (L : ZLV) (st : List Value) (σ : ZHp) (n k w : Nat) : Z (f + 1) 20 L st σ n k w = s_ireturn L st σ n k w (zk1 cut G (Z f)) G R T := zrs hZ rfl f L st σ n k w
theorem f_L_foresee_21 (hZ : ZRN (ztb (tb_L_foresee E d mc ms)) cut G R T Z) (f : Nat) (L : ZLV) (st : List Value) (σ : ZHp) (n k w : Nat) : Z (f + 1) 21 L st σ n k w = s_const (.int (0)) 22 L st σ n k w (zk1 cut G (Z f)) G R T := zrs hZ rfl f L st σ n k w
theorem f_L_foresee_22 (hZ : ZRN (ztb (tb_L_foresee E d mc ms)) cut G R T Z) (f : Nat) (L : ZLV) (st : List Value) (σ : ZHp) (n k w : Nat) : Z (f + 1) 22 L st σ n k w = s_ireturn L st σ n k w (zk1 cut G (Z f)) G R T := zrs hZ rfl f L st σ n k w
theorem f_L_missed_0 (hZ : ZRN (ztb (tb_L_missed E d mc ms)) cut G R T Z) (f : Nat) (L : ZLV) (st : List Value) (σ : ZHp) (n k w : Nat) : Z (f + 1) 0 L st σ n k w = s_aload 3 1 L st σ n k w (zk1 cut G (Z f)) G R T := zrs hZ rfl f L st σ n k w
theorem f_L_missed_1 (hZ : ZRN (ztb (tb_L_missed E d mc ms)) cut G R T Z) (f : Nat) (L : ZLV) (st : List Value) (σ : ZHp) (n k w : Nat) : Z (f + 1) 1 L st σ n k w = s_const (.int (0)) 2 L st σ n k w (zk1 cut G (Z f)) G R T := zrs hZ rfl f L st σ n k w
theorem f_L_missed_2 (hZ : ZRN (ztb (tb_L_missed E d mc ms)) cut G R T Z) (f : Nat) (L : ZLV) (st : List Value) (σ : ZHp) (n k w : Nat) : Z (f + 1) 2 L st σ n k w = s_aload 0 3 L st σ n k w (zk1 cut G (Z f)) G R T := zrs hZ rfl f L st σ n k w
theorem f_L_missed_3 (hZ : ZRN (ztb (tb_L_missed E d mc ms)) cut G R T Z) (f : Nat) (L : ZLV) (st : List Value) (σ : ZHp) (n k w : Nat) : Z (f + 1) 3 L st σ n k w = s_iload 1 4 L st σ n k w (zk1 cut G (Z f)) G R T := zrs hZ rfl f L st σ n k w
theorem f_L_missed_4 (hZ : ZRN (ztb (tb_L_missed E d mc ms)) cut G R T Z) (f : Nat) (L : ZLV) (st : List Value) (σ : ZHp) (n k w : Nat) : Z (f + 1) 4 L st σ n k w = s_iload 2 5 L st σ n k w (zk1 cut G (Z f)) G R T := zrs hZ rfl f L st σ n k w
theorem f_L_missed_5 (hZ : ZRN (ztb (tb_L_missed E d mc ms)) cut G R T Z) (f : Nat) (L : ZLV) (st : List Value) (σ : ZHp) (n k w : Nat) : Z (f + 1) 5 L st σ n k w = s_callVC E d mc ms 11 MX12_missed 2 8 [("java/lang/IndexOutOfBoundsException", 13), ("java/lang/IllegalArgumentException", 17)] L st σ n k w (zk1 cut G (Z f)) G R T := zrs hZ rfl f L st σ n k w
theorem f_L_missed_8 (hZ : ZRN (ztb (tb_L_missed E d mc ms)) cut G R T Z) (f : Nat) (L : ZLV) (st : List Value) (σ : ZHp) (n k w : Nat) : Z (f + 1) 8 L st σ n k w = s_i2l 9 L st σ n k w (zk1 cut G (Z f)) G R T := zrs hZ rfl f L st σ n k w
theorem f_L_missed_9 (hZ : ZRN (ztb (tb_L_missed E d mc ms)) cut G R T Z) (f : Nat) (L : ZLV) (st : List Value) (σ : ZHp) (n k w : Nat) : Z (f + 1) 9 L st σ n k w = s_lastore E 10 L st σ n k w (zk1 cut G (Z f)) G R T := zrs hZ rfl f L st σ n k w
theorem f_L_missed_10 (hZ : ZRN (ztb (tb_L_missed E d mc ms)) cut G R T Z) (f : Nat) (L : ZLV) (st : List Value) (σ : ZHp) (n k w : Nat) : Z (f + 1) 10 L st σ n k w = s_goto 21 L st σ n k w (zk1 cut G (Z f)) G R T := zrs hZ rfl f L st σ n k w
theorem f_L_missed_13 (hZ : ZRN (ztb (tb_L_missed E d mc ms)) cut G R T Z) (f : Nat) (L : ZLV) (st : List Value) (σ : ZHp) (n k w : Nat) : Z (f + 1) 13 L st σ n k w = s_astore 4 15 L st σ n k w (zk1 cut G (Z f)) G R T := zrs hZ rfl f L st σ n k w
theorem f_L_missed_15 (hZ : ZRN (ztb (tb_L_missed E d mc ms)) cut G R T Z) (f : Nat) (L : ZLV) (st : List Value) (σ : ZHp) (n k w : Nat) : Z (f + 1) 15 L st σ n k w = s_const (.int (1)) 16 L st σ n k w (zk1 cut G (Z f)) G R T := zrs hZ rfl f L st σ n k w
theorem f_L_missed_16 (hZ : ZRN (ztb (tb_L_missed E d mc ms)) cut G R T Z) (f : Nat) (L : ZLV) (st : List Value) (σ : ZHp) (n k w : Nat) : Z (f + 1) 16 L st σ n k w = s_ireturn L st σ n k w (zk1 cut G (Z f)) G R T := zrs hZ rfl f L st σ n k w
theorem f_L_missed_17 (hZ : ZRN (ztb (tb_L_missed E d mc ms)) cut G R T Z) (f : Nat) (L : ZLV) (st : List Value) (σ : ZHp) (n k w : Nat) : Z (f + 1) 17 L st σ n k w = s_astore 4 19 L st σ n k w (zk1 cut G (Z f)) G R T := zrs hZ rfl f L st σ n k w
theorem f_L_missed_19 (hZ : ZRN (ztb (tb_L_missed E d mc ms)) cut G R T Z) (f : Nat) (L : ZLV) (st : List Value) (σ : ZHp) (n k w : Nat) : Z (f + 1) 19 L st σ n k w = s_const (.int (2)) 20 L st σ n k w (zk1 cut G (Z f)) G R T := zrs hZ rfl f L st σ n k w
theorem f_L_missed_20 (hZ : ZRN (ztb (tb_L_missed E d mc ms)) cut G R T Z) (f : Nat) (L : ZLV) (st : List Value) (σ : ZHp) (n k w : Nat) : Z (f + 1) 20 L st σ n k w = s_ireturn L st σ n k w (zk1 cut G (Z f)) G R T := zrs hZ rfl f L st σ n k w
theorem f_L_missed_21 (hZ : ZRN (ztb (tb_L_missed E d mc ms)) cut G R T Z) (f : Nat) (L : ZLV) (st : List Value) (σ : ZHp) (n k w : Nat) : Z (f + 1) 21 L st σ n k w = s_const (.int (0)) 22 L st σ n k w (zk1 cut G (Z f)) G R T := zrs hZ rfl f L st σ n k w
theorem f_L_missed_22 (hZ : ZRN (ztb (tb_L_missed E d mc ms)) cut G R T Z) (f : Nat) (L : ZLV) (st : List Value) (σ : ZHp) (n k w : Nat) : Z (f + 1) 22 L st σ n k w = s_ireturn L st σ n k w (zk1 cut G (Z f)) G R T := zrs hZ rfl f L st σ n k w
theorem f_L_advise_0 (hZ : ZRN (ztb (tb_L_advise E d mc ms)) cut G R T Z) (f : Nat) (L : ZLV) (st : List Value) (σ : ZHp) (n k w : Nat) : Z (f + 1) 0 L st σ n k w = s_aload 3 1 L st σ n k w (zk1 cut G (Z f)) G R T := zrs hZ rfl f L st σ n k w
theorem f_L_advise_1 (hZ : ZRN (ztb (tb_L_advise E d mc ms)) cut G R T Z) (f : Nat) (L : ZLV) (st : List Value) (σ : ZHp) (n k w : Nat) : Z (f + 1) 1 L st σ n k w = s_const (.int (0)) 2 L st σ n k w (zk1 cut G (Z f)) G R T := zrs hZ rfl f L st σ n k w
theorem f_L_advise_2 (hZ : ZRN (ztb (tb_L_advise E d mc ms)) cut G R T Z) (f : Nat) (L : ZLV) (st : List Value) (σ : ZHp) (n k w : Nat) : Z (f + 1) 2 L st σ n k w = s_aload 0 3 L st σ n k w (zk1 cut G (Z f)) G R T := zrs hZ rfl f L st σ n k w
theorem f_L_advise_3 (hZ : ZRN (ztb (tb_L_advise E d mc ms)) cut G R T Z) (f : Nat) (L : ZLV) (st : List Value) (σ : ZHp) (n k w : Nat) : Z (f + 1) 3 L st σ n k w = s_iload 1 4 L st σ n k w (zk1 cut G (Z f)) G R T := zrs hZ rfl f L st σ n k w
theorem f_L_advise_4 (hZ : ZRN (ztb (tb_L_advise E d mc ms)) cut G R T Z) (f : Nat) (L : ZLV) (st : List Value) (σ : ZHp) (n k w : Nat) : Z (f + 1) 4 L st σ n k w = s_iload 2 5 L st σ n k w (zk1 cut G (Z f)) G R T := zrs hZ rfl f L st σ n k w
theorem f_L_advise_5 (hZ : ZRN (ztb (tb_L_advise E d mc ms)) cut G R T Z) (f : Nat) (L : ZLV) (st : List Value) (σ : ZHp) (n k w : Nat) : Z (f + 1) 5 L st σ n k w = s_callVC E d mc ms 11 MX12_advise 2 8 [("java/lang/IndexOutOfBoundsException", 13), ("java/lang/IllegalArgumentException", 17)] L st σ n k w (zk1 cut G (Z f)) G R T := zrs hZ rfl f L st σ n k w
theorem f_L_advise_8 (hZ : ZRN (ztb (tb_L_advise E d mc ms)) cut G R T Z) (f : Nat) (L : ZLV) (st : List Value) (σ : ZHp) (n k w : Nat) : Z (f + 1) 8 L st σ n k w = s_i2l 9 L st σ n k w (zk1 cut G (Z f)) G R T := zrs hZ rfl f L st σ n k w
theorem f_L_advise_9 (hZ : ZRN (ztb (tb_L_advise E d mc ms)) cut G R T Z) (f : Nat) (L : ZLV) (st : List Value) (σ : ZHp) (n k w : Nat) : Z (f + 1) 9 L st σ n k w = s_lastore E 10 L st σ n k w (zk1 cut G (Z f)) G R T := zrs hZ rfl f L st σ n k w
theorem f_L_advise_10 (hZ : ZRN (ztb (tb_L_advise E d mc ms)) cut G R T Z) (f : Nat) (L : ZLV) (st : List Value) (σ : ZHp) (n k w : Nat) : Z (f + 1) 10 L st σ n k w = s_goto 21 L st σ n k w (zk1 cut G (Z f)) G R T := zrs hZ rfl f L st σ n k w
theorem f_L_advise_13 (hZ : ZRN (ztb (tb_L_advise E d mc ms)) cut G R T Z) (f : Nat) (L : ZLV) (st : List Value) (σ : ZHp) (n k w : Nat) : Z (f + 1) 13 L st σ n k w = s_astore 4 15 L st σ n k w (zk1 cut G (Z f)) G R T := zrs hZ rfl f L st σ n k w
theorem f_L_advise_15 (hZ : ZRN (ztb (tb_L_advise E d mc ms)) cut G R T Z) (f : Nat) (L : ZLV) (st : List Value) (σ : ZHp) (n k w : Nat) : Z (f + 1) 15 L st σ n k w = s_const (.int (1)) 16 L st σ n k w (zk1 cut G (Z f)) G R T := zrs hZ rfl f L st σ n k w
theorem f_L_advise_16 (hZ : ZRN (ztb (tb_L_advise E d mc ms)) cut G R T Z) (f : Nat) (L : ZLV) (st : List Value) (σ : ZHp) (n k w : Nat) : Z (f + 1) 16 L st σ n k w = s_ireturn L st σ n k w (zk1 cut G (Z f)) G R T := zrs hZ rfl f L st σ n k w
theorem f_L_advise_17 (hZ : ZRN (ztb (tb_L_advise E d mc ms)) cut G R T Z) (f : Nat) (L : ZLV) (st : List Value) (σ : ZHp) (n k w : Nat) : Z (f + 1) 17 L st σ n k w = s_astore 4 19 L st σ n k w (zk1 cut G (Z f)) G R T := zrs hZ rfl f L st σ n k w
theorem f_L_advise_19 (hZ : ZRN (ztb (tb_L_advise E d mc ms)) cut G R T Z) (f : Nat) (L : ZLV) (st : List Value) (σ : ZHp) (n k w : Nat) : Z (f + 1) 19 L st σ n k w = s_const (.int (2)) 20 L st σ n k w (zk1 cut G (Z f)) G R T := zrs hZ rfl f L st σ n k w
theorem f_L_advise_20 (hZ : ZRN (ztb (tb_L_advise E d mc ms)) cut G R T Z) (f : Nat) (L : ZLV) (st : List Value) (σ : ZHp) (n k w : Nat) : Z (f + 1) 20 L st σ n k w = s_ireturn L st σ n k w (zk1 cut G (Z f)) G R T := zrs hZ rfl f L st σ n k w
theorem f_L_advise_21 (hZ : ZRN (ztb (tb_L_advise E d mc ms)) cut G R T Z) (f : Nat) (L : ZLV) (st : List Value) (σ : ZHp) (n k w : Nat) : Z (f + 1) 21 L st σ n k w = s_const (.int (0)) 22 L st σ n k w (zk1 cut G (Z f)) G R T := zrs hZ rfl f L st σ n k w
theorem f_L_advise_22 (hZ : ZRN (ztb (tb_L_advise E d mc ms)) cut G R T Z) (f : Nat) (L : ZLV) (st : List Value) (σ : ZHp) (n k w : Nat) : Z (f + 1) 22 L st σ n k w = s_ireturn L st σ n k w (zk1 cut G (Z f)) G R T := zrs hZ rfl f L st σ n k w
set_option maxRecDepth 20000 in
theorem f_L_law_0 (hZ : ZRN (ztb (tb_L_law E d mc ms N xs)) cut G R T Z) (f : Nat) (L : ZLV) (st : List Value) (σ : ZHp) (n k w : Nat) : Z (f + 1) 0 L st σ n k w = s_new 11 6 fsX12 mc ms 3 L st σ n k w (zk1 cut G (Z f)) G R T := zrs hZ rfl f L st σ n k w
set_option maxRecDepth 20000 in
theorem f_L_law_3 (hZ : ZRN (ztb (tb_L_law E d mc ms N xs)) cut G R T Z) (f : Nat) (L : ZLV) (st : List Value) (σ : ZHp) (n k w : Nat) : Z (f + 1) 3 L st σ n k w = s_dup 4 L st σ n k w (zk1 cut G (Z f)) G R T := zrs hZ rfl f L st σ n k w
set_option maxRecDepth 20000 in
theorem f_L_law_4 (hZ : ZRN (ztb (tb_L_law E d mc ms N xs)) cut G R T Z) (f : Nat) (L : ZLV) (st : List Value) (σ : ZHp) (n k w : Nat) : Z (f + 1) 4 L st σ n k w = s_callI E d mc ms MX12_init 0 7 L st σ n k w (zk1 cut G (Z f)) G R T := zrs hZ rfl f L st σ n k w
set_option maxRecDepth 20000 in
theorem f_L_law_7 (hZ : ZRN (ztb (tb_L_law E d mc ms N xs)) cut G R T Z) (f : Nat) (L : ZLV) (st : List Value) (σ : ZHp) (n k w : Nat) : Z (f + 1) 7 L st σ n k w = s_astore 1 8 L st σ n k w (zk1 cut G (Z f)) G R T := zrs hZ rfl f L st σ n k w
set_option maxRecDepth 20000 in
theorem f_L_law_8 (hZ : ZRN (ztb (tb_L_law E d mc ms N xs)) cut G R T Z) (f : Nat) (L : ZLV) (st : List Value) (σ : ZHp) (n k w : Nat) : Z (f + 1) 8 L st σ n k w = s_new 14 23 fsX15 mc ms 11 L st σ n k w (zk1 cut G (Z f)) G R T := zrs hZ rfl f L st σ n k w
set_option maxRecDepth 20000 in
theorem f_L_law_11 (hZ : ZRN (ztb (tb_L_law E d mc ms N xs)) cut G R T Z) (f : Nat) (L : ZLV) (st : List Value) (σ : ZHp) (n k w : Nat) : Z (f + 1) 11 L st σ n k w = s_dup 12 L st σ n k w (zk1 cut G (Z f)) G R T := zrs hZ rfl f L st σ n k w
set_option maxRecDepth 20000 in
theorem f_L_law_12 (hZ : ZRN (ztb (tb_L_law E d mc ms N xs)) cut G R T Z) (f : Nat) (L : ZLV) (st : List Value) (σ : ZHp) (n k w : Nat) : Z (f + 1) 12 L st σ n k w = s_callI E d mc ms MX15_init 0 15 L st σ n k w (zk1 cut G (Z f)) G R T := zrs hZ rfl f L st σ n k w
set_option maxRecDepth 20000 in
theorem f_L_law_15 (hZ : ZRN (ztb (tb_L_law E d mc ms N xs)) cut G R T Z) (f : Nat) (L : ZLV) (st : List Value) (σ : ZHp) (n k w : Nat) : Z (f + 1) 15 L st σ n k w = s_astore 2 16 L st σ n k w (zk1 cut G (Z f)) G R T := zrs hZ rfl f L st σ n k w
set_option maxRecDepth 20000 in
theorem f_L_law_16 (hZ : ZRN (ztb (tb_L_law E d mc ms N xs)) cut G R T Z) (f : Nat) (L : ZLV) (st : List Value) (σ : ZHp) (n k w : Nat) : Z (f + 1) 16 L st σ n k w = s_const (.int (1)) 17 L st σ n k w (zk1 cut G (Z f)) G R T := zrs hZ rfl f L st σ n k w
set_option maxRecDepth 20000 in
theorem f_L_law_17 (hZ : ZRN (ztb (tb_L_law E d mc ms N xs)) cut G R T Z) (f : Nat) (L : ZLV) (st : List Value) (σ : ZHp) (n k w : Nat) : Z (f + 1) 17 L st σ n k w = s_newL E mc ms 19 L st σ n k w (zk1 cut G (Z f)) G R T := zrs hZ rfl f L st σ n k w
set_option maxRecDepth 20000 in
theorem f_L_law_19 (hZ : ZRN (ztb (tb_L_law E d mc ms N xs)) cut G R T Z) (f : Nat) (L : ZLV) (st : List Value) (σ : ZHp) (n k w : Nat) : Z (f + 1) 19 L st σ n k w = s_astore 3 20 L st σ n k w (zk1 cut G (Z f)) G R T := zrs hZ rfl f L st σ n k w
set_option maxRecDepth 20000 in
theorem f_L_law_20 (hZ : ZRN (ztb (tb_L_law E d mc ms N xs)) cut G R T Z) (f : Nat) (L : ZLV) (st : List Value) (σ : ZHp) (n k w : Nat) : Z (f + 1) 20 L st σ n k w = s_const (.int (0)) 21 L st σ n k w (zk1 cut G (Z f)) G R T := zrs hZ rfl f L st σ n k w
set_option maxRecDepth 20000 in
theorem f_L_law_21 (hZ : ZRN (ztb (tb_L_law E d mc ms N xs)) cut G R T Z) (f : Nat) (L : ZLV) (st : List Value) (σ : ZHp) (n k w : Nat) : Z (f + 1) 21 L st σ n k w = s_istore 4 23 L st σ n k w (zk1 cut G (Z f)) G R T := zrs hZ rfl f L st σ n k w
set_option maxRecDepth 20000 in
theorem f_L_law_23 (hZ : ZRN (ztb (tb_L_law E d mc ms N xs)) cut G R T Z) (f : Nat) (L : ZLV) (st : List Value) (σ : ZHp) (n k w : Nat) : Z (f + 1) 23 L st σ n k w = s_iload 4 25 L st σ n k w (zk1 cut G (Z f)) G R T := zrs hZ rfl f L st σ n k w
set_option maxRecDepth 20000 in
theorem f_L_law_25 (hZ : ZRN (ztb (tb_L_law E d mc ms N xs)) cut G R T Z) (f : Nat) (L : ZLV) (st : List Value) (σ : ZHp) (n k w : Nat) : Z (f + 1) 25 L st σ n k w = s_aload 0 26 L st σ n k w (zk1 cut G (Z f)) G R T := zrs hZ rfl f L st σ n k w
set_option maxRecDepth 20000 in
theorem f_L_law_26 (hZ : ZRN (ztb (tb_L_law E d mc ms N xs)) cut G R T Z) (f : Nat) (L : ZLV) (st : List Value) (σ : ZHp) (n k w : Nat) : Z (f + 1) 26 L st σ n k w = s_alenK E 300 N 27 L st σ n k w (zk1 cut G (Z f)) G R T := zrs hZ rfl f L st σ n k w
set_option maxRecDepth 20000 in
theorem f_L_law_27 (hZ : ZRN (ztb (tb_L_law E d mc ms N xs)) cut G R T Z) (f : Nat) (L : ZLV) (st : List Value) (σ : ZHp) (n k w : Nat) : Z (f + 1) 27 L st σ n k w = s_const (.int (6)) 29 L st σ n k w (zk1 cut G (Z f)) G R T := zrs hZ rfl f L st σ n k w
set_option maxRecDepth 20000 in
theorem f_L_law_29 (hZ : ZRN (ztb (tb_L_law E d mc ms N xs)) cut G R T Z) (f : Nat) (L : ZLV) (st : List Value) (σ : ZHp) (n k w : Nat) : Z (f + 1) 29 L st σ n k w = s_isub 30 L st σ n k w (zk1 cut G (Z f)) G R T := zrs hZ rfl f L st σ n k w
set_option maxRecDepth 20000 in
theorem f_L_law_30 (hZ : ZRN (ztb (tb_L_law E d mc ms N xs)) cut G R T Z) (f : Nat) (L : ZLV) (st : List Value) (σ : ZHp) (n k w : Nat) : Z (f + 1) 30 L st σ n k w = s_icmp_gt 1316 33 L st σ n k w (zk1 cut G (Z f)) G R T := zrs hZ rfl f L st σ n k w
set_option maxRecDepth 20000 in
theorem f_L_law_33 (hZ : ZRN (ztb (tb_L_law E d mc ms N xs)) cut G R T Z) (f : Nat) (L : ZLV) (st : List Value) (σ : ZHp) (n k w : Nat) : Z (f + 1) 33 L st σ n k w = s_aload 0 34 L st σ n k w (zk1 cut G (Z f)) G R T := zrs hZ rfl f L st σ n k w
set_option maxRecDepth 20000 in
theorem f_L_law_34 (hZ : ZRN (ztb (tb_L_law E d mc ms N xs)) cut G R T Z) (f : Nat) (L : ZLV) (st : List Value) (σ : ZHp) (n k w : Nat) : Z (f + 1) 34 L st σ n k w = s_iload 4 36 L st σ n k w (zk1 cut G (Z f)) G R T := zrs hZ rfl f L st σ n k w
set_option maxRecDepth 20000 in
theorem f_L_law_36 (hZ : ZRN (ztb (tb_L_law E d mc ms N xs)) cut G R T Z) (f : Nat) (L : ZLV) (st : List Value) (σ : ZHp) (n k w : Nat) : Z (f + 1) 36 L st σ n k w = s_ialdQ E 300 N xs 37 L st σ n k w (zk1 cut G (Z f)) G R T := zrs hZ rfl f L st σ n k w
set_option maxRecDepth 20000 in
theorem f_L_law_37 (hZ : ZRN (ztb (tb_L_law E d mc ms N xs)) cut G R T Z) (f : Nat) (L : ZLV) (st : List Value) (σ : ZHp) (n k w : Nat) : Z (f + 1) 37 L st σ n k w = s_const (.int (31)) 39 L st σ n k w (zk1 cut G (Z f)) G R T := zrs hZ rfl f L st σ n k w
set_option maxRecDepth 20000 in
theorem f_L_law_39 (hZ : ZRN (ztb (tb_L_law E d mc ms N xs)) cut G R T Z) (f : Nat) (L : ZLV) (st : List Value) (σ : ZHp) (n k w : Nat) : Z (f + 1) 39 L st σ n k w = s_iand 40 L st σ n k w (zk1 cut G (Z f)) G R T := zrs hZ rfl f L st σ n k w
set_option maxRecDepth 20000 in
theorem f_L_law_40 (hZ : ZRN (ztb (tb_L_law E d mc ms N xs)) cut G R T Z) (f : Nat) (L : ZLV) (st : List Value) (σ : ZHp) (n k w : Nat) : Z (f + 1) 40 L st σ n k w = s_tsw 0 [140, 244, 300, 313, 326, 382, 450, 518, 586, 654, 722, 735, 803, 871, 927, 983, 1051, 1119, 1187, 1255, 1296] 1310 L st σ n k w (zk1 cut G (Z f)) G R T := zrs hZ rfl f L st σ n k w
set_option maxRecDepth 20000 in
theorem f_L_law_140 (hZ : ZRN (ztb (tb_L_law E d mc ms N xs)) cut G R T Z) (f : Nat) (L : ZLV) (st : List Value) (σ : ZHp) (n k w : Nat) : Z (f + 1) 140 L st σ n k w = s_aload 1 141 L st σ n k w (zk1 cut G (Z f)) G R T := zrs hZ rfl f L st σ n k w
set_option maxRecDepth 20000 in
theorem f_L_law_141 (hZ : ZRN (ztb (tb_L_law E d mc ms N xs)) cut G R T Z) (f : Nat) (L : ZLV) (st : List Value) (σ : ZHp) (n k w : Nat) : Z (f + 1) 141 L st σ n k w = s_aload 0 142 L st σ n k w (zk1 cut G (Z f)) G R T := zrs hZ rfl f L st σ n k w
set_option maxRecDepth 20000 in
theorem f_L_law_142 (hZ : ZRN (ztb (tb_L_law E d mc ms N xs)) cut G R T Z) (f : Nat) (L : ZLV) (st : List Value) (σ : ZHp) (n k w : Nat) : Z (f + 1) 142 L st σ n k w = s_iload 4 144 L st σ n k w (zk1 cut G (Z f)) G R T := zrs hZ rfl f L st σ n k w
set_option maxRecDepth 20000 in
theorem f_L_law_144 (hZ : ZRN (ztb (tb_L_law E d mc ms N xs)) cut G R T Z) (f : Nat) (L : ZLV) (st : List Value) (σ : ZHp) (n k w : Nat) : Z (f + 1) 144 L st σ n k w = s_const (.int (1)) 145 L st σ n k w (zk1 cut G (Z f)) G R T := zrs hZ rfl f L st σ n k w
set_option maxRecDepth 20000 in
theorem f_L_law_145 (hZ : ZRN (ztb (tb_L_law E d mc ms N xs)) cut G R T Z) (f : Nat) (L : ZLV) (st : List Value) (σ : ZHp) (n k w : Nat) : Z (f + 1) 145 L st σ n k w = s_iadd 146 L st σ n k w (zk1 cut G (Z f)) G R T := zrs hZ rfl f L st σ n k w
set_option maxRecDepth 20000 in
theorem f_L_law_146 (hZ : ZRN (ztb (tb_L_law E d mc ms N xs)) cut G R T Z) (f : Nat) (L : ZLV) (st : List Value) (σ : ZHp) (n k w : Nat) : Z (f + 1) 146 L st σ n k w = s_ialdQ E 300 N xs 147 L st σ n k w (zk1 cut G (Z f)) G R T := zrs hZ rfl f L st σ n k w
set_option maxRecDepth 20000 in
theorem f_L_law_147 (hZ : ZRN (ztb (tb_L_law E d mc ms N xs)) cut G R T Z) (f : Nat) (L : ZLV) (st : List Value) (σ : ZHp) (n k w : Nat) : Z (f + 1) 147 L st σ n k w = s_aload 0 148 L st σ n k w (zk1 cut G (Z f)) G R T := zrs hZ rfl f L st σ n k w
set_option maxRecDepth 20000 in
theorem f_L_law_148 (hZ : ZRN (ztb (tb_L_law E d mc ms N xs)) cut G R T Z) (f : Nat) (L : ZLV) (st : List Value) (σ : ZHp) (n k w : Nat) : Z (f + 1) 148 L st σ n k w = s_iload 4 150 L st σ n k w (zk1 cut G (Z f)) G R T := zrs hZ rfl f L st σ n k w
set_option maxRecDepth 20000 in
theorem f_L_law_150 (hZ : ZRN (ztb (tb_L_law E d mc ms N xs)) cut G R T Z) (f : Nat) (L : ZLV) (st : List Value) (σ : ZHp) (n k w : Nat) : Z (f + 1) 150 L st σ n k w = s_const (.int (2)) 151 L st σ n k w (zk1 cut G (Z f)) G R T := zrs hZ rfl f L st σ n k w
set_option maxRecDepth 20000 in
theorem f_L_law_151 (hZ : ZRN (ztb (tb_L_law E d mc ms N xs)) cut G R T Z) (f : Nat) (L : ZLV) (st : List Value) (σ : ZHp) (n k w : Nat) : Z (f + 1) 151 L st σ n k w = s_iadd 152 L st σ n k w (zk1 cut G (Z f)) G R T := zrs hZ rfl f L st σ n k w
set_option maxRecDepth 20000 in
theorem f_L_law_152 (hZ : ZRN (ztb (tb_L_law E d mc ms N xs)) cut G R T Z) (f : Nat) (L : ZLV) (st : List Value) (σ : ZHp) (n k w : Nat) : Z (f + 1) 152 L st σ n k w = s_ialdQ E 300 N xs 153 L st σ n k w (zk1 cut G (Z f)) G R T := zrs hZ rfl f L st σ n k w
set_option maxRecDepth 20000 in
theorem f_L_law_153 (hZ : ZRN (ztb (tb_L_law E d mc ms N xs)) cut G R T Z) (f : Nat) (L : ZLV) (st : List Value) (σ : ZHp) (n k w : Nat) : Z (f + 1) 153 L st σ n k w = s_aload 0 154 L st σ n k w (zk1 cut G (Z f)) G R T := zrs hZ rfl f L st σ n k w
set_option maxRecDepth 20000 in
theorem f_L_law_154 (hZ : ZRN (ztb (tb_L_law E d mc ms N xs)) cut G R T Z) (f : Nat) (L : ZLV) (st : List Value) (σ : ZHp) (n k w : Nat) : Z (f + 1) 154 L st σ n k w = s_iload 4 156 L st σ n k w (zk1 cut G (Z f)) G R T := zrs hZ rfl f L st σ n k w
set_option maxRecDepth 20000 in
theorem f_L_law_156 (hZ : ZRN (ztb (tb_L_law E d mc ms N xs)) cut G R T Z) (f : Nat) (L : ZLV) (st : List Value) (σ : ZHp) (n k w : Nat) : Z (f + 1) 156 L st σ n k w = s_const (.int (3)) 157 L st σ n k w (zk1 cut G (Z f)) G R T := zrs hZ rfl f L st σ n k w
set_option maxRecDepth 20000 in
theorem f_L_law_157 (hZ : ZRN (ztb (tb_L_law E d mc ms N xs)) cut G R T Z) (f : Nat) (L : ZLV) (st : List Value) (σ : ZHp) (n k w : Nat) : Z (f + 1) 157 L st σ n k w = s_iadd 158 L st σ n k w (zk1 cut G (Z f)) G R T := zrs hZ rfl f L st σ n k w
set_option maxRecDepth 20000 in
theorem f_L_law_158 (hZ : ZRN (ztb (tb_L_law E d mc ms N xs)) cut G R T Z) (f : Nat) (L : ZLV) (st : List Value) (σ : ZHp) (n k w : Nat) : Z (f + 1) 158 L st σ n k w = s_ialdQ E 300 N xs 159 L st σ n k w (zk1 cut G (Z f)) G R T := zrs hZ rfl f L st σ n k w
set_option maxRecDepth 20000 in
theorem f_L_law_159 (hZ : ZRN (ztb (tb_L_law E d mc ms N xs)) cut G R T Z) (f : Nat) (L : ZLV) (st : List Value) (σ : ZHp) (n k w : Nat) : Z (f + 1) 159 L st σ n k w = s_aload 0 160 L st σ n k w (zk1 cut G (Z f)) G R T := zrs hZ rfl f L st σ n k w
set_option maxRecDepth 20000 in
theorem f_L_law_160 (hZ : ZRN (ztb (tb_L_law E d mc ms N xs)) cut G R T Z) (f : Nat) (L : ZLV) (st : List Value) (σ : ZHp) (n k w : Nat) : Z (f + 1) 160 L st σ n k w = s_iload 4 162 L st σ n k w (zk1 cut G (Z f)) G R T := zrs hZ rfl f L st σ n k w
set_option maxRecDepth 20000 in
theorem f_L_law_162 (hZ : ZRN (ztb (tb_L_law E d mc ms N xs)) cut G R T Z) (f : Nat) (L : ZLV) (st : List Value) (σ : ZHp) (n k w : Nat) : Z (f + 1) 162 L st σ n k w = s_const (.int (4)) 163 L st σ n k w (zk1 cut G (Z f)) G R T := zrs hZ rfl f L st σ n k w
set_option maxRecDepth 20000 in
theorem f_L_law_163 (hZ : ZRN (ztb (tb_L_law E d mc ms N xs)) cut G R T Z) (f : Nat) (L : ZLV) (st : List Value) (σ : ZHp) (n k w : Nat) : Z (f + 1) 163 L st σ n k w = s_iadd 164 L st σ n k w (zk1 cut G (Z f)) G R T := zrs hZ rfl f L st σ n k w
set_option maxRecDepth 20000 in
theorem f_L_law_164 (hZ : ZRN (ztb (tb_L_law E d mc ms N xs)) cut G R T Z) (f : Nat) (L : ZLV) (st : List Value) (σ : ZHp) (n k w : Nat) : Z (f + 1) 164 L st σ n k w = s_ialdQ E 300 N xs 165 L st σ n k w (zk1 cut G (Z f)) G R T := zrs hZ rfl f L st σ n k w
set_option maxRecDepth 20000 in
theorem f_L_law_165 (hZ : ZRN (ztb (tb_L_law E d mc ms N xs)) cut G R T Z) (f : Nat) (L : ZLV) (st : List Value) (σ : ZHp) (n k w : Nat) : Z (f + 1) 165 L st σ n k w = s_aload 0 166 L st σ n k w (zk1 cut G (Z f)) G R T := zrs hZ rfl f L st σ n k w
set_option maxRecDepth 20000 in
theorem f_L_law_166 (hZ : ZRN (ztb (tb_L_law E d mc ms N xs)) cut G R T Z) (f : Nat) (L : ZLV) (st : List Value) (σ : ZHp) (n k w : Nat) : Z (f + 1) 166 L st σ n k w = s_iload 4 168 L st σ n k w (zk1 cut G (Z f)) G R T := zrs hZ rfl f L st σ n k w
set_option maxRecDepth 20000 in
theorem f_L_law_168 (hZ : ZRN (ztb (tb_L_law E d mc ms N xs)) cut G R T Z) (f : Nat) (L : ZLV) (st : List Value) (σ : ZHp) (n k w : Nat) : Z (f + 1) 168 L st σ n k w = s_const (.int (5)) 169 L st σ n k w (zk1 cut G (Z f)) G R T := zrs hZ rfl f L st σ n k w
set_option maxRecDepth 20000 in
theorem f_L_law_169 (hZ : ZRN (ztb (tb_L_law E d mc ms N xs)) cut G R T Z) (f : Nat) (L : ZLV) (st : List Value) (σ : ZHp) (n k w : Nat) : Z (f + 1) 169 L st σ n k w = s_iadd 170 L st σ n k w (zk1 cut G (Z f)) G R T := zrs hZ rfl f L st σ n k w
set_option maxRecDepth 20000 in
theorem f_L_law_170 (hZ : ZRN (ztb (tb_L_law E d mc ms N xs)) cut G R T Z) (f : Nat) (L : ZLV) (st : List Value) (σ : ZHp) (n k w : Nat) : Z (f + 1) 170 L st σ n k w = s_ialdQ E 300 N xs 171 L st σ n k w (zk1 cut G (Z f)) G R T := zrs hZ rfl f L st σ n k w
set_option maxRecDepth 20000 in
theorem f_L_law_171 (hZ : ZRN (ztb (tb_L_law E d mc ms N xs)) cut G R T Z) (f : Nat) (L : ZLV) (st : List Value) (σ : ZHp) (n k w : Nat) : Z (f + 1) 171 L st σ n k w = s_aload 3 172 L st σ n k w (zk1 cut G (Z f)) G R T := zrs hZ rfl f L st σ n k w
set_option maxRecDepth 20000 in
theorem f_L_law_172 (hZ : ZRN (ztb (tb_L_law E d mc ms N xs)) cut G R T Z) (f : Nat) (L : ZLV) (st : List Value) (σ : ZHp) (n k w : Nat) : Z (f + 1) 172 L st σ n k w = s_callSH E d mc ms ML_feed [(0, 16, 19, 13)] 7 175 L st σ n k w (zk1 cut G (Z f)) G R T := zrs hZ rfl f L st σ n k w
set_option maxRecDepth 20000 in
theorem f_L_law_175 (hZ : ZRN (ztb (tb_L_law E d mc ms N xs)) cut G R T Z) (f : Nat) (L : ZLV) (st : List Value) (σ : ZHp) (n k w : Nat) : Z (f + 1) 175 L st σ n k w = s_istore 5 177 L st σ n k w (zk1 cut G (Z f)) G R T := zrs hZ rfl f L st σ n k w
set_option maxRecDepth 20000 in
theorem f_L_law_177 (hZ : ZRN (ztb (tb_L_law E d mc ms N xs)) cut G R T Z) (f : Nat) (L : ZLV) (st : List Value) (σ : ZHp) (n k w : Nat) : Z (f + 1) 177 L st σ n k w = s_aload 2 178 L st σ n k w (zk1 cut G (Z f)) G R T := zrs hZ rfl f L st σ n k w
set_option maxRecDepth 20000 in
theorem f_L_law_178 (hZ : ZRN (ztb (tb_L_law E d mc ms N xs)) cut G R T Z) (f : Nat) (L : ZLV) (st : List Value) (σ : ZHp) (n k w : Nat) : Z (f + 1) 178 L st σ n k w = s_aload 0 179 L st σ n k w (zk1 cut G (Z f)) G R T := zrs hZ rfl f L st σ n k w
set_option maxRecDepth 20000 in
theorem f_L_law_179 (hZ : ZRN (ztb (tb_L_law E d mc ms N xs)) cut G R T Z) (f : Nat) (L : ZLV) (st : List Value) (σ : ZHp) (n k w : Nat) : Z (f + 1) 179 L st σ n k w = s_iload 4 181 L st σ n k w (zk1 cut G (Z f)) G R T := zrs hZ rfl f L st σ n k w
set_option maxRecDepth 20000 in
theorem f_L_law_181 (hZ : ZRN (ztb (tb_L_law E d mc ms N xs)) cut G R T Z) (f : Nat) (L : ZLV) (st : List Value) (σ : ZHp) (n k w : Nat) : Z (f + 1) 181 L st σ n k w = s_const (.int (1)) 182 L st σ n k w (zk1 cut G (Z f)) G R T := zrs hZ rfl f L st σ n k w
set_option maxRecDepth 20000 in
theorem f_L_law_182 (hZ : ZRN (ztb (tb_L_law E d mc ms N xs)) cut G R T Z) (f : Nat) (L : ZLV) (st : List Value) (σ : ZHp) (n k w : Nat) : Z (f + 1) 182 L st σ n k w = s_iadd 183 L st σ n k w (zk1 cut G (Z f)) G R T := zrs hZ rfl f L st σ n k w
set_option maxRecDepth 20000 in
theorem f_L_law_183 (hZ : ZRN (ztb (tb_L_law E d mc ms N xs)) cut G R T Z) (f : Nat) (L : ZLV) (st : List Value) (σ : ZHp) (n k w : Nat) : Z (f + 1) 183 L st σ n k w = s_ialdQ E 300 N xs 184 L st σ n k w (zk1 cut G (Z f)) G R T := zrs hZ rfl f L st σ n k w
set_option maxRecDepth 20000 in
theorem f_L_law_184 (hZ : ZRN (ztb (tb_L_law E d mc ms N xs)) cut G R T Z) (f : Nat) (L : ZLV) (st : List Value) (σ : ZHp) (n k w : Nat) : Z (f + 1) 184 L st σ n k w = s_aload 0 185 L st σ n k w (zk1 cut G (Z f)) G R T := zrs hZ rfl f L st σ n k w
set_option maxRecDepth 20000 in
theorem f_L_law_185 (hZ : ZRN (ztb (tb_L_law E d mc ms N xs)) cut G R T Z) (f : Nat) (L : ZLV) (st : List Value) (σ : ZHp) (n k w : Nat) : Z (f + 1) 185 L st σ n k w = s_iload 4 187 L st σ n k w (zk1 cut G (Z f)) G R T := zrs hZ rfl f L st σ n k w
set_option maxRecDepth 20000 in
theorem f_L_law_187 (hZ : ZRN (ztb (tb_L_law E d mc ms N xs)) cut G R T Z) (f : Nat) (L : ZLV) (st : List Value) (σ : ZHp) (n k w : Nat) : Z (f + 1) 187 L st σ n k w = s_const (.int (2)) 188 L st σ n k w (zk1 cut G (Z f)) G R T := zrs hZ rfl f L st σ n k w
set_option maxRecDepth 20000 in
theorem f_L_law_188 (hZ : ZRN (ztb (tb_L_law E d mc ms N xs)) cut G R T Z) (f : Nat) (L : ZLV) (st : List Value) (σ : ZHp) (n k w : Nat) : Z (f + 1) 188 L st σ n k w = s_iadd 189 L st σ n k w (zk1 cut G (Z f)) G R T := zrs hZ rfl f L st σ n k w
set_option maxRecDepth 20000 in
theorem f_L_law_189 (hZ : ZRN (ztb (tb_L_law E d mc ms N xs)) cut G R T Z) (f : Nat) (L : ZLV) (st : List Value) (σ : ZHp) (n k w : Nat) : Z (f + 1) 189 L st σ n k w = s_ialdQ E 300 N xs 190 L st σ n k w (zk1 cut G (Z f)) G R T := zrs hZ rfl f L st σ n k w
set_option maxRecDepth 20000 in
theorem f_L_law_190 (hZ : ZRN (ztb (tb_L_law E d mc ms N xs)) cut G R T Z) (f : Nat) (L : ZLV) (st : List Value) (σ : ZHp) (n k w : Nat) : Z (f + 1) 190 L st σ n k w = s_aload 0 191 L st σ n k w (zk1 cut G (Z f)) G R T := zrs hZ rfl f L st σ n k w
set_option maxRecDepth 20000 in
theorem f_L_law_191 (hZ : ZRN (ztb (tb_L_law E d mc ms N xs)) cut G R T Z) (f : Nat) (L : ZLV) (st : List Value) (σ : ZHp) (n k w : Nat) : Z (f + 1) 191 L st σ n k w = s_iload 4 193 L st σ n k w (zk1 cut G (Z f)) G R T := zrs hZ rfl f L st σ n k w
set_option maxRecDepth 20000 in
theorem f_L_law_193 (hZ : ZRN (ztb (tb_L_law E d mc ms N xs)) cut G R T Z) (f : Nat) (L : ZLV) (st : List Value) (σ : ZHp) (n k w : Nat) : Z (f + 1) 193 L st σ n k w = s_const (.int (3)) 194 L st σ n k w (zk1 cut G (Z f)) G R T := zrs hZ rfl f L st σ n k w
set_option maxRecDepth 20000 in
theorem f_L_law_194 (hZ : ZRN (ztb (tb_L_law E d mc ms N xs)) cut G R T Z) (f : Nat) (L : ZLV) (st : List Value) (σ : ZHp) (n k w : Nat) : Z (f + 1) 194 L st σ n k w = s_iadd 195 L st σ n k w (zk1 cut G (Z f)) G R T := zrs hZ rfl f L st σ n k w
set_option maxRecDepth 20000 in
theorem f_L_law_195 (hZ : ZRN (ztb (tb_L_law E d mc ms N xs)) cut G R T Z) (f : Nat) (L : ZLV) (st : List Value) (σ : ZHp) (n k w : Nat) : Z (f + 1) 195 L st σ n k w = s_ialdQ E 300 N xs 196 L st σ n k w (zk1 cut G (Z f)) G R T := zrs hZ rfl f L st σ n k w
set_option maxRecDepth 20000 in
theorem f_L_law_196 (hZ : ZRN (ztb (tb_L_law E d mc ms N xs)) cut G R T Z) (f : Nat) (L : ZLV) (st : List Value) (σ : ZHp) (n k w : Nat) : Z (f + 1) 196 L st σ n k w = s_aload 0 197 L st σ n k w (zk1 cut G (Z f)) G R T := zrs hZ rfl f L st σ n k w
set_option maxRecDepth 20000 in
theorem f_L_law_197 (hZ : ZRN (ztb (tb_L_law E d mc ms N xs)) cut G R T Z) (f : Nat) (L : ZLV) (st : List Value) (σ : ZHp) (n k w : Nat) : Z (f + 1) 197 L st σ n k w = s_iload 4 199 L st σ n k w (zk1 cut G (Z f)) G R T := zrs hZ rfl f L st σ n k w
set_option maxRecDepth 20000 in
theorem f_L_law_199 (hZ : ZRN (ztb (tb_L_law E d mc ms N xs)) cut G R T Z) (f : Nat) (L : ZLV) (st : List Value) (σ : ZHp) (n k w : Nat) : Z (f + 1) 199 L st σ n k w = s_const (.int (4)) 200 L st σ n k w (zk1 cut G (Z f)) G R T := zrs hZ rfl f L st σ n k w
set_option maxRecDepth 20000 in
theorem f_L_law_200 (hZ : ZRN (ztb (tb_L_law E d mc ms N xs)) cut G R T Z) (f : Nat) (L : ZLV) (st : List Value) (σ : ZHp) (n k w : Nat) : Z (f + 1) 200 L st σ n k w = s_iadd 201 L st σ n k w (zk1 cut G (Z f)) G R T := zrs hZ rfl f L st σ n k w
set_option maxRecDepth 20000 in
theorem f_L_law_201 (hZ : ZRN (ztb (tb_L_law E d mc ms N xs)) cut G R T Z) (f : Nat) (L : ZLV) (st : List Value) (σ : ZHp) (n k w : Nat) : Z (f + 1) 201 L st σ n k w = s_ialdQ E 300 N xs 202 L st σ n k w (zk1 cut G (Z f)) G R T := zrs hZ rfl f L st σ n k w
set_option maxRecDepth 20000 in
theorem f_L_law_202 (hZ : ZRN (ztb (tb_L_law E d mc ms N xs)) cut G R T Z) (f : Nat) (L : ZLV) (st : List Value) (σ : ZHp) (n k w : Nat) : Z (f + 1) 202 L st σ n k w = s_aload 0 203 L st σ n k w (zk1 cut G (Z f)) G R T := zrs hZ rfl f L st σ n k w
set_option maxRecDepth 20000 in
theorem f_L_law_203 (hZ : ZRN (ztb (tb_L_law E d mc ms N xs)) cut G R T Z) (f : Nat) (L : ZLV) (st : List Value) (σ : ZHp) (n k w : Nat) : Z (f + 1) 203 L st σ n k w = s_iload 4 205 L st σ n k w (zk1 cut G (Z f)) G R T := zrs hZ rfl f L st σ n k w
set_option maxRecDepth 20000 in
theorem f_L_law_205 (hZ : ZRN (ztb (tb_L_law E d mc ms N xs)) cut G R T Z) (f : Nat) (L : ZLV) (st : List Value) (σ : ZHp) (n k w : Nat) : Z (f + 1) 205 L st σ n k w = s_const (.int (5)) 206 L st σ n k w (zk1 cut G (Z f)) G R T := zrs hZ rfl f L st σ n k w
set_option maxRecDepth 20000 in
theorem f_L_law_206 (hZ : ZRN (ztb (tb_L_law E d mc ms N xs)) cut G R T Z) (f : Nat) (L : ZLV) (st : List Value) (σ : ZHp) (n k w : Nat) : Z (f + 1) 206 L st σ n k w = s_iadd 207 L st σ n k w (zk1 cut G (Z f)) G R T := zrs hZ rfl f L st σ n k w
set_option maxRecDepth 20000 in
theorem f_L_law_207 (hZ : ZRN (ztb (tb_L_law E d mc ms N xs)) cut G R T Z) (f : Nat) (L : ZLV) (st : List Value) (σ : ZHp) (n k w : Nat) : Z (f + 1) 207 L st σ n k w = s_ialdQ E 300 N xs 208 L st σ n k w (zk1 cut G (Z f)) G R T := zrs hZ rfl f L st σ n k w
set_option maxRecDepth 20000 in
theorem f_L_law_208 (hZ : ZRN (ztb (tb_L_law E d mc ms N xs)) cut G R T Z) (f : Nat) (L : ZLV) (st : List Value) (σ : ZHp) (n k w : Nat) : Z (f + 1) 208 L st σ n k w = s_callV E d mc ms 14 MX15_feed 5 211 L st σ n k w (zk1 cut G (Z f)) G R T := zrs hZ rfl f L st σ n k w
set_option maxRecDepth 20000 in
theorem f_L_law_211 (hZ : ZRN (ztb (tb_L_law E d mc ms N xs)) cut G R T Z) (f : Nat) (L : ZLV) (st : List Value) (σ : ZHp) (n k w : Nat) : Z (f + 1) 211 L st σ n k w = s_istore 6 213 L st σ n k w (zk1 cut G (Z f)) G R T := zrs hZ rfl f L st σ n k w
set_option maxRecDepth 20000 in
theorem f_L_law_213 (hZ : ZRN (ztb (tb_L_law E d mc ms N xs)) cut G R T Z) (f : Nat) (L : ZLV) (st : List Value) (σ : ZHp) (n k w : Nat) : Z (f + 1) 213 L st σ n k w = s_aload 2 214 L st σ n k w (zk1 cut G (Z f)) G R T := zrs hZ rfl f L st σ n k w
set_option maxRecDepth 20000 in
theorem f_L_law_214 (hZ : ZRN (ztb (tb_L_law E d mc ms N xs)) cut G R T Z) (f : Nat) (L : ZLV) (st : List Value) (σ : ZHp) (n k w : Nat) : Z (f + 1) 214 L st σ n k w = s_callV E d mc ms 14 MX15_thrown 0 217 L st σ n k w (zk1 cut G (Z f)) G R T := zrs hZ rfl f L st σ n k w
set_option maxRecDepth 20000 in
theorem f_L_law_217 (hZ : ZRN (ztb (tb_L_law E d mc ms N xs)) cut G R T Z) (f : Nat) (L : ZLV) (st : List Value) (σ : ZHp) (n k w : Nat) : Z (f + 1) 217 L st σ n k w = s_iload 5 219 L st σ n k w (zk1 cut G (Z f)) G R T := zrs hZ rfl f L st σ n k w
set_option maxRecDepth 20000 in
theorem f_L_law_219 (hZ : ZRN (ztb (tb_L_law E d mc ms N xs)) cut G R T Z) (f : Nat) (L : ZLV) (st : List Value) (σ : ZHp) (n k w : Nat) : Z (f + 1) 219 L st σ n k w = s_icmp_eq 224 222 L st σ n k w (zk1 cut G (Z f)) G R T := zrs hZ rfl f L st σ n k w
set_option maxRecDepth 20000 in
theorem f_L_law_222 (hZ : ZRN (ztb (tb_L_law E d mc ms N xs)) cut G R T Z) (f : Nat) (L : ZLV) (st : List Value) (σ : ZHp) (n k w : Nat) : Z (f + 1) 222 L st σ n k w = s_const (.int (0)) 223 L st σ n k w (zk1 cut G (Z f)) G R T := zrs hZ rfl f L st σ n k w
set_option maxRecDepth 20000 in
theorem f_L_law_223 (hZ : ZRN (ztb (tb_L_law E d mc ms N xs)) cut G R T Z) (f : Nat) (L : ZLV) (st : List Value) (σ : ZHp) (n k w : Nat) : Z (f + 1) 223 L st σ n k w = s_zreturn L st σ n k w (zk1 cut G (Z f)) G R T := zrs hZ rfl f L st σ n k w
set_option maxRecDepth 20000 in
theorem f_L_law_224 (hZ : ZRN (ztb (tb_L_law E d mc ms N xs)) cut G R T Z) (f : Nat) (L : ZLV) (st : List Value) (σ : ZHp) (n k w : Nat) : Z (f + 1) 224 L st σ n k w = s_iload 5 226 L st σ n k w (zk1 cut G (Z f)) G R T := zrs hZ rfl f L st σ n k w
set_option maxRecDepth 20000 in
theorem f_L_law_226 (hZ : ZRN (ztb (tb_L_law E d mc ms N xs)) cut G R T Z) (f : Nat) (L : ZLV) (st : List Value) (σ : ZHp) (n k w : Nat) : Z (f + 1) 226 L st σ n k w = s_if_ne 241 229 L st σ n k w (zk1 cut G (Z f)) G R T := zrs hZ rfl f L st σ n k w
set_option maxRecDepth 20000 in
theorem f_L_law_229 (hZ : ZRN (ztb (tb_L_law E d mc ms N xs)) cut G R T Z) (f : Nat) (L : ZLV) (st : List Value) (σ : ZHp) (n k w : Nat) : Z (f + 1) 229 L st σ n k w = s_aload 3 230 L st σ n k w (zk1 cut G (Z f)) G R T := zrs hZ rfl f L st σ n k w
set_option maxRecDepth 20000 in
theorem f_L_law_230 (hZ : ZRN (ztb (tb_L_law E d mc ms N xs)) cut G R T Z) (f : Nat) (L : ZLV) (st : List Value) (σ : ZHp) (n k w : Nat) : Z (f + 1) 230 L st σ n k w = s_const (.int (0)) 231 L st σ n k w (zk1 cut G (Z f)) G R T := zrs hZ rfl f L st σ n k w
set_option maxRecDepth 20000 in
theorem f_L_law_231 (hZ : ZRN (ztb (tb_L_law E d mc ms N xs)) cut G R T Z) (f : Nat) (L : ZLV) (st : List Value) (σ : ZHp) (n k w : Nat) : Z (f + 1) 231 L st σ n k w = s_laload E 232 L st σ n k w (zk1 cut G (Z f)) G R T := zrs hZ rfl f L st σ n k w
set_option maxRecDepth 20000 in
theorem f_L_law_232 (hZ : ZRN (ztb (tb_L_law E d mc ms N xs)) cut G R T Z) (f : Nat) (L : ZLV) (st : List Value) (σ : ZHp) (n k w : Nat) : Z (f + 1) 232 L st σ n k w = s_iload 6 234 L st σ n k w (zk1 cut G (Z f)) G R T := zrs hZ rfl f L st σ n k w
set_option maxRecDepth 20000 in
theorem f_L_law_234 (hZ : ZRN (ztb (tb_L_law E d mc ms N xs)) cut G R T Z) (f : Nat) (L : ZLV) (st : List Value) (σ : ZHp) (n k w : Nat) : Z (f + 1) 234 L st σ n k w = s_i2l 235 L st σ n k w (zk1 cut G (Z f)) G R T := zrs hZ rfl f L st σ n k w
set_option maxRecDepth 20000 in
theorem f_L_law_235 (hZ : ZRN (ztb (tb_L_law E d mc ms N xs)) cut G R T Z) (f : Nat) (L : ZLV) (st : List Value) (σ : ZHp) (n k w : Nat) : Z (f + 1) 235 L st σ n k w = s_lcmp 236 L st σ n k w (zk1 cut G (Z f)) G R T := zrs hZ rfl f L st σ n k w
set_option maxRecDepth 20000 in
theorem f_L_law_236 (hZ : ZRN (ztb (tb_L_law E d mc ms N xs)) cut G R T Z) (f : Nat) (L : ZLV) (st : List Value) (σ : ZHp) (n k w : Nat) : Z (f + 1) 236 L st σ n k w = s_if_eq 241 239 L st σ n k w (zk1 cut G (Z f)) G R T := zrs hZ rfl f L st σ n k w
set_option maxRecDepth 20000 in
theorem f_L_law_239 (hZ : ZRN (ztb (tb_L_law E d mc ms N xs)) cut G R T Z) (f : Nat) (L : ZLV) (st : List Value) (σ : ZHp) (n k w : Nat) : Z (f + 1) 239 L st σ n k w = s_const (.int (0)) 240 L st σ n k w (zk1 cut G (Z f)) G R T := zrs hZ rfl f L st σ n k w
set_option maxRecDepth 20000 in
theorem f_L_law_240 (hZ : ZRN (ztb (tb_L_law E d mc ms N xs)) cut G R T Z) (f : Nat) (L : ZLV) (st : List Value) (σ : ZHp) (n k w : Nat) : Z (f + 1) 240 L st σ n k w = s_zreturn L st σ n k w (zk1 cut G (Z f)) G R T := zrs hZ rfl f L st σ n k w
set_option maxRecDepth 20000 in
theorem f_L_law_241 (hZ : ZRN (ztb (tb_L_law E d mc ms N xs)) cut G R T Z) (f : Nat) (L : ZLV) (st : List Value) (σ : ZHp) (n k w : Nat) : Z (f + 1) 241 L st σ n k w = s_goto 1310 L st σ n k w (zk1 cut G (Z f)) G R T := zrs hZ rfl f L st σ n k w
set_option maxRecDepth 20000 in
theorem f_L_law_244 (hZ : ZRN (ztb (tb_L_law E d mc ms N xs)) cut G R T Z) (f : Nat) (L : ZLV) (st : List Value) (σ : ZHp) (n k w : Nat) : Z (f + 1) 244 L st σ n k w = s_aload 1 245 L st σ n k w (zk1 cut G (Z f)) G R T := zrs hZ rfl f L st σ n k w
set_option maxRecDepth 20000 in
theorem f_L_law_245 (hZ : ZRN (ztb (tb_L_law E d mc ms N xs)) cut G R T Z) (f : Nat) (L : ZLV) (st : List Value) (σ : ZHp) (n k w : Nat) : Z (f + 1) 245 L st σ n k w = s_aload 0 246 L st σ n k w (zk1 cut G (Z f)) G R T := zrs hZ rfl f L st σ n k w
set_option maxRecDepth 20000 in
theorem f_L_law_246 (hZ : ZRN (ztb (tb_L_law E d mc ms N xs)) cut G R T Z) (f : Nat) (L : ZLV) (st : List Value) (σ : ZHp) (n k w : Nat) : Z (f + 1) 246 L st σ n k w = s_iload 4 248 L st σ n k w (zk1 cut G (Z f)) G R T := zrs hZ rfl f L st σ n k w
set_option maxRecDepth 20000 in
theorem f_L_law_248 (hZ : ZRN (ztb (tb_L_law E d mc ms N xs)) cut G R T Z) (f : Nat) (L : ZLV) (st : List Value) (σ : ZHp) (n k w : Nat) : Z (f + 1) 248 L st σ n k w = s_const (.int (1)) 249 L st σ n k w (zk1 cut G (Z f)) G R T := zrs hZ rfl f L st σ n k w
set_option maxRecDepth 20000 in
theorem f_L_law_249 (hZ : ZRN (ztb (tb_L_law E d mc ms N xs)) cut G R T Z) (f : Nat) (L : ZLV) (st : List Value) (σ : ZHp) (n k w : Nat) : Z (f + 1) 249 L st σ n k w = s_iadd 250 L st σ n k w (zk1 cut G (Z f)) G R T := zrs hZ rfl f L st σ n k w
set_option maxRecDepth 20000 in
theorem f_L_law_250 (hZ : ZRN (ztb (tb_L_law E d mc ms N xs)) cut G R T Z) (f : Nat) (L : ZLV) (st : List Value) (σ : ZHp) (n k w : Nat) : Z (f + 1) 250 L st σ n k w = s_ialdQ E 300 N xs 251 L st σ n k w (zk1 cut G (Z f)) G R T := zrs hZ rfl f L st σ n k w
set_option maxRecDepth 20000 in
theorem f_L_law_251 (hZ : ZRN (ztb (tb_L_law E d mc ms N xs)) cut G R T Z) (f : Nat) (L : ZLV) (st : List Value) (σ : ZHp) (n k w : Nat) : Z (f + 1) 251 L st σ n k w = s_aload 3 252 L st σ n k w (zk1 cut G (Z f)) G R T := zrs hZ rfl f L st σ n k w
set_option maxRecDepth 20000 in
theorem f_L_law_252 (hZ : ZRN (ztb (tb_L_law E d mc ms N xs)) cut G R T Z) (f : Nat) (L : ZLV) (st : List Value) (σ : ZHp) (n k w : Nat) : Z (f + 1) 252 L st σ n k w = s_callSH E d mc ms ML_trim [(0, 9, 12, 19)] 3 255 L st σ n k w (zk1 cut G (Z f)) G R T := zrs hZ rfl f L st σ n k w
set_option maxRecDepth 20000 in
theorem f_L_law_255 (hZ : ZRN (ztb (tb_L_law E d mc ms N xs)) cut G R T Z) (f : Nat) (L : ZLV) (st : List Value) (σ : ZHp) (n k w : Nat) : Z (f + 1) 255 L st σ n k w = s_istore 5 257 L st σ n k w (zk1 cut G (Z f)) G R T := zrs hZ rfl f L st σ n k w
set_option maxRecDepth 20000 in
theorem f_L_law_257 (hZ : ZRN (ztb (tb_L_law E d mc ms N xs)) cut G R T Z) (f : Nat) (L : ZLV) (st : List Value) (σ : ZHp) (n k w : Nat) : Z (f + 1) 257 L st σ n k w = s_aload 2 258 L st σ n k w (zk1 cut G (Z f)) G R T := zrs hZ rfl f L st σ n k w
set_option maxRecDepth 20000 in
theorem f_L_law_258 (hZ : ZRN (ztb (tb_L_law E d mc ms N xs)) cut G R T Z) (f : Nat) (L : ZLV) (st : List Value) (σ : ZHp) (n k w : Nat) : Z (f + 1) 258 L st σ n k w = s_aload 0 259 L st σ n k w (zk1 cut G (Z f)) G R T := zrs hZ rfl f L st σ n k w
set_option maxRecDepth 20000 in
theorem f_L_law_259 (hZ : ZRN (ztb (tb_L_law E d mc ms N xs)) cut G R T Z) (f : Nat) (L : ZLV) (st : List Value) (σ : ZHp) (n k w : Nat) : Z (f + 1) 259 L st σ n k w = s_iload 4 261 L st σ n k w (zk1 cut G (Z f)) G R T := zrs hZ rfl f L st σ n k w
set_option maxRecDepth 20000 in
theorem f_L_law_261 (hZ : ZRN (ztb (tb_L_law E d mc ms N xs)) cut G R T Z) (f : Nat) (L : ZLV) (st : List Value) (σ : ZHp) (n k w : Nat) : Z (f + 1) 261 L st σ n k w = s_const (.int (1)) 262 L st σ n k w (zk1 cut G (Z f)) G R T := zrs hZ rfl f L st σ n k w
set_option maxRecDepth 20000 in
theorem f_L_law_262 (hZ : ZRN (ztb (tb_L_law E d mc ms N xs)) cut G R T Z) (f : Nat) (L : ZLV) (st : List Value) (σ : ZHp) (n k w : Nat) : Z (f + 1) 262 L st σ n k w = s_iadd 263 L st σ n k w (zk1 cut G (Z f)) G R T := zrs hZ rfl f L st σ n k w
set_option maxRecDepth 20000 in
theorem f_L_law_263 (hZ : ZRN (ztb (tb_L_law E d mc ms N xs)) cut G R T Z) (f : Nat) (L : ZLV) (st : List Value) (σ : ZHp) (n k w : Nat) : Z (f + 1) 263 L st σ n k w = s_ialdQ E 300 N xs 264 L st σ n k w (zk1 cut G (Z f)) G R T := zrs hZ rfl f L st σ n k w
set_option maxRecDepth 20000 in
theorem f_L_law_264 (hZ : ZRN (ztb (tb_L_law E d mc ms N xs)) cut G R T Z) (f : Nat) (L : ZLV) (st : List Value) (σ : ZHp) (n k w : Nat) : Z (f + 1) 264 L st σ n k w = s_callV E d mc ms 14 MX15_trim 1 267 L st σ n k w (zk1 cut G (Z f)) G R T := zrs hZ rfl f L st σ n k w
set_option maxRecDepth 20000 in
theorem f_L_law_267 (hZ : ZRN (ztb (tb_L_law E d mc ms N xs)) cut G R T Z) (f : Nat) (L : ZLV) (st : List Value) (σ : ZHp) (n k w : Nat) : Z (f + 1) 267 L st σ n k w = s_istore 6 269 L st σ n k w (zk1 cut G (Z f)) G R T := zrs hZ rfl f L st σ n k w
set_option maxRecDepth 20000 in
theorem f_L_law_269 (hZ : ZRN (ztb (tb_L_law E d mc ms N xs)) cut G R T Z) (f : Nat) (L : ZLV) (st : List Value) (σ : ZHp) (n k w : Nat) : Z (f + 1) 269 L st σ n k w = s_aload 2 270 L st σ n k w (zk1 cut G (Z f)) G R T := zrs hZ rfl f L st σ n k w
set_option maxRecDepth 20000 in
theorem f_L_law_270 (hZ : ZRN (ztb (tb_L_law E d mc ms N xs)) cut G R T Z) (f : Nat) (L : ZLV) (st : List Value) (σ : ZHp) (n k w : Nat) : Z (f + 1) 270 L st σ n k w = s_callV E d mc ms 14 MX15_thrown 0 273 L st σ n k w (zk1 cut G (Z f)) G R T := zrs hZ rfl f L st σ n k w
set_option maxRecDepth 20000 in
theorem f_L_law_273 (hZ : ZRN (ztb (tb_L_law E d mc ms N xs)) cut G R T Z) (f : Nat) (L : ZLV) (st : List Value) (σ : ZHp) (n k w : Nat) : Z (f + 1) 273 L st σ n k w = s_iload 5 275 L st σ n k w (zk1 cut G (Z f)) G R T := zrs hZ rfl f L st σ n k w
set_option maxRecDepth 20000 in
theorem f_L_law_275 (hZ : ZRN (ztb (tb_L_law E d mc ms N xs)) cut G R T Z) (f : Nat) (L : ZLV) (st : List Value) (σ : ZHp) (n k w : Nat) : Z (f + 1) 275 L st σ n k w = s_icmp_eq 280 278 L st σ n k w (zk1 cut G (Z f)) G R T := zrs hZ rfl f L st σ n k w
set_option maxRecDepth 20000 in
theorem f_L_law_278 (hZ : ZRN (ztb (tb_L_law E d mc ms N xs)) cut G R T Z) (f : Nat) (L : ZLV) (st : List Value) (σ : ZHp) (n k w : Nat) : Z (f + 1) 278 L st σ n k w = s_const (.int (0)) 279 L st σ n k w (zk1 cut G (Z f)) G R T := zrs hZ rfl f L st σ n k w
set_option maxRecDepth 20000 in
theorem f_L_law_279 (hZ : ZRN (ztb (tb_L_law E d mc ms N xs)) cut G R T Z) (f : Nat) (L : ZLV) (st : List Value) (σ : ZHp) (n k w : Nat) : Z (f + 1) 279 L st σ n k w = s_zreturn L st σ n k w (zk1 cut G (Z f)) G R T := zrs hZ rfl f L st σ n k w
set_option maxRecDepth 20000 in
theorem f_L_law_280 (hZ : ZRN (ztb (tb_L_law E d mc ms N xs)) cut G R T Z) (f : Nat) (L : ZLV) (st : List Value) (σ : ZHp) (n k w : Nat) : Z (f + 1) 280 L st σ n k w = s_iload 5 282 L st σ n k w (zk1 cut G (Z f)) G R T := zrs hZ rfl f L st σ n k w
set_option maxRecDepth 20000 in
theorem f_L_law_282 (hZ : ZRN (ztb (tb_L_law E d mc ms N xs)) cut G R T Z) (f : Nat) (L : ZLV) (st : List Value) (σ : ZHp) (n k w : Nat) : Z (f + 1) 282 L st σ n k w = s_if_ne 297 285 L st σ n k w (zk1 cut G (Z f)) G R T := zrs hZ rfl f L st σ n k w
set_option maxRecDepth 20000 in
theorem f_L_law_285 (hZ : ZRN (ztb (tb_L_law E d mc ms N xs)) cut G R T Z) (f : Nat) (L : ZLV) (st : List Value) (σ : ZHp) (n k w : Nat) : Z (f + 1) 285 L st σ n k w = s_aload 3 286 L st σ n k w (zk1 cut G (Z f)) G R T := zrs hZ rfl f L st σ n k w
set_option maxRecDepth 20000 in
theorem f_L_law_286 (hZ : ZRN (ztb (tb_L_law E d mc ms N xs)) cut G R T Z) (f : Nat) (L : ZLV) (st : List Value) (σ : ZHp) (n k w : Nat) : Z (f + 1) 286 L st σ n k w = s_const (.int (0)) 287 L st σ n k w (zk1 cut G (Z f)) G R T := zrs hZ rfl f L st σ n k w
set_option maxRecDepth 20000 in
theorem f_L_law_287 (hZ : ZRN (ztb (tb_L_law E d mc ms N xs)) cut G R T Z) (f : Nat) (L : ZLV) (st : List Value) (σ : ZHp) (n k w : Nat) : Z (f + 1) 287 L st σ n k w = s_laload E 288 L st σ n k w (zk1 cut G (Z f)) G R T := zrs hZ rfl f L st σ n k w
set_option maxRecDepth 20000 in
theorem f_L_law_288 (hZ : ZRN (ztb (tb_L_law E d mc ms N xs)) cut G R T Z) (f : Nat) (L : ZLV) (st : List Value) (σ : ZHp) (n k w : Nat) : Z (f + 1) 288 L st σ n k w = s_iload 6 290 L st σ n k w (zk1 cut G (Z f)) G R T := zrs hZ rfl f L st σ n k w
set_option maxRecDepth 20000 in
theorem f_L_law_290 (hZ : ZRN (ztb (tb_L_law E d mc ms N xs)) cut G R T Z) (f : Nat) (L : ZLV) (st : List Value) (σ : ZHp) (n k w : Nat) : Z (f + 1) 290 L st σ n k w = s_i2l 291 L st σ n k w (zk1 cut G (Z f)) G R T := zrs hZ rfl f L st σ n k w
set_option maxRecDepth 20000 in
theorem f_L_law_291 (hZ : ZRN (ztb (tb_L_law E d mc ms N xs)) cut G R T Z) (f : Nat) (L : ZLV) (st : List Value) (σ : ZHp) (n k w : Nat) : Z (f + 1) 291 L st σ n k w = s_lcmp 292 L st σ n k w (zk1 cut G (Z f)) G R T := zrs hZ rfl f L st σ n k w
set_option maxRecDepth 20000 in
theorem f_L_law_292 (hZ : ZRN (ztb (tb_L_law E d mc ms N xs)) cut G R T Z) (f : Nat) (L : ZLV) (st : List Value) (σ : ZHp) (n k w : Nat) : Z (f + 1) 292 L st σ n k w = s_if_eq 297 295 L st σ n k w (zk1 cut G (Z f)) G R T := zrs hZ rfl f L st σ n k w
set_option maxRecDepth 20000 in
theorem f_L_law_295 (hZ : ZRN (ztb (tb_L_law E d mc ms N xs)) cut G R T Z) (f : Nat) (L : ZLV) (st : List Value) (σ : ZHp) (n k w : Nat) : Z (f + 1) 295 L st σ n k w = s_const (.int (0)) 296 L st σ n k w (zk1 cut G (Z f)) G R T := zrs hZ rfl f L st σ n k w
set_option maxRecDepth 20000 in
theorem f_L_law_296 (hZ : ZRN (ztb (tb_L_law E d mc ms N xs)) cut G R T Z) (f : Nat) (L : ZLV) (st : List Value) (σ : ZHp) (n k w : Nat) : Z (f + 1) 296 L st σ n k w = s_zreturn L st σ n k w (zk1 cut G (Z f)) G R T := zrs hZ rfl f L st σ n k w
set_option maxRecDepth 20000 in
theorem f_L_law_297 (hZ : ZRN (ztb (tb_L_law E d mc ms N xs)) cut G R T Z) (f : Nat) (L : ZLV) (st : List Value) (σ : ZHp) (n k w : Nat) : Z (f + 1) 297 L st σ n k w = s_goto 1310 L st σ n k w (zk1 cut G (Z f)) G R T := zrs hZ rfl f L st σ n k w
set_option maxRecDepth 20000 in
theorem f_L_law_300 (hZ : ZRN (ztb (tb_L_law E d mc ms N xs)) cut G R T Z) (f : Nat) (L : ZLV) (st : List Value) (σ : ZHp) (n k w : Nat) : Z (f + 1) 300 L st σ n k w = s_aload 1 301 L st σ n k w (zk1 cut G (Z f)) G R T := zrs hZ rfl f L st σ n k w
set_option maxRecDepth 20000 in
theorem f_L_law_301 (hZ : ZRN (ztb (tb_L_law E d mc ms N xs)) cut G R T Z) (f : Nat) (L : ZLV) (st : List Value) (σ : ZHp) (n k w : Nat) : Z (f + 1) 301 L st σ n k w = s_callV E d mc ms 11 MX12_teach 0 304 L st σ n k w (zk1 cut G (Z f)) G R T := zrs hZ rfl f L st σ n k w
set_option maxRecDepth 20000 in
theorem f_L_law_304 (hZ : ZRN (ztb (tb_L_law E d mc ms N xs)) cut G R T Z) (f : Nat) (L : ZLV) (st : List Value) (σ : ZHp) (n k w : Nat) : Z (f + 1) 304 L st σ n k w = s_aload 2 305 L st σ n k w (zk1 cut G (Z f)) G R T := zrs hZ rfl f L st σ n k w
set_option maxRecDepth 20000 in
theorem f_L_law_305 (hZ : ZRN (ztb (tb_L_law E d mc ms N xs)) cut G R T Z) (f : Nat) (L : ZLV) (st : List Value) (σ : ZHp) (n k w : Nat) : Z (f + 1) 305 L st σ n k w = s_callV E d mc ms 14 MX15_teach 0 308 L st σ n k w (zk1 cut G (Z f)) G R T := zrs hZ rfl f L st σ n k w
set_option maxRecDepth 20000 in
theorem f_L_law_308 (hZ : ZRN (ztb (tb_L_law E d mc ms N xs)) cut G R T Z) (f : Nat) (L : ZLV) (st : List Value) (σ : ZHp) (n k w : Nat) : Z (f + 1) 308 L st σ n k w = s_icmp_eq 1310 311 L st σ n k w (zk1 cut G (Z f)) G R T := zrs hZ rfl f L st σ n k w
set_option maxRecDepth 20000 in
theorem f_L_law_311 (hZ : ZRN (ztb (tb_L_law E d mc ms N xs)) cut G R T Z) (f : Nat) (L : ZLV) (st : List Value) (σ : ZHp) (n k w : Nat) : Z (f + 1) 311 L st σ n k w = s_const (.int (0)) 312 L st σ n k w (zk1 cut G (Z f)) G R T := zrs hZ rfl f L st σ n k w
set_option maxRecDepth 20000 in
theorem f_L_law_312 (hZ : ZRN (ztb (tb_L_law E d mc ms N xs)) cut G R T Z) (f : Nat) (L : ZLV) (st : List Value) (σ : ZHp) (n k w : Nat) : Z (f + 1) 312 L st σ n k w = s_zreturn L st σ n k w (zk1 cut G (Z f)) G R T := zrs hZ rfl f L st σ n k w
set_option maxRecDepth 20000 in
theorem f_L_law_313 (hZ : ZRN (ztb (tb_L_law E d mc ms N xs)) cut G R T Z) (f : Nat) (L : ZLV) (st : List Value) (σ : ZHp) (n k w : Nat) : Z (f + 1) 313 L st σ n k w = s_aload 1 314 L st σ n k w (zk1 cut G (Z f)) G R T := zrs hZ rfl f L st σ n k w
set_option maxRecDepth 20000 in
theorem f_L_law_314 (hZ : ZRN (ztb (tb_L_law E d mc ms N xs)) cut G R T Z) (f : Nat) (L : ZLV) (st : List Value) (σ : ZHp) (n k w : Nat) : Z (f + 1) 314 L st σ n k w = s_callV E d mc ms 11 MX12_errorAt 0 317 L st σ n k w (zk1 cut G (Z f)) G R T := zrs hZ rfl f L st σ n k w
set_option maxRecDepth 20000 in
theorem f_L_law_317 (hZ : ZRN (ztb (tb_L_law E d mc ms N xs)) cut G R T Z) (f : Nat) (L : ZLV) (st : List Value) (σ : ZHp) (n k w : Nat) : Z (f + 1) 317 L st σ n k w = s_aload 2 318 L st σ n k w (zk1 cut G (Z f)) G R T := zrs hZ rfl f L st σ n k w
set_option maxRecDepth 20000 in
theorem f_L_law_318 (hZ : ZRN (ztb (tb_L_law E d mc ms N xs)) cut G R T Z) (f : Nat) (L : ZLV) (st : List Value) (σ : ZHp) (n k w : Nat) : Z (f + 1) 318 L st σ n k w = s_callV E d mc ms 14 MX15_errorAt 0 321 L st σ n k w (zk1 cut G (Z f)) G R T := zrs hZ rfl f L st σ n k w
set_option maxRecDepth 20000 in
theorem f_L_law_321 (hZ : ZRN (ztb (tb_L_law E d mc ms N xs)) cut G R T Z) (f : Nat) (L : ZLV) (st : List Value) (σ : ZHp) (n k w : Nat) : Z (f + 1) 321 L st σ n k w = s_icmp_eq 1310 324 L st σ n k w (zk1 cut G (Z f)) G R T := zrs hZ rfl f L st σ n k w
set_option maxRecDepth 20000 in
theorem f_L_law_324 (hZ : ZRN (ztb (tb_L_law E d mc ms N xs)) cut G R T Z) (f : Nat) (L : ZLV) (st : List Value) (σ : ZHp) (n k w : Nat) : Z (f + 1) 324 L st σ n k w = s_const (.int (0)) 325 L st σ n k w (zk1 cut G (Z f)) G R T := zrs hZ rfl f L st σ n k w
set_option maxRecDepth 20000 in
theorem f_L_law_325 (hZ : ZRN (ztb (tb_L_law E d mc ms N xs)) cut G R T Z) (f : Nat) (L : ZLV) (st : List Value) (σ : ZHp) (n k w : Nat) : Z (f + 1) 325 L st σ n k w = s_zreturn L st σ n k w (zk1 cut G (Z f)) G R T := zrs hZ rfl f L st σ n k w
set_option maxRecDepth 20000 in
theorem f_L_law_326 (hZ : ZRN (ztb (tb_L_law E d mc ms N xs)) cut G R T Z) (f : Nat) (L : ZLV) (st : List Value) (σ : ZHp) (n k w : Nat) : Z (f + 1) 326 L st σ n k w = s_aload 1 327 L st σ n k w (zk1 cut G (Z f)) G R T := zrs hZ rfl f L st σ n k w
set_option maxRecDepth 20000 in
theorem f_L_law_327 (hZ : ZRN (ztb (tb_L_law E d mc ms N xs)) cut G R T Z) (f : Nat) (L : ZLV) (st : List Value) (σ : ZHp) (n k w : Nat) : Z (f + 1) 327 L st σ n k w = s_aload 0 328 L st σ n k w (zk1 cut G (Z f)) G R T := zrs hZ rfl f L st σ n k w
set_option maxRecDepth 20000 in
theorem f_L_law_328 (hZ : ZRN (ztb (tb_L_law E d mc ms N xs)) cut G R T Z) (f : Nat) (L : ZLV) (st : List Value) (σ : ZHp) (n k w : Nat) : Z (f + 1) 328 L st σ n k w = s_iload 4 330 L st σ n k w (zk1 cut G (Z f)) G R T := zrs hZ rfl f L st σ n k w
set_option maxRecDepth 20000 in
theorem f_L_law_330 (hZ : ZRN (ztb (tb_L_law E d mc ms N xs)) cut G R T Z) (f : Nat) (L : ZLV) (st : List Value) (σ : ZHp) (n k w : Nat) : Z (f + 1) 330 L st σ n k w = s_const (.int (1)) 331 L st σ n k w (zk1 cut G (Z f)) G R T := zrs hZ rfl f L st σ n k w
set_option maxRecDepth 20000 in
theorem f_L_law_331 (hZ : ZRN (ztb (tb_L_law E d mc ms N xs)) cut G R T Z) (f : Nat) (L : ZLV) (st : List Value) (σ : ZHp) (n k w : Nat) : Z (f + 1) 331 L st σ n k w = s_iadd 332 L st σ n k w (zk1 cut G (Z f)) G R T := zrs hZ rfl f L st σ n k w
set_option maxRecDepth 20000 in
theorem f_L_law_332 (hZ : ZRN (ztb (tb_L_law E d mc ms N xs)) cut G R T Z) (f : Nat) (L : ZLV) (st : List Value) (σ : ZHp) (n k w : Nat) : Z (f + 1) 332 L st σ n k w = s_ialdQ E 300 N xs 333 L st σ n k w (zk1 cut G (Z f)) G R T := zrs hZ rfl f L st σ n k w
set_option maxRecDepth 20000 in
theorem f_L_law_333 (hZ : ZRN (ztb (tb_L_law E d mc ms N xs)) cut G R T Z) (f : Nat) (L : ZLV) (st : List Value) (σ : ZHp) (n k w : Nat) : Z (f + 1) 333 L st σ n k w = s_aload 3 334 L st σ n k w (zk1 cut G (Z f)) G R T := zrs hZ rfl f L st σ n k w
set_option maxRecDepth 20000 in
theorem f_L_law_334 (hZ : ZRN (ztb (tb_L_law E d mc ms N xs)) cut G R T Z) (f : Nat) (L : ZLV) (st : List Value) (σ : ZHp) (n k w : Nat) : Z (f + 1) 334 L st σ n k w = s_callSH E d mc ms ML_count [(0, 9, 12, 24)] 3 337 L st σ n k w (zk1 cut G (Z f)) G R T := zrs hZ rfl f L st σ n k w
set_option maxRecDepth 20000 in
theorem f_L_law_337 (hZ : ZRN (ztb (tb_L_law E d mc ms N xs)) cut G R T Z) (f : Nat) (L : ZLV) (st : List Value) (σ : ZHp) (n k w : Nat) : Z (f + 1) 337 L st σ n k w = s_istore 5 339 L st σ n k w (zk1 cut G (Z f)) G R T := zrs hZ rfl f L st σ n k w
set_option maxRecDepth 20000 in
theorem f_L_law_339 (hZ : ZRN (ztb (tb_L_law E d mc ms N xs)) cut G R T Z) (f : Nat) (L : ZLV) (st : List Value) (σ : ZHp) (n k w : Nat) : Z (f + 1) 339 L st σ n k w = s_aload 2 340 L st σ n k w (zk1 cut G (Z f)) G R T := zrs hZ rfl f L st σ n k w
set_option maxRecDepth 20000 in
theorem f_L_law_340 (hZ : ZRN (ztb (tb_L_law E d mc ms N xs)) cut G R T Z) (f : Nat) (L : ZLV) (st : List Value) (σ : ZHp) (n k w : Nat) : Z (f + 1) 340 L st σ n k w = s_aload 0 341 L st σ n k w (zk1 cut G (Z f)) G R T := zrs hZ rfl f L st σ n k w
set_option maxRecDepth 20000 in
theorem f_L_law_341 (hZ : ZRN (ztb (tb_L_law E d mc ms N xs)) cut G R T Z) (f : Nat) (L : ZLV) (st : List Value) (σ : ZHp) (n k w : Nat) : Z (f + 1) 341 L st σ n k w = s_iload 4 343 L st σ n k w (zk1 cut G (Z f)) G R T := zrs hZ rfl f L st σ n k w
set_option maxRecDepth 20000 in
theorem f_L_law_343 (hZ : ZRN (ztb (tb_L_law E d mc ms N xs)) cut G R T Z) (f : Nat) (L : ZLV) (st : List Value) (σ : ZHp) (n k w : Nat) : Z (f + 1) 343 L st σ n k w = s_const (.int (1)) 344 L st σ n k w (zk1 cut G (Z f)) G R T := zrs hZ rfl f L st σ n k w
set_option maxRecDepth 20000 in
theorem f_L_law_344 (hZ : ZRN (ztb (tb_L_law E d mc ms N xs)) cut G R T Z) (f : Nat) (L : ZLV) (st : List Value) (σ : ZHp) (n k w : Nat) : Z (f + 1) 344 L st σ n k w = s_iadd 345 L st σ n k w (zk1 cut G (Z f)) G R T := zrs hZ rfl f L st σ n k w
set_option maxRecDepth 20000 in
theorem f_L_law_345 (hZ : ZRN (ztb (tb_L_law E d mc ms N xs)) cut G R T Z) (f : Nat) (L : ZLV) (st : List Value) (σ : ZHp) (n k w : Nat) : Z (f + 1) 345 L st σ n k w = s_ialdQ E 300 N xs 346 L st σ n k w (zk1 cut G (Z f)) G R T := zrs hZ rfl f L st σ n k w
set_option maxRecDepth 20000 in
theorem f_L_law_346 (hZ : ZRN (ztb (tb_L_law E d mc ms N xs)) cut G R T Z) (f : Nat) (L : ZLV) (st : List Value) (σ : ZHp) (n k w : Nat) : Z (f + 1) 346 L st σ n k w = s_callV E d mc ms 14 MX15_count 1 349 L st σ n k w (zk1 cut G (Z f)) G R T := zrs hZ rfl f L st σ n k w
set_option maxRecDepth 20000 in
theorem f_L_law_349 (hZ : ZRN (ztb (tb_L_law E d mc ms N xs)) cut G R T Z) (f : Nat) (L : ZLV) (st : List Value) (σ : ZHp) (n k w : Nat) : Z (f + 1) 349 L st σ n k w = s_istore 6 351 L st σ n k w (zk1 cut G (Z f)) G R T := zrs hZ rfl f L st σ n k w
set_option maxRecDepth 20000 in
theorem f_L_law_351 (hZ : ZRN (ztb (tb_L_law E d mc ms N xs)) cut G R T Z) (f : Nat) (L : ZLV) (st : List Value) (σ : ZHp) (n k w : Nat) : Z (f + 1) 351 L st σ n k w = s_aload 2 352 L st σ n k w (zk1 cut G (Z f)) G R T := zrs hZ rfl f L st σ n k w
set_option maxRecDepth 20000 in
theorem f_L_law_352 (hZ : ZRN (ztb (tb_L_law E d mc ms N xs)) cut G R T Z) (f : Nat) (L : ZLV) (st : List Value) (σ : ZHp) (n k w : Nat) : Z (f + 1) 352 L st σ n k w = s_callV E d mc ms 14 MX15_thrown 0 355 L st σ n k w (zk1 cut G (Z f)) G R T := zrs hZ rfl f L st σ n k w
set_option maxRecDepth 20000 in
theorem f_L_law_355 (hZ : ZRN (ztb (tb_L_law E d mc ms N xs)) cut G R T Z) (f : Nat) (L : ZLV) (st : List Value) (σ : ZHp) (n k w : Nat) : Z (f + 1) 355 L st σ n k w = s_iload 5 357 L st σ n k w (zk1 cut G (Z f)) G R T := zrs hZ rfl f L st σ n k w
set_option maxRecDepth 20000 in
theorem f_L_law_357 (hZ : ZRN (ztb (tb_L_law E d mc ms N xs)) cut G R T Z) (f : Nat) (L : ZLV) (st : List Value) (σ : ZHp) (n k w : Nat) : Z (f + 1) 357 L st σ n k w = s_icmp_eq 362 360 L st σ n k w (zk1 cut G (Z f)) G R T := zrs hZ rfl f L st σ n k w
set_option maxRecDepth 20000 in
theorem f_L_law_360 (hZ : ZRN (ztb (tb_L_law E d mc ms N xs)) cut G R T Z) (f : Nat) (L : ZLV) (st : List Value) (σ : ZHp) (n k w : Nat) : Z (f + 1) 360 L st σ n k w = s_const (.int (0)) 361 L st σ n k w (zk1 cut G (Z f)) G R T := zrs hZ rfl f L st σ n k w
set_option maxRecDepth 20000 in
theorem f_L_law_361 (hZ : ZRN (ztb (tb_L_law E d mc ms N xs)) cut G R T Z) (f : Nat) (L : ZLV) (st : List Value) (σ : ZHp) (n k w : Nat) : Z (f + 1) 361 L st σ n k w = s_zreturn L st σ n k w (zk1 cut G (Z f)) G R T := zrs hZ rfl f L st σ n k w
set_option maxRecDepth 20000 in
theorem f_L_law_362 (hZ : ZRN (ztb (tb_L_law E d mc ms N xs)) cut G R T Z) (f : Nat) (L : ZLV) (st : List Value) (σ : ZHp) (n k w : Nat) : Z (f + 1) 362 L st σ n k w = s_iload 5 364 L st σ n k w (zk1 cut G (Z f)) G R T := zrs hZ rfl f L st σ n k w
set_option maxRecDepth 20000 in
theorem f_L_law_364 (hZ : ZRN (ztb (tb_L_law E d mc ms N xs)) cut G R T Z) (f : Nat) (L : ZLV) (st : List Value) (σ : ZHp) (n k w : Nat) : Z (f + 1) 364 L st σ n k w = s_if_ne 379 367 L st σ n k w (zk1 cut G (Z f)) G R T := zrs hZ rfl f L st σ n k w
set_option maxRecDepth 20000 in
theorem f_L_law_367 (hZ : ZRN (ztb (tb_L_law E d mc ms N xs)) cut G R T Z) (f : Nat) (L : ZLV) (st : List Value) (σ : ZHp) (n k w : Nat) : Z (f + 1) 367 L st σ n k w = s_aload 3 368 L st σ n k w (zk1 cut G (Z f)) G R T := zrs hZ rfl f L st σ n k w
set_option maxRecDepth 20000 in
theorem f_L_law_368 (hZ : ZRN (ztb (tb_L_law E d mc ms N xs)) cut G R T Z) (f : Nat) (L : ZLV) (st : List Value) (σ : ZHp) (n k w : Nat) : Z (f + 1) 368 L st σ n k w = s_const (.int (0)) 369 L st σ n k w (zk1 cut G (Z f)) G R T := zrs hZ rfl f L st σ n k w
set_option maxRecDepth 20000 in
theorem f_L_law_369 (hZ : ZRN (ztb (tb_L_law E d mc ms N xs)) cut G R T Z) (f : Nat) (L : ZLV) (st : List Value) (σ : ZHp) (n k w : Nat) : Z (f + 1) 369 L st σ n k w = s_laload E 370 L st σ n k w (zk1 cut G (Z f)) G R T := zrs hZ rfl f L st σ n k w
set_option maxRecDepth 20000 in
theorem f_L_law_370 (hZ : ZRN (ztb (tb_L_law E d mc ms N xs)) cut G R T Z) (f : Nat) (L : ZLV) (st : List Value) (σ : ZHp) (n k w : Nat) : Z (f + 1) 370 L st σ n k w = s_iload 6 372 L st σ n k w (zk1 cut G (Z f)) G R T := zrs hZ rfl f L st σ n k w
set_option maxRecDepth 20000 in
theorem f_L_law_372 (hZ : ZRN (ztb (tb_L_law E d mc ms N xs)) cut G R T Z) (f : Nat) (L : ZLV) (st : List Value) (σ : ZHp) (n k w : Nat) : Z (f + 1) 372 L st σ n k w = s_i2l 373 L st σ n k w (zk1 cut G (Z f)) G R T := zrs hZ rfl f L st σ n k w
set_option maxRecDepth 20000 in
theorem f_L_law_373 (hZ : ZRN (ztb (tb_L_law E d mc ms N xs)) cut G R T Z) (f : Nat) (L : ZLV) (st : List Value) (σ : ZHp) (n k w : Nat) : Z (f + 1) 373 L st σ n k w = s_lcmp 374 L st σ n k w (zk1 cut G (Z f)) G R T := zrs hZ rfl f L st σ n k w
set_option maxRecDepth 20000 in
theorem f_L_law_374 (hZ : ZRN (ztb (tb_L_law E d mc ms N xs)) cut G R T Z) (f : Nat) (L : ZLV) (st : List Value) (σ : ZHp) (n k w : Nat) : Z (f + 1) 374 L st σ n k w = s_if_eq 379 377 L st σ n k w (zk1 cut G (Z f)) G R T := zrs hZ rfl f L st σ n k w
set_option maxRecDepth 20000 in
theorem f_L_law_377 (hZ : ZRN (ztb (tb_L_law E d mc ms N xs)) cut G R T Z) (f : Nat) (L : ZLV) (st : List Value) (σ : ZHp) (n k w : Nat) : Z (f + 1) 377 L st σ n k w = s_const (.int (0)) 378 L st σ n k w (zk1 cut G (Z f)) G R T := zrs hZ rfl f L st σ n k w
set_option maxRecDepth 20000 in
theorem f_L_law_378 (hZ : ZRN (ztb (tb_L_law E d mc ms N xs)) cut G R T Z) (f : Nat) (L : ZLV) (st : List Value) (σ : ZHp) (n k w : Nat) : Z (f + 1) 378 L st σ n k w = s_zreturn L st σ n k w (zk1 cut G (Z f)) G R T := zrs hZ rfl f L st σ n k w
set_option maxRecDepth 20000 in
theorem f_L_law_379 (hZ : ZRN (ztb (tb_L_law E d mc ms N xs)) cut G R T Z) (f : Nat) (L : ZLV) (st : List Value) (σ : ZHp) (n k w : Nat) : Z (f + 1) 379 L st σ n k w = s_goto 1310 L st σ n k w (zk1 cut G (Z f)) G R T := zrs hZ rfl f L st σ n k w
set_option maxRecDepth 20000 in
theorem f_L_law_382 (hZ : ZRN (ztb (tb_L_law E d mc ms N xs)) cut G R T Z) (f : Nat) (L : ZLV) (st : List Value) (σ : ZHp) (n k w : Nat) : Z (f + 1) 382 L st σ n k w = s_aload 1 383 L st σ n k w (zk1 cut G (Z f)) G R T := zrs hZ rfl f L st σ n k w
set_option maxRecDepth 20000 in
theorem f_L_law_383 (hZ : ZRN (ztb (tb_L_law E d mc ms N xs)) cut G R T Z) (f : Nat) (L : ZLV) (st : List Value) (σ : ZHp) (n k w : Nat) : Z (f + 1) 383 L st σ n k w = s_aload 0 384 L st σ n k w (zk1 cut G (Z f)) G R T := zrs hZ rfl f L st σ n k w
set_option maxRecDepth 20000 in
theorem f_L_law_384 (hZ : ZRN (ztb (tb_L_law E d mc ms N xs)) cut G R T Z) (f : Nat) (L : ZLV) (st : List Value) (σ : ZHp) (n k w : Nat) : Z (f + 1) 384 L st σ n k w = s_iload 4 386 L st σ n k w (zk1 cut G (Z f)) G R T := zrs hZ rfl f L st σ n k w
set_option maxRecDepth 20000 in
theorem f_L_law_386 (hZ : ZRN (ztb (tb_L_law E d mc ms N xs)) cut G R T Z) (f : Nat) (L : ZLV) (st : List Value) (σ : ZHp) (n k w : Nat) : Z (f + 1) 386 L st σ n k w = s_const (.int (1)) 387 L st σ n k w (zk1 cut G (Z f)) G R T := zrs hZ rfl f L st σ n k w
set_option maxRecDepth 20000 in
theorem f_L_law_387 (hZ : ZRN (ztb (tb_L_law E d mc ms N xs)) cut G R T Z) (f : Nat) (L : ZLV) (st : List Value) (σ : ZHp) (n k w : Nat) : Z (f + 1) 387 L st σ n k w = s_iadd 388 L st σ n k w (zk1 cut G (Z f)) G R T := zrs hZ rfl f L st σ n k w
set_option maxRecDepth 20000 in
theorem f_L_law_388 (hZ : ZRN (ztb (tb_L_law E d mc ms N xs)) cut G R T Z) (f : Nat) (L : ZLV) (st : List Value) (σ : ZHp) (n k w : Nat) : Z (f + 1) 388 L st σ n k w = s_ialdQ E 300 N xs 389 L st σ n k w (zk1 cut G (Z f)) G R T := zrs hZ rfl f L st σ n k w
set_option maxRecDepth 20000 in
theorem f_L_law_389 (hZ : ZRN (ztb (tb_L_law E d mc ms N xs)) cut G R T Z) (f : Nat) (L : ZLV) (st : List Value) (σ : ZHp) (n k w : Nat) : Z (f + 1) 389 L st σ n k w = s_aload 0 390 L st σ n k w (zk1 cut G (Z f)) G R T := zrs hZ rfl f L st σ n k w
set_option maxRecDepth 20000 in
theorem f_L_law_390 (hZ : ZRN (ztb (tb_L_law E d mc ms N xs)) cut G R T Z) (f : Nat) (L : ZLV) (st : List Value) (σ : ZHp) (n k w : Nat) : Z (f + 1) 390 L st σ n k w = s_iload 4 392 L st σ n k w (zk1 cut G (Z f)) G R T := zrs hZ rfl f L st σ n k w
set_option maxRecDepth 20000 in
theorem f_L_law_392 (hZ : ZRN (ztb (tb_L_law E d mc ms N xs)) cut G R T Z) (f : Nat) (L : ZLV) (st : List Value) (σ : ZHp) (n k w : Nat) : Z (f + 1) 392 L st σ n k w = s_const (.int (2)) 393 L st σ n k w (zk1 cut G (Z f)) G R T := zrs hZ rfl f L st σ n k w
set_option maxRecDepth 20000 in
theorem f_L_law_393 (hZ : ZRN (ztb (tb_L_law E d mc ms N xs)) cut G R T Z) (f : Nat) (L : ZLV) (st : List Value) (σ : ZHp) (n k w : Nat) : Z (f + 1) 393 L st σ n k w = s_iadd 394 L st σ n k w (zk1 cut G (Z f)) G R T := zrs hZ rfl f L st σ n k w
set_option maxRecDepth 20000 in
theorem f_L_law_394 (hZ : ZRN (ztb (tb_L_law E d mc ms N xs)) cut G R T Z) (f : Nat) (L : ZLV) (st : List Value) (σ : ZHp) (n k w : Nat) : Z (f + 1) 394 L st σ n k w = s_ialdQ E 300 N xs 395 L st σ n k w (zk1 cut G (Z f)) G R T := zrs hZ rfl f L st σ n k w
set_option maxRecDepth 20000 in
theorem f_L_law_395 (hZ : ZRN (ztb (tb_L_law E d mc ms N xs)) cut G R T Z) (f : Nat) (L : ZLV) (st : List Value) (σ : ZHp) (n k w : Nat) : Z (f + 1) 395 L st σ n k w = s_aload 3 396 L st σ n k w (zk1 cut G (Z f)) G R T := zrs hZ rfl f L st σ n k w
set_option maxRecDepth 20000 in
theorem f_L_law_396 (hZ : ZRN (ztb (tb_L_law E d mc ms N xs)) cut G R T Z) (f : Nat) (L : ZLV) (st : List Value) (σ : ZHp) (n k w : Nat) : Z (f + 1) 396 L st σ n k w = s_callSH E d mc ms ML_card [(0, 10, 13, 24)] 4 399 L st σ n k w (zk1 cut G (Z f)) G R T := zrs hZ rfl f L st σ n k w
set_option maxRecDepth 20000 in
theorem f_L_law_399 (hZ : ZRN (ztb (tb_L_law E d mc ms N xs)) cut G R T Z) (f : Nat) (L : ZLV) (st : List Value) (σ : ZHp) (n k w : Nat) : Z (f + 1) 399 L st σ n k w = s_istore 5 401 L st σ n k w (zk1 cut G (Z f)) G R T := zrs hZ rfl f L st σ n k w
set_option maxRecDepth 20000 in
theorem f_L_law_401 (hZ : ZRN (ztb (tb_L_law E d mc ms N xs)) cut G R T Z) (f : Nat) (L : ZLV) (st : List Value) (σ : ZHp) (n k w : Nat) : Z (f + 1) 401 L st σ n k w = s_aload 2 402 L st σ n k w (zk1 cut G (Z f)) G R T := zrs hZ rfl f L st σ n k w
set_option maxRecDepth 20000 in
theorem f_L_law_402 (hZ : ZRN (ztb (tb_L_law E d mc ms N xs)) cut G R T Z) (f : Nat) (L : ZLV) (st : List Value) (σ : ZHp) (n k w : Nat) : Z (f + 1) 402 L st σ n k w = s_aload 0 403 L st σ n k w (zk1 cut G (Z f)) G R T := zrs hZ rfl f L st σ n k w
set_option maxRecDepth 20000 in
theorem f_L_law_403 (hZ : ZRN (ztb (tb_L_law E d mc ms N xs)) cut G R T Z) (f : Nat) (L : ZLV) (st : List Value) (σ : ZHp) (n k w : Nat) : Z (f + 1) 403 L st σ n k w = s_iload 4 405 L st σ n k w (zk1 cut G (Z f)) G R T := zrs hZ rfl f L st σ n k w
set_option maxRecDepth 20000 in
theorem f_L_law_405 (hZ : ZRN (ztb (tb_L_law E d mc ms N xs)) cut G R T Z) (f : Nat) (L : ZLV) (st : List Value) (σ : ZHp) (n k w : Nat) : Z (f + 1) 405 L st σ n k w = s_const (.int (1)) 406 L st σ n k w (zk1 cut G (Z f)) G R T := zrs hZ rfl f L st σ n k w
set_option maxRecDepth 20000 in
theorem f_L_law_406 (hZ : ZRN (ztb (tb_L_law E d mc ms N xs)) cut G R T Z) (f : Nat) (L : ZLV) (st : List Value) (σ : ZHp) (n k w : Nat) : Z (f + 1) 406 L st σ n k w = s_iadd 407 L st σ n k w (zk1 cut G (Z f)) G R T := zrs hZ rfl f L st σ n k w
set_option maxRecDepth 20000 in
theorem f_L_law_407 (hZ : ZRN (ztb (tb_L_law E d mc ms N xs)) cut G R T Z) (f : Nat) (L : ZLV) (st : List Value) (σ : ZHp) (n k w : Nat) : Z (f + 1) 407 L st σ n k w = s_ialdQ E 300 N xs 408 L st σ n k w (zk1 cut G (Z f)) G R T := zrs hZ rfl f L st σ n k w
set_option maxRecDepth 20000 in
theorem f_L_law_408 (hZ : ZRN (ztb (tb_L_law E d mc ms N xs)) cut G R T Z) (f : Nat) (L : ZLV) (st : List Value) (σ : ZHp) (n k w : Nat) : Z (f + 1) 408 L st σ n k w = s_aload 0 409 L st σ n k w (zk1 cut G (Z f)) G R T := zrs hZ rfl f L st σ n k w
set_option maxRecDepth 20000 in
theorem f_L_law_409 (hZ : ZRN (ztb (tb_L_law E d mc ms N xs)) cut G R T Z) (f : Nat) (L : ZLV) (st : List Value) (σ : ZHp) (n k w : Nat) : Z (f + 1) 409 L st σ n k w = s_iload 4 411 L st σ n k w (zk1 cut G (Z f)) G R T := zrs hZ rfl f L st σ n k w
set_option maxRecDepth 20000 in
theorem f_L_law_411 (hZ : ZRN (ztb (tb_L_law E d mc ms N xs)) cut G R T Z) (f : Nat) (L : ZLV) (st : List Value) (σ : ZHp) (n k w : Nat) : Z (f + 1) 411 L st σ n k w = s_const (.int (2)) 412 L st σ n k w (zk1 cut G (Z f)) G R T := zrs hZ rfl f L st σ n k w
set_option maxRecDepth 20000 in
theorem f_L_law_412 (hZ : ZRN (ztb (tb_L_law E d mc ms N xs)) cut G R T Z) (f : Nat) (L : ZLV) (st : List Value) (σ : ZHp) (n k w : Nat) : Z (f + 1) 412 L st σ n k w = s_iadd 413 L st σ n k w (zk1 cut G (Z f)) G R T := zrs hZ rfl f L st σ n k w
set_option maxRecDepth 20000 in
theorem f_L_law_413 (hZ : ZRN (ztb (tb_L_law E d mc ms N xs)) cut G R T Z) (f : Nat) (L : ZLV) (st : List Value) (σ : ZHp) (n k w : Nat) : Z (f + 1) 413 L st σ n k w = s_ialdQ E 300 N xs 414 L st σ n k w (zk1 cut G (Z f)) G R T := zrs hZ rfl f L st σ n k w
set_option maxRecDepth 20000 in
theorem f_L_law_414 (hZ : ZRN (ztb (tb_L_law E d mc ms N xs)) cut G R T Z) (f : Nat) (L : ZLV) (st : List Value) (σ : ZHp) (n k w : Nat) : Z (f + 1) 414 L st σ n k w = s_callV E d mc ms 14 MX15_card 2 417 L st σ n k w (zk1 cut G (Z f)) G R T := zrs hZ rfl f L st σ n k w
set_option maxRecDepth 20000 in
theorem f_L_law_417 (hZ : ZRN (ztb (tb_L_law E d mc ms N xs)) cut G R T Z) (f : Nat) (L : ZLV) (st : List Value) (σ : ZHp) (n k w : Nat) : Z (f + 1) 417 L st σ n k w = s_istore 6 419 L st σ n k w (zk1 cut G (Z f)) G R T := zrs hZ rfl f L st σ n k w
set_option maxRecDepth 20000 in
theorem f_L_law_419 (hZ : ZRN (ztb (tb_L_law E d mc ms N xs)) cut G R T Z) (f : Nat) (L : ZLV) (st : List Value) (σ : ZHp) (n k w : Nat) : Z (f + 1) 419 L st σ n k w = s_aload 2 420 L st σ n k w (zk1 cut G (Z f)) G R T := zrs hZ rfl f L st σ n k w
set_option maxRecDepth 20000 in
theorem f_L_law_420 (hZ : ZRN (ztb (tb_L_law E d mc ms N xs)) cut G R T Z) (f : Nat) (L : ZLV) (st : List Value) (σ : ZHp) (n k w : Nat) : Z (f + 1) 420 L st σ n k w = s_callV E d mc ms 14 MX15_thrown 0 423 L st σ n k w (zk1 cut G (Z f)) G R T := zrs hZ rfl f L st σ n k w
set_option maxRecDepth 20000 in
theorem f_L_law_423 (hZ : ZRN (ztb (tb_L_law E d mc ms N xs)) cut G R T Z) (f : Nat) (L : ZLV) (st : List Value) (σ : ZHp) (n k w : Nat) : Z (f + 1) 423 L st σ n k w = s_iload 5 425 L st σ n k w (zk1 cut G (Z f)) G R T := zrs hZ rfl f L st σ n k w
set_option maxRecDepth 20000 in
theorem f_L_law_425 (hZ : ZRN (ztb (tb_L_law E d mc ms N xs)) cut G R T Z) (f : Nat) (L : ZLV) (st : List Value) (σ : ZHp) (n k w : Nat) : Z (f + 1) 425 L st σ n k w = s_icmp_eq 430 428 L st σ n k w (zk1 cut G (Z f)) G R T := zrs hZ rfl f L st σ n k w
set_option maxRecDepth 20000 in
theorem f_L_law_428 (hZ : ZRN (ztb (tb_L_law E d mc ms N xs)) cut G R T Z) (f : Nat) (L : ZLV) (st : List Value) (σ : ZHp) (n k w : Nat) : Z (f + 1) 428 L st σ n k w = s_const (.int (0)) 429 L st σ n k w (zk1 cut G (Z f)) G R T := zrs hZ rfl f L st σ n k w
set_option maxRecDepth 20000 in
theorem f_L_law_429 (hZ : ZRN (ztb (tb_L_law E d mc ms N xs)) cut G R T Z) (f : Nat) (L : ZLV) (st : List Value) (σ : ZHp) (n k w : Nat) : Z (f + 1) 429 L st σ n k w = s_zreturn L st σ n k w (zk1 cut G (Z f)) G R T := zrs hZ rfl f L st σ n k w
set_option maxRecDepth 20000 in
theorem f_L_law_430 (hZ : ZRN (ztb (tb_L_law E d mc ms N xs)) cut G R T Z) (f : Nat) (L : ZLV) (st : List Value) (σ : ZHp) (n k w : Nat) : Z (f + 1) 430 L st σ n k w = s_iload 5 432 L st σ n k w (zk1 cut G (Z f)) G R T := zrs hZ rfl f L st σ n k w
set_option maxRecDepth 20000 in
theorem f_L_law_432 (hZ : ZRN (ztb (tb_L_law E d mc ms N xs)) cut G R T Z) (f : Nat) (L : ZLV) (st : List Value) (σ : ZHp) (n k w : Nat) : Z (f + 1) 432 L st σ n k w = s_if_ne 447 435 L st σ n k w (zk1 cut G (Z f)) G R T := zrs hZ rfl f L st σ n k w
set_option maxRecDepth 20000 in
theorem f_L_law_435 (hZ : ZRN (ztb (tb_L_law E d mc ms N xs)) cut G R T Z) (f : Nat) (L : ZLV) (st : List Value) (σ : ZHp) (n k w : Nat) : Z (f + 1) 435 L st σ n k w = s_aload 3 436 L st σ n k w (zk1 cut G (Z f)) G R T := zrs hZ rfl f L st σ n k w
set_option maxRecDepth 20000 in
theorem f_L_law_436 (hZ : ZRN (ztb (tb_L_law E d mc ms N xs)) cut G R T Z) (f : Nat) (L : ZLV) (st : List Value) (σ : ZHp) (n k w : Nat) : Z (f + 1) 436 L st σ n k w = s_const (.int (0)) 437 L st σ n k w (zk1 cut G (Z f)) G R T := zrs hZ rfl f L st σ n k w
set_option maxRecDepth 20000 in
theorem f_L_law_437 (hZ : ZRN (ztb (tb_L_law E d mc ms N xs)) cut G R T Z) (f : Nat) (L : ZLV) (st : List Value) (σ : ZHp) (n k w : Nat) : Z (f + 1) 437 L st σ n k w = s_laload E 438 L st σ n k w (zk1 cut G (Z f)) G R T := zrs hZ rfl f L st σ n k w
set_option maxRecDepth 20000 in
theorem f_L_law_438 (hZ : ZRN (ztb (tb_L_law E d mc ms N xs)) cut G R T Z) (f : Nat) (L : ZLV) (st : List Value) (σ : ZHp) (n k w : Nat) : Z (f + 1) 438 L st σ n k w = s_iload 6 440 L st σ n k w (zk1 cut G (Z f)) G R T := zrs hZ rfl f L st σ n k w
set_option maxRecDepth 20000 in
theorem f_L_law_440 (hZ : ZRN (ztb (tb_L_law E d mc ms N xs)) cut G R T Z) (f : Nat) (L : ZLV) (st : List Value) (σ : ZHp) (n k w : Nat) : Z (f + 1) 440 L st σ n k w = s_i2l 441 L st σ n k w (zk1 cut G (Z f)) G R T := zrs hZ rfl f L st σ n k w
set_option maxRecDepth 20000 in
theorem f_L_law_441 (hZ : ZRN (ztb (tb_L_law E d mc ms N xs)) cut G R T Z) (f : Nat) (L : ZLV) (st : List Value) (σ : ZHp) (n k w : Nat) : Z (f + 1) 441 L st σ n k w = s_lcmp 442 L st σ n k w (zk1 cut G (Z f)) G R T := zrs hZ rfl f L st σ n k w
set_option maxRecDepth 20000 in
theorem f_L_law_442 (hZ : ZRN (ztb (tb_L_law E d mc ms N xs)) cut G R T Z) (f : Nat) (L : ZLV) (st : List Value) (σ : ZHp) (n k w : Nat) : Z (f + 1) 442 L st σ n k w = s_if_eq 447 445 L st σ n k w (zk1 cut G (Z f)) G R T := zrs hZ rfl f L st σ n k w
set_option maxRecDepth 20000 in
theorem f_L_law_445 (hZ : ZRN (ztb (tb_L_law E d mc ms N xs)) cut G R T Z) (f : Nat) (L : ZLV) (st : List Value) (σ : ZHp) (n k w : Nat) : Z (f + 1) 445 L st σ n k w = s_const (.int (0)) 446 L st σ n k w (zk1 cut G (Z f)) G R T := zrs hZ rfl f L st σ n k w
set_option maxRecDepth 20000 in
theorem f_L_law_446 (hZ : ZRN (ztb (tb_L_law E d mc ms N xs)) cut G R T Z) (f : Nat) (L : ZLV) (st : List Value) (σ : ZHp) (n k w : Nat) : Z (f + 1) 446 L st σ n k w = s_zreturn L st σ n k w (zk1 cut G (Z f)) G R T := zrs hZ rfl f L st σ n k w
set_option maxRecDepth 20000 in
theorem f_L_law_447 (hZ : ZRN (ztb (tb_L_law E d mc ms N xs)) cut G R T Z) (f : Nat) (L : ZLV) (st : List Value) (σ : ZHp) (n k w : Nat) : Z (f + 1) 447 L st σ n k w = s_goto 1310 L st σ n k w (zk1 cut G (Z f)) G R T := zrs hZ rfl f L st σ n k w
set_option maxRecDepth 20000 in
theorem f_L_law_450 (hZ : ZRN (ztb (tb_L_law E d mc ms N xs)) cut G R T Z) (f : Nat) (L : ZLV) (st : List Value) (σ : ZHp) (n k w : Nat) : Z (f + 1) 450 L st σ n k w = s_aload 1 451 L st σ n k w (zk1 cut G (Z f)) G R T := zrs hZ rfl f L st σ n k w
set_option maxRecDepth 20000 in
theorem f_L_law_451 (hZ : ZRN (ztb (tb_L_law E d mc ms N xs)) cut G R T Z) (f : Nat) (L : ZLV) (st : List Value) (σ : ZHp) (n k w : Nat) : Z (f + 1) 451 L st σ n k w = s_aload 0 452 L st σ n k w (zk1 cut G (Z f)) G R T := zrs hZ rfl f L st σ n k w
set_option maxRecDepth 20000 in
theorem f_L_law_452 (hZ : ZRN (ztb (tb_L_law E d mc ms N xs)) cut G R T Z) (f : Nat) (L : ZLV) (st : List Value) (σ : ZHp) (n k w : Nat) : Z (f + 1) 452 L st σ n k w = s_iload 4 454 L st σ n k w (zk1 cut G (Z f)) G R T := zrs hZ rfl f L st σ n k w
set_option maxRecDepth 20000 in
theorem f_L_law_454 (hZ : ZRN (ztb (tb_L_law E d mc ms N xs)) cut G R T Z) (f : Nat) (L : ZLV) (st : List Value) (σ : ZHp) (n k w : Nat) : Z (f + 1) 454 L st σ n k w = s_const (.int (1)) 455 L st σ n k w (zk1 cut G (Z f)) G R T := zrs hZ rfl f L st σ n k w
set_option maxRecDepth 20000 in
theorem f_L_law_455 (hZ : ZRN (ztb (tb_L_law E d mc ms N xs)) cut G R T Z) (f : Nat) (L : ZLV) (st : List Value) (σ : ZHp) (n k w : Nat) : Z (f + 1) 455 L st σ n k w = s_iadd 456 L st σ n k w (zk1 cut G (Z f)) G R T := zrs hZ rfl f L st σ n k w
set_option maxRecDepth 20000 in
theorem f_L_law_456 (hZ : ZRN (ztb (tb_L_law E d mc ms N xs)) cut G R T Z) (f : Nat) (L : ZLV) (st : List Value) (σ : ZHp) (n k w : Nat) : Z (f + 1) 456 L st σ n k w = s_ialdQ E 300 N xs 457 L st σ n k w (zk1 cut G (Z f)) G R T := zrs hZ rfl f L st σ n k w
set_option maxRecDepth 20000 in
theorem f_L_law_457 (hZ : ZRN (ztb (tb_L_law E d mc ms N xs)) cut G R T Z) (f : Nat) (L : ZLV) (st : List Value) (σ : ZHp) (n k w : Nat) : Z (f + 1) 457 L st σ n k w = s_aload 0 458 L st σ n k w (zk1 cut G (Z f)) G R T := zrs hZ rfl f L st σ n k w
set_option maxRecDepth 20000 in
theorem f_L_law_458 (hZ : ZRN (ztb (tb_L_law E d mc ms N xs)) cut G R T Z) (f : Nat) (L : ZLV) (st : List Value) (σ : ZHp) (n k w : Nat) : Z (f + 1) 458 L st σ n k w = s_iload 4 460 L st σ n k w (zk1 cut G (Z f)) G R T := zrs hZ rfl f L st σ n k w
set_option maxRecDepth 20000 in
theorem f_L_law_460 (hZ : ZRN (ztb (tb_L_law E d mc ms N xs)) cut G R T Z) (f : Nat) (L : ZLV) (st : List Value) (σ : ZHp) (n k w : Nat) : Z (f + 1) 460 L st σ n k w = s_const (.int (2)) 461 L st σ n k w (zk1 cut G (Z f)) G R T := zrs hZ rfl f L st σ n k w
set_option maxRecDepth 20000 in
theorem f_L_law_461 (hZ : ZRN (ztb (tb_L_law E d mc ms N xs)) cut G R T Z) (f : Nat) (L : ZLV) (st : List Value) (σ : ZHp) (n k w : Nat) : Z (f + 1) 461 L st σ n k w = s_iadd 462 L st σ n k w (zk1 cut G (Z f)) G R T := zrs hZ rfl f L st σ n k w
set_option maxRecDepth 20000 in
theorem f_L_law_462 (hZ : ZRN (ztb (tb_L_law E d mc ms N xs)) cut G R T Z) (f : Nat) (L : ZLV) (st : List Value) (σ : ZHp) (n k w : Nat) : Z (f + 1) 462 L st σ n k w = s_ialdQ E 300 N xs 463 L st σ n k w (zk1 cut G (Z f)) G R T := zrs hZ rfl f L st σ n k w
set_option maxRecDepth 20000 in
theorem f_L_law_463 (hZ : ZRN (ztb (tb_L_law E d mc ms N xs)) cut G R T Z) (f : Nat) (L : ZLV) (st : List Value) (σ : ZHp) (n k w : Nat) : Z (f + 1) 463 L st σ n k w = s_aload 3 464 L st σ n k w (zk1 cut G (Z f)) G R T := zrs hZ rfl f L st σ n k w
set_option maxRecDepth 20000 in
theorem f_L_law_464 (hZ : ZRN (ztb (tb_L_law E d mc ms N xs)) cut G R T Z) (f : Nat) (L : ZLV) (st : List Value) (σ : ZHp) (n k w : Nat) : Z (f + 1) 464 L st σ n k w = s_callSH E d mc ms ML_merchant [(0, 10, 13, 24)] 4 467 L st σ n k w (zk1 cut G (Z f)) G R T := zrs hZ rfl f L st σ n k w
set_option maxRecDepth 20000 in
theorem f_L_law_467 (hZ : ZRN (ztb (tb_L_law E d mc ms N xs)) cut G R T Z) (f : Nat) (L : ZLV) (st : List Value) (σ : ZHp) (n k w : Nat) : Z (f + 1) 467 L st σ n k w = s_istore 5 469 L st σ n k w (zk1 cut G (Z f)) G R T := zrs hZ rfl f L st σ n k w
set_option maxRecDepth 20000 in
theorem f_L_law_469 (hZ : ZRN (ztb (tb_L_law E d mc ms N xs)) cut G R T Z) (f : Nat) (L : ZLV) (st : List Value) (σ : ZHp) (n k w : Nat) : Z (f + 1) 469 L st σ n k w = s_aload 2 470 L st σ n k w (zk1 cut G (Z f)) G R T := zrs hZ rfl f L st σ n k w
set_option maxRecDepth 20000 in
theorem f_L_law_470 (hZ : ZRN (ztb (tb_L_law E d mc ms N xs)) cut G R T Z) (f : Nat) (L : ZLV) (st : List Value) (σ : ZHp) (n k w : Nat) : Z (f + 1) 470 L st σ n k w = s_aload 0 471 L st σ n k w (zk1 cut G (Z f)) G R T := zrs hZ rfl f L st σ n k w
set_option maxRecDepth 20000 in
theorem f_L_law_471 (hZ : ZRN (ztb (tb_L_law E d mc ms N xs)) cut G R T Z) (f : Nat) (L : ZLV) (st : List Value) (σ : ZHp) (n k w : Nat) : Z (f + 1) 471 L st σ n k w = s_iload 4 473 L st σ n k w (zk1 cut G (Z f)) G R T := zrs hZ rfl f L st σ n k w
set_option maxRecDepth 20000 in
theorem f_L_law_473 (hZ : ZRN (ztb (tb_L_law E d mc ms N xs)) cut G R T Z) (f : Nat) (L : ZLV) (st : List Value) (σ : ZHp) (n k w : Nat) : Z (f + 1) 473 L st σ n k w = s_const (.int (1)) 474 L st σ n k w (zk1 cut G (Z f)) G R T := zrs hZ rfl f L st σ n k w
set_option maxRecDepth 20000 in
theorem f_L_law_474 (hZ : ZRN (ztb (tb_L_law E d mc ms N xs)) cut G R T Z) (f : Nat) (L : ZLV) (st : List Value) (σ : ZHp) (n k w : Nat) : Z (f + 1) 474 L st σ n k w = s_iadd 475 L st σ n k w (zk1 cut G (Z f)) G R T := zrs hZ rfl f L st σ n k w
set_option maxRecDepth 20000 in
theorem f_L_law_475 (hZ : ZRN (ztb (tb_L_law E d mc ms N xs)) cut G R T Z) (f : Nat) (L : ZLV) (st : List Value) (σ : ZHp) (n k w : Nat) : Z (f + 1) 475 L st σ n k w = s_ialdQ E 300 N xs 476 L st σ n k w (zk1 cut G (Z f)) G R T := zrs hZ rfl f L st σ n k w
set_option maxRecDepth 20000 in
theorem f_L_law_476 (hZ : ZRN (ztb (tb_L_law E d mc ms N xs)) cut G R T Z) (f : Nat) (L : ZLV) (st : List Value) (σ : ZHp) (n k w : Nat) : Z (f + 1) 476 L st σ n k w = s_aload 0 477 L st σ n k w (zk1 cut G (Z f)) G R T := zrs hZ rfl f L st σ n k w
set_option maxRecDepth 20000 in
theorem f_L_law_477 (hZ : ZRN (ztb (tb_L_law E d mc ms N xs)) cut G R T Z) (f : Nat) (L : ZLV) (st : List Value) (σ : ZHp) (n k w : Nat) : Z (f + 1) 477 L st σ n k w = s_iload 4 479 L st σ n k w (zk1 cut G (Z f)) G R T := zrs hZ rfl f L st σ n k w
set_option maxRecDepth 20000 in
theorem f_L_law_479 (hZ : ZRN (ztb (tb_L_law E d mc ms N xs)) cut G R T Z) (f : Nat) (L : ZLV) (st : List Value) (σ : ZHp) (n k w : Nat) : Z (f + 1) 479 L st σ n k w = s_const (.int (2)) 480 L st σ n k w (zk1 cut G (Z f)) G R T := zrs hZ rfl f L st σ n k w
set_option maxRecDepth 20000 in
theorem f_L_law_480 (hZ : ZRN (ztb (tb_L_law E d mc ms N xs)) cut G R T Z) (f : Nat) (L : ZLV) (st : List Value) (σ : ZHp) (n k w : Nat) : Z (f + 1) 480 L st σ n k w = s_iadd 481 L st σ n k w (zk1 cut G (Z f)) G R T := zrs hZ rfl f L st σ n k w
set_option maxRecDepth 20000 in
theorem f_L_law_481 (hZ : ZRN (ztb (tb_L_law E d mc ms N xs)) cut G R T Z) (f : Nat) (L : ZLV) (st : List Value) (σ : ZHp) (n k w : Nat) : Z (f + 1) 481 L st σ n k w = s_ialdQ E 300 N xs 482 L st σ n k w (zk1 cut G (Z f)) G R T := zrs hZ rfl f L st σ n k w
set_option maxRecDepth 20000 in
theorem f_L_law_482 (hZ : ZRN (ztb (tb_L_law E d mc ms N xs)) cut G R T Z) (f : Nat) (L : ZLV) (st : List Value) (σ : ZHp) (n k w : Nat) : Z (f + 1) 482 L st σ n k w = s_callV E d mc ms 14 MX15_merchant 2 485 L st σ n k w (zk1 cut G (Z f)) G R T := zrs hZ rfl f L st σ n k w
set_option maxRecDepth 20000 in
theorem f_L_law_485 (hZ : ZRN (ztb (tb_L_law E d mc ms N xs)) cut G R T Z) (f : Nat) (L : ZLV) (st : List Value) (σ : ZHp) (n k w : Nat) : Z (f + 1) 485 L st σ n k w = s_istore 6 487 L st σ n k w (zk1 cut G (Z f)) G R T := zrs hZ rfl f L st σ n k w
set_option maxRecDepth 20000 in
theorem f_L_law_487 (hZ : ZRN (ztb (tb_L_law E d mc ms N xs)) cut G R T Z) (f : Nat) (L : ZLV) (st : List Value) (σ : ZHp) (n k w : Nat) : Z (f + 1) 487 L st σ n k w = s_aload 2 488 L st σ n k w (zk1 cut G (Z f)) G R T := zrs hZ rfl f L st σ n k w
set_option maxRecDepth 20000 in
theorem f_L_law_488 (hZ : ZRN (ztb (tb_L_law E d mc ms N xs)) cut G R T Z) (f : Nat) (L : ZLV) (st : List Value) (σ : ZHp) (n k w : Nat) : Z (f + 1) 488 L st σ n k w = s_callV E d mc ms 14 MX15_thrown 0 491 L st σ n k w (zk1 cut G (Z f)) G R T := zrs hZ rfl f L st σ n k w
set_option maxRecDepth 20000 in
theorem f_L_law_491 (hZ : ZRN (ztb (tb_L_law E d mc ms N xs)) cut G R T Z) (f : Nat) (L : ZLV) (st : List Value) (σ : ZHp) (n k w : Nat) : Z (f + 1) 491 L st σ n k w = s_iload 5 493 L st σ n k w (zk1 cut G (Z f)) G R T := zrs hZ rfl f L st σ n k w
set_option maxRecDepth 20000 in
theorem f_L_law_493 (hZ : ZRN (ztb (tb_L_law E d mc ms N xs)) cut G R T Z) (f : Nat) (L : ZLV) (st : List Value) (σ : ZHp) (n k w : Nat) : Z (f + 1) 493 L st σ n k w = s_icmp_eq 498 496 L st σ n k w (zk1 cut G (Z f)) G R T := zrs hZ rfl f L st σ n k w
set_option maxRecDepth 20000 in
theorem f_L_law_496 (hZ : ZRN (ztb (tb_L_law E d mc ms N xs)) cut G R T Z) (f : Nat) (L : ZLV) (st : List Value) (σ : ZHp) (n k w : Nat) : Z (f + 1) 496 L st σ n k w = s_const (.int (0)) 497 L st σ n k w (zk1 cut G (Z f)) G R T := zrs hZ rfl f L st σ n k w
set_option maxRecDepth 20000 in
theorem f_L_law_497 (hZ : ZRN (ztb (tb_L_law E d mc ms N xs)) cut G R T Z) (f : Nat) (L : ZLV) (st : List Value) (σ : ZHp) (n k w : Nat) : Z (f + 1) 497 L st σ n k w = s_zreturn L st σ n k w (zk1 cut G (Z f)) G R T := zrs hZ rfl f L st σ n k w
set_option maxRecDepth 20000 in
theorem f_L_law_498 (hZ : ZRN (ztb (tb_L_law E d mc ms N xs)) cut G R T Z) (f : Nat) (L : ZLV) (st : List Value) (σ : ZHp) (n k w : Nat) : Z (f + 1) 498 L st σ n k w = s_iload 5 500 L st σ n k w (zk1 cut G (Z f)) G R T := zrs hZ rfl f L st σ n k w
set_option maxRecDepth 20000 in
theorem f_L_law_500 (hZ : ZRN (ztb (tb_L_law E d mc ms N xs)) cut G R T Z) (f : Nat) (L : ZLV) (st : List Value) (σ : ZHp) (n k w : Nat) : Z (f + 1) 500 L st σ n k w = s_if_ne 515 503 L st σ n k w (zk1 cut G (Z f)) G R T := zrs hZ rfl f L st σ n k w
set_option maxRecDepth 20000 in
theorem f_L_law_503 (hZ : ZRN (ztb (tb_L_law E d mc ms N xs)) cut G R T Z) (f : Nat) (L : ZLV) (st : List Value) (σ : ZHp) (n k w : Nat) : Z (f + 1) 503 L st σ n k w = s_aload 3 504 L st σ n k w (zk1 cut G (Z f)) G R T := zrs hZ rfl f L st σ n k w
set_option maxRecDepth 20000 in
theorem f_L_law_504 (hZ : ZRN (ztb (tb_L_law E d mc ms N xs)) cut G R T Z) (f : Nat) (L : ZLV) (st : List Value) (σ : ZHp) (n k w : Nat) : Z (f + 1) 504 L st σ n k w = s_const (.int (0)) 505 L st σ n k w (zk1 cut G (Z f)) G R T := zrs hZ rfl f L st σ n k w
set_option maxRecDepth 20000 in
theorem f_L_law_505 (hZ : ZRN (ztb (tb_L_law E d mc ms N xs)) cut G R T Z) (f : Nat) (L : ZLV) (st : List Value) (σ : ZHp) (n k w : Nat) : Z (f + 1) 505 L st σ n k w = s_laload E 506 L st σ n k w (zk1 cut G (Z f)) G R T := zrs hZ rfl f L st σ n k w
set_option maxRecDepth 20000 in
theorem f_L_law_506 (hZ : ZRN (ztb (tb_L_law E d mc ms N xs)) cut G R T Z) (f : Nat) (L : ZLV) (st : List Value) (σ : ZHp) (n k w : Nat) : Z (f + 1) 506 L st σ n k w = s_iload 6 508 L st σ n k w (zk1 cut G (Z f)) G R T := zrs hZ rfl f L st σ n k w
set_option maxRecDepth 20000 in
theorem f_L_law_508 (hZ : ZRN (ztb (tb_L_law E d mc ms N xs)) cut G R T Z) (f : Nat) (L : ZLV) (st : List Value) (σ : ZHp) (n k w : Nat) : Z (f + 1) 508 L st σ n k w = s_i2l 509 L st σ n k w (zk1 cut G (Z f)) G R T := zrs hZ rfl f L st σ n k w
set_option maxRecDepth 20000 in
theorem f_L_law_509 (hZ : ZRN (ztb (tb_L_law E d mc ms N xs)) cut G R T Z) (f : Nat) (L : ZLV) (st : List Value) (σ : ZHp) (n k w : Nat) : Z (f + 1) 509 L st σ n k w = s_lcmp 510 L st σ n k w (zk1 cut G (Z f)) G R T := zrs hZ rfl f L st σ n k w
set_option maxRecDepth 20000 in
theorem f_L_law_510 (hZ : ZRN (ztb (tb_L_law E d mc ms N xs)) cut G R T Z) (f : Nat) (L : ZLV) (st : List Value) (σ : ZHp) (n k w : Nat) : Z (f + 1) 510 L st σ n k w = s_if_eq 515 513 L st σ n k w (zk1 cut G (Z f)) G R T := zrs hZ rfl f L st σ n k w
set_option maxRecDepth 20000 in
theorem f_L_law_513 (hZ : ZRN (ztb (tb_L_law E d mc ms N xs)) cut G R T Z) (f : Nat) (L : ZLV) (st : List Value) (σ : ZHp) (n k w : Nat) : Z (f + 1) 513 L st σ n k w = s_const (.int (0)) 514 L st σ n k w (zk1 cut G (Z f)) G R T := zrs hZ rfl f L st σ n k w
set_option maxRecDepth 20000 in
theorem f_L_law_514 (hZ : ZRN (ztb (tb_L_law E d mc ms N xs)) cut G R T Z) (f : Nat) (L : ZLV) (st : List Value) (σ : ZHp) (n k w : Nat) : Z (f + 1) 514 L st σ n k w = s_zreturn L st σ n k w (zk1 cut G (Z f)) G R T := zrs hZ rfl f L st σ n k w
set_option maxRecDepth 20000 in
theorem f_L_law_515 (hZ : ZRN (ztb (tb_L_law E d mc ms N xs)) cut G R T Z) (f : Nat) (L : ZLV) (st : List Value) (σ : ZHp) (n k w : Nat) : Z (f + 1) 515 L st σ n k w = s_goto 1310 L st σ n k w (zk1 cut G (Z f)) G R T := zrs hZ rfl f L st σ n k w
set_option maxRecDepth 20000 in
theorem f_L_law_518 (hZ : ZRN (ztb (tb_L_law E d mc ms N xs)) cut G R T Z) (f : Nat) (L : ZLV) (st : List Value) (σ : ZHp) (n k w : Nat) : Z (f + 1) 518 L st σ n k w = s_aload 1 519 L st σ n k w (zk1 cut G (Z f)) G R T := zrs hZ rfl f L st σ n k w
set_option maxRecDepth 20000 in
theorem f_L_law_519 (hZ : ZRN (ztb (tb_L_law E d mc ms N xs)) cut G R T Z) (f : Nat) (L : ZLV) (st : List Value) (σ : ZHp) (n k w : Nat) : Z (f + 1) 519 L st σ n k w = s_aload 0 520 L st σ n k w (zk1 cut G (Z f)) G R T := zrs hZ rfl f L st σ n k w
set_option maxRecDepth 20000 in
theorem f_L_law_520 (hZ : ZRN (ztb (tb_L_law E d mc ms N xs)) cut G R T Z) (f : Nat) (L : ZLV) (st : List Value) (σ : ZHp) (n k w : Nat) : Z (f + 1) 520 L st σ n k w = s_iload 4 522 L st σ n k w (zk1 cut G (Z f)) G R T := zrs hZ rfl f L st σ n k w
set_option maxRecDepth 20000 in
theorem f_L_law_522 (hZ : ZRN (ztb (tb_L_law E d mc ms N xs)) cut G R T Z) (f : Nat) (L : ZLV) (st : List Value) (σ : ZHp) (n k w : Nat) : Z (f + 1) 522 L st σ n k w = s_const (.int (1)) 523 L st σ n k w (zk1 cut G (Z f)) G R T := zrs hZ rfl f L st σ n k w
set_option maxRecDepth 20000 in
theorem f_L_law_523 (hZ : ZRN (ztb (tb_L_law E d mc ms N xs)) cut G R T Z) (f : Nat) (L : ZLV) (st : List Value) (σ : ZHp) (n k w : Nat) : Z (f + 1) 523 L st σ n k w = s_iadd 524 L st σ n k w (zk1 cut G (Z f)) G R T := zrs hZ rfl f L st σ n k w
set_option maxRecDepth 20000 in
theorem f_L_law_524 (hZ : ZRN (ztb (tb_L_law E d mc ms N xs)) cut G R T Z) (f : Nat) (L : ZLV) (st : List Value) (σ : ZHp) (n k w : Nat) : Z (f + 1) 524 L st σ n k w = s_ialdQ E 300 N xs 525 L st σ n k w (zk1 cut G (Z f)) G R T := zrs hZ rfl f L st σ n k w
set_option maxRecDepth 20000 in
theorem f_L_law_525 (hZ : ZRN (ztb (tb_L_law E d mc ms N xs)) cut G R T Z) (f : Nat) (L : ZLV) (st : List Value) (σ : ZHp) (n k w : Nat) : Z (f + 1) 525 L st σ n k w = s_aload 0 526 L st σ n k w (zk1 cut G (Z f)) G R T := zrs hZ rfl f L st σ n k w
set_option maxRecDepth 20000 in
theorem f_L_law_526 (hZ : ZRN (ztb (tb_L_law E d mc ms N xs)) cut G R T Z) (f : Nat) (L : ZLV) (st : List Value) (σ : ZHp) (n k w : Nat) : Z (f + 1) 526 L st σ n k w = s_iload 4 528 L st σ n k w (zk1 cut G (Z f)) G R T := zrs hZ rfl f L st σ n k w
set_option maxRecDepth 20000 in
theorem f_L_law_528 (hZ : ZRN (ztb (tb_L_law E d mc ms N xs)) cut G R T Z) (f : Nat) (L : ZLV) (st : List Value) (σ : ZHp) (n k w : Nat) : Z (f + 1) 528 L st σ n k w = s_const (.int (2)) 529 L st σ n k w (zk1 cut G (Z f)) G R T := zrs hZ rfl f L st σ n k w
set_option maxRecDepth 20000 in
theorem f_L_law_529 (hZ : ZRN (ztb (tb_L_law E d mc ms N xs)) cut G R T Z) (f : Nat) (L : ZLV) (st : List Value) (σ : ZHp) (n k w : Nat) : Z (f + 1) 529 L st σ n k w = s_iadd 530 L st σ n k w (zk1 cut G (Z f)) G R T := zrs hZ rfl f L st σ n k w
set_option maxRecDepth 20000 in
theorem f_L_law_530 (hZ : ZRN (ztb (tb_L_law E d mc ms N xs)) cut G R T Z) (f : Nat) (L : ZLV) (st : List Value) (σ : ZHp) (n k w : Nat) : Z (f + 1) 530 L st σ n k w = s_ialdQ E 300 N xs 531 L st σ n k w (zk1 cut G (Z f)) G R T := zrs hZ rfl f L st σ n k w
set_option maxRecDepth 20000 in
theorem f_L_law_531 (hZ : ZRN (ztb (tb_L_law E d mc ms N xs)) cut G R T Z) (f : Nat) (L : ZLV) (st : List Value) (σ : ZHp) (n k w : Nat) : Z (f + 1) 531 L st σ n k w = s_aload 3 532 L st σ n k w (zk1 cut G (Z f)) G R T := zrs hZ rfl f L st σ n k w
set_option maxRecDepth 20000 in
theorem f_L_law_532 (hZ : ZRN (ztb (tb_L_law E d mc ms N xs)) cut G R T Z) (f : Nat) (L : ZLV) (st : List Value) (σ : ZHp) (n k w : Nat) : Z (f + 1) 532 L st σ n k w = s_callSH E d mc ms ML_owns [(0, 10, 13, 24)] 4 535 L st σ n k w (zk1 cut G (Z f)) G R T := zrs hZ rfl f L st σ n k w
set_option maxRecDepth 20000 in
theorem f_L_law_535 (hZ : ZRN (ztb (tb_L_law E d mc ms N xs)) cut G R T Z) (f : Nat) (L : ZLV) (st : List Value) (σ : ZHp) (n k w : Nat) : Z (f + 1) 535 L st σ n k w = s_istore 5 537 L st σ n k w (zk1 cut G (Z f)) G R T := zrs hZ rfl f L st σ n k w
set_option maxRecDepth 20000 in
theorem f_L_law_537 (hZ : ZRN (ztb (tb_L_law E d mc ms N xs)) cut G R T Z) (f : Nat) (L : ZLV) (st : List Value) (σ : ZHp) (n k w : Nat) : Z (f + 1) 537 L st σ n k w = s_aload 2 538 L st σ n k w (zk1 cut G (Z f)) G R T := zrs hZ rfl f L st σ n k w
set_option maxRecDepth 20000 in
theorem f_L_law_538 (hZ : ZRN (ztb (tb_L_law E d mc ms N xs)) cut G R T Z) (f : Nat) (L : ZLV) (st : List Value) (σ : ZHp) (n k w : Nat) : Z (f + 1) 538 L st σ n k w = s_aload 0 539 L st σ n k w (zk1 cut G (Z f)) G R T := zrs hZ rfl f L st σ n k w
set_option maxRecDepth 20000 in
theorem f_L_law_539 (hZ : ZRN (ztb (tb_L_law E d mc ms N xs)) cut G R T Z) (f : Nat) (L : ZLV) (st : List Value) (σ : ZHp) (n k w : Nat) : Z (f + 1) 539 L st σ n k w = s_iload 4 541 L st σ n k w (zk1 cut G (Z f)) G R T := zrs hZ rfl f L st σ n k w
set_option maxRecDepth 20000 in
theorem f_L_law_541 (hZ : ZRN (ztb (tb_L_law E d mc ms N xs)) cut G R T Z) (f : Nat) (L : ZLV) (st : List Value) (σ : ZHp) (n k w : Nat) : Z (f + 1) 541 L st σ n k w = s_const (.int (1)) 542 L st σ n k w (zk1 cut G (Z f)) G R T := zrs hZ rfl f L st σ n k w
set_option maxRecDepth 20000 in
theorem f_L_law_542 (hZ : ZRN (ztb (tb_L_law E d mc ms N xs)) cut G R T Z) (f : Nat) (L : ZLV) (st : List Value) (σ : ZHp) (n k w : Nat) : Z (f + 1) 542 L st σ n k w = s_iadd 543 L st σ n k w (zk1 cut G (Z f)) G R T := zrs hZ rfl f L st σ n k w
set_option maxRecDepth 20000 in
theorem f_L_law_543 (hZ : ZRN (ztb (tb_L_law E d mc ms N xs)) cut G R T Z) (f : Nat) (L : ZLV) (st : List Value) (σ : ZHp) (n k w : Nat) : Z (f + 1) 543 L st σ n k w = s_ialdQ E 300 N xs 544 L st σ n k w (zk1 cut G (Z f)) G R T := zrs hZ rfl f L st σ n k w
set_option maxRecDepth 20000 in
theorem f_L_law_544 (hZ : ZRN (ztb (tb_L_law E d mc ms N xs)) cut G R T Z) (f : Nat) (L : ZLV) (st : List Value) (σ : ZHp) (n k w : Nat) : Z (f + 1) 544 L st σ n k w = s_aload 0 545 L st σ n k w (zk1 cut G (Z f)) G R T := zrs hZ rfl f L st σ n k w
set_option maxRecDepth 20000 in
theorem f_L_law_545 (hZ : ZRN (ztb (tb_L_law E d mc ms N xs)) cut G R T Z) (f : Nat) (L : ZLV) (st : List Value) (σ : ZHp) (n k w : Nat) : Z (f + 1) 545 L st σ n k w = s_iload 4 547 L st σ n k w (zk1 cut G (Z f)) G R T := zrs hZ rfl f L st σ n k w
set_option maxRecDepth 20000 in
theorem f_L_law_547 (hZ : ZRN (ztb (tb_L_law E d mc ms N xs)) cut G R T Z) (f : Nat) (L : ZLV) (st : List Value) (σ : ZHp) (n k w : Nat) : Z (f + 1) 547 L st σ n k w = s_const (.int (2)) 548 L st σ n k w (zk1 cut G (Z f)) G R T := zrs hZ rfl f L st σ n k w
set_option maxRecDepth 20000 in
theorem f_L_law_548 (hZ : ZRN (ztb (tb_L_law E d mc ms N xs)) cut G R T Z) (f : Nat) (L : ZLV) (st : List Value) (σ : ZHp) (n k w : Nat) : Z (f + 1) 548 L st σ n k w = s_iadd 549 L st σ n k w (zk1 cut G (Z f)) G R T := zrs hZ rfl f L st σ n k w
set_option maxRecDepth 20000 in
theorem f_L_law_549 (hZ : ZRN (ztb (tb_L_law E d mc ms N xs)) cut G R T Z) (f : Nat) (L : ZLV) (st : List Value) (σ : ZHp) (n k w : Nat) : Z (f + 1) 549 L st σ n k w = s_ialdQ E 300 N xs 550 L st σ n k w (zk1 cut G (Z f)) G R T := zrs hZ rfl f L st σ n k w
set_option maxRecDepth 20000 in
theorem f_L_law_550 (hZ : ZRN (ztb (tb_L_law E d mc ms N xs)) cut G R T Z) (f : Nat) (L : ZLV) (st : List Value) (σ : ZHp) (n k w : Nat) : Z (f + 1) 550 L st σ n k w = s_callV E d mc ms 14 MX15_owns 2 553 L st σ n k w (zk1 cut G (Z f)) G R T := zrs hZ rfl f L st σ n k w
set_option maxRecDepth 20000 in
theorem f_L_law_553 (hZ : ZRN (ztb (tb_L_law E d mc ms N xs)) cut G R T Z) (f : Nat) (L : ZLV) (st : List Value) (σ : ZHp) (n k w : Nat) : Z (f + 1) 553 L st σ n k w = s_istore 6 555 L st σ n k w (zk1 cut G (Z f)) G R T := zrs hZ rfl f L st σ n k w
set_option maxRecDepth 20000 in
theorem f_L_law_555 (hZ : ZRN (ztb (tb_L_law E d mc ms N xs)) cut G R T Z) (f : Nat) (L : ZLV) (st : List Value) (σ : ZHp) (n k w : Nat) : Z (f + 1) 555 L st σ n k w = s_aload 2 556 L st σ n k w (zk1 cut G (Z f)) G R T := zrs hZ rfl f L st σ n k w
set_option maxRecDepth 20000 in
theorem f_L_law_556 (hZ : ZRN (ztb (tb_L_law E d mc ms N xs)) cut G R T Z) (f : Nat) (L : ZLV) (st : List Value) (σ : ZHp) (n k w : Nat) : Z (f + 1) 556 L st σ n k w = s_callV E d mc ms 14 MX15_thrown 0 559 L st σ n k w (zk1 cut G (Z f)) G R T := zrs hZ rfl f L st σ n k w
set_option maxRecDepth 20000 in
theorem f_L_law_559 (hZ : ZRN (ztb (tb_L_law E d mc ms N xs)) cut G R T Z) (f : Nat) (L : ZLV) (st : List Value) (σ : ZHp) (n k w : Nat) : Z (f + 1) 559 L st σ n k w = s_iload 5 561 L st σ n k w (zk1 cut G (Z f)) G R T := zrs hZ rfl f L st σ n k w
set_option maxRecDepth 20000 in
theorem f_L_law_561 (hZ : ZRN (ztb (tb_L_law E d mc ms N xs)) cut G R T Z) (f : Nat) (L : ZLV) (st : List Value) (σ : ZHp) (n k w : Nat) : Z (f + 1) 561 L st σ n k w = s_icmp_eq 566 564 L st σ n k w (zk1 cut G (Z f)) G R T := zrs hZ rfl f L st σ n k w
set_option maxRecDepth 20000 in
theorem f_L_law_564 (hZ : ZRN (ztb (tb_L_law E d mc ms N xs)) cut G R T Z) (f : Nat) (L : ZLV) (st : List Value) (σ : ZHp) (n k w : Nat) : Z (f + 1) 564 L st σ n k w = s_const (.int (0)) 565 L st σ n k w (zk1 cut G (Z f)) G R T := zrs hZ rfl f L st σ n k w
set_option maxRecDepth 20000 in
theorem f_L_law_565 (hZ : ZRN (ztb (tb_L_law E d mc ms N xs)) cut G R T Z) (f : Nat) (L : ZLV) (st : List Value) (σ : ZHp) (n k w : Nat) : Z (f + 1) 565 L st σ n k w = s_zreturn L st σ n k w (zk1 cut G (Z f)) G R T := zrs hZ rfl f L st σ n k w
set_option maxRecDepth 20000 in
theorem f_L_law_566 (hZ : ZRN (ztb (tb_L_law E d mc ms N xs)) cut G R T Z) (f : Nat) (L : ZLV) (st : List Value) (σ : ZHp) (n k w : Nat) : Z (f + 1) 566 L st σ n k w = s_iload 5 568 L st σ n k w (zk1 cut G (Z f)) G R T := zrs hZ rfl f L st σ n k w
set_option maxRecDepth 20000 in
theorem f_L_law_568 (hZ : ZRN (ztb (tb_L_law E d mc ms N xs)) cut G R T Z) (f : Nat) (L : ZLV) (st : List Value) (σ : ZHp) (n k w : Nat) : Z (f + 1) 568 L st σ n k w = s_if_ne 583 571 L st σ n k w (zk1 cut G (Z f)) G R T := zrs hZ rfl f L st σ n k w
set_option maxRecDepth 20000 in
theorem f_L_law_571 (hZ : ZRN (ztb (tb_L_law E d mc ms N xs)) cut G R T Z) (f : Nat) (L : ZLV) (st : List Value) (σ : ZHp) (n k w : Nat) : Z (f + 1) 571 L st σ n k w = s_aload 3 572 L st σ n k w (zk1 cut G (Z f)) G R T := zrs hZ rfl f L st σ n k w
set_option maxRecDepth 20000 in
theorem f_L_law_572 (hZ : ZRN (ztb (tb_L_law E d mc ms N xs)) cut G R T Z) (f : Nat) (L : ZLV) (st : List Value) (σ : ZHp) (n k w : Nat) : Z (f + 1) 572 L st σ n k w = s_const (.int (0)) 573 L st σ n k w (zk1 cut G (Z f)) G R T := zrs hZ rfl f L st σ n k w
set_option maxRecDepth 20000 in
theorem f_L_law_573 (hZ : ZRN (ztb (tb_L_law E d mc ms N xs)) cut G R T Z) (f : Nat) (L : ZLV) (st : List Value) (σ : ZHp) (n k w : Nat) : Z (f + 1) 573 L st σ n k w = s_laload E 574 L st σ n k w (zk1 cut G (Z f)) G R T := zrs hZ rfl f L st σ n k w
set_option maxRecDepth 20000 in
theorem f_L_law_574 (hZ : ZRN (ztb (tb_L_law E d mc ms N xs)) cut G R T Z) (f : Nat) (L : ZLV) (st : List Value) (σ : ZHp) (n k w : Nat) : Z (f + 1) 574 L st σ n k w = s_iload 6 576 L st σ n k w (zk1 cut G (Z f)) G R T := zrs hZ rfl f L st σ n k w
set_option maxRecDepth 20000 in
theorem f_L_law_576 (hZ : ZRN (ztb (tb_L_law E d mc ms N xs)) cut G R T Z) (f : Nat) (L : ZLV) (st : List Value) (σ : ZHp) (n k w : Nat) : Z (f + 1) 576 L st σ n k w = s_i2l 577 L st σ n k w (zk1 cut G (Z f)) G R T := zrs hZ rfl f L st σ n k w
set_option maxRecDepth 20000 in
theorem f_L_law_577 (hZ : ZRN (ztb (tb_L_law E d mc ms N xs)) cut G R T Z) (f : Nat) (L : ZLV) (st : List Value) (σ : ZHp) (n k w : Nat) : Z (f + 1) 577 L st σ n k w = s_lcmp 578 L st σ n k w (zk1 cut G (Z f)) G R T := zrs hZ rfl f L st σ n k w
set_option maxRecDepth 20000 in
theorem f_L_law_578 (hZ : ZRN (ztb (tb_L_law E d mc ms N xs)) cut G R T Z) (f : Nat) (L : ZLV) (st : List Value) (σ : ZHp) (n k w : Nat) : Z (f + 1) 578 L st σ n k w = s_if_eq 583 581 L st σ n k w (zk1 cut G (Z f)) G R T := zrs hZ rfl f L st σ n k w
set_option maxRecDepth 20000 in
theorem f_L_law_581 (hZ : ZRN (ztb (tb_L_law E d mc ms N xs)) cut G R T Z) (f : Nat) (L : ZLV) (st : List Value) (σ : ZHp) (n k w : Nat) : Z (f + 1) 581 L st σ n k w = s_const (.int (0)) 582 L st σ n k w (zk1 cut G (Z f)) G R T := zrs hZ rfl f L st σ n k w
set_option maxRecDepth 20000 in
theorem f_L_law_582 (hZ : ZRN (ztb (tb_L_law E d mc ms N xs)) cut G R T Z) (f : Nat) (L : ZLV) (st : List Value) (σ : ZHp) (n k w : Nat) : Z (f + 1) 582 L st σ n k w = s_zreturn L st σ n k w (zk1 cut G (Z f)) G R T := zrs hZ rfl f L st σ n k w
set_option maxRecDepth 20000 in
theorem f_L_law_583 (hZ : ZRN (ztb (tb_L_law E d mc ms N xs)) cut G R T Z) (f : Nat) (L : ZLV) (st : List Value) (σ : ZHp) (n k w : Nat) : Z (f + 1) 583 L st σ n k w = s_goto 1310 L st σ n k w (zk1 cut G (Z f)) G R T := zrs hZ rfl f L st σ n k w
set_option maxRecDepth 20000 in
theorem f_L_law_586 (hZ : ZRN (ztb (tb_L_law E d mc ms N xs)) cut G R T Z) (f : Nat) (L : ZLV) (st : List Value) (σ : ZHp) (n k w : Nat) : Z (f + 1) 586 L st σ n k w = s_aload 1 587 L st σ n k w (zk1 cut G (Z f)) G R T := zrs hZ rfl f L st σ n k w
set_option maxRecDepth 20000 in
theorem f_L_law_587 (hZ : ZRN (ztb (tb_L_law E d mc ms N xs)) cut G R T Z) (f : Nat) (L : ZLV) (st : List Value) (σ : ZHp) (n k w : Nat) : Z (f + 1) 587 L st σ n k w = s_aload 0 588 L st σ n k w (zk1 cut G (Z f)) G R T := zrs hZ rfl f L st σ n k w
set_option maxRecDepth 20000 in
theorem f_L_law_588 (hZ : ZRN (ztb (tb_L_law E d mc ms N xs)) cut G R T Z) (f : Nat) (L : ZLV) (st : List Value) (σ : ZHp) (n k w : Nat) : Z (f + 1) 588 L st σ n k w = s_iload 4 590 L st σ n k w (zk1 cut G (Z f)) G R T := zrs hZ rfl f L st σ n k w
set_option maxRecDepth 20000 in
theorem f_L_law_590 (hZ : ZRN (ztb (tb_L_law E d mc ms N xs)) cut G R T Z) (f : Nat) (L : ZLV) (st : List Value) (σ : ZHp) (n k w : Nat) : Z (f + 1) 590 L st σ n k w = s_const (.int (1)) 591 L st σ n k w (zk1 cut G (Z f)) G R T := zrs hZ rfl f L st σ n k w
set_option maxRecDepth 20000 in
theorem f_L_law_591 (hZ : ZRN (ztb (tb_L_law E d mc ms N xs)) cut G R T Z) (f : Nat) (L : ZLV) (st : List Value) (σ : ZHp) (n k w : Nat) : Z (f + 1) 591 L st σ n k w = s_iadd 592 L st σ n k w (zk1 cut G (Z f)) G R T := zrs hZ rfl f L st σ n k w
set_option maxRecDepth 20000 in
theorem f_L_law_592 (hZ : ZRN (ztb (tb_L_law E d mc ms N xs)) cut G R T Z) (f : Nat) (L : ZLV) (st : List Value) (σ : ZHp) (n k w : Nat) : Z (f + 1) 592 L st σ n k w = s_ialdQ E 300 N xs 593 L st σ n k w (zk1 cut G (Z f)) G R T := zrs hZ rfl f L st σ n k w
set_option maxRecDepth 20000 in
theorem f_L_law_593 (hZ : ZRN (ztb (tb_L_law E d mc ms N xs)) cut G R T Z) (f : Nat) (L : ZLV) (st : List Value) (σ : ZHp) (n k w : Nat) : Z (f + 1) 593 L st σ n k w = s_aload 0 594 L st σ n k w (zk1 cut G (Z f)) G R T := zrs hZ rfl f L st σ n k w
set_option maxRecDepth 20000 in
theorem f_L_law_594 (hZ : ZRN (ztb (tb_L_law E d mc ms N xs)) cut G R T Z) (f : Nat) (L : ZLV) (st : List Value) (σ : ZHp) (n k w : Nat) : Z (f + 1) 594 L st σ n k w = s_iload 4 596 L st σ n k w (zk1 cut G (Z f)) G R T := zrs hZ rfl f L st σ n k w
set_option maxRecDepth 20000 in
theorem f_L_law_596 (hZ : ZRN (ztb (tb_L_law E d mc ms N xs)) cut G R T Z) (f : Nat) (L : ZLV) (st : List Value) (σ : ZHp) (n k w : Nat) : Z (f + 1) 596 L st σ n k w = s_const (.int (2)) 597 L st σ n k w (zk1 cut G (Z f)) G R T := zrs hZ rfl f L st σ n k w
set_option maxRecDepth 20000 in
theorem f_L_law_597 (hZ : ZRN (ztb (tb_L_law E d mc ms N xs)) cut G R T Z) (f : Nat) (L : ZLV) (st : List Value) (σ : ZHp) (n k w : Nat) : Z (f + 1) 597 L st σ n k w = s_iadd 598 L st σ n k w (zk1 cut G (Z f)) G R T := zrs hZ rfl f L st σ n k w
set_option maxRecDepth 20000 in
theorem f_L_law_598 (hZ : ZRN (ztb (tb_L_law E d mc ms N xs)) cut G R T Z) (f : Nat) (L : ZLV) (st : List Value) (σ : ZHp) (n k w : Nat) : Z (f + 1) 598 L st σ n k w = s_ialdQ E 300 N xs 599 L st σ n k w (zk1 cut G (Z f)) G R T := zrs hZ rfl f L st σ n k w
set_option maxRecDepth 20000 in
theorem f_L_law_599 (hZ : ZRN (ztb (tb_L_law E d mc ms N xs)) cut G R T Z) (f : Nat) (L : ZLV) (st : List Value) (σ : ZHp) (n k w : Nat) : Z (f + 1) 599 L st σ n k w = s_aload 3 600 L st σ n k w (zk1 cut G (Z f)) G R T := zrs hZ rfl f L st σ n k w
set_option maxRecDepth 20000 in
theorem f_L_law_600 (hZ : ZRN (ztb (tb_L_law E d mc ms N xs)) cut G R T Z) (f : Nat) (L : ZLV) (st : List Value) (σ : ZHp) (n k w : Nat) : Z (f + 1) 600 L st σ n k w = s_callSH E d mc ms ML_deck [(0, 10, 13, 24)] 4 603 L st σ n k w (zk1 cut G (Z f)) G R T := zrs hZ rfl f L st σ n k w
set_option maxRecDepth 20000 in
theorem f_L_law_603 (hZ : ZRN (ztb (tb_L_law E d mc ms N xs)) cut G R T Z) (f : Nat) (L : ZLV) (st : List Value) (σ : ZHp) (n k w : Nat) : Z (f + 1) 603 L st σ n k w = s_istore 5 605 L st σ n k w (zk1 cut G (Z f)) G R T := zrs hZ rfl f L st σ n k w
set_option maxRecDepth 20000 in
theorem f_L_law_605 (hZ : ZRN (ztb (tb_L_law E d mc ms N xs)) cut G R T Z) (f : Nat) (L : ZLV) (st : List Value) (σ : ZHp) (n k w : Nat) : Z (f + 1) 605 L st σ n k w = s_aload 2 606 L st σ n k w (zk1 cut G (Z f)) G R T := zrs hZ rfl f L st σ n k w
set_option maxRecDepth 20000 in
theorem f_L_law_606 (hZ : ZRN (ztb (tb_L_law E d mc ms N xs)) cut G R T Z) (f : Nat) (L : ZLV) (st : List Value) (σ : ZHp) (n k w : Nat) : Z (f + 1) 606 L st σ n k w = s_aload 0 607 L st σ n k w (zk1 cut G (Z f)) G R T := zrs hZ rfl f L st σ n k w
set_option maxRecDepth 20000 in
theorem f_L_law_607 (hZ : ZRN (ztb (tb_L_law E d mc ms N xs)) cut G R T Z) (f : Nat) (L : ZLV) (st : List Value) (σ : ZHp) (n k w : Nat) : Z (f + 1) 607 L st σ n k w = s_iload 4 609 L st σ n k w (zk1 cut G (Z f)) G R T := zrs hZ rfl f L st σ n k w
set_option maxRecDepth 20000 in
theorem f_L_law_609 (hZ : ZRN (ztb (tb_L_law E d mc ms N xs)) cut G R T Z) (f : Nat) (L : ZLV) (st : List Value) (σ : ZHp) (n k w : Nat) : Z (f + 1) 609 L st σ n k w = s_const (.int (1)) 610 L st σ n k w (zk1 cut G (Z f)) G R T := zrs hZ rfl f L st σ n k w
set_option maxRecDepth 20000 in
theorem f_L_law_610 (hZ : ZRN (ztb (tb_L_law E d mc ms N xs)) cut G R T Z) (f : Nat) (L : ZLV) (st : List Value) (σ : ZHp) (n k w : Nat) : Z (f + 1) 610 L st σ n k w = s_iadd 611 L st σ n k w (zk1 cut G (Z f)) G R T := zrs hZ rfl f L st σ n k w
set_option maxRecDepth 20000 in
theorem f_L_law_611 (hZ : ZRN (ztb (tb_L_law E d mc ms N xs)) cut G R T Z) (f : Nat) (L : ZLV) (st : List Value) (σ : ZHp) (n k w : Nat) : Z (f + 1) 611 L st σ n k w = s_ialdQ E 300 N xs 612 L st σ n k w (zk1 cut G (Z f)) G R T := zrs hZ rfl f L st σ n k w
set_option maxRecDepth 20000 in
theorem f_L_law_612 (hZ : ZRN (ztb (tb_L_law E d mc ms N xs)) cut G R T Z) (f : Nat) (L : ZLV) (st : List Value) (σ : ZHp) (n k w : Nat) : Z (f + 1) 612 L st σ n k w = s_aload 0 613 L st σ n k w (zk1 cut G (Z f)) G R T := zrs hZ rfl f L st σ n k w
set_option maxRecDepth 20000 in
theorem f_L_law_613 (hZ : ZRN (ztb (tb_L_law E d mc ms N xs)) cut G R T Z) (f : Nat) (L : ZLV) (st : List Value) (σ : ZHp) (n k w : Nat) : Z (f + 1) 613 L st σ n k w = s_iload 4 615 L st σ n k w (zk1 cut G (Z f)) G R T := zrs hZ rfl f L st σ n k w
set_option maxRecDepth 20000 in
theorem f_L_law_615 (hZ : ZRN (ztb (tb_L_law E d mc ms N xs)) cut G R T Z) (f : Nat) (L : ZLV) (st : List Value) (σ : ZHp) (n k w : Nat) : Z (f + 1) 615 L st σ n k w = s_const (.int (2)) 616 L st σ n k w (zk1 cut G (Z f)) G R T := zrs hZ rfl f L st σ n k w
set_option maxRecDepth 20000 in
theorem f_L_law_616 (hZ : ZRN (ztb (tb_L_law E d mc ms N xs)) cut G R T Z) (f : Nat) (L : ZLV) (st : List Value) (σ : ZHp) (n k w : Nat) : Z (f + 1) 616 L st σ n k w = s_iadd 617 L st σ n k w (zk1 cut G (Z f)) G R T := zrs hZ rfl f L st σ n k w
set_option maxRecDepth 20000 in
theorem f_L_law_617 (hZ : ZRN (ztb (tb_L_law E d mc ms N xs)) cut G R T Z) (f : Nat) (L : ZLV) (st : List Value) (σ : ZHp) (n k w : Nat) : Z (f + 1) 617 L st σ n k w = s_ialdQ E 300 N xs 618 L st σ n k w (zk1 cut G (Z f)) G R T := zrs hZ rfl f L st σ n k w
set_option maxRecDepth 20000 in
theorem f_L_law_618 (hZ : ZRN (ztb (tb_L_law E d mc ms N xs)) cut G R T Z) (f : Nat) (L : ZLV) (st : List Value) (σ : ZHp) (n k w : Nat) : Z (f + 1) 618 L st σ n k w = s_callV E d mc ms 14 MX15_deck 2 621 L st σ n k w (zk1 cut G (Z f)) G R T := zrs hZ rfl f L st σ n k w
set_option maxRecDepth 20000 in
theorem f_L_law_621 (hZ : ZRN (ztb (tb_L_law E d mc ms N xs)) cut G R T Z) (f : Nat) (L : ZLV) (st : List Value) (σ : ZHp) (n k w : Nat) : Z (f + 1) 621 L st σ n k w = s_istore 6 623 L st σ n k w (zk1 cut G (Z f)) G R T := zrs hZ rfl f L st σ n k w
set_option maxRecDepth 20000 in
theorem f_L_law_623 (hZ : ZRN (ztb (tb_L_law E d mc ms N xs)) cut G R T Z) (f : Nat) (L : ZLV) (st : List Value) (σ : ZHp) (n k w : Nat) : Z (f + 1) 623 L st σ n k w = s_aload 2 624 L st σ n k w (zk1 cut G (Z f)) G R T := zrs hZ rfl f L st σ n k w
set_option maxRecDepth 20000 in
theorem f_L_law_624 (hZ : ZRN (ztb (tb_L_law E d mc ms N xs)) cut G R T Z) (f : Nat) (L : ZLV) (st : List Value) (σ : ZHp) (n k w : Nat) : Z (f + 1) 624 L st σ n k w = s_callV E d mc ms 14 MX15_thrown 0 627 L st σ n k w (zk1 cut G (Z f)) G R T := zrs hZ rfl f L st σ n k w
set_option maxRecDepth 20000 in
theorem f_L_law_627 (hZ : ZRN (ztb (tb_L_law E d mc ms N xs)) cut G R T Z) (f : Nat) (L : ZLV) (st : List Value) (σ : ZHp) (n k w : Nat) : Z (f + 1) 627 L st σ n k w = s_iload 5 629 L st σ n k w (zk1 cut G (Z f)) G R T := zrs hZ rfl f L st σ n k w
set_option maxRecDepth 20000 in
theorem f_L_law_629 (hZ : ZRN (ztb (tb_L_law E d mc ms N xs)) cut G R T Z) (f : Nat) (L : ZLV) (st : List Value) (σ : ZHp) (n k w : Nat) : Z (f + 1) 629 L st σ n k w = s_icmp_eq 634 632 L st σ n k w (zk1 cut G (Z f)) G R T := zrs hZ rfl f L st σ n k w
set_option maxRecDepth 20000 in
theorem f_L_law_632 (hZ : ZRN (ztb (tb_L_law E d mc ms N xs)) cut G R T Z) (f : Nat) (L : ZLV) (st : List Value) (σ : ZHp) (n k w : Nat) : Z (f + 1) 632 L st σ n k w = s_const (.int (0)) 633 L st σ n k w (zk1 cut G (Z f)) G R T := zrs hZ rfl f L st σ n k w
set_option maxRecDepth 20000 in
theorem f_L_law_633 (hZ : ZRN (ztb (tb_L_law E d mc ms N xs)) cut G R T Z) (f : Nat) (L : ZLV) (st : List Value) (σ : ZHp) (n k w : Nat) : Z (f + 1) 633 L st σ n k w = s_zreturn L st σ n k w (zk1 cut G (Z f)) G R T := zrs hZ rfl f L st σ n k w
set_option maxRecDepth 20000 in
theorem f_L_law_634 (hZ : ZRN (ztb (tb_L_law E d mc ms N xs)) cut G R T Z) (f : Nat) (L : ZLV) (st : List Value) (σ : ZHp) (n k w : Nat) : Z (f + 1) 634 L st σ n k w = s_iload 5 636 L st σ n k w (zk1 cut G (Z f)) G R T := zrs hZ rfl f L st σ n k w
set_option maxRecDepth 20000 in
theorem f_L_law_636 (hZ : ZRN (ztb (tb_L_law E d mc ms N xs)) cut G R T Z) (f : Nat) (L : ZLV) (st : List Value) (σ : ZHp) (n k w : Nat) : Z (f + 1) 636 L st σ n k w = s_if_ne 651 639 L st σ n k w (zk1 cut G (Z f)) G R T := zrs hZ rfl f L st σ n k w
set_option maxRecDepth 20000 in
theorem f_L_law_639 (hZ : ZRN (ztb (tb_L_law E d mc ms N xs)) cut G R T Z) (f : Nat) (L : ZLV) (st : List Value) (σ : ZHp) (n k w : Nat) : Z (f + 1) 639 L st σ n k w = s_aload 3 640 L st σ n k w (zk1 cut G (Z f)) G R T := zrs hZ rfl f L st σ n k w
set_option maxRecDepth 20000 in
theorem f_L_law_640 (hZ : ZRN (ztb (tb_L_law E d mc ms N xs)) cut G R T Z) (f : Nat) (L : ZLV) (st : List Value) (σ : ZHp) (n k w : Nat) : Z (f + 1) 640 L st σ n k w = s_const (.int (0)) 641 L st σ n k w (zk1 cut G (Z f)) G R T := zrs hZ rfl f L st σ n k w
set_option maxRecDepth 20000 in
theorem f_L_law_641 (hZ : ZRN (ztb (tb_L_law E d mc ms N xs)) cut G R T Z) (f : Nat) (L : ZLV) (st : List Value) (σ : ZHp) (n k w : Nat) : Z (f + 1) 641 L st σ n k w = s_laload E 642 L st σ n k w (zk1 cut G (Z f)) G R T := zrs hZ rfl f L st σ n k w
set_option maxRecDepth 20000 in
theorem f_L_law_642 (hZ : ZRN (ztb (tb_L_law E d mc ms N xs)) cut G R T Z) (f : Nat) (L : ZLV) (st : List Value) (σ : ZHp) (n k w : Nat) : Z (f + 1) 642 L st σ n k w = s_iload 6 644 L st σ n k w (zk1 cut G (Z f)) G R T := zrs hZ rfl f L st σ n k w
set_option maxRecDepth 20000 in
theorem f_L_law_644 (hZ : ZRN (ztb (tb_L_law E d mc ms N xs)) cut G R T Z) (f : Nat) (L : ZLV) (st : List Value) (σ : ZHp) (n k w : Nat) : Z (f + 1) 644 L st σ n k w = s_i2l 645 L st σ n k w (zk1 cut G (Z f)) G R T := zrs hZ rfl f L st σ n k w
set_option maxRecDepth 20000 in
theorem f_L_law_645 (hZ : ZRN (ztb (tb_L_law E d mc ms N xs)) cut G R T Z) (f : Nat) (L : ZLV) (st : List Value) (σ : ZHp) (n k w : Nat) : Z (f + 1) 645 L st σ n k w = s_lcmp 646 L st σ n k w (zk1 cut G (Z f)) G R T := zrs hZ rfl f L st σ n k w
set_option maxRecDepth 20000 in
theorem f_L_law_646 (hZ : ZRN (ztb (tb_L_law E d mc ms N xs)) cut G R T Z) (f : Nat) (L : ZLV) (st : List Value) (σ : ZHp) (n k w : Nat) : Z (f + 1) 646 L st σ n k w = s_if_eq 651 649 L st σ n k w (zk1 cut G (Z f)) G R T := zrs hZ rfl f L st σ n k w
set_option maxRecDepth 20000 in
theorem f_L_law_649 (hZ : ZRN (ztb (tb_L_law E d mc ms N xs)) cut G R T Z) (f : Nat) (L : ZLV) (st : List Value) (σ : ZHp) (n k w : Nat) : Z (f + 1) 649 L st σ n k w = s_const (.int (0)) 650 L st σ n k w (zk1 cut G (Z f)) G R T := zrs hZ rfl f L st σ n k w
set_option maxRecDepth 20000 in
theorem f_L_law_650 (hZ : ZRN (ztb (tb_L_law E d mc ms N xs)) cut G R T Z) (f : Nat) (L : ZLV) (st : List Value) (σ : ZHp) (n k w : Nat) : Z (f + 1) 650 L st σ n k w = s_zreturn L st σ n k w (zk1 cut G (Z f)) G R T := zrs hZ rfl f L st σ n k w
set_option maxRecDepth 20000 in
theorem f_L_law_651 (hZ : ZRN (ztb (tb_L_law E d mc ms N xs)) cut G R T Z) (f : Nat) (L : ZLV) (st : List Value) (σ : ZHp) (n k w : Nat) : Z (f + 1) 651 L st σ n k w = s_goto 1310 L st σ n k w (zk1 cut G (Z f)) G R T := zrs hZ rfl f L st σ n k w
set_option maxRecDepth 20000 in
theorem f_L_law_654 (hZ : ZRN (ztb (tb_L_law E d mc ms N xs)) cut G R T Z) (f : Nat) (L : ZLV) (st : List Value) (σ : ZHp) (n k w : Nat) : Z (f + 1) 654 L st σ n k w = s_aload 1 655 L st σ n k w (zk1 cut G (Z f)) G R T := zrs hZ rfl f L st σ n k w
set_option maxRecDepth 20000 in
theorem f_L_law_655 (hZ : ZRN (ztb (tb_L_law E d mc ms N xs)) cut G R T Z) (f : Nat) (L : ZLV) (st : List Value) (σ : ZHp) (n k w : Nat) : Z (f + 1) 655 L st σ n k w = s_aload 0 656 L st σ n k w (zk1 cut G (Z f)) G R T := zrs hZ rfl f L st σ n k w
set_option maxRecDepth 20000 in
theorem f_L_law_656 (hZ : ZRN (ztb (tb_L_law E d mc ms N xs)) cut G R T Z) (f : Nat) (L : ZLV) (st : List Value) (σ : ZHp) (n k w : Nat) : Z (f + 1) 656 L st σ n k w = s_iload 4 658 L st σ n k w (zk1 cut G (Z f)) G R T := zrs hZ rfl f L st σ n k w
set_option maxRecDepth 20000 in
theorem f_L_law_658 (hZ : ZRN (ztb (tb_L_law E d mc ms N xs)) cut G R T Z) (f : Nat) (L : ZLV) (st : List Value) (σ : ZHp) (n k w : Nat) : Z (f + 1) 658 L st σ n k w = s_const (.int (1)) 659 L st σ n k w (zk1 cut G (Z f)) G R T := zrs hZ rfl f L st σ n k w
set_option maxRecDepth 20000 in
theorem f_L_law_659 (hZ : ZRN (ztb (tb_L_law E d mc ms N xs)) cut G R T Z) (f : Nat) (L : ZLV) (st : List Value) (σ : ZHp) (n k w : Nat) : Z (f + 1) 659 L st σ n k w = s_iadd 660 L st σ n k w (zk1 cut G (Z f)) G R T := zrs hZ rfl f L st σ n k w
set_option maxRecDepth 20000 in
theorem f_L_law_660 (hZ : ZRN (ztb (tb_L_law E d mc ms N xs)) cut G R T Z) (f : Nat) (L : ZLV) (st : List Value) (σ : ZHp) (n k w : Nat) : Z (f + 1) 660 L st σ n k w = s_ialdQ E 300 N xs 661 L st σ n k w (zk1 cut G (Z f)) G R T := zrs hZ rfl f L st σ n k w
set_option maxRecDepth 20000 in
theorem f_L_law_661 (hZ : ZRN (ztb (tb_L_law E d mc ms N xs)) cut G R T Z) (f : Nat) (L : ZLV) (st : List Value) (σ : ZHp) (n k w : Nat) : Z (f + 1) 661 L st σ n k w = s_aload 0 662 L st σ n k w (zk1 cut G (Z f)) G R T := zrs hZ rfl f L st σ n k w
set_option maxRecDepth 20000 in
theorem f_L_law_662 (hZ : ZRN (ztb (tb_L_law E d mc ms N xs)) cut G R T Z) (f : Nat) (L : ZLV) (st : List Value) (σ : ZHp) (n k w : Nat) : Z (f + 1) 662 L st σ n k w = s_iload 4 664 L st σ n k w (zk1 cut G (Z f)) G R T := zrs hZ rfl f L st σ n k w
set_option maxRecDepth 20000 in
theorem f_L_law_664 (hZ : ZRN (ztb (tb_L_law E d mc ms N xs)) cut G R T Z) (f : Nat) (L : ZLV) (st : List Value) (σ : ZHp) (n k w : Nat) : Z (f + 1) 664 L st σ n k w = s_const (.int (2)) 665 L st σ n k w (zk1 cut G (Z f)) G R T := zrs hZ rfl f L st σ n k w
set_option maxRecDepth 20000 in
theorem f_L_law_665 (hZ : ZRN (ztb (tb_L_law E d mc ms N xs)) cut G R T Z) (f : Nat) (L : ZLV) (st : List Value) (σ : ZHp) (n k w : Nat) : Z (f + 1) 665 L st σ n k w = s_iadd 666 L st σ n k w (zk1 cut G (Z f)) G R T := zrs hZ rfl f L st σ n k w
set_option maxRecDepth 20000 in
theorem f_L_law_666 (hZ : ZRN (ztb (tb_L_law E d mc ms N xs)) cut G R T Z) (f : Nat) (L : ZLV) (st : List Value) (σ : ZHp) (n k w : Nat) : Z (f + 1) 666 L st σ n k w = s_ialdQ E 300 N xs 667 L st σ n k w (zk1 cut G (Z f)) G R T := zrs hZ rfl f L st σ n k w
set_option maxRecDepth 20000 in
theorem f_L_law_667 (hZ : ZRN (ztb (tb_L_law E d mc ms N xs)) cut G R T Z) (f : Nat) (L : ZLV) (st : List Value) (σ : ZHp) (n k w : Nat) : Z (f + 1) 667 L st σ n k w = s_aload 3 668 L st σ n k w (zk1 cut G (Z f)) G R T := zrs hZ rfl f L st σ n k w
set_option maxRecDepth 20000 in
theorem f_L_law_668 (hZ : ZRN (ztb (tb_L_law E d mc ms N xs)) cut G R T Z) (f : Nat) (L : ZLV) (st : List Value) (σ : ZHp) (n k w : Nat) : Z (f + 1) 668 L st σ n k w = s_callSH E d mc ms ML_discard [(0, 10, 13, 24)] 4 671 L st σ n k w (zk1 cut G (Z f)) G R T := zrs hZ rfl f L st σ n k w
set_option maxRecDepth 20000 in
theorem f_L_law_671 (hZ : ZRN (ztb (tb_L_law E d mc ms N xs)) cut G R T Z) (f : Nat) (L : ZLV) (st : List Value) (σ : ZHp) (n k w : Nat) : Z (f + 1) 671 L st σ n k w = s_istore 5 673 L st σ n k w (zk1 cut G (Z f)) G R T := zrs hZ rfl f L st σ n k w
set_option maxRecDepth 20000 in
theorem f_L_law_673 (hZ : ZRN (ztb (tb_L_law E d mc ms N xs)) cut G R T Z) (f : Nat) (L : ZLV) (st : List Value) (σ : ZHp) (n k w : Nat) : Z (f + 1) 673 L st σ n k w = s_aload 2 674 L st σ n k w (zk1 cut G (Z f)) G R T := zrs hZ rfl f L st σ n k w
set_option maxRecDepth 20000 in
theorem f_L_law_674 (hZ : ZRN (ztb (tb_L_law E d mc ms N xs)) cut G R T Z) (f : Nat) (L : ZLV) (st : List Value) (σ : ZHp) (n k w : Nat) : Z (f + 1) 674 L st σ n k w = s_aload 0 675 L st σ n k w (zk1 cut G (Z f)) G R T := zrs hZ rfl f L st σ n k w
set_option maxRecDepth 20000 in
theorem f_L_law_675 (hZ : ZRN (ztb (tb_L_law E d mc ms N xs)) cut G R T Z) (f : Nat) (L : ZLV) (st : List Value) (σ : ZHp) (n k w : Nat) : Z (f + 1) 675 L st σ n k w = s_iload 4 677 L st σ n k w (zk1 cut G (Z f)) G R T := zrs hZ rfl f L st σ n k w
set_option maxRecDepth 20000 in
theorem f_L_law_677 (hZ : ZRN (ztb (tb_L_law E d mc ms N xs)) cut G R T Z) (f : Nat) (L : ZLV) (st : List Value) (σ : ZHp) (n k w : Nat) : Z (f + 1) 677 L st σ n k w = s_const (.int (1)) 678 L st σ n k w (zk1 cut G (Z f)) G R T := zrs hZ rfl f L st σ n k w
set_option maxRecDepth 20000 in
theorem f_L_law_678 (hZ : ZRN (ztb (tb_L_law E d mc ms N xs)) cut G R T Z) (f : Nat) (L : ZLV) (st : List Value) (σ : ZHp) (n k w : Nat) : Z (f + 1) 678 L st σ n k w = s_iadd 679 L st σ n k w (zk1 cut G (Z f)) G R T := zrs hZ rfl f L st σ n k w
set_option maxRecDepth 20000 in
theorem f_L_law_679 (hZ : ZRN (ztb (tb_L_law E d mc ms N xs)) cut G R T Z) (f : Nat) (L : ZLV) (st : List Value) (σ : ZHp) (n k w : Nat) : Z (f + 1) 679 L st σ n k w = s_ialdQ E 300 N xs 680 L st σ n k w (zk1 cut G (Z f)) G R T := zrs hZ rfl f L st σ n k w
set_option maxRecDepth 20000 in
theorem f_L_law_680 (hZ : ZRN (ztb (tb_L_law E d mc ms N xs)) cut G R T Z) (f : Nat) (L : ZLV) (st : List Value) (σ : ZHp) (n k w : Nat) : Z (f + 1) 680 L st σ n k w = s_aload 0 681 L st σ n k w (zk1 cut G (Z f)) G R T := zrs hZ rfl f L st σ n k w
set_option maxRecDepth 20000 in
theorem f_L_law_681 (hZ : ZRN (ztb (tb_L_law E d mc ms N xs)) cut G R T Z) (f : Nat) (L : ZLV) (st : List Value) (σ : ZHp) (n k w : Nat) : Z (f + 1) 681 L st σ n k w = s_iload 4 683 L st σ n k w (zk1 cut G (Z f)) G R T := zrs hZ rfl f L st σ n k w
set_option maxRecDepth 20000 in
theorem f_L_law_683 (hZ : ZRN (ztb (tb_L_law E d mc ms N xs)) cut G R T Z) (f : Nat) (L : ZLV) (st : List Value) (σ : ZHp) (n k w : Nat) : Z (f + 1) 683 L st σ n k w = s_const (.int (2)) 684 L st σ n k w (zk1 cut G (Z f)) G R T := zrs hZ rfl f L st σ n k w
set_option maxRecDepth 20000 in
theorem f_L_law_684 (hZ : ZRN (ztb (tb_L_law E d mc ms N xs)) cut G R T Z) (f : Nat) (L : ZLV) (st : List Value) (σ : ZHp) (n k w : Nat) : Z (f + 1) 684 L st σ n k w = s_iadd 685 L st σ n k w (zk1 cut G (Z f)) G R T := zrs hZ rfl f L st σ n k w
set_option maxRecDepth 20000 in
theorem f_L_law_685 (hZ : ZRN (ztb (tb_L_law E d mc ms N xs)) cut G R T Z) (f : Nat) (L : ZLV) (st : List Value) (σ : ZHp) (n k w : Nat) : Z (f + 1) 685 L st σ n k w = s_ialdQ E 300 N xs 686 L st σ n k w (zk1 cut G (Z f)) G R T := zrs hZ rfl f L st σ n k w
set_option maxRecDepth 20000 in
theorem f_L_law_686 (hZ : ZRN (ztb (tb_L_law E d mc ms N xs)) cut G R T Z) (f : Nat) (L : ZLV) (st : List Value) (σ : ZHp) (n k w : Nat) : Z (f + 1) 686 L st σ n k w = s_callV E d mc ms 14 MX15_discard 2 689 L st σ n k w (zk1 cut G (Z f)) G R T := zrs hZ rfl f L st σ n k w
set_option maxRecDepth 20000 in
theorem f_L_law_689 (hZ : ZRN (ztb (tb_L_law E d mc ms N xs)) cut G R T Z) (f : Nat) (L : ZLV) (st : List Value) (σ : ZHp) (n k w : Nat) : Z (f + 1) 689 L st σ n k w = s_istore 6 691 L st σ n k w (zk1 cut G (Z f)) G R T := zrs hZ rfl f L st σ n k w
set_option maxRecDepth 20000 in
theorem f_L_law_691 (hZ : ZRN (ztb (tb_L_law E d mc ms N xs)) cut G R T Z) (f : Nat) (L : ZLV) (st : List Value) (σ : ZHp) (n k w : Nat) : Z (f + 1) 691 L st σ n k w = s_aload 2 692 L st σ n k w (zk1 cut G (Z f)) G R T := zrs hZ rfl f L st σ n k w
set_option maxRecDepth 20000 in
theorem f_L_law_692 (hZ : ZRN (ztb (tb_L_law E d mc ms N xs)) cut G R T Z) (f : Nat) (L : ZLV) (st : List Value) (σ : ZHp) (n k w : Nat) : Z (f + 1) 692 L st σ n k w = s_callV E d mc ms 14 MX15_thrown 0 695 L st σ n k w (zk1 cut G (Z f)) G R T := zrs hZ rfl f L st σ n k w
set_option maxRecDepth 20000 in
theorem f_L_law_695 (hZ : ZRN (ztb (tb_L_law E d mc ms N xs)) cut G R T Z) (f : Nat) (L : ZLV) (st : List Value) (σ : ZHp) (n k w : Nat) : Z (f + 1) 695 L st σ n k w = s_iload 5 697 L st σ n k w (zk1 cut G (Z f)) G R T := zrs hZ rfl f L st σ n k w
set_option maxRecDepth 20000 in
theorem f_L_law_697 (hZ : ZRN (ztb (tb_L_law E d mc ms N xs)) cut G R T Z) (f : Nat) (L : ZLV) (st : List Value) (σ : ZHp) (n k w : Nat) : Z (f + 1) 697 L st σ n k w = s_icmp_eq 702 700 L st σ n k w (zk1 cut G (Z f)) G R T := zrs hZ rfl f L st σ n k w
set_option maxRecDepth 20000 in
theorem f_L_law_700 (hZ : ZRN (ztb (tb_L_law E d mc ms N xs)) cut G R T Z) (f : Nat) (L : ZLV) (st : List Value) (σ : ZHp) (n k w : Nat) : Z (f + 1) 700 L st σ n k w = s_const (.int (0)) 701 L st σ n k w (zk1 cut G (Z f)) G R T := zrs hZ rfl f L st σ n k w
set_option maxRecDepth 20000 in
theorem f_L_law_701 (hZ : ZRN (ztb (tb_L_law E d mc ms N xs)) cut G R T Z) (f : Nat) (L : ZLV) (st : List Value) (σ : ZHp) (n k w : Nat) : Z (f + 1) 701 L st σ n k w = s_zreturn L st σ n k w (zk1 cut G (Z f)) G R T := zrs hZ rfl f L st σ n k w
set_option maxRecDepth 20000 in
theorem f_L_law_702 (hZ : ZRN (ztb (tb_L_law E d mc ms N xs)) cut G R T Z) (f : Nat) (L : ZLV) (st : List Value) (σ : ZHp) (n k w : Nat) : Z (f + 1) 702 L st σ n k w = s_iload 5 704 L st σ n k w (zk1 cut G (Z f)) G R T := zrs hZ rfl f L st σ n k w
set_option maxRecDepth 20000 in
theorem f_L_law_704 (hZ : ZRN (ztb (tb_L_law E d mc ms N xs)) cut G R T Z) (f : Nat) (L : ZLV) (st : List Value) (σ : ZHp) (n k w : Nat) : Z (f + 1) 704 L st σ n k w = s_if_ne 719 707 L st σ n k w (zk1 cut G (Z f)) G R T := zrs hZ rfl f L st σ n k w
set_option maxRecDepth 20000 in
theorem f_L_law_707 (hZ : ZRN (ztb (tb_L_law E d mc ms N xs)) cut G R T Z) (f : Nat) (L : ZLV) (st : List Value) (σ : ZHp) (n k w : Nat) : Z (f + 1) 707 L st σ n k w = s_aload 3 708 L st σ n k w (zk1 cut G (Z f)) G R T := zrs hZ rfl f L st σ n k w
set_option maxRecDepth 20000 in
theorem f_L_law_708 (hZ : ZRN (ztb (tb_L_law E d mc ms N xs)) cut G R T Z) (f : Nat) (L : ZLV) (st : List Value) (σ : ZHp) (n k w : Nat) : Z (f + 1) 708 L st σ n k w = s_const (.int (0)) 709 L st σ n k w (zk1 cut G (Z f)) G R T := zrs hZ rfl f L st σ n k w
set_option maxRecDepth 20000 in
theorem f_L_law_709 (hZ : ZRN (ztb (tb_L_law E d mc ms N xs)) cut G R T Z) (f : Nat) (L : ZLV) (st : List Value) (σ : ZHp) (n k w : Nat) : Z (f + 1) 709 L st σ n k w = s_laload E 710 L st σ n k w (zk1 cut G (Z f)) G R T := zrs hZ rfl f L st σ n k w
set_option maxRecDepth 20000 in
theorem f_L_law_710 (hZ : ZRN (ztb (tb_L_law E d mc ms N xs)) cut G R T Z) (f : Nat) (L : ZLV) (st : List Value) (σ : ZHp) (n k w : Nat) : Z (f + 1) 710 L st σ n k w = s_iload 6 712 L st σ n k w (zk1 cut G (Z f)) G R T := zrs hZ rfl f L st σ n k w
set_option maxRecDepth 20000 in
theorem f_L_law_712 (hZ : ZRN (ztb (tb_L_law E d mc ms N xs)) cut G R T Z) (f : Nat) (L : ZLV) (st : List Value) (σ : ZHp) (n k w : Nat) : Z (f + 1) 712 L st σ n k w = s_i2l 713 L st σ n k w (zk1 cut G (Z f)) G R T := zrs hZ rfl f L st σ n k w
set_option maxRecDepth 20000 in
theorem f_L_law_713 (hZ : ZRN (ztb (tb_L_law E d mc ms N xs)) cut G R T Z) (f : Nat) (L : ZLV) (st : List Value) (σ : ZHp) (n k w : Nat) : Z (f + 1) 713 L st σ n k w = s_lcmp 714 L st σ n k w (zk1 cut G (Z f)) G R T := zrs hZ rfl f L st σ n k w
set_option maxRecDepth 20000 in
theorem f_L_law_714 (hZ : ZRN (ztb (tb_L_law E d mc ms N xs)) cut G R T Z) (f : Nat) (L : ZLV) (st : List Value) (σ : ZHp) (n k w : Nat) : Z (f + 1) 714 L st σ n k w = s_if_eq 719 717 L st σ n k w (zk1 cut G (Z f)) G R T := zrs hZ rfl f L st σ n k w
set_option maxRecDepth 20000 in
theorem f_L_law_717 (hZ : ZRN (ztb (tb_L_law E d mc ms N xs)) cut G R T Z) (f : Nat) (L : ZLV) (st : List Value) (σ : ZHp) (n k w : Nat) : Z (f + 1) 717 L st σ n k w = s_const (.int (0)) 718 L st σ n k w (zk1 cut G (Z f)) G R T := zrs hZ rfl f L st σ n k w
set_option maxRecDepth 20000 in
theorem f_L_law_718 (hZ : ZRN (ztb (tb_L_law E d mc ms N xs)) cut G R T Z) (f : Nat) (L : ZLV) (st : List Value) (σ : ZHp) (n k w : Nat) : Z (f + 1) 718 L st σ n k w = s_zreturn L st σ n k w (zk1 cut G (Z f)) G R T := zrs hZ rfl f L st σ n k w
set_option maxRecDepth 20000 in
theorem f_L_law_719 (hZ : ZRN (ztb (tb_L_law E d mc ms N xs)) cut G R T Z) (f : Nat) (L : ZLV) (st : List Value) (σ : ZHp) (n k w : Nat) : Z (f + 1) 719 L st σ n k w = s_goto 1310 L st σ n k w (zk1 cut G (Z f)) G R T := zrs hZ rfl f L st σ n k w
set_option maxRecDepth 20000 in
theorem f_L_law_722 (hZ : ZRN (ztb (tb_L_law E d mc ms N xs)) cut G R T Z) (f : Nat) (L : ZLV) (st : List Value) (σ : ZHp) (n k w : Nat) : Z (f + 1) 722 L st σ n k w = s_aload 1 723 L st σ n k w (zk1 cut G (Z f)) G R T := zrs hZ rfl f L st σ n k w
set_option maxRecDepth 20000 in
theorem f_L_law_723 (hZ : ZRN (ztb (tb_L_law E d mc ms N xs)) cut G R T Z) (f : Nat) (L : ZLV) (st : List Value) (σ : ZHp) (n k w : Nat) : Z (f + 1) 723 L st σ n k w = s_callV E d mc ms 11 MX12_leader 0 726 L st σ n k w (zk1 cut G (Z f)) G R T := zrs hZ rfl f L st σ n k w
set_option maxRecDepth 20000 in
theorem f_L_law_726 (hZ : ZRN (ztb (tb_L_law E d mc ms N xs)) cut G R T Z) (f : Nat) (L : ZLV) (st : List Value) (σ : ZHp) (n k w : Nat) : Z (f + 1) 726 L st σ n k w = s_aload 2 727 L st σ n k w (zk1 cut G (Z f)) G R T := zrs hZ rfl f L st σ n k w
set_option maxRecDepth 20000 in
theorem f_L_law_727 (hZ : ZRN (ztb (tb_L_law E d mc ms N xs)) cut G R T Z) (f : Nat) (L : ZLV) (st : List Value) (σ : ZHp) (n k w : Nat) : Z (f + 1) 727 L st σ n k w = s_callV E d mc ms 14 MX15_leader 0 730 L st σ n k w (zk1 cut G (Z f)) G R T := zrs hZ rfl f L st σ n k w
set_option maxRecDepth 20000 in
theorem f_L_law_730 (hZ : ZRN (ztb (tb_L_law E d mc ms N xs)) cut G R T Z) (f : Nat) (L : ZLV) (st : List Value) (σ : ZHp) (n k w : Nat) : Z (f + 1) 730 L st σ n k w = s_icmp_eq 1310 733 L st σ n k w (zk1 cut G (Z f)) G R T := zrs hZ rfl f L st σ n k w
set_option maxRecDepth 20000 in
theorem f_L_law_733 (hZ : ZRN (ztb (tb_L_law E d mc ms N xs)) cut G R T Z) (f : Nat) (L : ZLV) (st : List Value) (σ : ZHp) (n k w : Nat) : Z (f + 1) 733 L st σ n k w = s_const (.int (0)) 734 L st σ n k w (zk1 cut G (Z f)) G R T := zrs hZ rfl f L st σ n k w
set_option maxRecDepth 20000 in
theorem f_L_law_734 (hZ : ZRN (ztb (tb_L_law E d mc ms N xs)) cut G R T Z) (f : Nat) (L : ZLV) (st : List Value) (σ : ZHp) (n k w : Nat) : Z (f + 1) 734 L st σ n k w = s_zreturn L st σ n k w (zk1 cut G (Z f)) G R T := zrs hZ rfl f L st σ n k w
set_option maxRecDepth 20000 in
theorem f_L_law_735 (hZ : ZRN (ztb (tb_L_law E d mc ms N xs)) cut G R T Z) (f : Nat) (L : ZLV) (st : List Value) (σ : ZHp) (n k w : Nat) : Z (f + 1) 735 L st σ n k w = s_aload 1 736 L st σ n k w (zk1 cut G (Z f)) G R T := zrs hZ rfl f L st σ n k w
set_option maxRecDepth 20000 in
theorem f_L_law_736 (hZ : ZRN (ztb (tb_L_law E d mc ms N xs)) cut G R T Z) (f : Nat) (L : ZLV) (st : List Value) (σ : ZHp) (n k w : Nat) : Z (f + 1) 736 L st σ n k w = s_aload 0 737 L st σ n k w (zk1 cut G (Z f)) G R T := zrs hZ rfl f L st σ n k w
set_option maxRecDepth 20000 in
theorem f_L_law_737 (hZ : ZRN (ztb (tb_L_law E d mc ms N xs)) cut G R T Z) (f : Nat) (L : ZLV) (st : List Value) (σ : ZHp) (n k w : Nat) : Z (f + 1) 737 L st σ n k w = s_iload 4 739 L st σ n k w (zk1 cut G (Z f)) G R T := zrs hZ rfl f L st σ n k w
set_option maxRecDepth 20000 in
theorem f_L_law_739 (hZ : ZRN (ztb (tb_L_law E d mc ms N xs)) cut G R T Z) (f : Nat) (L : ZLV) (st : List Value) (σ : ZHp) (n k w : Nat) : Z (f + 1) 739 L st σ n k w = s_const (.int (1)) 740 L st σ n k w (zk1 cut G (Z f)) G R T := zrs hZ rfl f L st σ n k w
set_option maxRecDepth 20000 in
theorem f_L_law_740 (hZ : ZRN (ztb (tb_L_law E d mc ms N xs)) cut G R T Z) (f : Nat) (L : ZLV) (st : List Value) (σ : ZHp) (n k w : Nat) : Z (f + 1) 740 L st σ n k w = s_iadd 741 L st σ n k w (zk1 cut G (Z f)) G R T := zrs hZ rfl f L st σ n k w
set_option maxRecDepth 20000 in
theorem f_L_law_741 (hZ : ZRN (ztb (tb_L_law E d mc ms N xs)) cut G R T Z) (f : Nat) (L : ZLV) (st : List Value) (σ : ZHp) (n k w : Nat) : Z (f + 1) 741 L st σ n k w = s_ialdQ E 300 N xs 742 L st σ n k w (zk1 cut G (Z f)) G R T := zrs hZ rfl f L st σ n k w
set_option maxRecDepth 20000 in
theorem f_L_law_742 (hZ : ZRN (ztb (tb_L_law E d mc ms N xs)) cut G R T Z) (f : Nat) (L : ZLV) (st : List Value) (σ : ZHp) (n k w : Nat) : Z (f + 1) 742 L st σ n k w = s_aload 0 743 L st σ n k w (zk1 cut G (Z f)) G R T := zrs hZ rfl f L st σ n k w
set_option maxRecDepth 20000 in
theorem f_L_law_743 (hZ : ZRN (ztb (tb_L_law E d mc ms N xs)) cut G R T Z) (f : Nat) (L : ZLV) (st : List Value) (σ : ZHp) (n k w : Nat) : Z (f + 1) 743 L st σ n k w = s_iload 4 745 L st σ n k w (zk1 cut G (Z f)) G R T := zrs hZ rfl f L st σ n k w
set_option maxRecDepth 20000 in
theorem f_L_law_745 (hZ : ZRN (ztb (tb_L_law E d mc ms N xs)) cut G R T Z) (f : Nat) (L : ZLV) (st : List Value) (σ : ZHp) (n k w : Nat) : Z (f + 1) 745 L st σ n k w = s_const (.int (2)) 746 L st σ n k w (zk1 cut G (Z f)) G R T := zrs hZ rfl f L st σ n k w
set_option maxRecDepth 20000 in
theorem f_L_law_746 (hZ : ZRN (ztb (tb_L_law E d mc ms N xs)) cut G R T Z) (f : Nat) (L : ZLV) (st : List Value) (σ : ZHp) (n k w : Nat) : Z (f + 1) 746 L st σ n k w = s_iadd 747 L st σ n k w (zk1 cut G (Z f)) G R T := zrs hZ rfl f L st σ n k w
set_option maxRecDepth 20000 in
theorem f_L_law_747 (hZ : ZRN (ztb (tb_L_law E d mc ms N xs)) cut G R T Z) (f : Nat) (L : ZLV) (st : List Value) (σ : ZHp) (n k w : Nat) : Z (f + 1) 747 L st σ n k w = s_ialdQ E 300 N xs 748 L st σ n k w (zk1 cut G (Z f)) G R T := zrs hZ rfl f L st σ n k w
set_option maxRecDepth 20000 in
theorem f_L_law_748 (hZ : ZRN (ztb (tb_L_law E d mc ms N xs)) cut G R T Z) (f : Nat) (L : ZLV) (st : List Value) (σ : ZHp) (n k w : Nat) : Z (f + 1) 748 L st σ n k w = s_aload 3 749 L st σ n k w (zk1 cut G (Z f)) G R T := zrs hZ rfl f L st σ n k w
set_option maxRecDepth 20000 in
theorem f_L_law_749 (hZ : ZRN (ztb (tb_L_law E d mc ms N xs)) cut G R T Z) (f : Nat) (L : ZLV) (st : List Value) (σ : ZHp) (n k w : Nat) : Z (f + 1) 749 L st σ n k w = s_callSH E d mc ms ML_give [(0, 10, 13, 24), (0, 10, 17, 13)] 4 752 L st σ n k w (zk1 cut G (Z f)) G R T := zrs hZ rfl f L st σ n k w
set_option maxRecDepth 20000 in
theorem f_L_law_752 (hZ : ZRN (ztb (tb_L_law E d mc ms N xs)) cut G R T Z) (f : Nat) (L : ZLV) (st : List Value) (σ : ZHp) (n k w : Nat) : Z (f + 1) 752 L st σ n k w = s_istore 5 754 L st σ n k w (zk1 cut G (Z f)) G R T := zrs hZ rfl f L st σ n k w
set_option maxRecDepth 20000 in
theorem f_L_law_754 (hZ : ZRN (ztb (tb_L_law E d mc ms N xs)) cut G R T Z) (f : Nat) (L : ZLV) (st : List Value) (σ : ZHp) (n k w : Nat) : Z (f + 1) 754 L st σ n k w = s_aload 2 755 L st σ n k w (zk1 cut G (Z f)) G R T := zrs hZ rfl f L st σ n k w
set_option maxRecDepth 20000 in
theorem f_L_law_755 (hZ : ZRN (ztb (tb_L_law E d mc ms N xs)) cut G R T Z) (f : Nat) (L : ZLV) (st : List Value) (σ : ZHp) (n k w : Nat) : Z (f + 1) 755 L st σ n k w = s_aload 0 756 L st σ n k w (zk1 cut G (Z f)) G R T := zrs hZ rfl f L st σ n k w
set_option maxRecDepth 20000 in
theorem f_L_law_756 (hZ : ZRN (ztb (tb_L_law E d mc ms N xs)) cut G R T Z) (f : Nat) (L : ZLV) (st : List Value) (σ : ZHp) (n k w : Nat) : Z (f + 1) 756 L st σ n k w = s_iload 4 758 L st σ n k w (zk1 cut G (Z f)) G R T := zrs hZ rfl f L st σ n k w
set_option maxRecDepth 20000 in
theorem f_L_law_758 (hZ : ZRN (ztb (tb_L_law E d mc ms N xs)) cut G R T Z) (f : Nat) (L : ZLV) (st : List Value) (σ : ZHp) (n k w : Nat) : Z (f + 1) 758 L st σ n k w = s_const (.int (1)) 759 L st σ n k w (zk1 cut G (Z f)) G R T := zrs hZ rfl f L st σ n k w
set_option maxRecDepth 20000 in
theorem f_L_law_759 (hZ : ZRN (ztb (tb_L_law E d mc ms N xs)) cut G R T Z) (f : Nat) (L : ZLV) (st : List Value) (σ : ZHp) (n k w : Nat) : Z (f + 1) 759 L st σ n k w = s_iadd 760 L st σ n k w (zk1 cut G (Z f)) G R T := zrs hZ rfl f L st σ n k w
set_option maxRecDepth 20000 in
theorem f_L_law_760 (hZ : ZRN (ztb (tb_L_law E d mc ms N xs)) cut G R T Z) (f : Nat) (L : ZLV) (st : List Value) (σ : ZHp) (n k w : Nat) : Z (f + 1) 760 L st σ n k w = s_ialdQ E 300 N xs 761 L st σ n k w (zk1 cut G (Z f)) G R T := zrs hZ rfl f L st σ n k w
set_option maxRecDepth 20000 in
theorem f_L_law_761 (hZ : ZRN (ztb (tb_L_law E d mc ms N xs)) cut G R T Z) (f : Nat) (L : ZLV) (st : List Value) (σ : ZHp) (n k w : Nat) : Z (f + 1) 761 L st σ n k w = s_aload 0 762 L st σ n k w (zk1 cut G (Z f)) G R T := zrs hZ rfl f L st σ n k w
set_option maxRecDepth 20000 in
theorem f_L_law_762 (hZ : ZRN (ztb (tb_L_law E d mc ms N xs)) cut G R T Z) (f : Nat) (L : ZLV) (st : List Value) (σ : ZHp) (n k w : Nat) : Z (f + 1) 762 L st σ n k w = s_iload 4 764 L st σ n k w (zk1 cut G (Z f)) G R T := zrs hZ rfl f L st σ n k w
set_option maxRecDepth 20000 in
theorem f_L_law_764 (hZ : ZRN (ztb (tb_L_law E d mc ms N xs)) cut G R T Z) (f : Nat) (L : ZLV) (st : List Value) (σ : ZHp) (n k w : Nat) : Z (f + 1) 764 L st σ n k w = s_const (.int (2)) 765 L st σ n k w (zk1 cut G (Z f)) G R T := zrs hZ rfl f L st σ n k w
set_option maxRecDepth 20000 in
theorem f_L_law_765 (hZ : ZRN (ztb (tb_L_law E d mc ms N xs)) cut G R T Z) (f : Nat) (L : ZLV) (st : List Value) (σ : ZHp) (n k w : Nat) : Z (f + 1) 765 L st σ n k w = s_iadd 766 L st σ n k w (zk1 cut G (Z f)) G R T := zrs hZ rfl f L st σ n k w
set_option maxRecDepth 20000 in
theorem f_L_law_766 (hZ : ZRN (ztb (tb_L_law E d mc ms N xs)) cut G R T Z) (f : Nat) (L : ZLV) (st : List Value) (σ : ZHp) (n k w : Nat) : Z (f + 1) 766 L st σ n k w = s_ialdQ E 300 N xs 767 L st σ n k w (zk1 cut G (Z f)) G R T := zrs hZ rfl f L st σ n k w
set_option maxRecDepth 20000 in
theorem f_L_law_767 (hZ : ZRN (ztb (tb_L_law E d mc ms N xs)) cut G R T Z) (f : Nat) (L : ZLV) (st : List Value) (σ : ZHp) (n k w : Nat) : Z (f + 1) 767 L st σ n k w = s_callV E d mc ms 14 MX15_give_ 2 770 L st σ n k w (zk1 cut G (Z f)) G R T := zrs hZ rfl f L st σ n k w
set_option maxRecDepth 20000 in
theorem f_L_law_770 (hZ : ZRN (ztb (tb_L_law E d mc ms N xs)) cut G R T Z) (f : Nat) (L : ZLV) (st : List Value) (σ : ZHp) (n k w : Nat) : Z (f + 1) 770 L st σ n k w = s_istore 6 772 L st σ n k w (zk1 cut G (Z f)) G R T := zrs hZ rfl f L st σ n k w
set_option maxRecDepth 20000 in
theorem f_L_law_772 (hZ : ZRN (ztb (tb_L_law E d mc ms N xs)) cut G R T Z) (f : Nat) (L : ZLV) (st : List Value) (σ : ZHp) (n k w : Nat) : Z (f + 1) 772 L st σ n k w = s_aload 2 773 L st σ n k w (zk1 cut G (Z f)) G R T := zrs hZ rfl f L st σ n k w
set_option maxRecDepth 20000 in
theorem f_L_law_773 (hZ : ZRN (ztb (tb_L_law E d mc ms N xs)) cut G R T Z) (f : Nat) (L : ZLV) (st : List Value) (σ : ZHp) (n k w : Nat) : Z (f + 1) 773 L st σ n k w = s_callV E d mc ms 14 MX15_thrown 0 776 L st σ n k w (zk1 cut G (Z f)) G R T := zrs hZ rfl f L st σ n k w
set_option maxRecDepth 20000 in
theorem f_L_law_776 (hZ : ZRN (ztb (tb_L_law E d mc ms N xs)) cut G R T Z) (f : Nat) (L : ZLV) (st : List Value) (σ : ZHp) (n k w : Nat) : Z (f + 1) 776 L st σ n k w = s_iload 5 778 L st σ n k w (zk1 cut G (Z f)) G R T := zrs hZ rfl f L st σ n k w
set_option maxRecDepth 20000 in
theorem f_L_law_778 (hZ : ZRN (ztb (tb_L_law E d mc ms N xs)) cut G R T Z) (f : Nat) (L : ZLV) (st : List Value) (σ : ZHp) (n k w : Nat) : Z (f + 1) 778 L st σ n k w = s_icmp_eq 783 781 L st σ n k w (zk1 cut G (Z f)) G R T := zrs hZ rfl f L st σ n k w
set_option maxRecDepth 20000 in
theorem f_L_law_781 (hZ : ZRN (ztb (tb_L_law E d mc ms N xs)) cut G R T Z) (f : Nat) (L : ZLV) (st : List Value) (σ : ZHp) (n k w : Nat) : Z (f + 1) 781 L st σ n k w = s_const (.int (0)) 782 L st σ n k w (zk1 cut G (Z f)) G R T := zrs hZ rfl f L st σ n k w
set_option maxRecDepth 20000 in
theorem f_L_law_782 (hZ : ZRN (ztb (tb_L_law E d mc ms N xs)) cut G R T Z) (f : Nat) (L : ZLV) (st : List Value) (σ : ZHp) (n k w : Nat) : Z (f + 1) 782 L st σ n k w = s_zreturn L st σ n k w (zk1 cut G (Z f)) G R T := zrs hZ rfl f L st σ n k w
set_option maxRecDepth 20000 in
theorem f_L_law_783 (hZ : ZRN (ztb (tb_L_law E d mc ms N xs)) cut G R T Z) (f : Nat) (L : ZLV) (st : List Value) (σ : ZHp) (n k w : Nat) : Z (f + 1) 783 L st σ n k w = s_iload 5 785 L st σ n k w (zk1 cut G (Z f)) G R T := zrs hZ rfl f L st σ n k w
set_option maxRecDepth 20000 in
theorem f_L_law_785 (hZ : ZRN (ztb (tb_L_law E d mc ms N xs)) cut G R T Z) (f : Nat) (L : ZLV) (st : List Value) (σ : ZHp) (n k w : Nat) : Z (f + 1) 785 L st σ n k w = s_if_ne 800 788 L st σ n k w (zk1 cut G (Z f)) G R T := zrs hZ rfl f L st σ n k w
set_option maxRecDepth 20000 in
theorem f_L_law_788 (hZ : ZRN (ztb (tb_L_law E d mc ms N xs)) cut G R T Z) (f : Nat) (L : ZLV) (st : List Value) (σ : ZHp) (n k w : Nat) : Z (f + 1) 788 L st σ n k w = s_aload 3 789 L st σ n k w (zk1 cut G (Z f)) G R T := zrs hZ rfl f L st σ n k w
set_option maxRecDepth 20000 in
theorem f_L_law_789 (hZ : ZRN (ztb (tb_L_law E d mc ms N xs)) cut G R T Z) (f : Nat) (L : ZLV) (st : List Value) (σ : ZHp) (n k w : Nat) : Z (f + 1) 789 L st σ n k w = s_const (.int (0)) 790 L st σ n k w (zk1 cut G (Z f)) G R T := zrs hZ rfl f L st σ n k w
set_option maxRecDepth 20000 in
theorem f_L_law_790 (hZ : ZRN (ztb (tb_L_law E d mc ms N xs)) cut G R T Z) (f : Nat) (L : ZLV) (st : List Value) (σ : ZHp) (n k w : Nat) : Z (f + 1) 790 L st σ n k w = s_laload E 791 L st σ n k w (zk1 cut G (Z f)) G R T := zrs hZ rfl f L st σ n k w
set_option maxRecDepth 20000 in
theorem f_L_law_791 (hZ : ZRN (ztb (tb_L_law E d mc ms N xs)) cut G R T Z) (f : Nat) (L : ZLV) (st : List Value) (σ : ZHp) (n k w : Nat) : Z (f + 1) 791 L st σ n k w = s_iload 6 793 L st σ n k w (zk1 cut G (Z f)) G R T := zrs hZ rfl f L st σ n k w
set_option maxRecDepth 20000 in
theorem f_L_law_793 (hZ : ZRN (ztb (tb_L_law E d mc ms N xs)) cut G R T Z) (f : Nat) (L : ZLV) (st : List Value) (σ : ZHp) (n k w : Nat) : Z (f + 1) 793 L st σ n k w = s_i2l 794 L st σ n k w (zk1 cut G (Z f)) G R T := zrs hZ rfl f L st σ n k w
set_option maxRecDepth 20000 in
theorem f_L_law_794 (hZ : ZRN (ztb (tb_L_law E d mc ms N xs)) cut G R T Z) (f : Nat) (L : ZLV) (st : List Value) (σ : ZHp) (n k w : Nat) : Z (f + 1) 794 L st σ n k w = s_lcmp 795 L st σ n k w (zk1 cut G (Z f)) G R T := zrs hZ rfl f L st σ n k w
set_option maxRecDepth 20000 in
theorem f_L_law_795 (hZ : ZRN (ztb (tb_L_law E d mc ms N xs)) cut G R T Z) (f : Nat) (L : ZLV) (st : List Value) (σ : ZHp) (n k w : Nat) : Z (f + 1) 795 L st σ n k w = s_if_eq 800 798 L st σ n k w (zk1 cut G (Z f)) G R T := zrs hZ rfl f L st σ n k w
set_option maxRecDepth 20000 in
theorem f_L_law_798 (hZ : ZRN (ztb (tb_L_law E d mc ms N xs)) cut G R T Z) (f : Nat) (L : ZLV) (st : List Value) (σ : ZHp) (n k w : Nat) : Z (f + 1) 798 L st σ n k w = s_const (.int (0)) 799 L st σ n k w (zk1 cut G (Z f)) G R T := zrs hZ rfl f L st σ n k w
set_option maxRecDepth 20000 in
theorem f_L_law_799 (hZ : ZRN (ztb (tb_L_law E d mc ms N xs)) cut G R T Z) (f : Nat) (L : ZLV) (st : List Value) (σ : ZHp) (n k w : Nat) : Z (f + 1) 799 L st σ n k w = s_zreturn L st σ n k w (zk1 cut G (Z f)) G R T := zrs hZ rfl f L st σ n k w
set_option maxRecDepth 20000 in
theorem f_L_law_800 (hZ : ZRN (ztb (tb_L_law E d mc ms N xs)) cut G R T Z) (f : Nat) (L : ZLV) (st : List Value) (σ : ZHp) (n k w : Nat) : Z (f + 1) 800 L st σ n k w = s_goto 1310 L st σ n k w (zk1 cut G (Z f)) G R T := zrs hZ rfl f L st σ n k w
set_option maxRecDepth 20000 in
theorem f_L_law_803 (hZ : ZRN (ztb (tb_L_law E d mc ms N xs)) cut G R T Z) (f : Nat) (L : ZLV) (st : List Value) (σ : ZHp) (n k w : Nat) : Z (f + 1) 803 L st σ n k w = s_aload 1 804 L st σ n k w (zk1 cut G (Z f)) G R T := zrs hZ rfl f L st σ n k w
set_option maxRecDepth 20000 in
theorem f_L_law_804 (hZ : ZRN (ztb (tb_L_law E d mc ms N xs)) cut G R T Z) (f : Nat) (L : ZLV) (st : List Value) (σ : ZHp) (n k w : Nat) : Z (f + 1) 804 L st σ n k w = s_aload 0 805 L st σ n k w (zk1 cut G (Z f)) G R T := zrs hZ rfl f L st σ n k w
set_option maxRecDepth 20000 in
theorem f_L_law_805 (hZ : ZRN (ztb (tb_L_law E d mc ms N xs)) cut G R T Z) (f : Nat) (L : ZLV) (st : List Value) (σ : ZHp) (n k w : Nat) : Z (f + 1) 805 L st σ n k w = s_iload 4 807 L st σ n k w (zk1 cut G (Z f)) G R T := zrs hZ rfl f L st σ n k w
set_option maxRecDepth 20000 in
theorem f_L_law_807 (hZ : ZRN (ztb (tb_L_law E d mc ms N xs)) cut G R T Z) (f : Nat) (L : ZLV) (st : List Value) (σ : ZHp) (n k w : Nat) : Z (f + 1) 807 L st σ n k w = s_const (.int (1)) 808 L st σ n k w (zk1 cut G (Z f)) G R T := zrs hZ rfl f L st σ n k w
set_option maxRecDepth 20000 in
theorem f_L_law_808 (hZ : ZRN (ztb (tb_L_law E d mc ms N xs)) cut G R T Z) (f : Nat) (L : ZLV) (st : List Value) (σ : ZHp) (n k w : Nat) : Z (f + 1) 808 L st σ n k w = s_iadd 809 L st σ n k w (zk1 cut G (Z f)) G R T := zrs hZ rfl f L st σ n k w
set_option maxRecDepth 20000 in
theorem f_L_law_809 (hZ : ZRN (ztb (tb_L_law E d mc ms N xs)) cut G R T Z) (f : Nat) (L : ZLV) (st : List Value) (σ : ZHp) (n k w : Nat) : Z (f + 1) 809 L st σ n k w = s_ialdQ E 300 N xs 810 L st σ n k w (zk1 cut G (Z f)) G R T := zrs hZ rfl f L st σ n k w
set_option maxRecDepth 20000 in
theorem f_L_law_810 (hZ : ZRN (ztb (tb_L_law E d mc ms N xs)) cut G R T Z) (f : Nat) (L : ZLV) (st : List Value) (σ : ZHp) (n k w : Nat) : Z (f + 1) 810 L st σ n k w = s_aload 0 811 L st σ n k w (zk1 cut G (Z f)) G R T := zrs hZ rfl f L st σ n k w
set_option maxRecDepth 20000 in
theorem f_L_law_811 (hZ : ZRN (ztb (tb_L_law E d mc ms N xs)) cut G R T Z) (f : Nat) (L : ZLV) (st : List Value) (σ : ZHp) (n k w : Nat) : Z (f + 1) 811 L st σ n k w = s_iload 4 813 L st σ n k w (zk1 cut G (Z f)) G R T := zrs hZ rfl f L st σ n k w
set_option maxRecDepth 20000 in
theorem f_L_law_813 (hZ : ZRN (ztb (tb_L_law E d mc ms N xs)) cut G R T Z) (f : Nat) (L : ZLV) (st : List Value) (σ : ZHp) (n k w : Nat) : Z (f + 1) 813 L st σ n k w = s_const (.int (2)) 814 L st σ n k w (zk1 cut G (Z f)) G R T := zrs hZ rfl f L st σ n k w
set_option maxRecDepth 20000 in
theorem f_L_law_814 (hZ : ZRN (ztb (tb_L_law E d mc ms N xs)) cut G R T Z) (f : Nat) (L : ZLV) (st : List Value) (σ : ZHp) (n k w : Nat) : Z (f + 1) 814 L st σ n k w = s_iadd 815 L st σ n k w (zk1 cut G (Z f)) G R T := zrs hZ rfl f L st σ n k w
set_option maxRecDepth 20000 in
theorem f_L_law_815 (hZ : ZRN (ztb (tb_L_law E d mc ms N xs)) cut G R T Z) (f : Nat) (L : ZLV) (st : List Value) (σ : ZHp) (n k w : Nat) : Z (f + 1) 815 L st σ n k w = s_ialdQ E 300 N xs 816 L st σ n k w (zk1 cut G (Z f)) G R T := zrs hZ rfl f L st σ n k w
set_option maxRecDepth 20000 in
theorem f_L_law_816 (hZ : ZRN (ztb (tb_L_law E d mc ms N xs)) cut G R T Z) (f : Nat) (L : ZLV) (st : List Value) (σ : ZHp) (n k w : Nat) : Z (f + 1) 816 L st σ n k w = s_aload 3 817 L st σ n k w (zk1 cut G (Z f)) G R T := zrs hZ rfl f L st σ n k w
set_option maxRecDepth 20000 in
theorem f_L_law_817 (hZ : ZRN (ztb (tb_L_law E d mc ms N xs)) cut G R T Z) (f : Nat) (L : ZLV) (st : List Value) (σ : ZHp) (n k w : Nat) : Z (f + 1) 817 L st σ n k w = s_callSH E d mc ms ML_trash [(0, 10, 13, 24), (0, 10, 17, 13)] 4 820 L st σ n k w (zk1 cut G (Z f)) G R T := zrs hZ rfl f L st σ n k w
set_option maxRecDepth 20000 in
theorem f_L_law_820 (hZ : ZRN (ztb (tb_L_law E d mc ms N xs)) cut G R T Z) (f : Nat) (L : ZLV) (st : List Value) (σ : ZHp) (n k w : Nat) : Z (f + 1) 820 L st σ n k w = s_istore 5 822 L st σ n k w (zk1 cut G (Z f)) G R T := zrs hZ rfl f L st σ n k w
set_option maxRecDepth 20000 in
theorem f_L_law_822 (hZ : ZRN (ztb (tb_L_law E d mc ms N xs)) cut G R T Z) (f : Nat) (L : ZLV) (st : List Value) (σ : ZHp) (n k w : Nat) : Z (f + 1) 822 L st σ n k w = s_aload 2 823 L st σ n k w (zk1 cut G (Z f)) G R T := zrs hZ rfl f L st σ n k w
set_option maxRecDepth 20000 in
theorem f_L_law_823 (hZ : ZRN (ztb (tb_L_law E d mc ms N xs)) cut G R T Z) (f : Nat) (L : ZLV) (st : List Value) (σ : ZHp) (n k w : Nat) : Z (f + 1) 823 L st σ n k w = s_aload 0 824 L st σ n k w (zk1 cut G (Z f)) G R T := zrs hZ rfl f L st σ n k w
set_option maxRecDepth 20000 in
theorem f_L_law_824 (hZ : ZRN (ztb (tb_L_law E d mc ms N xs)) cut G R T Z) (f : Nat) (L : ZLV) (st : List Value) (σ : ZHp) (n k w : Nat) : Z (f + 1) 824 L st σ n k w = s_iload 4 826 L st σ n k w (zk1 cut G (Z f)) G R T := zrs hZ rfl f L st σ n k w
set_option maxRecDepth 20000 in
theorem f_L_law_826 (hZ : ZRN (ztb (tb_L_law E d mc ms N xs)) cut G R T Z) (f : Nat) (L : ZLV) (st : List Value) (σ : ZHp) (n k w : Nat) : Z (f + 1) 826 L st σ n k w = s_const (.int (1)) 827 L st σ n k w (zk1 cut G (Z f)) G R T := zrs hZ rfl f L st σ n k w
set_option maxRecDepth 20000 in
theorem f_L_law_827 (hZ : ZRN (ztb (tb_L_law E d mc ms N xs)) cut G R T Z) (f : Nat) (L : ZLV) (st : List Value) (σ : ZHp) (n k w : Nat) : Z (f + 1) 827 L st σ n k w = s_iadd 828 L st σ n k w (zk1 cut G (Z f)) G R T := zrs hZ rfl f L st σ n k w
set_option maxRecDepth 20000 in
theorem f_L_law_828 (hZ : ZRN (ztb (tb_L_law E d mc ms N xs)) cut G R T Z) (f : Nat) (L : ZLV) (st : List Value) (σ : ZHp) (n k w : Nat) : Z (f + 1) 828 L st σ n k w = s_ialdQ E 300 N xs 829 L st σ n k w (zk1 cut G (Z f)) G R T := zrs hZ rfl f L st σ n k w
set_option maxRecDepth 20000 in
theorem f_L_law_829 (hZ : ZRN (ztb (tb_L_law E d mc ms N xs)) cut G R T Z) (f : Nat) (L : ZLV) (st : List Value) (σ : ZHp) (n k w : Nat) : Z (f + 1) 829 L st σ n k w = s_aload 0 830 L st σ n k w (zk1 cut G (Z f)) G R T := zrs hZ rfl f L st σ n k w
set_option maxRecDepth 20000 in
theorem f_L_law_830 (hZ : ZRN (ztb (tb_L_law E d mc ms N xs)) cut G R T Z) (f : Nat) (L : ZLV) (st : List Value) (σ : ZHp) (n k w : Nat) : Z (f + 1) 830 L st σ n k w = s_iload 4 832 L st σ n k w (zk1 cut G (Z f)) G R T := zrs hZ rfl f L st σ n k w
set_option maxRecDepth 20000 in
theorem f_L_law_832 (hZ : ZRN (ztb (tb_L_law E d mc ms N xs)) cut G R T Z) (f : Nat) (L : ZLV) (st : List Value) (σ : ZHp) (n k w : Nat) : Z (f + 1) 832 L st σ n k w = s_const (.int (2)) 833 L st σ n k w (zk1 cut G (Z f)) G R T := zrs hZ rfl f L st σ n k w
set_option maxRecDepth 20000 in
theorem f_L_law_833 (hZ : ZRN (ztb (tb_L_law E d mc ms N xs)) cut G R T Z) (f : Nat) (L : ZLV) (st : List Value) (σ : ZHp) (n k w : Nat) : Z (f + 1) 833 L st σ n k w = s_iadd 834 L st σ n k w (zk1 cut G (Z f)) G R T := zrs hZ rfl f L st σ n k w
set_option maxRecDepth 20000 in
theorem f_L_law_834 (hZ : ZRN (ztb (tb_L_law E d mc ms N xs)) cut G R T Z) (f : Nat) (L : ZLV) (st : List Value) (σ : ZHp) (n k w : Nat) : Z (f + 1) 834 L st σ n k w = s_ialdQ E 300 N xs 835 L st σ n k w (zk1 cut G (Z f)) G R T := zrs hZ rfl f L st σ n k w
set_option maxRecDepth 20000 in
theorem f_L_law_835 (hZ : ZRN (ztb (tb_L_law E d mc ms N xs)) cut G R T Z) (f : Nat) (L : ZLV) (st : List Value) (σ : ZHp) (n k w : Nat) : Z (f + 1) 835 L st σ n k w = s_callV E d mc ms 14 MX15_trash 2 838 L st σ n k w (zk1 cut G (Z f)) G R T := zrs hZ rfl f L st σ n k w
set_option maxRecDepth 20000 in
theorem f_L_law_838 (hZ : ZRN (ztb (tb_L_law E d mc ms N xs)) cut G R T Z) (f : Nat) (L : ZLV) (st : List Value) (σ : ZHp) (n k w : Nat) : Z (f + 1) 838 L st σ n k w = s_istore 6 840 L st σ n k w (zk1 cut G (Z f)) G R T := zrs hZ rfl f L st σ n k w
set_option maxRecDepth 20000 in
theorem f_L_law_840 (hZ : ZRN (ztb (tb_L_law E d mc ms N xs)) cut G R T Z) (f : Nat) (L : ZLV) (st : List Value) (σ : ZHp) (n k w : Nat) : Z (f + 1) 840 L st σ n k w = s_aload 2 841 L st σ n k w (zk1 cut G (Z f)) G R T := zrs hZ rfl f L st σ n k w
set_option maxRecDepth 20000 in
theorem f_L_law_841 (hZ : ZRN (ztb (tb_L_law E d mc ms N xs)) cut G R T Z) (f : Nat) (L : ZLV) (st : List Value) (σ : ZHp) (n k w : Nat) : Z (f + 1) 841 L st σ n k w = s_callV E d mc ms 14 MX15_thrown 0 844 L st σ n k w (zk1 cut G (Z f)) G R T := zrs hZ rfl f L st σ n k w
set_option maxRecDepth 20000 in
theorem f_L_law_844 (hZ : ZRN (ztb (tb_L_law E d mc ms N xs)) cut G R T Z) (f : Nat) (L : ZLV) (st : List Value) (σ : ZHp) (n k w : Nat) : Z (f + 1) 844 L st σ n k w = s_iload 5 846 L st σ n k w (zk1 cut G (Z f)) G R T := zrs hZ rfl f L st σ n k w
set_option maxRecDepth 20000 in
theorem f_L_law_846 (hZ : ZRN (ztb (tb_L_law E d mc ms N xs)) cut G R T Z) (f : Nat) (L : ZLV) (st : List Value) (σ : ZHp) (n k w : Nat) : Z (f + 1) 846 L st σ n k w = s_icmp_eq 851 849 L st σ n k w (zk1 cut G (Z f)) G R T := zrs hZ rfl f L st σ n k w
set_option maxRecDepth 20000 in
theorem f_L_law_849 (hZ : ZRN (ztb (tb_L_law E d mc ms N xs)) cut G R T Z) (f : Nat) (L : ZLV) (st : List Value) (σ : ZHp) (n k w : Nat) : Z (f + 1) 849 L st σ n k w = s_const (.int (0)) 850 L st σ n k w (zk1 cut G (Z f)) G R T := zrs hZ rfl f L st σ n k w
set_option maxRecDepth 20000 in
theorem f_L_law_850 (hZ : ZRN (ztb (tb_L_law E d mc ms N xs)) cut G R T Z) (f : Nat) (L : ZLV) (st : List Value) (σ : ZHp) (n k w : Nat) : Z (f + 1) 850 L st σ n k w = s_zreturn L st σ n k w (zk1 cut G (Z f)) G R T := zrs hZ rfl f L st σ n k w
set_option maxRecDepth 20000 in
theorem f_L_law_851 (hZ : ZRN (ztb (tb_L_law E d mc ms N xs)) cut G R T Z) (f : Nat) (L : ZLV) (st : List Value) (σ : ZHp) (n k w : Nat) : Z (f + 1) 851 L st σ n k w = s_iload 5 853 L st σ n k w (zk1 cut G (Z f)) G R T := zrs hZ rfl f L st σ n k w
set_option maxRecDepth 20000 in
theorem f_L_law_853 (hZ : ZRN (ztb (tb_L_law E d mc ms N xs)) cut G R T Z) (f : Nat) (L : ZLV) (st : List Value) (σ : ZHp) (n k w : Nat) : Z (f + 1) 853 L st σ n k w = s_if_ne 868 856 L st σ n k w (zk1 cut G (Z f)) G R T := zrs hZ rfl f L st σ n k w
set_option maxRecDepth 20000 in
theorem f_L_law_856 (hZ : ZRN (ztb (tb_L_law E d mc ms N xs)) cut G R T Z) (f : Nat) (L : ZLV) (st : List Value) (σ : ZHp) (n k w : Nat) : Z (f + 1) 856 L st σ n k w = s_aload 3 857 L st σ n k w (zk1 cut G (Z f)) G R T := zrs hZ rfl f L st σ n k w
set_option maxRecDepth 20000 in
theorem f_L_law_857 (hZ : ZRN (ztb (tb_L_law E d mc ms N xs)) cut G R T Z) (f : Nat) (L : ZLV) (st : List Value) (σ : ZHp) (n k w : Nat) : Z (f + 1) 857 L st σ n k w = s_const (.int (0)) 858 L st σ n k w (zk1 cut G (Z f)) G R T := zrs hZ rfl f L st σ n k w
set_option maxRecDepth 20000 in
theorem f_L_law_858 (hZ : ZRN (ztb (tb_L_law E d mc ms N xs)) cut G R T Z) (f : Nat) (L : ZLV) (st : List Value) (σ : ZHp) (n k w : Nat) : Z (f + 1) 858 L st σ n k w = s_laload E 859 L st σ n k w (zk1 cut G (Z f)) G R T := zrs hZ rfl f L st σ n k w
set_option maxRecDepth 20000 in
theorem f_L_law_859 (hZ : ZRN (ztb (tb_L_law E d mc ms N xs)) cut G R T Z) (f : Nat) (L : ZLV) (st : List Value) (σ : ZHp) (n k w : Nat) : Z (f + 1) 859 L st σ n k w = s_iload 6 861 L st σ n k w (zk1 cut G (Z f)) G R T := zrs hZ rfl f L st σ n k w
set_option maxRecDepth 20000 in
theorem f_L_law_861 (hZ : ZRN (ztb (tb_L_law E d mc ms N xs)) cut G R T Z) (f : Nat) (L : ZLV) (st : List Value) (σ : ZHp) (n k w : Nat) : Z (f + 1) 861 L st σ n k w = s_i2l 862 L st σ n k w (zk1 cut G (Z f)) G R T := zrs hZ rfl f L st σ n k w
set_option maxRecDepth 20000 in
theorem f_L_law_862 (hZ : ZRN (ztb (tb_L_law E d mc ms N xs)) cut G R T Z) (f : Nat) (L : ZLV) (st : List Value) (σ : ZHp) (n k w : Nat) : Z (f + 1) 862 L st σ n k w = s_lcmp 863 L st σ n k w (zk1 cut G (Z f)) G R T := zrs hZ rfl f L st σ n k w
set_option maxRecDepth 20000 in
theorem f_L_law_863 (hZ : ZRN (ztb (tb_L_law E d mc ms N xs)) cut G R T Z) (f : Nat) (L : ZLV) (st : List Value) (σ : ZHp) (n k w : Nat) : Z (f + 1) 863 L st σ n k w = s_if_eq 868 866 L st σ n k w (zk1 cut G (Z f)) G R T := zrs hZ rfl f L st σ n k w
set_option maxRecDepth 20000 in
theorem f_L_law_866 (hZ : ZRN (ztb (tb_L_law E d mc ms N xs)) cut G R T Z) (f : Nat) (L : ZLV) (st : List Value) (σ : ZHp) (n k w : Nat) : Z (f + 1) 866 L st σ n k w = s_const (.int (0)) 867 L st σ n k w (zk1 cut G (Z f)) G R T := zrs hZ rfl f L st σ n k w
set_option maxRecDepth 20000 in
theorem f_L_law_867 (hZ : ZRN (ztb (tb_L_law E d mc ms N xs)) cut G R T Z) (f : Nat) (L : ZLV) (st : List Value) (σ : ZHp) (n k w : Nat) : Z (f + 1) 867 L st σ n k w = s_zreturn L st σ n k w (zk1 cut G (Z f)) G R T := zrs hZ rfl f L st σ n k w
set_option maxRecDepth 20000 in
theorem f_L_law_868 (hZ : ZRN (ztb (tb_L_law E d mc ms N xs)) cut G R T Z) (f : Nat) (L : ZLV) (st : List Value) (σ : ZHp) (n k w : Nat) : Z (f + 1) 868 L st σ n k w = s_goto 1310 L st σ n k w (zk1 cut G (Z f)) G R T := zrs hZ rfl f L st σ n k w
set_option maxRecDepth 20000 in
theorem f_L_law_871 (hZ : ZRN (ztb (tb_L_law E d mc ms N xs)) cut G R T Z) (f : Nat) (L : ZLV) (st : List Value) (σ : ZHp) (n k w : Nat) : Z (f + 1) 871 L st σ n k w = s_aload 1 872 L st σ n k w (zk1 cut G (Z f)) G R T := zrs hZ rfl f L st σ n k w
set_option maxRecDepth 20000 in
theorem f_L_law_872 (hZ : ZRN (ztb (tb_L_law E d mc ms N xs)) cut G R T Z) (f : Nat) (L : ZLV) (st : List Value) (σ : ZHp) (n k w : Nat) : Z (f + 1) 872 L st σ n k w = s_aload 0 873 L st σ n k w (zk1 cut G (Z f)) G R T := zrs hZ rfl f L st σ n k w
set_option maxRecDepth 20000 in
theorem f_L_law_873 (hZ : ZRN (ztb (tb_L_law E d mc ms N xs)) cut G R T Z) (f : Nat) (L : ZLV) (st : List Value) (σ : ZHp) (n k w : Nat) : Z (f + 1) 873 L st σ n k w = s_iload 4 875 L st σ n k w (zk1 cut G (Z f)) G R T := zrs hZ rfl f L st σ n k w
set_option maxRecDepth 20000 in
theorem f_L_law_875 (hZ : ZRN (ztb (tb_L_law E d mc ms N xs)) cut G R T Z) (f : Nat) (L : ZLV) (st : List Value) (σ : ZHp) (n k w : Nat) : Z (f + 1) 875 L st σ n k w = s_const (.int (1)) 876 L st σ n k w (zk1 cut G (Z f)) G R T := zrs hZ rfl f L st σ n k w
set_option maxRecDepth 20000 in
theorem f_L_law_876 (hZ : ZRN (ztb (tb_L_law E d mc ms N xs)) cut G R T Z) (f : Nat) (L : ZLV) (st : List Value) (σ : ZHp) (n k w : Nat) : Z (f + 1) 876 L st σ n k w = s_iadd 877 L st σ n k w (zk1 cut G (Z f)) G R T := zrs hZ rfl f L st σ n k w
set_option maxRecDepth 20000 in
theorem f_L_law_877 (hZ : ZRN (ztb (tb_L_law E d mc ms N xs)) cut G R T Z) (f : Nat) (L : ZLV) (st : List Value) (σ : ZHp) (n k w : Nat) : Z (f + 1) 877 L st σ n k w = s_ialdQ E 300 N xs 878 L st σ n k w (zk1 cut G (Z f)) G R T := zrs hZ rfl f L st σ n k w
set_option maxRecDepth 20000 in
theorem f_L_law_878 (hZ : ZRN (ztb (tb_L_law E d mc ms N xs)) cut G R T Z) (f : Nat) (L : ZLV) (st : List Value) (σ : ZHp) (n k w : Nat) : Z (f + 1) 878 L st σ n k w = s_aload 3 879 L st σ n k w (zk1 cut G (Z f)) G R T := zrs hZ rfl f L st σ n k w
set_option maxRecDepth 20000 in
theorem f_L_law_879 (hZ : ZRN (ztb (tb_L_law E d mc ms N xs)) cut G R T Z) (f : Nat) (L : ZLV) (st : List Value) (σ : ZHp) (n k w : Nat) : Z (f + 1) 879 L st σ n k w = s_callSH E d mc ms ML_shuffle [(0, 9, 12, 24)] 3 882 L st σ n k w (zk1 cut G (Z f)) G R T := zrs hZ rfl f L st σ n k w
set_option maxRecDepth 20000 in
theorem f_L_law_882 (hZ : ZRN (ztb (tb_L_law E d mc ms N xs)) cut G R T Z) (f : Nat) (L : ZLV) (st : List Value) (σ : ZHp) (n k w : Nat) : Z (f + 1) 882 L st σ n k w = s_istore 5 884 L st σ n k w (zk1 cut G (Z f)) G R T := zrs hZ rfl f L st σ n k w
set_option maxRecDepth 20000 in
theorem f_L_law_884 (hZ : ZRN (ztb (tb_L_law E d mc ms N xs)) cut G R T Z) (f : Nat) (L : ZLV) (st : List Value) (σ : ZHp) (n k w : Nat) : Z (f + 1) 884 L st σ n k w = s_aload 2 885 L st σ n k w (zk1 cut G (Z f)) G R T := zrs hZ rfl f L st σ n k w
set_option maxRecDepth 20000 in
theorem f_L_law_885 (hZ : ZRN (ztb (tb_L_law E d mc ms N xs)) cut G R T Z) (f : Nat) (L : ZLV) (st : List Value) (σ : ZHp) (n k w : Nat) : Z (f + 1) 885 L st σ n k w = s_aload 0 886 L st σ n k w (zk1 cut G (Z f)) G R T := zrs hZ rfl f L st σ n k w
set_option maxRecDepth 20000 in
theorem f_L_law_886 (hZ : ZRN (ztb (tb_L_law E d mc ms N xs)) cut G R T Z) (f : Nat) (L : ZLV) (st : List Value) (σ : ZHp) (n k w : Nat) : Z (f + 1) 886 L st σ n k w = s_iload 4 888 L st σ n k w (zk1 cut G (Z f)) G R T := zrs hZ rfl f L st σ n k w
set_option maxRecDepth 20000 in
theorem f_L_law_888 (hZ : ZRN (ztb (tb_L_law E d mc ms N xs)) cut G R T Z) (f : Nat) (L : ZLV) (st : List Value) (σ : ZHp) (n k w : Nat) : Z (f + 1) 888 L st σ n k w = s_const (.int (1)) 889 L st σ n k w (zk1 cut G (Z f)) G R T := zrs hZ rfl f L st σ n k w
set_option maxRecDepth 20000 in
theorem f_L_law_889 (hZ : ZRN (ztb (tb_L_law E d mc ms N xs)) cut G R T Z) (f : Nat) (L : ZLV) (st : List Value) (σ : ZHp) (n k w : Nat) : Z (f + 1) 889 L st σ n k w = s_iadd 890 L st σ n k w (zk1 cut G (Z f)) G R T := zrs hZ rfl f L st σ n k w
set_option maxRecDepth 20000 in
theorem f_L_law_890 (hZ : ZRN (ztb (tb_L_law E d mc ms N xs)) cut G R T Z) (f : Nat) (L : ZLV) (st : List Value) (σ : ZHp) (n k w : Nat) : Z (f + 1) 890 L st σ n k w = s_ialdQ E 300 N xs 891 L st σ n k w (zk1 cut G (Z f)) G R T := zrs hZ rfl f L st σ n k w
set_option maxRecDepth 20000 in
theorem f_L_law_891 (hZ : ZRN (ztb (tb_L_law E d mc ms N xs)) cut G R T Z) (f : Nat) (L : ZLV) (st : List Value) (σ : ZHp) (n k w : Nat) : Z (f + 1) 891 L st σ n k w = s_callV E d mc ms 14 MX15_shuffle 1 894 L st σ n k w (zk1 cut G (Z f)) G R T := zrs hZ rfl f L st σ n k w
set_option maxRecDepth 20000 in
theorem f_L_law_894 (hZ : ZRN (ztb (tb_L_law E d mc ms N xs)) cut G R T Z) (f : Nat) (L : ZLV) (st : List Value) (σ : ZHp) (n k w : Nat) : Z (f + 1) 894 L st σ n k w = s_istore 6 896 L st σ n k w (zk1 cut G (Z f)) G R T := zrs hZ rfl f L st σ n k w
set_option maxRecDepth 20000 in
theorem f_L_law_896 (hZ : ZRN (ztb (tb_L_law E d mc ms N xs)) cut G R T Z) (f : Nat) (L : ZLV) (st : List Value) (σ : ZHp) (n k w : Nat) : Z (f + 1) 896 L st σ n k w = s_aload 2 897 L st σ n k w (zk1 cut G (Z f)) G R T := zrs hZ rfl f L st σ n k w
set_option maxRecDepth 20000 in
theorem f_L_law_897 (hZ : ZRN (ztb (tb_L_law E d mc ms N xs)) cut G R T Z) (f : Nat) (L : ZLV) (st : List Value) (σ : ZHp) (n k w : Nat) : Z (f + 1) 897 L st σ n k w = s_callV E d mc ms 14 MX15_thrown 0 900 L st σ n k w (zk1 cut G (Z f)) G R T := zrs hZ rfl f L st σ n k w
set_option maxRecDepth 20000 in
theorem f_L_law_900 (hZ : ZRN (ztb (tb_L_law E d mc ms N xs)) cut G R T Z) (f : Nat) (L : ZLV) (st : List Value) (σ : ZHp) (n k w : Nat) : Z (f + 1) 900 L st σ n k w = s_iload 5 902 L st σ n k w (zk1 cut G (Z f)) G R T := zrs hZ rfl f L st σ n k w
set_option maxRecDepth 20000 in
theorem f_L_law_902 (hZ : ZRN (ztb (tb_L_law E d mc ms N xs)) cut G R T Z) (f : Nat) (L : ZLV) (st : List Value) (σ : ZHp) (n k w : Nat) : Z (f + 1) 902 L st σ n k w = s_icmp_eq 907 905 L st σ n k w (zk1 cut G (Z f)) G R T := zrs hZ rfl f L st σ n k w
set_option maxRecDepth 20000 in
theorem f_L_law_905 (hZ : ZRN (ztb (tb_L_law E d mc ms N xs)) cut G R T Z) (f : Nat) (L : ZLV) (st : List Value) (σ : ZHp) (n k w : Nat) : Z (f + 1) 905 L st σ n k w = s_const (.int (0)) 906 L st σ n k w (zk1 cut G (Z f)) G R T := zrs hZ rfl f L st σ n k w
set_option maxRecDepth 20000 in
theorem f_L_law_906 (hZ : ZRN (ztb (tb_L_law E d mc ms N xs)) cut G R T Z) (f : Nat) (L : ZLV) (st : List Value) (σ : ZHp) (n k w : Nat) : Z (f + 1) 906 L st σ n k w = s_zreturn L st σ n k w (zk1 cut G (Z f)) G R T := zrs hZ rfl f L st σ n k w
set_option maxRecDepth 20000 in
theorem f_L_law_907 (hZ : ZRN (ztb (tb_L_law E d mc ms N xs)) cut G R T Z) (f : Nat) (L : ZLV) (st : List Value) (σ : ZHp) (n k w : Nat) : Z (f + 1) 907 L st σ n k w = s_iload 5 909 L st σ n k w (zk1 cut G (Z f)) G R T := zrs hZ rfl f L st σ n k w
set_option maxRecDepth 20000 in
theorem f_L_law_909 (hZ : ZRN (ztb (tb_L_law E d mc ms N xs)) cut G R T Z) (f : Nat) (L : ZLV) (st : List Value) (σ : ZHp) (n k w : Nat) : Z (f + 1) 909 L st σ n k w = s_if_ne 924 912 L st σ n k w (zk1 cut G (Z f)) G R T := zrs hZ rfl f L st σ n k w
set_option maxRecDepth 20000 in
theorem f_L_law_912 (hZ : ZRN (ztb (tb_L_law E d mc ms N xs)) cut G R T Z) (f : Nat) (L : ZLV) (st : List Value) (σ : ZHp) (n k w : Nat) : Z (f + 1) 912 L st σ n k w = s_aload 3 913 L st σ n k w (zk1 cut G (Z f)) G R T := zrs hZ rfl f L st σ n k w
set_option maxRecDepth 20000 in
theorem f_L_law_913 (hZ : ZRN (ztb (tb_L_law E d mc ms N xs)) cut G R T Z) (f : Nat) (L : ZLV) (st : List Value) (σ : ZHp) (n k w : Nat) : Z (f + 1) 913 L st σ n k w = s_const (.int (0)) 914 L st σ n k w (zk1 cut G (Z f)) G R T := zrs hZ rfl f L st σ n k w
set_option maxRecDepth 20000 in
theorem f_L_law_914 (hZ : ZRN (ztb (tb_L_law E d mc ms N xs)) cut G R T Z) (f : Nat) (L : ZLV) (st : List Value) (σ : ZHp) (n k w : Nat) : Z (f + 1) 914 L st σ n k w = s_laload E 915 L st σ n k w (zk1 cut G (Z f)) G R T := zrs hZ rfl f L st σ n k w
set_option maxRecDepth 20000 in
theorem f_L_law_915 (hZ : ZRN (ztb (tb_L_law E d mc ms N xs)) cut G R T Z) (f : Nat) (L : ZLV) (st : List Value) (σ : ZHp) (n k w : Nat) : Z (f + 1) 915 L st σ n k w = s_iload 6 917 L st σ n k w (zk1 cut G (Z f)) G R T := zrs hZ rfl f L st σ n k w
set_option maxRecDepth 20000 in
theorem f_L_law_917 (hZ : ZRN (ztb (tb_L_law E d mc ms N xs)) cut G R T Z) (f : Nat) (L : ZLV) (st : List Value) (σ : ZHp) (n k w : Nat) : Z (f + 1) 917 L st σ n k w = s_i2l 918 L st σ n k w (zk1 cut G (Z f)) G R T := zrs hZ rfl f L st σ n k w
set_option maxRecDepth 20000 in
theorem f_L_law_918 (hZ : ZRN (ztb (tb_L_law E d mc ms N xs)) cut G R T Z) (f : Nat) (L : ZLV) (st : List Value) (σ : ZHp) (n k w : Nat) : Z (f + 1) 918 L st σ n k w = s_lcmp 919 L st σ n k w (zk1 cut G (Z f)) G R T := zrs hZ rfl f L st σ n k w
set_option maxRecDepth 20000 in
theorem f_L_law_919 (hZ : ZRN (ztb (tb_L_law E d mc ms N xs)) cut G R T Z) (f : Nat) (L : ZLV) (st : List Value) (σ : ZHp) (n k w : Nat) : Z (f + 1) 919 L st σ n k w = s_if_eq 924 922 L st σ n k w (zk1 cut G (Z f)) G R T := zrs hZ rfl f L st σ n k w
set_option maxRecDepth 20000 in
theorem f_L_law_922 (hZ : ZRN (ztb (tb_L_law E d mc ms N xs)) cut G R T Z) (f : Nat) (L : ZLV) (st : List Value) (σ : ZHp) (n k w : Nat) : Z (f + 1) 922 L st σ n k w = s_const (.int (0)) 923 L st σ n k w (zk1 cut G (Z f)) G R T := zrs hZ rfl f L st σ n k w
set_option maxRecDepth 20000 in
theorem f_L_law_923 (hZ : ZRN (ztb (tb_L_law E d mc ms N xs)) cut G R T Z) (f : Nat) (L : ZLV) (st : List Value) (σ : ZHp) (n k w : Nat) : Z (f + 1) 923 L st σ n k w = s_zreturn L st σ n k w (zk1 cut G (Z f)) G R T := zrs hZ rfl f L st σ n k w
set_option maxRecDepth 20000 in
theorem f_L_law_924 (hZ : ZRN (ztb (tb_L_law E d mc ms N xs)) cut G R T Z) (f : Nat) (L : ZLV) (st : List Value) (σ : ZHp) (n k w : Nat) : Z (f + 1) 924 L st σ n k w = s_goto 1310 L st σ n k w (zk1 cut G (Z f)) G R T := zrs hZ rfl f L st σ n k w
set_option maxRecDepth 20000 in
theorem f_L_law_927 (hZ : ZRN (ztb (tb_L_law E d mc ms N xs)) cut G R T Z) (f : Nat) (L : ZLV) (st : List Value) (σ : ZHp) (n k w : Nat) : Z (f + 1) 927 L st σ n k w = s_aload 1 928 L st σ n k w (zk1 cut G (Z f)) G R T := zrs hZ rfl f L st σ n k w
set_option maxRecDepth 20000 in
theorem f_L_law_928 (hZ : ZRN (ztb (tb_L_law E d mc ms N xs)) cut G R T Z) (f : Nat) (L : ZLV) (st : List Value) (σ : ZHp) (n k w : Nat) : Z (f + 1) 928 L st σ n k w = s_aload 0 929 L st σ n k w (zk1 cut G (Z f)) G R T := zrs hZ rfl f L st σ n k w
set_option maxRecDepth 20000 in
theorem f_L_law_929 (hZ : ZRN (ztb (tb_L_law E d mc ms N xs)) cut G R T Z) (f : Nat) (L : ZLV) (st : List Value) (σ : ZHp) (n k w : Nat) : Z (f + 1) 929 L st σ n k w = s_iload 4 931 L st σ n k w (zk1 cut G (Z f)) G R T := zrs hZ rfl f L st σ n k w
set_option maxRecDepth 20000 in
theorem f_L_law_931 (hZ : ZRN (ztb (tb_L_law E d mc ms N xs)) cut G R T Z) (f : Nat) (L : ZLV) (st : List Value) (σ : ZHp) (n k w : Nat) : Z (f + 1) 931 L st σ n k w = s_const (.int (1)) 932 L st σ n k w (zk1 cut G (Z f)) G R T := zrs hZ rfl f L st σ n k w
set_option maxRecDepth 20000 in
theorem f_L_law_932 (hZ : ZRN (ztb (tb_L_law E d mc ms N xs)) cut G R T Z) (f : Nat) (L : ZLV) (st : List Value) (σ : ZHp) (n k w : Nat) : Z (f + 1) 932 L st σ n k w = s_iadd 933 L st σ n k w (zk1 cut G (Z f)) G R T := zrs hZ rfl f L st σ n k w
set_option maxRecDepth 20000 in
theorem f_L_law_933 (hZ : ZRN (ztb (tb_L_law E d mc ms N xs)) cut G R T Z) (f : Nat) (L : ZLV) (st : List Value) (σ : ZHp) (n k w : Nat) : Z (f + 1) 933 L st σ n k w = s_ialdQ E 300 N xs 934 L st σ n k w (zk1 cut G (Z f)) G R T := zrs hZ rfl f L st σ n k w
set_option maxRecDepth 20000 in
theorem f_L_law_934 (hZ : ZRN (ztb (tb_L_law E d mc ms N xs)) cut G R T Z) (f : Nat) (L : ZLV) (st : List Value) (σ : ZHp) (n k w : Nat) : Z (f + 1) 934 L st σ n k w = s_aload 3 935 L st σ n k w (zk1 cut G (Z f)) G R T := zrs hZ rfl f L st σ n k w
set_option maxRecDepth 20000 in
theorem f_L_law_935 (hZ : ZRN (ztb (tb_L_law E d mc ms N xs)) cut G R T Z) (f : Nat) (L : ZLV) (st : List Value) (σ : ZHp) (n k w : Nat) : Z (f + 1) 935 L st σ n k w = s_callSH E d mc ms ML_play [(0, 9, 12, 19)] 3 938 L st σ n k w (zk1 cut G (Z f)) G R T := zrs hZ rfl f L st σ n k w
set_option maxRecDepth 20000 in
theorem f_L_law_938 (hZ : ZRN (ztb (tb_L_law E d mc ms N xs)) cut G R T Z) (f : Nat) (L : ZLV) (st : List Value) (σ : ZHp) (n k w : Nat) : Z (f + 1) 938 L st σ n k w = s_istore 5 940 L st σ n k w (zk1 cut G (Z f)) G R T := zrs hZ rfl f L st σ n k w
set_option maxRecDepth 20000 in
theorem f_L_law_940 (hZ : ZRN (ztb (tb_L_law E d mc ms N xs)) cut G R T Z) (f : Nat) (L : ZLV) (st : List Value) (σ : ZHp) (n k w : Nat) : Z (f + 1) 940 L st σ n k w = s_aload 2 941 L st σ n k w (zk1 cut G (Z f)) G R T := zrs hZ rfl f L st σ n k w
set_option maxRecDepth 20000 in
theorem f_L_law_941 (hZ : ZRN (ztb (tb_L_law E d mc ms N xs)) cut G R T Z) (f : Nat) (L : ZLV) (st : List Value) (σ : ZHp) (n k w : Nat) : Z (f + 1) 941 L st σ n k w = s_aload 0 942 L st σ n k w (zk1 cut G (Z f)) G R T := zrs hZ rfl f L st σ n k w
set_option maxRecDepth 20000 in
theorem f_L_law_942 (hZ : ZRN (ztb (tb_L_law E d mc ms N xs)) cut G R T Z) (f : Nat) (L : ZLV) (st : List Value) (σ : ZHp) (n k w : Nat) : Z (f + 1) 942 L st σ n k w = s_iload 4 944 L st σ n k w (zk1 cut G (Z f)) G R T := zrs hZ rfl f L st σ n k w
set_option maxRecDepth 20000 in
theorem f_L_law_944 (hZ : ZRN (ztb (tb_L_law E d mc ms N xs)) cut G R T Z) (f : Nat) (L : ZLV) (st : List Value) (σ : ZHp) (n k w : Nat) : Z (f + 1) 944 L st σ n k w = s_const (.int (1)) 945 L st σ n k w (zk1 cut G (Z f)) G R T := zrs hZ rfl f L st σ n k w
set_option maxRecDepth 20000 in
theorem f_L_law_945 (hZ : ZRN (ztb (tb_L_law E d mc ms N xs)) cut G R T Z) (f : Nat) (L : ZLV) (st : List Value) (σ : ZHp) (n k w : Nat) : Z (f + 1) 945 L st σ n k w = s_iadd 946 L st σ n k w (zk1 cut G (Z f)) G R T := zrs hZ rfl f L st σ n k w
set_option maxRecDepth 20000 in
theorem f_L_law_946 (hZ : ZRN (ztb (tb_L_law E d mc ms N xs)) cut G R T Z) (f : Nat) (L : ZLV) (st : List Value) (σ : ZHp) (n k w : Nat) : Z (f + 1) 946 L st σ n k w = s_ialdQ E 300 N xs 947 L st σ n k w (zk1 cut G (Z f)) G R T := zrs hZ rfl f L st σ n k w
set_option maxRecDepth 20000 in
theorem f_L_law_947 (hZ : ZRN (ztb (tb_L_law E d mc ms N xs)) cut G R T Z) (f : Nat) (L : ZLV) (st : List Value) (σ : ZHp) (n k w : Nat) : Z (f + 1) 947 L st σ n k w = s_callV E d mc ms 14 MX15_play 1 950 L st σ n k w (zk1 cut G (Z f)) G R T := zrs hZ rfl f L st σ n k w
set_option maxRecDepth 20000 in
theorem f_L_law_950 (hZ : ZRN (ztb (tb_L_law E d mc ms N xs)) cut G R T Z) (f : Nat) (L : ZLV) (st : List Value) (σ : ZHp) (n k w : Nat) : Z (f + 1) 950 L st σ n k w = s_istore 6 952 L st σ n k w (zk1 cut G (Z f)) G R T := zrs hZ rfl f L st σ n k w
set_option maxRecDepth 20000 in
theorem f_L_law_952 (hZ : ZRN (ztb (tb_L_law E d mc ms N xs)) cut G R T Z) (f : Nat) (L : ZLV) (st : List Value) (σ : ZHp) (n k w : Nat) : Z (f + 1) 952 L st σ n k w = s_aload 2 953 L st σ n k w (zk1 cut G (Z f)) G R T := zrs hZ rfl f L st σ n k w
set_option maxRecDepth 20000 in
theorem f_L_law_953 (hZ : ZRN (ztb (tb_L_law E d mc ms N xs)) cut G R T Z) (f : Nat) (L : ZLV) (st : List Value) (σ : ZHp) (n k w : Nat) : Z (f + 1) 953 L st σ n k w = s_callV E d mc ms 14 MX15_thrown 0 956 L st σ n k w (zk1 cut G (Z f)) G R T := zrs hZ rfl f L st σ n k w
set_option maxRecDepth 20000 in
theorem f_L_law_956 (hZ : ZRN (ztb (tb_L_law E d mc ms N xs)) cut G R T Z) (f : Nat) (L : ZLV) (st : List Value) (σ : ZHp) (n k w : Nat) : Z (f + 1) 956 L st σ n k w = s_iload 5 958 L st σ n k w (zk1 cut G (Z f)) G R T := zrs hZ rfl f L st σ n k w
set_option maxRecDepth 20000 in
theorem f_L_law_958 (hZ : ZRN (ztb (tb_L_law E d mc ms N xs)) cut G R T Z) (f : Nat) (L : ZLV) (st : List Value) (σ : ZHp) (n k w : Nat) : Z (f + 1) 958 L st σ n k w = s_icmp_eq 963 961 L st σ n k w (zk1 cut G (Z f)) G R T := zrs hZ rfl f L st σ n k w
set_option maxRecDepth 20000 in
theorem f_L_law_961 (hZ : ZRN (ztb (tb_L_law E d mc ms N xs)) cut G R T Z) (f : Nat) (L : ZLV) (st : List Value) (σ : ZHp) (n k w : Nat) : Z (f + 1) 961 L st σ n k w = s_const (.int (0)) 962 L st σ n k w (zk1 cut G (Z f)) G R T := zrs hZ rfl f L st σ n k w
set_option maxRecDepth 20000 in
theorem f_L_law_962 (hZ : ZRN (ztb (tb_L_law E d mc ms N xs)) cut G R T Z) (f : Nat) (L : ZLV) (st : List Value) (σ : ZHp) (n k w : Nat) : Z (f + 1) 962 L st σ n k w = s_zreturn L st σ n k w (zk1 cut G (Z f)) G R T := zrs hZ rfl f L st σ n k w
set_option maxRecDepth 20000 in
theorem f_L_law_963 (hZ : ZRN (ztb (tb_L_law E d mc ms N xs)) cut G R T Z) (f : Nat) (L : ZLV) (st : List Value) (σ : ZHp) (n k w : Nat) : Z (f + 1) 963 L st σ n k w = s_iload 5 965 L st σ n k w (zk1 cut G (Z f)) G R T := zrs hZ rfl f L st σ n k w
set_option maxRecDepth 20000 in
theorem f_L_law_965 (hZ : ZRN (ztb (tb_L_law E d mc ms N xs)) cut G R T Z) (f : Nat) (L : ZLV) (st : List Value) (σ : ZHp) (n k w : Nat) : Z (f + 1) 965 L st σ n k w = s_if_ne 980 968 L st σ n k w (zk1 cut G (Z f)) G R T := zrs hZ rfl f L st σ n k w
set_option maxRecDepth 20000 in
theorem f_L_law_968 (hZ : ZRN (ztb (tb_L_law E d mc ms N xs)) cut G R T Z) (f : Nat) (L : ZLV) (st : List Value) (σ : ZHp) (n k w : Nat) : Z (f + 1) 968 L st σ n k w = s_aload 3 969 L st σ n k w (zk1 cut G (Z f)) G R T := zrs hZ rfl f L st σ n k w
set_option maxRecDepth 20000 in
theorem f_L_law_969 (hZ : ZRN (ztb (tb_L_law E d mc ms N xs)) cut G R T Z) (f : Nat) (L : ZLV) (st : List Value) (σ : ZHp) (n k w : Nat) : Z (f + 1) 969 L st σ n k w = s_const (.int (0)) 970 L st σ n k w (zk1 cut G (Z f)) G R T := zrs hZ rfl f L st σ n k w
set_option maxRecDepth 20000 in
theorem f_L_law_970 (hZ : ZRN (ztb (tb_L_law E d mc ms N xs)) cut G R T Z) (f : Nat) (L : ZLV) (st : List Value) (σ : ZHp) (n k w : Nat) : Z (f + 1) 970 L st σ n k w = s_laload E 971 L st σ n k w (zk1 cut G (Z f)) G R T := zrs hZ rfl f L st σ n k w
set_option maxRecDepth 20000 in
theorem f_L_law_971 (hZ : ZRN (ztb (tb_L_law E d mc ms N xs)) cut G R T Z) (f : Nat) (L : ZLV) (st : List Value) (σ : ZHp) (n k w : Nat) : Z (f + 1) 971 L st σ n k w = s_iload 6 973 L st σ n k w (zk1 cut G (Z f)) G R T := zrs hZ rfl f L st σ n k w
set_option maxRecDepth 20000 in
theorem f_L_law_973 (hZ : ZRN (ztb (tb_L_law E d mc ms N xs)) cut G R T Z) (f : Nat) (L : ZLV) (st : List Value) (σ : ZHp) (n k w : Nat) : Z (f + 1) 973 L st σ n k w = s_i2l 974 L st σ n k w (zk1 cut G (Z f)) G R T := zrs hZ rfl f L st σ n k w
set_option maxRecDepth 20000 in
theorem f_L_law_974 (hZ : ZRN (ztb (tb_L_law E d mc ms N xs)) cut G R T Z) (f : Nat) (L : ZLV) (st : List Value) (σ : ZHp) (n k w : Nat) : Z (f + 1) 974 L st σ n k w = s_lcmp 975 L st σ n k w (zk1 cut G (Z f)) G R T := zrs hZ rfl f L st σ n k w
set_option maxRecDepth 20000 in
theorem f_L_law_975 (hZ : ZRN (ztb (tb_L_law E d mc ms N xs)) cut G R T Z) (f : Nat) (L : ZLV) (st : List Value) (σ : ZHp) (n k w : Nat) : Z (f + 1) 975 L st σ n k w = s_if_eq 980 978 L st σ n k w (zk1 cut G (Z f)) G R T := zrs hZ rfl f L st σ n k w
set_option maxRecDepth 20000 in
theorem f_L_law_978 (hZ : ZRN (ztb (tb_L_law E d mc ms N xs)) cut G R T Z) (f : Nat) (L : ZLV) (st : List Value) (σ : ZHp) (n k w : Nat) : Z (f + 1) 978 L st σ n k w = s_const (.int (0)) 979 L st σ n k w (zk1 cut G (Z f)) G R T := zrs hZ rfl f L st σ n k w
set_option maxRecDepth 20000 in
theorem f_L_law_979 (hZ : ZRN (ztb (tb_L_law E d mc ms N xs)) cut G R T Z) (f : Nat) (L : ZLV) (st : List Value) (σ : ZHp) (n k w : Nat) : Z (f + 1) 979 L st σ n k w = s_zreturn L st σ n k w (zk1 cut G (Z f)) G R T := zrs hZ rfl f L st σ n k w
set_option maxRecDepth 20000 in
theorem f_L_law_980 (hZ : ZRN (ztb (tb_L_law E d mc ms N xs)) cut G R T Z) (f : Nat) (L : ZLV) (st : List Value) (σ : ZHp) (n k w : Nat) : Z (f + 1) 980 L st σ n k w = s_goto 1310 L st σ n k w (zk1 cut G (Z f)) G R T := zrs hZ rfl f L st σ n k w
set_option maxRecDepth 20000 in
theorem f_L_law_983 (hZ : ZRN (ztb (tb_L_law E d mc ms N xs)) cut G R T Z) (f : Nat) (L : ZLV) (st : List Value) (σ : ZHp) (n k w : Nat) : Z (f + 1) 983 L st σ n k w = s_aload 1 984 L st σ n k w (zk1 cut G (Z f)) G R T := zrs hZ rfl f L st σ n k w
set_option maxRecDepth 20000 in
theorem f_L_law_984 (hZ : ZRN (ztb (tb_L_law E d mc ms N xs)) cut G R T Z) (f : Nat) (L : ZLV) (st : List Value) (σ : ZHp) (n k w : Nat) : Z (f + 1) 984 L st σ n k w = s_aload 0 985 L st σ n k w (zk1 cut G (Z f)) G R T := zrs hZ rfl f L st σ n k w
set_option maxRecDepth 20000 in
theorem f_L_law_985 (hZ : ZRN (ztb (tb_L_law E d mc ms N xs)) cut G R T Z) (f : Nat) (L : ZLV) (st : List Value) (σ : ZHp) (n k w : Nat) : Z (f + 1) 985 L st σ n k w = s_iload 4 987 L st σ n k w (zk1 cut G (Z f)) G R T := zrs hZ rfl f L st σ n k w
set_option maxRecDepth 20000 in
theorem f_L_law_987 (hZ : ZRN (ztb (tb_L_law E d mc ms N xs)) cut G R T Z) (f : Nat) (L : ZLV) (st : List Value) (σ : ZHp) (n k w : Nat) : Z (f + 1) 987 L st σ n k w = s_const (.int (1)) 988 L st σ n k w (zk1 cut G (Z f)) G R T := zrs hZ rfl f L st σ n k w
set_option maxRecDepth 20000 in
theorem f_L_law_988 (hZ : ZRN (ztb (tb_L_law E d mc ms N xs)) cut G R T Z) (f : Nat) (L : ZLV) (st : List Value) (σ : ZHp) (n k w : Nat) : Z (f + 1) 988 L st σ n k w = s_iadd 989 L st σ n k w (zk1 cut G (Z f)) G R T := zrs hZ rfl f L st σ n k w
set_option maxRecDepth 20000 in
theorem f_L_law_989 (hZ : ZRN (ztb (tb_L_law E d mc ms N xs)) cut G R T Z) (f : Nat) (L : ZLV) (st : List Value) (σ : ZHp) (n k w : Nat) : Z (f + 1) 989 L st σ n k w = s_ialdQ E 300 N xs 990 L st σ n k w (zk1 cut G (Z f)) G R T := zrs hZ rfl f L st σ n k w
set_option maxRecDepth 20000 in
theorem f_L_law_990 (hZ : ZRN (ztb (tb_L_law E d mc ms N xs)) cut G R T Z) (f : Nat) (L : ZLV) (st : List Value) (σ : ZHp) (n k w : Nat) : Z (f + 1) 990 L st σ n k w = s_aload 0 991 L st σ n k w (zk1 cut G (Z f)) G R T := zrs hZ rfl f L st σ n k w
set_option maxRecDepth 20000 in
theorem f_L_law_991 (hZ : ZRN (ztb (tb_L_law E d mc ms N xs)) cut G R T Z) (f : Nat) (L : ZLV) (st : List Value) (σ : ZHp) (n k w : Nat) : Z (f + 1) 991 L st σ n k w = s_iload 4 993 L st σ n k w (zk1 cut G (Z f)) G R T := zrs hZ rfl f L st σ n k w
set_option maxRecDepth 20000 in
theorem f_L_law_993 (hZ : ZRN (ztb (tb_L_law E d mc ms N xs)) cut G R T Z) (f : Nat) (L : ZLV) (st : List Value) (σ : ZHp) (n k w : Nat) : Z (f + 1) 993 L st σ n k w = s_const (.int (2)) 994 L st σ n k w (zk1 cut G (Z f)) G R T := zrs hZ rfl f L st σ n k w
set_option maxRecDepth 20000 in
theorem f_L_law_994 (hZ : ZRN (ztb (tb_L_law E d mc ms N xs)) cut G R T Z) (f : Nat) (L : ZLV) (st : List Value) (σ : ZHp) (n k w : Nat) : Z (f + 1) 994 L st σ n k w = s_iadd 995 L st σ n k w (zk1 cut G (Z f)) G R T := zrs hZ rfl f L st σ n k w
set_option maxRecDepth 20000 in
theorem f_L_law_995 (hZ : ZRN (ztb (tb_L_law E d mc ms N xs)) cut G R T Z) (f : Nat) (L : ZLV) (st : List Value) (σ : ZHp) (n k w : Nat) : Z (f + 1) 995 L st σ n k w = s_ialdQ E 300 N xs 996 L st σ n k w (zk1 cut G (Z f)) G R T := zrs hZ rfl f L st σ n k w
set_option maxRecDepth 20000 in
theorem f_L_law_996 (hZ : ZRN (ztb (tb_L_law E d mc ms N xs)) cut G R T Z) (f : Nat) (L : ZLV) (st : List Value) (σ : ZHp) (n k w : Nat) : Z (f + 1) 996 L st σ n k w = s_aload 3 997 L st σ n k w (zk1 cut G (Z f)) G R T := zrs hZ rfl f L st σ n k w
set_option maxRecDepth 20000 in
theorem f_L_law_997 (hZ : ZRN (ztb (tb_L_law E d mc ms N xs)) cut G R T Z) (f : Nat) (L : ZLV) (st : List Value) (σ : ZHp) (n k w : Nat) : Z (f + 1) 997 L st σ n k w = s_callSH E d mc ms ML_next [(0, 10, 13, 24)] 4 1000 L st σ n k w (zk1 cut G (Z f)) G R T := zrs hZ rfl f L st σ n k w
set_option maxRecDepth 20000 in
theorem f_L_law_1000 (hZ : ZRN (ztb (tb_L_law E d mc ms N xs)) cut G R T Z) (f : Nat) (L : ZLV) (st : List Value) (σ : ZHp) (n k w : Nat) : Z (f + 1) 1000 L st σ n k w = s_istore 5 1002 L st σ n k w (zk1 cut G (Z f)) G R T := zrs hZ rfl f L st σ n k w
set_option maxRecDepth 20000 in
theorem f_L_law_1002 (hZ : ZRN (ztb (tb_L_law E d mc ms N xs)) cut G R T Z) (f : Nat) (L : ZLV) (st : List Value) (σ : ZHp) (n k w : Nat) : Z (f + 1) 1002 L st σ n k w = s_aload 2 1003 L st σ n k w (zk1 cut G (Z f)) G R T := zrs hZ rfl f L st σ n k w
set_option maxRecDepth 20000 in
theorem f_L_law_1003 (hZ : ZRN (ztb (tb_L_law E d mc ms N xs)) cut G R T Z) (f : Nat) (L : ZLV) (st : List Value) (σ : ZHp) (n k w : Nat) : Z (f + 1) 1003 L st σ n k w = s_aload 0 1004 L st σ n k w (zk1 cut G (Z f)) G R T := zrs hZ rfl f L st σ n k w
set_option maxRecDepth 20000 in
theorem f_L_law_1004 (hZ : ZRN (ztb (tb_L_law E d mc ms N xs)) cut G R T Z) (f : Nat) (L : ZLV) (st : List Value) (σ : ZHp) (n k w : Nat) : Z (f + 1) 1004 L st σ n k w = s_iload 4 1006 L st σ n k w (zk1 cut G (Z f)) G R T := zrs hZ rfl f L st σ n k w
set_option maxRecDepth 20000 in
theorem f_L_law_1006 (hZ : ZRN (ztb (tb_L_law E d mc ms N xs)) cut G R T Z) (f : Nat) (L : ZLV) (st : List Value) (σ : ZHp) (n k w : Nat) : Z (f + 1) 1006 L st σ n k w = s_const (.int (1)) 1007 L st σ n k w (zk1 cut G (Z f)) G R T := zrs hZ rfl f L st σ n k w
set_option maxRecDepth 20000 in
theorem f_L_law_1007 (hZ : ZRN (ztb (tb_L_law E d mc ms N xs)) cut G R T Z) (f : Nat) (L : ZLV) (st : List Value) (σ : ZHp) (n k w : Nat) : Z (f + 1) 1007 L st σ n k w = s_iadd 1008 L st σ n k w (zk1 cut G (Z f)) G R T := zrs hZ rfl f L st σ n k w
set_option maxRecDepth 20000 in
theorem f_L_law_1008 (hZ : ZRN (ztb (tb_L_law E d mc ms N xs)) cut G R T Z) (f : Nat) (L : ZLV) (st : List Value) (σ : ZHp) (n k w : Nat) : Z (f + 1) 1008 L st σ n k w = s_ialdQ E 300 N xs 1009 L st σ n k w (zk1 cut G (Z f)) G R T := zrs hZ rfl f L st σ n k w
set_option maxRecDepth 20000 in
theorem f_L_law_1009 (hZ : ZRN (ztb (tb_L_law E d mc ms N xs)) cut G R T Z) (f : Nat) (L : ZLV) (st : List Value) (σ : ZHp) (n k w : Nat) : Z (f + 1) 1009 L st σ n k w = s_aload 0 1010 L st σ n k w (zk1 cut G (Z f)) G R T := zrs hZ rfl f L st σ n k w
set_option maxRecDepth 20000 in
theorem f_L_law_1010 (hZ : ZRN (ztb (tb_L_law E d mc ms N xs)) cut G R T Z) (f : Nat) (L : ZLV) (st : List Value) (σ : ZHp) (n k w : Nat) : Z (f + 1) 1010 L st σ n k w = s_iload 4 1012 L st σ n k w (zk1 cut G (Z f)) G R T := zrs hZ rfl f L st σ n k w
set_option maxRecDepth 20000 in
theorem f_L_law_1012 (hZ : ZRN (ztb (tb_L_law E d mc ms N xs)) cut G R T Z) (f : Nat) (L : ZLV) (st : List Value) (σ : ZHp) (n k w : Nat) : Z (f + 1) 1012 L st σ n k w = s_const (.int (2)) 1013 L st σ n k w (zk1 cut G (Z f)) G R T := zrs hZ rfl f L st σ n k w
set_option maxRecDepth 20000 in
theorem f_L_law_1013 (hZ : ZRN (ztb (tb_L_law E d mc ms N xs)) cut G R T Z) (f : Nat) (L : ZLV) (st : List Value) (σ : ZHp) (n k w : Nat) : Z (f + 1) 1013 L st σ n k w = s_iadd 1014 L st σ n k w (zk1 cut G (Z f)) G R T := zrs hZ rfl f L st σ n k w
set_option maxRecDepth 20000 in
theorem f_L_law_1014 (hZ : ZRN (ztb (tb_L_law E d mc ms N xs)) cut G R T Z) (f : Nat) (L : ZLV) (st : List Value) (σ : ZHp) (n k w : Nat) : Z (f + 1) 1014 L st σ n k w = s_ialdQ E 300 N xs 1015 L st σ n k w (zk1 cut G (Z f)) G R T := zrs hZ rfl f L st σ n k w
set_option maxRecDepth 20000 in
theorem f_L_law_1015 (hZ : ZRN (ztb (tb_L_law E d mc ms N xs)) cut G R T Z) (f : Nat) (L : ZLV) (st : List Value) (σ : ZHp) (n k w : Nat) : Z (f + 1) 1015 L st σ n k w = s_callV E d mc ms 14 MX15_next 2 1018 L st σ n k w (zk1 cut G (Z f)) G R T := zrs hZ rfl f L st σ n k w
set_option maxRecDepth 20000 in
theorem f_L_law_1018 (hZ : ZRN (ztb (tb_L_law E d mc ms N xs)) cut G R T Z) (f : Nat) (L : ZLV) (st : List Value) (σ : ZHp) (n k w : Nat) : Z (f + 1) 1018 L st σ n k w = s_istore 6 1020 L st σ n k w (zk1 cut G (Z f)) G R T := zrs hZ rfl f L st σ n k w
set_option maxRecDepth 20000 in
theorem f_L_law_1020 (hZ : ZRN (ztb (tb_L_law E d mc ms N xs)) cut G R T Z) (f : Nat) (L : ZLV) (st : List Value) (σ : ZHp) (n k w : Nat) : Z (f + 1) 1020 L st σ n k w = s_aload 2 1021 L st σ n k w (zk1 cut G (Z f)) G R T := zrs hZ rfl f L st σ n k w
set_option maxRecDepth 20000 in
theorem f_L_law_1021 (hZ : ZRN (ztb (tb_L_law E d mc ms N xs)) cut G R T Z) (f : Nat) (L : ZLV) (st : List Value) (σ : ZHp) (n k w : Nat) : Z (f + 1) 1021 L st σ n k w = s_callV E d mc ms 14 MX15_thrown 0 1024 L st σ n k w (zk1 cut G (Z f)) G R T := zrs hZ rfl f L st σ n k w
set_option maxRecDepth 20000 in
theorem f_L_law_1024 (hZ : ZRN (ztb (tb_L_law E d mc ms N xs)) cut G R T Z) (f : Nat) (L : ZLV) (st : List Value) (σ : ZHp) (n k w : Nat) : Z (f + 1) 1024 L st σ n k w = s_iload 5 1026 L st σ n k w (zk1 cut G (Z f)) G R T := zrs hZ rfl f L st σ n k w
set_option maxRecDepth 20000 in
theorem f_L_law_1026 (hZ : ZRN (ztb (tb_L_law E d mc ms N xs)) cut G R T Z) (f : Nat) (L : ZLV) (st : List Value) (σ : ZHp) (n k w : Nat) : Z (f + 1) 1026 L st σ n k w = s_icmp_eq 1031 1029 L st σ n k w (zk1 cut G (Z f)) G R T := zrs hZ rfl f L st σ n k w
set_option maxRecDepth 20000 in
theorem f_L_law_1029 (hZ : ZRN (ztb (tb_L_law E d mc ms N xs)) cut G R T Z) (f : Nat) (L : ZLV) (st : List Value) (σ : ZHp) (n k w : Nat) : Z (f + 1) 1029 L st σ n k w = s_const (.int (0)) 1030 L st σ n k w (zk1 cut G (Z f)) G R T := zrs hZ rfl f L st σ n k w
set_option maxRecDepth 20000 in
theorem f_L_law_1030 (hZ : ZRN (ztb (tb_L_law E d mc ms N xs)) cut G R T Z) (f : Nat) (L : ZLV) (st : List Value) (σ : ZHp) (n k w : Nat) : Z (f + 1) 1030 L st σ n k w = s_zreturn L st σ n k w (zk1 cut G (Z f)) G R T := zrs hZ rfl f L st σ n k w
set_option maxRecDepth 20000 in
theorem f_L_law_1031 (hZ : ZRN (ztb (tb_L_law E d mc ms N xs)) cut G R T Z) (f : Nat) (L : ZLV) (st : List Value) (σ : ZHp) (n k w : Nat) : Z (f + 1) 1031 L st σ n k w = s_iload 5 1033 L st σ n k w (zk1 cut G (Z f)) G R T := zrs hZ rfl f L st σ n k w
set_option maxRecDepth 20000 in
theorem f_L_law_1033 (hZ : ZRN (ztb (tb_L_law E d mc ms N xs)) cut G R T Z) (f : Nat) (L : ZLV) (st : List Value) (σ : ZHp) (n k w : Nat) : Z (f + 1) 1033 L st σ n k w = s_if_ne 1048 1036 L st σ n k w (zk1 cut G (Z f)) G R T := zrs hZ rfl f L st σ n k w
set_option maxRecDepth 20000 in
theorem f_L_law_1036 (hZ : ZRN (ztb (tb_L_law E d mc ms N xs)) cut G R T Z) (f : Nat) (L : ZLV) (st : List Value) (σ : ZHp) (n k w : Nat) : Z (f + 1) 1036 L st σ n k w = s_aload 3 1037 L st σ n k w (zk1 cut G (Z f)) G R T := zrs hZ rfl f L st σ n k w
set_option maxRecDepth 20000 in
theorem f_L_law_1037 (hZ : ZRN (ztb (tb_L_law E d mc ms N xs)) cut G R T Z) (f : Nat) (L : ZLV) (st : List Value) (σ : ZHp) (n k w : Nat) : Z (f + 1) 1037 L st σ n k w = s_const (.int (0)) 1038 L st σ n k w (zk1 cut G (Z f)) G R T := zrs hZ rfl f L st σ n k w
set_option maxRecDepth 20000 in
theorem f_L_law_1038 (hZ : ZRN (ztb (tb_L_law E d mc ms N xs)) cut G R T Z) (f : Nat) (L : ZLV) (st : List Value) (σ : ZHp) (n k w : Nat) : Z (f + 1) 1038 L st σ n k w = s_laload E 1039 L st σ n k w (zk1 cut G (Z f)) G R T := zrs hZ rfl f L st σ n k w
set_option maxRecDepth 20000 in
theorem f_L_law_1039 (hZ : ZRN (ztb (tb_L_law E d mc ms N xs)) cut G R T Z) (f : Nat) (L : ZLV) (st : List Value) (σ : ZHp) (n k w : Nat) : Z (f + 1) 1039 L st σ n k w = s_iload 6 1041 L st σ n k w (zk1 cut G (Z f)) G R T := zrs hZ rfl f L st σ n k w
set_option maxRecDepth 20000 in
theorem f_L_law_1041 (hZ : ZRN (ztb (tb_L_law E d mc ms N xs)) cut G R T Z) (f : Nat) (L : ZLV) (st : List Value) (σ : ZHp) (n k w : Nat) : Z (f + 1) 1041 L st σ n k w = s_i2l 1042 L st σ n k w (zk1 cut G (Z f)) G R T := zrs hZ rfl f L st σ n k w
set_option maxRecDepth 20000 in
theorem f_L_law_1042 (hZ : ZRN (ztb (tb_L_law E d mc ms N xs)) cut G R T Z) (f : Nat) (L : ZLV) (st : List Value) (σ : ZHp) (n k w : Nat) : Z (f + 1) 1042 L st σ n k w = s_lcmp 1043 L st σ n k w (zk1 cut G (Z f)) G R T := zrs hZ rfl f L st σ n k w
set_option maxRecDepth 20000 in
theorem f_L_law_1043 (hZ : ZRN (ztb (tb_L_law E d mc ms N xs)) cut G R T Z) (f : Nat) (L : ZLV) (st : List Value) (σ : ZHp) (n k w : Nat) : Z (f + 1) 1043 L st σ n k w = s_if_eq 1048 1046 L st σ n k w (zk1 cut G (Z f)) G R T := zrs hZ rfl f L st σ n k w
set_option maxRecDepth 20000 in
theorem f_L_law_1046 (hZ : ZRN (ztb (tb_L_law E d mc ms N xs)) cut G R T Z) (f : Nat) (L : ZLV) (st : List Value) (σ : ZHp) (n k w : Nat) : Z (f + 1) 1046 L st σ n k w = s_const (.int (0)) 1047 L st σ n k w (zk1 cut G (Z f)) G R T := zrs hZ rfl f L st σ n k w
set_option maxRecDepth 20000 in
theorem f_L_law_1047 (hZ : ZRN (ztb (tb_L_law E d mc ms N xs)) cut G R T Z) (f : Nat) (L : ZLV) (st : List Value) (σ : ZHp) (n k w : Nat) : Z (f + 1) 1047 L st σ n k w = s_zreturn L st σ n k w (zk1 cut G (Z f)) G R T := zrs hZ rfl f L st σ n k w
set_option maxRecDepth 20000 in
theorem f_L_law_1048 (hZ : ZRN (ztb (tb_L_law E d mc ms N xs)) cut G R T Z) (f : Nat) (L : ZLV) (st : List Value) (σ : ZHp) (n k w : Nat) : Z (f + 1) 1048 L st σ n k w = s_goto 1310 L st σ n k w (zk1 cut G (Z f)) G R T := zrs hZ rfl f L st σ n k w
set_option maxRecDepth 20000 in
theorem f_L_law_1051 (hZ : ZRN (ztb (tb_L_law E d mc ms N xs)) cut G R T Z) (f : Nat) (L : ZLV) (st : List Value) (σ : ZHp) (n k w : Nat) : Z (f + 1) 1051 L st σ n k w = s_aload 1 1052 L st σ n k w (zk1 cut G (Z f)) G R T := zrs hZ rfl f L st σ n k w
set_option maxRecDepth 20000 in
theorem f_L_law_1052 (hZ : ZRN (ztb (tb_L_law E d mc ms N xs)) cut G R T Z) (f : Nat) (L : ZLV) (st : List Value) (σ : ZHp) (n k w : Nat) : Z (f + 1) 1052 L st σ n k w = s_aload 0 1053 L st σ n k w (zk1 cut G (Z f)) G R T := zrs hZ rfl f L st σ n k w
set_option maxRecDepth 20000 in
theorem f_L_law_1053 (hZ : ZRN (ztb (tb_L_law E d mc ms N xs)) cut G R T Z) (f : Nat) (L : ZLV) (st : List Value) (σ : ZHp) (n k w : Nat) : Z (f + 1) 1053 L st σ n k w = s_iload 4 1055 L st σ n k w (zk1 cut G (Z f)) G R T := zrs hZ rfl f L st σ n k w
set_option maxRecDepth 20000 in
theorem f_L_law_1055 (hZ : ZRN (ztb (tb_L_law E d mc ms N xs)) cut G R T Z) (f : Nat) (L : ZLV) (st : List Value) (σ : ZHp) (n k w : Nat) : Z (f + 1) 1055 L st σ n k w = s_const (.int (1)) 1056 L st σ n k w (zk1 cut G (Z f)) G R T := zrs hZ rfl f L st σ n k w
set_option maxRecDepth 20000 in
theorem f_L_law_1056 (hZ : ZRN (ztb (tb_L_law E d mc ms N xs)) cut G R T Z) (f : Nat) (L : ZLV) (st : List Value) (σ : ZHp) (n k w : Nat) : Z (f + 1) 1056 L st σ n k w = s_iadd 1057 L st σ n k w (zk1 cut G (Z f)) G R T := zrs hZ rfl f L st σ n k w
set_option maxRecDepth 20000 in
theorem f_L_law_1057 (hZ : ZRN (ztb (tb_L_law E d mc ms N xs)) cut G R T Z) (f : Nat) (L : ZLV) (st : List Value) (σ : ZHp) (n k w : Nat) : Z (f + 1) 1057 L st σ n k w = s_ialdQ E 300 N xs 1058 L st σ n k w (zk1 cut G (Z f)) G R T := zrs hZ rfl f L st σ n k w
set_option maxRecDepth 20000 in
theorem f_L_law_1058 (hZ : ZRN (ztb (tb_L_law E d mc ms N xs)) cut G R T Z) (f : Nat) (L : ZLV) (st : List Value) (σ : ZHp) (n k w : Nat) : Z (f + 1) 1058 L st σ n k w = s_aload 0 1059 L st σ n k w (zk1 cut G (Z f)) G R T := zrs hZ rfl f L st σ n k w
set_option maxRecDepth 20000 in
theorem f_L_law_1059 (hZ : ZRN (ztb (tb_L_law E d mc ms N xs)) cut G R T Z) (f : Nat) (L : ZLV) (st : List Value) (σ : ZHp) (n k w : Nat) : Z (f + 1) 1059 L st σ n k w = s_iload 4 1061 L st σ n k w (zk1 cut G (Z f)) G R T := zrs hZ rfl f L st σ n k w
set_option maxRecDepth 20000 in
theorem f_L_law_1061 (hZ : ZRN (ztb (tb_L_law E d mc ms N xs)) cut G R T Z) (f : Nat) (L : ZLV) (st : List Value) (σ : ZHp) (n k w : Nat) : Z (f + 1) 1061 L st σ n k w = s_const (.int (2)) 1062 L st σ n k w (zk1 cut G (Z f)) G R T := zrs hZ rfl f L st σ n k w
set_option maxRecDepth 20000 in
theorem f_L_law_1062 (hZ : ZRN (ztb (tb_L_law E d mc ms N xs)) cut G R T Z) (f : Nat) (L : ZLV) (st : List Value) (σ : ZHp) (n k w : Nat) : Z (f + 1) 1062 L st σ n k w = s_iadd 1063 L st σ n k w (zk1 cut G (Z f)) G R T := zrs hZ rfl f L st σ n k w
set_option maxRecDepth 20000 in
theorem f_L_law_1063 (hZ : ZRN (ztb (tb_L_law E d mc ms N xs)) cut G R T Z) (f : Nat) (L : ZLV) (st : List Value) (σ : ZHp) (n k w : Nat) : Z (f + 1) 1063 L st σ n k w = s_ialdQ E 300 N xs 1064 L st σ n k w (zk1 cut G (Z f)) G R T := zrs hZ rfl f L st σ n k w
set_option maxRecDepth 20000 in
theorem f_L_law_1064 (hZ : ZRN (ztb (tb_L_law E d mc ms N xs)) cut G R T Z) (f : Nat) (L : ZLV) (st : List Value) (σ : ZHp) (n k w : Nat) : Z (f + 1) 1064 L st σ n k w = s_aload 3 1065 L st σ n k w (zk1 cut G (Z f)) G R T := zrs hZ rfl f L st σ n k w
set_option maxRecDepth 20000 in
theorem f_L_law_1065 (hZ : ZRN (ztb (tb_L_law E d mc ms N xs)) cut G R T Z) (f : Nat) (L : ZLV) (st : List Value) (σ : ZHp) (n k w : Nat) : Z (f + 1) 1065 L st σ n k w = s_callSH E d mc ms ML_foresee [(0, 10, 13, 19), (0, 10, 17, 24)] 4 1068 L st σ n k w (zk1 cut G (Z f)) G R T := zrs hZ rfl f L st σ n k w
set_option maxRecDepth 20000 in
theorem f_L_law_1068 (hZ : ZRN (ztb (tb_L_law E d mc ms N xs)) cut G R T Z) (f : Nat) (L : ZLV) (st : List Value) (σ : ZHp) (n k w : Nat) : Z (f + 1) 1068 L st σ n k w = s_istore 5 1070 L st σ n k w (zk1 cut G (Z f)) G R T := zrs hZ rfl f L st σ n k w
set_option maxRecDepth 20000 in
theorem f_L_law_1070 (hZ : ZRN (ztb (tb_L_law E d mc ms N xs)) cut G R T Z) (f : Nat) (L : ZLV) (st : List Value) (σ : ZHp) (n k w : Nat) : Z (f + 1) 1070 L st σ n k w = s_aload 2 1071 L st σ n k w (zk1 cut G (Z f)) G R T := zrs hZ rfl f L st σ n k w
set_option maxRecDepth 20000 in
theorem f_L_law_1071 (hZ : ZRN (ztb (tb_L_law E d mc ms N xs)) cut G R T Z) (f : Nat) (L : ZLV) (st : List Value) (σ : ZHp) (n k w : Nat) : Z (f + 1) 1071 L st σ n k w = s_aload 0 1072 L st σ n k w (zk1 cut G (Z f)) G R T := zrs hZ rfl f L st σ n k w
set_option maxRecDepth 20000 in
theorem f_L_law_1072 (hZ : ZRN (ztb (tb_L_law E d mc ms N xs)) cut G R T Z) (f : Nat) (L : ZLV) (st : List Value) (σ : ZHp) (n k w : Nat) : Z (f + 1) 1072 L st σ n k w = s_iload 4 1074 L st σ n k w (zk1 cut G (Z f)) G R T := zrs hZ rfl f L st σ n k w
set_option maxRecDepth 20000 in
theorem f_L_law_1074 (hZ : ZRN (ztb (tb_L_law E d mc ms N xs)) cut G R T Z) (f : Nat) (L : ZLV) (st : List Value) (σ : ZHp) (n k w : Nat) : Z (f + 1) 1074 L st σ n k w = s_const (.int (1)) 1075 L st σ n k w (zk1 cut G (Z f)) G R T := zrs hZ rfl f L st σ n k w
set_option maxRecDepth 20000 in
theorem f_L_law_1075 (hZ : ZRN (ztb (tb_L_law E d mc ms N xs)) cut G R T Z) (f : Nat) (L : ZLV) (st : List Value) (σ : ZHp) (n k w : Nat) : Z (f + 1) 1075 L st σ n k w = s_iadd 1076 L st σ n k w (zk1 cut G (Z f)) G R T := zrs hZ rfl f L st σ n k w
set_option maxRecDepth 20000 in
theorem f_L_law_1076 (hZ : ZRN (ztb (tb_L_law E d mc ms N xs)) cut G R T Z) (f : Nat) (L : ZLV) (st : List Value) (σ : ZHp) (n k w : Nat) : Z (f + 1) 1076 L st σ n k w = s_ialdQ E 300 N xs 1077 L st σ n k w (zk1 cut G (Z f)) G R T := zrs hZ rfl f L st σ n k w
set_option maxRecDepth 20000 in
theorem f_L_law_1077 (hZ : ZRN (ztb (tb_L_law E d mc ms N xs)) cut G R T Z) (f : Nat) (L : ZLV) (st : List Value) (σ : ZHp) (n k w : Nat) : Z (f + 1) 1077 L st σ n k w = s_aload 0 1078 L st σ n k w (zk1 cut G (Z f)) G R T := zrs hZ rfl f L st σ n k w
set_option maxRecDepth 20000 in
theorem f_L_law_1078 (hZ : ZRN (ztb (tb_L_law E d mc ms N xs)) cut G R T Z) (f : Nat) (L : ZLV) (st : List Value) (σ : ZHp) (n k w : Nat) : Z (f + 1) 1078 L st σ n k w = s_iload 4 1080 L st σ n k w (zk1 cut G (Z f)) G R T := zrs hZ rfl f L st σ n k w
set_option maxRecDepth 20000 in
theorem f_L_law_1080 (hZ : ZRN (ztb (tb_L_law E d mc ms N xs)) cut G R T Z) (f : Nat) (L : ZLV) (st : List Value) (σ : ZHp) (n k w : Nat) : Z (f + 1) 1080 L st σ n k w = s_const (.int (2)) 1081 L st σ n k w (zk1 cut G (Z f)) G R T := zrs hZ rfl f L st σ n k w
set_option maxRecDepth 20000 in
theorem f_L_law_1081 (hZ : ZRN (ztb (tb_L_law E d mc ms N xs)) cut G R T Z) (f : Nat) (L : ZLV) (st : List Value) (σ : ZHp) (n k w : Nat) : Z (f + 1) 1081 L st σ n k w = s_iadd 1082 L st σ n k w (zk1 cut G (Z f)) G R T := zrs hZ rfl f L st σ n k w
set_option maxRecDepth 20000 in
theorem f_L_law_1082 (hZ : ZRN (ztb (tb_L_law E d mc ms N xs)) cut G R T Z) (f : Nat) (L : ZLV) (st : List Value) (σ : ZHp) (n k w : Nat) : Z (f + 1) 1082 L st σ n k w = s_ialdQ E 300 N xs 1083 L st σ n k w (zk1 cut G (Z f)) G R T := zrs hZ rfl f L st σ n k w
set_option maxRecDepth 20000 in
theorem f_L_law_1083 (hZ : ZRN (ztb (tb_L_law E d mc ms N xs)) cut G R T Z) (f : Nat) (L : ZLV) (st : List Value) (σ : ZHp) (n k w : Nat) : Z (f + 1) 1083 L st σ n k w = s_callV E d mc ms 14 MX15_foresee 2 1086 L st σ n k w (zk1 cut G (Z f)) G R T := zrs hZ rfl f L st σ n k w
set_option maxRecDepth 20000 in
theorem f_L_law_1086 (hZ : ZRN (ztb (tb_L_law E d mc ms N xs)) cut G R T Z) (f : Nat) (L : ZLV) (st : List Value) (σ : ZHp) (n k w : Nat) : Z (f + 1) 1086 L st σ n k w = s_istore 6 1088 L st σ n k w (zk1 cut G (Z f)) G R T := zrs hZ rfl f L st σ n k w
set_option maxRecDepth 20000 in
theorem f_L_law_1088 (hZ : ZRN (ztb (tb_L_law E d mc ms N xs)) cut G R T Z) (f : Nat) (L : ZLV) (st : List Value) (σ : ZHp) (n k w : Nat) : Z (f + 1) 1088 L st σ n k w = s_aload 2 1089 L st σ n k w (zk1 cut G (Z f)) G R T := zrs hZ rfl f L st σ n k w
set_option maxRecDepth 20000 in
theorem f_L_law_1089 (hZ : ZRN (ztb (tb_L_law E d mc ms N xs)) cut G R T Z) (f : Nat) (L : ZLV) (st : List Value) (σ : ZHp) (n k w : Nat) : Z (f + 1) 1089 L st σ n k w = s_callV E d mc ms 14 MX15_thrown 0 1092 L st σ n k w (zk1 cut G (Z f)) G R T := zrs hZ rfl f L st σ n k w
set_option maxRecDepth 20000 in
theorem f_L_law_1092 (hZ : ZRN (ztb (tb_L_law E d mc ms N xs)) cut G R T Z) (f : Nat) (L : ZLV) (st : List Value) (σ : ZHp) (n k w : Nat) : Z (f + 1) 1092 L st σ n k w = s_iload 5 1094 L st σ n k w (zk1 cut G (Z f)) G R T := zrs hZ rfl f L st σ n k w
set_option maxRecDepth 20000 in
theorem f_L_law_1094 (hZ : ZRN (ztb (tb_L_law E d mc ms N xs)) cut G R T Z) (f : Nat) (L : ZLV) (st : List Value) (σ : ZHp) (n k w : Nat) : Z (f + 1) 1094 L st σ n k w = s_icmp_eq 1099 1097 L st σ n k w (zk1 cut G (Z f)) G R T := zrs hZ rfl f L st σ n k w
set_option maxRecDepth 20000 in
theorem f_L_law_1097 (hZ : ZRN (ztb (tb_L_law E d mc ms N xs)) cut G R T Z) (f : Nat) (L : ZLV) (st : List Value) (σ : ZHp) (n k w : Nat) : Z (f + 1) 1097 L st σ n k w = s_const (.int (0)) 1098 L st σ n k w (zk1 cut G (Z f)) G R T := zrs hZ rfl f L st σ n k w
set_option maxRecDepth 20000 in
theorem f_L_law_1098 (hZ : ZRN (ztb (tb_L_law E d mc ms N xs)) cut G R T Z) (f : Nat) (L : ZLV) (st : List Value) (σ : ZHp) (n k w : Nat) : Z (f + 1) 1098 L st σ n k w = s_zreturn L st σ n k w (zk1 cut G (Z f)) G R T := zrs hZ rfl f L st σ n k w
set_option maxRecDepth 20000 in
theorem f_L_law_1099 (hZ : ZRN (ztb (tb_L_law E d mc ms N xs)) cut G R T Z) (f : Nat) (L : ZLV) (st : List Value) (σ : ZHp) (n k w : Nat) : Z (f + 1) 1099 L st σ n k w = s_iload 5 1101 L st σ n k w (zk1 cut G (Z f)) G R T := zrs hZ rfl f L st σ n k w
set_option maxRecDepth 20000 in
theorem f_L_law_1101 (hZ : ZRN (ztb (tb_L_law E d mc ms N xs)) cut G R T Z) (f : Nat) (L : ZLV) (st : List Value) (σ : ZHp) (n k w : Nat) : Z (f + 1) 1101 L st σ n k w = s_if_ne 1116 1104 L st σ n k w (zk1 cut G (Z f)) G R T := zrs hZ rfl f L st σ n k w
set_option maxRecDepth 20000 in
theorem f_L_law_1104 (hZ : ZRN (ztb (tb_L_law E d mc ms N xs)) cut G R T Z) (f : Nat) (L : ZLV) (st : List Value) (σ : ZHp) (n k w : Nat) : Z (f + 1) 1104 L st σ n k w = s_aload 3 1105 L st σ n k w (zk1 cut G (Z f)) G R T := zrs hZ rfl f L st σ n k w
set_option maxRecDepth 20000 in
theorem f_L_law_1105 (hZ : ZRN (ztb (tb_L_law E d mc ms N xs)) cut G R T Z) (f : Nat) (L : ZLV) (st : List Value) (σ : ZHp) (n k w : Nat) : Z (f + 1) 1105 L st σ n k w = s_const (.int (0)) 1106 L st σ n k w (zk1 cut G (Z f)) G R T := zrs hZ rfl f L st σ n k w
set_option maxRecDepth 20000 in
theorem f_L_law_1106 (hZ : ZRN (ztb (tb_L_law E d mc ms N xs)) cut G R T Z) (f : Nat) (L : ZLV) (st : List Value) (σ : ZHp) (n k w : Nat) : Z (f + 1) 1106 L st σ n k w = s_laload E 1107 L st σ n k w (zk1 cut G (Z f)) G R T := zrs hZ rfl f L st σ n k w
set_option maxRecDepth 20000 in
theorem f_L_law_1107 (hZ : ZRN (ztb (tb_L_law E d mc ms N xs)) cut G R T Z) (f : Nat) (L : ZLV) (st : List Value) (σ : ZHp) (n k w : Nat) : Z (f + 1) 1107 L st σ n k w = s_iload 6 1109 L st σ n k w (zk1 cut G (Z f)) G R T := zrs hZ rfl f L st σ n k w
set_option maxRecDepth 20000 in
theorem f_L_law_1109 (hZ : ZRN (ztb (tb_L_law E d mc ms N xs)) cut G R T Z) (f : Nat) (L : ZLV) (st : List Value) (σ : ZHp) (n k w : Nat) : Z (f + 1) 1109 L st σ n k w = s_i2l 1110 L st σ n k w (zk1 cut G (Z f)) G R T := zrs hZ rfl f L st σ n k w
set_option maxRecDepth 20000 in
theorem f_L_law_1110 (hZ : ZRN (ztb (tb_L_law E d mc ms N xs)) cut G R T Z) (f : Nat) (L : ZLV) (st : List Value) (σ : ZHp) (n k w : Nat) : Z (f + 1) 1110 L st σ n k w = s_lcmp 1111 L st σ n k w (zk1 cut G (Z f)) G R T := zrs hZ rfl f L st σ n k w
set_option maxRecDepth 20000 in
theorem f_L_law_1111 (hZ : ZRN (ztb (tb_L_law E d mc ms N xs)) cut G R T Z) (f : Nat) (L : ZLV) (st : List Value) (σ : ZHp) (n k w : Nat) : Z (f + 1) 1111 L st σ n k w = s_if_eq 1116 1114 L st σ n k w (zk1 cut G (Z f)) G R T := zrs hZ rfl f L st σ n k w
set_option maxRecDepth 20000 in
theorem f_L_law_1114 (hZ : ZRN (ztb (tb_L_law E d mc ms N xs)) cut G R T Z) (f : Nat) (L : ZLV) (st : List Value) (σ : ZHp) (n k w : Nat) : Z (f + 1) 1114 L st σ n k w = s_const (.int (0)) 1115 L st σ n k w (zk1 cut G (Z f)) G R T := zrs hZ rfl f L st σ n k w
set_option maxRecDepth 20000 in
theorem f_L_law_1115 (hZ : ZRN (ztb (tb_L_law E d mc ms N xs)) cut G R T Z) (f : Nat) (L : ZLV) (st : List Value) (σ : ZHp) (n k w : Nat) : Z (f + 1) 1115 L st σ n k w = s_zreturn L st σ n k w (zk1 cut G (Z f)) G R T := zrs hZ rfl f L st σ n k w
set_option maxRecDepth 20000 in
theorem f_L_law_1116 (hZ : ZRN (ztb (tb_L_law E d mc ms N xs)) cut G R T Z) (f : Nat) (L : ZLV) (st : List Value) (σ : ZHp) (n k w : Nat) : Z (f + 1) 1116 L st σ n k w = s_goto 1310 L st σ n k w (zk1 cut G (Z f)) G R T := zrs hZ rfl f L st σ n k w
set_option maxRecDepth 20000 in
theorem f_L_law_1119 (hZ : ZRN (ztb (tb_L_law E d mc ms N xs)) cut G R T Z) (f : Nat) (L : ZLV) (st : List Value) (σ : ZHp) (n k w : Nat) : Z (f + 1) 1119 L st σ n k w = s_aload 1 1120 L st σ n k w (zk1 cut G (Z f)) G R T := zrs hZ rfl f L st σ n k w
set_option maxRecDepth 20000 in
theorem f_L_law_1120 (hZ : ZRN (ztb (tb_L_law E d mc ms N xs)) cut G R T Z) (f : Nat) (L : ZLV) (st : List Value) (σ : ZHp) (n k w : Nat) : Z (f + 1) 1120 L st σ n k w = s_aload 0 1121 L st σ n k w (zk1 cut G (Z f)) G R T := zrs hZ rfl f L st σ n k w
set_option maxRecDepth 20000 in
theorem f_L_law_1121 (hZ : ZRN (ztb (tb_L_law E d mc ms N xs)) cut G R T Z) (f : Nat) (L : ZLV) (st : List Value) (σ : ZHp) (n k w : Nat) : Z (f + 1) 1121 L st σ n k w = s_iload 4 1123 L st σ n k w (zk1 cut G (Z f)) G R T := zrs hZ rfl f L st σ n k w
set_option maxRecDepth 20000 in
theorem f_L_law_1123 (hZ : ZRN (ztb (tb_L_law E d mc ms N xs)) cut G R T Z) (f : Nat) (L : ZLV) (st : List Value) (σ : ZHp) (n k w : Nat) : Z (f + 1) 1123 L st σ n k w = s_const (.int (1)) 1124 L st σ n k w (zk1 cut G (Z f)) G R T := zrs hZ rfl f L st σ n k w
set_option maxRecDepth 20000 in
theorem f_L_law_1124 (hZ : ZRN (ztb (tb_L_law E d mc ms N xs)) cut G R T Z) (f : Nat) (L : ZLV) (st : List Value) (σ : ZHp) (n k w : Nat) : Z (f + 1) 1124 L st σ n k w = s_iadd 1125 L st σ n k w (zk1 cut G (Z f)) G R T := zrs hZ rfl f L st σ n k w
set_option maxRecDepth 20000 in
theorem f_L_law_1125 (hZ : ZRN (ztb (tb_L_law E d mc ms N xs)) cut G R T Z) (f : Nat) (L : ZLV) (st : List Value) (σ : ZHp) (n k w : Nat) : Z (f + 1) 1125 L st σ n k w = s_ialdQ E 300 N xs 1126 L st σ n k w (zk1 cut G (Z f)) G R T := zrs hZ rfl f L st σ n k w
set_option maxRecDepth 20000 in
theorem f_L_law_1126 (hZ : ZRN (ztb (tb_L_law E d mc ms N xs)) cut G R T Z) (f : Nat) (L : ZLV) (st : List Value) (σ : ZHp) (n k w : Nat) : Z (f + 1) 1126 L st σ n k w = s_aload 0 1127 L st σ n k w (zk1 cut G (Z f)) G R T := zrs hZ rfl f L st σ n k w
set_option maxRecDepth 20000 in
theorem f_L_law_1127 (hZ : ZRN (ztb (tb_L_law E d mc ms N xs)) cut G R T Z) (f : Nat) (L : ZLV) (st : List Value) (σ : ZHp) (n k w : Nat) : Z (f + 1) 1127 L st σ n k w = s_iload 4 1129 L st σ n k w (zk1 cut G (Z f)) G R T := zrs hZ rfl f L st σ n k w
set_option maxRecDepth 20000 in
theorem f_L_law_1129 (hZ : ZRN (ztb (tb_L_law E d mc ms N xs)) cut G R T Z) (f : Nat) (L : ZLV) (st : List Value) (σ : ZHp) (n k w : Nat) : Z (f + 1) 1129 L st σ n k w = s_const (.int (2)) 1130 L st σ n k w (zk1 cut G (Z f)) G R T := zrs hZ rfl f L st σ n k w
set_option maxRecDepth 20000 in
theorem f_L_law_1130 (hZ : ZRN (ztb (tb_L_law E d mc ms N xs)) cut G R T Z) (f : Nat) (L : ZLV) (st : List Value) (σ : ZHp) (n k w : Nat) : Z (f + 1) 1130 L st σ n k w = s_iadd 1131 L st σ n k w (zk1 cut G (Z f)) G R T := zrs hZ rfl f L st σ n k w
set_option maxRecDepth 20000 in
theorem f_L_law_1131 (hZ : ZRN (ztb (tb_L_law E d mc ms N xs)) cut G R T Z) (f : Nat) (L : ZLV) (st : List Value) (σ : ZHp) (n k w : Nat) : Z (f + 1) 1131 L st σ n k w = s_ialdQ E 300 N xs 1132 L st σ n k w (zk1 cut G (Z f)) G R T := zrs hZ rfl f L st σ n k w
set_option maxRecDepth 20000 in
theorem f_L_law_1132 (hZ : ZRN (ztb (tb_L_law E d mc ms N xs)) cut G R T Z) (f : Nat) (L : ZLV) (st : List Value) (σ : ZHp) (n k w : Nat) : Z (f + 1) 1132 L st σ n k w = s_aload 3 1133 L st σ n k w (zk1 cut G (Z f)) G R T := zrs hZ rfl f L st σ n k w
set_option maxRecDepth 20000 in
theorem f_L_law_1133 (hZ : ZRN (ztb (tb_L_law E d mc ms N xs)) cut G R T Z) (f : Nat) (L : ZLV) (st : List Value) (σ : ZHp) (n k w : Nat) : Z (f + 1) 1133 L st σ n k w = s_callSH E d mc ms ML_missed [(0, 10, 13, 24), (0, 10, 17, 19)] 4 1136 L st σ n k w (zk1 cut G (Z f)) G R T := zrs hZ rfl f L st σ n k w
set_option maxRecDepth 20000 in
theorem f_L_law_1136 (hZ : ZRN (ztb (tb_L_law E d mc ms N xs)) cut G R T Z) (f : Nat) (L : ZLV) (st : List Value) (σ : ZHp) (n k w : Nat) : Z (f + 1) 1136 L st σ n k w = s_istore 5 1138 L st σ n k w (zk1 cut G (Z f)) G R T := zrs hZ rfl f L st σ n k w
set_option maxRecDepth 20000 in
theorem f_L_law_1138 (hZ : ZRN (ztb (tb_L_law E d mc ms N xs)) cut G R T Z) (f : Nat) (L : ZLV) (st : List Value) (σ : ZHp) (n k w : Nat) : Z (f + 1) 1138 L st σ n k w = s_aload 2 1139 L st σ n k w (zk1 cut G (Z f)) G R T := zrs hZ rfl f L st σ n k w
set_option maxRecDepth 20000 in
theorem f_L_law_1139 (hZ : ZRN (ztb (tb_L_law E d mc ms N xs)) cut G R T Z) (f : Nat) (L : ZLV) (st : List Value) (σ : ZHp) (n k w : Nat) : Z (f + 1) 1139 L st σ n k w = s_aload 0 1140 L st σ n k w (zk1 cut G (Z f)) G R T := zrs hZ rfl f L st σ n k w
set_option maxRecDepth 20000 in
theorem f_L_law_1140 (hZ : ZRN (ztb (tb_L_law E d mc ms N xs)) cut G R T Z) (f : Nat) (L : ZLV) (st : List Value) (σ : ZHp) (n k w : Nat) : Z (f + 1) 1140 L st σ n k w = s_iload 4 1142 L st σ n k w (zk1 cut G (Z f)) G R T := zrs hZ rfl f L st σ n k w
set_option maxRecDepth 20000 in
theorem f_L_law_1142 (hZ : ZRN (ztb (tb_L_law E d mc ms N xs)) cut G R T Z) (f : Nat) (L : ZLV) (st : List Value) (σ : ZHp) (n k w : Nat) : Z (f + 1) 1142 L st σ n k w = s_const (.int (1)) 1143 L st σ n k w (zk1 cut G (Z f)) G R T := zrs hZ rfl f L st σ n k w
set_option maxRecDepth 20000 in
theorem f_L_law_1143 (hZ : ZRN (ztb (tb_L_law E d mc ms N xs)) cut G R T Z) (f : Nat) (L : ZLV) (st : List Value) (σ : ZHp) (n k w : Nat) : Z (f + 1) 1143 L st σ n k w = s_iadd 1144 L st σ n k w (zk1 cut G (Z f)) G R T := zrs hZ rfl f L st σ n k w
set_option maxRecDepth 20000 in
theorem f_L_law_1144 (hZ : ZRN (ztb (tb_L_law E d mc ms N xs)) cut G R T Z) (f : Nat) (L : ZLV) (st : List Value) (σ : ZHp) (n k w : Nat) : Z (f + 1) 1144 L st σ n k w = s_ialdQ E 300 N xs 1145 L st σ n k w (zk1 cut G (Z f)) G R T := zrs hZ rfl f L st σ n k w
set_option maxRecDepth 20000 in
theorem f_L_law_1145 (hZ : ZRN (ztb (tb_L_law E d mc ms N xs)) cut G R T Z) (f : Nat) (L : ZLV) (st : List Value) (σ : ZHp) (n k w : Nat) : Z (f + 1) 1145 L st σ n k w = s_aload 0 1146 L st σ n k w (zk1 cut G (Z f)) G R T := zrs hZ rfl f L st σ n k w
set_option maxRecDepth 20000 in
theorem f_L_law_1146 (hZ : ZRN (ztb (tb_L_law E d mc ms N xs)) cut G R T Z) (f : Nat) (L : ZLV) (st : List Value) (σ : ZHp) (n k w : Nat) : Z (f + 1) 1146 L st σ n k w = s_iload 4 1148 L st σ n k w (zk1 cut G (Z f)) G R T := zrs hZ rfl f L st σ n k w
set_option maxRecDepth 20000 in
theorem f_L_law_1148 (hZ : ZRN (ztb (tb_L_law E d mc ms N xs)) cut G R T Z) (f : Nat) (L : ZLV) (st : List Value) (σ : ZHp) (n k w : Nat) : Z (f + 1) 1148 L st σ n k w = s_const (.int (2)) 1149 L st σ n k w (zk1 cut G (Z f)) G R T := zrs hZ rfl f L st σ n k w
set_option maxRecDepth 20000 in
theorem f_L_law_1149 (hZ : ZRN (ztb (tb_L_law E d mc ms N xs)) cut G R T Z) (f : Nat) (L : ZLV) (st : List Value) (σ : ZHp) (n k w : Nat) : Z (f + 1) 1149 L st σ n k w = s_iadd 1150 L st σ n k w (zk1 cut G (Z f)) G R T := zrs hZ rfl f L st σ n k w
set_option maxRecDepth 20000 in
theorem f_L_law_1150 (hZ : ZRN (ztb (tb_L_law E d mc ms N xs)) cut G R T Z) (f : Nat) (L : ZLV) (st : List Value) (σ : ZHp) (n k w : Nat) : Z (f + 1) 1150 L st σ n k w = s_ialdQ E 300 N xs 1151 L st σ n k w (zk1 cut G (Z f)) G R T := zrs hZ rfl f L st σ n k w
set_option maxRecDepth 20000 in
theorem f_L_law_1151 (hZ : ZRN (ztb (tb_L_law E d mc ms N xs)) cut G R T Z) (f : Nat) (L : ZLV) (st : List Value) (σ : ZHp) (n k w : Nat) : Z (f + 1) 1151 L st σ n k w = s_callV E d mc ms 14 MX15_missed 2 1154 L st σ n k w (zk1 cut G (Z f)) G R T := zrs hZ rfl f L st σ n k w
set_option maxRecDepth 20000 in
theorem f_L_law_1154 (hZ : ZRN (ztb (tb_L_law E d mc ms N xs)) cut G R T Z) (f : Nat) (L : ZLV) (st : List Value) (σ : ZHp) (n k w : Nat) : Z (f + 1) 1154 L st σ n k w = s_istore 6 1156 L st σ n k w (zk1 cut G (Z f)) G R T := zrs hZ rfl f L st σ n k w
set_option maxRecDepth 20000 in
theorem f_L_law_1156 (hZ : ZRN (ztb (tb_L_law E d mc ms N xs)) cut G R T Z) (f : Nat) (L : ZLV) (st : List Value) (σ : ZHp) (n k w : Nat) : Z (f + 1) 1156 L st σ n k w = s_aload 2 1157 L st σ n k w (zk1 cut G (Z f)) G R T := zrs hZ rfl f L st σ n k w
set_option maxRecDepth 20000 in
theorem f_L_law_1157 (hZ : ZRN (ztb (tb_L_law E d mc ms N xs)) cut G R T Z) (f : Nat) (L : ZLV) (st : List Value) (σ : ZHp) (n k w : Nat) : Z (f + 1) 1157 L st σ n k w = s_callV E d mc ms 14 MX15_thrown 0 1160 L st σ n k w (zk1 cut G (Z f)) G R T := zrs hZ rfl f L st σ n k w
set_option maxRecDepth 20000 in
theorem f_L_law_1160 (hZ : ZRN (ztb (tb_L_law E d mc ms N xs)) cut G R T Z) (f : Nat) (L : ZLV) (st : List Value) (σ : ZHp) (n k w : Nat) : Z (f + 1) 1160 L st σ n k w = s_iload 5 1162 L st σ n k w (zk1 cut G (Z f)) G R T := zrs hZ rfl f L st σ n k w
set_option maxRecDepth 20000 in
theorem f_L_law_1162 (hZ : ZRN (ztb (tb_L_law E d mc ms N xs)) cut G R T Z) (f : Nat) (L : ZLV) (st : List Value) (σ : ZHp) (n k w : Nat) : Z (f + 1) 1162 L st σ n k w = s_icmp_eq 1167 1165 L st σ n k w (zk1 cut G (Z f)) G R T := zrs hZ rfl f L st σ n k w
set_option maxRecDepth 20000 in
theorem f_L_law_1165 (hZ : ZRN (ztb (tb_L_law E d mc ms N xs)) cut G R T Z) (f : Nat) (L : ZLV) (st : List Value) (σ : ZHp) (n k w : Nat) : Z (f + 1) 1165 L st σ n k w = s_const (.int (0)) 1166 L st σ n k w (zk1 cut G (Z f)) G R T := zrs hZ rfl f L st σ n k w
set_option maxRecDepth 20000 in
theorem f_L_law_1166 (hZ : ZRN (ztb (tb_L_law E d mc ms N xs)) cut G R T Z) (f : Nat) (L : ZLV) (st : List Value) (σ : ZHp) (n k w : Nat) : Z (f + 1) 1166 L st σ n k w = s_zreturn L st σ n k w (zk1 cut G (Z f)) G R T := zrs hZ rfl f L st σ n k w
set_option maxRecDepth 20000 in
theorem f_L_law_1167 (hZ : ZRN (ztb (tb_L_law E d mc ms N xs)) cut G R T Z) (f : Nat) (L : ZLV) (st : List Value) (σ : ZHp) (n k w : Nat) : Z (f + 1) 1167 L st σ n k w = s_iload 5 1169 L st σ n k w (zk1 cut G (Z f)) G R T := zrs hZ rfl f L st σ n k w
set_option maxRecDepth 20000 in
theorem f_L_law_1169 (hZ : ZRN (ztb (tb_L_law E d mc ms N xs)) cut G R T Z) (f : Nat) (L : ZLV) (st : List Value) (σ : ZHp) (n k w : Nat) : Z (f + 1) 1169 L st σ n k w = s_if_ne 1184 1172 L st σ n k w (zk1 cut G (Z f)) G R T := zrs hZ rfl f L st σ n k w
set_option maxRecDepth 20000 in
theorem f_L_law_1172 (hZ : ZRN (ztb (tb_L_law E d mc ms N xs)) cut G R T Z) (f : Nat) (L : ZLV) (st : List Value) (σ : ZHp) (n k w : Nat) : Z (f + 1) 1172 L st σ n k w = s_aload 3 1173 L st σ n k w (zk1 cut G (Z f)) G R T := zrs hZ rfl f L st σ n k w
set_option maxRecDepth 20000 in
theorem f_L_law_1173 (hZ : ZRN (ztb (tb_L_law E d mc ms N xs)) cut G R T Z) (f : Nat) (L : ZLV) (st : List Value) (σ : ZHp) (n k w : Nat) : Z (f + 1) 1173 L st σ n k w = s_const (.int (0)) 1174 L st σ n k w (zk1 cut G (Z f)) G R T := zrs hZ rfl f L st σ n k w
set_option maxRecDepth 20000 in
theorem f_L_law_1174 (hZ : ZRN (ztb (tb_L_law E d mc ms N xs)) cut G R T Z) (f : Nat) (L : ZLV) (st : List Value) (σ : ZHp) (n k w : Nat) : Z (f + 1) 1174 L st σ n k w = s_laload E 1175 L st σ n k w (zk1 cut G (Z f)) G R T := zrs hZ rfl f L st σ n k w
set_option maxRecDepth 20000 in
theorem f_L_law_1175 (hZ : ZRN (ztb (tb_L_law E d mc ms N xs)) cut G R T Z) (f : Nat) (L : ZLV) (st : List Value) (σ : ZHp) (n k w : Nat) : Z (f + 1) 1175 L st σ n k w = s_iload 6 1177 L st σ n k w (zk1 cut G (Z f)) G R T := zrs hZ rfl f L st σ n k w
set_option maxRecDepth 20000 in
theorem f_L_law_1177 (hZ : ZRN (ztb (tb_L_law E d mc ms N xs)) cut G R T Z) (f : Nat) (L : ZLV) (st : List Value) (σ : ZHp) (n k w : Nat) : Z (f + 1) 1177 L st σ n k w = s_i2l 1178 L st σ n k w (zk1 cut G (Z f)) G R T := zrs hZ rfl f L st σ n k w
set_option maxRecDepth 20000 in
theorem f_L_law_1178 (hZ : ZRN (ztb (tb_L_law E d mc ms N xs)) cut G R T Z) (f : Nat) (L : ZLV) (st : List Value) (σ : ZHp) (n k w : Nat) : Z (f + 1) 1178 L st σ n k w = s_lcmp 1179 L st σ n k w (zk1 cut G (Z f)) G R T := zrs hZ rfl f L st σ n k w
set_option maxRecDepth 20000 in
theorem f_L_law_1179 (hZ : ZRN (ztb (tb_L_law E d mc ms N xs)) cut G R T Z) (f : Nat) (L : ZLV) (st : List Value) (σ : ZHp) (n k w : Nat) : Z (f + 1) 1179 L st σ n k w = s_if_eq 1184 1182 L st σ n k w (zk1 cut G (Z f)) G R T := zrs hZ rfl f L st σ n k w
set_option maxRecDepth 20000 in
theorem f_L_law_1182 (hZ : ZRN (ztb (tb_L_law E d mc ms N xs)) cut G R T Z) (f : Nat) (L : ZLV) (st : List Value) (σ : ZHp) (n k w : Nat) : Z (f + 1) 1182 L st σ n k w = s_const (.int (0)) 1183 L st σ n k w (zk1 cut G (Z f)) G R T := zrs hZ rfl f L st σ n k w
set_option maxRecDepth 20000 in
theorem f_L_law_1183 (hZ : ZRN (ztb (tb_L_law E d mc ms N xs)) cut G R T Z) (f : Nat) (L : ZLV) (st : List Value) (σ : ZHp) (n k w : Nat) : Z (f + 1) 1183 L st σ n k w = s_zreturn L st σ n k w (zk1 cut G (Z f)) G R T := zrs hZ rfl f L st σ n k w
set_option maxRecDepth 20000 in
theorem f_L_law_1184 (hZ : ZRN (ztb (tb_L_law E d mc ms N xs)) cut G R T Z) (f : Nat) (L : ZLV) (st : List Value) (σ : ZHp) (n k w : Nat) : Z (f + 1) 1184 L st σ n k w = s_goto 1310 L st σ n k w (zk1 cut G (Z f)) G R T := zrs hZ rfl f L st σ n k w
set_option maxRecDepth 20000 in
theorem f_L_law_1187 (hZ : ZRN (ztb (tb_L_law E d mc ms N xs)) cut G R T Z) (f : Nat) (L : ZLV) (st : List Value) (σ : ZHp) (n k w : Nat) : Z (f + 1) 1187 L st σ n k w = s_aload 1 1188 L st σ n k w (zk1 cut G (Z f)) G R T := zrs hZ rfl f L st σ n k w
set_option maxRecDepth 20000 in
theorem f_L_law_1188 (hZ : ZRN (ztb (tb_L_law E d mc ms N xs)) cut G R T Z) (f : Nat) (L : ZLV) (st : List Value) (σ : ZHp) (n k w : Nat) : Z (f + 1) 1188 L st σ n k w = s_aload 0 1189 L st σ n k w (zk1 cut G (Z f)) G R T := zrs hZ rfl f L st σ n k w
set_option maxRecDepth 20000 in
theorem f_L_law_1189 (hZ : ZRN (ztb (tb_L_law E d mc ms N xs)) cut G R T Z) (f : Nat) (L : ZLV) (st : List Value) (σ : ZHp) (n k w : Nat) : Z (f + 1) 1189 L st σ n k w = s_iload 4 1191 L st σ n k w (zk1 cut G (Z f)) G R T := zrs hZ rfl f L st σ n k w
set_option maxRecDepth 20000 in
theorem f_L_law_1191 (hZ : ZRN (ztb (tb_L_law E d mc ms N xs)) cut G R T Z) (f : Nat) (L : ZLV) (st : List Value) (σ : ZHp) (n k w : Nat) : Z (f + 1) 1191 L st σ n k w = s_const (.int (1)) 1192 L st σ n k w (zk1 cut G (Z f)) G R T := zrs hZ rfl f L st σ n k w
set_option maxRecDepth 20000 in
theorem f_L_law_1192 (hZ : ZRN (ztb (tb_L_law E d mc ms N xs)) cut G R T Z) (f : Nat) (L : ZLV) (st : List Value) (σ : ZHp) (n k w : Nat) : Z (f + 1) 1192 L st σ n k w = s_iadd 1193 L st σ n k w (zk1 cut G (Z f)) G R T := zrs hZ rfl f L st σ n k w
set_option maxRecDepth 20000 in
theorem f_L_law_1193 (hZ : ZRN (ztb (tb_L_law E d mc ms N xs)) cut G R T Z) (f : Nat) (L : ZLV) (st : List Value) (σ : ZHp) (n k w : Nat) : Z (f + 1) 1193 L st σ n k w = s_ialdQ E 300 N xs 1194 L st σ n k w (zk1 cut G (Z f)) G R T := zrs hZ rfl f L st σ n k w
set_option maxRecDepth 20000 in
theorem f_L_law_1194 (hZ : ZRN (ztb (tb_L_law E d mc ms N xs)) cut G R T Z) (f : Nat) (L : ZLV) (st : List Value) (σ : ZHp) (n k w : Nat) : Z (f + 1) 1194 L st σ n k w = s_aload 0 1195 L st σ n k w (zk1 cut G (Z f)) G R T := zrs hZ rfl f L st σ n k w
set_option maxRecDepth 20000 in
theorem f_L_law_1195 (hZ : ZRN (ztb (tb_L_law E d mc ms N xs)) cut G R T Z) (f : Nat) (L : ZLV) (st : List Value) (σ : ZHp) (n k w : Nat) : Z (f + 1) 1195 L st σ n k w = s_iload 4 1197 L st σ n k w (zk1 cut G (Z f)) G R T := zrs hZ rfl f L st σ n k w
set_option maxRecDepth 20000 in
theorem f_L_law_1197 (hZ : ZRN (ztb (tb_L_law E d mc ms N xs)) cut G R T Z) (f : Nat) (L : ZLV) (st : List Value) (σ : ZHp) (n k w : Nat) : Z (f + 1) 1197 L st σ n k w = s_const (.int (2)) 1198 L st σ n k w (zk1 cut G (Z f)) G R T := zrs hZ rfl f L st σ n k w
set_option maxRecDepth 20000 in
theorem f_L_law_1198 (hZ : ZRN (ztb (tb_L_law E d mc ms N xs)) cut G R T Z) (f : Nat) (L : ZLV) (st : List Value) (σ : ZHp) (n k w : Nat) : Z (f + 1) 1198 L st σ n k w = s_iadd 1199 L st σ n k w (zk1 cut G (Z f)) G R T := zrs hZ rfl f L st σ n k w
set_option maxRecDepth 20000 in
theorem f_L_law_1199 (hZ : ZRN (ztb (tb_L_law E d mc ms N xs)) cut G R T Z) (f : Nat) (L : ZLV) (st : List Value) (σ : ZHp) (n k w : Nat) : Z (f + 1) 1199 L st σ n k w = s_ialdQ E 300 N xs 1200 L st σ n k w (zk1 cut G (Z f)) G R T := zrs hZ rfl f L st σ n k w
set_option maxRecDepth 20000 in
theorem f_L_law_1200 (hZ : ZRN (ztb (tb_L_law E d mc ms N xs)) cut G R T Z) (f : Nat) (L : ZLV) (st : List Value) (σ : ZHp) (n k w : Nat) : Z (f + 1) 1200 L st σ n k w = s_aload 3 1201 L st σ n k w (zk1 cut G (Z f)) G R T := zrs hZ rfl f L st σ n k w
set_option maxRecDepth 20000 in
theorem f_L_law_1201 (hZ : ZRN (ztb (tb_L_law E d mc ms N xs)) cut G R T Z) (f : Nat) (L : ZLV) (st : List Value) (σ : ZHp) (n k w : Nat) : Z (f + 1) 1201 L st σ n k w = s_callSH E d mc ms ML_advise [(0, 10, 13, 24), (0, 10, 17, 19)] 4 1204 L st σ n k w (zk1 cut G (Z f)) G R T := zrs hZ rfl f L st σ n k w
set_option maxRecDepth 20000 in
theorem f_L_law_1204 (hZ : ZRN (ztb (tb_L_law E d mc ms N xs)) cut G R T Z) (f : Nat) (L : ZLV) (st : List Value) (σ : ZHp) (n k w : Nat) : Z (f + 1) 1204 L st σ n k w = s_istore 5 1206 L st σ n k w (zk1 cut G (Z f)) G R T := zrs hZ rfl f L st σ n k w
set_option maxRecDepth 20000 in
theorem f_L_law_1206 (hZ : ZRN (ztb (tb_L_law E d mc ms N xs)) cut G R T Z) (f : Nat) (L : ZLV) (st : List Value) (σ : ZHp) (n k w : Nat) : Z (f + 1) 1206 L st σ n k w = s_aload 2 1207 L st σ n k w (zk1 cut G (Z f)) G R T := zrs hZ rfl f L st σ n k w
set_option maxRecDepth 20000 in
theorem f_L_law_1207 (hZ : ZRN (ztb (tb_L_law E d mc ms N xs)) cut G R T Z) (f : Nat) (L : ZLV) (st : List Value) (σ : ZHp) (n k w : Nat) : Z (f + 1) 1207 L st σ n k w = s_aload 0 1208 L st σ n k w (zk1 cut G (Z f)) G R T := zrs hZ rfl f L st σ n k w
set_option maxRecDepth 20000 in
theorem f_L_law_1208 (hZ : ZRN (ztb (tb_L_law E d mc ms N xs)) cut G R T Z) (f : Nat) (L : ZLV) (st : List Value) (σ : ZHp) (n k w : Nat) : Z (f + 1) 1208 L st σ n k w = s_iload 4 1210 L st σ n k w (zk1 cut G (Z f)) G R T := zrs hZ rfl f L st σ n k w
set_option maxRecDepth 20000 in
theorem f_L_law_1210 (hZ : ZRN (ztb (tb_L_law E d mc ms N xs)) cut G R T Z) (f : Nat) (L : ZLV) (st : List Value) (σ : ZHp) (n k w : Nat) : Z (f + 1) 1210 L st σ n k w = s_const (.int (1)) 1211 L st σ n k w (zk1 cut G (Z f)) G R T := zrs hZ rfl f L st σ n k w
set_option maxRecDepth 20000 in
theorem f_L_law_1211 (hZ : ZRN (ztb (tb_L_law E d mc ms N xs)) cut G R T Z) (f : Nat) (L : ZLV) (st : List Value) (σ : ZHp) (n k w : Nat) : Z (f + 1) 1211 L st σ n k w = s_iadd 1212 L st σ n k w (zk1 cut G (Z f)) G R T := zrs hZ rfl f L st σ n k w
set_option maxRecDepth 20000 in
theorem f_L_law_1212 (hZ : ZRN (ztb (tb_L_law E d mc ms N xs)) cut G R T Z) (f : Nat) (L : ZLV) (st : List Value) (σ : ZHp) (n k w : Nat) : Z (f + 1) 1212 L st σ n k w = s_ialdQ E 300 N xs 1213 L st σ n k w (zk1 cut G (Z f)) G R T := zrs hZ rfl f L st σ n k w
set_option maxRecDepth 20000 in
theorem f_L_law_1213 (hZ : ZRN (ztb (tb_L_law E d mc ms N xs)) cut G R T Z) (f : Nat) (L : ZLV) (st : List Value) (σ : ZHp) (n k w : Nat) : Z (f + 1) 1213 L st σ n k w = s_aload 0 1214 L st σ n k w (zk1 cut G (Z f)) G R T := zrs hZ rfl f L st σ n k w
set_option maxRecDepth 20000 in
theorem f_L_law_1214 (hZ : ZRN (ztb (tb_L_law E d mc ms N xs)) cut G R T Z) (f : Nat) (L : ZLV) (st : List Value) (σ : ZHp) (n k w : Nat) : Z (f + 1) 1214 L st σ n k w = s_iload 4 1216 L st σ n k w (zk1 cut G (Z f)) G R T := zrs hZ rfl f L st σ n k w
set_option maxRecDepth 20000 in
theorem f_L_law_1216 (hZ : ZRN (ztb (tb_L_law E d mc ms N xs)) cut G R T Z) (f : Nat) (L : ZLV) (st : List Value) (σ : ZHp) (n k w : Nat) : Z (f + 1) 1216 L st σ n k w = s_const (.int (2)) 1217 L st σ n k w (zk1 cut G (Z f)) G R T := zrs hZ rfl f L st σ n k w
set_option maxRecDepth 20000 in
theorem f_L_law_1217 (hZ : ZRN (ztb (tb_L_law E d mc ms N xs)) cut G R T Z) (f : Nat) (L : ZLV) (st : List Value) (σ : ZHp) (n k w : Nat) : Z (f + 1) 1217 L st σ n k w = s_iadd 1218 L st σ n k w (zk1 cut G (Z f)) G R T := zrs hZ rfl f L st σ n k w
set_option maxRecDepth 20000 in
theorem f_L_law_1218 (hZ : ZRN (ztb (tb_L_law E d mc ms N xs)) cut G R T Z) (f : Nat) (L : ZLV) (st : List Value) (σ : ZHp) (n k w : Nat) : Z (f + 1) 1218 L st σ n k w = s_ialdQ E 300 N xs 1219 L st σ n k w (zk1 cut G (Z f)) G R T := zrs hZ rfl f L st σ n k w
set_option maxRecDepth 20000 in
theorem f_L_law_1219 (hZ : ZRN (ztb (tb_L_law E d mc ms N xs)) cut G R T Z) (f : Nat) (L : ZLV) (st : List Value) (σ : ZHp) (n k w : Nat) : Z (f + 1) 1219 L st σ n k w = s_callV E d mc ms 14 MX15_advise 2 1222 L st σ n k w (zk1 cut G (Z f)) G R T := zrs hZ rfl f L st σ n k w
set_option maxRecDepth 20000 in
theorem f_L_law_1222 (hZ : ZRN (ztb (tb_L_law E d mc ms N xs)) cut G R T Z) (f : Nat) (L : ZLV) (st : List Value) (σ : ZHp) (n k w : Nat) : Z (f + 1) 1222 L st σ n k w = s_istore 6 1224 L st σ n k w (zk1 cut G (Z f)) G R T := zrs hZ rfl f L st σ n k w
set_option maxRecDepth 20000 in
theorem f_L_law_1224 (hZ : ZRN (ztb (tb_L_law E d mc ms N xs)) cut G R T Z) (f : Nat) (L : ZLV) (st : List Value) (σ : ZHp) (n k w : Nat) : Z (f + 1) 1224 L st σ n k w = s_aload 2 1225 L st σ n k w (zk1 cut G (Z f)) G R T := zrs hZ rfl f L st σ n k w
set_option maxRecDepth 20000 in
theorem f_L_law_1225 (hZ : ZRN (ztb (tb_L_law E d mc ms N xs)) cut G R T Z) (f : Nat) (L : ZLV) (st : List Value) (σ : ZHp) (n k w : Nat) : Z (f + 1) 1225 L st σ n k w = s_callV E d mc ms 14 MX15_thrown 0 1228 L st σ n k w (zk1 cut G (Z f)) G R T := zrs hZ rfl f L st σ n k w
set_option maxRecDepth 20000 in
theorem f_L_law_1228 (hZ : ZRN (ztb (tb_L_law E d mc ms N xs)) cut G R T Z) (f : Nat) (L : ZLV) (st : List Value) (σ : ZHp) (n k w : Nat) : Z (f + 1) 1228 L st σ n k w = s_iload 5 1230 L st σ n k w (zk1 cut G (Z f)) G R T := zrs hZ rfl f L st σ n k w
set_option maxRecDepth 20000 in
theorem f_L_law_1230 (hZ : ZRN (ztb (tb_L_law E d mc ms N xs)) cut G R T Z) (f : Nat) (L : ZLV) (st : List Value) (σ : ZHp) (n k w : Nat) : Z (f + 1) 1230 L st σ n k w = s_icmp_eq 1235 1233 L st σ n k w (zk1 cut G (Z f)) G R T := zrs hZ rfl f L st σ n k w
set_option maxRecDepth 20000 in
theorem f_L_law_1233 (hZ : ZRN (ztb (tb_L_law E d mc ms N xs)) cut G R T Z) (f : Nat) (L : ZLV) (st : List Value) (σ : ZHp) (n k w : Nat) : Z (f + 1) 1233 L st σ n k w = s_const (.int (0)) 1234 L st σ n k w (zk1 cut G (Z f)) G R T := zrs hZ rfl f L st σ n k w
set_option maxRecDepth 20000 in
theorem f_L_law_1234 (hZ : ZRN (ztb (tb_L_law E d mc ms N xs)) cut G R T Z) (f : Nat) (L : ZLV) (st : List Value) (σ : ZHp) (n k w : Nat) : Z (f + 1) 1234 L st σ n k w = s_zreturn L st σ n k w (zk1 cut G (Z f)) G R T := zrs hZ rfl f L st σ n k w
set_option maxRecDepth 20000 in
theorem f_L_law_1235 (hZ : ZRN (ztb (tb_L_law E d mc ms N xs)) cut G R T Z) (f : Nat) (L : ZLV) (st : List Value) (σ : ZHp) (n k w : Nat) : Z (f + 1) 1235 L st σ n k w = s_iload 5 1237 L st σ n k w (zk1 cut G (Z f)) G R T := zrs hZ rfl f L st σ n k w
set_option maxRecDepth 20000 in
theorem f_L_law_1237 (hZ : ZRN (ztb (tb_L_law E d mc ms N xs)) cut G R T Z) (f : Nat) (L : ZLV) (st : List Value) (σ : ZHp) (n k w : Nat) : Z (f + 1) 1237 L st σ n k w = s_if_ne 1252 1240 L st σ n k w (zk1 cut G (Z f)) G R T := zrs hZ rfl f L st σ n k w
set_option maxRecDepth 20000 in
theorem f_L_law_1240 (hZ : ZRN (ztb (tb_L_law E d mc ms N xs)) cut G R T Z) (f : Nat) (L : ZLV) (st : List Value) (σ : ZHp) (n k w : Nat) : Z (f + 1) 1240 L st σ n k w = s_aload 3 1241 L st σ n k w (zk1 cut G (Z f)) G R T := zrs hZ rfl f L st σ n k w
set_option maxRecDepth 20000 in
theorem f_L_law_1241 (hZ : ZRN (ztb (tb_L_law E d mc ms N xs)) cut G R T Z) (f : Nat) (L : ZLV) (st : List Value) (σ : ZHp) (n k w : Nat) : Z (f + 1) 1241 L st σ n k w = s_const (.int (0)) 1242 L st σ n k w (zk1 cut G (Z f)) G R T := zrs hZ rfl f L st σ n k w
set_option maxRecDepth 20000 in
theorem f_L_law_1242 (hZ : ZRN (ztb (tb_L_law E d mc ms N xs)) cut G R T Z) (f : Nat) (L : ZLV) (st : List Value) (σ : ZHp) (n k w : Nat) : Z (f + 1) 1242 L st σ n k w = s_laload E 1243 L st σ n k w (zk1 cut G (Z f)) G R T := zrs hZ rfl f L st σ n k w
set_option maxRecDepth 20000 in
theorem f_L_law_1243 (hZ : ZRN (ztb (tb_L_law E d mc ms N xs)) cut G R T Z) (f : Nat) (L : ZLV) (st : List Value) (σ : ZHp) (n k w : Nat) : Z (f + 1) 1243 L st σ n k w = s_iload 6 1245 L st σ n k w (zk1 cut G (Z f)) G R T := zrs hZ rfl f L st σ n k w
set_option maxRecDepth 20000 in
theorem f_L_law_1245 (hZ : ZRN (ztb (tb_L_law E d mc ms N xs)) cut G R T Z) (f : Nat) (L : ZLV) (st : List Value) (σ : ZHp) (n k w : Nat) : Z (f + 1) 1245 L st σ n k w = s_i2l 1246 L st σ n k w (zk1 cut G (Z f)) G R T := zrs hZ rfl f L st σ n k w
set_option maxRecDepth 20000 in
theorem f_L_law_1246 (hZ : ZRN (ztb (tb_L_law E d mc ms N xs)) cut G R T Z) (f : Nat) (L : ZLV) (st : List Value) (σ : ZHp) (n k w : Nat) : Z (f + 1) 1246 L st σ n k w = s_lcmp 1247 L st σ n k w (zk1 cut G (Z f)) G R T := zrs hZ rfl f L st σ n k w
set_option maxRecDepth 20000 in
theorem f_L_law_1247 (hZ : ZRN (ztb (tb_L_law E d mc ms N xs)) cut G R T Z) (f : Nat) (L : ZLV) (st : List Value) (σ : ZHp) (n k w : Nat) : Z (f + 1) 1247 L st σ n k w = s_if_eq 1252 1250 L st σ n k w (zk1 cut G (Z f)) G R T := zrs hZ rfl f L st σ n k w
set_option maxRecDepth 20000 in
theorem f_L_law_1250 (hZ : ZRN (ztb (tb_L_law E d mc ms N xs)) cut G R T Z) (f : Nat) (L : ZLV) (st : List Value) (σ : ZHp) (n k w : Nat) : Z (f + 1) 1250 L st σ n k w = s_const (.int (0)) 1251 L st σ n k w (zk1 cut G (Z f)) G R T := zrs hZ rfl f L st σ n k w
set_option maxRecDepth 20000 in
theorem f_L_law_1251 (hZ : ZRN (ztb (tb_L_law E d mc ms N xs)) cut G R T Z) (f : Nat) (L : ZLV) (st : List Value) (σ : ZHp) (n k w : Nat) : Z (f + 1) 1251 L st σ n k w = s_zreturn L st σ n k w (zk1 cut G (Z f)) G R T := zrs hZ rfl f L st σ n k w
set_option maxRecDepth 20000 in
theorem f_L_law_1252 (hZ : ZRN (ztb (tb_L_law E d mc ms N xs)) cut G R T Z) (f : Nat) (L : ZLV) (st : List Value) (σ : ZHp) (n k w : Nat) : Z (f + 1) 1252 L st σ n k w = s_goto 1310 L st σ n k w (zk1 cut G (Z f)) G R T := zrs hZ rfl f L st σ n k w
set_option maxRecDepth 20000 in
theorem f_L_law_1255 (hZ : ZRN (ztb (tb_L_law E d mc ms N xs)) cut G R T Z) (f : Nat) (L : ZLV) (st : List Value) (σ : ZHp) (n k w : Nat) : Z (f + 1) 1255 L st σ n k w = s_aload 1 1256 L st σ n k w (zk1 cut G (Z f)) G R T := zrs hZ rfl f L st σ n k w
set_option maxRecDepth 20000 in
theorem f_L_law_1256 (hZ : ZRN (ztb (tb_L_law E d mc ms N xs)) cut G R T Z) (f : Nat) (L : ZLV) (st : List Value) (σ : ZHp) (n k w : Nat) : Z (f + 1) 1256 L st σ n k w = s_callV E d mc ms 11 MX12_mean 0 1259 L st σ n k w (zk1 cut G (Z f)) G R T := zrs hZ rfl f L st σ n k w
set_option maxRecDepth 20000 in
theorem f_L_law_1259 (hZ : ZRN (ztb (tb_L_law E d mc ms N xs)) cut G R T Z) (f : Nat) (L : ZLV) (st : List Value) (σ : ZHp) (n k w : Nat) : Z (f + 1) 1259 L st σ n k w = s_dstore 5 1261 L st σ n k w (zk1 cut G (Z f)) G R T := zrs hZ rfl f L st σ n k w
set_option maxRecDepth 20000 in
theorem f_L_law_1261 (hZ : ZRN (ztb (tb_L_law E d mc ms N xs)) cut G R T Z) (f : Nat) (L : ZLV) (st : List Value) (σ : ZHp) (n k w : Nat) : Z (f + 1) 1261 L st σ n k w = s_aload 2 1262 L st σ n k w (zk1 cut G (Z f)) G R T := zrs hZ rfl f L st σ n k w
set_option maxRecDepth 20000 in
theorem f_L_law_1262 (hZ : ZRN (ztb (tb_L_law E d mc ms N xs)) cut G R T Z) (f : Nat) (L : ZLV) (st : List Value) (σ : ZHp) (n k w : Nat) : Z (f + 1) 1262 L st σ n k w = s_callV E d mc ms 14 MX15_mean 0 1265 L st σ n k w (zk1 cut G (Z f)) G R T := zrs hZ rfl f L st σ n k w
set_option maxRecDepth 20000 in
theorem f_L_law_1265 (hZ : ZRN (ztb (tb_L_law E d mc ms N xs)) cut G R T Z) (f : Nat) (L : ZLV) (st : List Value) (σ : ZHp) (n k w : Nat) : Z (f + 1) 1265 L st σ n k w = s_dstore 7 1267 L st σ n k w (zk1 cut G (Z f)) G R T := zrs hZ rfl f L st σ n k w
set_option maxRecDepth 20000 in
theorem f_L_law_1267 (hZ : ZRN (ztb (tb_L_law E d mc ms N xs)) cut G R T Z) (f : Nat) (L : ZLV) (st : List Value) (σ : ZHp) (n k w : Nat) : Z (f + 1) 1267 L st σ n k w = s_dload 5 1269 L st σ n k w (zk1 cut G (Z f)) G R T := zrs hZ rfl f L st σ n k w
set_option maxRecDepth 20000 in
theorem f_L_law_1269 (hZ : ZRN (ztb (tb_L_law E d mc ms N xs)) cut G R T Z) (f : Nat) (L : ZLV) (st : List Value) (σ : ZHp) (n k w : Nat) : Z (f + 1) 1269 L st σ n k w = s_dload 7 1271 L st σ n k w (zk1 cut G (Z f)) G R T := zrs hZ rfl f L st σ n k w
set_option maxRecDepth 20000 in
theorem f_L_law_1271 (hZ : ZRN (ztb (tb_L_law E d mc ms N xs)) cut G R T Z) (f : Nat) (L : ZLV) (st : List Value) (σ : ZHp) (n k w : Nat) : Z (f + 1) 1271 L st σ n k w = s_dcmp .l 1272 L st σ n k w (zk1 cut G (Z f)) G R T := zrs hZ rfl f L st σ n k w
set_option maxRecDepth 20000 in
theorem f_L_law_1272 (hZ : ZRN (ztb (tb_L_law E d mc ms N xs)) cut G R T Z) (f : Nat) (L : ZLV) (st : List Value) (σ : ZHp) (n k w : Nat) : Z (f + 1) 1272 L st σ n k w = s_if_eq 1293 1275 L st σ n k w (zk1 cut G (Z f)) G R T := zrs hZ rfl f L st σ n k w
set_option maxRecDepth 20000 in
theorem f_L_law_1275 (hZ : ZRN (ztb (tb_L_law E d mc ms N xs)) cut G R T Z) (f : Nat) (L : ZLV) (st : List Value) (σ : ZHp) (n k w : Nat) : Z (f + 1) 1275 L st σ n k w = s_dload 5 1277 L st σ n k w (zk1 cut G (Z f)) G R T := zrs hZ rfl f L st σ n k w
set_option maxRecDepth 20000 in
theorem f_L_law_1277 (hZ : ZRN (ztb (tb_L_law E d mc ms N xs)) cut G R T Z) (f : Nat) (L : ZLV) (st : List Value) (σ : ZHp) (n k w : Nat) : Z (f + 1) 1277 L st σ n k w = s_dload 5 1279 L st σ n k w (zk1 cut G (Z f)) G R T := zrs hZ rfl f L st σ n k w
set_option maxRecDepth 20000 in
theorem f_L_law_1279 (hZ : ZRN (ztb (tb_L_law E d mc ms N xs)) cut G R T Z) (f : Nat) (L : ZLV) (st : List Value) (σ : ZHp) (n k w : Nat) : Z (f + 1) 1279 L st σ n k w = s_dcmp .l 1280 L st σ n k w (zk1 cut G (Z f)) G R T := zrs hZ rfl f L st σ n k w
set_option maxRecDepth 20000 in
theorem f_L_law_1280 (hZ : ZRN (ztb (tb_L_law E d mc ms N xs)) cut G R T Z) (f : Nat) (L : ZLV) (st : List Value) (σ : ZHp) (n k w : Nat) : Z (f + 1) 1280 L st σ n k w = s_if_eq 1291 1283 L st σ n k w (zk1 cut G (Z f)) G R T := zrs hZ rfl f L st σ n k w
set_option maxRecDepth 20000 in
theorem f_L_law_1283 (hZ : ZRN (ztb (tb_L_law E d mc ms N xs)) cut G R T Z) (f : Nat) (L : ZLV) (st : List Value) (σ : ZHp) (n k w : Nat) : Z (f + 1) 1283 L st σ n k w = s_dload 7 1285 L st σ n k w (zk1 cut G (Z f)) G R T := zrs hZ rfl f L st σ n k w
set_option maxRecDepth 20000 in
theorem f_L_law_1285 (hZ : ZRN (ztb (tb_L_law E d mc ms N xs)) cut G R T Z) (f : Nat) (L : ZLV) (st : List Value) (σ : ZHp) (n k w : Nat) : Z (f + 1) 1285 L st σ n k w = s_dload 7 1287 L st σ n k w (zk1 cut G (Z f)) G R T := zrs hZ rfl f L st σ n k w
set_option maxRecDepth 20000 in
theorem f_L_law_1287 (hZ : ZRN (ztb (tb_L_law E d mc ms N xs)) cut G R T Z) (f : Nat) (L : ZLV) (st : List Value) (σ : ZHp) (n k w : Nat) : Z (f + 1) 1287 L st σ n k w = s_dcmp .l 1288 L st σ n k w (zk1 cut G (Z f)) G R T := zrs hZ rfl f L st σ n k w
set_option maxRecDepth 20000 in
theorem f_L_law_1288 (hZ : ZRN (ztb (tb_L_law E d mc ms N xs)) cut G R T Z) (f : Nat) (L : ZLV) (st : List Value) (σ : ZHp) (n k w : Nat) : Z (f + 1) 1288 L st σ n k w = s_if_ne 1293 1291 L st σ n k w (zk1 cut G (Z f)) G R T := zrs hZ rfl f L st σ n k w
set_option maxRecDepth 20000 in
theorem f_L_law_1291 (hZ : ZRN (ztb (tb_L_law E d mc ms N xs)) cut G R T Z) (f : Nat) (L : ZLV) (st : List Value) (σ : ZHp) (n k w : Nat) : Z (f + 1) 1291 L st σ n k w = s_const (.int (0)) 1292 L st σ n k w (zk1 cut G (Z f)) G R T := zrs hZ rfl f L st σ n k w
set_option maxRecDepth 20000 in
theorem f_L_law_1292 (hZ : ZRN (ztb (tb_L_law E d mc ms N xs)) cut G R T Z) (f : Nat) (L : ZLV) (st : List Value) (σ : ZHp) (n k w : Nat) : Z (f + 1) 1292 L st σ n k w = s_zreturn L st σ n k w (zk1 cut G (Z f)) G R T := zrs hZ rfl f L st σ n k w
set_option maxRecDepth 20000 in
theorem f_L_law_1293 (hZ : ZRN (ztb (tb_L_law E d mc ms N xs)) cut G R T Z) (f : Nat) (L : ZLV) (st : List Value) (σ : ZHp) (n k w : Nat) : Z (f + 1) 1293 L st σ n k w = s_goto 1310 L st σ n k w (zk1 cut G (Z f)) G R T := zrs hZ rfl f L st σ n k w
set_option maxRecDepth 20000 in
theorem f_L_law_1296 (hZ : ZRN (ztb (tb_L_law E d mc ms N xs)) cut G R T Z) (f : Nat) (L : ZLV) (st : List Value) (σ : ZHp) (n k w : Nat) : Z (f + 1) 1296 L st σ n k w = s_aload 1 1297 L st σ n k w (zk1 cut G (Z f)) G R T := zrs hZ rfl f L st σ n k w
set_option maxRecDepth 20000 in
theorem f_L_law_1297 (hZ : ZRN (ztb (tb_L_law E d mc ms N xs)) cut G R T Z) (f : Nat) (L : ZLV) (st : List Value) (σ : ZHp) (n k w : Nat) : Z (f + 1) 1297 L st σ n k w = s_callVC E d mc ms 11 MX12_digest 0 1300 [] L st σ n k w (zk1 cut G (Z f)) G R T := zrs hZ rfl f L st σ n k w
set_option maxRecDepth 20000 in
theorem f_L_law_1300 (hZ : ZRN (ztb (tb_L_law E d mc ms N xs)) cut G R T Z) (f : Nat) (L : ZLV) (st : List Value) (σ : ZHp) (n k w : Nat) : Z (f + 1) 1300 L st σ n k w = s_aload 2 1301 L st σ n k w (zk1 cut G (Z f)) G R T := zrs hZ rfl f L st σ n k w
set_option maxRecDepth 20000 in
theorem f_L_law_1301 (hZ : ZRN (ztb (tb_L_law E d mc ms N xs)) cut G R T Z) (f : Nat) (L : ZLV) (st : List Value) (σ : ZHp) (n k w : Nat) : Z (f + 1) 1301 L st σ n k w = s_callV E d mc ms 14 MX15_digest 0 1304 L st σ n k w (zk1 cut G (Z f)) G R T := zrs hZ rfl f L st σ n k w
set_option maxRecDepth 20000 in
theorem f_L_law_1304 (hZ : ZRN (ztb (tb_L_law E d mc ms N xs)) cut G R T Z) (f : Nat) (L : ZLV) (st : List Value) (σ : ZHp) (n k w : Nat) : Z (f + 1) 1304 L st σ n k w = s_lcmp 1305 L st σ n k w (zk1 cut G (Z f)) G R T := zrs hZ rfl f L st σ n k w
set_option maxRecDepth 20000 in
theorem f_L_law_1305 (hZ : ZRN (ztb (tb_L_law E d mc ms N xs)) cut G R T Z) (f : Nat) (L : ZLV) (st : List Value) (σ : ZHp) (n k w : Nat) : Z (f + 1) 1305 L st σ n k w = s_if_eq 1310 1308 L st σ n k w (zk1 cut G (Z f)) G R T := zrs hZ rfl f L st σ n k w
set_option maxRecDepth 20000 in
theorem f_L_law_1308 (hZ : ZRN (ztb (tb_L_law E d mc ms N xs)) cut G R T Z) (f : Nat) (L : ZLV) (st : List Value) (σ : ZHp) (n k w : Nat) : Z (f + 1) 1308 L st σ n k w = s_const (.int (0)) 1309 L st σ n k w (zk1 cut G (Z f)) G R T := zrs hZ rfl f L st σ n k w
set_option maxRecDepth 20000 in
theorem f_L_law_1309 (hZ : ZRN (ztb (tb_L_law E d mc ms N xs)) cut G R T Z) (f : Nat) (L : ZLV) (st : List Value) (σ : ZHp) (n k w : Nat) : Z (f + 1) 1309 L st σ n k w = s_zreturn L st σ n k w (zk1 cut G (Z f)) G R T := zrs hZ rfl f L st σ n k w
set_option maxRecDepth 20000 in
theorem f_L_law_1310 (hZ : ZRN (ztb (tb_L_law E d mc ms N xs)) cut G R T Z) (f : Nat) (L : ZLV) (st : List Value) (σ : ZHp) (n k w : Nat) : Z (f + 1) 1310 L st σ n k w = s_iinc 4 (6) 1313 L st σ n k w (zk1 cut G (Z f)) G R T := zrs hZ rfl f L st σ n k w
set_option maxRecDepth 20000 in
theorem f_L_law_1313 (hZ : ZRN (ztb (tb_L_law E d mc ms N xs)) cut G R T Z) (f : Nat) (L : ZLV) (st : List Value) (σ : ZHp) (n k w : Nat) : Z (f + 1) 1313 L st σ n k w = s_goto 23 L st σ n k w (zk1 cut G (Z f)) G R T := zrs hZ rfl f L st σ n k w
set_option maxRecDepth 20000 in
theorem f_L_law_1316 (hZ : ZRN (ztb (tb_L_law E d mc ms N xs)) cut G R T Z) (f : Nat) (L : ZLV) (st : List Value) (σ : ZHp) (n k w : Nat) : Z (f + 1) 1316 L st σ n k w = s_const (.int (1)) 1317 L st σ n k w (zk1 cut G (Z f)) G R T := zrs hZ rfl f L st σ n k w
set_option maxRecDepth 20000 in
theorem f_L_law_1317 (hZ : ZRN (ztb (tb_L_law E d mc ms N xs)) cut G R T Z) (f : Nat) (L : ZLV) (st : List Value) (σ : ZHp) (n k w : Nat) : Z (f + 1) 1317 L st σ n k w = s_zreturn L st σ n k w (zk1 cut G (Z f)) G R T := zrs hZ rfl f L st σ n k w
end
