/-! every row of every method: decoded, and linked as its numbers say. Printed by program. -/
set_option maxRecDepth 100000 in
theorem rb_0 : mrowB 0 = true := by decide +kernel
theorem mw_0 : mwB 0 = true := by decide +kernel
set_option maxRecDepth 100000 in
theorem rb_1 : mrowB 1 = true := by decide +kernel
theorem mw_1 : mwB 1 = true := by decide +kernel
set_option maxRecDepth 100000 in
theorem rb_2 : mrowB 2 = true := by decide +kernel
theorem mw_2 : mwB 2 = true := by decide +kernel
set_option maxRecDepth 100000 in
theorem rb_3 : mrowB 3 = true := by decide +kernel
theorem mw_3 : mwB 3 = true := by decide +kernel
set_option maxRecDepth 100000 in
theorem rb_4 : mrowB 4 = true := by decide +kernel
theorem mw_4 : mwB 4 = true := by decide +kernel
set_option maxRecDepth 100000 in
theorem rb_5 : mrowB 5 = true := by decide +kernel
theorem mw_5 : mwB 5 = true := by decide +kernel
set_option maxRecDepth 100000 in
theorem rb_6 : mrowB 6 = true := by decide +kernel
theorem mw_6 : mwB 6 = true := by decide +kernel
set_option maxRecDepth 100000 in
theorem rb_7 : mrowB 7 = true := by decide +kernel
theorem mw_7 : mwB 7 = true := by decide +kernel
set_option maxRecDepth 100000 in
theorem rb_8 : mrowB 8 = true := by decide +kernel
theorem mw_8 : mwB 8 = true := by decide +kernel
set_option maxRecDepth 100000 in
theorem rb_9 : mrowB 9 = true := by decide +kernel
theorem mw_9 : mwB 9 = true := by decide +kernel
set_option maxRecDepth 100000 in
theorem rb_10 : mrowB 10 = true := by decide +kernel
theorem mw_10 : mwB 10 = true := by decide +kernel
set_option maxRecDepth 100000 in
theorem rb_11 : mrowB 11 = true := by decide +kernel
theorem mw_11 : mwB 11 = true := by decide +kernel
set_option maxRecDepth 100000 in
theorem rb_12 : mrowB 12 = true := by decide +kernel
theorem mw_12 : mwB 12 = true := by decide +kernel
set_option maxRecDepth 100000 in
theorem rb_13 : mrowB 13 = true := by decide +kernel
theorem mw_13 : mwB 13 = true := by decide +kernel
set_option maxRecDepth 100000 in
theorem rb_14 : mrowB 14 = true := by decide +kernel
theorem mw_14 : mwB 14 = true := by decide +kernel
set_option maxRecDepth 100000 in
theorem rb_15 : mrowB 15 = true := by decide +kernel
theorem mw_15 : mwB 15 = true := by decide +kernel
set_option maxRecDepth 100000 in
theorem rb_16 : mrowB 16 = true := by decide +kernel
theorem mw_16 : mwB 16 = true := by decide +kernel
set_option maxRecDepth 100000 in
theorem rb_17 : mrowB 17 = true := by decide +kernel
theorem mw_17 : mwB 17 = true := by decide +kernel
set_option maxRecDepth 100000 in
theorem rb_18 : mrowB 18 = true := by decide +kernel
theorem mw_18 : mwB 18 = true := by decide +kernel
set_option maxRecDepth 100000 in
theorem rb_19 : mrowB 19 = true := by decide +kernel
theorem mw_19 : mwB 19 = true := by decide +kernel
set_option maxRecDepth 100000 in
theorem rb_20 : mrowB 20 = true := by decide +kernel
theorem mw_20 : mwB 20 = true := by decide +kernel
set_option maxRecDepth 100000 in
theorem rb_21 : mrowB 21 = true := by decide +kernel
theorem mw_21 : mwB 21 = true := by decide +kernel
set_option maxRecDepth 100000 in
theorem rb_22 : mrowB 22 = true := by decide +kernel
theorem mw_22 : mwB 22 = true := by decide +kernel
set_option maxRecDepth 100000 in
theorem rb_23 : mrowB 23 = true := by decide +kernel
theorem mw_23 : mwB 23 = true := by decide +kernel
set_option maxRecDepth 100000 in
theorem rb_24 : mrowB 24 = true := by decide +kernel
theorem mw_24 : mwB 24 = true := by decide +kernel
set_option maxRecDepth 100000 in
theorem rb_25 : mrowB 25 = true := by decide +kernel
theorem mw_25 : mwB 25 = true := by decide +kernel
set_option maxRecDepth 100000 in
theorem rb_26 : mrowB 26 = true := by decide +kernel
theorem mw_26 : mwB 26 = true := by decide +kernel
set_option maxRecDepth 100000 in
theorem rb_27 : mrowB 27 = true := by decide +kernel
theorem mw_27 : mwB 27 = true := by decide +kernel
set_option maxRecDepth 100000 in
theorem rb_28 : mrowB 28 = true := by decide +kernel
theorem mw_28 : mwB 28 = true := by decide +kernel
set_option maxRecDepth 100000 in
theorem rb_29 : mrowB 29 = true := by decide +kernel
theorem mw_29 : mwB 29 = true := by decide +kernel
set_option maxRecDepth 100000 in
theorem rb_30 : mrowB 30 = true := by decide +kernel
theorem mw_30 : mwB 30 = true := by decide +kernel
set_option maxRecDepth 100000 in
theorem rb_31 : mrowB 31 = true := by decide +kernel
theorem mw_31 : mwB 31 = true := by decide +kernel
set_option maxRecDepth 100000 in
theorem rb_32 : mrowB 32 = true := by decide +kernel
theorem mw_32 : mwB 32 = true := by decide +kernel
set_option maxRecDepth 100000 in
theorem rb_33 : mrowB 33 = true := by decide +kernel
theorem mw_33 : mwB 33 = true := by decide +kernel
set_option maxRecDepth 100000 in
theorem rb_34 : mrowB 34 = true := by decide +kernel
theorem mw_34 : mwB 34 = true := by decide +kernel
set_option maxRecDepth 100000 in
theorem rb_35 : mrowB 35 = true := by decide +kernel
theorem mw_35 : mwB 35 = true := by decide +kernel
set_option maxRecDepth 100000 in
theorem rb_36 : mrowB 36 = true := by decide +kernel
theorem mw_36 : mwB 36 = true := by decide +kernel
set_option maxRecDepth 100000 in
theorem rb_37 : mrowB 37 = true := by decide +kernel
theorem mw_37 : mwB 37 = true := by decide +kernel
set_option maxRecDepth 100000 in
theorem rb_38 : mrowB 38 = true := by decide +kernel
theorem mw_38 : mwB 38 = true := by decide +kernel
set_option maxRecDepth 100000 in
theorem rb_39 : mrowB 39 = true := by decide +kernel
theorem mw_39 : mwB 39 = true := by decide +kernel
set_option maxRecDepth 100000 in
theorem rb_40 : mrowB 40 = true := by decide +kernel
theorem mw_40 : mwB 40 = true := by decide +kernel
set_option maxRecDepth 100000 in
theorem rb_41 : mrowB 41 = true := by decide +kernel
theorem mw_41 : mwB 41 = true := by decide +kernel
set_option maxRecDepth 100000 in
theorem rb_42 : mrowB 42 = true := by decide +kernel
theorem mw_42 : mwB 42 = true := by decide +kernel
set_option maxRecDepth 100000 in
theorem rb_43 : mrowB 43 = true := by decide +kernel
theorem mw_43 : mwB 43 = true := by decide +kernel
set_option maxRecDepth 100000 in
theorem rb_44 : mrowB 44 = true := by decide +kernel
theorem mw_44 : mwB 44 = true := by decide +kernel
set_option maxRecDepth 100000 in
theorem rb_45 : mrowB 45 = true := by decide +kernel
theorem mw_45 : mwB 45 = true := by decide +kernel
set_option maxRecDepth 100000 in
theorem rb_46 : mrowB 46 = true := by decide +kernel
theorem mw_46 : mwB 46 = true := by decide +kernel
set_option maxRecDepth 100000 in
theorem rb_47 : mrowB 47 = true := by decide +kernel
theorem mw_47 : mwB 47 = true := by decide +kernel
set_option maxRecDepth 100000 in
theorem rb_48 : mrowB 48 = true := by decide +kernel
theorem mw_48 : mwB 48 = true := by decide +kernel
set_option maxRecDepth 100000 in
theorem rb_49 : mrowB 49 = true := by decide +kernel
theorem mw_49 : mwB 49 = true := by decide +kernel
set_option maxRecDepth 100000 in
theorem rb_50 : mrowB 50 = true := by decide +kernel
theorem mw_50 : mwB 50 = true := by decide +kernel
set_option maxRecDepth 100000 in
theorem rb_51 : mrowB 51 = true := by decide +kernel
theorem mw_51 : mwB 51 = true := by decide +kernel
set_option maxRecDepth 100000 in
theorem rb_52 : mrowB 52 = true := by decide +kernel
theorem mw_52 : mwB 52 = true := by decide +kernel
set_option maxRecDepth 100000 in
theorem rb_53 : mrowB 53 = true := by decide +kernel
theorem mw_53 : mwB 53 = true := by decide +kernel
set_option maxRecDepth 100000 in
theorem rb_54 : mrowB 54 = true := by decide +kernel
theorem mw_54 : mwB 54 = true := by decide +kernel
set_option maxRecDepth 100000 in
theorem rb_55 : mrowB 55 = true := by decide +kernel
theorem mw_55 : mwB 55 = true := by decide +kernel
set_option maxRecDepth 100000 in
theorem rb_56 : mrowB 56 = true := by decide +kernel
theorem mw_56 : mwB 56 = true := by decide +kernel
set_option maxRecDepth 100000 in
theorem rb_57 : mrowB 57 = true := by decide +kernel
theorem mw_57 : mwB 57 = true := by decide +kernel
set_option maxRecDepth 100000 in
theorem rb_58 : mrowB 58 = true := by decide +kernel
theorem mw_58 : mwB 58 = true := by decide +kernel
set_option maxRecDepth 100000 in
theorem rb_59 : mrowB 59 = true := by decide +kernel
theorem mw_59 : mwB 59 = true := by decide +kernel
set_option maxRecDepth 100000 in
theorem rb_60 : mrowB 60 = true := by decide +kernel
theorem mw_60 : mwB 60 = true := by decide +kernel
set_option maxRecDepth 100000 in
theorem rb_61 : mrowB 61 = true := by decide +kernel
theorem mw_61 : mwB 61 = true := by decide +kernel
set_option maxRecDepth 100000 in
theorem rb_62 : mrowB 62 = true := by decide +kernel
theorem mw_62 : mwB 62 = true := by decide +kernel
set_option maxRecDepth 100000 in
theorem rb_63 : mrowB 63 = true := by decide +kernel
theorem mw_63 : mwB 63 = true := by decide +kernel
set_option maxRecDepth 100000 in
theorem rb_64 : mrowB 64 = true := by decide +kernel
theorem mw_64 : mwB 64 = true := by decide +kernel
set_option maxRecDepth 100000 in
theorem rb_65 : mrowB 65 = true := by decide +kernel
theorem mw_65 : mwB 65 = true := by decide +kernel
set_option maxRecDepth 100000 in
theorem rb_66 : mrowB 66 = true := by decide +kernel
theorem mw_66 : mwB 66 = true := by decide +kernel
set_option maxRecDepth 100000 in
theorem rb_67 : mrowB 67 = true := by decide +kernel
theorem mw_67 : mwB 67 = true := by decide +kernel
set_option maxRecDepth 100000 in
theorem rb_68 : mrowB 68 = true := by decide +kernel
theorem mw_68 : mwB 68 = true := by decide +kernel
set_option maxRecDepth 100000 in
theorem rb_69 : mrowB 69 = true := by decide +kernel
theorem mw_69 : mwB 69 = true := by decide +kernel
set_option maxRecDepth 100000 in
theorem rb_70 : mrowB 70 = true := by decide +kernel
theorem mw_70 : mwB 70 = true := by decide +kernel
set_option maxRecDepth 100000 in
theorem rb_71 : mrowB 71 = true := by decide +kernel
theorem mw_71 : mwB 71 = true := by decide +kernel
set_option maxRecDepth 100000 in
theorem rb_72 : mrowB 72 = true := by decide +kernel
theorem mw_72 : mwB 72 = true := by decide +kernel
set_option maxRecDepth 100000 in
theorem rb_73 : mrowB 73 = true := by decide +kernel
theorem mw_73 : mwB 73 = true := by decide +kernel
set_option maxRecDepth 100000 in
theorem rb_74 : mrowB 74 = true := by decide +kernel
theorem mw_74 : mwB 74 = true := by decide +kernel
set_option maxRecDepth 100000 in
theorem rb_75 : mrowB 75 = true := by decide +kernel
theorem mw_75 : mwB 75 = true := by decide +kernel
set_option maxRecDepth 100000 in
theorem rb_76 : mrowB 76 = true := by decide +kernel
theorem mw_76 : mwB 76 = true := by decide +kernel
set_option maxRecDepth 100000 in
theorem rb_77 : mrowB 77 = true := by decide +kernel
theorem mw_77 : mwB 77 = true := by decide +kernel
set_option maxRecDepth 100000 in
theorem rb_78 : mrowB 78 = true := by decide +kernel
theorem mw_78 : mwB 78 = true := by decide +kernel
set_option maxRecDepth 100000 in
theorem rb_79 : mrowB 79 = true := by decide +kernel
theorem mw_79 : mwB 79 = true := by decide +kernel
set_option maxRecDepth 100000 in
theorem rb_80 : mrowB 80 = true := by decide +kernel
theorem mw_80 : mwB 80 = true := by decide +kernel
set_option maxRecDepth 100000 in
theorem rb_81 : mrowB 81 = true := by decide +kernel
theorem mw_81 : mwB 81 = true := by decide +kernel
set_option maxRecDepth 100000 in
theorem rb_82 : mrowB 82 = true := by decide +kernel
theorem mw_82 : mwB 82 = true := by decide +kernel
set_option maxRecDepth 100000 in
theorem rb_83 : mrowB 83 = true := by decide +kernel
theorem mw_83 : mwB 83 = true := by decide +kernel
set_option maxRecDepth 100000 in
theorem rb_84 : mrowB 84 = true := by decide +kernel
theorem mw_84 : mwB 84 = true := by decide +kernel
set_option maxRecDepth 100000 in
theorem rb_85 : mrowB 85 = true := by decide +kernel
theorem mw_85 : mwB 85 = true := by decide +kernel
set_option maxRecDepth 100000 in
theorem rb_86 : mrowB 86 = true := by decide +kernel
theorem mw_86 : mwB 86 = true := by decide +kernel
set_option maxRecDepth 100000 in
theorem rb_87 : mrowB 87 = true := by decide +kernel
theorem mw_87 : mwB 87 = true := by decide +kernel
set_option maxRecDepth 100000 in
theorem rb_88 : mrowB 88 = true := by decide +kernel
theorem mw_88 : mwB 88 = true := by decide +kernel
set_option maxRecDepth 100000 in
theorem rb_89 : mrowB 89 = true := by decide +kernel
theorem mw_89 : mwB 89 = true := by decide +kernel
set_option maxRecDepth 100000 in
theorem rb_90 : mrowB 90 = true := by decide +kernel
theorem mw_90 : mwB 90 = true := by decide +kernel
set_option maxRecDepth 100000 in
theorem rb_91 : mrowB 91 = true := by decide +kernel
theorem mw_91 : mwB 91 = true := by decide +kernel
set_option maxRecDepth 100000 in
theorem rb_92 : mrowB 92 = true := by decide +kernel
theorem mw_92 : mwB 92 = true := by decide +kernel
set_option maxRecDepth 100000 in
theorem rb_93 : mrowB 93 = true := by decide +kernel
theorem mw_93 : mwB 93 = true := by decide +kernel
set_option maxRecDepth 100000 in
theorem rb_94 : mrowB 94 = true := by decide +kernel
theorem mw_94 : mwB 94 = true := by decide +kernel
set_option maxRecDepth 100000 in
theorem rb_95 : mrowB 95 = true := by decide +kernel
theorem mw_95 : mwB 95 = true := by decide +kernel
set_option maxRecDepth 100000 in
theorem rb_96 : mrowB 96 = true := by decide +kernel
theorem mw_96 : mwB 96 = true := by decide +kernel
set_option maxRecDepth 100000 in
theorem rb_97 : mrowB 97 = true := by decide +kernel
theorem mw_97 : mwB 97 = true := by decide +kernel
set_option maxRecDepth 100000 in
theorem rb_98 : mrowB 98 = true := by decide +kernel
theorem mw_98 : mwB 98 = true := by decide +kernel
set_option maxRecDepth 100000 in
theorem rb_99 : mrowB 99 = true := by decide +kernel
theorem mw_99 : mwB 99 = true := by decide +kernel
set_option maxRecDepth 100000 in
theorem rb_100 : mrowB 100 = true := by decide +kernel
theorem mw_100 : mwB 100 = true := by decide +kernel
set_option maxRecDepth 100000 in
theorem rb_101 : mrowB 101 = true := by decide +kernel
theorem mw_101 : mwB 101 = true := by decide +kernel
set_option maxRecDepth 100000 in
theorem rb_102 : mrowB 102 = true := by decide +kernel
theorem mw_102 : mwB 102 = true := by decide +kernel
set_option maxRecDepth 100000 in
theorem rb_103 : mrowB 103 = true := by decide +kernel
theorem mw_103 : mwB 103 = true := by decide +kernel
set_option maxRecDepth 100000 in
theorem rb_104 : mrowB 104 = true := by decide +kernel
theorem mw_104 : mwB 104 = true := by decide +kernel
set_option maxRecDepth 100000 in
theorem rb_105 : mrowB 105 = true := by decide +kernel
theorem mw_105 : mwB 105 = true := by decide +kernel
set_option maxRecDepth 100000 in
theorem rb_106 : mrowB 106 = true := by decide +kernel
theorem mw_106 : mwB 106 = true := by decide +kernel
set_option maxRecDepth 100000 in
theorem rb_107 : mrowB 107 = true := by decide +kernel
theorem mw_107 : mwB 107 = true := by decide +kernel
set_option maxRecDepth 100000 in
theorem rb_108 : mrowB 108 = true := by decide +kernel
theorem mw_108 : mwB 108 = true := by decide +kernel
set_option maxRecDepth 100000 in
theorem rb_109 : mrowB 109 = true := by decide +kernel
theorem mw_109 : mwB 109 = true := by decide +kernel
set_option maxRecDepth 100000 in
theorem rb_110 : mrowB 110 = true := by decide +kernel
theorem mw_110 : mwB 110 = true := by decide +kernel
set_option maxRecDepth 100000 in
theorem rb_111 : mrowB 111 = true := by decide +kernel
theorem mw_111 : mwB 111 = true := by decide +kernel
set_option maxRecDepth 100000 in
theorem rb_112 : mrowB 112 = true := by decide +kernel
theorem mw_112 : mwB 112 = true := by decide +kernel
set_option maxRecDepth 100000 in
theorem rb_113 : mrowB 113 = true := by decide +kernel
theorem mw_113 : mwB 113 = true := by decide +kernel
set_option maxRecDepth 100000 in
theorem rb_114 : mrowB 114 = true := by decide +kernel
theorem mw_114 : mwB 114 = true := by decide +kernel
set_option maxRecDepth 100000 in
theorem rb_115 : mrowB 115 = true := by decide +kernel
theorem mw_115 : mwB 115 = true := by decide +kernel
set_option maxRecDepth 100000 in
theorem rb_116 : mrowB 116 = true := by decide +kernel
theorem mw_116 : mwB 116 = true := by decide +kernel
set_option maxRecDepth 100000 in
theorem rb_117 : mrowB 117 = true := by decide +kernel
theorem mw_117 : mwB 117 = true := by decide +kernel
set_option maxRecDepth 100000 in
theorem rb_118 : mrowB 118 = true := by decide +kernel
theorem mw_118 : mwB 118 = true := by decide +kernel
set_option maxRecDepth 100000 in
theorem rb_119 : mrowB 119 = true := by decide +kernel
theorem mw_119 : mwB 119 = true := by decide +kernel
set_option maxRecDepth 100000 in
theorem rb_120 : mrowB 120 = true := by decide +kernel
theorem mw_120 : mwB 120 = true := by decide +kernel
set_option maxRecDepth 100000 in
theorem rb_121 : mrowB 121 = true := by decide +kernel
theorem mw_121 : mwB 121 = true := by decide +kernel
set_option maxRecDepth 100000 in
theorem rb_122 : mrowB 122 = true := by decide +kernel
theorem mw_122 : mwB 122 = true := by decide +kernel
set_option maxRecDepth 100000 in
theorem rb_123 : mrowB 123 = true := by decide +kernel
theorem mw_123 : mwB 123 = true := by decide +kernel
set_option maxRecDepth 100000 in
theorem rb_124 : mrowB 124 = true := by decide +kernel
theorem mw_124 : mwB 124 = true := by decide +kernel
set_option maxRecDepth 100000 in
theorem rb_125 : mrowB 125 = true := by decide +kernel
theorem mw_125 : mwB 125 = true := by decide +kernel
set_option maxRecDepth 100000 in
theorem rb_126 : mrowB 126 = true := by decide +kernel
theorem mw_126 : mwB 126 = true := by decide +kernel
set_option maxRecDepth 100000 in
theorem rb_127 : mrowB 127 = true := by decide +kernel
theorem mw_127 : mwB 127 = true := by decide +kernel
set_option maxRecDepth 100000 in
theorem rb_128 : mrowB 128 = true := by decide +kernel
theorem mw_128 : mwB 128 = true := by decide +kernel
set_option maxRecDepth 100000 in
theorem rb_129 : mrowB 129 = true := by decide +kernel
theorem mw_129 : mwB 129 = true := by decide +kernel
set_option maxRecDepth 100000 in
theorem rb_130 : mrowB 130 = true := by decide +kernel
theorem mw_130 : mwB 130 = true := by decide +kernel
set_option maxRecDepth 100000 in
theorem rb_131 : mrowB 131 = true := by decide +kernel
theorem mw_131 : mwB 131 = true := by decide +kernel
set_option maxRecDepth 100000 in
theorem rb_132 : mrowB 132 = true := by decide +kernel
theorem mw_132 : mwB 132 = true := by decide +kernel
set_option maxRecDepth 100000 in
theorem rb_133 : mrowB 133 = true := by decide +kernel
theorem mw_133 : mwB 133 = true := by decide +kernel
set_option maxRecDepth 100000 in
theorem rb_134 : mrowB 134 = true := by decide +kernel
theorem mw_134 : mwB 134 = true := by decide +kernel
set_option maxRecDepth 100000 in
theorem rb_135 : mrowB 135 = true := by decide +kernel
theorem mw_135 : mwB 135 = true := by decide +kernel
set_option maxRecDepth 100000 in
theorem rb_136 : mrowB 136 = true := by decide +kernel
theorem mw_136 : mwB 136 = true := by decide +kernel
set_option maxRecDepth 100000 in
theorem rb_137 : mrowB 137 = true := by decide +kernel
theorem mw_137 : mwB 137 = true := by decide +kernel
set_option maxRecDepth 100000 in
theorem rb_138 : mrowB 138 = true := by decide +kernel
theorem mw_138 : mwB 138 = true := by decide +kernel
set_option maxRecDepth 100000 in
theorem rb_139 : mrowB 139 = true := by decide +kernel
theorem mw_139 : mwB 139 = true := by decide +kernel
set_option maxRecDepth 100000 in
theorem rb_140 : mrowB 140 = true := by decide +kernel
theorem mw_140 : mwB 140 = true := by decide +kernel
set_option maxRecDepth 100000 in
theorem rb_141 : mrowB 141 = true := by decide +kernel
theorem mw_141 : mwB 141 = true := by decide +kernel
set_option maxRecDepth 100000 in
theorem rb_142 : mrowB 142 = true := by decide +kernel
theorem mw_142 : mwB 142 = true := by decide +kernel
set_option maxRecDepth 100000 in
theorem rb_143 : mrowB 143 = true := by decide +kernel
theorem mw_143 : mwB 143 = true := by decide +kernel
set_option maxRecDepth 100000 in
theorem rb_144 : mrowB 144 = true := by decide +kernel
theorem mw_144 : mwB 144 = true := by decide +kernel
set_option maxRecDepth 100000 in
theorem rb_145 : mrowB 145 = true := by decide +kernel
theorem mw_145 : mwB 145 = true := by decide +kernel
set_option maxRecDepth 100000 in
theorem rb_146 : mrowB 146 = true := by decide +kernel
theorem mw_146 : mwB 146 = true := by decide +kernel
set_option maxRecDepth 100000 in
theorem rb_147 : mrowB 147 = true := by decide +kernel
theorem mw_147 : mwB 147 = true := by decide +kernel
set_option maxRecDepth 100000 in
theorem rb_148 : mrowB 148 = true := by decide +kernel
theorem mw_148 : mwB 148 = true := by decide +kernel
set_option maxRecDepth 100000 in
theorem rb_149 : mrowB 149 = true := by decide +kernel
theorem mw_149 : mwB 149 = true := by decide +kernel
set_option maxRecDepth 100000 in
theorem rb_150 : mrowB 150 = true := by decide +kernel
theorem mw_150 : mwB 150 = true := by decide +kernel
set_option maxRecDepth 100000 in
theorem rb_151 : mrowB 151 = true := by decide +kernel
theorem mw_151 : mwB 151 = true := by decide +kernel
set_option maxRecDepth 100000 in
theorem rb_152 : mrowB 152 = true := by decide +kernel
theorem mw_152 : mwB 152 = true := by decide +kernel
set_option maxRecDepth 100000 in
theorem rb_153 : mrowB 153 = true := by decide +kernel
theorem mw_153 : mwB 153 = true := by decide +kernel
set_option maxRecDepth 100000 in
theorem rb_154 : mrowB 154 = true := by decide +kernel
theorem mw_154 : mwB 154 = true := by decide +kernel
set_option maxRecDepth 100000 in
theorem rb_155 : mrowB 155 = true := by decide +kernel
theorem mw_155 : mwB 155 = true := by decide +kernel
set_option maxRecDepth 100000 in
theorem rb_156 : mrowB 156 = true := by decide +kernel
theorem mw_156 : mwB 156 = true := by decide +kernel
set_option maxRecDepth 100000 in
theorem rb_157 : mrowB 157 = true := by decide +kernel
theorem mw_157 : mwB 157 = true := by decide +kernel
set_option maxRecDepth 100000 in
theorem rb_158 : mrowB 158 = true := by decide +kernel
theorem mw_158 : mwB 158 = true := by decide +kernel
set_option maxRecDepth 100000 in
theorem rb_159 : mrowB 159 = true := by decide +kernel
theorem mw_159 : mwB 159 = true := by decide +kernel
set_option maxRecDepth 100000 in
theorem rb_160 : mrowB 160 = true := by decide +kernel
theorem mw_160 : mwB 160 = true := by decide +kernel
set_option maxRecDepth 100000 in
theorem rb_161 : mrowB 161 = true := by decide +kernel
theorem mw_161 : mwB 161 = true := by decide +kernel
set_option maxRecDepth 100000 in
theorem rb_162 : mrowB 162 = true := by decide +kernel
theorem mw_162 : mwB 162 = true := by decide +kernel
set_option maxRecDepth 100000 in
theorem rb_163 : mrowB 163 = true := by decide +kernel
theorem mw_163 : mwB 163 = true := by decide +kernel
set_option maxRecDepth 100000 in
theorem rb_164 : mrowB 164 = true := by decide +kernel
theorem mw_164 : mwB 164 = true := by decide +kernel
set_option maxRecDepth 100000 in
theorem rb_165 : mrowB 165 = true := by decide +kernel
theorem mw_165 : mwB 165 = true := by decide +kernel
set_option maxRecDepth 100000 in
theorem rb_166 : mrowB 166 = true := by decide +kernel
theorem mw_166 : mwB 166 = true := by decide +kernel
set_option maxRecDepth 100000 in
theorem rb_167 : mrowB 167 = true := by decide +kernel
theorem mw_167 : mwB 167 = true := by decide +kernel
set_option maxRecDepth 100000 in
theorem rb_168 : mrowB 168 = true := by decide +kernel
theorem mw_168 : mwB 168 = true := by decide +kernel
set_option maxRecDepth 100000 in
theorem rb_169 : mrowB 169 = true := by decide +kernel
theorem mw_169 : mwB 169 = true := by decide +kernel
set_option maxRecDepth 100000 in
theorem rb_170 : mrowB 170 = true := by decide +kernel
theorem mw_170 : mwB 170 = true := by decide +kernel
set_option maxRecDepth 100000 in
theorem rb_171 : mrowB 171 = true := by decide +kernel
theorem mw_171 : mwB 171 = true := by decide +kernel
set_option maxRecDepth 100000 in
theorem rb_172 : mrowB 172 = true := by decide +kernel
theorem mw_172 : mwB 172 = true := by decide +kernel
set_option maxRecDepth 100000 in
theorem rb_173 : mrowB 173 = true := by decide +kernel
theorem mw_173 : mwB 173 = true := by decide +kernel
set_option maxRecDepth 100000 in
theorem rb_174 : mrowB 174 = true := by decide +kernel
theorem mw_174 : mwB 174 = true := by decide +kernel
set_option maxRecDepth 100000 in
theorem rb_175 : mrowB 175 = true := by decide +kernel
theorem mw_175 : mwB 175 = true := by decide +kernel
set_option maxRecDepth 100000 in
theorem rb_176 : mrowB 176 = true := by decide +kernel
theorem mw_176 : mwB 176 = true := by decide +kernel
set_option maxRecDepth 100000 in
theorem rb_177 : mrowB 177 = true := by decide +kernel
theorem mw_177 : mwB 177 = true := by decide +kernel
set_option maxRecDepth 100000 in
theorem rb_178 : mrowB 178 = true := by decide +kernel
theorem mw_178 : mwB 178 = true := by decide +kernel
set_option maxRecDepth 100000 in
theorem rb_179 : mrowB 179 = true := by decide +kernel
theorem mw_179 : mwB 179 = true := by decide +kernel
set_option maxRecDepth 100000 in
theorem rb_180 : mrowB 180 = true := by decide +kernel
theorem mw_180 : mwB 180 = true := by decide +kernel
set_option maxRecDepth 100000 in
theorem rb_181 : mrowB 181 = true := by decide +kernel
theorem mw_181 : mwB 181 = true := by decide +kernel
set_option maxRecDepth 100000 in
theorem rb_182 : mrowB 182 = true := by decide +kernel
theorem mw_182 : mwB 182 = true := by decide +kernel
set_option maxRecDepth 100000 in
theorem rb_183 : mrowB 183 = true := by decide +kernel
theorem mw_183 : mwB 183 = true := by decide +kernel
set_option maxRecDepth 100000 in
theorem rb_184 : mrowB 184 = true := by decide +kernel
theorem mw_184 : mwB 184 = true := by decide +kernel
set_option maxRecDepth 100000 in
theorem rb_185 : mrowB 185 = true := by decide +kernel
theorem mw_185 : mwB 185 = true := by decide +kernel
set_option maxRecDepth 100000 in
theorem rb_186 : mrowB 186 = true := by decide +kernel
theorem mw_186 : mwB 186 = true := by decide +kernel
set_option maxRecDepth 100000 in
theorem rb_187 : mrowB 187 = true := by decide +kernel
theorem mw_187 : mwB 187 = true := by decide +kernel
set_option maxRecDepth 100000 in
theorem rb_188 : mrowB 188 = true := by decide +kernel
theorem mw_188 : mwB 188 = true := by decide +kernel
set_option maxRecDepth 100000 in
theorem rb_189 : mrowB 189 = true := by decide +kernel
theorem mw_189 : mwB 189 = true := by decide +kernel
set_option maxRecDepth 100000 in
theorem rb_190 : mrowB 190 = true := by decide +kernel
theorem mw_190 : mwB 190 = true := by decide +kernel
set_option maxRecDepth 100000 in
theorem rb_191 : mrowB 191 = true := by decide +kernel
theorem mw_191 : mwB 191 = true := by decide +kernel
set_option maxRecDepth 100000 in
theorem rb_192 : mrowB 192 = true := by decide +kernel
theorem mw_192 : mwB 192 = true := by decide +kernel
set_option maxRecDepth 100000 in
theorem rb_193 : mrowB 193 = true := by decide +kernel
theorem mw_193 : mwB 193 = true := by decide +kernel
set_option maxRecDepth 100000 in
theorem rb_194 : mrowB 194 = true := by decide +kernel
theorem mw_194 : mwB 194 = true := by decide +kernel
set_option maxRecDepth 100000 in
theorem rb_195 : mrowB 195 = true := by decide +kernel
theorem mw_195 : mwB 195 = true := by decide +kernel
set_option maxRecDepth 100000 in
theorem rb_196 : mrowB 196 = true := by decide +kernel
theorem mw_196 : mwB 196 = true := by decide +kernel
set_option maxRecDepth 100000 in
theorem rb_197 : mrowB 197 = true := by decide +kernel
theorem mw_197 : mwB 197 = true := by decide +kernel
set_option maxRecDepth 100000 in
theorem rb_198 : mrowB 198 = true := by decide +kernel
theorem mw_198 : mwB 198 = true := by decide +kernel
set_option maxRecDepth 100000 in
theorem rb_199 : mrowB 199 = true := by decide +kernel
theorem mw_199 : mwB 199 = true := by decide +kernel
set_option maxRecDepth 100000 in
theorem rb_200 : mrowB 200 = true := by decide +kernel
theorem mw_200 : mwB 200 = true := by decide +kernel
set_option maxRecDepth 100000 in
theorem rb_201 : mrowB 201 = true := by decide +kernel
theorem mw_201 : mwB 201 = true := by decide +kernel
set_option maxRecDepth 100000 in
theorem rb_202 : mrowB 202 = true := by decide +kernel
theorem mw_202 : mwB 202 = true := by decide +kernel
set_option maxRecDepth 100000 in
theorem rb_203 : mrowB 203 = true := by decide +kernel
theorem mw_203 : mwB 203 = true := by decide +kernel
set_option maxRecDepth 100000 in
theorem rb_204 : mrowB 204 = true := by decide +kernel
theorem mw_204 : mwB 204 = true := by decide +kernel
set_option maxRecDepth 100000 in
theorem rb_205 : mrowB 205 = true := by decide +kernel
theorem mw_205 : mwB 205 = true := by decide +kernel
set_option maxRecDepth 100000 in
theorem rb_206 : mrowB 206 = true := by decide +kernel
theorem mw_206 : mwB 206 = true := by decide +kernel
set_option maxRecDepth 100000 in
theorem rb_207 : mrowB 207 = true := by decide +kernel
theorem mw_207 : mwB 207 = true := by decide +kernel
set_option maxRecDepth 100000 in
theorem rb_208 : mrowB 208 = true := by decide +kernel
theorem mw_208 : mwB 208 = true := by decide +kernel
set_option maxRecDepth 100000 in
theorem rb_209 : mrowB 209 = true := by decide +kernel
theorem mw_209 : mwB 209 = true := by decide +kernel
set_option maxRecDepth 100000 in
theorem rb_210 : mrowB 210 = true := by decide +kernel
theorem mw_210 : mwB 210 = true := by decide +kernel
set_option maxRecDepth 100000 in
theorem rb_211 : mrowB 211 = true := by decide +kernel
theorem mw_211 : mwB 211 = true := by decide +kernel
set_option maxRecDepth 100000 in
theorem rb_212 : mrowB 212 = true := by decide +kernel
theorem mw_212 : mwB 212 = true := by decide +kernel
set_option maxRecDepth 100000 in
theorem rb_213 : mrowB 213 = true := by decide +kernel
theorem mw_213 : mwB 213 = true := by decide +kernel
set_option maxRecDepth 100000 in
theorem rb_214 : mrowB 214 = true := by decide +kernel
theorem mw_214 : mwB 214 = true := by decide +kernel
set_option maxRecDepth 100000 in
theorem rb_215 : mrowB 215 = true := by decide +kernel
theorem mw_215 : mwB 215 = true := by decide +kernel
set_option maxRecDepth 100000 in
theorem rb_216 : mrowB 216 = true := by decide +kernel
theorem mw_216 : mwB 216 = true := by decide +kernel
set_option maxRecDepth 100000 in
theorem rb_217 : mrowB 217 = true := by decide +kernel
theorem mw_217 : mwB 217 = true := by decide +kernel
set_option maxRecDepth 100000 in
theorem rb_218 : mrowB 218 = true := by decide +kernel
theorem mw_218 : mwB 218 = true := by decide +kernel
set_option maxRecDepth 100000 in
theorem rb_219 : mrowB 219 = true := by decide +kernel
theorem mw_219 : mwB 219 = true := by decide +kernel
set_option maxRecDepth 100000 in
theorem rb_220 : mrowB 220 = true := by decide +kernel
theorem mw_220 : mwB 220 = true := by decide +kernel
set_option maxRecDepth 100000 in
theorem rb_221 : mrowB 221 = true := by decide +kernel
theorem mw_221 : mwB 221 = true := by decide +kernel
set_option maxRecDepth 100000 in
theorem rb_222 : mrowB 222 = true := by decide +kernel
theorem mw_222 : mwB 222 = true := by decide +kernel
set_option maxRecDepth 100000 in
theorem rb_223 : mrowB 223 = true := by decide +kernel
theorem mw_223 : mwB 223 = true := by decide +kernel
set_option maxRecDepth 100000 in
theorem rb_224 : mrowB 224 = true := by decide +kernel
theorem mw_224 : mwB 224 = true := by decide +kernel
theorem rb_all : ∀ k, k < 225 → mrowB k = true := by
  intro k hk
  match k, hk with
  | 0, _ => exact rb_0
  | 1, _ => exact rb_1
  | 2, _ => exact rb_2
  | 3, _ => exact rb_3
  | 4, _ => exact rb_4
  | 5, _ => exact rb_5
  | 6, _ => exact rb_6
  | 7, _ => exact rb_7
  | 8, _ => exact rb_8
  | 9, _ => exact rb_9
  | 10, _ => exact rb_10
  | 11, _ => exact rb_11
  | 12, _ => exact rb_12
  | 13, _ => exact rb_13
  | 14, _ => exact rb_14
  | 15, _ => exact rb_15
  | 16, _ => exact rb_16
  | 17, _ => exact rb_17
  | 18, _ => exact rb_18
  | 19, _ => exact rb_19
  | 20, _ => exact rb_20
  | 21, _ => exact rb_21
  | 22, _ => exact rb_22
  | 23, _ => exact rb_23
  | 24, _ => exact rb_24
  | 25, _ => exact rb_25
  | 26, _ => exact rb_26
  | 27, _ => exact rb_27
  | 28, _ => exact rb_28
  | 29, _ => exact rb_29
  | 30, _ => exact rb_30
  | 31, _ => exact rb_31
  | 32, _ => exact rb_32
  | 33, _ => exact rb_33
  | 34, _ => exact rb_34
  | 35, _ => exact rb_35
  | 36, _ => exact rb_36
  | 37, _ => exact rb_37
  | 38, _ => exact rb_38
  | 39, _ => exact rb_39
  | 40, _ => exact rb_40
  | 41, _ => exact rb_41
  | 42, _ => exact rb_42
  | 43, _ => exact rb_43
  | 44, _ => exact rb_44
  | 45, _ => exact rb_45
  | 46, _ => exact rb_46
  | 47, _ => exact rb_47
  | 48, _ => exact rb_48
  | 49, _ => exact rb_49
  | 50, _ => exact rb_50
  | 51, _ => exact rb_51
  | 52, _ => exact rb_52
  | 53, _ => exact rb_53
  | 54, _ => exact rb_54
  | 55, _ => exact rb_55
  | 56, _ => exact rb_56
  | 57, _ => exact rb_57
  | 58, _ => exact rb_58
  | 59, _ => exact rb_59
  | 60, _ => exact rb_60
  | 61, _ => exact rb_61
  | 62, _ => exact rb_62
  | 63, _ => exact rb_63
  | 64, _ => exact rb_64
  | 65, _ => exact rb_65
  | 66, _ => exact rb_66
  | 67, _ => exact rb_67
  | 68, _ => exact rb_68
  | 69, _ => exact rb_69
  | 70, _ => exact rb_70
  | 71, _ => exact rb_71
  | 72, _ => exact rb_72
  | 73, _ => exact rb_73
  | 74, _ => exact rb_74
  | 75, _ => exact rb_75
  | 76, _ => exact rb_76
  | 77, _ => exact rb_77
  | 78, _ => exact rb_78
  | 79, _ => exact rb_79
  | 80, _ => exact rb_80
  | 81, _ => exact rb_81
  | 82, _ => exact rb_82
  | 83, _ => exact rb_83
  | 84, _ => exact rb_84
  | 85, _ => exact rb_85
  | 86, _ => exact rb_86
  | 87, _ => exact rb_87
  | 88, _ => exact rb_88
  | 89, _ => exact rb_89
  | 90, _ => exact rb_90
  | 91, _ => exact rb_91
  | 92, _ => exact rb_92
  | 93, _ => exact rb_93
  | 94, _ => exact rb_94
  | 95, _ => exact rb_95
  | 96, _ => exact rb_96
  | 97, _ => exact rb_97
  | 98, _ => exact rb_98
  | 99, _ => exact rb_99
  | 100, _ => exact rb_100
  | 101, _ => exact rb_101
  | 102, _ => exact rb_102
  | 103, _ => exact rb_103
  | 104, _ => exact rb_104
  | 105, _ => exact rb_105
  | 106, _ => exact rb_106
  | 107, _ => exact rb_107
  | 108, _ => exact rb_108
  | 109, _ => exact rb_109
  | 110, _ => exact rb_110
  | 111, _ => exact rb_111
  | 112, _ => exact rb_112
  | 113, _ => exact rb_113
  | 114, _ => exact rb_114
  | 115, _ => exact rb_115
  | 116, _ => exact rb_116
  | 117, _ => exact rb_117
  | 118, _ => exact rb_118
  | 119, _ => exact rb_119
  | 120, _ => exact rb_120
  | 121, _ => exact rb_121
  | 122, _ => exact rb_122
  | 123, _ => exact rb_123
  | 124, _ => exact rb_124
  | 125, _ => exact rb_125
  | 126, _ => exact rb_126
  | 127, _ => exact rb_127
  | 128, _ => exact rb_128
  | 129, _ => exact rb_129
  | 130, _ => exact rb_130
  | 131, _ => exact rb_131
  | 132, _ => exact rb_132
  | 133, _ => exact rb_133
  | 134, _ => exact rb_134
  | 135, _ => exact rb_135
  | 136, _ => exact rb_136
  | 137, _ => exact rb_137
  | 138, _ => exact rb_138
  | 139, _ => exact rb_139
  | 140, _ => exact rb_140
  | 141, _ => exact rb_141
  | 142, _ => exact rb_142
  | 143, _ => exact rb_143
  | 144, _ => exact rb_144
  | 145, _ => exact rb_145
  | 146, _ => exact rb_146
  | 147, _ => exact rb_147
  | 148, _ => exact rb_148
  | 149, _ => exact rb_149
  | 150, _ => exact rb_150
  | 151, _ => exact rb_151
  | 152, _ => exact rb_152
  | 153, _ => exact rb_153
  | 154, _ => exact rb_154
  | 155, _ => exact rb_155
  | 156, _ => exact rb_156
  | 157, _ => exact rb_157
  | 158, _ => exact rb_158
  | 159, _ => exact rb_159
  | 160, _ => exact rb_160
  | 161, _ => exact rb_161
  | 162, _ => exact rb_162
  | 163, _ => exact rb_163
  | 164, _ => exact rb_164
  | 165, _ => exact rb_165
  | 166, _ => exact rb_166
  | 167, _ => exact rb_167
  | 168, _ => exact rb_168
  | 169, _ => exact rb_169
  | 170, _ => exact rb_170
  | 171, _ => exact rb_171
  | 172, _ => exact rb_172
  | 173, _ => exact rb_173
  | 174, _ => exact rb_174
  | 175, _ => exact rb_175
  | 176, _ => exact rb_176
  | 177, _ => exact rb_177
  | 178, _ => exact rb_178
  | 179, _ => exact rb_179
  | 180, _ => exact rb_180
  | 181, _ => exact rb_181
  | 182, _ => exact rb_182
  | 183, _ => exact rb_183
  | 184, _ => exact rb_184
  | 185, _ => exact rb_185
  | 186, _ => exact rb_186
  | 187, _ => exact rb_187
  | 188, _ => exact rb_188
  | 189, _ => exact rb_189
  | 190, _ => exact rb_190
  | 191, _ => exact rb_191
  | 192, _ => exact rb_192
  | 193, _ => exact rb_193
  | 194, _ => exact rb_194
  | 195, _ => exact rb_195
  | 196, _ => exact rb_196
  | 197, _ => exact rb_197
  | 198, _ => exact rb_198
  | 199, _ => exact rb_199
  | 200, _ => exact rb_200
  | 201, _ => exact rb_201
  | 202, _ => exact rb_202
  | 203, _ => exact rb_203
  | 204, _ => exact rb_204
  | 205, _ => exact rb_205
  | 206, _ => exact rb_206
  | 207, _ => exact rb_207
  | 208, _ => exact rb_208
  | 209, _ => exact rb_209
  | 210, _ => exact rb_210
  | 211, _ => exact rb_211
  | 212, _ => exact rb_212
  | 213, _ => exact rb_213
  | 214, _ => exact rb_214
  | 215, _ => exact rb_215
  | 216, _ => exact rb_216
  | 217, _ => exact rb_217
  | 218, _ => exact rb_218
  | 219, _ => exact rb_219
  | 220, _ => exact rb_220
  | 221, _ => exact rb_221
  | 222, _ => exact rb_222
  | 223, _ => exact rb_223
  | 224, _ => exact rb_224
  | n + 225, h => omega
theorem mw_all : ∀ k, k < 225 → mwB k = true := by
  intro k hk
  match k, hk with
  | 0, _ => exact mw_0
  | 1, _ => exact mw_1
  | 2, _ => exact mw_2
  | 3, _ => exact mw_3
  | 4, _ => exact mw_4
  | 5, _ => exact mw_5
  | 6, _ => exact mw_6
  | 7, _ => exact mw_7
  | 8, _ => exact mw_8
  | 9, _ => exact mw_9
  | 10, _ => exact mw_10
  | 11, _ => exact mw_11
  | 12, _ => exact mw_12
  | 13, _ => exact mw_13
  | 14, _ => exact mw_14
  | 15, _ => exact mw_15
  | 16, _ => exact mw_16
  | 17, _ => exact mw_17
  | 18, _ => exact mw_18
  | 19, _ => exact mw_19
  | 20, _ => exact mw_20
  | 21, _ => exact mw_21
  | 22, _ => exact mw_22
  | 23, _ => exact mw_23
  | 24, _ => exact mw_24
  | 25, _ => exact mw_25
  | 26, _ => exact mw_26
  | 27, _ => exact mw_27
  | 28, _ => exact mw_28
  | 29, _ => exact mw_29
  | 30, _ => exact mw_30
  | 31, _ => exact mw_31
  | 32, _ => exact mw_32
  | 33, _ => exact mw_33
  | 34, _ => exact mw_34
  | 35, _ => exact mw_35
  | 36, _ => exact mw_36
  | 37, _ => exact mw_37
  | 38, _ => exact mw_38
  | 39, _ => exact mw_39
  | 40, _ => exact mw_40
  | 41, _ => exact mw_41
  | 42, _ => exact mw_42
  | 43, _ => exact mw_43
  | 44, _ => exact mw_44
  | 45, _ => exact mw_45
  | 46, _ => exact mw_46
  | 47, _ => exact mw_47
  | 48, _ => exact mw_48
  | 49, _ => exact mw_49
  | 50, _ => exact mw_50
  | 51, _ => exact mw_51
  | 52, _ => exact mw_52
  | 53, _ => exact mw_53
  | 54, _ => exact mw_54
  | 55, _ => exact mw_55
  | 56, _ => exact mw_56
  | 57, _ => exact mw_57
  | 58, _ => exact mw_58
  | 59, _ => exact mw_59
  | 60, _ => exact mw_60
  | 61, _ => exact mw_61
  | 62, _ => exact mw_62
  | 63, _ => exact mw_63
  | 64, _ => exact mw_64
  | 65, _ => exact mw_65
  | 66, _ => exact mw_66
  | 67, _ => exact mw_67
  | 68, _ => exact mw_68
  | 69, _ => exact mw_69
  | 70, _ => exact mw_70
  | 71, _ => exact mw_71
  | 72, _ => exact mw_72
  | 73, _ => exact mw_73
  | 74, _ => exact mw_74
  | 75, _ => exact mw_75
  | 76, _ => exact mw_76
  | 77, _ => exact mw_77
  | 78, _ => exact mw_78
  | 79, _ => exact mw_79
  | 80, _ => exact mw_80
  | 81, _ => exact mw_81
  | 82, _ => exact mw_82
  | 83, _ => exact mw_83
  | 84, _ => exact mw_84
  | 85, _ => exact mw_85
  | 86, _ => exact mw_86
  | 87, _ => exact mw_87
  | 88, _ => exact mw_88
  | 89, _ => exact mw_89
  | 90, _ => exact mw_90
  | 91, _ => exact mw_91
  | 92, _ => exact mw_92
  | 93, _ => exact mw_93
  | 94, _ => exact mw_94
  | 95, _ => exact mw_95
  | 96, _ => exact mw_96
  | 97, _ => exact mw_97
  | 98, _ => exact mw_98
  | 99, _ => exact mw_99
  | 100, _ => exact mw_100
  | 101, _ => exact mw_101
  | 102, _ => exact mw_102
  | 103, _ => exact mw_103
  | 104, _ => exact mw_104
  | 105, _ => exact mw_105
  | 106, _ => exact mw_106
  | 107, _ => exact mw_107
  | 108, _ => exact mw_108
  | 109, _ => exact mw_109
  | 110, _ => exact mw_110
  | 111, _ => exact mw_111
  | 112, _ => exact mw_112
  | 113, _ => exact mw_113
  | 114, _ => exact mw_114
  | 115, _ => exact mw_115
  | 116, _ => exact mw_116
  | 117, _ => exact mw_117
  | 118, _ => exact mw_118
  | 119, _ => exact mw_119
  | 120, _ => exact mw_120
  | 121, _ => exact mw_121
  | 122, _ => exact mw_122
  | 123, _ => exact mw_123
  | 124, _ => exact mw_124
  | 125, _ => exact mw_125
  | 126, _ => exact mw_126
  | 127, _ => exact mw_127
  | 128, _ => exact mw_128
  | 129, _ => exact mw_129
  | 130, _ => exact mw_130
  | 131, _ => exact mw_131
  | 132, _ => exact mw_132
  | 133, _ => exact mw_133
  | 134, _ => exact mw_134
  | 135, _ => exact mw_135
  | 136, _ => exact mw_136
  | 137, _ => exact mw_137
  | 138, _ => exact mw_138
  | 139, _ => exact mw_139
  | 140, _ => exact mw_140
  | 141, _ => exact mw_141
  | 142, _ => exact mw_142
  | 143, _ => exact mw_143
  | 144, _ => exact mw_144
  | 145, _ => exact mw_145
  | 146, _ => exact mw_146
  | 147, _ => exact mw_147
  | 148, _ => exact mw_148
  | 149, _ => exact mw_149
  | 150, _ => exact mw_150
  | 151, _ => exact mw_151
  | 152, _ => exact mw_152
  | 153, _ => exact mw_153
  | 154, _ => exact mw_154
  | 155, _ => exact mw_155
  | 156, _ => exact mw_156
  | 157, _ => exact mw_157
  | 158, _ => exact mw_158
  | 159, _ => exact mw_159
  | 160, _ => exact mw_160
  | 161, _ => exact mw_161
  | 162, _ => exact mw_162
  | 163, _ => exact mw_163
  | 164, _ => exact mw_164
  | 165, _ => exact mw_165
  | 166, _ => exact mw_166
  | 167, _ => exact mw_167
  | 168, _ => exact mw_168
  | 169, _ => exact mw_169
  | 170, _ => exact mw_170
  | 171, _ => exact mw_171
  | 172, _ => exact mw_172
  | 173, _ => exact mw_173
  | 174, _ => exact mw_174
  | 175, _ => exact mw_175
  | 176, _ => exact mw_176
  | 177, _ => exact mw_177
  | 178, _ => exact mw_178
  | 179, _ => exact mw_179
  | 180, _ => exact mw_180
  | 181, _ => exact mw_181
  | 182, _ => exact mw_182
  | 183, _ => exact mw_183
  | 184, _ => exact mw_184
  | 185, _ => exact mw_185
  | 186, _ => exact mw_186
  | 187, _ => exact mw_187
  | 188, _ => exact mw_188
  | 189, _ => exact mw_189
  | 190, _ => exact mw_190
  | 191, _ => exact mw_191
  | 192, _ => exact mw_192
  | 193, _ => exact mw_193
  | 194, _ => exact mw_194
  | 195, _ => exact mw_195
  | 196, _ => exact mw_196
  | 197, _ => exact mw_197
  | 198, _ => exact mw_198
  | 199, _ => exact mw_199
  | 200, _ => exact mw_200
  | 201, _ => exact mw_201
  | 202, _ => exact mw_202
  | 203, _ => exact mw_203
  | 204, _ => exact mw_204
  | 205, _ => exact mw_205
  | 206, _ => exact mw_206
  | 207, _ => exact mw_207
  | 208, _ => exact mw_208
  | 209, _ => exact mw_209
  | 210, _ => exact mw_210
  | 211, _ => exact mw_211
  | 212, _ => exact mw_212
  | 213, _ => exact mw_213
  | 214, _ => exact mw_214
  | 215, _ => exact mw_215
  | 216, _ => exact mw_216
  | 217, _ => exact mw_217
  | 218, _ => exact mw_218
  | 219, _ => exact mw_219
  | 220, _ => exact mw_220
  | 221, _ => exact mw_221
  | 222, _ => exact mw_222
  | 223, _ => exact mw_223
  | 224, _ => exact mw_224
  | n + 225, h => omega
