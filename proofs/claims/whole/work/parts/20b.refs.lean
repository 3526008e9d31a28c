set_option maxRecDepth 16384 in
theorem r_0_0 : rt 0 0 = 1 := id rfl
set_option maxRecDepth 16384 in
theorem r_0_2 : rt 0 2 = 3 := id rfl
set_option maxRecDepth 16384 in
theorem r_0_3 : rt 0 3 = 8 := id rfl
set_option maxRecDepth 16384 in
theorem r_0_4 : rt 0 4 = 13 := id rfl
set_option maxRecDepth 16384 in
theorem r_0_5 : rt 0 5 = 16 := id rfl
set_option maxRecDepth 16384 in
theorem r_0_6 : rt 0 6 = 30 := id rfl
set_option maxRecDepth 16384 in
theorem r_0_7 : rt 0 7 = 33 := id rfl
set_option maxRecDepth 16384 in
theorem r_0_8 : rt 0 8 = 37 := id rfl
set_option maxRecDepth 16384 in
theorem r_0_9 : rt 0 9 = 40 := id rfl
set_option maxRecDepth 16384 in
theorem r_0_10 : rt 0 10 = 42 := id rfl
set_option maxRecDepth 16384 in
theorem r_0_11 : rt 0 11 = 73 := id rfl
set_option maxRecDepth 16384 in
theorem r_0_12 : rt 0 12 = 84 := id rfl
set_option maxRecDepth 16384 in
theorem r_0_13 : rt 0 13 = 93 := id rfl
set_option maxRecDepth 16384 in
theorem r_0_14 : rt 0 14 = 94 := id rfl
set_option maxRecDepth 16384 in
theorem r_0_15 : rt 0 15 = 2 := id rfl
set_option maxRecDepth 16384 in
theorem r_3_12 : rt 3 12 = 4 := id rfl
set_option maxRecDepth 16384 in
theorem r_3_13 : rt 3 13 = 5 := id rfl
set_option maxRecDepth 16384 in
theorem r_3_14 : rt 3 14 = 6 := id rfl
set_option maxRecDepth 16384 in
theorem r_3_15 : rt 3 15 = 7 := id rfl
set_option maxRecDepth 16384 in
theorem r_8_12 : rt 8 12 = 9 := id rfl
set_option maxRecDepth 16384 in
theorem r_8_13 : rt 8 13 = 10 := id rfl
set_option maxRecDepth 16384 in
theorem r_8_14 : rt 8 14 = 11 := id rfl
set_option maxRecDepth 16384 in
theorem r_8_15 : rt 8 15 = 12 := id rfl
set_option maxRecDepth 16384 in
theorem r_13_0 : rt 13 0 = 15 := id rfl
set_option maxRecDepth 16384 in
theorem r_13_1 : rt 13 1 = 8 := id rfl
set_option maxRecDepth 16384 in
theorem r_13_2 : rt 13 2 = 14 := id rfl
set_option maxRecDepth 16384 in
theorem r_15_0 : rt 15 0 = 1 := id rfl
set_option maxRecDepth 16384 in
theorem r_16_1 : rt 16 1 = 17 := id rfl
set_option maxRecDepth 16384 in
theorem r_16_2 : rt 16 2 = 18 := id rfl
set_option maxRecDepth 16384 in
theorem r_16_5 : rt 16 5 = 19 := id rfl
set_option maxRecDepth 16384 in
theorem r_19_0 : rt 19 0 = 20 := id rfl
set_option maxRecDepth 16384 in
theorem r_19_1 : rt 19 1 = 21 := id rfl
set_option maxRecDepth 16384 in
theorem r_19_2 : rt 19 2 = 22 := id rfl
set_option maxRecDepth 16384 in
theorem r_19_3 : rt 19 3 = 23 := id rfl
set_option maxRecDepth 16384 in
theorem r_19_4 : rt 19 4 = 24 := id rfl
set_option maxRecDepth 16384 in
theorem r_19_5 : rt 19 5 = 25 := id rfl
set_option maxRecDepth 16384 in
theorem r_19_6 : rt 19 6 = 26 := id rfl
set_option maxRecDepth 16384 in
theorem r_19_7 : rt 19 7 = 27 := id rfl
set_option maxRecDepth 16384 in
theorem r_19_8 : rt 19 8 = 28 := id rfl
set_option maxRecDepth 16384 in
theorem r_19_9 : rt 19 9 = 29 := id rfl
set_option maxRecDepth 16384 in
theorem r_30_0 : rt 30 0 = 3 := id rfl
set_option maxRecDepth 16384 in
theorem r_30_1 : rt 30 1 = 31 := id rfl
set_option maxRecDepth 16384 in
theorem r_30_2 : rt 30 2 = 32 := id rfl
set_option maxRecDepth 16384 in
theorem r_33_0 : rt 33 0 = 3 := id rfl
set_option maxRecDepth 16384 in
theorem r_33_1 : rt 33 1 = 16 := id rfl
set_option maxRecDepth 16384 in
theorem r_33_2 : rt 33 2 = 30 := id rfl
set_option maxRecDepth 16384 in
theorem r_33_3 : rt 33 3 = 34 := id rfl
set_option maxRecDepth 16384 in
theorem r_33_5 : rt 33 5 = 35 := id rfl
set_option maxRecDepth 16384 in
theorem r_33_6 : rt 33 6 = 36 := id rfl
set_option maxRecDepth 16384 in
theorem r_37_0 : rt 37 0 = 3 := id rfl
set_option maxRecDepth 16384 in
theorem r_37_1 : rt 37 1 = 16 := id rfl
set_option maxRecDepth 16384 in
theorem r_37_2 : rt 37 2 = 33 := id rfl
set_option maxRecDepth 16384 in
theorem r_37_3 : rt 37 3 = 38 := id rfl
set_option maxRecDepth 16384 in
theorem r_37_4 : rt 37 4 = 39 := id rfl
set_option maxRecDepth 16384 in
theorem r_40_0 : rt 40 0 = 3 := id rfl
set_option maxRecDepth 16384 in
theorem r_40_1 : rt 40 1 = 41 := id rfl
set_option maxRecDepth 16384 in
theorem r_42_0 : rt 42 0 = 3 := id rfl
set_option maxRecDepth 16384 in
theorem r_42_1 : rt 42 1 = 33 := id rfl
set_option maxRecDepth 16384 in
theorem r_42_2 : rt 42 2 = 43 := id rfl
set_option maxRecDepth 16384 in
theorem r_42_3 : rt 42 3 = 44 := id rfl
set_option maxRecDepth 16384 in
theorem r_42_4 : rt 42 4 = 45 := id rfl
set_option maxRecDepth 16384 in
theorem r_42_5 : rt 42 5 = 46 := id rfl
set_option maxRecDepth 16384 in
theorem r_42_6 : rt 42 6 = 72 := id rfl
set_option maxRecDepth 16384 in
theorem r_46_0 : rt 46 0 = 47 := id rfl
set_option maxRecDepth 16384 in
theorem r_46_1 : rt 46 1 = 48 := id rfl
set_option maxRecDepth 16384 in
theorem r_46_2 : rt 46 2 = 49 := id rfl
set_option maxRecDepth 16384 in
theorem r_46_3 : rt 46 3 = 50 := id rfl
set_option maxRecDepth 16384 in
theorem r_46_4 : rt 46 4 = 51 := id rfl
set_option maxRecDepth 16384 in
theorem r_46_5 : rt 46 5 = 52 := id rfl
set_option maxRecDepth 16384 in
theorem r_46_6 : rt 46 6 = 53 := id rfl
set_option maxRecDepth 16384 in
theorem r_46_7 : rt 46 7 = 54 := id rfl
set_option maxRecDepth 16384 in
theorem r_46_8 : rt 46 8 = 55 := id rfl
set_option maxRecDepth 16384 in
theorem r_46_9 : rt 46 9 = 56 := id rfl
set_option maxRecDepth 16384 in
theorem r_46_10 : rt 46 10 = 57 := id rfl
set_option maxRecDepth 16384 in
theorem r_46_11 : rt 46 11 = 58 := id rfl
set_option maxRecDepth 16384 in
theorem r_46_12 : rt 46 12 = 59 := id rfl
set_option maxRecDepth 16384 in
theorem r_46_13 : rt 46 13 = 60 := id rfl
set_option maxRecDepth 16384 in
theorem r_46_14 : rt 46 14 = 61 := id rfl
set_option maxRecDepth 16384 in
theorem r_46_15 : rt 46 15 = 62 := id rfl
set_option maxRecDepth 16384 in
theorem r_46_16 : rt 46 16 = 63 := id rfl
set_option maxRecDepth 16384 in
theorem r_46_17 : rt 46 17 = 64 := id rfl
set_option maxRecDepth 16384 in
theorem r_46_18 : rt 46 18 = 65 := id rfl
set_option maxRecDepth 16384 in
theorem r_46_19 : rt 46 19 = 66 := id rfl
set_option maxRecDepth 16384 in
theorem r_46_20 : rt 46 20 = 67 := id rfl
set_option maxRecDepth 16384 in
theorem r_46_21 : rt 46 21 = 68 := id rfl
set_option maxRecDepth 16384 in
theorem r_46_22 : rt 46 22 = 69 := id rfl
set_option maxRecDepth 16384 in
theorem r_46_23 : rt 46 23 = 70 := id rfl
set_option maxRecDepth 16384 in
theorem r_46_24 : rt 46 24 = 71 := id rfl
set_option maxRecDepth 16384 in
theorem r_73_0 : rt 73 0 = 74 := id rfl
set_option maxRecDepth 16384 in
theorem r_73_2 : rt 73 2 = 75 := id rfl
set_option maxRecDepth 16384 in
theorem r_73_3 : rt 73 3 = 83 := id rfl
set_option maxRecDepth 16384 in
theorem r_75_0 : rt 75 0 = 76 := id rfl
set_option maxRecDepth 16384 in
theorem r_75_1 : rt 75 1 = 77 := id rfl
set_option maxRecDepth 16384 in
theorem r_75_2 : rt 75 2 = 78 := id rfl
set_option maxRecDepth 16384 in
theorem r_75_3 : rt 75 3 = 79 := id rfl
set_option maxRecDepth 16384 in
theorem r_75_4 : rt 75 4 = 80 := id rfl
set_option maxRecDepth 16384 in
theorem r_75_5 : rt 75 5 = 81 := id rfl
set_option maxRecDepth 16384 in
theorem r_75_6 : rt 75 6 = 82 := id rfl
set_option maxRecDepth 16384 in
theorem r_84_0 : rt 84 0 = 85 := id rfl
set_option maxRecDepth 16384 in
theorem r_84_1 : rt 84 1 = 87 := id rfl
set_option maxRecDepth 16384 in
theorem r_84_2 : rt 84 2 = 89 := id rfl
set_option maxRecDepth 16384 in
theorem r_84_3 : rt 84 3 = 91 := id rfl
set_option maxRecDepth 16384 in
theorem r_85_2 : rt 85 2 = 86 := id rfl
set_option maxRecDepth 16384 in
theorem r_87_2 : rt 87 2 = 88 := id rfl
set_option maxRecDepth 16384 in
theorem r_89_2 : rt 89 2 = 90 := id rfl
set_option maxRecDepth 16384 in
theorem r_91_2 : rt 91 2 = 92 := id rfl
set_option maxRecDepth 16384 in
theorem r_93_0 : rt 93 0 = 95 := id rfl
set_option maxRecDepth 16384 in
theorem r_93_1 : rt 93 1 = 114 := id rfl
set_option maxRecDepth 16384 in
theorem r_93_2 : rt 93 2 = 133 := id rfl
set_option maxRecDepth 16384 in
theorem r_94_0 : rt 94 0 = 100 := id rfl
set_option maxRecDepth 16384 in
theorem r_94_1 : rt 94 1 = 119 := id rfl
set_option maxRecDepth 16384 in
theorem r_94_2 : rt 94 2 = 138 := id rfl
set_option maxRecDepth 16384 in
theorem r_95_12 : rt 95 12 = 96 := id rfl
set_option maxRecDepth 16384 in
theorem r_95_13 : rt 95 13 = 97 := id rfl
set_option maxRecDepth 16384 in
theorem r_95_14 : rt 95 14 = 98 := id rfl
set_option maxRecDepth 16384 in
theorem r_95_15 : rt 95 15 = 99 := id rfl
set_option maxRecDepth 16384 in
theorem r_100_1 : rt 100 1 = 101 := id rfl
set_option maxRecDepth 16384 in
theorem r_100_2 : rt 100 2 = 102 := id rfl
set_option maxRecDepth 16384 in
theorem r_100_5 : rt 100 5 = 103 := id rfl
set_option maxRecDepth 16384 in
theorem r_103_0 : rt 103 0 = 104 := id rfl
set_option maxRecDepth 16384 in
theorem r_103_1 : rt 103 1 = 105 := id rfl
set_option maxRecDepth 16384 in
theorem r_103_2 : rt 103 2 = 106 := id rfl
set_option maxRecDepth 16384 in
theorem r_103_3 : rt 103 3 = 107 := id rfl
set_option maxRecDepth 16384 in
theorem r_103_4 : rt 103 4 = 108 := id rfl
set_option maxRecDepth 16384 in
theorem r_103_5 : rt 103 5 = 109 := id rfl
set_option maxRecDepth 16384 in
theorem r_103_6 : rt 103 6 = 110 := id rfl
set_option maxRecDepth 16384 in
theorem r_103_7 : rt 103 7 = 111 := id rfl
set_option maxRecDepth 16384 in
theorem r_103_8 : rt 103 8 = 112 := id rfl
set_option maxRecDepth 16384 in
theorem r_103_9 : rt 103 9 = 113 := id rfl
set_option maxRecDepth 16384 in
theorem r_114_12 : rt 114 12 = 115 := id rfl
set_option maxRecDepth 16384 in
theorem r_114_13 : rt 114 13 = 116 := id rfl
set_option maxRecDepth 16384 in
theorem r_114_14 : rt 114 14 = 117 := id rfl
set_option maxRecDepth 16384 in
theorem r_114_15 : rt 114 15 = 118 := id rfl
set_option maxRecDepth 16384 in
theorem r_119_1 : rt 119 1 = 120 := id rfl
set_option maxRecDepth 16384 in
theorem r_119_2 : rt 119 2 = 121 := id rfl
set_option maxRecDepth 16384 in
theorem r_119_5 : rt 119 5 = 122 := id rfl
set_option maxRecDepth 16384 in
theorem r_122_0 : rt 122 0 = 123 := id rfl
set_option maxRecDepth 16384 in
theorem r_122_1 : rt 122 1 = 124 := id rfl
set_option maxRecDepth 16384 in
theorem r_122_2 : rt 122 2 = 125 := id rfl
set_option maxRecDepth 16384 in
theorem r_122_3 : rt 122 3 = 126 := id rfl
set_option maxRecDepth 16384 in
theorem r_122_4 : rt 122 4 = 127 := id rfl
set_option maxRecDepth 16384 in
theorem r_122_5 : rt 122 5 = 128 := id rfl
set_option maxRecDepth 16384 in
theorem r_122_6 : rt 122 6 = 129 := id rfl
set_option maxRecDepth 16384 in
theorem r_122_7 : rt 122 7 = 130 := id rfl
set_option maxRecDepth 16384 in
theorem r_122_8 : rt 122 8 = 131 := id rfl
set_option maxRecDepth 16384 in
theorem r_122_9 : rt 122 9 = 132 := id rfl
set_option maxRecDepth 16384 in
theorem r_133_12 : rt 133 12 = 134 := id rfl
set_option maxRecDepth 16384 in
theorem r_133_13 : rt 133 13 = 135 := id rfl
set_option maxRecDepth 16384 in
theorem r_133_14 : rt 133 14 = 136 := id rfl
set_option maxRecDepth 16384 in
theorem r_133_15 : rt 133 15 = 137 := id rfl
set_option maxRecDepth 16384 in
theorem r_138_1 : rt 138 1 = 139 := id rfl
set_option maxRecDepth 16384 in
theorem r_138_2 : rt 138 2 = 140 := id rfl
set_option maxRecDepth 16384 in
theorem r_138_5 : rt 138 5 = 141 := id rfl
set_option maxRecDepth 16384 in
theorem r_141_0 : rt 141 0 = 142 := id rfl
set_option maxRecDepth 16384 in
theorem r_141_1 : rt 141 1 = 143 := id rfl
set_option maxRecDepth 16384 in
theorem r_141_2 : rt 141 2 = 144 := id rfl
set_option maxRecDepth 16384 in
theorem r_141_3 : rt 141 3 = 145 := id rfl
set_option maxRecDepth 16384 in
theorem r_141_4 : rt 141 4 = 146 := id rfl
set_option maxRecDepth 16384 in
theorem r_141_5 : rt 141 5 = 147 := id rfl
set_option maxRecDepth 16384 in
theorem r_141_6 : rt 141 6 = 148 := id rfl
set_option maxRecDepth 16384 in
theorem r_141_7 : rt 141 7 = 149 := id rfl
set_option maxRecDepth 16384 in
theorem r_141_8 : rt 141 8 = 150 := id rfl
set_option maxRecDepth 16384 in
theorem r_141_9 : rt 141 9 = 151 := id rfl
set_option maxRecDepth 16384 in
theorem r_152_0 : rt 152 0 = 153 := id rfl
set_option maxRecDepth 16384 in
theorem r_152_1 : rt 152 1 = 154 := id rfl
set_option maxRecDepth 16384 in
theorem r_152_2 : rt 152 2 = 155 := id rfl
set_option maxRecDepth 16384 in
theorem r_152_3 : rt 152 3 = 156 := id rfl
set_option maxRecDepth 16384 in
theorem r_152_4 : rt 152 4 = 157 := id rfl
set_option maxRecDepth 16384 in
theorem r_152_6 : rt 152 6 = 158 := id rfl
set_option maxRecDepth 16384 in
theorem r_152_18 : rt 152 18 = 159 := id rfl
set_option maxRecDepth 16384 in
theorem r_152_19 : rt 152 19 = 160 := id rfl
set_option maxRecDepth 16384 in
theorem r_152_20 : rt 152 20 = 161 := id rfl
set_option maxRecDepth 16384 in
theorem r_152_21 : rt 152 21 = 162 := id rfl
set_option maxRecDepth 16384 in
theorem r_152_22 : rt 152 22 = 163 := id rfl
set_option maxRecDepth 16384 in
theorem r_152_23 : rt 152 23 = 164 := id rfl
set_option maxRecDepth 16384 in
theorem r_152_24 : rt 152 24 = 165 := id rfl
set_option maxRecDepth 16384 in
theorem r_152_25 : rt 152 25 = 166 := id rfl
set_option maxRecDepth 16384 in
theorem r_152_26 : rt 152 26 = 167 := id rfl
set_option maxRecDepth 16384 in
theorem r_152_27 : rt 152 27 = 168 := id rfl
set_option maxRecDepth 16384 in
theorem r_152_28 : rt 152 28 = 169 := id rfl
set_option maxRecDepth 16384 in
theorem r_152_30 : rt 152 30 = 170 := id rfl
set_option maxRecDepth 16384 in
theorem r_152_31 : rt 152 31 = 171 := id rfl
set_option maxRecDepth 16384 in
theorem r_152_32 : rt 152 32 = 172 := id rfl
set_option maxRecDepth 16384 in
theorem r_152_35 : rt 152 35 = 173 := id rfl
set_option maxRecDepth 16384 in
theorem r_152_36 : rt 152 36 = 174 := id rfl
set_option maxRecDepth 16384 in
theorem r_152_37 : rt 152 37 = 175 := id rfl
set_option maxRecDepth 16384 in
theorem r_152_38 : rt 152 38 = 176 := id rfl
