/-! the layout of all cells (by program): each cell a kind and a length; offsets of references -/
def SHL : List (Nat × Nat) := [(11, 0), (0, 0), (1, 0), (20, 4), (2, 0), (20, 240), (8, 0), (20, 60), (20, 60), (20, 240), (7, 0), (22, 8), (0, 0), (1, 0), (20, 4), (2, 0), (20, 240), (8, 0), (20, 60), (20, 60), (20, 240), (0, 0), (1, 0), (20, 4), (2, 0), (20, 240), (8, 0), (20, 60), (20, 60), (20, 240), (0, 0), (1, 0), (20, 4), (2, 0), (20, 240), (8, 0), (20, 60), (20, 60), (20, 240), (0, 0), (1, 0), (20, 4), (2, 0), (20, 240), (8, 0), (20, 60), (20, 60), (20, 240), (0, 0), (1, 0), (20, 4), (2, 0), (20, 240), (8, 0), (20, 60), (20, 60), (20, 240), (0, 0), (1, 0), (20, 4), (2, 0), (20, 240), (8, 0), (20, 60), (20, 60), (20, 240), (0, 0), (1, 0), (20, 4), (2, 0), (20, 240), (8, 0), (20, 60), (20, 60), (20, 240), (0, 0), (1, 0), (20, 4), (2, 0), (20, 240), (8, 0), (20, 60), (20, 60), (20, 240), (23, 6), (8, 0), (20, 60), (20, 60), (20, 240), (8, 0), (20, 60), (20, 60), (20, 240), (8, 0), (20, 60), (20, 60), (20, 240), (8, 0), (20, 60), (20, 60), (20, 240), (8, 0), (20, 60), (20, 60), (20, 240), (8, 0), (20, 60), (20, 60), (20, 240), (9, 0), (20, 240), (20, 240), (20, 384), (20, 960), (20, 960), (5, 0), (20, 60), (20, 60), (20, 60), (20, 60), (6, 0), (20, 240), (20, 60), (20, 60), (3, 0), (20, 360), (20, 6), (20, 240), (10, 0), (20, 60), (20, 60), (20, 60), (20, 480), (4, 0), (20, 240), (20, 240), (20, 60), (4, 0), (20, 240), (20, 240), (20, 60), (8, 0), (20, 60), (20, 60), (20, 240), (12, 0), (20, 4), (20, 64), (20, 1536), (20, 60), (20, 60), (20, 60), (20, 60), (20, 6), (20, 1440), (20, 14880), (20, 216), (20, 8), (20, 384), (20, 384), (20, 384), (20, 384), (20, 384), (20, 384), (20, 384), (20, 60), (20, 60), (20, 60), (20, 60), (20, 60), (20, 60), (20, 60), (20, 60), (20, 60), (20, 240), (20, 240), (20, 60), (20, 60), (21, 384), (20, 60)]
def shp (a : Nat) : Option (Nat × Nat) := SHL[a]?
def fkL : List (List Nat) := [[3, 5, 7], [3], [3], [3, 4, 5, 0], [3, 4, 5, 0, 0], [3, 4, 5, 6, 0, 0], [3, 4, 5, 0, 0], [3, 0, 0], [3, 4, 5, 0], [3, 4, 5, 6, 7, 1, 0, 0], [3, 4, 5, 6, 0], [3, 12, 86, 111, 117, 122, 126, 130, 135, 139, 143], [0, 3, 4, 5, 0, 6, 7, 8, 9, 10, 11, 12, 0, 0, 0, 13, 14, 0, 15, 16, 17, 0, 0, 0, 18, 19, 20, 21, 22, 23, 24, 25, 26, 27, 28, 29, 30, 31, 32, 0, 33, 34, 35, 36, 0, 0, 0, 0, 0, 0, 0]]
theorem sh_0 : shp 0 = some (11, 0) := rfl
theorem sh_1 : shp 1 = some (0, 0) := rfl
theorem sh_2 : shp 2 = some (1, 0) := rfl
theorem sh_3 : shp 3 = some (20, 4) := rfl
theorem sh_4 : shp 4 = some (2, 0) := rfl
theorem sh_5 : shp 5 = some (20, 240) := rfl
theorem sh_6 : shp 6 = some (8, 0) := rfl
theorem sh_7 : shp 7 = some (20, 60) := rfl
theorem sh_8 : shp 8 = some (20, 60) := rfl
theorem sh_9 : shp 9 = some (20, 240) := rfl
theorem sh_10 : shp 10 = some (7, 0) := rfl
theorem sh_11 : shp 11 = some (22, 8) := rfl
theorem sh_12 : shp 12 = some (0, 0) := rfl
theorem sh_13 : shp 13 = some (1, 0) := rfl
theorem sh_14 : shp 14 = some (20, 4) := rfl
theorem sh_15 : shp 15 = some (2, 0) := rfl
theorem sh_16 : shp 16 = some (20, 240) := rfl
theorem sh_17 : shp 17 = some (8, 0) := rfl
theorem sh_18 : shp 18 = some (20, 60) := rfl
theorem sh_19 : shp 19 = some (20, 60) := rfl
theorem sh_20 : shp 20 = some (20, 240) := rfl
theorem sh_21 : shp 21 = some (0, 0) := rfl
theorem sh_22 : shp 22 = some (1, 0) := rfl
theorem sh_23 : shp 23 = some (20, 4) := rfl
theorem sh_24 : shp 24 = some (2, 0) := rfl
theorem sh_25 : shp 25 = some (20, 240) := rfl
theorem sh_26 : shp 26 = some (8, 0) := rfl
theorem sh_27 : shp 27 = some (20, 60) := rfl
theorem sh_28 : shp 28 = some (20, 60) := rfl
theorem sh_29 : shp 29 = some (20, 240) := rfl
theorem sh_30 : shp 30 = some (0, 0) := rfl
theorem sh_31 : shp 31 = some (1, 0) := rfl
theorem sh_32 : shp 32 = some (20, 4) := rfl
theorem sh_33 : shp 33 = some (2, 0) := rfl
theorem sh_34 : shp 34 = some (20, 240) := rfl
theorem sh_35 : shp 35 = some (8, 0) := rfl
theorem sh_36 : shp 36 = some (20, 60) := rfl
theorem sh_37 : shp 37 = some (20, 60) := rfl
theorem sh_38 : shp 38 = some (20, 240) := rfl
theorem sh_39 : shp 39 = some (0, 0) := rfl
theorem sh_40 : shp 40 = some (1, 0) := rfl
theorem sh_41 : shp 41 = some (20, 4) := rfl
theorem sh_42 : shp 42 = some (2, 0) := rfl
theorem sh_43 : shp 43 = some (20, 240) := rfl
theorem sh_44 : shp 44 = some (8, 0) := rfl
theorem sh_45 : shp 45 = some (20, 60) := rfl
theorem sh_46 : shp 46 = some (20, 60) := rfl
theorem sh_47 : shp 47 = some (20, 240) := rfl
theorem sh_48 : shp 48 = some (0, 0) := rfl
theorem sh_49 : shp 49 = some (1, 0) := rfl
theorem sh_50 : shp 50 = some (20, 4) := rfl
theorem sh_51 : shp 51 = some (2, 0) := rfl
theorem sh_52 : shp 52 = some (20, 240) := rfl
theorem sh_53 : shp 53 = some (8, 0) := rfl
theorem sh_54 : shp 54 = some (20, 60) := rfl
theorem sh_55 : shp 55 = some (20, 60) := rfl
theorem sh_56 : shp 56 = some (20, 240) := rfl
theorem sh_57 : shp 57 = some (0, 0) := rfl
theorem sh_58 : shp 58 = some (1, 0) := rfl
theorem sh_59 : shp 59 = some (20, 4) := rfl
theorem sh_60 : shp 60 = some (2, 0) := rfl
theorem sh_61 : shp 61 = some (20, 240) := rfl
theorem sh_62 : shp 62 = some (8, 0) := rfl
theorem sh_63 : shp 63 = some (20, 60) := rfl
theorem sh_64 : shp 64 = some (20, 60) := rfl
theorem sh_65 : shp 65 = some (20, 240) := rfl
theorem sh_66 : shp 66 = some (0, 0) := rfl
theorem sh_67 : shp 67 = some (1, 0) := rfl
theorem sh_68 : shp 68 = some (20, 4) := rfl
theorem sh_69 : shp 69 = some (2, 0) := rfl
theorem sh_70 : shp 70 = some (20, 240) := rfl
theorem sh_71 : shp 71 = some (8, 0) := rfl
theorem sh_72 : shp 72 = some (20, 60) := rfl
theorem sh_73 : shp 73 = some (20, 60) := rfl
theorem sh_74 : shp 74 = some (20, 240) := rfl
theorem sh_75 : shp 75 = some (0, 0) := rfl
theorem sh_76 : shp 76 = some (1, 0) := rfl
theorem sh_77 : shp 77 = some (20, 4) := rfl
theorem sh_78 : shp 78 = some (2, 0) := rfl
theorem sh_79 : shp 79 = some (20, 240) := rfl
theorem sh_80 : shp 80 = some (8, 0) := rfl
theorem sh_81 : shp 81 = some (20, 60) := rfl
theorem sh_82 : shp 82 = some (20, 60) := rfl
theorem sh_83 : shp 83 = some (20, 240) := rfl
theorem sh_84 : shp 84 = some (23, 6) := rfl
theorem sh_85 : shp 85 = some (8, 0) := rfl
theorem sh_86 : shp 86 = some (20, 60) := rfl
theorem sh_87 : shp 87 = some (20, 60) := rfl
theorem sh_88 : shp 88 = some (20, 240) := rfl
theorem sh_89 : shp 89 = some (8, 0) := rfl
theorem sh_90 : shp 90 = some (20, 60) := rfl
theorem sh_91 : shp 91 = some (20, 60) := rfl
theorem sh_92 : shp 92 = some (20, 240) := rfl
theorem sh_93 : shp 93 = some (8, 0) := rfl
theorem sh_94 : shp 94 = some (20, 60) := rfl
theorem sh_95 : shp 95 = some (20, 60) := rfl
theorem sh_96 : shp 96 = some (20, 240) := rfl
theorem sh_97 : shp 97 = some (8, 0) := rfl
theorem sh_98 : shp 98 = some (20, 60) := rfl
theorem sh_99 : shp 99 = some (20, 60) := rfl
theorem sh_100 : shp 100 = some (20, 240) := rfl
theorem sh_101 : shp 101 = some (8, 0) := rfl
theorem sh_102 : shp 102 = some (20, 60) := rfl
theorem sh_103 : shp 103 = some (20, 60) := rfl
theorem sh_104 : shp 104 = some (20, 240) := rfl
theorem sh_105 : shp 105 = some (8, 0) := rfl
theorem sh_106 : shp 106 = some (20, 60) := rfl
theorem sh_107 : shp 107 = some (20, 60) := rfl
theorem sh_108 : shp 108 = some (20, 240) := rfl
theorem sh_109 : shp 109 = some (9, 0) := rfl
theorem sh_110 : shp 110 = some (20, 240) := rfl
theorem sh_111 : shp 111 = some (20, 240) := rfl
theorem sh_112 : shp 112 = some (20, 384) := rfl
theorem sh_113 : shp 113 = some (20, 960) := rfl
theorem sh_114 : shp 114 = some (20, 960) := rfl
theorem sh_115 : shp 115 = some (5, 0) := rfl
theorem sh_116 : shp 116 = some (20, 60) := rfl
theorem sh_117 : shp 117 = some (20, 60) := rfl
theorem sh_118 : shp 118 = some (20, 60) := rfl
theorem sh_119 : shp 119 = some (20, 60) := rfl
theorem sh_120 : shp 120 = some (6, 0) := rfl
theorem sh_121 : shp 121 = some (20, 240) := rfl
theorem sh_122 : shp 122 = some (20, 60) := rfl
theorem sh_123 : shp 123 = some (20, 60) := rfl
theorem sh_124 : shp 124 = some (3, 0) := rfl
theorem sh_125 : shp 125 = some (20, 360) := rfl
theorem sh_126 : shp 126 = some (20, 6) := rfl
theorem sh_127 : shp 127 = some (20, 240) := rfl
theorem sh_128 : shp 128 = some (10, 0) := rfl
theorem sh_129 : shp 129 = some (20, 60) := rfl
theorem sh_130 : shp 130 = some (20, 60) := rfl
theorem sh_131 : shp 131 = some (20, 60) := rfl
theorem sh_132 : shp 132 = some (20, 480) := rfl
theorem sh_133 : shp 133 = some (4, 0) := rfl
theorem sh_134 : shp 134 = some (20, 240) := rfl
theorem sh_135 : shp 135 = some (20, 240) := rfl
theorem sh_136 : shp 136 = some (20, 60) := rfl
theorem sh_137 : shp 137 = some (4, 0) := rfl
theorem sh_138 : shp 138 = some (20, 240) := rfl
theorem sh_139 : shp 139 = some (20, 240) := rfl
theorem sh_140 : shp 140 = some (20, 60) := rfl
theorem sh_141 : shp 141 = some (8, 0) := rfl
theorem sh_142 : shp 142 = some (20, 60) := rfl
theorem sh_143 : shp 143 = some (20, 60) := rfl
theorem sh_144 : shp 144 = some (20, 240) := rfl
theorem sh_145 : shp 145 = some (12, 0) := rfl
theorem sh_146 : shp 146 = some (20, 4) := rfl
theorem sh_147 : shp 147 = some (20, 64) := rfl
theorem sh_148 : shp 148 = some (20, 1536) := rfl
theorem sh_149 : shp 149 = some (20, 60) := rfl
theorem sh_150 : shp 150 = some (20, 60) := rfl
theorem sh_151 : shp 151 = some (20, 60) := rfl
theorem sh_152 : shp 152 = some (20, 60) := rfl
theorem sh_153 : shp 153 = some (20, 6) := rfl
theorem sh_154 : shp 154 = some (20, 1440) := rfl
theorem sh_155 : shp 155 = some (20, 14880) := rfl
theorem sh_156 : shp 156 = some (20, 216) := rfl
theorem sh_157 : shp 157 = some (20, 8) := rfl
theorem sh_158 : shp 158 = some (20, 384) := rfl
theorem sh_159 : shp 159 = some (20, 384) := rfl
theorem sh_160 : shp 160 = some (20, 384) := rfl
theorem sh_161 : shp 161 = some (20, 384) := rfl
theorem sh_162 : shp 162 = some (20, 384) := rfl
theorem sh_163 : shp 163 = some (20, 384) := rfl
theorem sh_164 : shp 164 = some (20, 384) := rfl
theorem sh_165 : shp 165 = some (20, 60) := rfl
theorem sh_166 : shp 166 = some (20, 60) := rfl
theorem sh_167 : shp 167 = some (20, 60) := rfl
theorem sh_168 : shp 168 = some (20, 60) := rfl
theorem sh_169 : shp 169 = some (20, 60) := rfl
theorem sh_170 : shp 170 = some (20, 60) := rfl
theorem sh_171 : shp 171 = some (20, 60) := rfl
theorem sh_172 : shp 172 = some (20, 60) := rfl
theorem sh_173 : shp 173 = some (20, 60) := rfl
theorem sh_174 : shp 174 = some (20, 240) := rfl
theorem sh_175 : shp 175 = some (20, 240) := rfl
theorem sh_176 : shp 176 = some (20, 60) := rfl
theorem sh_177 : shp 177 = some (20, 60) := rfl
theorem sh_178 : shp 178 = some (21, 384) := rfl
theorem sh_179 : shp 179 = some (20, 60) := rfl
abbrev MI : Type := MethodName × ByteArray × Nat × Option FieldType × Nat × Nat
def mX11_init : MI := (yX11_init, cX11_init, 2, none, 5, 126)
def mX11_layer : MI := (yX11_layer, cX11_layer, 3, some .int, 6, 149)
def mX11_lose : MI := (yX11_lose, cX11_lose, 3, some .int, 6, 149)
def mX11_cube : MI := (yX11_cube, cX11_cube, 6, some .int, 6, 149)
def mX11_copy : MI := (yX11_copy, cX11_copy, 8, some .int, 6, 149)
def mX11_box : MI := (yX11_box, cX11_box, 6, some .int, 6, 149)
def mX11_well : MI := (yX11_well, cX11_well, 1, some .int, 1, 20)
def mX11_skin : MI := (yX11_skin, cX11_skin, 1, some .int, 1, 20)
def mX11_square : MI := (yX11_square, cX11_square, 3, some .int, 1, 21)
def mX11_across : MI := (yX11_across, cX11_across, 4, some .int, 1, 22)
def mX11_cut : MI := (yX11_cut, cX11_cut, 5, some .int, 4, 89)
def mX11_cuts : MI := (yX11_cuts, cX11_cuts, 1, some .int, 2, 42)
def mX11_open : MI := (yX11_open, cX11_open, 2, some .int, 5, 116)
def mX11_spot : MI := (yX11_spot, cX11_spot, 5, some .int, 4, 91)
def mX11_crease : MI := (yX11_crease, cX11_crease, 9, some .int, 4, 89)
def mX11_turn : MI := (yX11_turn, cX11_turn, 2, some .int, 4, 99)
def mX11_clear : MI := (yX11_clear, cX11_clear, 2, some .int, 4, 89)
def mX11_told : MI := (yX11_told, cX11_told, 3, some .int, 2, 45)
def mX11_fold : MI := (yX11_fold, cX11_fold, 1, some .int, 5, 121)
def mX11_where : MI := (yX11_where, cX11_where, 4, some .int, 5, 121)
def mX11_closed : MI := (yX11_closed, cX11_closed, 1, some .int, 5, 121)
def mX11_form : MI := (yX11_form, cX11_form, 2, some .int, 4, 96)
def mX11_same : MI := (yX11_same, cX11_same, 1, some .int, 4, 96)
def mX11_shelve : MI := (yX11_shelve, cX11_shelve, 2, some .int, 2, 47)
def mX11_alike : MI := (yX11_alike, cX11_alike, 2, some .int, 4, 96)
def mX11_wraps : MI := (yX11_wraps, cX11_wraps, 1, some .int, 5, 117)
def mX11_way : MI := (yX11_way, cX11_way, 3, some .int, 5, 117)
def mX11_undo : MI := (yX11_undo, cX11_undo, 1, some .int, 5, 129)
def mX11_count : MI := (yX11_count, cX11_count, 2, some .int, 4, 85)
def mX11_bodyHasChanged : MI := (yX11_bodyHasChanged, cX11_bodyHasChanged, 1, none, 5, 129)
def mX11_isWithin : MI := (yX11_isWithin, cX11_isWithin, 2, some .boolean, 0, 0)
def mX11_isLayer : MI := (yX11_isLayer, cX11_isLayer, 1, some .boolean, 1, 21)
def mX11_isSwitch : MI := (yX11_isSwitch, cX11_isSwitch, 1, some .boolean, 0, 0)
def mX11_isLength : MI := (yX11_isLength, cX11_isLength, 1, some .boolean, 0, 0)
def mX11_isOnTable : MI := (yX11_isOnTable, cX11_isOnTable, 1, some .boolean, 0, 0)
def mX11_arePlaces : MI := (yX11_arePlaces, cX11_arePlaces, 2, some .boolean, 0, 0)
def mX11_toldStep : MI := (yX11_toldStep, cX11_toldStep, 1, some .int, 0, 0)
def mX11_creaseMeant : MI := (yX11_creaseMeant, cX11_creaseMeant, 1, some .int, 0, 0)
def mX12_init : MI := (yX12_init, cX12_init, 1, none, 1, 20)
def mX12_in : MI := (yX12_in, cX12_in, 3, some .boolean, 0, 0)
def mX12_write : MI := (yX12_write, cX12_write, 4, none, 0, 0)
def mX12_read : MI := (yX12_read, cX12_read, 4, none, 0, 0)
def mX12_keep : MI := (yX12_keep, cX12_keep, 1, none, 1, 23)
def mX12_undo : MI := (yX12_undo, cX12_undo, 1, some .int, 1, 23)
def mX12_change : MI := (yX12_change, cX12_change, 2, none, 2, 43)
def mX12_cubesIn : MI := (yX12_cubesIn, cX12_cubesIn, 4, some .int, 0, 0)
def mX12_layer : MI := (yX12_layer, cX12_layer, 4, some .int, 3, 64)
def mX12_lose : MI := (yX12_lose, cX12_lose, 4, some .int, 3, 64)
def mX12_cube : MI := (yX12_cube, cX12_cube, 5, some .int, 3, 64)
def mX12_copy : MI := (yX12_copy, cX12_copy, 8, some .int, 3, 64)
def mX12_box : MI := (yX12_box, cX12_box, 5, some .int, 3, 64)
def mX12_cubeAt : MI := (yX12_cubeAt, cX12_cubeAt, 4, some .int, 1, 22)
def mX12_alongOf : MI := (yX12_alongOf, cX12_alongOf, 2, some .int, 0, 0)
def mX12_padded : MI := (yX12_padded, cX12_padded, 2, some .int, 2, 45)
def mX12_step : MI := (yX12_step, cX12_step, 5, some .int, 1, 22)
def mX12_hang : MI := (yX12_hang, cX12_hang, 9, some .boolean, 3, 66)
def mX12_areJoined : MI := (yX12_areJoined, cX12_areJoined, 7, some .boolean, 0, 0)
def mX12_isCornerWell : MI := (yX12_isCornerWell, cX12_isCornerWell, 5, some .boolean, 2, 45)
def mX12_isEdgeWell : MI := (yX12_isEdgeWell, cX12_isEdgeWell, 8, some .boolean, 2, 45)
def mX12_isJoinedWell : MI := (yX12_isJoinedWell, cX12_isJoinedWell, 5, some .boolean, 3, 72)
def mX12_wellOf : MI := (yX12_wellOf, cX12_wellOf, 3, some .int, 4, 96)
def mX12_well : MI := (yX12_well, cX12_well, 1, some .int, 5, 118)
def mX12_xOf : MI := (yX12_xOf, cX12_xOf, 1, some .int, 0, 0)
def mX12_yOf : MI := (yX12_yOf, cX12_yOf, 1, some .int, 0, 0)
def mX12_zOf : MI := (yX12_zOf, cX12_zOf, 1, some .int, 0, 0)
def mX12_isCube : MI := (yX12_isCube, cX12_isCube, 7, some .boolean, 2, 45)
def mX12_cubeBy : MI := (yX12_cubeBy, cX12_cubeBy, 2, some .int, 1, 21)
def mX12_findSkin : MI := (yX12_findSkin, cX12_findSkin, 3, none, 3, 71)
def mX12_squareOf : MI := (yX12_squareOf, cX12_squareOf, 3, some .int, 0, 0)
def mX12_looks : MI := (yX12_looks, cX12_looks, 5, some .int, 0, 0)
def mX12_edgeAt : MI := (yX12_edgeAt, cX12_edgeAt, 5, some .int, 1, 24)
def mX12_findAcross : MI := (yX12_findAcross, cX12_findAcross, 11, none, 3, 71)
def mX12_skin : MI := (yX12_skin, cX12_skin, 1, some .int, 4, 93)
def mX12_square : MI := (yX12_square, cX12_square, 4, some .int, 4, 93)
def mX12_across : MI := (yX12_across, cX12_across, 4, some .int, 5, 118)
def mX12_cut : MI := (yX12_cut, cX12_cut, 5, some .int, 5, 118)
def mX12_cuts : MI := (yX12_cuts, cX12_cuts, 3, some .int, 0, 0)
def mX12_stepX : MI := (yX12_stepX, cX12_stepX, 1, some .int, 0, 0)
def mX12_stepY : MI := (yX12_stepY, cX12_stepY, 1, some .int, 0, 0)
def mX12_layAcross : MI := (yX12_layAcross, cX12_layAcross, 8, some .int, 4, 101)
def mX12_lay : MI := (yX12_lay, cX12_lay, 6, some .int, 5, 128)
def mX12_open : MI := (yX12_open, cX12_open, 5, some .int, 6, 153)
def mX12_isAhead : MI := (yX12_isAhead, cX12_isAhead, 4, some .boolean, 0, 0)
def mX12_place : MI := (yX12_place, cX12_place, 6, none, 0, 0)
def mX12_sort : MI := (yX12_sort, cX12_sort, 7, none, 1, 25)
def mX12_creases : MI := (yX12_creases, cX12_creases, 3, some .int, 0, 0)
def mX12_spotAt : MI := (yX12_spotAt, cX12_spotAt, 4, some .int, 0, 0)
def mX12_neighbour : MI := (yX12_neighbour, cX12_neighbour, 3, some .int, 1, 23)
def mX12_creaseOf : MI := (yX12_creaseOf, cX12_creaseOf, 4, some .int, 2, 45)
def mX12_setCrease : MI := (yX12_setCrease, cX12_setCrease, 5, none, 2, 45)
def mX12_isPlace : MI := (yX12_isPlace, cX12_isPlace, 2, some .boolean, 1, 22)
def mX12_spot : MI := (yX12_spot, cX12_spot, 6, some .int, 3, 69)
def mX12_toldOf : MI := (yX12_toldOf, cX12_toldOf, 1, some .int, 0, 0)
def mX12_crease : MI := (yX12_crease, cX12_crease, 7, some .int, 3, 69)
def mX12_turned : MI := (yX12_turned, cX12_turned, 4, none, 3, 68)
def mX12_turn : MI := (yX12_turn, cX12_turn, 2, some .int, 4, 91)
def mX12_clear : MI := (yX12_clear, cX12_clear, 2, some .int, 2, 43)
def mX12_told : MI := (yX12_told, cX12_told, 5, some .int, 3, 68)
def mX12_toward : MI := (yX12_toward, cX12_toward, 3, some .int, 0, 0)
def mX12_foldAcross : MI := (yX12_foldAcross, cX12_foldAcross, 17, some .int, 3, 68)
def mX12_foldOf : MI := (yX12_foldOf, cX12_foldOf, 6, some .int, 4, 104)
def mX12_fold : MI := (yX12_fold, cX12_fold, 1, some .int, 5, 129)
def mX12_where : MI := (yX12_where, cX12_where, 4, some .int, 5, 129)
def mX12_isOn : MI := (yX12_isOn, cX12_isOn, 8, some .boolean, 1, 22)
def mX12_closed : MI := (yX12_closed, cX12_closed, 4, some .int, 5, 129)
def mX12_writeForm : MI := (yX12_writeForm, cX12_writeForm, 4, none, 0, 0)
def mX12_compare : MI := (yX12_compare, cX12_compare, 4, some .int, 0, 0)
def mX12_findForm : MI := (yX12_findForm, cX12_findForm, 4, none, 4, 91)
def mX12_form : MI := (yX12_form, cX12_form, 2, some .int, 5, 114)
def mX12_same : MI := (yX12_same, cX12_same, 1, some .int, 5, 114)
def mX12_shelve : MI := (yX12_shelve, cX12_shelve, 3, some .int, 5, 114)
def mX12_alike : MI := (yX12_alike, cX12_alike, 4, some .int, 5, 114)
def mX12_wrapAcross : MI := (yX12_wrapAcross, cX12_wrapAcross, 6, some .int, 4, 101)
def mX12_doesWrap : MI := (yX12_doesWrap, cX12_doesWrap, 6, some .boolean, 5, 126)
def mX12_findWraps : MI := (yX12_findWraps, cX12_findWraps, 5, none, 6, 151)
def mX12_wraps : MI := (yX12_wraps, cX12_wraps, 1, some .int, 7, 175)
def mX12_way : MI := (yX12_way, cX12_way, 3, some .int, 7, 175)
def mX12_count : MI := (yX12_count, cX12_count, 2, some .int, 1, 23)
def mX0_init : MI := (yX0_init, cX0_init, 1, none, 2, 43)
def mX0_become : MI := (yX0_become, cX0_become, 2, none, 2, 47)
def mX1_init : MI := (yX1_init, cX1_init, 1, none, 1, 23)
def mX1_coordinate : MI := (yX1_coordinate, cX1_coordinate, 2, some .int, 0, 0)
def mX1_against : MI := (yX1_against, cX1_against, 1, some .int, 0, 0)
def mX1_step : MI := (yX1_step, cX1_step, 2, some .int, 0, 0)
def mX1_beyond : MI := (yX1_beyond, cX1_beyond, 5, some .int, 1, 21)
def mX1_has : MI := (yX1_has, cX1_has, 3, some .boolean, 0, 0)
def mX1_become : MI := (yX1_become, cX1_become, 2, none, 1, 26)
def mX1_misses : MI := (yX1_misses, cX1_misses, 2, some .boolean, 0, 0)
def mX1_bitsOf : MI := (yX1_bitsOf, cX1_bitsOf, 2, some .int, 1, 21)
def mX1_put : MI := (yX1_put, cX1_put, 3, none, 0, 0)
def mX1_take : MI := (yX1_take, cX1_take, 2, none, 0, 0)
def mX1_cubesIn : MI := (yX1_cubesIn, cX1_cubesIn, 2, some .int, 2, 42)
def mX1_cubes : MI := (yX1_cubes, cX1_cubes, 1, some .int, 3, 65)
def mX1_layersThere : MI := (yX1_layersThere, cX1_layersThere, 3, some .int, 1, 21)
def mX1_cells : MI := (yX1_cells, cX1_cells, 4, some .long, 2, 42)
def mX1_faultOf : MI := (yX1_faultOf, cX1_faultOf, 4, some .int, 3, 83)
def mX1_meetsBySquares : MI := (yX1_meetsBySquares, cX1_meetsBySquares, 9, some .boolean, 2, 55)
def mX1_hangs : MI := (yX1_hangs, cX1_hangs, 2, some .boolean, 1, 34)
def mX1_flood : MI := (yX1_flood, cX1_flood, 15, some .long, 0, 0)
def mX2_init : MI := (yX2_init, cX2_init, 1, none, 1, 20)
def mX2_become : MI := (yX2_become, cX2_become, 2, none, 1, 26)
def mX2_mend : MI := (yX2_mend, cX2_mend, 1, none, 1, 23)
def mX2_isCut : MI := (yX2_isCut, cX2_isCut, 3, some .boolean, 0, 0)
def mX2_mark : MI := (yX2_mark, cX2_mark, 5, none, 0, 0)
def mX2_marks : MI := (yX2_marks, cX2_marks, 3, some .int, 1, 20)
def mX3_init : MI := (yX3_init, cX3_init, 1, none, 1, 20)
def mX3_run : MI := (yX3_run, cX3_run, 3, some .int, 4, 99)
def mX3_poseOf : MI := (yX3_poseOf, cX3_poseOf, 3, some .int, 0, 0)
def mX3_layAll : MI := (yX3_layAll, cX3_layAll, 7, none, 3, 73)
def mX3_heading : MI := (yX3_heading, cX3_heading, 4, some .int, 1, 22)
def mX3_cross : MI := (yX3_cross, cX3_cross, 9, none, 2, 45)
def mX3_agrees : MI := (yX3_agrees, cX3_agrees, 6, some .boolean, 3, 73)
def mX3_liesBeside : MI := (yX3_liesBeside, cX3_liesBeside, 3, some .boolean, 1, 22)
def mX3_overlaps : MI := (yX3_overlaps, cX3_overlaps, 3, some .boolean, 1, 22)
def mX3_leavesNoGap : MI := (yX3_leavesNoGap, cX3_leavesNoGap, 3, some .boolean, 3, 70)
def mX3_rim : MI := (yX3_rim, cX3_rim, 6, some .int, 2, 45)
def mX3_timesAmongRims : MI := (yX3_timesAmongRims, cX3_timesAmongRims, 4, some .int, 0, 0)
def mX4_init : MI := (yX4_init, cX4_init, 1, none, 1, 20)
def mX4_length : MI := (yX4_length, cX4_length, 1, some .int, 0, 0)
def mX4_number : MI := (yX4_number, cX4_number, 2, some .int, 0, 0)
def mX4_timesWritten : MI := (yX4_timesWritten, cX4_timesWritten, 1, some .int, 0, 0)
def mX4_matches : MI := (yX4_matches, cX4_matches, 2, some .boolean, 1, 23)
def mX4_take : MI := (yX4_take, cX4_take, 4, none, 3, 73)
def mX4_compare : MI := (yX4_compare, cX4_compare, 4, some .int, 0, 0)
def mX4_write : MI := (yX4_write, cX4_write, 9, none, 2, 45)
def mX4_insertKey : MI := (yX4_insertKey, cX4_insertKey, 4, none, 0, 0)
def mX5_init : MI := (yX5_init, cX5_init, 1, none, 1, 20)
def mX5_lay : MI := (yX5_lay, cX5_lay, 3, some .int, 4, 94)
def mX5_isWithinReach : MI := (yX5_isWithinReach, cX5_isWithinReach, 2, some .boolean, 1, 20)
def mX5_drawOn : MI := (yX5_drawOn, cX5_drawOn, 10, none, 3, 73)
def mX5_layAll : MI := (yX5_layAll, cX5_layAll, 8, none, 2, 45)
def mX5_layOne : MI := (yX5_layOne, cX5_layOne, 5, none, 0, 0)
def mX5_turnBeside : MI := (yX5_turnBeside, cX5_turnBeside, 4, some .int, 1, 22)
def mX5_agrees : MI := (yX5_agrees, cX5_agrees, 5, some .boolean, 3, 70)
def mX5_liesBeside : MI := (yX5_liesBeside, cX5_liesBeside, 6, some .boolean, 2, 45)
def mX5_overlaps : MI := (yX5_overlaps, cX5_overlaps, 3, some .boolean, 0, 0)
def mX6_init : MI := (yX6_init, cX6_init, 1, none, 1, 20)
def mX6_trace : MI := (yX6_trace, cX6_trace, 5, none, 3, 68)
def mX6_reachAll : MI := (yX6_reachAll, cX6_reachAll, 5, none, 1, 23)
def mX6_hangTogether : MI := (yX6_hangTogether, cX6_hangTogether, 1, some .boolean, 0, 0)
def mX6_next : MI := (yX6_next, cX6_next, 3, some .int, 0, 0)
def mX6_inOrder : MI := (yX6_inOrder, cX6_inOrder, 2, some .int, 0, 0)
def mX6_reachedFrom : MI := (yX6_reachedFrom, cX6_reachedFrom, 2, some .int, 0, 0)
def mX6_reachedBy : MI := (yX6_reachedBy, cX6_reachedBy, 2, some .int, 0, 0)
def mX7_init : MI := (yX7_init, cX7_init, 2, none, 3, 63)
def mX7_size : MI := (yX7_size, cX7_size, 1, some .int, 0, 0)
def mX7_keep : MI := (yX7_keep, cX7_keep, 2, none, 3, 68)
def mX7_giveBack : MI := (yX7_giveBack, cX7_giveBack, 2, none, 3, 68)
def mX8_init : MI := (yX8_init, cX8_init, 1, none, 1, 20)
def mX8_stepX : MI := (yX8_stepX, cX8_stepX, 1, some .int, 0, 0)
def mX8_stepY : MI := (yX8_stepY, cX8_stepY, 1, some .int, 0, 0)
def mX8_mirrored : MI := (yX8_mirrored, cX8_mirrored, 1, some .int, 0, 0)
def mX8_size : MI := (yX8_size, cX8_size, 1, some .int, 0, 0)
def mX8_xOf : MI := (yX8_xOf, cX8_xOf, 2, some .int, 0, 0)
def mX8_yOf : MI := (yX8_yOf, cX8_yOf, 2, some .int, 0, 0)
def mX8_creaseAt : MI := (yX8_creaseAt, cX8_creaseAt, 3, some .int, 0, 0)
def mX8_creasesOf : MI := (yX8_creasesOf, cX8_creasesOf, 4, some .int, 1, 22)
def mX8_creaseCount : MI := (yX8_creaseCount, cX8_creaseCount, 3, some .int, 2, 45)
def mX8_drop : MI := (yX8_drop, cX8_drop, 1, none, 0, 0)
def mX8_become : MI := (yX8_become, cX8_become, 2, none, 1, 26)
def mX8_find : MI := (yX8_find, cX8_find, 4, some .int, 1, 23)
def mX8_beside : MI := (yX8_beside, cX8_beside, 3, some .int, 2, 46)
def mX8_firstNotBefore : MI := (yX8_firstNotBefore, cX8_firstNotBefore, 4, some .int, 0, 0)
def mX8_add : MI := (yX8_add, cX8_add, 5, some .int, 2, 49)
def mX8_remove : MI := (yX8_remove, cX8_remove, 4, none, 3, 68)
def mX8_shift : MI := (yX8_shift, cX8_shift, 4, none, 1, 26)
def mX8_join : MI := (yX8_join, cX8_join, 5, none, 0, 0)
def mX8_becomeTurned : MI := (yX8_becomeTurned, cX8_becomeTurned, 7, none, 3, 73)
def mX8_turnedX : MI := (yX8_turnedX, cX8_turnedX, 5, some .int, 1, 20)
def mX8_turnedY : MI := (yX8_turnedY, cX8_turnedY, 5, some .int, 1, 20)
def mX8_turnedCrease : MI := (yX8_turnedCrease, cX8_turnedCrease, 6, some .int, 1, 20)
def mX9_init : MI := (yX9_init, cX9_init, 1, none, 4, 106)
def mX9_take : MI := (yX9_take, cX9_take, 4, none, 4, 106)
def mX9_fault : MI := (yX9_fault, cX9_fault, 1, some .int, 0, 0)
def mX9_size : MI := (yX9_size, cX9_size, 1, some .int, 0, 0)
def mX9_placeOf : MI := (yX9_placeOf, cX9_placeOf, 2, some .int, 0, 0)
def mX9_directionOf : MI := (yX9_directionOf, cX9_directionOf, 2, some .int, 0, 0)
def mX9_squareAcross : MI := (yX9_squareAcross, cX9_squareAcross, 3, some .int, 0, 0)
def mX9_sideAcross : MI := (yX9_sideAcross, cX9_sideAcross, 3, some .int, 0, 0)
def mX9_bendAcross : MI := (yX9_bendAcross, cX9_bendAcross, 3, some .int, 0, 0)
def mX9_numberSquares : MI := (yX9_numberSquares, cX9_numberSquares, 4, none, 2, 45)
def mX9_lead : MI := (yX9_lead, cX9_lead, 8, none, 2, 49)
def mX9_note : MI := (yX9_note, cX9_note, 8, none, 1, 22)
def mX9_sideLooking : MI := (yX9_sideLooking, cX9_sideLooking, 3, some .int, 0, 0)
def mX10_init : MI := (yX10_init, cX10_init, 1, none, 1, 20)
def mX10_ways : MI := (yX10_ways, cX10_ways, 1, some .int, 0, 0)
def mX10_squareOf : MI := (yX10_squareOf, cX10_squareOf, 2, some .int, 0, 0)
def mX10_turnOf : MI := (yX10_turnOf, cX10_turnOf, 2, some .int, 0, 0)
def mX10_isTurnedOver : MI := (yX10_isTurnedOver, cX10_isTurnedOver, 2, some .boolean, 0, 0)
def mX10_seek : MI := (yX10_seek, cX10_seek, 6, none, 4, 92)
def mX10_fits : MI := (yX10_fits, cX10_fits, 9, some .boolean, 2, 49)
def mX10_lay : MI := (yX10_lay, cX10_lay, 3, none, 0, 0)
def mX10_landing : MI := (yX10_landing, cX10_landing, 8, some .int, 1, 22)
def mJ6_bitCount_0f7a4 : MI := (yJ6_bitCount_0f7a4, cJ6_bitCount_0f7a4, 1, some .int, 0, 0)
def mJ13_bitCount_95d88 : MI := (yJ13_bitCount_95d88, cJ13_bitCount_95d88, 2, some .int, 0, 0)
def mJ9_abs_0f7a4 : MI := (yJ9_abs_0f7a4, cJ9_abs_0f7a4, 1, some .int, 0, 0)
def mJ9_min_7cf53 : MI := (yJ9_min_7cf53, cJ9_min_7cf53, 2, some .int, 0, 0)
def mJ7_fill_53178 : MI := (yJ7_fill_53178, cJ7_fill_53178, 4, none, 0, 0)
