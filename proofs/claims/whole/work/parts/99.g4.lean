def shk_133 : List Shp := shC ++ [.inr (9, [(0, 0), (0, 0), (0, 0), (0, 0), (0, 0), (0, 0), (0, 0), (0, 0), (4, 0), (4, 0), (4, 0), (4, 0), (4, 0), (4, 0), (4, 0), (4, 0), (4, 0), (4, 0), (4, 0), (0, 0), (4, 0), (4, 0), (1, 0), (0, 0), (0, 0), (0, 0), (0, 0), (0, 0), (4, 0), (4, 0), (4, 0), (0, 0), (4, 0), (4, 0), (4, 0), (4, 0), (4, 0), (0, 0), (4, 0), (4, 0), (4, 0), (0, 0), (4, 0), (0, 0), (0, 0), (0, 0), (4, 0), (4, 0), (4, 0), (4, 0)])]
theorem os_133 : okS shk_133 68 = true := by decide +kernel
def shk_134 : List Shp := shk_133 ++ [.inl (0, 500, [])]
theorem os_134 : okS shk_134 69 = true := by decide +kernel
def shk_135 : List Shp := shk_134.set 67 (.inr (9, [(0, 0), (0, 0), (0, 0), (0, 0), (0, 0), (0, 0), (0, 0), (0, 0), (3, 68), (4, 0), (4, 0), (4, 0), (4, 0), (4, 0), (4, 0), (4, 0), (4, 0), (4, 0), (4, 0), (0, 0), (4, 0), (4, 0), (1, 0), (0, 0), (0, 0), (0, 0), (0, 0), (0, 0), (4, 0), (4, 0), (4, 0), (0, 0), (4, 0), (4, 0), (4, 0), (4, 0), (4, 0), (0, 0), (4, 0), (4, 0), (4, 0), (0, 0), (4, 0), (0, 0), (0, 0), (0, 0), (4, 0), (4, 0), (4, 0), (4, 0)]))
theorem os_135 : okS shk_135 69 = true := by decide +kernel
def shk_136 : List Shp := shk_135 ++ [.inl (0, 2, [])]
theorem os_136 : okS shk_136 70 = true := by decide +kernel
def shk_137 : List Shp := shk_136.set 67 (.inr (9, [(0, 0), (0, 0), (0, 0), (0, 0), (0, 0), (0, 0), (0, 0), (0, 0), (3, 68), (3, 69), (4, 0), (4, 0), (4, 0), (4, 0), (4, 0), (4, 0), (4, 0), (4, 0), (4, 0), (0, 0), (4, 0), (4, 0), (1, 0), (0, 0), (0, 0), (0, 0), (0, 0), (0, 0), (4, 0), (4, 0), (4, 0), (0, 0), (4, 0), (4, 0), (4, 0), (4, 0), (4, 0), (0, 0), (4, 0), (4, 0), (4, 0), (0, 0), (4, 0), (0, 0), (0, 0), (0, 0), (4, 0), (4, 0), (4, 0), (4, 0)]))
theorem os_137 : okS shk_137 70 = true := by decide +kernel
def shk_138 : List Shp := shk_137 ++ [.inl (0, 2, [])]
theorem os_138 : okS shk_138 71 = true := by decide +kernel
def shk_139 : List Shp := shk_138.set 67 (.inr (9, [(0, 0), (0, 0), (0, 0), (0, 0), (0, 0), (0, 0), (0, 0), (0, 0), (3, 68), (3, 69), (3, 70), (4, 0), (4, 0), (4, 0), (4, 0), (4, 0), (4, 0), (4, 0), (4, 0), (0, 0), (4, 0), (4, 0), (1, 0), (0, 0), (0, 0), (0, 0), (0, 0), (0, 0), (4, 0), (4, 0), (4, 0), (0, 0), (4, 0), (4, 0), (4, 0), (4, 0), (4, 0), (0, 0), (4, 0), (4, 0), (4, 0), (0, 0), (4, 0), (0, 0), (0, 0), (0, 0), (4, 0), (4, 0), (4, 0), (4, 0)]))
theorem os_139 : okS shk_139 71 = true := by decide +kernel
def shk_140 : List Shp := shk_139 ++ [.inl (1, 10, [])]
theorem os_140 : okS shk_140 72 = true := by decide +kernel
def shk_141 : List Shp := shk_140.set 67 (.inr (9, [(0, 0), (0, 0), (0, 0), (0, 0), (0, 0), (0, 0), (0, 0), (0, 0), (3, 68), (3, 69), (3, 70), (3, 71), (4, 0), (4, 0), (4, 0), (4, 0), (4, 0), (4, 0), (4, 0), (0, 0), (4, 0), (4, 0), (1, 0), (0, 0), (0, 0), (0, 0), (0, 0), (0, 0), (4, 0), (4, 0), (4, 0), (0, 0), (4, 0), (4, 0), (4, 0), (4, 0), (4, 0), (0, 0), (4, 0), (4, 0), (4, 0), (0, 0), (4, 0), (0, 0), (0, 0), (0, 0), (4, 0), (4, 0), (4, 0), (4, 0)]))
theorem os_141 : okS shk_141 72 = true := by decide +kernel
def shk_142 : List Shp := shk_141 ++ [.inl (1, 10, [])]
theorem os_142 : okS shk_142 73 = true := by decide +kernel
def shk_143 : List Shp := shk_142.set 67 (.inr (9, [(0, 0), (0, 0), (0, 0), (0, 0), (0, 0), (0, 0), (0, 0), (0, 0), (3, 68), (3, 69), (3, 70), (3, 71), (3, 72), (4, 0), (4, 0), (4, 0), (4, 0), (4, 0), (4, 0), (0, 0), (4, 0), (4, 0), (1, 0), (0, 0), (0, 0), (0, 0), (0, 0), (0, 0), (4, 0), (4, 0), (4, 0), (0, 0), (4, 0), (4, 0), (4, 0), (4, 0), (4, 0), (0, 0), (4, 0), (4, 0), (4, 0), (0, 0), (4, 0), (0, 0), (0, 0), (0, 0), (4, 0), (4, 0), (4, 0), (4, 0)]))
theorem os_143 : okS shk_143 73 = true := by decide +kernel
def shk_144 : List Shp := shk_143 ++ [.inl (4, 6, [74, 75, 76, 77, 78, 79]), .inl (0, 8, []), .inl (0, 8, []), .inl (0, 8, []), .inl (0, 8, []), .inl (0, 8, []), .inl (0, 8, [])]
theorem os_144 : okS shk_144 80 = true := by decide +kernel
def shk_145 : List Shp := shk_144.set 67 (.inr (9, [(0, 0), (0, 0), (0, 0), (0, 0), (0, 0), (0, 0), (0, 0), (0, 0), (3, 68), (3, 69), (3, 70), (3, 71), (3, 72), (3, 73), (4, 0), (4, 0), (4, 0), (4, 0), (4, 0), (0, 0), (4, 0), (4, 0), (1, 0), (0, 0), (0, 0), (0, 0), (0, 0), (0, 0), (4, 0), (4, 0), (4, 0), (0, 0), (4, 0), (4, 0), (4, 0), (4, 0), (4, 0), (0, 0), (4, 0), (4, 0), (4, 0), (0, 0), (4, 0), (0, 0), (0, 0), (0, 0), (4, 0), (4, 0), (4, 0), (4, 0)]))
theorem os_145 : okS shk_145 80 = true := by decide +kernel
def shk_146 : List Shp := shk_145 ++ [.inl (4, 6, [81, 82, 83, 84, 85, 86]), .inl (0, 8, []), .inl (0, 8, []), .inl (0, 8, []), .inl (0, 8, []), .inl (0, 8, []), .inl (0, 8, [])]
theorem os_146 : okS shk_146 87 = true := by decide +kernel
def shk_147 : List Shp := shk_146.set 67 (.inr (9, [(0, 0), (0, 0), (0, 0), (0, 0), (0, 0), (0, 0), (0, 0), (0, 0), (3, 68), (3, 69), (3, 70), (3, 71), (3, 72), (3, 73), (3, 80), (4, 0), (4, 0), (4, 0), (4, 0), (0, 0), (4, 0), (4, 0), (1, 0), (0, 0), (0, 0), (0, 0), (0, 0), (0, 0), (4, 0), (4, 0), (4, 0), (0, 0), (4, 0), (4, 0), (4, 0), (4, 0), (4, 0), (0, 0), (4, 0), (4, 0), (4, 0), (0, 0), (4, 0), (0, 0), (0, 0), (0, 0), (4, 0), (4, 0), (4, 0), (4, 0)]))
theorem os_147 : okS shk_147 87 = true := by decide +kernel
def shk_148 : List Shp := shk_147 ++ [.inl (0, 6, [])]
theorem os_148 : okS shk_148 88 = true := by decide +kernel
def shk_149 : List Shp := shk_148.set 67 (.inr (9, [(0, 0), (0, 0), (0, 0), (0, 0), (0, 0), (0, 0), (0, 0), (0, 0), (3, 68), (3, 69), (3, 70), (3, 71), (3, 72), (3, 73), (3, 80), (3, 87), (4, 0), (4, 0), (4, 0), (0, 0), (4, 0), (4, 0), (1, 0), (0, 0), (0, 0), (0, 0), (0, 0), (0, 0), (4, 0), (4, 0), (4, 0), (0, 0), (4, 0), (4, 0), (4, 0), (4, 0), (4, 0), (0, 0), (4, 0), (4, 0), (4, 0), (0, 0), (4, 0), (0, 0), (0, 0), (0, 0), (4, 0), (4, 0), (4, 0), (4, 0)]))
theorem os_149 : okS shk_149 88 = true := by decide +kernel
def shk_150 : List Shp := shk_149 ++ [.inl (0, 6, [])]
theorem os_150 : okS shk_150 89 = true := by decide +kernel
def shk_151 : List Shp := shk_150.set 67 (.inr (9, [(0, 0), (0, 0), (0, 0), (0, 0), (0, 0), (0, 0), (0, 0), (0, 0), (3, 68), (3, 69), (3, 70), (3, 71), (3, 72), (3, 73), (3, 80), (3, 87), (3, 88), (4, 0), (4, 0), (0, 0), (4, 0), (4, 0), (1, 0), (0, 0), (0, 0), (0, 0), (0, 0), (0, 0), (4, 0), (4, 0), (4, 0), (0, 0), (4, 0), (4, 0), (4, 0), (4, 0), (4, 0), (0, 0), (4, 0), (4, 0), (4, 0), (0, 0), (4, 0), (0, 0), (0, 0), (0, 0), (4, 0), (4, 0), (4, 0), (4, 0)]))
theorem os_151 : okS shk_151 89 = true := by decide +kernel
def shk_152 : List Shp := shk_151 ++ [.inl (0, 10, [])]
theorem os_152 : okS shk_152 90 = true := by decide +kernel
def shk_153 : List Shp := shk_152.set 67 (.inr (9, [(0, 0), (0, 0), (0, 0), (0, 0), (0, 0), (0, 0), (0, 0), (0, 0), (3, 68), (3, 69), (3, 70), (3, 71), (3, 72), (3, 73), (3, 80), (3, 87), (3, 88), (3, 89), (4, 0), (0, 0), (4, 0), (4, 0), (1, 0), (0, 0), (0, 0), (0, 0), (0, 0), (0, 0), (4, 0), (4, 0), (4, 0), (0, 0), (4, 0), (4, 0), (4, 0), (4, 0), (4, 0), (0, 0), (4, 0), (4, 0), (4, 0), (0, 0), (4, 0), (0, 0), (0, 0), (0, 0), (4, 0), (4, 0), (4, 0), (4, 0)]))
theorem os_153 : okS shk_153 90 = true := by decide +kernel
def shk_154 : List Shp := shk_153 ++ [.inl (0, 10, [])]
theorem os_154 : okS shk_154 91 = true := by decide +kernel
def shk_155 : List Shp := shk_154.set 67 (.inr (9, [(0, 0), (0, 0), (0, 0), (0, 0), (0, 0), (0, 0), (0, 0), (0, 0), (3, 68), (3, 69), (3, 70), (3, 71), (3, 72), (3, 73), (3, 80), (3, 87), (3, 88), (3, 89), (3, 90), (0, 0), (4, 0), (4, 0), (1, 0), (0, 0), (0, 0), (0, 0), (0, 0), (0, 0), (4, 0), (4, 0), (4, 0), (0, 0), (4, 0), (4, 0), (4, 0), (4, 0), (4, 0), (0, 0), (4, 0), (4, 0), (4, 0), (0, 0), (4, 0), (0, 0), (0, 0), (0, 0), (4, 0), (4, 0), (4, 0), (4, 0)]))
theorem os_155 : okS shk_155 91 = true := by decide +kernel
def shk_156 : List Shp := shk_155 ++ [.inl (1, 16, [])]
theorem os_156 : okS shk_156 92 = true := by decide +kernel
def shk_157 : List Shp := shk_156.set 67 (.inr (9, [(0, 0), (0, 0), (0, 0), (0, 0), (0, 0), (0, 0), (0, 0), (0, 0), (3, 68), (3, 69), (3, 70), (3, 71), (3, 72), (3, 73), (3, 80), (3, 87), (3, 88), (3, 89), (3, 90), (0, 0), (3, 91), (4, 0), (1, 0), (0, 0), (0, 0), (0, 0), (0, 0), (0, 0), (4, 0), (4, 0), (4, 0), (0, 0), (4, 0), (4, 0), (4, 0), (4, 0), (4, 0), (0, 0), (4, 0), (4, 0), (4, 0), (0, 0), (4, 0), (0, 0), (0, 0), (0, 0), (4, 0), (4, 0), (4, 0), (4, 0)]))
theorem os_157 : okS shk_157 92 = true := by decide +kernel
def shk_158 : List Shp := shk_157 ++ [.inl (0, 16, [])]
theorem os_158 : okS shk_158 93 = true := by decide +kernel
def shk_159 : List Shp := shk_158.set 67 (.inr (9, [(0, 0), (0, 0), (0, 0), (0, 0), (0, 0), (0, 0), (0, 0), (0, 0), (3, 68), (3, 69), (3, 70), (3, 71), (3, 72), (3, 73), (3, 80), (3, 87), (3, 88), (3, 89), (3, 90), (0, 0), (3, 91), (3, 92), (1, 0), (0, 0), (0, 0), (0, 0), (0, 0), (0, 0), (4, 0), (4, 0), (4, 0), (0, 0), (4, 0), (4, 0), (4, 0), (4, 0), (4, 0), (0, 0), (4, 0), (4, 0), (4, 0), (0, 0), (4, 0), (0, 0), (0, 0), (0, 0), (4, 0), (4, 0), (4, 0), (4, 0)]))
theorem os_159 : okS shk_159 93 = true := by decide +kernel
def shk_160 : List Shp := shk_159 ++ [.inl (0, 40, [])]
theorem os_160 : okS shk_160 94 = true := by decide +kernel
def shk_161 : List Shp := shk_160.set 67 (.inr (9, [(0, 0), (0, 0), (0, 0), (0, 0), (0, 0), (0, 0), (0, 0), (0, 0), (3, 68), (3, 69), (3, 70), (3, 71), (3, 72), (3, 73), (3, 80), (3, 87), (3, 88), (3, 89), (3, 90), (0, 0), (3, 91), (3, 92), (1, 0), (0, 0), (0, 0), (0, 0), (0, 0), (0, 0), (3, 93), (4, 0), (4, 0), (0, 0), (4, 0), (4, 0), (4, 0), (4, 0), (4, 0), (0, 0), (4, 0), (4, 0), (4, 0), (0, 0), (4, 0), (0, 0), (0, 0), (0, 0), (4, 0), (4, 0), (4, 0), (4, 0)]))
theorem os_161 : okS shk_161 94 = true := by decide +kernel
def shk_162 : List Shp := shk_161 ++ [.inl (1, 8, [])]
theorem os_162 : okS shk_162 95 = true := by decide +kernel
def shk_163 : List Shp := shk_162.set 67 (.inr (9, [(0, 0), (0, 0), (0, 0), (0, 0), (0, 0), (0, 0), (0, 0), (0, 0), (3, 68), (3, 69), (3, 70), (3, 71), (3, 72), (3, 73), (3, 80), (3, 87), (3, 88), (3, 89), (3, 90), (0, 0), (3, 91), (3, 92), (1, 0), (0, 0), (0, 0), (0, 0), (0, 0), (0, 0), (3, 93), (3, 94), (4, 0), (0, 0), (4, 0), (4, 0), (4, 0), (4, 0), (4, 0), (0, 0), (4, 0), (4, 0), (4, 0), (0, 0), (4, 0), (0, 0), (0, 0), (0, 0), (4, 0), (4, 0), (4, 0), (4, 0)]))
theorem os_163 : okS shk_163 95 = true := by decide +kernel
def shk_164 : List Shp := shk_163 ++ [.inl (5, 3, [96, 97, 98]), .inl (1, 60, []), .inl (1, 60, []), .inl (1, 60, [])]
theorem os_164 : okS shk_164 99 = true := by decide +kernel
def shk_165 : List Shp := shk_164.set 67 (.inr (9, [(0, 0), (0, 0), (0, 0), (0, 0), (0, 0), (0, 0), (0, 0), (0, 0), (3, 68), (3, 69), (3, 70), (3, 71), (3, 72), (3, 73), (3, 80), (3, 87), (3, 88), (3, 89), (3, 90), (0, 0), (3, 91), (3, 92), (1, 0), (0, 0), (0, 0), (0, 0), (0, 0), (0, 0), (3, 93), (3, 94), (3, 95), (0, 0), (4, 0), (4, 0), (4, 0), (4, 0), (4, 0), (0, 0), (4, 0), (4, 0), (4, 0), (0, 0), (4, 0), (0, 0), (0, 0), (0, 0), (4, 0), (4, 0), (4, 0), (4, 0)]))
theorem os_165 : okS shk_165 99 = true := by decide +kernel
def shk_166 : List Shp := shk_165 ++ [.inl (1, 32, [])]
theorem os_166 : okS shk_166 100 = true := by decide +kernel
def shk_167 : List Shp := shk_166.set 67 (.inr (9, [(0, 0), (0, 0), (0, 0), (0, 0), (0, 0), (0, 0), (0, 0), (0, 0), (3, 68), (3, 69), (3, 70), (3, 71), (3, 72), (3, 73), (3, 80), (3, 87), (3, 88), (3, 89), (3, 90), (0, 0), (3, 91), (3, 92), (1, 0), (0, 0), (0, 0), (0, 0), (0, 0), (0, 0), (3, 93), (3, 94), (3, 95), (0, 0), (3, 99), (4, 0), (4, 0), (4, 0), (4, 0), (0, 0), (4, 0), (4, 0), (4, 0), (0, 0), (4, 0), (0, 0), (0, 0), (0, 0), (4, 0), (4, 0), (4, 0), (4, 0)]))
theorem os_167 : okS shk_167 100 = true := by decide +kernel
def shk_168 : List Shp := shk_167 ++ [.inl (0, 64, [])]
theorem os_168 : okS shk_168 101 = true := by decide +kernel
def shk_169 : List Shp := shk_168.set 67 (.inr (9, [(0, 0), (0, 0), (0, 0), (0, 0), (0, 0), (0, 0), (0, 0), (0, 0), (3, 68), (3, 69), (3, 70), (3, 71), (3, 72), (3, 73), (3, 80), (3, 87), (3, 88), (3, 89), (3, 90), (0, 0), (3, 91), (3, 92), (1, 0), (0, 0), (0, 0), (0, 0), (0, 0), (0, 0), (3, 93), (3, 94), (3, 95), (0, 0), (3, 99), (3, 100), (4, 0), (4, 0), (4, 0), (0, 0), (4, 0), (4, 0), (4, 0), (0, 0), (4, 0), (0, 0), (0, 0), (0, 0), (4, 0), (4, 0), (4, 0), (4, 0)]))
theorem os_169 : okS shk_169 101 = true := by decide +kernel
def shk_170 : List Shp := shk_169 ++ [.inl (0, 64, [])]
theorem os_170 : okS shk_170 102 = true := by decide +kernel
def shk_171 : List Shp := shk_170.set 67 (.inr (9, [(0, 0), (0, 0), (0, 0), (0, 0), (0, 0), (0, 0), (0, 0), (0, 0), (3, 68), (3, 69), (3, 70), (3, 71), (3, 72), (3, 73), (3, 80), (3, 87), (3, 88), (3, 89), (3, 90), (0, 0), (3, 91), (3, 92), (1, 0), (0, 0), (0, 0), (0, 0), (0, 0), (0, 0), (3, 93), (3, 94), (3, 95), (0, 0), (3, 99), (3, 100), (3, 101), (4, 0), (4, 0), (0, 0), (4, 0), (4, 0), (4, 0), (0, 0), (4, 0), (0, 0), (0, 0), (0, 0), (4, 0), (4, 0), (4, 0), (4, 0)]))
theorem os_171 : okS shk_171 102 = true := by decide +kernel
def shk_172 : List Shp := shk_171 ++ [.inl (0, 32, [])]
theorem os_172 : okS shk_172 103 = true := by decide +kernel
def shk_173 : List Shp := shk_172.set 67 (.inr (9, [(0, 0), (0, 0), (0, 0), (0, 0), (0, 0), (0, 0), (0, 0), (0, 0), (3, 68), (3, 69), (3, 70), (3, 71), (3, 72), (3, 73), (3, 80), (3, 87), (3, 88), (3, 89), (3, 90), (0, 0), (3, 91), (3, 92), (1, 0), (0, 0), (0, 0), (0, 0), (0, 0), (0, 0), (3, 93), (3, 94), (3, 95), (0, 0), (3, 99), (3, 100), (3, 101), (3, 102), (4, 0), (0, 0), (4, 0), (4, 0), (4, 0), (0, 0), (4, 0), (0, 0), (0, 0), (0, 0), (4, 0), (4, 0), (4, 0), (4, 0)]))
theorem os_173 : okS shk_173 103 = true := by decide +kernel
def shk_174 : List Shp := shk_173 ++ [.inl (2, 32, [])]
theorem os_174 : okS shk_174 104 = true := by decide +kernel
def shk_175 : List Shp := shk_174.set 67 (.inr (9, [(0, 0), (0, 0), (0, 0), (0, 0), (0, 0), (0, 0), (0, 0), (0, 0), (3, 68), (3, 69), (3, 70), (3, 71), (3, 72), (3, 73), (3, 80), (3, 87), (3, 88), (3, 89), (3, 90), (0, 0), (3, 91), (3, 92), (1, 0), (0, 0), (0, 0), (0, 0), (0, 0), (0, 0), (3, 93), (3, 94), (3, 95), (0, 0), (3, 99), (3, 100), (3, 101), (3, 102), (3, 103), (0, 0), (4, 0), (4, 0), (4, 0), (0, 0), (4, 0), (0, 0), (0, 0), (0, 0), (4, 0), (4, 0), (4, 0), (4, 0)]))
theorem os_175 : okS shk_175 104 = true := by decide +kernel
def shk_176 : List Shp := shk_175 ++ [.inl (0, 64, [])]
theorem os_176 : okS shk_176 105 = true := by decide +kernel
def shk_177 : List Shp := shk_176.set 67 (.inr (9, [(0, 0), (0, 0), (0, 0), (0, 0), (0, 0), (0, 0), (0, 0), (0, 0), (3, 68), (3, 69), (3, 70), (3, 71), (3, 72), (3, 73), (3, 80), (3, 87), (3, 88), (3, 89), (3, 90), (0, 0), (3, 91), (3, 92), (1, 0), (0, 0), (0, 0), (0, 0), (0, 0), (0, 0), (3, 93), (3, 94), (3, 95), (0, 0), (3, 99), (3, 100), (3, 101), (3, 102), (3, 103), (0, 0), (3, 104), (4, 0), (4, 0), (0, 0), (4, 0), (0, 0), (0, 0), (0, 0), (4, 0), (4, 0), (4, 0), (4, 0)]))
theorem os_177 : okS shk_177 105 = true := by decide +kernel
def shk_178 : List Shp := shk_177 ++ [.inl (0, 64, [])]
theorem os_178 : okS shk_178 106 = true := by decide +kernel
def shk_179 : List Shp := shk_178.set 67 (.inr (9, [(0, 0), (0, 0), (0, 0), (0, 0), (0, 0), (0, 0), (0, 0), (0, 0), (3, 68), (3, 69), (3, 70), (3, 71), (3, 72), (3, 73), (3, 80), (3, 87), (3, 88), (3, 89), (3, 90), (0, 0), (3, 91), (3, 92), (1, 0), (0, 0), (0, 0), (0, 0), (0, 0), (0, 0), (3, 93), (3, 94), (3, 95), (0, 0), (3, 99), (3, 100), (3, 101), (3, 102), (3, 103), (0, 0), (3, 104), (3, 105), (4, 0), (0, 0), (4, 0), (0, 0), (0, 0), (0, 0), (4, 0), (4, 0), (4, 0), (4, 0)]))
theorem os_179 : okS shk_179 106 = true := by decide +kernel
def shk_180 : List Shp := shk_179 ++ [.inl (0, 64, [])]
theorem os_180 : okS shk_180 107 = true := by decide +kernel
def shk_181 : List Shp := shk_180.set 67 (.inr (9, [(0, 0), (0, 0), (0, 0), (0, 0), (0, 0), (0, 0), (0, 0), (0, 0), (3, 68), (3, 69), (3, 70), (3, 71), (3, 72), (3, 73), (3, 80), (3, 87), (3, 88), (3, 89), (3, 90), (0, 0), (3, 91), (3, 92), (1, 0), (0, 0), (0, 0), (0, 0), (0, 0), (0, 0), (3, 93), (3, 94), (3, 95), (0, 0), (3, 99), (3, 100), (3, 101), (3, 102), (3, 103), (0, 0), (3, 104), (3, 105), (3, 106), (0, 0), (4, 0), (0, 0), (0, 0), (0, 0), (4, 0), (4, 0), (4, 0), (4, 0)]))
theorem os_181 : okS shk_181 107 = true := by decide +kernel
def shk_182 : List Shp := shk_181 ++ [.inl (0, 8, [])]
theorem os_182 : okS shk_182 108 = true := by decide +kernel
def shk_183 : List Shp := shk_182.set 67 (.inr (9, [(0, 0), (0, 0), (0, 0), (0, 0), (0, 0), (0, 0), (0, 0), (0, 0), (3, 68), (3, 69), (3, 70), (3, 71), (3, 72), (3, 73), (3, 80), (3, 87), (3, 88), (3, 89), (3, 90), (0, 0), (3, 91), (3, 92), (1, 0), (0, 0), (0, 0), (0, 0), (0, 0), (0, 0), (3, 93), (3, 94), (3, 95), (0, 0), (3, 99), (3, 100), (3, 101), (3, 102), (3, 103), (0, 0), (3, 104), (3, 105), (3, 106), (0, 0), (3, 107), (0, 0), (0, 0), (0, 0), (4, 0), (4, 0), (4, 0), (4, 0)]))
theorem os_183 : okS shk_183 108 = true := by decide +kernel
def shk_184 : List Shp := shk_183 ++ [.inl (0, 16, [])]
theorem os_184 : okS shk_184 109 = true := by decide +kernel
def shk_185 : List Shp := shk_184.set 67 (.inr (9, [(0, 0), (0, 0), (0, 0), (0, 0), (0, 0), (0, 0), (0, 0), (0, 0), (3, 68), (3, 69), (3, 70), (3, 71), (3, 72), (3, 73), (3, 80), (3, 87), (3, 88), (3, 89), (3, 90), (0, 0), (3, 91), (3, 92), (1, 0), (0, 0), (0, 0), (0, 0), (0, 0), (0, 0), (3, 93), (3, 94), (3, 95), (0, 0), (3, 99), (3, 100), (3, 101), (3, 102), (3, 103), (0, 0), (3, 104), (3, 105), (3, 106), (0, 0), (3, 107), (0, 0), (0, 0), (0, 0), (3, 108), (4, 0), (4, 0), (4, 0)]))
theorem os_185 : okS shk_185 109 = true := by decide +kernel
def shk_186 : List Shp := shk_185 ++ [.inl (0, 10, [])]
theorem os_186 : okS shk_186 110 = true := by decide +kernel
def shk_187 : List Shp := shk_186.set 67 (.inr (9, [(0, 0), (0, 0), (0, 0), (0, 0), (0, 0), (0, 0), (0, 0), (0, 0), (3, 68), (3, 69), (3, 70), (3, 71), (3, 72), (3, 73), (3, 80), (3, 87), (3, 88), (3, 89), (3, 90), (0, 0), (3, 91), (3, 92), (1, 0), (0, 0), (0, 0), (0, 0), (0, 0), (0, 0), (3, 93), (3, 94), (3, 95), (0, 0), (3, 99), (3, 100), (3, 101), (3, 102), (3, 103), (0, 0), (3, 104), (3, 105), (3, 106), (0, 0), (3, 107), (0, 0), (0, 0), (0, 0), (3, 108), (3, 109), (4, 0), (4, 0)]))
theorem os_187 : okS shk_187 110 = true := by decide +kernel
def shk_188 : List Shp := shk_187 ++ [.inl (0, 10, [])]
theorem os_188 : okS shk_188 111 = true := by decide +kernel
def shk_189 : List Shp := shk_188.set 67 (.inr (9, [(0, 0), (0, 0), (0, 0), (0, 0), (0, 0), (0, 0), (0, 0), (0, 0), (3, 68), (3, 69), (3, 70), (3, 71), (3, 72), (3, 73), (3, 80), (3, 87), (3, 88), (3, 89), (3, 90), (0, 0), (3, 91), (3, 92), (1, 0), (0, 0), (0, 0), (0, 0), (0, 0), (0, 0), (3, 93), (3, 94), (3, 95), (0, 0), (3, 99), (3, 100), (3, 101), (3, 102), (3, 103), (0, 0), (3, 104), (3, 105), (3, 106), (0, 0), (3, 107), (0, 0), (0, 0), (0, 0), (3, 108), (3, 109), (3, 110), (4, 0)]))
theorem os_189 : okS shk_189 111 = true := by decide +kernel
def shk_190 : List Shp := shk_189 ++ [.inl (6, 8, [112, 113, 114, 115, 116, 117, 118, 119]), .inl (2, 8, []), .inl (2, 8, []), .inl (2, 8, []), .inl (2, 8, []), .inl (2, 8, []), .inl (2, 8, []), .inl (2, 8, []), .inl (2, 8, [])]
theorem os_190 : okS shk_190 120 = true := by decide +kernel
def shk_191 : List Shp := shk_190.set 67 (.inr (9, [(0, 0), (0, 0), (0, 0), (0, 0), (0, 0), (0, 0), (0, 0), (0, 0), (3, 68), (3, 69), (3, 70), (3, 71), (3, 72), (3, 73), (3, 80), (3, 87), (3, 88), (3, 89), (3, 90), (0, 0), (3, 91), (3, 92), (1, 0), (0, 0), (0, 0), (0, 0), (0, 0), (0, 0), (3, 93), (3, 94), (3, 95), (0, 0), (3, 99), (3, 100), (3, 101), (3, 102), (3, 103), (0, 0), (3, 104), (3, 105), (3, 106), (0, 0), (3, 107), (0, 0), (0, 0), (0, 0), (3, 108), (3, 109), (3, 110), (3, 111)]))
theorem os_191 : okS shk_191 120 = true := by decide +kernel
def mk_11 (M : Mm) : Mm := wI M 67 3 (-1 : Int32)
theorem zk_11 {M : Mm} {n : Nat} (hn : 120 ≤ n) (h : Zr n M) : Zr n (mk_11 M) := Zr.w h (by omega)
def mk_12 (M : Mm) : Mm := wI (mk_11 M) 67 23 (-1 : Int32)
theorem zk_12 {M : Mm} {n : Nat} (hn : 120 ≤ n) (h : Zr n M) : Zr n (mk_12 M) := Zr.w (zk_11 hn h) (by omega)
def mk_13 (M : Mm) : Mm := wI (mk_12 M) 90 0 (4 : Int32)
theorem zk_13 {M : Mm} {n : Nat} (hn : 120 ≤ n) (h : Zr n M) : Zr n (mk_13 M) := Zr.w (zk_12 hn h) (by omega)
def mk_14 (M : Mm) : Mm := wI (mk_13 M) 90 1 (4 : Int32)
theorem zk_14 {M : Mm} {n : Nat} (hn : 120 ≤ n) (h : Zr n M) : Zr n (mk_14 M) := Zr.w (zk_13 hn h) (by omega)
def mk_15 (M : Mm) : Mm := wI (mk_14 M) 90 2 (4 : Int32)
theorem zk_15 {M : Mm} {n : Nat} (hn : 120 ≤ n) (h : Zr n M) : Zr n (mk_15 M) := Zr.w (zk_14 hn h) (by omega)
def mk_16 (M : Mm) : Mm := wI (mk_15 M) 90 3 (4 : Int32)
theorem zk_16 {M : Mm} {n : Nat} (hn : 120 ≤ n) (h : Zr n M) : Zr n (mk_16 M) := Zr.w (zk_15 hn h) (by omega)
def mk_17 (M : Mm) : Mm := wI (mk_16 M) 90 4 (4 : Int32)
theorem zk_17 {M : Mm} {n : Nat} (hn : 120 ≤ n) (h : Zr n M) : Zr n (mk_17 M) := Zr.w (zk_16 hn h) (by omega)
def mk_18 (M : Mm) : Mm := wI (mk_17 M) 90 5 (4 : Int32)
theorem zk_18 {M : Mm} {n : Nat} (hn : 120 ≤ n) (h : Zr n M) : Zr n (mk_18 M) := Zr.w (zk_17 hn h) (by omega)
def mk_19 (M : Mm) : Mm := wI (mk_18 M) 90 6 (4 : Int32)
theorem zk_19 {M : Mm} {n : Nat} (hn : 120 ≤ n) (h : Zr n M) : Zr n (mk_19 M) := Zr.w (zk_18 hn h) (by omega)
def mk_20 (M : Mm) : Mm := wI (mk_19 M) 90 7 (4 : Int32)
theorem zk_20 {M : Mm} {n : Nat} (hn : 120 ≤ n) (h : Zr n M) : Zr n (mk_20 M) := Zr.w (zk_19 hn h) (by omega)
def mk_21 (M : Mm) : Mm := wI (mk_20 M) 90 8 (4 : Int32)
theorem zk_21 {M : Mm} {n : Nat} (hn : 120 ≤ n) (h : Zr n M) : Zr n (mk_21 M) := Zr.w (zk_20 hn h) (by omega)
def mk_22 (M : Mm) : Mm := wI (mk_21 M) 90 9 (4 : Int32)
theorem zk_22 {M : Mm} {n : Nat} (hn : 120 ≤ n) (h : Zr n M) : Zr n (mk_22 M) := Zr.w (zk_21 hn h) (by omega)
set_option maxHeartbeats 8000000 in
set_option maxRecDepth 100000 in
theorem n_X10_init_67 {l : Launch} {E : Ev} {a : Nat} {M : Mm} (hH : eH E = shk_133) (h_67 : eA E 67 = a) (hZ : Zr 68 M) : MetN l yX10_init cX10_init 2 1 52 1459 E [.ref a] M 68 shk_191 (mk_22 M) := by
  refine MetK.of (by decide +kernel) (Nat.le_of_ble_eq_true rfl) ?_
  intro p e s m below meth c C hr hnm
  refine G.sub [0] (L' := [(0, .ref a)]) rfl ?_
  have sm : Sm E E 68 := Sm.rf
  refine G.aload_n C 0 dX10_init_0 rfl rfl ?_
  refine G.objInit C tg_1424 tg_122 tg_123 ⟨(Nat.le_of_ble_eq_true rfl), (Nat.le_of_ble_eq_true rfl)⟩ (Nat.le_of_ble_eq_true rfl) dX10_init_1 ?_
  refine G.aload_n C 0 dX10_init_4 rfl rfl ?_
  refine G.iconst (v := (-1 : Int32)) C dX10_init_5 (by decide) ?_
  refine G.putIa (q := 67) (k := 3) (fs := [(0, 0), (0, 0), (0, 0), (0, 0), (0, 0), (0, 0), (0, 0), (0, 0), (4, 0), (4, 0), (4, 0), (4, 0), (4, 0), (4, 0), (4, 0), (4, 0), (4, 0), (4, 0), (4, 0), (0, 0), (4, 0), (4, 0), (1, 0), (0, 0), (0, 0), (0, 0), (0, 0), (0, 0), (4, 0), (4, 0), (4, 0), (0, 0), (4, 0), (4, 0), (4, 0), (4, 0), (4, 0), (0, 0), (4, 0), (4, 0), (4, 0), (0, 0), (4, 0), (0, 0), (0, 0), (0, 0), (4, 0), (4, 0), (4, 0), (4, 0)]) (M' := (mk_11 M)) C hH h_67 k_X10 (by decide +kernel) rfl (by decide) tg_1434 rfl rfl dX10_init_6 rfl ?_
  have hZ : Zr 68 (mk_11 M) := Zr.w hZ (Nat.le_of_ble_eq_true rfl)
  refine G.aload_n C 0 dX10_init_9 rfl rfl ?_
  refine G.sipush (v := (500 : Int32)) C dX10_init_10 (by decide) ?_
  refine G.kI (N := 500) C hH os_133 tg_192 hZ (by decide) (by decide) (by decide) (Nat.le_of_ble_eq_true rfl) (Nat.le_of_ble_eq_true rfl) dX10_init_13 (fun E1 q1 C hH sm1 h_68 => ?_)
  have hH : eH E1 = shk_134 := hH
  have sm := Sm.tr sm sm1 (Nat.le_of_ble_eq_true rfl)
  have h_67 := Sm.at sm1 (Nat.le_of_ble_eq_true rfl) h_67
  have hZ := Zr.up hZ (k := 69) (Nat.le_of_ble_eq_true rfl)
  refine G.kP (n := 69) (q := 67) (k := 8) (t := 68) (w := 0) (sh2 := shk_135) (fs := [(0, 0), (0, 0), (0, 0), (0, 0), (0, 0), (0, 0), (0, 0), (0, 0), (4, 0), (4, 0), (4, 0), (4, 0), (4, 0), (4, 0), (4, 0), (4, 0), (4, 0), (4, 0), (4, 0), (0, 0), (4, 0), (4, 0), (1, 0), (0, 0), (0, 0), (0, 0), (0, 0), (0, 0), (4, 0), (4, 0), (4, 0), (0, 0), (4, 0), (4, 0), (4, 0), (4, 0), (4, 0), (0, 0), (4, 0), (4, 0), (4, 0), (0, 0), (4, 0), (0, 0), (0, 0), (0, 0), (4, 0), (4, 0), (4, 0), (4, 0)]) C hH k_X10 (by decide +kernel) rfl (by decide) tg_1439 rfl hnm rfl rfl rfl h_68 h_67 rfl dX10_init_15 (fun E2 C hH sm1 => ?_)
  have sm := Sm.tr sm sm1 (Nat.le_of_ble_eq_true rfl)
  have h_67 := Sm.at sm1 (Nat.le_of_ble_eq_true rfl) h_67
  refine G.aload_n C 0 dX10_init_18 rfl rfl ?_
  refine G.iconst (v := (2 : Int32)) C dX10_init_19 (by decide) ?_
  refine G.kI (N := 2) C hH os_135 tg_192 hZ (by decide) (by decide) (by decide) (Nat.le_of_ble_eq_true rfl) (Nat.le_of_ble_eq_true rfl) dX10_init_20 (fun E3 q3 C hH sm1 h_69 => ?_)
  have hH : eH E3 = shk_136 := hH
  have sm := Sm.tr sm sm1 (Nat.le_of_ble_eq_true rfl)
  have h_67 := Sm.at sm1 (Nat.le_of_ble_eq_true rfl) h_67
  have hZ := Zr.up hZ (k := 70) (Nat.le_of_ble_eq_true rfl)
  refine G.kP (n := 70) (q := 67) (k := 9) (t := 69) (w := 0) (sh2 := shk_137) (fs := [(0, 0), (0, 0), (0, 0), (0, 0), (0, 0), (0, 0), (0, 0), (0, 0), (3, 68), (4, 0), (4, 0), (4, 0), (4, 0), (4, 0), (4, 0), (4, 0), (4, 0), (4, 0), (4, 0), (0, 0), (4, 0), (4, 0), (1, 0), (0, 0), (0, 0), (0, 0), (0, 0), (0, 0), (4, 0), (4, 0), (4, 0), (0, 0), (4, 0), (4, 0), (4, 0), (4, 0), (4, 0), (0, 0), (4, 0), (4, 0), (4, 0), (0, 0), (4, 0), (0, 0), (0, 0), (0, 0), (4, 0), (4, 0), (4, 0), (4, 0)]) C hH k_X10 (by decide +kernel) rfl (by decide) tg_1440 rfl hnm rfl rfl rfl h_69 h_67 rfl dX10_init_22 (fun E4 C hH sm1 => ?_)
  have sm := Sm.tr sm sm1 (Nat.le_of_ble_eq_true rfl)
  have h_67 := Sm.at sm1 (Nat.le_of_ble_eq_true rfl) h_67
  refine G.aload_n C 0 dX10_init_25 rfl rfl ?_
  refine G.iconst (v := (2 : Int32)) C dX10_init_26 (by decide) ?_
  refine G.kI (N := 2) C hH os_137 tg_192 hZ (by decide) (by decide) (by decide) (Nat.le_of_ble_eq_true rfl) (Nat.le_of_ble_eq_true rfl) dX10_init_27 (fun E5 q5 C hH sm1 h_70 => ?_)
  have hH : eH E5 = shk_138 := hH
  have sm := Sm.tr sm sm1 (Nat.le_of_ble_eq_true rfl)
  have h_67 := Sm.at sm1 (Nat.le_of_ble_eq_true rfl) h_67
  have hZ := Zr.up hZ (k := 71) (Nat.le_of_ble_eq_true rfl)
  refine G.kP (n := 71) (q := 67) (k := 10) (t := 70) (w := 0) (sh2 := shk_139) (fs := [(0, 0), (0, 0), (0, 0), (0, 0), (0, 0), (0, 0), (0, 0), (0, 0), (3, 68), (3, 69), (4, 0), (4, 0), (4, 0), (4, 0), (4, 0), (4, 0), (4, 0), (4, 0), (4, 0), (0, 0), (4, 0), (4, 0), (1, 0), (0, 0), (0, 0), (0, 0), (0, 0), (0, 0), (4, 0), (4, 0), (4, 0), (0, 0), (4, 0), (4, 0), (4, 0), (4, 0), (4, 0), (0, 0), (4, 0), (4, 0), (4, 0), (0, 0), (4, 0), (0, 0), (0, 0), (0, 0), (4, 0), (4, 0), (4, 0), (4, 0)]) C hH k_X10 (by decide +kernel) rfl (by decide) tg_1441 rfl hnm rfl rfl rfl h_70 h_67 rfl dX10_init_29 (fun E6 C hH sm1 => ?_)
  have sm := Sm.tr sm sm1 (Nat.le_of_ble_eq_true rfl)
  have h_67 := Sm.at sm1 (Nat.le_of_ble_eq_true rfl) h_67
  refine G.aload_n C 0 dX10_init_32 rfl rfl ?_
  refine G.bipush (v := (10 : Int32)) C dX10_init_33 (by decide) ?_
  refine G.kJ (N := 10) C hH os_139 tg_193 hZ (by decide) (by decide) (by decide) (Nat.le_of_ble_eq_true rfl) (Nat.le_of_ble_eq_true rfl) dX10_init_35 (fun E7 q7 C hH sm1 h_71 => ?_)
  have hH : eH E7 = shk_140 := hH
  have sm := Sm.tr sm sm1 (Nat.le_of_ble_eq_true rfl)
  have h_67 := Sm.at sm1 (Nat.le_of_ble_eq_true rfl) h_67
  have hZ := Zr.up hZ (k := 72) (Nat.le_of_ble_eq_true rfl)
  refine G.kP (n := 72) (q := 67) (k := 11) (t := 71) (w := 0) (sh2 := shk_141) (fs := [(0, 0), (0, 0), (0, 0), (0, 0), (0, 0), (0, 0), (0, 0), (0, 0), (3, 68), (3, 69), (3, 70), (4, 0), (4, 0), (4, 0), (4, 0), (4, 0), (4, 0), (4, 0), (4, 0), (0, 0), (4, 0), (4, 0), (1, 0), (0, 0), (0, 0), (0, 0), (0, 0), (0, 0), (4, 0), (4, 0), (4, 0), (0, 0), (4, 0), (4, 0), (4, 0), (4, 0), (4, 0), (0, 0), (4, 0), (4, 0), (4, 0), (0, 0), (4, 0), (0, 0), (0, 0), (0, 0), (4, 0), (4, 0), (4, 0), (4, 0)]) C hH k_X10 (by decide +kernel) rfl (by decide) tg_1442 rfl hnm rfl rfl rfl h_71 h_67 rfl dX10_init_37 (fun E8 C hH sm1 => ?_)
  have sm := Sm.tr sm sm1 (Nat.le_of_ble_eq_true rfl)
  have h_67 := Sm.at sm1 (Nat.le_of_ble_eq_true rfl) h_67
  refine G.aload_n C 0 dX10_init_40 rfl rfl ?_
  refine G.bipush (v := (10 : Int32)) C dX10_init_41 (by decide) ?_
  refine G.kJ (N := 10) C hH os_141 tg_193 hZ (by decide) (by decide) (by decide) (Nat.le_of_ble_eq_true rfl) (Nat.le_of_ble_eq_true rfl) dX10_init_43 (fun E9 q9 C hH sm1 h_72 => ?_)
  have hH : eH E9 = shk_142 := hH
  have sm := Sm.tr sm sm1 (Nat.le_of_ble_eq_true rfl)
  have h_67 := Sm.at sm1 (Nat.le_of_ble_eq_true rfl) h_67
  have hZ := Zr.up hZ (k := 73) (Nat.le_of_ble_eq_true rfl)
  refine G.kP (n := 73) (q := 67) (k := 12) (t := 72) (w := 0) (sh2 := shk_143) (fs := [(0, 0), (0, 0), (0, 0), (0, 0), (0, 0), (0, 0), (0, 0), (0, 0), (3, 68), (3, 69), (3, 70), (3, 71), (4, 0), (4, 0), (4, 0), (4, 0), (4, 0), (4, 0), (4, 0), (0, 0), (4, 0), (4, 0), (1, 0), (0, 0), (0, 0), (0, 0), (0, 0), (0, 0), (4, 0), (4, 0), (4, 0), (0, 0), (4, 0), (4, 0), (4, 0), (4, 0), (4, 0), (0, 0), (4, 0), (4, 0), (4, 0), (0, 0), (4, 0), (0, 0), (0, 0), (0, 0), (4, 0), (4, 0), (4, 0), (4, 0)]) C hH k_X10 (by decide +kernel) rfl (by decide) tg_1443 rfl hnm rfl rfl rfl h_72 h_67 rfl dX10_init_45 (fun E10 C hH sm1 => ?_)
  have sm := Sm.tr sm sm1 (Nat.le_of_ble_eq_true rfl)
  have h_67 := Sm.at sm1 (Nat.le_of_ble_eq_true rfl) h_67
  refine G.aload_n C 0 dX10_init_48 rfl rfl ?_
  refine G.bipush (v := (6 : Int32)) C dX10_init_49 (by decide) ?_
  refine G.bipush (v := (8 : Int32)) C dX10_init_51 (by decide) ?_
  refine G.kM (kO := 4) (k0 := 0) (N := 6) (K := 8) (ty := .int) (z := (8, .inl (fun _ => 0))) (nm := "") (nmO := "[" ++ (FieldType.array .int).toString) C hH os_143 [.inl (4, 6, [74, 75, 76, 77, 78, 79]), .inl (0, 8, []), .inl (0, 8, []), .inl (0, 8, []), .inl (0, 8, []), .inl (0, 8, []), .inl (0, 8, [])] tg_1425 (C.2.2.2.2.2.2.2.2.2.1.2.2.2.2.2.2.2.2.2.2.2.1) tg_192 (fun _ => rfl) (fun _ => rfl) (fun _ h => h) (fun _ h => va_nm_int h) (fun _ _ _ => rfl) (fun _ _ hc => aclI hZ hc) (fun _ => rfl) (by decide) (by decide) (by decide) (by decide) (by decide) (by decide) (by decide) rfl rfl (Nat.le_of_ble_eq_true rfl) (Nat.le_of_ble_eq_true rfl) dX10_init_53 (by decide +kernel) (fun E11 q11 C hH sm1 h_73 => ?_)
  have hH : eH E11 = shk_144 := hH
  have sm := Sm.tr sm sm1 (Nat.le_of_ble_eq_true rfl)
  have h_67 := Sm.at sm1 (Nat.le_of_ble_eq_true rfl) h_67
  have hZ := Zr.up hZ (k := 80) (Nat.le_of_ble_eq_true rfl)
  refine G.kP (n := 80) (q := 67) (k := 13) (t := 73) (w := 0) (sh2 := shk_145) (fs := [(0, 0), (0, 0), (0, 0), (0, 0), (0, 0), (0, 0), (0, 0), (0, 0), (3, 68), (3, 69), (3, 70), (3, 71), (3, 72), (4, 0), (4, 0), (4, 0), (4, 0), (4, 0), (4, 0), (0, 0), (4, 0), (4, 0), (1, 0), (0, 0), (0, 0), (0, 0), (0, 0), (0, 0), (4, 0), (4, 0), (4, 0), (0, 0), (4, 0), (4, 0), (4, 0), (4, 0), (4, 0), (0, 0), (4, 0), (4, 0), (4, 0), (0, 0), (4, 0), (0, 0), (0, 0), (0, 0), (4, 0), (4, 0), (4, 0), (4, 0)]) C hH k_X10 (by decide +kernel) rfl (by decide) tg_1444 rfl hnm rfl rfl rfl h_73 h_67 rfl dX10_init_57 (fun E12 C hH sm1 => ?_)
  have sm := Sm.tr sm sm1 (Nat.le_of_ble_eq_true rfl)
  have h_67 := Sm.at sm1 (Nat.le_of_ble_eq_true rfl) h_67
  refine G.aload_n C 0 dX10_init_60 rfl rfl ?_
  refine G.bipush (v := (6 : Int32)) C dX10_init_61 (by decide) ?_
  refine G.bipush (v := (8 : Int32)) C dX10_init_63 (by decide) ?_
  refine G.kM (kO := 4) (k0 := 0) (N := 6) (K := 8) (ty := .int) (z := (8, .inl (fun _ => 0))) (nm := "") (nmO := "[" ++ (FieldType.array .int).toString) C hH os_145 [.inl (4, 6, [81, 82, 83, 84, 85, 86]), .inl (0, 8, []), .inl (0, 8, []), .inl (0, 8, []), .inl (0, 8, []), .inl (0, 8, []), .inl (0, 8, [])] tg_1425 (C.2.2.2.2.2.2.2.2.2.1.2.2.2.2.2.2.2.2.2.2.2.1) tg_192 (fun _ => rfl) (fun _ => rfl) (fun _ h => h) (fun _ h => va_nm_int h) (fun _ _ _ => rfl) (fun _ _ hc => aclI hZ hc) (fun _ => rfl) (by decide) (by decide) (by decide) (by decide) (by decide) (by decide) (by decide) rfl rfl (Nat.le_of_ble_eq_true rfl) (Nat.le_of_ble_eq_true rfl) dX10_init_65 (by decide +kernel) (fun E13 q13 C hH sm1 h_80 => ?_)
  have hH : eH E13 = shk_146 := hH
  have sm := Sm.tr sm sm1 (Nat.le_of_ble_eq_true rfl)
  have h_67 := Sm.at sm1 (Nat.le_of_ble_eq_true rfl) h_67
  have hZ := Zr.up hZ (k := 87) (Nat.le_of_ble_eq_true rfl)
  refine G.kP (n := 87) (q := 67) (k := 14) (t := 80) (w := 0) (sh2 := shk_147) (fs := [(0, 0), (0, 0), (0, 0), (0, 0), (0, 0), (0, 0), (0, 0), (0, 0), (3, 68), (3, 69), (3, 70), (3, 71), (3, 72), (3, 73), (4, 0), (4, 0), (4, 0), (4, 0), (4, 0), (0, 0), (4, 0), (4, 0), (1, 0), (0, 0), (0, 0), (0, 0), (0, 0), (0, 0), (4, 0), (4, 0), (4, 0), (0, 0), (4, 0), (4, 0), (4, 0), (4, 0), (4, 0), (0, 0), (4, 0), (4, 0), (4, 0), (0, 0), (4, 0), (0, 0), (0, 0), (0, 0), (4, 0), (4, 0), (4, 0), (4, 0)]) C hH k_X10 (by decide +kernel) rfl (by decide) tg_1445 rfl hnm rfl rfl rfl h_80 h_67 rfl dX10_init_69 (fun E14 C hH sm1 => ?_)
  have sm := Sm.tr sm sm1 (Nat.le_of_ble_eq_true rfl)
  have h_67 := Sm.at sm1 (Nat.le_of_ble_eq_true rfl) h_67
  refine G.aload_n C 0 dX10_init_72 rfl rfl ?_
  refine G.bipush (v := (6 : Int32)) C dX10_init_73 (by decide) ?_
  refine G.kI (N := 6) C hH os_147 tg_192 hZ (by decide) (by decide) (by decide) (Nat.le_of_ble_eq_true rfl) (Nat.le_of_ble_eq_true rfl) dX10_init_75 (fun E15 q15 C hH sm1 h_87 => ?_)
  have hH : eH E15 = shk_148 := hH
  have sm := Sm.tr sm sm1 (Nat.le_of_ble_eq_true rfl)
  have h_67 := Sm.at sm1 (Nat.le_of_ble_eq_true rfl) h_67
  have hZ := Zr.up hZ (k := 88) (Nat.le_of_ble_eq_true rfl)
  refine G.kP (n := 88) (q := 67) (k := 15) (t := 87) (w := 0) (sh2 := shk_149) (fs := [(0, 0), (0, 0), (0, 0), (0, 0), (0, 0), (0, 0), (0, 0), (0, 0), (3, 68), (3, 69), (3, 70), (3, 71), (3, 72), (3, 73), (3, 80), (4, 0), (4, 0), (4, 0), (4, 0), (0, 0), (4, 0), (4, 0), (1, 0), (0, 0), (0, 0), (0, 0), (0, 0), (0, 0), (4, 0), (4, 0), (4, 0), (0, 0), (4, 0), (4, 0), (4, 0), (4, 0), (4, 0), (0, 0), (4, 0), (4, 0), (4, 0), (0, 0), (4, 0), (0, 0), (0, 0), (0, 0), (4, 0), (4, 0), (4, 0), (4, 0)]) C hH k_X10 (by decide +kernel) rfl (by decide) tg_1446 rfl hnm rfl rfl rfl h_87 h_67 rfl dX10_init_77 (fun E16 C hH sm1 => ?_)
  have sm := Sm.tr sm sm1 (Nat.le_of_ble_eq_true rfl)
  have h_67 := Sm.at sm1 (Nat.le_of_ble_eq_true rfl) h_67
  refine G.aload_n C 0 dX10_init_80 rfl rfl ?_
  refine G.bipush (v := (6 : Int32)) C dX10_init_81 (by decide) ?_
  refine G.kI (N := 6) C hH os_149 tg_192 hZ (by decide) (by decide) (by decide) (Nat.le_of_ble_eq_true rfl) (Nat.le_of_ble_eq_true rfl) dX10_init_83 (fun E17 q17 C hH sm1 h_88 => ?_)
  have hH : eH E17 = shk_150 := hH
  have sm := Sm.tr sm sm1 (Nat.le_of_ble_eq_true rfl)
  have h_67 := Sm.at sm1 (Nat.le_of_ble_eq_true rfl) h_67
  have hZ := Zr.up hZ (k := 89) (Nat.le_of_ble_eq_true rfl)
  refine G.kP (n := 89) (q := 67) (k := 16) (t := 88) (w := 0) (sh2 := shk_151) (fs := [(0, 0), (0, 0), (0, 0), (0, 0), (0, 0), (0, 0), (0, 0), (0, 0), (3, 68), (3, 69), (3, 70), (3, 71), (3, 72), (3, 73), (3, 80), (3, 87), (4, 0), (4, 0), (4, 0), (0, 0), (4, 0), (4, 0), (1, 0), (0, 0), (0, 0), (0, 0), (0, 0), (0, 0), (4, 0), (4, 0), (4, 0), (0, 0), (4, 0), (4, 0), (4, 0), (4, 0), (4, 0), (0, 0), (4, 0), (4, 0), (4, 0), (0, 0), (4, 0), (0, 0), (0, 0), (0, 0), (4, 0), (4, 0), (4, 0), (4, 0)]) C hH k_X10 (by decide +kernel) rfl (by decide) tg_1447 rfl hnm rfl rfl rfl h_88 h_67 rfl dX10_init_85 (fun E18 C hH sm1 => ?_)
  have sm := Sm.tr sm sm1 (Nat.le_of_ble_eq_true rfl)
  have h_67 := Sm.at sm1 (Nat.le_of_ble_eq_true rfl) h_67
  refine G.aload_n C 0 dX10_init_88 rfl rfl ?_
  refine G.bipush (v := (10 : Int32)) C dX10_init_89 (by decide) ?_
  refine G.kI (N := 10) C hH os_151 tg_192 hZ (by decide) (by decide) (by decide) (Nat.le_of_ble_eq_true rfl) (Nat.le_of_ble_eq_true rfl) dX10_init_91 (fun E19 q19 C hH sm1 h_89 => ?_)
  have hH : eH E19 = shk_152 := hH
  have sm := Sm.tr sm sm1 (Nat.le_of_ble_eq_true rfl)
  have h_67 := Sm.at sm1 (Nat.le_of_ble_eq_true rfl) h_67
  have hZ := Zr.up hZ (k := 90) (Nat.le_of_ble_eq_true rfl)
  refine G.kP (n := 90) (q := 67) (k := 17) (t := 89) (w := 0) (sh2 := shk_153) (fs := [(0, 0), (0, 0), (0, 0), (0, 0), (0, 0), (0, 0), (0, 0), (0, 0), (3, 68), (3, 69), (3, 70), (3, 71), (3, 72), (3, 73), (3, 80), (3, 87), (3, 88), (4, 0), (4, 0), (0, 0), (4, 0), (4, 0), (1, 0), (0, 0), (0, 0), (0, 0), (0, 0), (0, 0), (4, 0), (4, 0), (4, 0), (0, 0), (4, 0), (4, 0), (4, 0), (4, 0), (4, 0), (0, 0), (4, 0), (4, 0), (4, 0), (0, 0), (4, 0), (0, 0), (0, 0), (0, 0), (4, 0), (4, 0), (4, 0), (4, 0)]) C hH k_X10 (by decide +kernel) rfl (by decide) tg_1448 rfl hnm rfl rfl rfl h_89 h_67 rfl dX10_init_93 (fun E20 C hH sm1 => ?_)
  have sm := Sm.tr sm sm1 (Nat.le_of_ble_eq_true rfl)
  have h_67 := Sm.at sm1 (Nat.le_of_ble_eq_true rfl) h_67
  refine G.aload_n C 0 dX10_init_96 rfl rfl ?_
  refine G.bipush (v := (10 : Int32)) C dX10_init_97 (by decide) ?_
  refine G.kI (N := 10) C hH os_153 tg_192 hZ (by decide) (by decide) (by decide) (Nat.le_of_ble_eq_true rfl) (Nat.le_of_ble_eq_true rfl) dX10_init_99 (fun E21 q21 C hH sm1 h_90 => ?_)
  have hH : eH E21 = shk_154 := hH
  have sm := Sm.tr sm sm1 (Nat.le_of_ble_eq_true rfl)
  have h_67 := Sm.at sm1 (Nat.le_of_ble_eq_true rfl) h_67
  have hZ := Zr.up hZ (k := 91) (Nat.le_of_ble_eq_true rfl)
  refine G.kP (n := 91) (q := 67) (k := 18) (t := 90) (w := 0) (sh2 := shk_155) (fs := [(0, 0), (0, 0), (0, 0), (0, 0), (0, 0), (0, 0), (0, 0), (0, 0), (3, 68), (3, 69), (3, 70), (3, 71), (3, 72), (3, 73), (3, 80), (3, 87), (3, 88), (3, 89), (4, 0), (0, 0), (4, 0), (4, 0), (1, 0), (0, 0), (0, 0), (0, 0), (0, 0), (0, 0), (4, 0), (4, 0), (4, 0), (0, 0), (4, 0), (4, 0), (4, 0), (4, 0), (4, 0), (0, 0), (4, 0), (4, 0), (4, 0), (0, 0), (4, 0), (0, 0), (0, 0), (0, 0), (4, 0), (4, 0), (4, 0), (4, 0)]) C hH k_X10 (by decide +kernel) rfl (by decide) tg_1449 rfl hnm rfl rfl rfl h_90 h_67 rfl dX10_init_101 (fun E22 C hH sm1 => ?_)
  have sm := Sm.tr sm sm1 (Nat.le_of_ble_eq_true rfl)
  have h_67 := Sm.at sm1 (Nat.le_of_ble_eq_true rfl) h_67
  refine G.aload_n C 0 dX10_init_104 rfl rfl ?_
  refine G.bipush (v := (16 : Int32)) C dX10_init_105 (by decide) ?_
  refine G.kJ (N := 16) C hH os_155 tg_193 hZ (by decide) (by decide) (by decide) (Nat.le_of_ble_eq_true rfl) (Nat.le_of_ble_eq_true rfl) dX10_init_107 (fun E23 q23 C hH sm1 h_91 => ?_)
  have hH : eH E23 = shk_156 := hH
  have sm := Sm.tr sm sm1 (Nat.le_of_ble_eq_true rfl)
  have h_67 := Sm.at sm1 (Nat.le_of_ble_eq_true rfl) h_67
  have hZ := Zr.up hZ (k := 92) (Nat.le_of_ble_eq_true rfl)
  refine G.kP (n := 92) (q := 67) (k := 20) (t := 91) (w := 0) (sh2 := shk_157) (fs := [(0, 0), (0, 0), (0, 0), (0, 0), (0, 0), (0, 0), (0, 0), (0, 0), (3, 68), (3, 69), (3, 70), (3, 71), (3, 72), (3, 73), (3, 80), (3, 87), (3, 88), (3, 89), (3, 90), (0, 0), (4, 0), (4, 0), (1, 0), (0, 0), (0, 0), (0, 0), (0, 0), (0, 0), (4, 0), (4, 0), (4, 0), (0, 0), (4, 0), (4, 0), (4, 0), (4, 0), (4, 0), (0, 0), (4, 0), (4, 0), (4, 0), (0, 0), (4, 0), (0, 0), (0, 0), (0, 0), (4, 0), (4, 0), (4, 0), (4, 0)]) C hH k_X10 (by decide +kernel) rfl (by decide) tg_1451 rfl hnm rfl rfl rfl h_91 h_67 rfl dX10_init_109 (fun E24 C hH sm1 => ?_)
  have sm := Sm.tr sm sm1 (Nat.le_of_ble_eq_true rfl)
  have h_67 := Sm.at sm1 (Nat.le_of_ble_eq_true rfl) h_67
  refine G.aload_n C 0 dX10_init_112 rfl rfl ?_
  refine G.bipush (v := (16 : Int32)) C dX10_init_113 (by decide) ?_
  refine G.kI (N := 16) C hH os_157 tg_192 hZ (by decide) (by decide) (by decide) (Nat.le_of_ble_eq_true rfl) (Nat.le_of_ble_eq_true rfl) dX10_init_115 (fun E25 q25 C hH sm1 h_92 => ?_)
  have hH : eH E25 = shk_158 := hH
  have sm := Sm.tr sm sm1 (Nat.le_of_ble_eq_true rfl)
  have h_67 := Sm.at sm1 (Nat.le_of_ble_eq_true rfl) h_67
  have hZ := Zr.up hZ (k := 93) (Nat.le_of_ble_eq_true rfl)
  refine G.kP (n := 93) (q := 67) (k := 21) (t := 92) (w := 0) (sh2 := shk_159) (fs := [(0, 0), (0, 0), (0, 0), (0, 0), (0, 0), (0, 0), (0, 0), (0, 0), (3, 68), (3, 69), (3, 70), (3, 71), (3, 72), (3, 73), (3, 80), (3, 87), (3, 88), (3, 89), (3, 90), (0, 0), (3, 91), (4, 0), (1, 0), (0, 0), (0, 0), (0, 0), (0, 0), (0, 0), (4, 0), (4, 0), (4, 0), (0, 0), (4, 0), (4, 0), (4, 0), (4, 0), (4, 0), (0, 0), (4, 0), (4, 0), (4, 0), (0, 0), (4, 0), (0, 0), (0, 0), (0, 0), (4, 0), (4, 0), (4, 0), (4, 0)]) C hH k_X10 (by decide +kernel) rfl (by decide) tg_1452 rfl hnm rfl rfl rfl h_92 h_67 rfl dX10_init_117 (fun E26 C hH sm1 => ?_)
  have sm := Sm.tr sm sm1 (Nat.le_of_ble_eq_true rfl)
  have h_67 := Sm.at sm1 (Nat.le_of_ble_eq_true rfl) h_67
  refine G.aload_n C 0 dX10_init_120 rfl rfl ?_
  refine G.iconst (v := (-1 : Int32)) C dX10_init_121 (by decide) ?_
  refine G.putIa (q := 67) (k := 23) (fs := [(0, 0), (0, 0), (0, 0), (0, 0), (0, 0), (0, 0), (0, 0), (0, 0), (3, 68), (3, 69), (3, 70), (3, 71), (3, 72), (3, 73), (3, 80), (3, 87), (3, 88), (3, 89), (3, 90), (0, 0), (3, 91), (3, 92), (1, 0), (0, 0), (0, 0), (0, 0), (0, 0), (0, 0), (4, 0), (4, 0), (4, 0), (0, 0), (4, 0), (4, 0), (4, 0), (4, 0), (4, 0), (0, 0), (4, 0), (4, 0), (4, 0), (0, 0), (4, 0), (0, 0), (0, 0), (0, 0), (4, 0), (4, 0), (4, 0), (4, 0)]) (M' := (mk_12 M)) C hH h_67 k_X10 (by decide +kernel) rfl (by decide) tg_1454 rfl rfl dX10_init_122 rfl ?_
  have hZ : Zr 93 (mk_12 M) := Zr.w hZ (Nat.le_of_ble_eq_true rfl)
  refine G.aload_n C 0 dX10_init_125 rfl rfl ?_
  refine G.bipush (v := (40 : Int32)) C dX10_init_126 (by decide) ?_
  refine G.kI (N := 40) C hH os_159 tg_192 hZ (by decide) (by decide) (by decide) (Nat.le_of_ble_eq_true rfl) (Nat.le_of_ble_eq_true rfl) dX10_init_128 (fun E27 q27 C hH sm1 h_93 => ?_)
  have hH : eH E27 = shk_160 := hH
  have sm := Sm.tr sm sm1 (Nat.le_of_ble_eq_true rfl)
  have h_67 := Sm.at sm1 (Nat.le_of_ble_eq_true rfl) h_67
  have hZ := Zr.up hZ (k := 94) (Nat.le_of_ble_eq_true rfl)
  refine G.kP (n := 94) (q := 67) (k := 28) (t := 93) (w := 0) (sh2 := shk_161) (fs := [(0, 0), (0, 0), (0, 0), (0, 0), (0, 0), (0, 0), (0, 0), (0, 0), (3, 68), (3, 69), (3, 70), (3, 71), (3, 72), (3, 73), (3, 80), (3, 87), (3, 88), (3, 89), (3, 90), (0, 0), (3, 91), (3, 92), (1, 0), (0, 0), (0, 0), (0, 0), (0, 0), (0, 0), (4, 0), (4, 0), (4, 0), (0, 0), (4, 0), (4, 0), (4, 0), (4, 0), (4, 0), (0, 0), (4, 0), (4, 0), (4, 0), (0, 0), (4, 0), (0, 0), (0, 0), (0, 0), (4, 0), (4, 0), (4, 0), (4, 0)]) C hH k_X10 (by decide +kernel) rfl (by decide) tg_1459 rfl hnm rfl rfl rfl h_93 h_67 rfl dX10_init_130 (fun E28 C hH sm1 => ?_)
  have sm := Sm.tr sm sm1 (Nat.le_of_ble_eq_true rfl)
  have h_67 := Sm.at sm1 (Nat.le_of_ble_eq_true rfl) h_67
  refine G.aload_n C 0 dX10_init_133 rfl rfl ?_
  refine G.bipush (v := (8 : Int32)) C dX10_init_134 (by decide) ?_
  refine G.kJ (N := 8) C hH os_161 tg_193 hZ (by decide) (by decide) (by decide) (Nat.le_of_ble_eq_true rfl) (Nat.le_of_ble_eq_true rfl) dX10_init_136 (fun E29 q29 C hH sm1 h_94 => ?_)
  have hH : eH E29 = shk_162 := hH
  have sm := Sm.tr sm sm1 (Nat.le_of_ble_eq_true rfl)
  have h_67 := Sm.at sm1 (Nat.le_of_ble_eq_true rfl) h_67
  have hZ := Zr.up hZ (k := 95) (Nat.le_of_ble_eq_true rfl)
  refine G.kP (n := 95) (q := 67) (k := 29) (t := 94) (w := 0) (sh2 := shk_163) (fs := [(0, 0), (0, 0), (0, 0), (0, 0), (0, 0), (0, 0), (0, 0), (0, 0), (3, 68), (3, 69), (3, 70), (3, 71), (3, 72), (3, 73), (3, 80), (3, 87), (3, 88), (3, 89), (3, 90), (0, 0), (3, 91), (3, 92), (1, 0), (0, 0), (0, 0), (0, 0), (0, 0), (0, 0), (3, 93), (4, 0), (4, 0), (0, 0), (4, 0), (4, 0), (4, 0), (4, 0), (4, 0), (0, 0), (4, 0), (4, 0), (4, 0), (0, 0), (4, 0), (0, 0), (0, 0), (0, 0), (4, 0), (4, 0), (4, 0), (4, 0)]) C hH k_X10 (by decide +kernel) rfl (by decide) tg_1460 rfl hnm rfl rfl rfl h_94 h_67 rfl dX10_init_138 (fun E30 C hH sm1 => ?_)
  have sm := Sm.tr sm sm1 (Nat.le_of_ble_eq_true rfl)
  have h_67 := Sm.at sm1 (Nat.le_of_ble_eq_true rfl) h_67
  refine G.aload_n C 0 dX10_init_141 rfl rfl ?_
  refine G.iconst (v := (3 : Int32)) C dX10_init_142 (by decide) ?_
  refine G.bipush (v := (60 : Int32)) C dX10_init_143 (by decide) ?_
  refine G.kM (kO := 5) (k0 := 1) (N := 3) (K := 60) (ty := .long) (z := (60, .inr (.inl (fun _ => 0)))) (nm := "") (nmO := "[" ++ (FieldType.array .long).toString) C hH os_163 [.inl (5, 3, [96, 97, 98]), .inl (1, 60, []), .inl (1, 60, []), .inl (1, 60, [])] tg_1427 (C.2.2.2.2.2.2.2.2.2.1.2.2.2.2.2.2.2.2.2.2.2.2.1) tg_193 (fun _ => rfl) (fun _ => rfl) (fun _ h => h) (fun _ h => va_nm_long h) (fun _ _ _ => rfl) (fun _ _ hc => aclJ hZ hc) (fun _ => rfl) (by decide) (by decide) (by decide) (by decide) (by decide) (by decide) (by decide) rfl rfl (Nat.le_of_ble_eq_true rfl) (Nat.le_of_ble_eq_true rfl) dX10_init_145 (by decide +kernel) (fun E31 q31 C hH sm1 h_95 => ?_)
  have hH : eH E31 = shk_164 := hH
  have sm := Sm.tr sm sm1 (Nat.le_of_ble_eq_true rfl)
  have h_67 := Sm.at sm1 (Nat.le_of_ble_eq_true rfl) h_67
  have hZ := Zr.up hZ (k := 99) (Nat.le_of_ble_eq_true rfl)
  refine G.kP (n := 99) (q := 67) (k := 30) (t := 95) (w := 0) (sh2 := shk_165) (fs := [(0, 0), (0, 0), (0, 0), (0, 0), (0, 0), (0, 0), (0, 0), (0, 0), (3, 68), (3, 69), (3, 70), (3, 71), (3, 72), (3, 73), (3, 80), (3, 87), (3, 88), (3, 89), (3, 90), (0, 0), (3, 91), (3, 92), (1, 0), (0, 0), (0, 0), (0, 0), (0, 0), (0, 0), (3, 93), (3, 94), (4, 0), (0, 0), (4, 0), (4, 0), (4, 0), (4, 0), (4, 0), (0, 0), (4, 0), (4, 0), (4, 0), (0, 0), (4, 0), (0, 0), (0, 0), (0, 0), (4, 0), (4, 0), (4, 0), (4, 0)]) C hH k_X10 (by decide +kernel) rfl (by decide) tg_1461 rfl hnm rfl rfl rfl h_95 h_67 rfl dX10_init_149 (fun E32 C hH sm1 => ?_)
  have sm := Sm.tr sm sm1 (Nat.le_of_ble_eq_true rfl)
  have h_67 := Sm.at sm1 (Nat.le_of_ble_eq_true rfl) h_67
  refine G.aload_n C 0 dX10_init_152 rfl rfl ?_
  refine G.bipush (v := (32 : Int32)) C dX10_init_153 (by decide) ?_
  refine G.kJ (N := 32) C hH os_165 tg_193 hZ (by decide) (by decide) (by decide) (Nat.le_of_ble_eq_true rfl) (Nat.le_of_ble_eq_true rfl) dX10_init_155 (fun E33 q33 C hH sm1 h_99 => ?_)
  have hH : eH E33 = shk_166 := hH
  have sm := Sm.tr sm sm1 (Nat.le_of_ble_eq_true rfl)
  have h_67 := Sm.at sm1 (Nat.le_of_ble_eq_true rfl) h_67
  have hZ := Zr.up hZ (k := 100) (Nat.le_of_ble_eq_true rfl)
  refine G.kP (n := 100) (q := 67) (k := 32) (t := 99) (w := 0) (sh2 := shk_167) (fs := [(0, 0), (0, 0), (0, 0), (0, 0), (0, 0), (0, 0), (0, 0), (0, 0), (3, 68), (3, 69), (3, 70), (3, 71), (3, 72), (3, 73), (3, 80), (3, 87), (3, 88), (3, 89), (3, 90), (0, 0), (3, 91), (3, 92), (1, 0), (0, 0), (0, 0), (0, 0), (0, 0), (0, 0), (3, 93), (3, 94), (3, 95), (0, 0), (4, 0), (4, 0), (4, 0), (4, 0), (4, 0), (0, 0), (4, 0), (4, 0), (4, 0), (0, 0), (4, 0), (0, 0), (0, 0), (0, 0), (4, 0), (4, 0), (4, 0), (4, 0)]) C hH k_X10 (by decide +kernel) rfl (by decide) tg_1463 rfl hnm rfl rfl rfl h_99 h_67 rfl dX10_init_157 (fun E34 C hH sm1 => ?_)
  have sm := Sm.tr sm sm1 (Nat.le_of_ble_eq_true rfl)
  have h_67 := Sm.at sm1 (Nat.le_of_ble_eq_true rfl) h_67
  refine G.aload_n C 0 dX10_init_160 rfl rfl ?_
  refine G.bipush (v := (64 : Int32)) C dX10_init_161 (by decide) ?_
  refine G.kI (N := 64) C hH os_167 tg_192 hZ (by decide) (by decide) (by decide) (Nat.le_of_ble_eq_true rfl) (Nat.le_of_ble_eq_true rfl) dX10_init_163 (fun E35 q35 C hH sm1 h_100 => ?_)
  have hH : eH E35 = shk_168 := hH
  have sm := Sm.tr sm sm1 (Nat.le_of_ble_eq_true rfl)
  have h_67 := Sm.at sm1 (Nat.le_of_ble_eq_true rfl) h_67
  have hZ := Zr.up hZ (k := 101) (Nat.le_of_ble_eq_true rfl)
  refine G.kP (n := 101) (q := 67) (k := 33) (t := 100) (w := 0) (sh2 := shk_169) (fs := [(0, 0), (0, 0), (0, 0), (0, 0), (0, 0), (0, 0), (0, 0), (0, 0), (3, 68), (3, 69), (3, 70), (3, 71), (3, 72), (3, 73), (3, 80), (3, 87), (3, 88), (3, 89), (3, 90), (0, 0), (3, 91), (3, 92), (1, 0), (0, 0), (0, 0), (0, 0), (0, 0), (0, 0), (3, 93), (3, 94), (3, 95), (0, 0), (3, 99), (4, 0), (4, 0), (4, 0), (4, 0), (0, 0), (4, 0), (4, 0), (4, 0), (0, 0), (4, 0), (0, 0), (0, 0), (0, 0), (4, 0), (4, 0), (4, 0), (4, 0)]) C hH k_X10 (by decide +kernel) rfl (by decide) tg_1464 rfl hnm rfl rfl rfl h_100 h_67 rfl dX10_init_165 (fun E36 C hH sm1 => ?_)
  have sm := Sm.tr sm sm1 (Nat.le_of_ble_eq_true rfl)
  have h_67 := Sm.at sm1 (Nat.le_of_ble_eq_true rfl) h_67
  refine G.aload_n C 0 dX10_init_168 rfl rfl ?_
  refine G.bipush (v := (64 : Int32)) C dX10_init_169 (by decide) ?_
  refine G.kI (N := 64) C hH os_169 tg_192 hZ (by decide) (by decide) (by decide) (Nat.le_of_ble_eq_true rfl) (Nat.le_of_ble_eq_true rfl) dX10_init_171 (fun E37 q37 C hH sm1 h_101 => ?_)
  have hH : eH E37 = shk_170 := hH
  have sm := Sm.tr sm sm1 (Nat.le_of_ble_eq_true rfl)
  have h_67 := Sm.at sm1 (Nat.le_of_ble_eq_true rfl) h_67
  have hZ := Zr.up hZ (k := 102) (Nat.le_of_ble_eq_true rfl)
  refine G.kP (n := 102) (q := 67) (k := 34) (t := 101) (w := 0) (sh2 := shk_171) (fs := [(0, 0), (0, 0), (0, 0), (0, 0), (0, 0), (0, 0), (0, 0), (0, 0), (3, 68), (3, 69), (3, 70), (3, 71), (3, 72), (3, 73), (3, 80), (3, 87), (3, 88), (3, 89), (3, 90), (0, 0), (3, 91), (3, 92), (1, 0), (0, 0), (0, 0), (0, 0), (0, 0), (0, 0), (3, 93), (3, 94), (3, 95), (0, 0), (3, 99), (3, 100), (4, 0), (4, 0), (4, 0), (0, 0), (4, 0), (4, 0), (4, 0), (0, 0), (4, 0), (0, 0), (0, 0), (0, 0), (4, 0), (4, 0), (4, 0), (4, 0)]) C hH k_X10 (by decide +kernel) rfl (by decide) tg_1465 rfl hnm rfl rfl rfl h_101 h_67 rfl dX10_init_173 (fun E38 C hH sm1 => ?_)
  have sm := Sm.tr sm sm1 (Nat.le_of_ble_eq_true rfl)
  have h_67 := Sm.at sm1 (Nat.le_of_ble_eq_true rfl) h_67
  refine G.aload_n C 0 dX10_init_176 rfl rfl ?_
  refine G.bipush (v := (32 : Int32)) C dX10_init_177 (by decide) ?_
  refine G.kI (N := 32) C hH os_171 tg_192 hZ (by decide) (by decide) (by decide) (Nat.le_of_ble_eq_true rfl) (Nat.le_of_ble_eq_true rfl) dX10_init_179 (fun E39 q39 C hH sm1 h_102 => ?_)
  have hH : eH E39 = shk_172 := hH
  have sm := Sm.tr sm sm1 (Nat.le_of_ble_eq_true rfl)
  have h_67 := Sm.at sm1 (Nat.le_of_ble_eq_true rfl) h_67
  have hZ := Zr.up hZ (k := 103) (Nat.le_of_ble_eq_true rfl)
  refine G.kP (n := 103) (q := 67) (k := 35) (t := 102) (w := 0) (sh2 := shk_173) (fs := [(0, 0), (0, 0), (0, 0), (0, 0), (0, 0), (0, 0), (0, 0), (0, 0), (3, 68), (3, 69), (3, 70), (3, 71), (3, 72), (3, 73), (3, 80), (3, 87), (3, 88), (3, 89), (3, 90), (0, 0), (3, 91), (3, 92), (1, 0), (0, 0), (0, 0), (0, 0), (0, 0), (0, 0), (3, 93), (3, 94), (3, 95), (0, 0), (3, 99), (3, 100), (3, 101), (4, 0), (4, 0), (0, 0), (4, 0), (4, 0), (4, 0), (0, 0), (4, 0), (0, 0), (0, 0), (0, 0), (4, 0), (4, 0), (4, 0), (4, 0)]) C hH k_X10 (by decide +kernel) rfl (by decide) tg_1466 rfl hnm rfl rfl rfl h_102 h_67 rfl dX10_init_181 (fun E40 C hH sm1 => ?_)
  have sm := Sm.tr sm sm1 (Nat.le_of_ble_eq_true rfl)
  have h_67 := Sm.at sm1 (Nat.le_of_ble_eq_true rfl) h_67
  refine G.aload_n C 0 dX10_init_184 rfl rfl ?_
  refine G.bipush (v := (32 : Int32)) C dX10_init_185 (by decide) ?_
  refine G.kZ (N := 32) C hH os_173 tg_361 hZ (by decide) (by decide) (by decide) (Nat.le_of_ble_eq_true rfl) (Nat.le_of_ble_eq_true rfl) dX10_init_187 (fun E41 q41 C hH sm1 h_103 => ?_)
  have hH : eH E41 = shk_174 := hH
  have sm := Sm.tr sm sm1 (Nat.le_of_ble_eq_true rfl)
  have h_67 := Sm.at sm1 (Nat.le_of_ble_eq_true rfl) h_67
  have hZ := Zr.up hZ (k := 104) (Nat.le_of_ble_eq_true rfl)
  refine G.kP (n := 104) (q := 67) (k := 36) (t := 103) (w := 0) (sh2 := shk_175) (fs := [(0, 0), (0, 0), (0, 0), (0, 0), (0, 0), (0, 0), (0, 0), (0, 0), (3, 68), (3, 69), (3, 70), (3, 71), (3, 72), (3, 73), (3, 80), (3, 87), (3, 88), (3, 89), (3, 90), (0, 0), (3, 91), (3, 92), (1, 0), (0, 0), (0, 0), (0, 0), (0, 0), (0, 0), (3, 93), (3, 94), (3, 95), (0, 0), (3, 99), (3, 100), (3, 101), (3, 102), (4, 0), (0, 0), (4, 0), (4, 0), (4, 0), (0, 0), (4, 0), (0, 0), (0, 0), (0, 0), (4, 0), (4, 0), (4, 0), (4, 0)]) C hH k_X10 (by decide +kernel) rfl (by decide) tg_1467 rfl hnm rfl rfl rfl h_103 h_67 rfl dX10_init_189 (fun E42 C hH sm1 => ?_)
  have sm := Sm.tr sm sm1 (Nat.le_of_ble_eq_true rfl)
  have h_67 := Sm.at sm1 (Nat.le_of_ble_eq_true rfl) h_67
  refine G.aload_n C 0 dX10_init_192 rfl rfl ?_
  refine G.bipush (v := (64 : Int32)) C dX10_init_193 (by decide) ?_
  refine G.kI (N := 64) C hH os_175 tg_192 hZ (by decide) (by decide) (by decide) (Nat.le_of_ble_eq_true rfl) (Nat.le_of_ble_eq_true rfl) dX10_init_195 (fun E43 q43 C hH sm1 h_104 => ?_)
  have hH : eH E43 = shk_176 := hH
  have sm := Sm.tr sm sm1 (Nat.le_of_ble_eq_true rfl)
  have h_67 := Sm.at sm1 (Nat.le_of_ble_eq_true rfl) h_67
  have hZ := Zr.up hZ (k := 105) (Nat.le_of_ble_eq_true rfl)
  refine G.kP (n := 105) (q := 67) (k := 38) (t := 104) (w := 0) (sh2 := shk_177) (fs := [(0, 0), (0, 0), (0, 0), (0, 0), (0, 0), (0, 0), (0, 0), (0, 0), (3, 68), (3, 69), (3, 70), (3, 71), (3, 72), (3, 73), (3, 80), (3, 87), (3, 88), (3, 89), (3, 90), (0, 0), (3, 91), (3, 92), (1, 0), (0, 0), (0, 0), (0, 0), (0, 0), (0, 0), (3, 93), (3, 94), (3, 95), (0, 0), (3, 99), (3, 100), (3, 101), (3, 102), (3, 103), (0, 0), (4, 0), (4, 0), (4, 0), (0, 0), (4, 0), (0, 0), (0, 0), (0, 0), (4, 0), (4, 0), (4, 0), (4, 0)]) C hH k_X10 (by decide +kernel) rfl (by decide) tg_1469 rfl hnm rfl rfl rfl h_104 h_67 rfl dX10_init_197 (fun E44 C hH sm1 => ?_)
  have sm := Sm.tr sm sm1 (Nat.le_of_ble_eq_true rfl)
  have h_67 := Sm.at sm1 (Nat.le_of_ble_eq_true rfl) h_67
  refine G.aload_n C 0 dX10_init_200 rfl rfl ?_
  refine G.bipush (v := (64 : Int32)) C dX10_init_201 (by decide) ?_
  refine G.kI (N := 64) C hH os_177 tg_192 hZ (by decide) (by decide) (by decide) (Nat.le_of_ble_eq_true rfl) (Nat.le_of_ble_eq_true rfl) dX10_init_203 (fun E45 q45 C hH sm1 h_105 => ?_)
  have hH : eH E45 = shk_178 := hH
  have sm := Sm.tr sm sm1 (Nat.le_of_ble_eq_true rfl)
  have h_67 := Sm.at sm1 (Nat.le_of_ble_eq_true rfl) h_67
  have hZ := Zr.up hZ (k := 106) (Nat.le_of_ble_eq_true rfl)
  refine G.kP (n := 106) (q := 67) (k := 39) (t := 105) (w := 0) (sh2 := shk_179) (fs := [(0, 0), (0, 0), (0, 0), (0, 0), (0, 0), (0, 0), (0, 0), (0, 0), (3, 68), (3, 69), (3, 70), (3, 71), (3, 72), (3, 73), (3, 80), (3, 87), (3, 88), (3, 89), (3, 90), (0, 0), (3, 91), (3, 92), (1, 0), (0, 0), (0, 0), (0, 0), (0, 0), (0, 0), (3, 93), (3, 94), (3, 95), (0, 0), (3, 99), (3, 100), (3, 101), (3, 102), (3, 103), (0, 0), (3, 104), (4, 0), (4, 0), (0, 0), (4, 0), (0, 0), (0, 0), (0, 0), (4, 0), (4, 0), (4, 0), (4, 0)]) C hH k_X10 (by decide +kernel) rfl (by decide) tg_1470 rfl hnm rfl rfl rfl h_105 h_67 rfl dX10_init_205 (fun E46 C hH sm1 => ?_)
  have sm := Sm.tr sm sm1 (Nat.le_of_ble_eq_true rfl)
  have h_67 := Sm.at sm1 (Nat.le_of_ble_eq_true rfl) h_67
  refine G.aload_n C 0 dX10_init_208 rfl rfl ?_
  refine G.bipush (v := (64 : Int32)) C dX10_init_209 (by decide) ?_
  refine G.kI (N := 64) C hH os_179 tg_192 hZ (by decide) (by decide) (by decide) (Nat.le_of_ble_eq_true rfl) (Nat.le_of_ble_eq_true rfl) dX10_init_211 (fun E47 q47 C hH sm1 h_106 => ?_)
  have hH : eH E47 = shk_180 := hH
  have sm := Sm.tr sm sm1 (Nat.le_of_ble_eq_true rfl)
  have h_67 := Sm.at sm1 (Nat.le_of_ble_eq_true rfl) h_67
  have hZ := Zr.up hZ (k := 107) (Nat.le_of_ble_eq_true rfl)
  refine G.kP (n := 107) (q := 67) (k := 40) (t := 106) (w := 0) (sh2 := shk_181) (fs := [(0, 0), (0, 0), (0, 0), (0, 0), (0, 0), (0, 0), (0, 0), (0, 0), (3, 68), (3, 69), (3, 70), (3, 71), (3, 72), (3, 73), (3, 80), (3, 87), (3, 88), (3, 89), (3, 90), (0, 0), (3, 91), (3, 92), (1, 0), (0, 0), (0, 0), (0, 0), (0, 0), (0, 0), (3, 93), (3, 94), (3, 95), (0, 0), (3, 99), (3, 100), (3, 101), (3, 102), (3, 103), (0, 0), (3, 104), (3, 105), (4, 0), (0, 0), (4, 0), (0, 0), (0, 0), (0, 0), (4, 0), (4, 0), (4, 0), (4, 0)]) C hH k_X10 (by decide +kernel) rfl (by decide) tg_1471 rfl hnm rfl rfl rfl h_106 h_67 rfl dX10_init_213 (fun E48 C hH sm1 => ?_)
  have sm := Sm.tr sm sm1 (Nat.le_of_ble_eq_true rfl)
  have h_67 := Sm.at sm1 (Nat.le_of_ble_eq_true rfl) h_67
  refine G.aload_n C 0 dX10_init_216 rfl rfl ?_
  refine G.bipush (v := (8 : Int32)) C dX10_init_217 (by decide) ?_
  refine G.kI (N := 8) C hH os_181 tg_192 hZ (by decide) (by decide) (by decide) (Nat.le_of_ble_eq_true rfl) (Nat.le_of_ble_eq_true rfl) dX10_init_219 (fun E49 q49 C hH sm1 h_107 => ?_)
  have hH : eH E49 = shk_182 := hH
  have sm := Sm.tr sm sm1 (Nat.le_of_ble_eq_true rfl)
  have h_67 := Sm.at sm1 (Nat.le_of_ble_eq_true rfl) h_67
  have hZ := Zr.up hZ (k := 108) (Nat.le_of_ble_eq_true rfl)
  refine G.kP (n := 108) (q := 67) (k := 42) (t := 107) (w := 0) (sh2 := shk_183) (fs := [(0, 0), (0, 0), (0, 0), (0, 0), (0, 0), (0, 0), (0, 0), (0, 0), (3, 68), (3, 69), (3, 70), (3, 71), (3, 72), (3, 73), (3, 80), (3, 87), (3, 88), (3, 89), (3, 90), (0, 0), (3, 91), (3, 92), (1, 0), (0, 0), (0, 0), (0, 0), (0, 0), (0, 0), (3, 93), (3, 94), (3, 95), (0, 0), (3, 99), (3, 100), (3, 101), (3, 102), (3, 103), (0, 0), (3, 104), (3, 105), (3, 106), (0, 0), (4, 0), (0, 0), (0, 0), (0, 0), (4, 0), (4, 0), (4, 0), (4, 0)]) C hH k_X10 (by decide +kernel) rfl (by decide) tg_1473 rfl hnm rfl rfl rfl h_107 h_67 rfl dX10_init_221 (fun E50 C hH sm1 => ?_)
  have sm := Sm.tr sm sm1 (Nat.le_of_ble_eq_true rfl)
  have h_67 := Sm.at sm1 (Nat.le_of_ble_eq_true rfl) h_67
  refine G.aload_n C 0 dX10_init_224 rfl rfl ?_
  refine G.bipush (v := (16 : Int32)) C dX10_init_225 (by decide) ?_
  refine G.kI (N := 16) C hH os_183 tg_192 hZ (by decide) (by decide) (by decide) (Nat.le_of_ble_eq_true rfl) (Nat.le_of_ble_eq_true rfl) dX10_init_227 (fun E51 q51 C hH sm1 h_108 => ?_)
  have hH : eH E51 = shk_184 := hH
  have sm := Sm.tr sm sm1 (Nat.le_of_ble_eq_true rfl)
  have h_67 := Sm.at sm1 (Nat.le_of_ble_eq_true rfl) h_67
  have hZ := Zr.up hZ (k := 109) (Nat.le_of_ble_eq_true rfl)
  refine G.kP (n := 109) (q := 67) (k := 46) (t := 108) (w := 0) (sh2 := shk_185) (fs := [(0, 0), (0, 0), (0, 0), (0, 0), (0, 0), (0, 0), (0, 0), (0, 0), (3, 68), (3, 69), (3, 70), (3, 71), (3, 72), (3, 73), (3, 80), (3, 87), (3, 88), (3, 89), (3, 90), (0, 0), (3, 91), (3, 92), (1, 0), (0, 0), (0, 0), (0, 0), (0, 0), (0, 0), (3, 93), (3, 94), (3, 95), (0, 0), (3, 99), (3, 100), (3, 101), (3, 102), (3, 103), (0, 0), (3, 104), (3, 105), (3, 106), (0, 0), (3, 107), (0, 0), (0, 0), (0, 0), (4, 0), (4, 0), (4, 0), (4, 0)]) C hH k_X10 (by decide +kernel) rfl (by decide) tg_1477 rfl hnm rfl rfl rfl h_108 h_67 rfl dX10_init_229 (fun E52 C hH sm1 => ?_)
  have sm := Sm.tr sm sm1 (Nat.le_of_ble_eq_true rfl)
  have h_67 := Sm.at sm1 (Nat.le_of_ble_eq_true rfl) h_67
  refine G.aload_n C 0 dX10_init_232 rfl rfl ?_
  refine G.bipush (v := (10 : Int32)) C dX10_init_233 (by decide) ?_
  refine G.kI (N := 10) C hH os_185 tg_192 hZ (by decide) (by decide) (by decide) (Nat.le_of_ble_eq_true rfl) (Nat.le_of_ble_eq_true rfl) dX10_init_235 (fun E53 q53 C hH sm1 h_109 => ?_)
  have hH : eH E53 = shk_186 := hH
  have sm := Sm.tr sm sm1 (Nat.le_of_ble_eq_true rfl)
  have h_67 := Sm.at sm1 (Nat.le_of_ble_eq_true rfl) h_67
  have hZ := Zr.up hZ (k := 110) (Nat.le_of_ble_eq_true rfl)
  refine G.kP (n := 110) (q := 67) (k := 47) (t := 109) (w := 0) (sh2 := shk_187) (fs := [(0, 0), (0, 0), (0, 0), (0, 0), (0, 0), (0, 0), (0, 0), (0, 0), (3, 68), (3, 69), (3, 70), (3, 71), (3, 72), (3, 73), (3, 80), (3, 87), (3, 88), (3, 89), (3, 90), (0, 0), (3, 91), (3, 92), (1, 0), (0, 0), (0, 0), (0, 0), (0, 0), (0, 0), (3, 93), (3, 94), (3, 95), (0, 0), (3, 99), (3, 100), (3, 101), (3, 102), (3, 103), (0, 0), (3, 104), (3, 105), (3, 106), (0, 0), (3, 107), (0, 0), (0, 0), (0, 0), (3, 108), (4, 0), (4, 0), (4, 0)]) C hH k_X10 (by decide +kernel) rfl (by decide) tg_1478 rfl hnm rfl rfl rfl h_109 h_67 rfl dX10_init_237 (fun E54 C hH sm1 => ?_)
  have sm := Sm.tr sm sm1 (Nat.le_of_ble_eq_true rfl)
  have h_67 := Sm.at sm1 (Nat.le_of_ble_eq_true rfl) h_67
  refine G.aload_n C 0 dX10_init_240 rfl rfl ?_
  refine G.bipush (v := (10 : Int32)) C dX10_init_241 (by decide) ?_
  refine G.kI (N := 10) C hH os_187 tg_192 hZ (by decide) (by decide) (by decide) (Nat.le_of_ble_eq_true rfl) (Nat.le_of_ble_eq_true rfl) dX10_init_243 (fun E55 q55 C hH sm1 h_110 => ?_)
  have hH : eH E55 = shk_188 := hH
  have sm := Sm.tr sm sm1 (Nat.le_of_ble_eq_true rfl)
  have h_67 := Sm.at sm1 (Nat.le_of_ble_eq_true rfl) h_67
  have hZ := Zr.up hZ (k := 111) (Nat.le_of_ble_eq_true rfl)
  refine G.kP (n := 111) (q := 67) (k := 48) (t := 110) (w := 0) (sh2 := shk_189) (fs := [(0, 0), (0, 0), (0, 0), (0, 0), (0, 0), (0, 0), (0, 0), (0, 0), (3, 68), (3, 69), (3, 70), (3, 71), (3, 72), (3, 73), (3, 80), (3, 87), (3, 88), (3, 89), (3, 90), (0, 0), (3, 91), (3, 92), (1, 0), (0, 0), (0, 0), (0, 0), (0, 0), (0, 0), (3, 93), (3, 94), (3, 95), (0, 0), (3, 99), (3, 100), (3, 101), (3, 102), (3, 103), (0, 0), (3, 104), (3, 105), (3, 106), (0, 0), (3, 107), (0, 0), (0, 0), (0, 0), (3, 108), (3, 109), (4, 0), (4, 0)]) C hH k_X10 (by decide +kernel) rfl (by decide) tg_1479 rfl hnm rfl rfl rfl h_110 h_67 rfl dX10_init_245 (fun E56 C hH sm1 => ?_)
  have sm := Sm.tr sm sm1 (Nat.le_of_ble_eq_true rfl)
  have h_67 := Sm.at sm1 (Nat.le_of_ble_eq_true rfl) h_67
  refine G.aload_n C 0 dX10_init_248 rfl rfl ?_
  refine G.bipush (v := (8 : Int32)) C dX10_init_249 (by decide) ?_
  refine G.bipush (v := (8 : Int32)) C dX10_init_251 (by decide) ?_
  refine G.kM (kO := 6) (k0 := 2) (N := 8) (K := 8) (ty := .boolean) (z := (8, .inl (fun _ => 0))) (nm := "") (nmO := "[" ++ (FieldType.array .boolean).toString) C hH os_189 [.inl (6, 8, [112, 113, 114, 115, 116, 117, 118, 119]), .inl (2, 8, []), .inl (2, 8, []), .inl (2, 8, []), .inl (2, 8, []), .inl (2, 8, []), .inl (2, 8, []), .inl (2, 8, []), .inl (2, 8, [])] tg_1429 (C.2.2.2.2.2.2.2.2.2.1.2.2.2.2.2.2.2.2.2.2.2.2.2) tg_361 (fun _ => rfl) (fun _ => rfl) (fun _ h => h) (fun _ h => va_nm_boolean h) (fun _ _ _ => rfl) (fun _ _ hc => aclZ hZ hc) (fun _ => rfl) (by decide) (by decide) (by decide) (by decide) (by decide) (by decide) (by decide) rfl rfl (Nat.le_of_ble_eq_true rfl) (Nat.le_of_ble_eq_true rfl) dX10_init_253 (by decide +kernel) (fun E57 q57 C hH sm1 h_111 => ?_)
  have hH : eH E57 = shk_190 := hH
  have sm := Sm.tr sm sm1 (Nat.le_of_ble_eq_true rfl)
  have h_67 := Sm.at sm1 (Nat.le_of_ble_eq_true rfl) h_67
  have hZ := Zr.up hZ (k := 120) (Nat.le_of_ble_eq_true rfl)
  refine G.kP (n := 120) (q := 67) (k := 49) (t := 111) (w := 0) (sh2 := shk_191) (fs := [(0, 0), (0, 0), (0, 0), (0, 0), (0, 0), (0, 0), (0, 0), (0, 0), (3, 68), (3, 69), (3, 70), (3, 71), (3, 72), (3, 73), (3, 80), (3, 87), (3, 88), (3, 89), (3, 90), (0, 0), (3, 91), (3, 92), (1, 0), (0, 0), (0, 0), (0, 0), (0, 0), (0, 0), (3, 93), (3, 94), (3, 95), (0, 0), (3, 99), (3, 100), (3, 101), (3, 102), (3, 103), (0, 0), (3, 104), (3, 105), (3, 106), (0, 0), (3, 107), (0, 0), (0, 0), (0, 0), (3, 108), (3, 109), (3, 110), (4, 0)]) C hH k_X10 (by decide +kernel) rfl (by decide) tg_1480 rfl hnm rfl rfl rfl h_111 h_67 rfl dX10_init_257 (fun E58 C hH sm1 => ?_)
  have sm := Sm.tr sm sm1 (Nat.le_of_ble_eq_true rfl)
  have h_67 := Sm.at sm1 (Nat.le_of_ble_eq_true rfl) h_67
  refine G.iconst (v := (0 : Int32)) C dX10_init_260 (by decide) ?_
  refine G.istore_n (L' := [(1, .int (0 : Int32)), (0, .ref a)]) C dX10_init_261 rfl rfl (by decide) rfl ?_
  refine G.iload_n C 0 dX10_init_262 rfl rfl ?_
  refine G.bipush (v := (10 : Int32)) C dX10_init_263 (by decide) ?_
  refine G.icmp_ge (tgt := 281) C dX10_init_265 (by decide) (fun hc => absurd hc (by decide)) (fun _ => ?_)
  refine G.aload_n C 1 dX10_init_268 rfl rfl ?_
  refine G.getRa (q := 67) (k := 18) (w := 90) (fs := [(0, 0), (0, 0), (0, 0), (0, 0), (0, 0), (0, 0), (0, 0), (0, 0), (3, 68), (3, 69), (3, 70), (3, 71), (3, 72), (3, 73), (3, 80), (3, 87), (3, 88), (3, 89), (3, 90), (0, 0), (3, 91), (3, 92), (1, 0), (0, 0), (0, 0), (0, 0), (0, 0), (0, 0), (3, 93), (3, 94), (3, 95), (0, 0), (3, 99), (3, 100), (3, 101), (3, 102), (3, 103), (0, 0), (3, 104), (3, 105), (3, 106), (0, 0), (3, 107), (0, 0), (0, 0), (0, 0), (3, 108), (3, 109), (3, 110), (3, 111)]) C hH h_67 k_X10 (by decide +kernel) rfl (by decide) tg_1449 dX10_init_269 ?_
  refine G.iload_n C 0 dX10_init_272 rfl rfl ?_
  refine G.iconst (v := (4 : Int32)) C dX10_init_273 (by decide) ?_
  refine G.sI (q := 90) (n := 10) (rs := []) (j := 0) (M' := (mk_13 M)) C (by rw [hH]; decide +kernel) (by decide) (by decide) dX10_init_274 rfl ?_
  refine G.iinc (L' := [(1, .int (1 : Int32)), (0, .ref a)]) (v := (1 : Int32)) C 0 dX10_init_275 rfl (by decide) (by decide) rfl ?_
  refine G.goto (tgt := 262) C dX10_init_278 (by decide) ?_
  refine G.iload_n C 0 dX10_init_262 rfl rfl ?_
  refine G.bipush (v := (10 : Int32)) C dX10_init_263 (by decide) ?_
  refine G.icmp_ge (tgt := 281) C dX10_init_265 (by decide) (fun hc => absurd hc (by decide)) (fun _ => ?_)
  refine G.aload_n C 1 dX10_init_268 rfl rfl ?_
  refine G.getRa (q := 67) (k := 18) (w := 90) (fs := [(0, 0), (0, 0), (0, 0), (0, 0), (0, 0), (0, 0), (0, 0), (0, 0), (3, 68), (3, 69), (3, 70), (3, 71), (3, 72), (3, 73), (3, 80), (3, 87), (3, 88), (3, 89), (3, 90), (0, 0), (3, 91), (3, 92), (1, 0), (0, 0), (0, 0), (0, 0), (0, 0), (0, 0), (3, 93), (3, 94), (3, 95), (0, 0), (3, 99), (3, 100), (3, 101), (3, 102), (3, 103), (0, 0), (3, 104), (3, 105), (3, 106), (0, 0), (3, 107), (0, 0), (0, 0), (0, 0), (3, 108), (3, 109), (3, 110), (3, 111)]) C hH h_67 k_X10 (by decide +kernel) rfl (by decide) tg_1449 dX10_init_269 ?_
  refine G.iload_n C 0 dX10_init_272 rfl rfl ?_
  refine G.iconst (v := (4 : Int32)) C dX10_init_273 (by decide) ?_
  refine G.sI (q := 90) (n := 10) (rs := []) (j := 1) (M' := (mk_14 M)) C (by rw [hH]; decide +kernel) (by decide) (by decide) dX10_init_274 rfl ?_
  refine G.iinc (L' := [(1, .int (2 : Int32)), (0, .ref a)]) (v := (2 : Int32)) C 0 dX10_init_275 rfl (by decide) (by decide) rfl ?_
  refine G.goto (tgt := 262) C dX10_init_278 (by decide) ?_
  refine G.iload_n C 0 dX10_init_262 rfl rfl ?_
  refine G.bipush (v := (10 : Int32)) C dX10_init_263 (by decide) ?_
  refine G.icmp_ge (tgt := 281) C dX10_init_265 (by decide) (fun hc => absurd hc (by decide)) (fun _ => ?_)
  refine G.aload_n C 1 dX10_init_268 rfl rfl ?_
  refine G.getRa (q := 67) (k := 18) (w := 90) (fs := [(0, 0), (0, 0), (0, 0), (0, 0), (0, 0), (0, 0), (0, 0), (0, 0), (3, 68), (3, 69), (3, 70), (3, 71), (3, 72), (3, 73), (3, 80), (3, 87), (3, 88), (3, 89), (3, 90), (0, 0), (3, 91), (3, 92), (1, 0), (0, 0), (0, 0), (0, 0), (0, 0), (0, 0), (3, 93), (3, 94), (3, 95), (0, 0), (3, 99), (3, 100), (3, 101), (3, 102), (3, 103), (0, 0), (3, 104), (3, 105), (3, 106), (0, 0), (3, 107), (0, 0), (0, 0), (0, 0), (3, 108), (3, 109), (3, 110), (3, 111)]) C hH h_67 k_X10 (by decide +kernel) rfl (by decide) tg_1449 dX10_init_269 ?_
  refine G.iload_n C 0 dX10_init_272 rfl rfl ?_
  refine G.iconst (v := (4 : Int32)) C dX10_init_273 (by decide) ?_
  refine G.sI (q := 90) (n := 10) (rs := []) (j := 2) (M' := (mk_15 M)) C (by rw [hH]; decide +kernel) (by decide) (by decide) dX10_init_274 rfl ?_
  refine G.iinc (L' := [(1, .int (3 : Int32)), (0, .ref a)]) (v := (3 : Int32)) C 0 dX10_init_275 rfl (by decide) (by decide) rfl ?_
  refine G.goto (tgt := 262) C dX10_init_278 (by decide) ?_
  refine G.iload_n C 0 dX10_init_262 rfl rfl ?_
  refine G.bipush (v := (10 : Int32)) C dX10_init_263 (by decide) ?_
  refine G.icmp_ge (tgt := 281) C dX10_init_265 (by decide) (fun hc => absurd hc (by decide)) (fun _ => ?_)
  refine G.aload_n C 1 dX10_init_268 rfl rfl ?_
  refine G.getRa (q := 67) (k := 18) (w := 90) (fs := [(0, 0), (0, 0), (0, 0), (0, 0), (0, 0), (0, 0), (0, 0), (0, 0), (3, 68), (3, 69), (3, 70), (3, 71), (3, 72), (3, 73), (3, 80), (3, 87), (3, 88), (3, 89), (3, 90), (0, 0), (3, 91), (3, 92), (1, 0), (0, 0), (0, 0), (0, 0), (0, 0), (0, 0), (3, 93), (3, 94), (3, 95), (0, 0), (3, 99), (3, 100), (3, 101), (3, 102), (3, 103), (0, 0), (3, 104), (3, 105), (3, 106), (0, 0), (3, 107), (0, 0), (0, 0), (0, 0), (3, 108), (3, 109), (3, 110), (3, 111)]) C hH h_67 k_X10 (by decide +kernel) rfl (by decide) tg_1449 dX10_init_269 ?_
  refine G.iload_n C 0 dX10_init_272 rfl rfl ?_
  refine G.iconst (v := (4 : Int32)) C dX10_init_273 (by decide) ?_
  refine G.sI (q := 90) (n := 10) (rs := []) (j := 3) (M' := (mk_16 M)) C (by rw [hH]; decide +kernel) (by decide) (by decide) dX10_init_274 rfl ?_
  refine G.iinc (L' := [(1, .int (4 : Int32)), (0, .ref a)]) (v := (4 : Int32)) C 0 dX10_init_275 rfl (by decide) (by decide) rfl ?_
  refine G.goto (tgt := 262) C dX10_init_278 (by decide) ?_
  refine G.iload_n C 0 dX10_init_262 rfl rfl ?_
  refine G.bipush (v := (10 : Int32)) C dX10_init_263 (by decide) ?_
  refine G.icmp_ge (tgt := 281) C dX10_init_265 (by decide) (fun hc => absurd hc (by decide)) (fun _ => ?_)
  refine G.aload_n C 1 dX10_init_268 rfl rfl ?_
  refine G.getRa (q := 67) (k := 18) (w := 90) (fs := [(0, 0), (0, 0), (0, 0), (0, 0), (0, 0), (0, 0), (0, 0), (0, 0), (3, 68), (3, 69), (3, 70), (3, 71), (3, 72), (3, 73), (3, 80), (3, 87), (3, 88), (3, 89), (3, 90), (0, 0), (3, 91), (3, 92), (1, 0), (0, 0), (0, 0), (0, 0), (0, 0), (0, 0), (3, 93), (3, 94), (3, 95), (0, 0), (3, 99), (3, 100), (3, 101), (3, 102), (3, 103), (0, 0), (3, 104), (3, 105), (3, 106), (0, 0), (3, 107), (0, 0), (0, 0), (0, 0), (3, 108), (3, 109), (3, 110), (3, 111)]) C hH h_67 k_X10 (by decide +kernel) rfl (by decide) tg_1449 dX10_init_269 ?_
  refine G.iload_n C 0 dX10_init_272 rfl rfl ?_
  refine G.iconst (v := (4 : Int32)) C dX10_init_273 (by decide) ?_
  refine G.sI (q := 90) (n := 10) (rs := []) (j := 4) (M' := (mk_17 M)) C (by rw [hH]; decide +kernel) (by decide) (by decide) dX10_init_274 rfl ?_
  refine G.iinc (L' := [(1, .int (5 : Int32)), (0, .ref a)]) (v := (5 : Int32)) C 0 dX10_init_275 rfl (by decide) (by decide) rfl ?_
  refine G.goto (tgt := 262) C dX10_init_278 (by decide) ?_
  refine G.iload_n C 0 dX10_init_262 rfl rfl ?_
  refine G.bipush (v := (10 : Int32)) C dX10_init_263 (by decide) ?_
  refine G.icmp_ge (tgt := 281) C dX10_init_265 (by decide) (fun hc => absurd hc (by decide)) (fun _ => ?_)
  refine G.aload_n C 1 dX10_init_268 rfl rfl ?_
  refine G.getRa (q := 67) (k := 18) (w := 90) (fs := [(0, 0), (0, 0), (0, 0), (0, 0), (0, 0), (0, 0), (0, 0), (0, 0), (3, 68), (3, 69), (3, 70), (3, 71), (3, 72), (3, 73), (3, 80), (3, 87), (3, 88), (3, 89), (3, 90), (0, 0), (3, 91), (3, 92), (1, 0), (0, 0), (0, 0), (0, 0), (0, 0), (0, 0), (3, 93), (3, 94), (3, 95), (0, 0), (3, 99), (3, 100), (3, 101), (3, 102), (3, 103), (0, 0), (3, 104), (3, 105), (3, 106), (0, 0), (3, 107), (0, 0), (0, 0), (0, 0), (3, 108), (3, 109), (3, 110), (3, 111)]) C hH h_67 k_X10 (by decide +kernel) rfl (by decide) tg_1449 dX10_init_269 ?_
  refine G.iload_n C 0 dX10_init_272 rfl rfl ?_
  refine G.iconst (v := (4 : Int32)) C dX10_init_273 (by decide) ?_
  refine G.sI (q := 90) (n := 10) (rs := []) (j := 5) (M' := (mk_18 M)) C (by rw [hH]; decide +kernel) (by decide) (by decide) dX10_init_274 rfl ?_
  refine G.iinc (L' := [(1, .int (6 : Int32)), (0, .ref a)]) (v := (6 : Int32)) C 0 dX10_init_275 rfl (by decide) (by decide) rfl ?_
  refine G.goto (tgt := 262) C dX10_init_278 (by decide) ?_
  refine G.iload_n C 0 dX10_init_262 rfl rfl ?_
  refine G.bipush (v := (10 : Int32)) C dX10_init_263 (by decide) ?_
  refine G.icmp_ge (tgt := 281) C dX10_init_265 (by decide) (fun hc => absurd hc (by decide)) (fun _ => ?_)
  refine G.aload_n C 1 dX10_init_268 rfl rfl ?_
  refine G.getRa (q := 67) (k := 18) (w := 90) (fs := [(0, 0), (0, 0), (0, 0), (0, 0), (0, 0), (0, 0), (0, 0), (0, 0), (3, 68), (3, 69), (3, 70), (3, 71), (3, 72), (3, 73), (3, 80), (3, 87), (3, 88), (3, 89), (3, 90), (0, 0), (3, 91), (3, 92), (1, 0), (0, 0), (0, 0), (0, 0), (0, 0), (0, 0), (3, 93), (3, 94), (3, 95), (0, 0), (3, 99), (3, 100), (3, 101), (3, 102), (3, 103), (0, 0), (3, 104), (3, 105), (3, 106), (0, 0), (3, 107), (0, 0), (0, 0), (0, 0), (3, 108), (3, 109), (3, 110), (3, 111)]) C hH h_67 k_X10 (by decide +kernel) rfl (by decide) tg_1449 dX10_init_269 ?_
  refine G.iload_n C 0 dX10_init_272 rfl rfl ?_
  refine G.iconst (v := (4 : Int32)) C dX10_init_273 (by decide) ?_
  refine G.sI (q := 90) (n := 10) (rs := []) (j := 6) (M' := (mk_19 M)) C (by rw [hH]; decide +kernel) (by decide) (by decide) dX10_init_274 rfl ?_
  refine G.iinc (L' := [(1, .int (7 : Int32)), (0, .ref a)]) (v := (7 : Int32)) C 0 dX10_init_275 rfl (by decide) (by decide) rfl ?_
  refine G.goto (tgt := 262) C dX10_init_278 (by decide) ?_
  refine G.iload_n C 0 dX10_init_262 rfl rfl ?_
  refine G.bipush (v := (10 : Int32)) C dX10_init_263 (by decide) ?_
  refine G.icmp_ge (tgt := 281) C dX10_init_265 (by decide) (fun hc => absurd hc (by decide)) (fun _ => ?_)
  refine G.aload_n C 1 dX10_init_268 rfl rfl ?_
  refine G.getRa (q := 67) (k := 18) (w := 90) (fs := [(0, 0), (0, 0), (0, 0), (0, 0), (0, 0), (0, 0), (0, 0), (0, 0), (3, 68), (3, 69), (3, 70), (3, 71), (3, 72), (3, 73), (3, 80), (3, 87), (3, 88), (3, 89), (3, 90), (0, 0), (3, 91), (3, 92), (1, 0), (0, 0), (0, 0), (0, 0), (0, 0), (0, 0), (3, 93), (3, 94), (3, 95), (0, 0), (3, 99), (3, 100), (3, 101), (3, 102), (3, 103), (0, 0), (3, 104), (3, 105), (3, 106), (0, 0), (3, 107), (0, 0), (0, 0), (0, 0), (3, 108), (3, 109), (3, 110), (3, 111)]) C hH h_67 k_X10 (by decide +kernel) rfl (by decide) tg_1449 dX10_init_269 ?_
  refine G.iload_n C 0 dX10_init_272 rfl rfl ?_
  refine G.iconst (v := (4 : Int32)) C dX10_init_273 (by decide) ?_
  refine G.sI (q := 90) (n := 10) (rs := []) (j := 7) (M' := (mk_20 M)) C (by rw [hH]; decide +kernel) (by decide) (by decide) dX10_init_274 rfl ?_
  refine G.iinc (L' := [(1, .int (8 : Int32)), (0, .ref a)]) (v := (8 : Int32)) C 0 dX10_init_275 rfl (by decide) (by decide) rfl ?_
  refine G.goto (tgt := 262) C dX10_init_278 (by decide) ?_
  refine G.iload_n C 0 dX10_init_262 rfl rfl ?_
  refine G.bipush (v := (10 : Int32)) C dX10_init_263 (by decide) ?_
  refine G.icmp_ge (tgt := 281) C dX10_init_265 (by decide) (fun hc => absurd hc (by decide)) (fun _ => ?_)
  refine G.aload_n C 1 dX10_init_268 rfl rfl ?_
  refine G.getRa (q := 67) (k := 18) (w := 90) (fs := [(0, 0), (0, 0), (0, 0), (0, 0), (0, 0), (0, 0), (0, 0), (0, 0), (3, 68), (3, 69), (3, 70), (3, 71), (3, 72), (3, 73), (3, 80), (3, 87), (3, 88), (3, 89), (3, 90), (0, 0), (3, 91), (3, 92), (1, 0), (0, 0), (0, 0), (0, 0), (0, 0), (0, 0), (3, 93), (3, 94), (3, 95), (0, 0), (3, 99), (3, 100), (3, 101), (3, 102), (3, 103), (0, 0), (3, 104), (3, 105), (3, 106), (0, 0), (3, 107), (0, 0), (0, 0), (0, 0), (3, 108), (3, 109), (3, 110), (3, 111)]) C hH h_67 k_X10 (by decide +kernel) rfl (by decide) tg_1449 dX10_init_269 ?_
  refine G.iload_n C 0 dX10_init_272 rfl rfl ?_
  refine G.iconst (v := (4 : Int32)) C dX10_init_273 (by decide) ?_
  refine G.sI (q := 90) (n := 10) (rs := []) (j := 8) (M' := (mk_21 M)) C (by rw [hH]; decide +kernel) (by decide) (by decide) dX10_init_274 rfl ?_
  refine G.iinc (L' := [(1, .int (9 : Int32)), (0, .ref a)]) (v := (9 : Int32)) C 0 dX10_init_275 rfl (by decide) (by decide) rfl ?_
  refine G.goto (tgt := 262) C dX10_init_278 (by decide) ?_
  refine G.iload_n C 0 dX10_init_262 rfl rfl ?_
  refine G.bipush (v := (10 : Int32)) C dX10_init_263 (by decide) ?_
  refine G.icmp_ge (tgt := 281) C dX10_init_265 (by decide) (fun hc => absurd hc (by decide)) (fun _ => ?_)
  refine G.aload_n C 1 dX10_init_268 rfl rfl ?_
  refine G.getRa (q := 67) (k := 18) (w := 90) (fs := [(0, 0), (0, 0), (0, 0), (0, 0), (0, 0), (0, 0), (0, 0), (0, 0), (3, 68), (3, 69), (3, 70), (3, 71), (3, 72), (3, 73), (3, 80), (3, 87), (3, 88), (3, 89), (3, 90), (0, 0), (3, 91), (3, 92), (1, 0), (0, 0), (0, 0), (0, 0), (0, 0), (0, 0), (3, 93), (3, 94), (3, 95), (0, 0), (3, 99), (3, 100), (3, 101), (3, 102), (3, 103), (0, 0), (3, 104), (3, 105), (3, 106), (0, 0), (3, 107), (0, 0), (0, 0), (0, 0), (3, 108), (3, 109), (3, 110), (3, 111)]) C hH h_67 k_X10 (by decide +kernel) rfl (by decide) tg_1449 dX10_init_269 ?_
  refine G.iload_n C 0 dX10_init_272 rfl rfl ?_
  refine G.iconst (v := (4 : Int32)) C dX10_init_273 (by decide) ?_
  refine G.sI (q := 90) (n := 10) (rs := []) (j := 9) (M' := (mk_22 M)) C (by rw [hH]; decide +kernel) (by decide) (by decide) dX10_init_274 rfl ?_
  refine G.iinc (L' := [(1, .int (10 : Int32)), (0, .ref a)]) (v := (10 : Int32)) C 0 dX10_init_275 rfl (by decide) (by decide) rfl ?_
  refine G.goto (tgt := 262) C dX10_init_278 (by decide) ?_
  refine G.iload_n C 0 dX10_init_262 rfl rfl ?_
  refine G.bipush (v := (10 : Int32)) C dX10_init_263 (by decide) ?_
  refine G.icmp_ge (tgt := 281) C dX10_init_265 (by decide) (fun _ => ?_) (fun hc => absurd (by decide) hc)
  exact G.kR C sm hH os_191 hr dX10_init_281
