/-! THE CHECK, proofs 2 -/
set_option maxRecDepth 100000 in
theorem chk_100 : chkM 100 = true := by decide +kernel
set_option maxRecDepth 100000 in
theorem chk_101 : chkM 101 = true := by decide +kernel
set_option maxRecDepth 100000 in
theorem chk_102 : chkM 102 = true := by decide +kernel
set_option maxRecDepth 100000 in
theorem chk_103 : chkM 103 = true := by decide +kernel
set_option maxRecDepth 100000 in
theorem chk_104 : chkM 104 = true := by decide +kernel
set_option maxRecDepth 100000 in
theorem chk_105 : chkM 105 = true := by decide +kernel
set_option maxRecDepth 100000 in
theorem chk_106 : chkM 106 = true := by decide +kernel
set_option maxRecDepth 100000 in
theorem chk_107 : chkM 107 = true := by decide +kernel
set_option maxRecDepth 100000 in
theorem chk_108 : chkM 108 = true := by decide +kernel
set_option maxRecDepth 100000 in
theorem chk_109 : chkM 109 = true := by decide +kernel
set_option maxRecDepth 100000 in
theorem chk_110 : chkM 110 = true := by decide +kernel
set_option maxRecDepth 100000 in
theorem chk_111 : chkM 111 = true := by decide +kernel
set_option maxRecDepth 100000 in
theorem chk_112 : chkM 112 = true := by decide +kernel
set_option maxRecDepth 100000 in
theorem chk_113 : chkM 113 = true := by decide +kernel
set_option maxRecDepth 100000 in
theorem chk_114 : chkM 114 = true := by decide +kernel
set_option maxRecDepth 100000 in
theorem chk_115 : chkM 115 = true := by decide +kernel
set_option maxRecDepth 100000 in
theorem chk_116 : chkM 116 = true := by decide +kernel
set_option maxRecDepth 100000 in
theorem chk_117 : chkM 117 = true := by decide +kernel
set_option maxRecDepth 100000 in
theorem chk_118 : chkM 118 = true := by decide +kernel
set_option maxRecDepth 100000 in
theorem chk_119 : chkM 119 = true := by decide +kernel
set_option maxRecDepth 100000 in
theorem chk_120 : chkM 120 = true := by decide +kernel
set_option maxRecDepth 100000 in
theorem chk_121 : chkM 121 = true := by decide +kernel
set_option maxRecDepth 100000 in
theorem chk_122 : chkM 122 = true := by decide +kernel
set_option maxRecDepth 100000 in
theorem chk_123 : chkM 123 = true := by decide +kernel
set_option maxRecDepth 100000 in
theorem chk_124 : chkM 124 = true := by decide +kernel
set_option maxRecDepth 100000 in
theorem chk_125 : chkM 125 = true := by decide +kernel
set_option maxRecDepth 100000 in
theorem chk_126 : chkM 126 = true := by decide +kernel
set_option maxRecDepth 100000 in
theorem chk_127 : chkM 127 = true := by decide +kernel
set_option maxRecDepth 100000 in
theorem chk_128 : chkM 128 = true := by decide +kernel
set_option maxRecDepth 100000 in
theorem chk_129 : chkM 129 = true := by decide +kernel
set_option maxRecDepth 100000 in
theorem chk_130 : chkM 130 = true := by decide +kernel
set_option maxRecDepth 100000 in
theorem chk_131 : chkM 131 = true := by decide +kernel
set_option maxRecDepth 100000 in
theorem chk_132 : chkM 132 = true := by decide +kernel
set_option maxRecDepth 100000 in
theorem chk_133 : chkM 133 = true := by decide +kernel
set_option maxRecDepth 100000 in
theorem chk_134 : chkM 134 = true := by decide +kernel
set_option maxRecDepth 100000 in
theorem chk_135 : chkM 135 = true := by decide +kernel
set_option maxRecDepth 100000 in
theorem chk_136 : chkM 136 = true := by decide +kernel
set_option maxRecDepth 100000 in
theorem chk_137 : chkM 137 = true := by decide +kernel
set_option maxRecDepth 100000 in
theorem chk_138 : chkM 138 = true := by decide +kernel
set_option maxRecDepth 100000 in
theorem chk_139 : chkM 139 = true := by decide +kernel
set_option maxRecDepth 100000 in
theorem chk_140 : chkM 140 = true := by decide +kernel
set_option maxRecDepth 100000 in
theorem chk_141 : chkM 141 = true := by decide +kernel
set_option maxRecDepth 100000 in
theorem chk_142 : chkM 142 = true := by decide +kernel
set_option maxRecDepth 100000 in
theorem chk_143 : chkM 143 = true := by decide +kernel
set_option maxRecDepth 100000 in
theorem chk_144 : chkM 144 = true := by decide +kernel
set_option maxRecDepth 100000 in
theorem chk_145 : chkM 145 = true := by decide +kernel
set_option maxRecDepth 100000 in
theorem chk_146 : chkM 146 = true := by decide +kernel
set_option maxRecDepth 100000 in
theorem chk_147 : chkM 147 = true := by decide +kernel
set_option maxRecDepth 100000 in
theorem chk_148 : chkM 148 = true := by decide +kernel
set_option maxRecDepth 100000 in
theorem chk_149 : chkM 149 = true := by decide +kernel
set_option maxRecDepth 100000 in
theorem chk_150 : chkM 150 = true := by decide +kernel
set_option maxRecDepth 100000 in
theorem chk_151 : chkM 151 = true := by decide +kernel
set_option maxRecDepth 100000 in
theorem chk_152 : chkM 152 = true := by decide +kernel
set_option maxRecDepth 100000 in
theorem chk_153 : chkM 153 = true := by decide +kernel
set_option maxRecDepth 100000 in
theorem chk_154 : chkM 154 = true := by decide +kernel
set_option maxRecDepth 100000 in
theorem chk_155 : chkM 155 = true := by decide +kernel
set_option maxRecDepth 100000 in
theorem chk_156 : chkM 156 = true := by decide +kernel
set_option maxRecDepth 100000 in
theorem chk_157 : chkM 157 = true := by decide +kernel
set_option maxRecDepth 100000 in
theorem chk_158 : chkM 158 = true := by decide +kernel
set_option maxRecDepth 100000 in
theorem chk_159 : chkM 159 = true := by decide +kernel
set_option maxRecDepth 100000 in
theorem chk_160 : chkM 160 = true := by decide +kernel
set_option maxRecDepth 100000 in
theorem chk_161 : chkM 161 = true := by decide +kernel
set_option maxRecDepth 100000 in
theorem chk_162 : chkM 162 = true := by decide +kernel
set_option maxRecDepth 100000 in
theorem chk_163 : chkM 163 = true := by decide +kernel
set_option maxRecDepth 100000 in
theorem chk_164 : chkM 164 = true := by decide +kernel
set_option maxRecDepth 100000 in
theorem chk_165 : chkM 165 = true := by decide +kernel
set_option maxRecDepth 100000 in
theorem chk_166 : chkM 166 = true := by decide +kernel
set_option maxRecDepth 100000 in
theorem chk_167 : chkM 167 = true := by decide +kernel
set_option maxRecDepth 100000 in
theorem chk_168 : chkM 168 = true := by decide +kernel
set_option maxRecDepth 100000 in
theorem chk_169 : chkM 169 = true := by decide +kernel
set_option maxRecDepth 100000 in
theorem chk_170 : chkM 170 = true := by decide +kernel
set_option maxRecDepth 100000 in
theorem chk_171 : chkM 171 = true := by decide +kernel
set_option maxRecDepth 100000 in
theorem chk_172 : chkM 172 = true := by decide +kernel
set_option maxRecDepth 100000 in
theorem chk_173 : chkM 173 = true := by decide +kernel
set_option maxRecDepth 100000 in
theorem chk_174 : chkM 174 = true := by decide +kernel
set_option maxRecDepth 100000 in
theorem chk_175 : chkM 175 = true := by decide +kernel
set_option maxRecDepth 100000 in
theorem chk_176 : chkM 176 = true := by decide +kernel
set_option maxRecDepth 100000 in
theorem chk_177 : chkM 177 = true := by decide +kernel
set_option maxRecDepth 100000 in
theorem chk_178 : chkM 178 = true := by decide +kernel
set_option maxRecDepth 100000 in
theorem chk_179 : chkM 179 = true := by decide +kernel
set_option maxRecDepth 100000 in
theorem chk_180 : chkM 180 = true := by decide +kernel
set_option maxRecDepth 100000 in
theorem chk_181 : chkM 181 = true := by decide +kernel
set_option maxRecDepth 100000 in
theorem chk_182 : chkM 182 = true := by decide +kernel
set_option maxRecDepth 100000 in
theorem chk_183 : chkM 183 = true := by decide +kernel
set_option maxRecDepth 100000 in
theorem chk_184 : chkM 184 = true := by decide +kernel
set_option maxRecDepth 100000 in
theorem chk_185 : chkM 185 = true := by decide +kernel
set_option maxRecDepth 100000 in
theorem chk_186 : chkM 186 = true := by decide +kernel
set_option maxRecDepth 100000 in
theorem chk_187 : chkM 187 = true := by decide +kernel
set_option maxRecDepth 100000 in
theorem chk_188 : chkM 188 = true := by decide +kernel
set_option maxRecDepth 100000 in
theorem chk_189 : chkM 189 = true := by decide +kernel
set_option maxRecDepth 100000 in
theorem chk_190 : chkM 190 = true := by decide +kernel
set_option maxRecDepth 100000 in
theorem chk_191 : chkM 191 = true := by decide +kernel
set_option maxRecDepth 100000 in
theorem chk_192 : chkM 192 = true := by decide +kernel
set_option maxRecDepth 100000 in
theorem chk_193 : chkM 193 = true := by decide +kernel
set_option maxRecDepth 100000 in
theorem chk_194 : chkM 194 = true := by decide +kernel
set_option maxRecDepth 100000 in
theorem chk_195 : chkM 195 = true := by decide +kernel
set_option maxRecDepth 100000 in
theorem chk_196 : chkM 196 = true := by decide +kernel
set_option maxRecDepth 100000 in
theorem chk_197 : chkM 197 = true := by decide +kernel
set_option maxRecDepth 100000 in
theorem chk_198 : chkM 198 = true := by decide +kernel
set_option maxRecDepth 100000 in
theorem chk_199 : chkM 199 = true := by decide +kernel
