set_option maxRecDepth 100000 in
theorem ok_132 : aOKm m_132 = true := by decide +kernel
set_option maxRecDepth 100000 in
theorem mk_132 : aMchk m_132 = true := by decide +kernel
set_option maxRecDepth 100000 in
theorem ok_133 : aOKm m_133 = true := by decide +kernel
set_option maxRecDepth 100000 in
theorem mk_133 : aMchk m_133 = true := by decide +kernel
set_option maxRecDepth 100000 in
theorem ok_134 : aOKm m_134 = true := by decide +kernel
set_option maxRecDepth 100000 in
theorem mk_134 : aMchk m_134 = true := by decide +kernel
set_option maxRecDepth 100000 in
theorem ok_135 : aOKm m_135 = true := by decide +kernel
set_option maxRecDepth 100000 in
theorem mk_135 : aMchk m_135 = true := by decide +kernel
set_option maxRecDepth 100000 in
theorem ok_136 : aOKm m_136 = true := by decide +kernel
set_option maxRecDepth 100000 in
theorem mk_136 : aMchk m_136 = true := by decide +kernel
set_option maxRecDepth 100000 in
theorem ok_137 : aOKm m_137 = true := by decide +kernel
set_option maxRecDepth 100000 in
theorem mk_137 : aMchk m_137 = true := by decide +kernel
set_option maxRecDepth 100000 in
theorem ok_138 : aOKm m_138 = true := by decide +kernel
set_option maxRecDepth 100000 in
theorem mk_138 : aMchk m_138 = true := by decide +kernel
set_option maxRecDepth 100000 in
theorem ok_139 : aOKm m_139 = true := by decide +kernel
set_option maxRecDepth 100000 in
theorem mk_139 : aMchk m_139 = true := by decide +kernel
set_option maxRecDepth 100000 in
theorem ok_140 : aOKm m_140 = true := by decide +kernel
set_option maxRecDepth 100000 in
theorem mk_140 : aMchk m_140 = true := by decide +kernel
set_option maxRecDepth 100000 in
theorem ok_141 : aOKm m_141 = true := by decide +kernel
set_option maxRecDepth 100000 in
theorem mk_141 : aMchk m_141 = true := by decide +kernel
set_option maxRecDepth 100000 in
theorem ok_142 : aOKm m_142 = true := by decide +kernel
set_option maxRecDepth 100000 in
theorem mk_142 : aMchk m_142 = true := by decide +kernel
set_option maxRecDepth 100000 in
theorem ok_143 : aOKm m_143 = true := by decide +kernel
set_option maxRecDepth 100000 in
theorem mk_143 : aMchk m_143 = true := by decide +kernel
set_option maxRecDepth 100000 in
theorem ok_144 : aOKm m_144 = true := by decide +kernel
set_option maxRecDepth 100000 in
theorem mk_144 : aMchk m_144 = true := by decide +kernel
set_option maxRecDepth 100000 in
theorem ok_145 : aOKm m_145 = true := by decide +kernel
set_option maxRecDepth 100000 in
theorem mk_145 : aMchk m_145 = true := by decide +kernel
set_option maxRecDepth 100000 in
theorem ok_146 : aOKm m_146 = true := by decide +kernel
set_option maxRecDepth 100000 in
theorem mk_146 : aMchk m_146 = true := by decide +kernel
set_option maxRecDepth 100000 in
theorem ok_147 : aOKm m_147 = true := by decide +kernel
set_option maxRecDepth 100000 in
theorem mk_147 : aMchk m_147 = true := by decide +kernel
set_option maxRecDepth 100000 in
theorem ok_148 : aOKm m_148 = true := by decide +kernel
set_option maxRecDepth 100000 in
theorem mk_148 : aMchk m_148 = true := by decide +kernel
set_option maxRecDepth 100000 in
theorem ok_149 : aOKm m_149 = true := by decide +kernel
set_option maxRecDepth 100000 in
theorem mk_149 : aMchk m_149 = true := by decide +kernel
set_option maxRecDepth 100000 in
theorem ok_150 : aOKm m_150 = true := by decide +kernel
set_option maxRecDepth 100000 in
theorem mk_150 : aMchk m_150 = true := by decide +kernel
set_option maxRecDepth 100000 in
theorem ok_151 : aOKm m_151 = true := by decide +kernel
set_option maxRecDepth 100000 in
theorem mk_151 : aMchk m_151 = true := by decide +kernel
set_option maxRecDepth 100000 in
theorem ok_152 : aOKm m_152 = true := by decide +kernel
set_option maxRecDepth 100000 in
theorem mk_152 : aMchk m_152 = true := by decide +kernel
set_option maxRecDepth 100000 in
theorem ok_153 : aOKm m_153 = true := by decide +kernel
set_option maxRecDepth 100000 in
theorem mk_153 : aMchk m_153 = true := by decide +kernel
set_option maxRecDepth 100000 in
theorem ok_154 : aOKm m_154 = true := by decide +kernel
set_option maxRecDepth 100000 in
theorem mk_154 : aMchk m_154 = true := by decide +kernel
set_option maxRecDepth 100000 in
theorem ok_155 : aOKm m_155 = true := by decide +kernel
set_option maxRecDepth 100000 in
theorem mk_155 : aMchk m_155 = true := by decide +kernel
set_option maxRecDepth 100000 in
theorem ok_156 : aOKm m_156 = true := by decide +kernel
set_option maxRecDepth 100000 in
theorem mk_156 : aMchk m_156 = true := by decide +kernel
set_option maxRecDepth 100000 in
theorem ok_157 : aOKm m_157 = true := by decide +kernel
set_option maxRecDepth 100000 in
theorem mk_157 : aMchk m_157 = true := by decide +kernel
set_option maxRecDepth 100000 in
theorem ok_158 : aOKm m_158 = true := by decide +kernel
set_option maxRecDepth 100000 in
theorem mk_158 : aMchk m_158 = true := by decide +kernel
set_option maxRecDepth 100000 in
theorem ok_159 : aOKm m_159 = true := by decide +kernel
set_option maxRecDepth 100000 in
theorem mk_159 : aMchk m_159 = true := by decide +kernel
set_option maxRecDepth 100000 in
theorem ok_160 : aOKm m_160 = true := by decide +kernel
set_option maxRecDepth 100000 in
theorem mk_160 : aMchk m_160 = true := by decide +kernel
set_option maxRecDepth 100000 in
theorem ok_161 : aOKm m_161 = true := by decide +kernel
set_option maxRecDepth 100000 in
theorem mk_161 : aMchk m_161 = true := by decide +kernel
set_option maxRecDepth 100000 in
theorem ok_162 : aOKm m_162 = true := by decide +kernel
set_option maxRecDepth 100000 in
theorem mk_162 : aMchk m_162 = true := by decide +kernel
set_option maxRecDepth 100000 in
theorem ok_163 : aOKm m_163 = true := by decide +kernel
set_option maxRecDepth 100000 in
theorem mk_163 : aMchk m_163 = true := by decide +kernel
set_option maxRecDepth 100000 in
theorem ok_164 : aOKm m_164 = true := by decide +kernel
set_option maxRecDepth 100000 in
theorem mk_164 : aMchk m_164 = true := by decide +kernel
set_option maxRecDepth 100000 in
theorem ok_165 : aOKm m_165 = true := by decide +kernel
set_option maxRecDepth 100000 in
theorem mk_165 : aMchk m_165 = true := by decide +kernel
set_option maxRecDepth 100000 in
theorem ok_166 : aOKm m_166 = true := by decide +kernel
set_option maxRecDepth 100000 in
theorem mk_166 : aMchk m_166 = true := by decide +kernel
set_option maxRecDepth 100000 in
theorem ok_167 : aOKm m_167 = true := by decide +kernel
set_option maxRecDepth 100000 in
theorem mk_167 : aMchk m_167 = true := by decide +kernel
set_option maxRecDepth 100000 in
theorem ok_168 : aOKm m_168 = true := by decide +kernel
set_option maxRecDepth 100000 in
theorem mk_168 : aMchk m_168 = true := by decide +kernel
set_option maxRecDepth 100000 in
theorem ok_169 : aOKm m_169 = true := by decide +kernel
set_option maxRecDepth 100000 in
theorem mk_169 : aMchk m_169 = true := by decide +kernel
set_option maxRecDepth 100000 in
theorem ok_170 : aOKm m_170 = true := by decide +kernel
set_option maxRecDepth 100000 in
theorem mk_170 : aMchk m_170 = true := by decide +kernel
set_option maxRecDepth 100000 in
theorem ok_171 : aOKm m_171 = true := by decide +kernel
set_option maxRecDepth 100000 in
theorem mk_171 : aMchk m_171 = true := by decide +kernel
set_option maxRecDepth 100000 in
theorem ok_172 : aOKm m_172 = true := by decide +kernel
set_option maxRecDepth 100000 in
theorem mk_172 : aMchk m_172 = true := by decide +kernel
set_option maxRecDepth 100000 in
theorem ok_173 : aOKm m_173 = true := by decide +kernel
set_option maxRecDepth 100000 in
theorem mk_173 : aMchk m_173 = true := by decide +kernel
set_option maxRecDepth 100000 in
theorem ok_174 : aOKm m_174 = true := by decide +kernel
set_option maxRecDepth 100000 in
theorem mk_174 : aMchk m_174 = true := by decide +kernel
set_option maxRecDepth 100000 in
theorem ok_175 : aOKm m_175 = true := by decide +kernel
set_option maxRecDepth 100000 in
theorem mk_175 : aMchk m_175 = true := by decide +kernel
set_option maxRecDepth 100000 in
theorem ok_176 : aOKm m_176 = true := by decide +kernel
set_option maxRecDepth 100000 in
theorem mk_176 : aMchk m_176 = true := by decide +kernel
set_option maxRecDepth 100000 in
theorem ok_177 : aOKm m_177 = true := by decide +kernel
set_option maxRecDepth 100000 in
theorem mk_177 : aMchk m_177 = true := by decide +kernel
set_option maxRecDepth 100000 in
theorem ok_178 : aOKm m_178 = true := by decide +kernel
set_option maxRecDepth 100000 in
theorem mk_178 : aMchk m_178 = true := by decide +kernel
set_option maxRecDepth 100000 in
theorem ok_179 : aOKm m_179 = true := by decide +kernel
set_option maxRecDepth 100000 in
theorem mk_179 : aMchk m_179 = true := by decide +kernel
set_option maxRecDepth 100000 in
theorem ok_180 : aOKm m_180 = true := by decide +kernel
set_option maxRecDepth 100000 in
theorem mk_180 : aMchk m_180 = true := by decide +kernel
set_option maxRecDepth 100000 in
theorem ok_181 : aOKm m_181 = true := by decide +kernel
set_option maxRecDepth 100000 in
theorem mk_181 : aMchk m_181 = true := by decide +kernel
set_option maxRecDepth 100000 in
theorem ok_182 : aOKm m_182 = true := by decide +kernel
set_option maxRecDepth 100000 in
theorem mk_182 : aMchk m_182 = true := by decide +kernel
set_option maxRecDepth 100000 in
theorem ok_183 : aOKm m_183 = true := by decide +kernel
set_option maxRecDepth 100000 in
theorem mk_183 : aMchk m_183 = true := by decide +kernel
set_option maxRecDepth 100000 in
theorem ok_184 : aOKm m_184 = true := by decide +kernel
set_option maxRecDepth 100000 in
theorem mk_184 : aMchk m_184 = true := by decide +kernel
set_option maxRecDepth 100000 in
theorem ok_185 : aOKm m_185 = true := by decide +kernel
set_option maxRecDepth 100000 in
theorem mk_185 : aMchk m_185 = true := by decide +kernel
set_option maxRecDepth 100000 in
theorem ok_186 : aOKm m_186 = true := by decide +kernel
set_option maxRecDepth 100000 in
theorem mk_186 : aMchk m_186 = true := by decide +kernel
set_option maxRecDepth 100000 in
theorem ok_187 : aOKm m_187 = true := by decide +kernel
set_option maxRecDepth 100000 in
theorem mk_187 : aMchk m_187 = true := by decide +kernel
set_option maxRecDepth 100000 in
theorem ok_188 : aOKm m_188 = true := by decide +kernel
set_option maxRecDepth 100000 in
theorem mk_188 : aMchk m_188 = true := by decide +kernel
set_option maxRecDepth 100000 in
theorem ok_189 : aOKm m_189 = true := by decide +kernel
set_option maxRecDepth 100000 in
theorem mk_189 : aMchk m_189 = true := by decide +kernel
set_option maxRecDepth 100000 in
theorem ok_190 : aOKm m_190 = true := by decide +kernel
set_option maxRecDepth 100000 in
theorem mk_190 : aMchk m_190 = true := by decide +kernel
set_option maxRecDepth 100000 in
theorem ok_191 : aOKm m_191 = true := by decide +kernel
set_option maxRecDepth 100000 in
theorem mk_191 : aMchk m_191 = true := by decide +kernel
set_option maxRecDepth 100000 in
theorem ok_192 : aOKm m_192 = true := by decide +kernel
set_option maxRecDepth 100000 in
theorem mk_192 : aMchk m_192 = true := by decide +kernel
set_option maxRecDepth 100000 in
theorem ok_193 : aOKm m_193 = true := by decide +kernel
set_option maxRecDepth 100000 in
theorem mk_193 : aMchk m_193 = true := by decide +kernel
set_option maxRecDepth 100000 in
theorem ok_194 : aOKm m_194 = true := by decide +kernel
set_option maxRecDepth 100000 in
theorem mk_194 : aMchk m_194 = true := by decide +kernel
set_option maxRecDepth 100000 in
theorem ok_195 : aOKm m_195 = true := by decide +kernel
set_option maxRecDepth 100000 in
theorem mk_195 : aMchk m_195 = true := by decide +kernel
set_option maxRecDepth 100000 in
theorem ok_196 : aOKm m_196 = true := by decide +kernel
set_option maxRecDepth 100000 in
theorem mk_196 : aMchk m_196 = true := by decide +kernel
set_option maxRecDepth 100000 in
theorem ok_197 : aOKm m_197 = true := by decide +kernel
set_option maxRecDepth 100000 in
theorem mk_197 : aMchk m_197 = true := by decide +kernel
set_option maxRecDepth 100000 in
theorem ok_198 : aOKm m_198 = true := by decide +kernel
set_option maxRecDepth 100000 in
theorem mk_198 : aMchk m_198 = true := by decide +kernel
