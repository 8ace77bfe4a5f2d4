/-! decode rows, method by method -/
theorem mjk_149 : mjChk (mjMeth 149).1.cls (mjIsInit 149) (mjMeth 149).2.1 (mjCode.getD 149 []) = true := by decide +kernel
theorem mjk_150 : mjChk (mjMeth 150).1.cls (mjIsInit 150) (mjMeth 150).2.1 (mjCode.getD 150 []) = true := by decide +kernel
theorem mjk_151 : mjChk (mjMeth 151).1.cls (mjIsInit 151) (mjMeth 151).2.1 (mjCode.getD 151 []) = true := by decide +kernel
theorem mjk_152 : mjChk (mjMeth 152).1.cls (mjIsInit 152) (mjMeth 152).2.1 (mjCode.getD 152 []) = true := by decide +kernel
theorem mjk_153 : mjChk (mjMeth 153).1.cls (mjIsInit 153) (mjMeth 153).2.1 (mjCode.getD 153 []) = true := by decide +kernel
theorem mjk_154 : mjChk (mjMeth 154).1.cls (mjIsInit 154) (mjMeth 154).2.1 (mjCode.getD 154 []) = true := by decide +kernel
theorem mjk_155 : mjChk (mjMeth 155).1.cls (mjIsInit 155) (mjMeth 155).2.1 (mjCode.getD 155 []) = true := by decide +kernel
theorem mjk_156 : mjChk (mjMeth 156).1.cls (mjIsInit 156) (mjMeth 156).2.1 (mjCode.getD 156 []) = true := by decide +kernel
theorem mjk_157 : mjChk (mjMeth 157).1.cls (mjIsInit 157) (mjMeth 157).2.1 (mjCode.getD 157 []) = true := by decide +kernel
theorem mjk_158 : mjChk (mjMeth 158).1.cls (mjIsInit 158) (mjMeth 158).2.1 (mjCode.getD 158 []) = true := by decide +kernel
theorem mjk_159 : mjChk (mjMeth 159).1.cls (mjIsInit 159) (mjMeth 159).2.1 (mjCode.getD 159 []) = true := by decide +kernel
theorem mjk_160 : mjChk (mjMeth 160).1.cls (mjIsInit 160) (mjMeth 160).2.1 (mjCode.getD 160 []) = true := by decide +kernel
theorem mjk_161 : mjChk (mjMeth 161).1.cls (mjIsInit 161) (mjMeth 161).2.1 (mjCode.getD 161 []) = true := by decide +kernel
theorem mjk_162 : mjChk (mjMeth 162).1.cls (mjIsInit 162) (mjMeth 162).2.1 (mjCode.getD 162 []) = true := by decide +kernel
theorem mjk_163 : mjChk (mjMeth 163).1.cls (mjIsInit 163) (mjMeth 163).2.1 (mjCode.getD 163 []) = true := by decide +kernel
theorem mjk_164 : mjChk (mjMeth 164).1.cls (mjIsInit 164) (mjMeth 164).2.1 (mjCode.getD 164 []) = true := by decide +kernel
theorem mjk_165 : mjChk (mjMeth 165).1.cls (mjIsInit 165) (mjMeth 165).2.1 (mjCode.getD 165 []) = true := by decide +kernel
theorem mjk_166 : mjChk (mjMeth 166).1.cls (mjIsInit 166) (mjMeth 166).2.1 (mjCode.getD 166 []) = true := by decide +kernel
theorem mjk_167 : mjChk (mjMeth 167).1.cls (mjIsInit 167) (mjMeth 167).2.1 (mjCode.getD 167 []) = true := by decide +kernel
theorem mjk_168 : mjChk (mjMeth 168).1.cls (mjIsInit 168) (mjMeth 168).2.1 (mjCode.getD 168 []) = true := by decide +kernel
theorem mjk_169 : mjChk (mjMeth 169).1.cls (mjIsInit 169) (mjMeth 169).2.1 (mjCode.getD 169 []) = true := by decide +kernel
theorem mjk_170 : mjChk (mjMeth 170).1.cls (mjIsInit 170) (mjMeth 170).2.1 (mjCode.getD 170 []) = true := by decide +kernel
theorem mjk_171 : mjChk (mjMeth 171).1.cls (mjIsInit 171) (mjMeth 171).2.1 (mjCode.getD 171 []) = true := by decide +kernel
theorem mjk_172 : mjChk (mjMeth 172).1.cls (mjIsInit 172) (mjMeth 172).2.1 (mjCode.getD 172 []) = true := by decide +kernel
theorem mjk_173 : mjChk (mjMeth 173).1.cls (mjIsInit 173) (mjMeth 173).2.1 (mjCode.getD 173 []) = true := by decide +kernel
theorem mjk_174 : mjChk (mjMeth 174).1.cls (mjIsInit 174) (mjMeth 174).2.1 (mjCode.getD 174 []) = true := by decide +kernel
theorem mjk_175 : mjChk (mjMeth 175).1.cls (mjIsInit 175) (mjMeth 175).2.1 (mjCode.getD 175 []) = true := by decide +kernel
theorem mjk_176 : mjChk (mjMeth 176).1.cls (mjIsInit 176) (mjMeth 176).2.1 (mjCode.getD 176 []) = true := by decide +kernel
theorem mjk_177 : mjChk (mjMeth 177).1.cls (mjIsInit 177) (mjMeth 177).2.1 (mjCode.getD 177 []) = true := by decide +kernel
theorem mjk_178 : mjChk (mjMeth 178).1.cls (mjIsInit 178) (mjMeth 178).2.1 (mjCode.getD 178 []) = true := by decide +kernel
theorem mjk_179 : mjChk (mjMeth 179).1.cls (mjIsInit 179) (mjMeth 179).2.1 (mjCode.getD 179 []) = true := by decide +kernel
theorem mjk_180 : mjChk (mjMeth 180).1.cls (mjIsInit 180) (mjMeth 180).2.1 (mjCode.getD 180 []) = true := by decide +kernel
theorem mjk_181 : mjChk (mjMeth 181).1.cls (mjIsInit 181) (mjMeth 181).2.1 (mjCode.getD 181 []) = true := by decide +kernel
theorem mjk_182 : mjChk (mjMeth 182).1.cls (mjIsInit 182) (mjMeth 182).2.1 (mjCode.getD 182 []) = true := by decide +kernel
theorem mjk_183_0 : mjChk (mjMeth 183).1.cls (mjIsInit 183) (mjMeth 183).2.1 (((mjCode.getD 183 []).drop 0).take 60) = true := by decide +kernel
theorem mjk_183_60 : mjChk (mjMeth 183).1.cls (mjIsInit 183) (mjMeth 183).2.1 ((mjCode.getD 183 []).drop 60) = true := by decide +kernel
theorem mjk_183 : mjChk (mjMeth 183).1.cls (mjIsInit 183) (mjMeth 183).2.1 (mjCode.getD 183 []) = true := by
  have h : mjChk (mjMeth 183).1.cls (mjIsInit 183) (mjMeth 183).2.1 ((mjCode.getD 183 []).drop 0) = true := mjChk_step (mjk_183_0) (mjk_183_60)
  exact h
theorem mjk_184 : mjChk (mjMeth 184).1.cls (mjIsInit 184) (mjMeth 184).2.1 (mjCode.getD 184 []) = true := by decide +kernel
theorem mjk_185 : mjChk (mjMeth 185).1.cls (mjIsInit 185) (mjMeth 185).2.1 (mjCode.getD 185 []) = true := by decide +kernel
theorem mjk_186_0 : mjChk (mjMeth 186).1.cls (mjIsInit 186) (mjMeth 186).2.1 (((mjCode.getD 186 []).drop 0).take 60) = true := by decide +kernel
theorem mjk_186_60 : mjChk (mjMeth 186).1.cls (mjIsInit 186) (mjMeth 186).2.1 ((mjCode.getD 186 []).drop 60) = true := by decide +kernel
theorem mjk_186 : mjChk (mjMeth 186).1.cls (mjIsInit 186) (mjMeth 186).2.1 (mjCode.getD 186 []) = true := by
  have h : mjChk (mjMeth 186).1.cls (mjIsInit 186) (mjMeth 186).2.1 ((mjCode.getD 186 []).drop 0) = true := mjChk_step (mjk_186_0) (mjk_186_60)
  exact h
theorem mjk_187 : mjChk (mjMeth 187).1.cls (mjIsInit 187) (mjMeth 187).2.1 (mjCode.getD 187 []) = true := by decide +kernel
theorem mjk_188 : mjChk (mjMeth 188).1.cls (mjIsInit 188) (mjMeth 188).2.1 (mjCode.getD 188 []) = true := by decide +kernel
theorem mjk_189 : mjChk (mjMeth 189).1.cls (mjIsInit 189) (mjMeth 189).2.1 (mjCode.getD 189 []) = true := by decide +kernel
theorem mjk_190 : mjChk (mjMeth 190).1.cls (mjIsInit 190) (mjMeth 190).2.1 (mjCode.getD 190 []) = true := by decide +kernel
theorem mjk_191 : mjChk (mjMeth 191).1.cls (mjIsInit 191) (mjMeth 191).2.1 (mjCode.getD 191 []) = true := by decide +kernel
theorem mjk_192_0 : mjChk (mjMeth 192).1.cls (mjIsInit 192) (mjMeth 192).2.1 (((mjCode.getD 192 []).drop 0).take 60) = true := by decide +kernel
theorem mjk_192_60 : mjChk (mjMeth 192).1.cls (mjIsInit 192) (mjMeth 192).2.1 ((mjCode.getD 192 []).drop 60) = true := by decide +kernel
theorem mjk_192 : mjChk (mjMeth 192).1.cls (mjIsInit 192) (mjMeth 192).2.1 (mjCode.getD 192 []) = true := by
  have h : mjChk (mjMeth 192).1.cls (mjIsInit 192) (mjMeth 192).2.1 ((mjCode.getD 192 []).drop 0) = true := mjChk_step (mjk_192_0) (mjk_192_60)
  exact h
theorem mjk_193 : mjChk (mjMeth 193).1.cls (mjIsInit 193) (mjMeth 193).2.1 (mjCode.getD 193 []) = true := by decide +kernel
theorem mjk_194 : mjChk (mjMeth 194).1.cls (mjIsInit 194) (mjMeth 194).2.1 (mjCode.getD 194 []) = true := by decide +kernel
theorem mjk_195 : mjChk (mjMeth 195).1.cls (mjIsInit 195) (mjMeth 195).2.1 (mjCode.getD 195 []) = true := by decide +kernel
theorem mjk_196 : mjChk (mjMeth 196).1.cls (mjIsInit 196) (mjMeth 196).2.1 (mjCode.getD 196 []) = true := by decide +kernel
theorem mjk_197 : mjChk (mjMeth 197).1.cls (mjIsInit 197) (mjMeth 197).2.1 (mjCode.getD 197 []) = true := by decide +kernel
theorem mjk_198 : mjChk (mjMeth 198).1.cls (mjIsInit 198) (mjMeth 198).2.1 (mjCode.getD 198 []) = true := by decide +kernel
theorem mjk_199 : mjChk (mjMeth 199).1.cls (mjIsInit 199) (mjMeth 199).2.1 (mjCode.getD 199 []) = true := by decide +kernel
