theorem okMid_152 : okMid 152 = true := by decide +kernel
theorem okMid_153 : okMid 153 = true := by decide +kernel
theorem okMid_154 : okMid 154 = true := by decide +kernel
theorem okMid_155 : okMid 155 = true := by decide +kernel
theorem okMid_156 : okMid 156 = true := by decide +kernel
theorem okMid_157 : okMid 157 = true := by decide +kernel
theorem okMid_158 : okMid 158 = true := by decide +kernel
theorem okMid_159 : okMid 159 = true := by decide +kernel
theorem okMid_160 : okMid 160 = true := by decide +kernel
theorem okS_161_0 : okC (pgB 161) (((pgCd 161).drop 0).take 4) = true := by decide +kernel
theorem okS_161_1 : okC (pgB 161) (((pgCd 161).drop 4).take 4) = true := by decide +kernel
theorem okS_161_2 : okC (pgB 161) (((pgCd 161).drop 8).take 4) = true := by decide +kernel
theorem okM_161 : okM (pgRw 161) = true := by decide +kernel
theorem okCd_161 : okC (pgB 161) (pgCd 161) = true := by
  have hz : okC (pgB 161) ((pgCd 161).drop 12) = true := by decide +kernel
  have hz : okC (pgB 161) ((pgCd 161).drop 8) = true := okC_cat _ 4 8 _ okS_161_2 hz
  have hz : okC (pgB 161) ((pgCd 161).drop 4) = true := okC_cat _ 4 4 _ okS_161_1 hz
  have hz : okC (pgB 161) ((pgCd 161).drop 0) = true := okC_cat _ 4 0 _ okS_161_0 hz
  exact hz
theorem okMid_161 : okMid 161 = true := by unfold okMid; rw [okCd_161, okM_161]; rfl
theorem okS_162_0 : okC (pgB 162) (((pgCd 162).drop 0).take 4) = true := by decide +kernel
theorem okS_162_1 : okC (pgB 162) (((pgCd 162).drop 4).take 4) = true := by decide +kernel
theorem okS_162_2 : okC (pgB 162) (((pgCd 162).drop 8).take 3) = true := by decide +kernel
theorem okM_162 : okM (pgRw 162) = true := by decide +kernel
theorem okCd_162 : okC (pgB 162) (pgCd 162) = true := by
  have hz : okC (pgB 162) ((pgCd 162).drop 11) = true := by decide +kernel
  have hz : okC (pgB 162) ((pgCd 162).drop 8) = true := okC_cat _ 3 8 _ okS_162_2 hz
  have hz : okC (pgB 162) ((pgCd 162).drop 4) = true := okC_cat _ 4 4 _ okS_162_1 hz
  have hz : okC (pgB 162) ((pgCd 162).drop 0) = true := okC_cat _ 4 0 _ okS_162_0 hz
  exact hz
theorem okMid_162 : okMid 162 = true := by unfold okMid; rw [okCd_162, okM_162]; rfl
theorem okMid_163 : okMid 163 = true := by decide +kernel
theorem okMid_164 : okMid 164 = true := by decide +kernel
theorem okS_165_0 : okC (pgB 165) (((pgCd 165).drop 0).take 4) = true := by decide +kernel
theorem okS_165_1 : okC (pgB 165) (((pgCd 165).drop 4).take 4) = true := by decide +kernel
theorem okS_165_2 : okC (pgB 165) (((pgCd 165).drop 8).take 2) = true := by decide +kernel
theorem okM_165 : okM (pgRw 165) = true := by decide +kernel
theorem okCd_165 : okC (pgB 165) (pgCd 165) = true := by
  have hz : okC (pgB 165) ((pgCd 165).drop 10) = true := by decide +kernel
  have hz : okC (pgB 165) ((pgCd 165).drop 8) = true := okC_cat _ 2 8 _ okS_165_2 hz
  have hz : okC (pgB 165) ((pgCd 165).drop 4) = true := okC_cat _ 4 4 _ okS_165_1 hz
  have hz : okC (pgB 165) ((pgCd 165).drop 0) = true := okC_cat _ 4 0 _ okS_165_0 hz
  exact hz
theorem okMid_165 : okMid 165 = true := by unfold okMid; rw [okCd_165, okM_165]; rfl
theorem okMid_166 : okMid 166 = true := by decide +kernel
theorem okS_167_0 : okC (pgB 167) (((pgCd 167).drop 0).take 4) = true := by decide +kernel
theorem okS_167_1 : okC (pgB 167) (((pgCd 167).drop 4).take 4) = true := by decide +kernel
theorem okS_167_2 : okC (pgB 167) (((pgCd 167).drop 8).take 1) = true := by decide +kernel
theorem okM_167 : okM (pgRw 167) = true := by decide +kernel
theorem okCd_167 : okC (pgB 167) (pgCd 167) = true := by
  have hz : okC (pgB 167) ((pgCd 167).drop 9) = true := by decide +kernel
  have hz : okC (pgB 167) ((pgCd 167).drop 8) = true := okC_cat _ 1 8 _ okS_167_2 hz
  have hz : okC (pgB 167) ((pgCd 167).drop 4) = true := okC_cat _ 4 4 _ okS_167_1 hz
  have hz : okC (pgB 167) ((pgCd 167).drop 0) = true := okC_cat _ 4 0 _ okS_167_0 hz
  exact hz
theorem okMid_167 : okMid 167 = true := by unfold okMid; rw [okCd_167, okM_167]; rfl
theorem okMid_168 : okMid 168 = true := by decide +kernel
theorem okMid_169 : okMid 169 = true := by decide +kernel
theorem okS_170_0 : okC (pgB 170) (((pgCd 170).drop 0).take 4) = true := by decide +kernel
theorem okS_170_1 : okC (pgB 170) (((pgCd 170).drop 4).take 4) = true := by decide +kernel
theorem okS_170_2 : okC (pgB 170) (((pgCd 170).drop 8).take 4) = true := by decide +kernel
theorem okS_170_3 : okC (pgB 170) (((pgCd 170).drop 12).take 3) = true := by decide +kernel
theorem okM_170 : okM (pgRw 170) = true := by decide +kernel
theorem okCd_170 : okC (pgB 170) (pgCd 170) = true := by
  have hz : okC (pgB 170) ((pgCd 170).drop 15) = true := by decide +kernel
  have hz : okC (pgB 170) ((pgCd 170).drop 12) = true := okC_cat _ 3 12 _ okS_170_3 hz
  have hz : okC (pgB 170) ((pgCd 170).drop 8) = true := okC_cat _ 4 8 _ okS_170_2 hz
  have hz : okC (pgB 170) ((pgCd 170).drop 4) = true := okC_cat _ 4 4 _ okS_170_1 hz
  have hz : okC (pgB 170) ((pgCd 170).drop 0) = true := okC_cat _ 4 0 _ okS_170_0 hz
  exact hz
theorem okMid_170 : okMid 170 = true := by unfold okMid; rw [okCd_170, okM_170]; rfl
theorem okS_171_0 : okC (pgB 171) (((pgCd 171).drop 0).take 4) = true := by decide +kernel
theorem okS_171_1 : okC (pgB 171) (((pgCd 171).drop 4).take 4) = true := by decide +kernel
theorem okS_171_2 : okC (pgB 171) (((pgCd 171).drop 8).take 4) = true := by decide +kernel
theorem okS_171_3 : okC (pgB 171) (((pgCd 171).drop 12).take 4) = true := by decide +kernel
theorem okS_171_4 : okC (pgB 171) (((pgCd 171).drop 16).take 4) = true := by decide +kernel
theorem okS_171_5 : okC (pgB 171) (((pgCd 171).drop 20).take 4) = true := by decide +kernel
theorem okS_171_6 : okC (pgB 171) (((pgCd 171).drop 24).take 4) = true := by decide +kernel
theorem okM_171 : okM (pgRw 171) = true := by decide +kernel
theorem okCd_171 : okC (pgB 171) (pgCd 171) = true := by
  have hz : okC (pgB 171) ((pgCd 171).drop 28) = true := by decide +kernel
  have hz : okC (pgB 171) ((pgCd 171).drop 24) = true := okC_cat _ 4 24 _ okS_171_6 hz
  have hz : okC (pgB 171) ((pgCd 171).drop 20) = true := okC_cat _ 4 20 _ okS_171_5 hz
  have hz : okC (pgB 171) ((pgCd 171).drop 16) = true := okC_cat _ 4 16 _ okS_171_4 hz
  have hz : okC (pgB 171) ((pgCd 171).drop 12) = true := okC_cat _ 4 12 _ okS_171_3 hz
  have hz : okC (pgB 171) ((pgCd 171).drop 8) = true := okC_cat _ 4 8 _ okS_171_2 hz
  have hz : okC (pgB 171) ((pgCd 171).drop 4) = true := okC_cat _ 4 4 _ okS_171_1 hz
  have hz : okC (pgB 171) ((pgCd 171).drop 0) = true := okC_cat _ 4 0 _ okS_171_0 hz
  exact hz
theorem okMid_171 : okMid 171 = true := by unfold okMid; rw [okCd_171, okM_171]; rfl
theorem okMid_172 : okMid 172 = true := by decide +kernel
theorem okS_173_0 : okC (pgB 173) (((pgCd 173).drop 0).take 4) = true := by decide +kernel
theorem okS_173_1 : okC (pgB 173) (((pgCd 173).drop 4).take 4) = true := by decide +kernel
theorem okS_173_2 : okC (pgB 173) (((pgCd 173).drop 8).take 4) = true := by decide +kernel
theorem okM_173 : okM (pgRw 173) = true := by decide +kernel
theorem okCd_173 : okC (pgB 173) (pgCd 173) = true := by
  have hz : okC (pgB 173) ((pgCd 173).drop 12) = true := by decide +kernel
  have hz : okC (pgB 173) ((pgCd 173).drop 8) = true := okC_cat _ 4 8 _ okS_173_2 hz
  have hz : okC (pgB 173) ((pgCd 173).drop 4) = true := okC_cat _ 4 4 _ okS_173_1 hz
  have hz : okC (pgB 173) ((pgCd 173).drop 0) = true := okC_cat _ 4 0 _ okS_173_0 hz
  exact hz
theorem okMid_173 : okMid 173 = true := by unfold okMid; rw [okCd_173, okM_173]; rfl
theorem okMid_174 : okMid 174 = true := by decide +kernel
theorem okS_175_0 : okC (pgB 175) (((pgCd 175).drop 0).take 4) = true := by decide +kernel
theorem okS_175_1 : okC (pgB 175) (((pgCd 175).drop 4).take 4) = true := by decide +kernel
theorem okS_175_2 : okC (pgB 175) (((pgCd 175).drop 8).take 2) = true := by decide +kernel
theorem okM_175 : okM (pgRw 175) = true := by decide +kernel
theorem okCd_175 : okC (pgB 175) (pgCd 175) = true := by
  have hz : okC (pgB 175) ((pgCd 175).drop 10) = true := by decide +kernel
  have hz : okC (pgB 175) ((pgCd 175).drop 8) = true := okC_cat _ 2 8 _ okS_175_2 hz
  have hz : okC (pgB 175) ((pgCd 175).drop 4) = true := okC_cat _ 4 4 _ okS_175_1 hz
  have hz : okC (pgB 175) ((pgCd 175).drop 0) = true := okC_cat _ 4 0 _ okS_175_0 hz
  exact hz
theorem okMid_175 : okMid 175 = true := by unfold okMid; rw [okCd_175, okM_175]; rfl
theorem okMid_176 : okMid 176 = true := by decide +kernel
theorem okMid_177 : okMid 177 = true := by decide +kernel
theorem okMid_178 : okMid 178 = true := by decide +kernel
theorem okS_179_0 : okC (pgB 179) (((pgCd 179).drop 0).take 4) = true := by decide +kernel
theorem okS_179_1 : okC (pgB 179) (((pgCd 179).drop 4).take 4) = true := by decide +kernel
theorem okS_179_2 : okC (pgB 179) (((pgCd 179).drop 8).take 4) = true := by decide +kernel
theorem okS_179_3 : okC (pgB 179) (((pgCd 179).drop 12).take 4) = true := by decide +kernel
theorem okS_179_4 : okC (pgB 179) (((pgCd 179).drop 16).take 4) = true := by decide +kernel
theorem okS_179_5 : okC (pgB 179) (((pgCd 179).drop 20).take 4) = true := by decide +kernel
theorem okS_179_6 : okC (pgB 179) (((pgCd 179).drop 24).take 4) = true := by decide +kernel
theorem okS_179_7 : okC (pgB 179) (((pgCd 179).drop 28).take 4) = true := by decide +kernel
theorem okS_179_8 : okC (pgB 179) (((pgCd 179).drop 32).take 1) = true := by decide +kernel
theorem okM_179 : okM (pgRw 179) = true := by decide +kernel
theorem okCd_179 : okC (pgB 179) (pgCd 179) = true := by
  have hz : okC (pgB 179) ((pgCd 179).drop 33) = true := by decide +kernel
  have hz : okC (pgB 179) ((pgCd 179).drop 32) = true := okC_cat _ 1 32 _ okS_179_8 hz
  have hz : okC (pgB 179) ((pgCd 179).drop 28) = true := okC_cat _ 4 28 _ okS_179_7 hz
  have hz : okC (pgB 179) ((pgCd 179).drop 24) = true := okC_cat _ 4 24 _ okS_179_6 hz
  have hz : okC (pgB 179) ((pgCd 179).drop 20) = true := okC_cat _ 4 20 _ okS_179_5 hz
  have hz : okC (pgB 179) ((pgCd 179).drop 16) = true := okC_cat _ 4 16 _ okS_179_4 hz
  have hz : okC (pgB 179) ((pgCd 179).drop 12) = true := okC_cat _ 4 12 _ okS_179_3 hz
  have hz : okC (pgB 179) ((pgCd 179).drop 8) = true := okC_cat _ 4 8 _ okS_179_2 hz
  have hz : okC (pgB 179) ((pgCd 179).drop 4) = true := okC_cat _ 4 4 _ okS_179_1 hz
  have hz : okC (pgB 179) ((pgCd 179).drop 0) = true := okC_cat _ 4 0 _ okS_179_0 hz
  exact hz
theorem okMid_179 : okMid 179 = true := by unfold okMid; rw [okCd_179, okM_179]; rfl
theorem okMid_180 : okMid 180 = true := by decide +kernel
theorem okMid_181 : okMid 181 = true := by decide +kernel
theorem okS_182_0 : okC (pgB 182) (((pgCd 182).drop 0).take 4) = true := by decide +kernel
theorem okS_182_1 : okC (pgB 182) (((pgCd 182).drop 4).take 4) = true := by decide +kernel
theorem okS_182_2 : okC (pgB 182) (((pgCd 182).drop 8).take 4) = true := by decide +kernel
theorem okS_182_3 : okC (pgB 182) (((pgCd 182).drop 12).take 4) = true := by decide +kernel
theorem okS_182_4 : okC (pgB 182) (((pgCd 182).drop 16).take 4) = true := by decide +kernel
theorem okS_182_5 : okC (pgB 182) (((pgCd 182).drop 20).take 1) = true := by decide +kernel
theorem okM_182 : okM (pgRw 182) = true := by decide +kernel
theorem okCd_182 : okC (pgB 182) (pgCd 182) = true := by
  have hz : okC (pgB 182) ((pgCd 182).drop 21) = true := by decide +kernel
  have hz : okC (pgB 182) ((pgCd 182).drop 20) = true := okC_cat _ 1 20 _ okS_182_5 hz
  have hz : okC (pgB 182) ((pgCd 182).drop 16) = true := okC_cat _ 4 16 _ okS_182_4 hz
  have hz : okC (pgB 182) ((pgCd 182).drop 12) = true := okC_cat _ 4 12 _ okS_182_3 hz
  have hz : okC (pgB 182) ((pgCd 182).drop 8) = true := okC_cat _ 4 8 _ okS_182_2 hz
  have hz : okC (pgB 182) ((pgCd 182).drop 4) = true := okC_cat _ 4 4 _ okS_182_1 hz
  have hz : okC (pgB 182) ((pgCd 182).drop 0) = true := okC_cat _ 4 0 _ okS_182_0 hz
  exact hz
theorem okMid_182 : okMid 182 = true := by unfold okMid; rw [okCd_182, okM_182]; rfl
theorem okS_183_0 : okC (pgB 183) (((pgCd 183).drop 0).take 4) = true := by decide +kernel
theorem okS_183_1 : okC (pgB 183) (((pgCd 183).drop 4).take 4) = true := by decide +kernel
theorem okS_183_2 : okC (pgB 183) (((pgCd 183).drop 8).take 4) = true := by decide +kernel
theorem okS_183_3 : okC (pgB 183) (((pgCd 183).drop 12).take 4) = true := by decide +kernel
theorem okM_183 : okM (pgRw 183) = true := by decide +kernel
theorem okCd_183 : okC (pgB 183) (pgCd 183) = true := by
  have hz : okC (pgB 183) ((pgCd 183).drop 16) = true := by decide +kernel
  have hz : okC (pgB 183) ((pgCd 183).drop 12) = true := okC_cat _ 4 12 _ okS_183_3 hz
  have hz : okC (pgB 183) ((pgCd 183).drop 8) = true := okC_cat _ 4 8 _ okS_183_2 hz
  have hz : okC (pgB 183) ((pgCd 183).drop 4) = true := okC_cat _ 4 4 _ okS_183_1 hz
  have hz : okC (pgB 183) ((pgCd 183).drop 0) = true := okC_cat _ 4 0 _ okS_183_0 hz
  exact hz
theorem okMid_183 : okMid 183 = true := by unfold okMid; rw [okCd_183, okM_183]; rfl
theorem okS_184_0 : okC (pgB 184) (((pgCd 184).drop 0).take 4) = true := by decide +kernel
theorem okS_184_1 : okC (pgB 184) (((pgCd 184).drop 4).take 4) = true := by decide +kernel
theorem okS_184_2 : okC (pgB 184) (((pgCd 184).drop 8).take 4) = true := by decide +kernel
theorem okS_184_3 : okC (pgB 184) (((pgCd 184).drop 12).take 4) = true := by decide +kernel
theorem okS_184_4 : okC (pgB 184) (((pgCd 184).drop 16).take 4) = true := by decide +kernel
theorem okM_184 : okM (pgRw 184) = true := by decide +kernel
theorem okCd_184 : okC (pgB 184) (pgCd 184) = true := by
  have hz : okC (pgB 184) ((pgCd 184).drop 20) = true := by decide +kernel
  have hz : okC (pgB 184) ((pgCd 184).drop 16) = true := okC_cat _ 4 16 _ okS_184_4 hz
  have hz : okC (pgB 184) ((pgCd 184).drop 12) = true := okC_cat _ 4 12 _ okS_184_3 hz
  have hz : okC (pgB 184) ((pgCd 184).drop 8) = true := okC_cat _ 4 8 _ okS_184_2 hz
  have hz : okC (pgB 184) ((pgCd 184).drop 4) = true := okC_cat _ 4 4 _ okS_184_1 hz
  have hz : okC (pgB 184) ((pgCd 184).drop 0) = true := okC_cat _ 4 0 _ okS_184_0 hz
  exact hz
theorem okMid_184 : okMid 184 = true := by unfold okMid; rw [okCd_184, okM_184]; rfl
theorem okS_185_0 : okC (pgB 185) (((pgCd 185).drop 0).take 4) = true := by decide +kernel
theorem okS_185_1 : okC (pgB 185) (((pgCd 185).drop 4).take 4) = true := by decide +kernel
theorem okS_185_2 : okC (pgB 185) (((pgCd 185).drop 8).take 4) = true := by decide +kernel
theorem okM_185 : okM (pgRw 185) = true := by decide +kernel
theorem okCd_185 : okC (pgB 185) (pgCd 185) = true := by
  have hz : okC (pgB 185) ((pgCd 185).drop 12) = true := by decide +kernel
  have hz : okC (pgB 185) ((pgCd 185).drop 8) = true := okC_cat _ 4 8 _ okS_185_2 hz
  have hz : okC (pgB 185) ((pgCd 185).drop 4) = true := okC_cat _ 4 4 _ okS_185_1 hz
  have hz : okC (pgB 185) ((pgCd 185).drop 0) = true := okC_cat _ 4 0 _ okS_185_0 hz
  exact hz
theorem okMid_185 : okMid 185 = true := by unfold okMid; rw [okCd_185, okM_185]; rfl
theorem okMid_186 : okMid 186 = true := by decide +kernel
theorem okS_187_0 : okC (pgB 187) (((pgCd 187).drop 0).take 4) = true := by decide +kernel
theorem okS_187_1 : okC (pgB 187) (((pgCd 187).drop 4).take 4) = true := by decide +kernel
theorem okM_187 : okM (pgRw 187) = true := by decide +kernel
theorem okCd_187 : okC (pgB 187) (pgCd 187) = true := by
  have hz : okC (pgB 187) ((pgCd 187).drop 8) = true := by decide +kernel
  have hz : okC (pgB 187) ((pgCd 187).drop 4) = true := okC_cat _ 4 4 _ okS_187_1 hz
  have hz : okC (pgB 187) ((pgCd 187).drop 0) = true := okC_cat _ 4 0 _ okS_187_0 hz
  exact hz
theorem okMid_187 : okMid 187 = true := by unfold okMid; rw [okCd_187, okM_187]; rfl
theorem okS_188_0 : okC (pgB 188) (((pgCd 188).drop 0).take 4) = true := by decide +kernel
theorem okS_188_1 : okC (pgB 188) (((pgCd 188).drop 4).take 4) = true := by decide +kernel
theorem okM_188 : okM (pgRw 188) = true := by decide +kernel
theorem okCd_188 : okC (pgB 188) (pgCd 188) = true := by
  have hz : okC (pgB 188) ((pgCd 188).drop 8) = true := by decide +kernel
  have hz : okC (pgB 188) ((pgCd 188).drop 4) = true := okC_cat _ 4 4 _ okS_188_1 hz
  have hz : okC (pgB 188) ((pgCd 188).drop 0) = true := okC_cat _ 4 0 _ okS_188_0 hz
  exact hz
theorem okMid_188 : okMid 188 = true := by unfold okMid; rw [okCd_188, okM_188]; rfl
