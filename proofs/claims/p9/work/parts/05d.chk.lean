theorem okMid_105 : okMid 105 = true := by decide +kernel
theorem okMid_106 : okMid 106 = true := by decide +kernel
theorem okMid_107 : okMid 107 = true := by decide +kernel
theorem okMid_108 : okMid 108 = true := by decide +kernel
theorem okMid_109 : okMid 109 = true := by decide +kernel
theorem okMid_110 : okMid 110 = true := by decide +kernel
theorem okMid_111 : okMid 111 = true := by decide +kernel
theorem okMid_112 : okMid 112 = true := by decide +kernel
theorem okS_113_0 : okC (pgB 113) (((pgCd 113).drop 0).take 4) = true := by decide +kernel
theorem okS_113_1 : okC (pgB 113) (((pgCd 113).drop 4).take 4) = true := by decide +kernel
theorem okS_113_2 : okC (pgB 113) (((pgCd 113).drop 8).take 4) = true := by decide +kernel
theorem okS_113_3 : okC (pgB 113) (((pgCd 113).drop 12).take 4) = true := by decide +kernel
theorem okS_113_4 : okC (pgB 113) (((pgCd 113).drop 16).take 1) = true := by decide +kernel
theorem okM_113 : okM (pgRw 113) = true := by decide +kernel
theorem okCd_113 : okC (pgB 113) (pgCd 113) = true := by
  have hz : okC (pgB 113) ((pgCd 113).drop 17) = true := by decide +kernel
  have hz : okC (pgB 113) ((pgCd 113).drop 16) = true := okC_cat _ 1 16 _ okS_113_4 hz
  have hz : okC (pgB 113) ((pgCd 113).drop 12) = true := okC_cat _ 4 12 _ okS_113_3 hz
  have hz : okC (pgB 113) ((pgCd 113).drop 8) = true := okC_cat _ 4 8 _ okS_113_2 hz
  have hz : okC (pgB 113) ((pgCd 113).drop 4) = true := okC_cat _ 4 4 _ okS_113_1 hz
  have hz : okC (pgB 113) ((pgCd 113).drop 0) = true := okC_cat _ 4 0 _ okS_113_0 hz
  exact hz
theorem okMid_113 : okMid 113 = true := by unfold okMid; rw [okCd_113, okM_113]; rfl
theorem okS_114_0 : okC (pgB 114) (((pgCd 114).drop 0).take 4) = true := by decide +kernel
theorem okS_114_1 : okC (pgB 114) (((pgCd 114).drop 4).take 4) = true := by decide +kernel
theorem okM_114 : okM (pgRw 114) = true := by decide +kernel
theorem okCd_114 : okC (pgB 114) (pgCd 114) = true := by
  have hz : okC (pgB 114) ((pgCd 114).drop 8) = true := by decide +kernel
  have hz : okC (pgB 114) ((pgCd 114).drop 4) = true := okC_cat _ 4 4 _ okS_114_1 hz
  have hz : okC (pgB 114) ((pgCd 114).drop 0) = true := okC_cat _ 4 0 _ okS_114_0 hz
  exact hz
theorem okMid_114 : okMid 114 = true := by unfold okMid; rw [okCd_114, okM_114]; rfl
theorem okS_115_0 : okC (pgB 115) (((pgCd 115).drop 0).take 4) = true := by decide +kernel
theorem okS_115_1 : okC (pgB 115) (((pgCd 115).drop 4).take 4) = true := by decide +kernel
theorem okS_115_2 : okC (pgB 115) (((pgCd 115).drop 8).take 4) = true := by decide +kernel
theorem okS_115_3 : okC (pgB 115) (((pgCd 115).drop 12).take 2) = true := by decide +kernel
theorem okM_115 : okM (pgRw 115) = true := by decide +kernel
theorem okCd_115 : okC (pgB 115) (pgCd 115) = true := by
  have hz : okC (pgB 115) ((pgCd 115).drop 14) = true := by decide +kernel
  have hz : okC (pgB 115) ((pgCd 115).drop 12) = true := okC_cat _ 2 12 _ okS_115_3 hz
  have hz : okC (pgB 115) ((pgCd 115).drop 8) = true := okC_cat _ 4 8 _ okS_115_2 hz
  have hz : okC (pgB 115) ((pgCd 115).drop 4) = true := okC_cat _ 4 4 _ okS_115_1 hz
  have hz : okC (pgB 115) ((pgCd 115).drop 0) = true := okC_cat _ 4 0 _ okS_115_0 hz
  exact hz
theorem okMid_115 : okMid 115 = true := by unfold okMid; rw [okCd_115, okM_115]; rfl
theorem okS_116_0 : okC (pgB 116) (((pgCd 116).drop 0).take 4) = true := by decide +kernel
theorem okS_116_1 : okC (pgB 116) (((pgCd 116).drop 4).take 4) = true := by decide +kernel
theorem okS_116_2 : okC (pgB 116) (((pgCd 116).drop 8).take 4) = true := by decide +kernel
theorem okS_116_3 : okC (pgB 116) (((pgCd 116).drop 12).take 3) = true := by decide +kernel
theorem okM_116 : okM (pgRw 116) = true := by decide +kernel
theorem okCd_116 : okC (pgB 116) (pgCd 116) = true := by
  have hz : okC (pgB 116) ((pgCd 116).drop 15) = true := by decide +kernel
  have hz : okC (pgB 116) ((pgCd 116).drop 12) = true := okC_cat _ 3 12 _ okS_116_3 hz
  have hz : okC (pgB 116) ((pgCd 116).drop 8) = true := okC_cat _ 4 8 _ okS_116_2 hz
  have hz : okC (pgB 116) ((pgCd 116).drop 4) = true := okC_cat _ 4 4 _ okS_116_1 hz
  have hz : okC (pgB 116) ((pgCd 116).drop 0) = true := okC_cat _ 4 0 _ okS_116_0 hz
  exact hz
theorem okMid_116 : okMid 116 = true := by unfold okMid; rw [okCd_116, okM_116]; rfl
theorem okS_117_0 : okC (pgB 117) (((pgCd 117).drop 0).take 4) = true := by decide +kernel
theorem okS_117_1 : okC (pgB 117) (((pgCd 117).drop 4).take 4) = true := by decide +kernel
theorem okS_117_2 : okC (pgB 117) (((pgCd 117).drop 8).take 4) = true := by decide +kernel
theorem okM_117 : okM (pgRw 117) = true := by decide +kernel
theorem okCd_117 : okC (pgB 117) (pgCd 117) = true := by
  have hz : okC (pgB 117) ((pgCd 117).drop 12) = true := by decide +kernel
  have hz : okC (pgB 117) ((pgCd 117).drop 8) = true := okC_cat _ 4 8 _ okS_117_2 hz
  have hz : okC (pgB 117) ((pgCd 117).drop 4) = true := okC_cat _ 4 4 _ okS_117_1 hz
  have hz : okC (pgB 117) ((pgCd 117).drop 0) = true := okC_cat _ 4 0 _ okS_117_0 hz
  exact hz
theorem okMid_117 : okMid 117 = true := by unfold okMid; rw [okCd_117, okM_117]; rfl
theorem okMid_118 : okMid 118 = true := by decide +kernel
theorem okS_119_0 : okC (pgB 119) (((pgCd 119).drop 0).take 4) = true := by decide +kernel
theorem okS_119_1 : okC (pgB 119) (((pgCd 119).drop 4).take 4) = true := by decide +kernel
theorem okS_119_2 : okC (pgB 119) (((pgCd 119).drop 8).take 2) = true := by decide +kernel
theorem okM_119 : okM (pgRw 119) = true := by decide +kernel
theorem okCd_119 : okC (pgB 119) (pgCd 119) = true := by
  have hz : okC (pgB 119) ((pgCd 119).drop 10) = true := by decide +kernel
  have hz : okC (pgB 119) ((pgCd 119).drop 8) = true := okC_cat _ 2 8 _ okS_119_2 hz
  have hz : okC (pgB 119) ((pgCd 119).drop 4) = true := okC_cat _ 4 4 _ okS_119_1 hz
  have hz : okC (pgB 119) ((pgCd 119).drop 0) = true := okC_cat _ 4 0 _ okS_119_0 hz
  exact hz
theorem okMid_119 : okMid 119 = true := by unfold okMid; rw [okCd_119, okM_119]; rfl
theorem okMid_120 : okMid 120 = true := by decide +kernel
theorem okMid_121 : okMid 121 = true := by decide +kernel
theorem okS_122_0 : okC (pgB 122) (((pgCd 122).drop 0).take 4) = true := by decide +kernel
theorem okS_122_1 : okC (pgB 122) (((pgCd 122).drop 4).take 4) = true := by decide +kernel
theorem okM_122 : okM (pgRw 122) = true := by decide +kernel
theorem okCd_122 : okC (pgB 122) (pgCd 122) = true := by
  have hz : okC (pgB 122) ((pgCd 122).drop 8) = true := by decide +kernel
  have hz : okC (pgB 122) ((pgCd 122).drop 4) = true := okC_cat _ 4 4 _ okS_122_1 hz
  have hz : okC (pgB 122) ((pgCd 122).drop 0) = true := okC_cat _ 4 0 _ okS_122_0 hz
  exact hz
theorem okMid_122 : okMid 122 = true := by unfold okMid; rw [okCd_122, okM_122]; rfl
theorem okMid_123 : okMid 123 = true := by decide +kernel
theorem okS_124_0 : okC (pgB 124) (((pgCd 124).drop 0).take 4) = true := by decide +kernel
theorem okS_124_1 : okC (pgB 124) (((pgCd 124).drop 4).take 4) = true := by decide +kernel
theorem okS_124_2 : okC (pgB 124) (((pgCd 124).drop 8).take 1) = true := by decide +kernel
theorem okM_124 : okM (pgRw 124) = true := by decide +kernel
theorem okCd_124 : okC (pgB 124) (pgCd 124) = true := by
  have hz : okC (pgB 124) ((pgCd 124).drop 9) = true := by decide +kernel
  have hz : okC (pgB 124) ((pgCd 124).drop 8) = true := okC_cat _ 1 8 _ okS_124_2 hz
  have hz : okC (pgB 124) ((pgCd 124).drop 4) = true := okC_cat _ 4 4 _ okS_124_1 hz
  have hz : okC (pgB 124) ((pgCd 124).drop 0) = true := okC_cat _ 4 0 _ okS_124_0 hz
  exact hz
theorem okMid_124 : okMid 124 = true := by unfold okMid; rw [okCd_124, okM_124]; rfl
theorem okMid_125 : okMid 125 = true := by decide +kernel
theorem okS_126_0 : okC (pgB 126) (((pgCd 126).drop 0).take 4) = true := by decide +kernel
theorem okS_126_1 : okC (pgB 126) (((pgCd 126).drop 4).take 4) = true := by decide +kernel
theorem okM_126 : okM (pgRw 126) = true := by decide +kernel
theorem okCd_126 : okC (pgB 126) (pgCd 126) = true := by
  have hz : okC (pgB 126) ((pgCd 126).drop 8) = true := by decide +kernel
  have hz : okC (pgB 126) ((pgCd 126).drop 4) = true := okC_cat _ 4 4 _ okS_126_1 hz
  have hz : okC (pgB 126) ((pgCd 126).drop 0) = true := okC_cat _ 4 0 _ okS_126_0 hz
  exact hz
theorem okMid_126 : okMid 126 = true := by unfold okMid; rw [okCd_126, okM_126]; rfl
theorem okMid_127 : okMid 127 = true := by decide +kernel
theorem okS_128_0 : okC (pgB 128) (((pgCd 128).drop 0).take 4) = true := by decide +kernel
theorem okS_128_1 : okC (pgB 128) (((pgCd 128).drop 4).take 4) = true := by decide +kernel
theorem okM_128 : okM (pgRw 128) = true := by decide +kernel
theorem okCd_128 : okC (pgB 128) (pgCd 128) = true := by
  have hz : okC (pgB 128) ((pgCd 128).drop 8) = true := by decide +kernel
  have hz : okC (pgB 128) ((pgCd 128).drop 4) = true := okC_cat _ 4 4 _ okS_128_1 hz
  have hz : okC (pgB 128) ((pgCd 128).drop 0) = true := okC_cat _ 4 0 _ okS_128_0 hz
  exact hz
theorem okMid_128 : okMid 128 = true := by unfold okMid; rw [okCd_128, okM_128]; rfl
theorem okS_129_0 : okC (pgB 129) (((pgCd 129).drop 0).take 4) = true := by decide +kernel
theorem okS_129_1 : okC (pgB 129) (((pgCd 129).drop 4).take 4) = true := by decide +kernel
theorem okM_129 : okM (pgRw 129) = true := by decide +kernel
theorem okCd_129 : okC (pgB 129) (pgCd 129) = true := by
  have hz : okC (pgB 129) ((pgCd 129).drop 8) = true := by decide +kernel
  have hz : okC (pgB 129) ((pgCd 129).drop 4) = true := okC_cat _ 4 4 _ okS_129_1 hz
  have hz : okC (pgB 129) ((pgCd 129).drop 0) = true := okC_cat _ 4 0 _ okS_129_0 hz
  exact hz
theorem okMid_129 : okMid 129 = true := by unfold okMid; rw [okCd_129, okM_129]; rfl
theorem okMid_130 : okMid 130 = true := by decide +kernel
theorem okMid_131 : okMid 131 = true := by decide +kernel
theorem okS_132_0 : okC (pgB 132) (((pgCd 132).drop 0).take 4) = true := by decide +kernel
theorem okS_132_1 : okC (pgB 132) (((pgCd 132).drop 4).take 4) = true := by decide +kernel
theorem okM_132 : okM (pgRw 132) = true := by decide +kernel
theorem okCd_132 : okC (pgB 132) (pgCd 132) = true := by
  have hz : okC (pgB 132) ((pgCd 132).drop 8) = true := by decide +kernel
  have hz : okC (pgB 132) ((pgCd 132).drop 4) = true := okC_cat _ 4 4 _ okS_132_1 hz
  have hz : okC (pgB 132) ((pgCd 132).drop 0) = true := okC_cat _ 4 0 _ okS_132_0 hz
  exact hz
theorem okMid_132 : okMid 132 = true := by unfold okMid; rw [okCd_132, okM_132]; rfl
theorem okMid_133 : okMid 133 = true := by decide +kernel
theorem okMid_134 : okMid 134 = true := by decide +kernel
theorem okS_135_0 : okC (pgB 135) (((pgCd 135).drop 0).take 4) = true := by decide +kernel
theorem okS_135_1 : okC (pgB 135) (((pgCd 135).drop 4).take 4) = true := by decide +kernel
theorem okS_135_2 : okC (pgB 135) (((pgCd 135).drop 8).take 4) = true := by decide +kernel
theorem okS_135_3 : okC (pgB 135) (((pgCd 135).drop 12).take 2) = true := by decide +kernel
theorem okM_135 : okM (pgRw 135) = true := by decide +kernel
theorem okCd_135 : okC (pgB 135) (pgCd 135) = true := by
  have hz : okC (pgB 135) ((pgCd 135).drop 14) = true := by decide +kernel
  have hz : okC (pgB 135) ((pgCd 135).drop 12) = true := okC_cat _ 2 12 _ okS_135_3 hz
  have hz : okC (pgB 135) ((pgCd 135).drop 8) = true := okC_cat _ 4 8 _ okS_135_2 hz
  have hz : okC (pgB 135) ((pgCd 135).drop 4) = true := okC_cat _ 4 4 _ okS_135_1 hz
  have hz : okC (pgB 135) ((pgCd 135).drop 0) = true := okC_cat _ 4 0 _ okS_135_0 hz
  exact hz
theorem okMid_135 : okMid 135 = true := by unfold okMid; rw [okCd_135, okM_135]; rfl
theorem okMid_136 : okMid 136 = true := by decide +kernel
theorem okMid_137 : okMid 137 = true := by decide +kernel
theorem okMid_138 : okMid 138 = true := by decide +kernel
theorem okMid_139 : okMid 139 = true := by decide +kernel
theorem okS_140_0 : okC (pgB 140) (((pgCd 140).drop 0).take 4) = true := by decide +kernel
theorem okS_140_1 : okC (pgB 140) (((pgCd 140).drop 4).take 4) = true := by decide +kernel
theorem okS_140_2 : okC (pgB 140) (((pgCd 140).drop 8).take 4) = true := by decide +kernel
theorem okS_140_3 : okC (pgB 140) (((pgCd 140).drop 12).take 2) = true := by decide +kernel
theorem okM_140 : okM (pgRw 140) = true := by decide +kernel
theorem okCd_140 : okC (pgB 140) (pgCd 140) = true := by
  have hz : okC (pgB 140) ((pgCd 140).drop 14) = true := by decide +kernel
  have hz : okC (pgB 140) ((pgCd 140).drop 12) = true := okC_cat _ 2 12 _ okS_140_3 hz
  have hz : okC (pgB 140) ((pgCd 140).drop 8) = true := okC_cat _ 4 8 _ okS_140_2 hz
  have hz : okC (pgB 140) ((pgCd 140).drop 4) = true := okC_cat _ 4 4 _ okS_140_1 hz
  have hz : okC (pgB 140) ((pgCd 140).drop 0) = true := okC_cat _ 4 0 _ okS_140_0 hz
  exact hz
theorem okMid_140 : okMid 140 = true := by unfold okMid; rw [okCd_140, okM_140]; rfl
theorem okMid_141 : okMid 141 = true := by decide +kernel
theorem okS_142_0 : okC (pgB 142) (((pgCd 142).drop 0).take 4) = true := by decide +kernel
theorem okS_142_1 : okC (pgB 142) (((pgCd 142).drop 4).take 4) = true := by decide +kernel
theorem okM_142 : okM (pgRw 142) = true := by decide +kernel
theorem okCd_142 : okC (pgB 142) (pgCd 142) = true := by
  have hz : okC (pgB 142) ((pgCd 142).drop 8) = true := by decide +kernel
  have hz : okC (pgB 142) ((pgCd 142).drop 4) = true := okC_cat _ 4 4 _ okS_142_1 hz
  have hz : okC (pgB 142) ((pgCd 142).drop 0) = true := okC_cat _ 4 0 _ okS_142_0 hz
  exact hz
theorem okMid_142 : okMid 142 = true := by unfold okMid; rw [okCd_142, okM_142]; rfl
theorem okMid_143 : okMid 143 = true := by decide +kernel
theorem okMid_144 : okMid 144 = true := by decide +kernel
theorem okS_145_0 : okC (pgB 145) (((pgCd 145).drop 0).take 4) = true := by decide +kernel
theorem okS_145_1 : okC (pgB 145) (((pgCd 145).drop 4).take 4) = true := by decide +kernel
theorem okS_145_2 : okC (pgB 145) (((pgCd 145).drop 8).take 4) = true := by decide +kernel
theorem okS_145_3 : okC (pgB 145) (((pgCd 145).drop 12).take 4) = true := by decide +kernel
theorem okS_145_4 : okC (pgB 145) (((pgCd 145).drop 16).take 4) = true := by decide +kernel
theorem okS_145_5 : okC (pgB 145) (((pgCd 145).drop 20).take 3) = true := by decide +kernel
theorem okM_145 : okM (pgRw 145) = true := by decide +kernel
theorem okCd_145 : okC (pgB 145) (pgCd 145) = true := by
  have hz : okC (pgB 145) ((pgCd 145).drop 23) = true := by decide +kernel
  have hz : okC (pgB 145) ((pgCd 145).drop 20) = true := okC_cat _ 3 20 _ okS_145_5 hz
  have hz : okC (pgB 145) ((pgCd 145).drop 16) = true := okC_cat _ 4 16 _ okS_145_4 hz
  have hz : okC (pgB 145) ((pgCd 145).drop 12) = true := okC_cat _ 4 12 _ okS_145_3 hz
  have hz : okC (pgB 145) ((pgCd 145).drop 8) = true := okC_cat _ 4 8 _ okS_145_2 hz
  have hz : okC (pgB 145) ((pgCd 145).drop 4) = true := okC_cat _ 4 4 _ okS_145_1 hz
  have hz : okC (pgB 145) ((pgCd 145).drop 0) = true := okC_cat _ 4 0 _ okS_145_0 hz
  exact hz
theorem okMid_145 : okMid 145 = true := by unfold okMid; rw [okCd_145, okM_145]; rfl
theorem okMid_146 : okMid 146 = true := by decide +kernel
theorem okMid_147 : okMid 147 = true := by decide +kernel
theorem okMid_148 : okMid 148 = true := by decide +kernel
theorem okMid_149 : okMid 149 = true := by decide +kernel
theorem okS_150_0 : okC (pgB 150) (((pgCd 150).drop 0).take 4) = true := by decide +kernel
theorem okS_150_1 : okC (pgB 150) (((pgCd 150).drop 4).take 4) = true := by decide +kernel
theorem okS_150_2 : okC (pgB 150) (((pgCd 150).drop 8).take 4) = true := by decide +kernel
theorem okS_150_3 : okC (pgB 150) (((pgCd 150).drop 12).take 4) = true := by decide +kernel
theorem okS_150_4 : okC (pgB 150) (((pgCd 150).drop 16).take 3) = true := by decide +kernel
theorem okM_150 : okM (pgRw 150) = true := by decide +kernel
theorem okCd_150 : okC (pgB 150) (pgCd 150) = true := by
  have hz : okC (pgB 150) ((pgCd 150).drop 19) = true := by decide +kernel
  have hz : okC (pgB 150) ((pgCd 150).drop 16) = true := okC_cat _ 3 16 _ okS_150_4 hz
  have hz : okC (pgB 150) ((pgCd 150).drop 12) = true := okC_cat _ 4 12 _ okS_150_3 hz
  have hz : okC (pgB 150) ((pgCd 150).drop 8) = true := okC_cat _ 4 8 _ okS_150_2 hz
  have hz : okC (pgB 150) ((pgCd 150).drop 4) = true := okC_cat _ 4 4 _ okS_150_1 hz
  have hz : okC (pgB 150) ((pgCd 150).drop 0) = true := okC_cat _ 4 0 _ okS_150_0 hz
  exact hz
theorem okMid_150 : okMid 150 = true := by unfold okMid; rw [okCd_150, okM_150]; rfl
theorem okS_151_0 : okC (pgB 151) (((pgCd 151).drop 0).take 4) = true := by decide +kernel
theorem okS_151_1 : okC (pgB 151) (((pgCd 151).drop 4).take 4) = true := by decide +kernel
theorem okS_151_2 : okC (pgB 151) (((pgCd 151).drop 8).take 4) = true := by decide +kernel
theorem okS_151_3 : okC (pgB 151) (((pgCd 151).drop 12).take 4) = true := by decide +kernel
theorem okS_151_4 : okC (pgB 151) (((pgCd 151).drop 16).take 4) = true := by decide +kernel
theorem okS_151_5 : okC (pgB 151) (((pgCd 151).drop 20).take 4) = true := by decide +kernel
theorem okS_151_6 : okC (pgB 151) (((pgCd 151).drop 24).take 4) = true := by decide +kernel
theorem okS_151_7 : okC (pgB 151) (((pgCd 151).drop 28).take 4) = true := by decide +kernel
theorem okS_151_8 : okC (pgB 151) (((pgCd 151).drop 32).take 4) = true := by decide +kernel
theorem okS_151_9 : okC (pgB 151) (((pgCd 151).drop 36).take 4) = true := by decide +kernel
theorem okS_151_10 : okC (pgB 151) (((pgCd 151).drop 40).take 4) = true := by decide +kernel
theorem okS_151_11 : okC (pgB 151) (((pgCd 151).drop 44).take 4) = true := by decide +kernel
theorem okS_151_12 : okC (pgB 151) (((pgCd 151).drop 48).take 4) = true := by decide +kernel
theorem okS_151_13 : okC (pgB 151) (((pgCd 151).drop 52).take 4) = true := by decide +kernel
theorem okS_151_14 : okC (pgB 151) (((pgCd 151).drop 56).take 4) = true := by decide +kernel
theorem okS_151_15 : okC (pgB 151) (((pgCd 151).drop 60).take 4) = true := by decide +kernel
theorem okS_151_16 : okC (pgB 151) (((pgCd 151).drop 64).take 3) = true := by decide +kernel
theorem okM_151 : okM (pgRw 151) = true := by decide +kernel
theorem okCd_151 : okC (pgB 151) (pgCd 151) = true := by
  have hz : okC (pgB 151) ((pgCd 151).drop 67) = true := by decide +kernel
  have hz : okC (pgB 151) ((pgCd 151).drop 64) = true := okC_cat _ 3 64 _ okS_151_16 hz
  have hz : okC (pgB 151) ((pgCd 151).drop 60) = true := okC_cat _ 4 60 _ okS_151_15 hz
  have hz : okC (pgB 151) ((pgCd 151).drop 56) = true := okC_cat _ 4 56 _ okS_151_14 hz
  have hz : okC (pgB 151) ((pgCd 151).drop 52) = true := okC_cat _ 4 52 _ okS_151_13 hz
  have hz : okC (pgB 151) ((pgCd 151).drop 48) = true := okC_cat _ 4 48 _ okS_151_12 hz
  have hz : okC (pgB 151) ((pgCd 151).drop 44) = true := okC_cat _ 4 44 _ okS_151_11 hz
  have hz : okC (pgB 151) ((pgCd 151).drop 40) = true := okC_cat _ 4 40 _ okS_151_10 hz
  have hz : okC (pgB 151) ((pgCd 151).drop 36) = true := okC_cat _ 4 36 _ okS_151_9 hz
  have hz : okC (pgB 151) ((pgCd 151).drop 32) = true := okC_cat _ 4 32 _ okS_151_8 hz
  have hz : okC (pgB 151) ((pgCd 151).drop 28) = true := okC_cat _ 4 28 _ okS_151_7 hz
  have hz : okC (pgB 151) ((pgCd 151).drop 24) = true := okC_cat _ 4 24 _ okS_151_6 hz
  have hz : okC (pgB 151) ((pgCd 151).drop 20) = true := okC_cat _ 4 20 _ okS_151_5 hz
  have hz : okC (pgB 151) ((pgCd 151).drop 16) = true := okC_cat _ 4 16 _ okS_151_4 hz
  have hz : okC (pgB 151) ((pgCd 151).drop 12) = true := okC_cat _ 4 12 _ okS_151_3 hz
  have hz : okC (pgB 151) ((pgCd 151).drop 8) = true := okC_cat _ 4 8 _ okS_151_2 hz
  have hz : okC (pgB 151) ((pgCd 151).drop 4) = true := okC_cat _ 4 4 _ okS_151_1 hz
  have hz : okC (pgB 151) ((pgCd 151).drop 0) = true := okC_cat _ 4 0 _ okS_151_0 hz
  exact hz
theorem okMid_151 : okMid 151 = true := by unfold okMid; rw [okCd_151, okM_151]; rfl
