/-- not one of java.lang.Math's (which the machine runs by rows of their own) -/
def m_pl (k : Nat) : Bool := !(Nat.blt 259 k && Nat.blt k 264)
theorem okMid_all : ∀ k, k < 275 → m_pl k = true → okMid k = true := by
  intro k hk hp
  have q0 : 0 ≤ k := Nat.zero_le k
  rcases Nat.lt_or_ge k 137 with q | q
  · rcases Nat.lt_or_ge k 68 with q | q
    · rcases Nat.lt_or_ge k 34 with q | q
      · rcases Nat.lt_or_ge k 17 with q | q
        · rcases Nat.lt_or_ge k 8 with q | q
          · rcases Nat.lt_or_ge k 4 with q | q
            · rcases Nat.lt_or_ge k 2 with q | q
              · rcases Nat.lt_or_ge k 1 with q | q
                · have e : k = 0 := by omega
                  subst e; exact okMid_0
                · have e : k = 1 := by omega
                  subst e; exact okMid_1
              · rcases Nat.lt_or_ge k 3 with q | q
                · have e : k = 2 := by omega
                  subst e; exact okMid_2
                · have e : k = 3 := by omega
                  subst e; exact okMid_3
            · rcases Nat.lt_or_ge k 6 with q | q
              · rcases Nat.lt_or_ge k 5 with q | q
                · have e : k = 4 := by omega
                  subst e; exact okMid_4
                · have e : k = 5 := by omega
                  subst e; exact okMid_5
              · rcases Nat.lt_or_ge k 7 with q | q
                · have e : k = 6 := by omega
                  subst e; exact okMid_6
                · have e : k = 7 := by omega
                  subst e; exact okMid_7
          · rcases Nat.lt_or_ge k 12 with q | q
            · rcases Nat.lt_or_ge k 10 with q | q
              · rcases Nat.lt_or_ge k 9 with q | q
                · have e : k = 8 := by omega
                  subst e; exact okMid_8
                · have e : k = 9 := by omega
                  subst e; exact okMid_9
              · rcases Nat.lt_or_ge k 11 with q | q
                · have e : k = 10 := by omega
                  subst e; exact okMid_10
                · have e : k = 11 := by omega
                  subst e; exact okMid_11
            · rcases Nat.lt_or_ge k 14 with q | q
              · rcases Nat.lt_or_ge k 13 with q | q
                · have e : k = 12 := by omega
                  subst e; exact okMid_12
                · have e : k = 13 := by omega
                  subst e; exact okMid_13
              · rcases Nat.lt_or_ge k 15 with q | q
                · have e : k = 14 := by omega
                  subst e; exact okMid_14
                · rcases Nat.lt_or_ge k 16 with q | q
                  · have e : k = 15 := by omega
                    subst e; exact okMid_15
                  · have e : k = 16 := by omega
                    subst e; exact okMid_16
        · rcases Nat.lt_or_ge k 25 with q | q
          · rcases Nat.lt_or_ge k 21 with q | q
            · rcases Nat.lt_or_ge k 19 with q | q
              · rcases Nat.lt_or_ge k 18 with q | q
                · have e : k = 17 := by omega
                  subst e; exact okMid_17
                · have e : k = 18 := by omega
                  subst e; exact okMid_18
              · rcases Nat.lt_or_ge k 20 with q | q
                · have e : k = 19 := by omega
                  subst e; exact okMid_19
                · have e : k = 20 := by omega
                  subst e; exact okMid_20
            · rcases Nat.lt_or_ge k 23 with q | q
              · rcases Nat.lt_or_ge k 22 with q | q
                · have e : k = 21 := by omega
                  subst e; exact okMid_21
                · have e : k = 22 := by omega
                  subst e; exact okMid_22
              · rcases Nat.lt_or_ge k 24 with q | q
                · have e : k = 23 := by omega
                  subst e; exact okMid_23
                · have e : k = 24 := by omega
                  subst e; exact okMid_24
          · rcases Nat.lt_or_ge k 29 with q | q
            · rcases Nat.lt_or_ge k 27 with q | q
              · rcases Nat.lt_or_ge k 26 with q | q
                · have e : k = 25 := by omega
                  subst e; exact okMid_25
                · have e : k = 26 := by omega
                  subst e; exact okMid_26
              · rcases Nat.lt_or_ge k 28 with q | q
                · have e : k = 27 := by omega
                  subst e; exact okMid_27
                · have e : k = 28 := by omega
                  subst e; exact okMid_28
            · rcases Nat.lt_or_ge k 31 with q | q
              · rcases Nat.lt_or_ge k 30 with q | q
                · have e : k = 29 := by omega
                  subst e; exact okMid_29
                · have e : k = 30 := by omega
                  subst e; exact okMid_30
              · rcases Nat.lt_or_ge k 32 with q | q
                · have e : k = 31 := by omega
                  subst e; exact okMid_31
                · rcases Nat.lt_or_ge k 33 with q | q
                  · have e : k = 32 := by omega
                    subst e; exact okMid_32
                  · have e : k = 33 := by omega
                    subst e; exact okMid_33
      · rcases Nat.lt_or_ge k 51 with q | q
        · rcases Nat.lt_or_ge k 42 with q | q
          · rcases Nat.lt_or_ge k 38 with q | q
            · rcases Nat.lt_or_ge k 36 with q | q
              · rcases Nat.lt_or_ge k 35 with q | q
                · have e : k = 34 := by omega
                  subst e; exact okMid_34
                · have e : k = 35 := by omega
                  subst e; exact okMid_35
              · rcases Nat.lt_or_ge k 37 with q | q
                · have e : k = 36 := by omega
                  subst e; exact okMid_36
                · have e : k = 37 := by omega
                  subst e; exact okMid_37
            · rcases Nat.lt_or_ge k 40 with q | q
              · rcases Nat.lt_or_ge k 39 with q | q
                · have e : k = 38 := by omega
                  subst e; exact okMid_38
                · have e : k = 39 := by omega
                  subst e; exact okMid_39
              · rcases Nat.lt_or_ge k 41 with q | q
                · have e : k = 40 := by omega
                  subst e; exact okMid_40
                · have e : k = 41 := by omega
                  subst e; exact okMid_41
          · rcases Nat.lt_or_ge k 46 with q | q
            · rcases Nat.lt_or_ge k 44 with q | q
              · rcases Nat.lt_or_ge k 43 with q | q
                · have e : k = 42 := by omega
                  subst e; exact okMid_42
                · have e : k = 43 := by omega
                  subst e; exact okMid_43
              · rcases Nat.lt_or_ge k 45 with q | q
                · have e : k = 44 := by omega
                  subst e; exact okMid_44
                · have e : k = 45 := by omega
                  subst e; exact okMid_45
            · rcases Nat.lt_or_ge k 48 with q | q
              · rcases Nat.lt_or_ge k 47 with q | q
                · have e : k = 46 := by omega
                  subst e; exact okMid_46
                · have e : k = 47 := by omega
                  subst e; exact okMid_47
              · rcases Nat.lt_or_ge k 49 with q | q
                · have e : k = 48 := by omega
                  subst e; exact okMid_48
                · rcases Nat.lt_or_ge k 50 with q | q
                  · have e : k = 49 := by omega
                    subst e; exact okMid_49
                  · have e : k = 50 := by omega
                    subst e; exact okMid_50
        · rcases Nat.lt_or_ge k 59 with q | q
          · rcases Nat.lt_or_ge k 55 with q | q
            · rcases Nat.lt_or_ge k 53 with q | q
              · rcases Nat.lt_or_ge k 52 with q | q
                · have e : k = 51 := by omega
                  subst e; exact okMid_51
                · have e : k = 52 := by omega
                  subst e; exact okMid_52
              · rcases Nat.lt_or_ge k 54 with q | q
                · have e : k = 53 := by omega
                  subst e; exact okMid_53
                · have e : k = 54 := by omega
                  subst e; exact okMid_54
            · rcases Nat.lt_or_ge k 57 with q | q
              · rcases Nat.lt_or_ge k 56 with q | q
                · have e : k = 55 := by omega
                  subst e; exact okMid_55
                · have e : k = 56 := by omega
                  subst e; exact okMid_56
              · rcases Nat.lt_or_ge k 58 with q | q
                · have e : k = 57 := by omega
                  subst e; exact okMid_57
                · have e : k = 58 := by omega
                  subst e; exact okMid_58
          · rcases Nat.lt_or_ge k 63 with q | q
            · rcases Nat.lt_or_ge k 61 with q | q
              · rcases Nat.lt_or_ge k 60 with q | q
                · have e : k = 59 := by omega
                  subst e; exact okMid_59
                · have e : k = 60 := by omega
                  subst e; exact okMid_60
              · rcases Nat.lt_or_ge k 62 with q | q
                · have e : k = 61 := by omega
                  subst e; exact okMid_61
                · have e : k = 62 := by omega
                  subst e; exact okMid_62
            · rcases Nat.lt_or_ge k 65 with q | q
              · rcases Nat.lt_or_ge k 64 with q | q
                · have e : k = 63 := by omega
                  subst e; exact okMid_63
                · have e : k = 64 := by omega
                  subst e; exact okMid_64
              · rcases Nat.lt_or_ge k 66 with q | q
                · have e : k = 65 := by omega
                  subst e; exact okMid_65
                · rcases Nat.lt_or_ge k 67 with q | q
                  · have e : k = 66 := by omega
                    subst e; exact okMid_66
                  · have e : k = 67 := by omega
                    subst e; exact okMid_67
    · rcases Nat.lt_or_ge k 102 with q | q
      · rcases Nat.lt_or_ge k 85 with q | q
        · rcases Nat.lt_or_ge k 76 with q | q
          · rcases Nat.lt_or_ge k 72 with q | q
            · rcases Nat.lt_or_ge k 70 with q | q
              · rcases Nat.lt_or_ge k 69 with q | q
                · have e : k = 68 := by omega
                  subst e; exact okMid_68
                · have e : k = 69 := by omega
                  subst e; exact okMid_69
              · rcases Nat.lt_or_ge k 71 with q | q
                · have e : k = 70 := by omega
                  subst e; exact okMid_70
                · have e : k = 71 := by omega
                  subst e; exact okMid_71
            · rcases Nat.lt_or_ge k 74 with q | q
              · rcases Nat.lt_or_ge k 73 with q | q
                · have e : k = 72 := by omega
                  subst e; exact okMid_72
                · have e : k = 73 := by omega
                  subst e; exact okMid_73
              · rcases Nat.lt_or_ge k 75 with q | q
                · have e : k = 74 := by omega
                  subst e; exact okMid_74
                · have e : k = 75 := by omega
                  subst e; exact okMid_75
          · rcases Nat.lt_or_ge k 80 with q | q
            · rcases Nat.lt_or_ge k 78 with q | q
              · rcases Nat.lt_or_ge k 77 with q | q
                · have e : k = 76 := by omega
                  subst e; exact okMid_76
                · have e : k = 77 := by omega
                  subst e; exact okMid_77
              · rcases Nat.lt_or_ge k 79 with q | q
                · have e : k = 78 := by omega
                  subst e; exact okMid_78
                · have e : k = 79 := by omega
                  subst e; exact okMid_79
            · rcases Nat.lt_or_ge k 82 with q | q
              · rcases Nat.lt_or_ge k 81 with q | q
                · have e : k = 80 := by omega
                  subst e; exact okMid_80
                · have e : k = 81 := by omega
                  subst e; exact okMid_81
              · rcases Nat.lt_or_ge k 83 with q | q
                · have e : k = 82 := by omega
                  subst e; exact okMid_82
                · rcases Nat.lt_or_ge k 84 with q | q
                  · have e : k = 83 := by omega
                    subst e; exact okMid_83
                  · have e : k = 84 := by omega
                    subst e; exact okMid_84
        · rcases Nat.lt_or_ge k 93 with q | q
          · rcases Nat.lt_or_ge k 89 with q | q
            · rcases Nat.lt_or_ge k 87 with q | q
              · rcases Nat.lt_or_ge k 86 with q | q
                · have e : k = 85 := by omega
                  subst e; exact okMid_85
                · have e : k = 86 := by omega
                  subst e; exact okMid_86
              · rcases Nat.lt_or_ge k 88 with q | q
                · have e : k = 87 := by omega
                  subst e; exact okMid_87
                · have e : k = 88 := by omega
                  subst e; exact okMid_88
            · rcases Nat.lt_or_ge k 91 with q | q
              · rcases Nat.lt_or_ge k 90 with q | q
                · have e : k = 89 := by omega
                  subst e; exact okMid_89
                · have e : k = 90 := by omega
                  subst e; exact okMid_90
              · rcases Nat.lt_or_ge k 92 with q | q
                · have e : k = 91 := by omega
                  subst e; exact okMid_91
                · have e : k = 92 := by omega
                  subst e; exact okMid_92
          · rcases Nat.lt_or_ge k 97 with q | q
            · rcases Nat.lt_or_ge k 95 with q | q
              · rcases Nat.lt_or_ge k 94 with q | q
                · have e : k = 93 := by omega
                  subst e; exact okMid_93
                · have e : k = 94 := by omega
                  subst e; exact okMid_94
              · rcases Nat.lt_or_ge k 96 with q | q
                · have e : k = 95 := by omega
                  subst e; exact okMid_95
                · have e : k = 96 := by omega
                  subst e; exact okMid_96
            · rcases Nat.lt_or_ge k 99 with q | q
              · rcases Nat.lt_or_ge k 98 with q | q
                · have e : k = 97 := by omega
                  subst e; exact okMid_97
                · have e : k = 98 := by omega
                  subst e; exact okMid_98
              · rcases Nat.lt_or_ge k 100 with q | q
                · have e : k = 99 := by omega
                  subst e; exact okMid_99
                · rcases Nat.lt_or_ge k 101 with q | q
                  · have e : k = 100 := by omega
                    subst e; exact okMid_100
                  · have e : k = 101 := by omega
                    subst e; exact okMid_101
      · rcases Nat.lt_or_ge k 119 with q | q
        · rcases Nat.lt_or_ge k 110 with q | q
          · rcases Nat.lt_or_ge k 106 with q | q
            · rcases Nat.lt_or_ge k 104 with q | q
              · rcases Nat.lt_or_ge k 103 with q | q
                · have e : k = 102 := by omega
                  subst e; exact okMid_102
                · have e : k = 103 := by omega
                  subst e; exact okMid_103
              · rcases Nat.lt_or_ge k 105 with q | q
                · have e : k = 104 := by omega
                  subst e; exact okMid_104
                · have e : k = 105 := by omega
                  subst e; exact okMid_105
            · rcases Nat.lt_or_ge k 108 with q | q
              · rcases Nat.lt_or_ge k 107 with q | q
                · have e : k = 106 := by omega
                  subst e; exact okMid_106
                · have e : k = 107 := by omega
                  subst e; exact okMid_107
              · rcases Nat.lt_or_ge k 109 with q | q
                · have e : k = 108 := by omega
                  subst e; exact okMid_108
                · have e : k = 109 := by omega
                  subst e; exact okMid_109
          · rcases Nat.lt_or_ge k 114 with q | q
            · rcases Nat.lt_or_ge k 112 with q | q
              · rcases Nat.lt_or_ge k 111 with q | q
                · have e : k = 110 := by omega
                  subst e; exact okMid_110
                · have e : k = 111 := by omega
                  subst e; exact okMid_111
              · rcases Nat.lt_or_ge k 113 with q | q
                · have e : k = 112 := by omega
                  subst e; exact okMid_112
                · have e : k = 113 := by omega
                  subst e; exact okMid_113
            · rcases Nat.lt_or_ge k 116 with q | q
              · rcases Nat.lt_or_ge k 115 with q | q
                · have e : k = 114 := by omega
                  subst e; exact okMid_114
                · have e : k = 115 := by omega
                  subst e; exact okMid_115
              · rcases Nat.lt_or_ge k 117 with q | q
                · have e : k = 116 := by omega
                  subst e; exact okMid_116
                · rcases Nat.lt_or_ge k 118 with q | q
                  · have e : k = 117 := by omega
                    subst e; exact okMid_117
                  · have e : k = 118 := by omega
                    subst e; exact okMid_118
        · rcases Nat.lt_or_ge k 128 with q | q
          · rcases Nat.lt_or_ge k 123 with q | q
            · rcases Nat.lt_or_ge k 121 with q | q
              · rcases Nat.lt_or_ge k 120 with q | q
                · have e : k = 119 := by omega
                  subst e; exact okMid_119
                · have e : k = 120 := by omega
                  subst e; exact okMid_120
              · rcases Nat.lt_or_ge k 122 with q | q
                · have e : k = 121 := by omega
                  subst e; exact okMid_121
                · have e : k = 122 := by omega
                  subst e; exact okMid_122
            · rcases Nat.lt_or_ge k 125 with q | q
              · rcases Nat.lt_or_ge k 124 with q | q
                · have e : k = 123 := by omega
                  subst e; exact okMid_123
                · have e : k = 124 := by omega
                  subst e; exact okMid_124
              · rcases Nat.lt_or_ge k 126 with q | q
                · have e : k = 125 := by omega
                  subst e; exact okMid_125
                · rcases Nat.lt_or_ge k 127 with q | q
                  · have e : k = 126 := by omega
                    subst e; exact okMid_126
                  · have e : k = 127 := by omega
                    subst e; exact okMid_127
          · rcases Nat.lt_or_ge k 132 with q | q
            · rcases Nat.lt_or_ge k 130 with q | q
              · rcases Nat.lt_or_ge k 129 with q | q
                · have e : k = 128 := by omega
                  subst e; exact okMid_128
                · have e : k = 129 := by omega
                  subst e; exact okMid_129
              · rcases Nat.lt_or_ge k 131 with q | q
                · have e : k = 130 := by omega
                  subst e; exact okMid_130
                · have e : k = 131 := by omega
                  subst e; exact okMid_131
            · rcases Nat.lt_or_ge k 134 with q | q
              · rcases Nat.lt_or_ge k 133 with q | q
                · have e : k = 132 := by omega
                  subst e; exact okMid_132
                · have e : k = 133 := by omega
                  subst e; exact okMid_133
              · rcases Nat.lt_or_ge k 135 with q | q
                · have e : k = 134 := by omega
                  subst e; exact okMid_134
                · rcases Nat.lt_or_ge k 136 with q | q
                  · have e : k = 135 := by omega
                    subst e; exact okMid_135
                  · have e : k = 136 := by omega
                    subst e; exact okMid_136
  · rcases Nat.lt_or_ge k 206 with q | q
    · rcases Nat.lt_or_ge k 171 with q | q
      · rcases Nat.lt_or_ge k 154 with q | q
        · rcases Nat.lt_or_ge k 145 with q | q
          · rcases Nat.lt_or_ge k 141 with q | q
            · rcases Nat.lt_or_ge k 139 with q | q
              · rcases Nat.lt_or_ge k 138 with q | q
                · have e : k = 137 := by omega
                  subst e; exact okMid_137
                · have e : k = 138 := by omega
                  subst e; exact okMid_138
              · rcases Nat.lt_or_ge k 140 with q | q
                · have e : k = 139 := by omega
                  subst e; exact okMid_139
                · have e : k = 140 := by omega
                  subst e; exact okMid_140
            · rcases Nat.lt_or_ge k 143 with q | q
              · rcases Nat.lt_or_ge k 142 with q | q
                · have e : k = 141 := by omega
                  subst e; exact okMid_141
                · have e : k = 142 := by omega
                  subst e; exact okMid_142
              · rcases Nat.lt_or_ge k 144 with q | q
                · have e : k = 143 := by omega
                  subst e; exact okMid_143
                · have e : k = 144 := by omega
                  subst e; exact okMid_144
          · rcases Nat.lt_or_ge k 149 with q | q
            · rcases Nat.lt_or_ge k 147 with q | q
              · rcases Nat.lt_or_ge k 146 with q | q
                · have e : k = 145 := by omega
                  subst e; exact okMid_145
                · have e : k = 146 := by omega
                  subst e; exact okMid_146
              · rcases Nat.lt_or_ge k 148 with q | q
                · have e : k = 147 := by omega
                  subst e; exact okMid_147
                · have e : k = 148 := by omega
                  subst e; exact okMid_148
            · rcases Nat.lt_or_ge k 151 with q | q
              · rcases Nat.lt_or_ge k 150 with q | q
                · have e : k = 149 := by omega
                  subst e; exact okMid_149
                · have e : k = 150 := by omega
                  subst e; exact okMid_150
              · rcases Nat.lt_or_ge k 152 with q | q
                · have e : k = 151 := by omega
                  subst e; exact okMid_151
                · rcases Nat.lt_or_ge k 153 with q | q
                  · have e : k = 152 := by omega
                    subst e; exact okMid_152
                  · have e : k = 153 := by omega
                    subst e; exact okMid_153
        · rcases Nat.lt_or_ge k 162 with q | q
          · rcases Nat.lt_or_ge k 158 with q | q
            · rcases Nat.lt_or_ge k 156 with q | q
              · rcases Nat.lt_or_ge k 155 with q | q
                · have e : k = 154 := by omega
                  subst e; exact okMid_154
                · have e : k = 155 := by omega
                  subst e; exact okMid_155
              · rcases Nat.lt_or_ge k 157 with q | q
                · have e : k = 156 := by omega
                  subst e; exact okMid_156
                · have e : k = 157 := by omega
                  subst e; exact okMid_157
            · rcases Nat.lt_or_ge k 160 with q | q
              · rcases Nat.lt_or_ge k 159 with q | q
                · have e : k = 158 := by omega
                  subst e; exact okMid_158
                · have e : k = 159 := by omega
                  subst e; exact okMid_159
              · rcases Nat.lt_or_ge k 161 with q | q
                · have e : k = 160 := by omega
                  subst e; exact okMid_160
                · have e : k = 161 := by omega
                  subst e; exact okMid_161
          · rcases Nat.lt_or_ge k 166 with q | q
            · rcases Nat.lt_or_ge k 164 with q | q
              · rcases Nat.lt_or_ge k 163 with q | q
                · have e : k = 162 := by omega
                  subst e; exact okMid_162
                · have e : k = 163 := by omega
                  subst e; exact okMid_163
              · rcases Nat.lt_or_ge k 165 with q | q
                · have e : k = 164 := by omega
                  subst e; exact okMid_164
                · have e : k = 165 := by omega
                  subst e; exact okMid_165
            · rcases Nat.lt_or_ge k 168 with q | q
              · rcases Nat.lt_or_ge k 167 with q | q
                · have e : k = 166 := by omega
                  subst e; exact okMid_166
                · have e : k = 167 := by omega
                  subst e; exact okMid_167
              · rcases Nat.lt_or_ge k 169 with q | q
                · have e : k = 168 := by omega
                  subst e; exact okMid_168
                · rcases Nat.lt_or_ge k 170 with q | q
                  · have e : k = 169 := by omega
                    subst e; exact okMid_169
                  · have e : k = 170 := by omega
                    subst e; exact okMid_170
      · rcases Nat.lt_or_ge k 188 with q | q
        · rcases Nat.lt_or_ge k 179 with q | q
          · rcases Nat.lt_or_ge k 175 with q | q
            · rcases Nat.lt_or_ge k 173 with q | q
              · rcases Nat.lt_or_ge k 172 with q | q
                · have e : k = 171 := by omega
                  subst e; exact okMid_171
                · have e : k = 172 := by omega
                  subst e; exact okMid_172
              · rcases Nat.lt_or_ge k 174 with q | q
                · have e : k = 173 := by omega
                  subst e; exact okMid_173
                · have e : k = 174 := by omega
                  subst e; exact okMid_174
            · rcases Nat.lt_or_ge k 177 with q | q
              · rcases Nat.lt_or_ge k 176 with q | q
                · have e : k = 175 := by omega
                  subst e; exact okMid_175
                · have e : k = 176 := by omega
                  subst e; exact okMid_176
              · rcases Nat.lt_or_ge k 178 with q | q
                · have e : k = 177 := by omega
                  subst e; exact okMid_177
                · have e : k = 178 := by omega
                  subst e; exact okMid_178
          · rcases Nat.lt_or_ge k 183 with q | q
            · rcases Nat.lt_or_ge k 181 with q | q
              · rcases Nat.lt_or_ge k 180 with q | q
                · have e : k = 179 := by omega
                  subst e; exact okMid_179
                · have e : k = 180 := by omega
                  subst e; exact okMid_180
              · rcases Nat.lt_or_ge k 182 with q | q
                · have e : k = 181 := by omega
                  subst e; exact okMid_181
                · have e : k = 182 := by omega
                  subst e; exact okMid_182
            · rcases Nat.lt_or_ge k 185 with q | q
              · rcases Nat.lt_or_ge k 184 with q | q
                · have e : k = 183 := by omega
                  subst e; exact okMid_183
                · have e : k = 184 := by omega
                  subst e; exact okMid_184
              · rcases Nat.lt_or_ge k 186 with q | q
                · have e : k = 185 := by omega
                  subst e; exact okMid_185
                · rcases Nat.lt_or_ge k 187 with q | q
                  · have e : k = 186 := by omega
                    subst e; exact okMid_186
                  · have e : k = 187 := by omega
                    subst e; exact okMid_187
        · rcases Nat.lt_or_ge k 197 with q | q
          · rcases Nat.lt_or_ge k 192 with q | q
            · rcases Nat.lt_or_ge k 190 with q | q
              · rcases Nat.lt_or_ge k 189 with q | q
                · have e : k = 188 := by omega
                  subst e; exact okMid_188
                · have e : k = 189 := by omega
                  subst e; exact okMid_189
              · rcases Nat.lt_or_ge k 191 with q | q
                · have e : k = 190 := by omega
                  subst e; exact okMid_190
                · have e : k = 191 := by omega
                  subst e; exact okMid_191
            · rcases Nat.lt_or_ge k 194 with q | q
              · rcases Nat.lt_or_ge k 193 with q | q
                · have e : k = 192 := by omega
                  subst e; exact okMid_192
                · have e : k = 193 := by omega
                  subst e; exact okMid_193
              · rcases Nat.lt_or_ge k 195 with q | q
                · have e : k = 194 := by omega
                  subst e; exact okMid_194
                · rcases Nat.lt_or_ge k 196 with q | q
                  · have e : k = 195 := by omega
                    subst e; exact okMid_195
                  · have e : k = 196 := by omega
                    subst e; exact okMid_196
          · rcases Nat.lt_or_ge k 201 with q | q
            · rcases Nat.lt_or_ge k 199 with q | q
              · rcases Nat.lt_or_ge k 198 with q | q
                · have e : k = 197 := by omega
                  subst e; exact okMid_197
                · have e : k = 198 := by omega
                  subst e; exact okMid_198
              · rcases Nat.lt_or_ge k 200 with q | q
                · have e : k = 199 := by omega
                  subst e; exact okMid_199
                · have e : k = 200 := by omega
                  subst e; exact okMid_200
            · rcases Nat.lt_or_ge k 203 with q | q
              · rcases Nat.lt_or_ge k 202 with q | q
                · have e : k = 201 := by omega
                  subst e; exact okMid_201
                · have e : k = 202 := by omega
                  subst e; exact okMid_202
              · rcases Nat.lt_or_ge k 204 with q | q
                · have e : k = 203 := by omega
                  subst e; exact okMid_203
                · rcases Nat.lt_or_ge k 205 with q | q
                  · have e : k = 204 := by omega
                    subst e; exact okMid_204
                  · have e : k = 205 := by omega
                    subst e; exact okMid_205
    · rcases Nat.lt_or_ge k 240 with q | q
      · rcases Nat.lt_or_ge k 223 with q | q
        · rcases Nat.lt_or_ge k 214 with q | q
          · rcases Nat.lt_or_ge k 210 with q | q
            · rcases Nat.lt_or_ge k 208 with q | q
              · rcases Nat.lt_or_ge k 207 with q | q
                · have e : k = 206 := by omega
                  subst e; exact okMid_206
                · have e : k = 207 := by omega
                  subst e; exact okMid_207
              · rcases Nat.lt_or_ge k 209 with q | q
                · have e : k = 208 := by omega
                  subst e; exact okMid_208
                · have e : k = 209 := by omega
                  subst e; exact okMid_209
            · rcases Nat.lt_or_ge k 212 with q | q
              · rcases Nat.lt_or_ge k 211 with q | q
                · have e : k = 210 := by omega
                  subst e; exact okMid_210
                · have e : k = 211 := by omega
                  subst e; exact okMid_211
              · rcases Nat.lt_or_ge k 213 with q | q
                · have e : k = 212 := by omega
                  subst e; exact okMid_212
                · have e : k = 213 := by omega
                  subst e; exact okMid_213
          · rcases Nat.lt_or_ge k 218 with q | q
            · rcases Nat.lt_or_ge k 216 with q | q
              · rcases Nat.lt_or_ge k 215 with q | q
                · have e : k = 214 := by omega
                  subst e; exact okMid_214
                · have e : k = 215 := by omega
                  subst e; exact okMid_215
              · rcases Nat.lt_or_ge k 217 with q | q
                · have e : k = 216 := by omega
                  subst e; exact okMid_216
                · have e : k = 217 := by omega
                  subst e; exact okMid_217
            · rcases Nat.lt_or_ge k 220 with q | q
              · rcases Nat.lt_or_ge k 219 with q | q
                · have e : k = 218 := by omega
                  subst e; exact okMid_218
                · have e : k = 219 := by omega
                  subst e; exact okMid_219
              · rcases Nat.lt_or_ge k 221 with q | q
                · have e : k = 220 := by omega
                  subst e; exact okMid_220
                · rcases Nat.lt_or_ge k 222 with q | q
                  · have e : k = 221 := by omega
                    subst e; exact okMid_221
                  · have e : k = 222 := by omega
                    subst e; exact okMid_222
        · rcases Nat.lt_or_ge k 231 with q | q
          · rcases Nat.lt_or_ge k 227 with q | q
            · rcases Nat.lt_or_ge k 225 with q | q
              · rcases Nat.lt_or_ge k 224 with q | q
                · have e : k = 223 := by omega
                  subst e; exact okMid_223
                · have e : k = 224 := by omega
                  subst e; exact okMid_224
              · rcases Nat.lt_or_ge k 226 with q | q
                · have e : k = 225 := by omega
                  subst e; exact okMid_225
                · have e : k = 226 := by omega
                  subst e; exact okMid_226
            · rcases Nat.lt_or_ge k 229 with q | q
              · rcases Nat.lt_or_ge k 228 with q | q
                · have e : k = 227 := by omega
                  subst e; exact okMid_227
                · have e : k = 228 := by omega
                  subst e; exact okMid_228
              · rcases Nat.lt_or_ge k 230 with q | q
                · have e : k = 229 := by omega
                  subst e; exact okMid_229
                · have e : k = 230 := by omega
                  subst e; exact okMid_230
          · rcases Nat.lt_or_ge k 235 with q | q
            · rcases Nat.lt_or_ge k 233 with q | q
              · rcases Nat.lt_or_ge k 232 with q | q
                · have e : k = 231 := by omega
                  subst e; exact okMid_231
                · have e : k = 232 := by omega
                  subst e; exact okMid_232
              · rcases Nat.lt_or_ge k 234 with q | q
                · have e : k = 233 := by omega
                  subst e; exact okMid_233
                · have e : k = 234 := by omega
                  subst e; exact okMid_234
            · rcases Nat.lt_or_ge k 237 with q | q
              · rcases Nat.lt_or_ge k 236 with q | q
                · have e : k = 235 := by omega
                  subst e; exact okMid_235
                · have e : k = 236 := by omega
                  subst e; exact okMid_236
              · rcases Nat.lt_or_ge k 238 with q | q
                · have e : k = 237 := by omega
                  subst e; exact okMid_237
                · rcases Nat.lt_or_ge k 239 with q | q
                  · have e : k = 238 := by omega
                    subst e; exact okMid_238
                  · have e : k = 239 := by omega
                    subst e; exact okMid_239
      · rcases Nat.lt_or_ge k 257 with q | q
        · rcases Nat.lt_or_ge k 248 with q | q
          · rcases Nat.lt_or_ge k 244 with q | q
            · rcases Nat.lt_or_ge k 242 with q | q
              · rcases Nat.lt_or_ge k 241 with q | q
                · have e : k = 240 := by omega
                  subst e; exact okMid_240
                · have e : k = 241 := by omega
                  subst e; exact okMid_241
              · rcases Nat.lt_or_ge k 243 with q | q
                · have e : k = 242 := by omega
                  subst e; exact okMid_242
                · have e : k = 243 := by omega
                  subst e; exact okMid_243
            · rcases Nat.lt_or_ge k 246 with q | q
              · rcases Nat.lt_or_ge k 245 with q | q
                · have e : k = 244 := by omega
                  subst e; exact okMid_244
                · have e : k = 245 := by omega
                  subst e; exact okMid_245
              · rcases Nat.lt_or_ge k 247 with q | q
                · have e : k = 246 := by omega
                  subst e; exact okMid_246
                · have e : k = 247 := by omega
                  subst e; exact okMid_247
          · rcases Nat.lt_or_ge k 252 with q | q
            · rcases Nat.lt_or_ge k 250 with q | q
              · rcases Nat.lt_or_ge k 249 with q | q
                · have e : k = 248 := by omega
                  subst e; exact okMid_248
                · have e : k = 249 := by omega
                  subst e; exact okMid_249
              · rcases Nat.lt_or_ge k 251 with q | q
                · have e : k = 250 := by omega
                  subst e; exact okMid_250
                · have e : k = 251 := by omega
                  subst e; exact okMid_251
            · rcases Nat.lt_or_ge k 254 with q | q
              · rcases Nat.lt_or_ge k 253 with q | q
                · have e : k = 252 := by omega
                  subst e; exact okMid_252
                · have e : k = 253 := by omega
                  subst e; exact okMid_253
              · rcases Nat.lt_or_ge k 255 with q | q
                · have e : k = 254 := by omega
                  subst e; exact okMid_254
                · rcases Nat.lt_or_ge k 256 with q | q
                  · have e : k = 255 := by omega
                    subst e; exact okMid_255
                  · have e : k = 256 := by omega
                    subst e; exact okMid_256
        · rcases Nat.lt_or_ge k 266 with q | q
          · rcases Nat.lt_or_ge k 261 with q | q
            · rcases Nat.lt_or_ge k 259 with q | q
              · rcases Nat.lt_or_ge k 258 with q | q
                · have e : k = 257 := by omega
                  subst e; exact okMid_257
                · have e : k = 258 := by omega
                  subst e; exact okMid_258
              · rcases Nat.lt_or_ge k 260 with q | q
                · have e : k = 259 := by omega
                  subst e; exact okMid_259
                · have e : k = 260 := by omega
                  subst e; cases hp
            · rcases Nat.lt_or_ge k 263 with q | q
              · rcases Nat.lt_or_ge k 262 with q | q
                · have e : k = 261 := by omega
                  subst e; cases hp
                · have e : k = 262 := by omega
                  subst e; cases hp
              · rcases Nat.lt_or_ge k 264 with q | q
                · have e : k = 263 := by omega
                  subst e; cases hp
                · rcases Nat.lt_or_ge k 265 with q | q
                  · have e : k = 264 := by omega
                    subst e; exact okMid_264
                  · have e : k = 265 := by omega
                    subst e; exact okMid_265
          · rcases Nat.lt_or_ge k 270 with q | q
            · rcases Nat.lt_or_ge k 268 with q | q
              · rcases Nat.lt_or_ge k 267 with q | q
                · have e : k = 266 := by omega
                  subst e; exact okMid_266
                · have e : k = 267 := by omega
                  subst e; exact okMid_267
              · rcases Nat.lt_or_ge k 269 with q | q
                · have e : k = 268 := by omega
                  subst e; exact okMid_268
                · have e : k = 269 := by omega
                  subst e; exact okMid_269
            · rcases Nat.lt_or_ge k 272 with q | q
              · rcases Nat.lt_or_ge k 271 with q | q
                · have e : k = 270 := by omega
                  subst e; exact okMid_270
                · have e : k = 271 := by omega
                  subst e; exact okMid_271
              · rcases Nat.lt_or_ge k 273 with q | q
                · have e : k = 272 := by omega
                  subst e; exact okMid_272
                · rcases Nat.lt_or_ge k 274 with q | q
                  · have e : k = 273 := by omega
                    subst e; exact okMid_273
                  · have e : k = 274 := by omega
                    subst e; exact okMid_274
theorem okC_all : ∀ k, k < 275 → okC (pgB k) (pgCd k) = true := by
  intro k hk
  cases hp : m_pl k with
  | true =>
    have h1 := okMid_all k hk hp
    unfold okMid at h1
    exact (Bool.and_eq_true _ _ ▸ h1 : _ ∧ okC (pgB k) (pgCd k) = true).2
  | false =>
    unfold m_pl at hp
    simp only [Bool.not_eq_false', Bool.and_eq_true] at hp
    have h1 : 259 < k := Nat.le_of_ble_eq_true hp.1
    have h2 : k < 264 := Nat.le_of_ble_eq_true hp.2
    rcases (by omega : k = 260 ∨ k = 261 ∨ k = 262 ∨ k = 263) with e | e | e | e <;> subst e
    · exact okCx_260
    · exact okCx_261
    · exact okCx_262
    · exact okCx_263
theorem m_find_mem {l : List (Nat × Instr × Nat)} {i : Nat} {x : Instr × Nat} (h : m_find l i = some x) : (i, x) ∈ l := by
  induction l with
  | nil => cases h
  | cons q l ih =>
    obtain ⟨j, u⟩ := q
    simp only [m_find] at h
    cases hb : Nat.beq j i with
    | true =>
      rw [hb] at h
      cases h
      have := Nat.eq_of_beq_eq_true hb
      subst this
      exact List.mem_cons_self
    | false =>
      rw [hb] at h
      exact List.mem_cons_of_mem _ (ih h)
theorem pgF_lt {k pc : Nat} {q : Instr × Nat} (h : pgF k pc = some q) : k < 275 := by
  unfold pgF at h
  cases hb : Nat.blt k 275 with
  | true => exact Nat.le_of_ble_eq_true hb
  | false => rw [hb] at h; cases h
theorem pgF_ok {k pc : Nat} {ins : Instr} {n : Nat} (h : pgF k pc = some (ins, n)) : decode (pgB k) pc = .ok (ins, m_len ins n) := by
  have hk := pgF_lt h
  have h3 := okC_all k hk
  unfold pgF at h
  cases hb : Nat.blt k 275 with
  | false => rw [hb] at h; cases h
  | true =>
    rw [hb] at h
    have h2 := m_find_mem (show m_find ((pgCd k).getD (pc / 8) []) pc = some (ins, n) from h)
    unfold okC at h3
    have hmem : (pgCd k).getD (pc / 8) [] ∈ pgCd k := by
      rw [List.getD_eq_getElem?_getD] at h2 ⊢
      cases hg : (pgCd k)[pc / 8]? with
      | none => rw [hg] at h2; cases h2
      | some b => exact List.mem_of_getElem? hg
    have h4 := List.all_eq_true.mp (List.all_eq_true.mp h3 _ hmem) _ h2
    exact of_decide_eq_true h4
