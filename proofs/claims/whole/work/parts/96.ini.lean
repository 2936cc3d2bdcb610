/-! the making of the two objects, on literal addresses (printed by inigen.py) -/
def ia0 : List IOP := []
def ia1 : List IOP := (3, 100, 11, 0) :: ia0
def ia2 : List IOP := (2, 101, 114, 12) :: ia1
def ia3 : List IOP := (1, 100, 0, 101) :: ia2
def ia4 : List IOP := (2, 102, 115, 20) :: ia3
def ia5 : List IOP := (1, 100, 1, 102) :: ia4
def ia6 : List IOP := (2, 103, 117, 6) :: ia5
def ia7 : List IOP := (1, 100, 2, 103) :: ia6
def ia8 : List IOP := (3, 104, 10, 0) :: ia7
def ia9 : List IOP := (0, 105, 100, 100) :: ia8
def ia10 : List IOP := (1, 104, 0, 105) :: ia9
def ia11 : List IOP := (1, 100, 3, 104) :: ia10
def ia12 : List IOP := (3, 106, 8, 0) :: ia11
def ia13 : List IOP := (2, 107, 119, 10) :: ia12
def ia14 : List IOP := (1, 106, 0, 107) :: ia13
def ia15 : List IOP := (3, 108, 9, 0) :: ia14
def ia16 : List IOP := (0, 109, 100, 8) :: ia15
def ia17 : List IOP := (1, 108, 2, 109) :: ia16
def ia18 : List IOP := (0, 110, 100, 8) :: ia17
def ia19 : List IOP := (1, 108, 3, 110) :: ia18
def ia20 : List IOP := (0, 111, 100, 8) :: ia19
def ia21 : List IOP := (1, 108, 4, 111) :: ia20
def ia22 : List IOP := (0, 112, 100, 100) :: ia21
def ia23 : List IOP := (1, 108, 5, 112) :: ia22
def ia24 : List IOP := (1, 106, 2, 108) :: ia23
def ia25 : List IOP := (1, 100, 4, 106) :: ia24
def ia26 : List IOP := (3, 113, 2, 0) :: ia25
def ia27 : List IOP := (0, 114, 100, 240) :: ia26
def ia28 : List IOP := (1, 113, 1, 114) :: ia27
def ia29 : List IOP := (1, 113, 0, 12) :: ia28
def ia30 : List IOP := (1, 100, 5, 113) :: ia29
def ia31 : List IOP := (3, 115, 2, 0) :: ia30
def ia32 : List IOP := (0, 116, 100, 240) :: ia31
def ia33 : List IOP := (1, 115, 1, 116) :: ia32
def ia34 : List IOP := (1, 115, 0, 20) :: ia33
def ia35 : List IOP := (1, 100, 6, 115) :: ia34
def ia36 : List IOP := (3, 117, 2, 0) :: ia35
def ia37 : List IOP := (0, 118, 100, 240) :: ia36
def ia38 : List IOP := (1, 117, 1, 118) :: ia37
def ia39 : List IOP := (1, 117, 0, 60) :: ia38
def ia40 : List IOP := (1, 100, 7, 117) :: ia39
def ia41 : List IOP := (3, 119, 0, 0) :: ia40
def ia42 : List IOP := (0, 120, 100, 20) :: ia41
def ia43 : List IOP := (1, 119, 1, 120) :: ia42
def ia44 : List IOP := (1, 100, 8, 119) :: ia43
def ia45 : List IOP := (3, 121, 1, 0) :: ia44
def ia46 : List IOP := (2, 122, 114, 7) :: ia45
def ia47 : List IOP := (1, 121, 0, 122) :: ia46
def ia48 : List IOP := (0, 123, 100, 7) :: ia47
def ia49 : List IOP := (1, 121, 3, 123) :: ia48
def ia50 : List IOP := (0, 124, 100, 7) :: ia49
def ia51 : List IOP := (1, 121, 4, 124) :: ia50
def ia52 : List IOP := (1, 100, 9, 121) :: ia51
def ia53 : List IOP := (3, 125, 7, 0) :: ia52
def ia54 : List IOP := (1, 125, 0, -1) :: ia53
def ia55 : List IOP := (0, 126, 103, 60) :: ia54
def ia56 : List IOP := (1, 125, 2, 126) :: ia55
def ia57 : List IOP := (1, 103, 0, 125) :: ia56
def ia58 : List IOP := (3, 127, 7, 0) :: ia57
def ia59 : List IOP := (1, 127, 0, -1) :: ia58
def ia60 : List IOP := (0, 128, 103, 60) :: ia59
def ia61 : List IOP := (1, 127, 2, 128) :: ia60
def ia62 : List IOP := (1, 103, 1, 127) :: ia61
def ia63 : List IOP := (3, 129, 7, 0) :: ia62
def ia64 : List IOP := (1, 129, 0, -1) :: ia63
def ia65 : List IOP := (0, 130, 103, 60) :: ia64
def ia66 : List IOP := (1, 129, 2, 130) :: ia65
def ia67 : List IOP := (1, 103, 2, 129) :: ia66
def ia68 : List IOP := (3, 131, 7, 0) :: ia67
def ia69 : List IOP := (1, 131, 0, -1) :: ia68
def ia70 : List IOP := (0, 132, 103, 60) :: ia69
def ia71 : List IOP := (1, 131, 2, 132) :: ia70
def ia72 : List IOP := (1, 103, 3, 131) :: ia71
def ia73 : List IOP := (3, 133, 7, 0) :: ia72
def ia74 : List IOP := (1, 133, 0, -1) :: ia73
def ia75 : List IOP := (0, 134, 103, 60) :: ia74
def ia76 : List IOP := (1, 133, 2, 134) :: ia75
def ia77 : List IOP := (1, 103, 4, 133) :: ia76
def ia78 : List IOP := (3, 135, 7, 0) :: ia77
def ia79 : List IOP := (1, 135, 0, -1) :: ia78
def ia80 : List IOP := (0, 136, 103, 60) :: ia79
def ia81 : List IOP := (1, 135, 2, 136) :: ia80
def ia82 : List IOP := (1, 103, 5, 135) :: ia81
def ia83 : List IOP := (3, 137, 12, 0) :: ia82
def ia84 : List IOP := (1, 137, 0, 0) :: ia83
def ia85 : List IOP := (1, 137, 1, 0) :: ia84
def ia86 : List IOP := (1, 137, 2, 0) :: ia85
def ia87 : List IOP := (0, 138, 100, 12) :: ia86
def ia88 : List IOP := (1, 137, 3, 138) :: ia87
def ia89 : List IOP := (0, 139, 100, 12) :: ia88
def ia90 : List IOP := (1, 137, 4, 139) :: ia89
def ia91 : List IOP := (0, 140, 100, 240) :: ia90
def ia92 : List IOP := (1, 137, 5, 140) :: ia91
def ia93 : List IOP := (0, 141, 100, 20) :: ia92
def ia94 : List IOP := (1, 137, 6, 141) :: ia93
def ia95 : List IOP := (0, 142, 100, 20) :: ia94
def ia96 : List IOP := (1, 137, 7, 142) :: ia95
def ia97 : List IOP := (0, 143, 100, 20) :: ia96
def ia98 : List IOP := (1, 137, 8, 143) :: ia97
def ia99 : List IOP := (0, 144, 100, 20) :: ia98
def ia100 : List IOP := (1, 137, 9, 144) :: ia99
def ia101 : List IOP := (0, 145, 100, 20) :: ia100
def ia102 : List IOP := (1, 137, 10, 145) :: ia101
def ia103 : List IOP := (0, 146, 100, 20) :: ia102
def ia104 : List IOP := (1, 137, 11, 146) :: ia103
def ia105 : List IOP := (0, 147, 100, 20) :: ia104
def ia106 : List IOP := (1, 137, 12, 147) :: ia105
def ia107 : List IOP := (0, 148, 100, 20) :: ia106
def ia108 : List IOP := (1, 137, 13, 148) :: ia107
def ia109 : List IOP := (0, 149, 100, 20) :: ia108
def ia110 : List IOP := (1, 137, 14, 149) :: ia109
def ia111 : List IOP := (0, 150, 100, 20) :: ia110
def ia112 : List IOP := (1, 137, 15, 150) :: ia111
def ia113 : List IOP := (0, 151, 100, 20) :: ia112
def ia114 : List IOP := (1, 137, 16, 151) :: ia113
def ia115 : List IOP := (0, 152, 100, 20) :: ia114
def ia116 : List IOP := (1, 137, 17, 152) :: ia115
def ia117 : List IOP := (0, 153, 100, 20) :: ia116
def ia118 : List IOP := (1, 137, 18, 153) :: ia117
def ia119 : List IOP := (0, 154, 100, 20) :: ia118
def ia120 : List IOP := (1, 137, 19, 154) :: ia119
def ia121 : List IOP := (0, 155, 103, 20) :: ia120
def ia122 : List IOP := (1, 137, 20, 155) :: ia121
def ia123 : List IOP := (0, 156, 102, 20) :: ia122
def ia124 : List IOP := (1, 137, 21, 156) :: ia123
def ia125 : List IOP := (0, 157, 100, 1280) :: ia124
def ia126 : List IOP := (1, 137, 22, 157) :: ia125
def ia127 : List IOP := (0, 158, 100, 12000) :: ia126
def ia128 : List IOP := (1, 137, 23, 158) :: ia127
def ia129 : List IOP := (1, 137, 24, 0) :: ia128
def ia130 : List IOP := (1, 137, 25, 0) :: ia129
def ia131 : List IOP := (0, 159, 100, 11) :: ia130
def ia132 : List IOP := (1, 137, 26, 159) :: ia131
def ia133 : List IOP := (0, 160, 100, 1200) :: ia132
def ia134 : List IOP := (1, 137, 27, 160) :: ia133
def ia135 : List IOP := (0, 161, 100, 12) :: ia134
def ia136 : List IOP := (1, 137, 28, 161) :: ia135
def ia137 : List IOP := (0, 162, 100, 6) :: ia136
def ia138 : List IOP := (1, 137, 29, 162) :: ia137
def ia139 : List IOP := (1, 137, 30, 0) :: ia138
def ia140 : List IOP := (1, 137, 31, 0) :: ia139
def ia141 : List IOP := (1, 137, 32, 0) :: ia140
def ia142 : List IOP := (1, 137, 33, 0) :: ia141
def ia143 : List IOP := (1, 137, 34, 0) :: ia142
def ia144 : List IOP := (1, 137, 35, 0) :: ia143
def ia145 : List IOP := (1, 137, 36, 0) :: ia144
def ia146 : List IOP := (1, 137, 37, 0) :: ia145
def ia147 : List IOP := (1, 137, 38, 0) :: ia146
def ia148 : List IOP := (1, 137, 39, 0) :: ia147
def ia149 : List IOP := (0, 163, 100, 101) :: ia148
def ia150 : List IOP := (1, 137, 40, 163) :: ia149
def ia151 : List IOP := (0, 164, 102, 101) :: ia150
def ia152 : List IOP := (1, 137, 41, 164) :: ia151
def ia153 : List IOP := (1, 137, 42, 0) :: ia152
def ia154 : List IOP := (1, 137, 43, 0) :: ia153
def ia155 : List IOP := (1, 137, 44, 0) :: ia154
def ia156 : List IOP := (1, 137, 45, 0) :: ia155
def ia157 : List IOP := (0, 165, 100, 8) :: ia156
def ia158 : List IOP := (1, 137, 46, 165) :: ia157
def ia159 : List IOP := (0, 166, 100, 7) :: ia158
def ia160 : List IOP := (1, 137, 47, 166) :: ia159
def ia161 : List IOP := (0, 167, 100, 8) :: ia160
def ia162 : List IOP := (1, 137, 48, 167) :: ia161
def ia163 : List IOP := (0, 168, 100, 8) :: ia162
def ia164 : List IOP := (1, 137, 49, 168) :: ia163
def ia165 : List IOP := (1, 137, 50, 0) :: ia164
def ia166 : List IOP := (1, 137, 51, 0) :: ia165
def ia167 : List IOP := (1, 137, 52, 0) :: ia166
def ia168 : List IOP := (1, 137, 53, 0) :: ia167
def ia169 : List IOP := (1, 137, 54, 0) :: ia168
def ia170 : List IOP := (0, 169, 100, 12) :: ia169
def ia171 : List IOP := (1, 137, 55, 169) :: ia170
def ia172 : List IOP := (0, 170, 100, 20) :: ia171
def ia173 : List IOP := (1, 137, 56, 170) :: ia172
def ia174 : List IOP := (0, 171, 100, 20) :: ia173
def ia175 : List IOP := (1, 137, 57, 171) :: ia174
def ia176 : List IOP := (0, 172, 100, 20) :: ia175
def ia177 : List IOP := (1, 137, 58, 172) :: ia176
def ia178 : List IOP := (0, 173, 100, 20) :: ia177
def ia179 : List IOP := (1, 137, 59, 173) :: ia178
def ia180 : List IOP := (0, 174, 100, 60) :: ia179
def ia181 : List IOP := (1, 137, 60, 174) :: ia180
def ia182 : List IOP := (0, 175, 100, 60) :: ia181
def ia183 : List IOP := (1, 137, 61, 175) :: ia182
def ia184 : List IOP := (0, 176, 100, 60) :: ia183
def ia185 : List IOP := (1, 137, 62, 176) :: ia184
def ia186 : List IOP := (0, 177, 100, 160) :: ia185
def ia187 : List IOP := (1, 137, 63, 177) :: ia186
def ia188 : List IOP := (1, 137, 64, 0) :: ia187
def ia189 : List IOP := (1, 137, 65, 0) :: ia188
def ia190 : List IOP := (1, 137, 66, 0) :: ia189
def ia191 : List IOP := (1, 137, 67, 0) :: ia190
def ia192 : List IOP := (0, 178, 100, 20) :: ia191
def ia193 : List IOP := (1, 137, 68, 178) :: ia192
def ia194 : List IOP := (0, 179, 100, 6) :: ia193
def ia195 : List IOP := (1, 179, 0, -1) :: ia194
def ia196 : List IOP := (1, 179, 1, -1) :: ia195
def ia197 : List IOP := (1, 179, 2, -1) :: ia196
def ia198 : List IOP := (1, 179, 3, -1) :: ia197
def ia199 : List IOP := (1, 179, 4, -1) :: ia198
def ia200 : List IOP := (1, 179, 5, -1) :: ia199
def ia201 : List IOP := (1, 137, 69, 179) :: ia200
def ia202 : List IOP := (0, 180, 100, 6) :: ia201
def ia203 : List IOP := (1, 137, 70, 180) :: ia202
def ia204 : List IOP := (0, 181, 103, 360) :: ia203
def ia205 : List IOP := (1, 137, 71, 181) :: ia204
def ia206 : List IOP := (0, 182, 103, 60) :: ia205
def ia207 : List IOP := (1, 137, 72, 182) :: ia206
theorem ix_6 (p : Mem × Shp) {d : Nat} {U : Mem → Shp → Prop} (g : Cnt) (h1 : g.1 = 36) (h2 : g.2 = 1451) (hU : ∀ V S, AT p ia82 V S → U V S) : ∀ V S, AT p ia82 V S → K_x_init (d + 7) U (116, [(2, 100), (0, 6)], [], V, S, g) := by
  intro v s h
  have v2 : v 100 2 = 103 := (h.gv (by decide +kernel)).trans (by decide +kernel)
  have k3 : s.1 103 = 117 := h.gk (by decide +kernel) (by decide)
  have n3 : s.2.1 103 = 6 := h.gn (by decide +kernel) (by decide)
  rw [L_x_init_116]
  exact ⟨h.gk (by decide +kernel) (by decide), ⟨by rw [v2, k3]; decide, by rw [v2, k3]; decide⟩, fun q => absurd q (by rw [v2, n3]; decide +kernel), fun _ => hU v s h⟩
theorem ix_5 (p : Mem × Shp) {d : Nat} {U : Mem → Shp → Prop} (g : Cnt) (h1 : g.1 = 34) (h2 : g.2 = 1388) (hU : ∀ V S, AT p ia82 V S → U V S) : ∀ V S, AT p ia77 V S → K_x_init (d + 7) U (116, [(2, 100), (0, 5)], [], V, S, g) := by
  intro v77 sp77 h77
  have z77 : sp77.2.2 = 135 := h77.gz (by decide +kernel) (by decide)
  have v2 : v77 100 2 = 103 := (h77.gv (by decide +kernel)).trans (by decide +kernel)
  have k3 : sp77.1 103 = 117 := h77.gk (by decide +kernel) (by decide)
  have n3 : sp77.2.1 103 = 6 := h77.gn (by decide +kernel) (by decide)
  have k0 : sp77.1 100 = 11 := h77.gk (by decide +kernel) (by decide)
  rw [L_x_init_116]
  refine ⟨k0, ⟨by rw [v2, k3]; decide, by rw [v2, k3]; decide⟩, fun _ => ⟨k0, ⟨by omega, by rw [show nfC 7 = 3 from rfl]; omega⟩, ?_⟩, fun q => absurd (by rw [v2, n3]; decide +kernel) q⟩
  intro v78 sp78 e1 e2
  have h78 : AT p ia78 v78 sp78 := AT.n3 h77 z77 e1 e2
  have z78 : sp78.2.2 = 136 := h78.gz (by decide +kernel) (by decide)
  clear e1 e2
  refine ⟨⟨by omega, by rw [show nfC 7 = 3 from rfl]; omega⟩, ?_⟩
  rw [z77, I_Tape_init]
  refine ⟨h78.gk (by decide +kernel) (by decide), ?_⟩
  refine ⟨by rw [h78.gk (a := 135) (κ := 7) (by decide +kernel) (by decide)]; decide, ?_⟩
  refine ⟨h78.gk (by decide +kernel) (by decide), ?_⟩
  intro v79 e1
  have h79 : AT p ia79 v79 sp78 := AT.st h78 e1
  clear e1
  refine ⟨by decide +kernel, ?_⟩
  intro v80 sp80 e1 e2
  rw [show s32 60 = 60 from by decide +kernel] at e2
  have h80 : AT p ia80 v80 sp80 := AT.n0 h79 z78 e1 e2
  have z80 : sp80.2.2 = 137 := h80.gz (by decide +kernel) (by decide)
  clear e1 e2
  refine ⟨h80.gk (by decide +kernel) (by decide), ?_⟩
  intro v81 e1
  try rw [z78] at e1
  have h81 : AT p ia81 v81 sp80 := AT.st h80 e1
  clear e1
  have n3b : sp80.2.1 103 = 6 := h81.gn (by decide +kernel) (by decide)
  refine ⟨⟨⟨by rw [v2]; exact h81.gk (by decide +kernel) (by decide), by decide +kernel, by rw [v2, n3b]; decide +kernel⟩, Or.inr (h81.gk (by decide +kernel) (by decide))⟩, ?_⟩
  intro v82 e1
  rw [v2, show s32 5 = 5 from by decide +kernel] at e1
  have h82 : AT p ia82 v82 sp80 := AT.st h81 e1
  exact ix_6 p _ (by show g.1 + 1 + 1 = _; omega) (by show g.2 + nfC 7 + 60 = _; rw [show nfC 7 = 3 from rfl]; omega) hU v82 sp80 h82
theorem ix_4 (p : Mem × Shp) {d : Nat} {U : Mem → Shp → Prop} (g : Cnt) (h1 : g.1 = 32) (h2 : g.2 = 1325) (hU : ∀ V S, AT p ia82 V S → U V S) : ∀ V S, AT p ia72 V S → K_x_init (d + 7) U (116, [(2, 100), (0, 4)], [], V, S, g) := by
  intro v72 sp72 h72
  have z72 : sp72.2.2 = 133 := h72.gz (by decide +kernel) (by decide)
  have v2 : v72 100 2 = 103 := (h72.gv (by decide +kernel)).trans (by decide +kernel)
  have k3 : sp72.1 103 = 117 := h72.gk (by decide +kernel) (by decide)
  have n3 : sp72.2.1 103 = 6 := h72.gn (by decide +kernel) (by decide)
  have k0 : sp72.1 100 = 11 := h72.gk (by decide +kernel) (by decide)
  rw [L_x_init_116]
  refine ⟨k0, ⟨by rw [v2, k3]; decide, by rw [v2, k3]; decide⟩, fun _ => ⟨k0, ⟨by omega, by rw [show nfC 7 = 3 from rfl]; omega⟩, ?_⟩, fun q => absurd (by rw [v2, n3]; decide +kernel) q⟩
  intro v73 sp73 e1 e2
  have h73 : AT p ia73 v73 sp73 := AT.n3 h72 z72 e1 e2
  have z73 : sp73.2.2 = 134 := h73.gz (by decide +kernel) (by decide)
  clear e1 e2
  refine ⟨⟨by omega, by rw [show nfC 7 = 3 from rfl]; omega⟩, ?_⟩
  rw [z72, I_Tape_init]
  refine ⟨h73.gk (by decide +kernel) (by decide), ?_⟩
  refine ⟨by rw [h73.gk (a := 133) (κ := 7) (by decide +kernel) (by decide)]; decide, ?_⟩
  refine ⟨h73.gk (by decide +kernel) (by decide), ?_⟩
  intro v74 e1
  have h74 : AT p ia74 v74 sp73 := AT.st h73 e1
  clear e1
  refine ⟨by decide +kernel, ?_⟩
  intro v75 sp75 e1 e2
  rw [show s32 60 = 60 from by decide +kernel] at e2
  have h75 : AT p ia75 v75 sp75 := AT.n0 h74 z73 e1 e2
  have z75 : sp75.2.2 = 135 := h75.gz (by decide +kernel) (by decide)
  clear e1 e2
  refine ⟨h75.gk (by decide +kernel) (by decide), ?_⟩
  intro v76 e1
  try rw [z73] at e1
  have h76 : AT p ia76 v76 sp75 := AT.st h75 e1
  clear e1
  have n3b : sp75.2.1 103 = 6 := h76.gn (by decide +kernel) (by decide)
  refine ⟨⟨⟨by rw [v2]; exact h76.gk (by decide +kernel) (by decide), by decide +kernel, by rw [v2, n3b]; decide +kernel⟩, Or.inr (h76.gk (by decide +kernel) (by decide))⟩, ?_⟩
  intro v77 e1
  rw [v2, show s32 4 = 4 from by decide +kernel] at e1
  have h77 : AT p ia77 v77 sp75 := AT.st h76 e1
  exact ix_5 p _ (by show g.1 + 1 + 1 = _; omega) (by show g.2 + nfC 7 + 60 = _; rw [show nfC 7 = 3 from rfl]; omega) hU v77 sp75 h77
theorem ix_3 (p : Mem × Shp) {d : Nat} {U : Mem → Shp → Prop} (g : Cnt) (h1 : g.1 = 30) (h2 : g.2 = 1262) (hU : ∀ V S, AT p ia82 V S → U V S) : ∀ V S, AT p ia67 V S → K_x_init (d + 7) U (116, [(2, 100), (0, 3)], [], V, S, g) := by
  intro v67 sp67 h67
  have z67 : sp67.2.2 = 131 := h67.gz (by decide +kernel) (by decide)
  have v2 : v67 100 2 = 103 := (h67.gv (by decide +kernel)).trans (by decide +kernel)
  have k3 : sp67.1 103 = 117 := h67.gk (by decide +kernel) (by decide)
  have n3 : sp67.2.1 103 = 6 := h67.gn (by decide +kernel) (by decide)
  have k0 : sp67.1 100 = 11 := h67.gk (by decide +kernel) (by decide)
  rw [L_x_init_116]
  refine ⟨k0, ⟨by rw [v2, k3]; decide, by rw [v2, k3]; decide⟩, fun _ => ⟨k0, ⟨by omega, by rw [show nfC 7 = 3 from rfl]; omega⟩, ?_⟩, fun q => absurd (by rw [v2, n3]; decide +kernel) q⟩
  intro v68 sp68 e1 e2
  have h68 : AT p ia68 v68 sp68 := AT.n3 h67 z67 e1 e2
  have z68 : sp68.2.2 = 132 := h68.gz (by decide +kernel) (by decide)
  clear e1 e2
  refine ⟨⟨by omega, by rw [show nfC 7 = 3 from rfl]; omega⟩, ?_⟩
  rw [z67, I_Tape_init]
  refine ⟨h68.gk (by decide +kernel) (by decide), ?_⟩
  refine ⟨by rw [h68.gk (a := 131) (κ := 7) (by decide +kernel) (by decide)]; decide, ?_⟩
  refine ⟨h68.gk (by decide +kernel) (by decide), ?_⟩
  intro v69 e1
  have h69 : AT p ia69 v69 sp68 := AT.st h68 e1
  clear e1
  refine ⟨by decide +kernel, ?_⟩
  intro v70 sp70 e1 e2
  rw [show s32 60 = 60 from by decide +kernel] at e2
  have h70 : AT p ia70 v70 sp70 := AT.n0 h69 z68 e1 e2
  have z70 : sp70.2.2 = 133 := h70.gz (by decide +kernel) (by decide)
  clear e1 e2
  refine ⟨h70.gk (by decide +kernel) (by decide), ?_⟩
  intro v71 e1
  try rw [z68] at e1
  have h71 : AT p ia71 v71 sp70 := AT.st h70 e1
  clear e1
  have n3b : sp70.2.1 103 = 6 := h71.gn (by decide +kernel) (by decide)
  refine ⟨⟨⟨by rw [v2]; exact h71.gk (by decide +kernel) (by decide), by decide +kernel, by rw [v2, n3b]; decide +kernel⟩, Or.inr (h71.gk (by decide +kernel) (by decide))⟩, ?_⟩
  intro v72 e1
  rw [v2, show s32 3 = 3 from by decide +kernel] at e1
  have h72 : AT p ia72 v72 sp70 := AT.st h71 e1
  exact ix_4 p _ (by show g.1 + 1 + 1 = _; omega) (by show g.2 + nfC 7 + 60 = _; rw [show nfC 7 = 3 from rfl]; omega) hU v72 sp70 h72
theorem ix_2 (p : Mem × Shp) {d : Nat} {U : Mem → Shp → Prop} (g : Cnt) (h1 : g.1 = 28) (h2 : g.2 = 1199) (hU : ∀ V S, AT p ia82 V S → U V S) : ∀ V S, AT p ia62 V S → K_x_init (d + 7) U (116, [(2, 100), (0, 2)], [], V, S, g) := by
  intro v62 sp62 h62
  have z62 : sp62.2.2 = 129 := h62.gz (by decide +kernel) (by decide)
  have v2 : v62 100 2 = 103 := (h62.gv (by decide +kernel)).trans (by decide +kernel)
  have k3 : sp62.1 103 = 117 := h62.gk (by decide +kernel) (by decide)
  have n3 : sp62.2.1 103 = 6 := h62.gn (by decide +kernel) (by decide)
  have k0 : sp62.1 100 = 11 := h62.gk (by decide +kernel) (by decide)
  rw [L_x_init_116]
  refine ⟨k0, ⟨by rw [v2, k3]; decide, by rw [v2, k3]; decide⟩, fun _ => ⟨k0, ⟨by omega, by rw [show nfC 7 = 3 from rfl]; omega⟩, ?_⟩, fun q => absurd (by rw [v2, n3]; decide +kernel) q⟩
  intro v63 sp63 e1 e2
  have h63 : AT p ia63 v63 sp63 := AT.n3 h62 z62 e1 e2
  have z63 : sp63.2.2 = 130 := h63.gz (by decide +kernel) (by decide)
  clear e1 e2
  refine ⟨⟨by omega, by rw [show nfC 7 = 3 from rfl]; omega⟩, ?_⟩
  rw [z62, I_Tape_init]
  refine ⟨h63.gk (by decide +kernel) (by decide), ?_⟩
  refine ⟨by rw [h63.gk (a := 129) (κ := 7) (by decide +kernel) (by decide)]; decide, ?_⟩
  refine ⟨h63.gk (by decide +kernel) (by decide), ?_⟩
  intro v64 e1
  have h64 : AT p ia64 v64 sp63 := AT.st h63 e1
  clear e1
  refine ⟨by decide +kernel, ?_⟩
  intro v65 sp65 e1 e2
  rw [show s32 60 = 60 from by decide +kernel] at e2
  have h65 : AT p ia65 v65 sp65 := AT.n0 h64 z63 e1 e2
  have z65 : sp65.2.2 = 131 := h65.gz (by decide +kernel) (by decide)
  clear e1 e2
  refine ⟨h65.gk (by decide +kernel) (by decide), ?_⟩
  intro v66 e1
  try rw [z63] at e1
  have h66 : AT p ia66 v66 sp65 := AT.st h65 e1
  clear e1
  have n3b : sp65.2.1 103 = 6 := h66.gn (by decide +kernel) (by decide)
  refine ⟨⟨⟨by rw [v2]; exact h66.gk (by decide +kernel) (by decide), by decide +kernel, by rw [v2, n3b]; decide +kernel⟩, Or.inr (h66.gk (by decide +kernel) (by decide))⟩, ?_⟩
  intro v67 e1
  rw [v2, show s32 2 = 2 from by decide +kernel] at e1
  have h67 : AT p ia67 v67 sp65 := AT.st h66 e1
  exact ix_3 p _ (by show g.1 + 1 + 1 = _; omega) (by show g.2 + nfC 7 + 60 = _; rw [show nfC 7 = 3 from rfl]; omega) hU v67 sp65 h67
theorem ix_1 (p : Mem × Shp) {d : Nat} {U : Mem → Shp → Prop} (g : Cnt) (h1 : g.1 = 26) (h2 : g.2 = 1136) (hU : ∀ V S, AT p ia82 V S → U V S) : ∀ V S, AT p ia57 V S → K_x_init (d + 7) U (116, [(2, 100), (0, 1)], [], V, S, g) := by
  intro v57 sp57 h57
  have z57 : sp57.2.2 = 127 := h57.gz (by decide +kernel) (by decide)
  have v2 : v57 100 2 = 103 := (h57.gv (by decide +kernel)).trans (by decide +kernel)
  have k3 : sp57.1 103 = 117 := h57.gk (by decide +kernel) (by decide)
  have n3 : sp57.2.1 103 = 6 := h57.gn (by decide +kernel) (by decide)
  have k0 : sp57.1 100 = 11 := h57.gk (by decide +kernel) (by decide)
  rw [L_x_init_116]
  refine ⟨k0, ⟨by rw [v2, k3]; decide, by rw [v2, k3]; decide⟩, fun _ => ⟨k0, ⟨by omega, by rw [show nfC 7 = 3 from rfl]; omega⟩, ?_⟩, fun q => absurd (by rw [v2, n3]; decide +kernel) q⟩
  intro v58 sp58 e1 e2
  have h58 : AT p ia58 v58 sp58 := AT.n3 h57 z57 e1 e2
  have z58 : sp58.2.2 = 128 := h58.gz (by decide +kernel) (by decide)
  clear e1 e2
  refine ⟨⟨by omega, by rw [show nfC 7 = 3 from rfl]; omega⟩, ?_⟩
  rw [z57, I_Tape_init]
  refine ⟨h58.gk (by decide +kernel) (by decide), ?_⟩
  refine ⟨by rw [h58.gk (a := 127) (κ := 7) (by decide +kernel) (by decide)]; decide, ?_⟩
  refine ⟨h58.gk (by decide +kernel) (by decide), ?_⟩
  intro v59 e1
  have h59 : AT p ia59 v59 sp58 := AT.st h58 e1
  clear e1
  refine ⟨by decide +kernel, ?_⟩
  intro v60 sp60 e1 e2
  rw [show s32 60 = 60 from by decide +kernel] at e2
  have h60 : AT p ia60 v60 sp60 := AT.n0 h59 z58 e1 e2
  have z60 : sp60.2.2 = 129 := h60.gz (by decide +kernel) (by decide)
  clear e1 e2
  refine ⟨h60.gk (by decide +kernel) (by decide), ?_⟩
  intro v61 e1
  try rw [z58] at e1
  have h61 : AT p ia61 v61 sp60 := AT.st h60 e1
  clear e1
  have n3b : sp60.2.1 103 = 6 := h61.gn (by decide +kernel) (by decide)
  refine ⟨⟨⟨by rw [v2]; exact h61.gk (by decide +kernel) (by decide), by decide +kernel, by rw [v2, n3b]; decide +kernel⟩, Or.inr (h61.gk (by decide +kernel) (by decide))⟩, ?_⟩
  intro v62 e1
  rw [v2, show s32 1 = 1 from by decide +kernel] at e1
  have h62 : AT p ia62 v62 sp60 := AT.st h61 e1
  exact ix_2 p _ (by show g.1 + 1 + 1 = _; omega) (by show g.2 + nfC 7 + 60 = _; rw [show nfC 7 = 3 from rfl]; omega) hU v62 sp60 h62
theorem ix_0 (p : Mem × Shp) {d : Nat} {U : Mem → Shp → Prop} (g : Cnt) (h1 : g.1 = 24) (h2 : g.2 = 1073) (hU : ∀ V S, AT p ia82 V S → U V S) : ∀ V S, AT p ia52 V S → K_x_init (d + 7) U (116, [(2, 100), (0, 0)], [], V, S, g) := by
  intro v52 sp52 h52
  have z52 : sp52.2.2 = 125 := h52.gz (by decide +kernel) (by decide)
  have v2 : v52 100 2 = 103 := (h52.gv (by decide +kernel)).trans (by decide +kernel)
  have k3 : sp52.1 103 = 117 := h52.gk (by decide +kernel) (by decide)
  have n3 : sp52.2.1 103 = 6 := h52.gn (by decide +kernel) (by decide)
  have k0 : sp52.1 100 = 11 := h52.gk (by decide +kernel) (by decide)
  rw [L_x_init_116]
  refine ⟨k0, ⟨by rw [v2, k3]; decide, by rw [v2, k3]; decide⟩, fun _ => ⟨k0, ⟨by omega, by rw [show nfC 7 = 3 from rfl]; omega⟩, ?_⟩, fun q => absurd (by rw [v2, n3]; decide +kernel) q⟩
  intro v53 sp53 e1 e2
  have h53 : AT p ia53 v53 sp53 := AT.n3 h52 z52 e1 e2
  have z53 : sp53.2.2 = 126 := h53.gz (by decide +kernel) (by decide)
  clear e1 e2
  refine ⟨⟨by omega, by rw [show nfC 7 = 3 from rfl]; omega⟩, ?_⟩
  rw [z52, I_Tape_init]
  refine ⟨h53.gk (by decide +kernel) (by decide), ?_⟩
  refine ⟨by rw [h53.gk (a := 125) (κ := 7) (by decide +kernel) (by decide)]; decide, ?_⟩
  refine ⟨h53.gk (by decide +kernel) (by decide), ?_⟩
  intro v54 e1
  have h54 : AT p ia54 v54 sp53 := AT.st h53 e1
  clear e1
  refine ⟨by decide +kernel, ?_⟩
  intro v55 sp55 e1 e2
  rw [show s32 60 = 60 from by decide +kernel] at e2
  have h55 : AT p ia55 v55 sp55 := AT.n0 h54 z53 e1 e2
  have z55 : sp55.2.2 = 127 := h55.gz (by decide +kernel) (by decide)
  clear e1 e2
  refine ⟨h55.gk (by decide +kernel) (by decide), ?_⟩
  intro v56 e1
  try rw [z53] at e1
  have h56 : AT p ia56 v56 sp55 := AT.st h55 e1
  clear e1
  have n3b : sp55.2.1 103 = 6 := h56.gn (by decide +kernel) (by decide)
  refine ⟨⟨⟨by rw [v2]; exact h56.gk (by decide +kernel) (by decide), by decide +kernel, by rw [v2, n3b]; decide +kernel⟩, Or.inr (h56.gk (by decide +kernel) (by decide))⟩, ?_⟩
  intro v57 e1
  rw [v2, show s32 0 = 0 from by decide +kernel] at e1
  have h57 : AT p ia57 v57 sp55 := AT.st h56 e1
  exact ix_1 p _ (by show g.1 + 1 + 1 = _; omega) (by show g.2 + nfC 7 + 60 = _; rw [show nfC 7 = 3 from rfl]; omega) hU v57 sp55 h57
theorem x_ini (p : Mem × Shp) {d : Nat} {U : Mem → Shp → Prop} (hU : ∀ V S, AT p ia82 V S → U V S) : ∀ V S, AT p ia1 V S → C_x_init (d + 8) 100 V S U := by
  intro v1 sp1 h1
  have z1 : sp1.2.2 = 101 := h1.gz (by decide +kernel) (by decide)
  rw [I_x_init]
  refine ⟨h1.gk (by decide +kernel) (by decide), ?_⟩
  refine ⟨by rw [h1.gk (a := 100) (κ := 11) (by decide +kernel) (by decide)]; decide, ?_⟩
  refine ⟨by decide +kernel, ?_⟩
  intro v2 sp2 e1 e2
  rw [show s32 12 = 12 from by decide +kernel] at e2
  have h2 : AT p ia2 v2 sp2 := AT.n2 h1 z1 e1 e2
  have z2 : sp2.2.2 = 102 := h2.gz (by decide +kernel) (by decide)
  clear e1 e2
  refine ⟨h2.gk (by decide +kernel) (by decide), ?_⟩
  intro v3 e1
  try rw [z1] at e1
  have h3 : AT p ia3 v3 sp2 := AT.st h2 e1
  clear e1
  refine ⟨by decide +kernel, ?_⟩
  intro v4 sp4 e1 e2
  rw [show s32 20 = 20 from by decide +kernel] at e2
  have h4 : AT p ia4 v4 sp4 := AT.n2 h3 z2 e1 e2
  have z4 : sp4.2.2 = 103 := h4.gz (by decide +kernel) (by decide)
  clear e1 e2
  refine ⟨h4.gk (by decide +kernel) (by decide), ?_⟩
  intro v5 e1
  try rw [z2] at e1
  have h5 : AT p ia5 v5 sp4 := AT.st h4 e1
  clear e1
  refine ⟨by decide +kernel, ?_⟩
  intro v6 sp6 e1 e2
  rw [show s32 6 = 6 from by decide +kernel] at e2
  have h6 : AT p ia6 v6 sp6 := AT.n2 h5 z4 e1 e2
  have z6 : sp6.2.2 = 104 := h6.gz (by decide +kernel) (by decide)
  clear e1 e2
  refine ⟨h6.gk (by decide +kernel) (by decide), ?_⟩
  intro v7 e1
  try rw [z4] at e1
  have h7 : AT p ia7 v7 sp6 := AT.st h6 e1
  clear e1
  refine ⟨by decide +kernel, ?_⟩
  intro v8 sp8 e1 e2
  have h8 : AT p ia8 v8 sp8 := AT.n3 h7 z6 e1 e2
  have z8 : sp8.2.2 = 105 := h8.gz (by decide +kernel) (by decide)
  clear e1 e2
  refine ⟨by decide +kernel, ?_⟩
  try rw [z6]
  rw [I_Reader_init]
  refine ⟨h8.gk (by decide +kernel) (by decide), ?_⟩
  refine ⟨by rw [h8.gk (a := 104) (κ := 10) (by decide +kernel) (by decide)]; decide, ?_⟩
  refine ⟨by decide +kernel, ?_⟩
  intro v9 sp9 e1 e2
  rw [show s32 100 = 100 from by decide +kernel] at e2
  have h9 : AT p ia9 v9 sp9 := AT.n0 h8 z8 e1 e2
  have z9 : sp9.2.2 = 106 := h9.gz (by decide +kernel) (by decide)
  clear e1 e2
  refine ⟨h9.gk (by decide +kernel) (by decide), ?_⟩
  intro v10 e1
  try rw [z8] at e1
  have h10 : AT p ia10 v10 sp9 := AT.st h9 e1
  clear e1
  refine ⟨h10.gk (by decide +kernel) (by decide), ?_⟩
  intro v11 e1
  try rw [z6] at e1
  have h11 : AT p ia11 v11 sp9 := AT.st h10 e1
  clear e1
  refine ⟨by decide +kernel, ?_⟩
  intro v12 sp12 e1 e2
  have h12 : AT p ia12 v12 sp12 := AT.n3 h11 z9 e1 e2
  have z12 : sp12.2.2 = 107 := h12.gz (by decide +kernel) (by decide)
  clear e1 e2
  refine ⟨by decide +kernel, ?_⟩
  try rw [z9]
  rw [I_Terms_init]
  refine ⟨h12.gk (by decide +kernel) (by decide), ?_⟩
  refine ⟨by rw [h12.gk (a := 106) (κ := 8) (by decide +kernel) (by decide)]; decide, ?_⟩
  refine ⟨by decide +kernel, ?_⟩
  intro v13 sp13 e1 e2
  rw [show s32 10 = 10 from by decide +kernel] at e2
  have h13 : AT p ia13 v13 sp13 := AT.n2 h12 z12 e1 e2
  have z13 : sp13.2.2 = 108 := h13.gz (by decide +kernel) (by decide)
  clear e1 e2
  refine ⟨h13.gk (by decide +kernel) (by decide), ?_⟩
  intro v14 e1
  try rw [z12] at e1
  have h14 : AT p ia14 v14 sp13 := AT.st h13 e1
  clear e1
  refine ⟨by decide +kernel, ?_⟩
  intro v15 sp15 e1 e2
  have h15 : AT p ia15 v15 sp15 := AT.n3 h14 z13 e1 e2
  have z15 : sp15.2.2 = 109 := h15.gz (by decide +kernel) (by decide)
  clear e1 e2
  refine ⟨by decide +kernel, ?_⟩
  try rw [z13]
  rw [I_Text_init]
  refine ⟨h15.gk (by decide +kernel) (by decide), ?_⟩
  refine ⟨by rw [h15.gk (a := 108) (κ := 9) (by decide +kernel) (by decide)]; decide, ?_⟩
  refine ⟨by decide +kernel, ?_⟩
  intro v16 sp16 e1 e2
  rw [show s32 8 = 8 from by decide +kernel] at e2
  have h16 : AT p ia16 v16 sp16 := AT.n0 h15 z15 e1 e2
  have z16 : sp16.2.2 = 110 := h16.gz (by decide +kernel) (by decide)
  clear e1 e2
  refine ⟨h16.gk (by decide +kernel) (by decide), ?_⟩
  intro v17 e1
  try rw [z15] at e1
  have h17 : AT p ia17 v17 sp16 := AT.st h16 e1
  clear e1
  refine ⟨by decide +kernel, ?_⟩
  intro v18 sp18 e1 e2
  rw [show s32 8 = 8 from by decide +kernel] at e2
  have h18 : AT p ia18 v18 sp18 := AT.n0 h17 z16 e1 e2
  have z18 : sp18.2.2 = 111 := h18.gz (by decide +kernel) (by decide)
  clear e1 e2
  refine ⟨h18.gk (by decide +kernel) (by decide), ?_⟩
  intro v19 e1
  try rw [z16] at e1
  have h19 : AT p ia19 v19 sp18 := AT.st h18 e1
  clear e1
  refine ⟨by decide +kernel, ?_⟩
  intro v20 sp20 e1 e2
  rw [show s32 8 = 8 from by decide +kernel] at e2
  have h20 : AT p ia20 v20 sp20 := AT.n0 h19 z18 e1 e2
  have z20 : sp20.2.2 = 112 := h20.gz (by decide +kernel) (by decide)
  clear e1 e2
  refine ⟨h20.gk (by decide +kernel) (by decide), ?_⟩
  intro v21 e1
  try rw [z18] at e1
  have h21 : AT p ia21 v21 sp20 := AT.st h20 e1
  clear e1
  refine ⟨by decide +kernel, ?_⟩
  intro v22 sp22 e1 e2
  rw [show s32 100 = 100 from by decide +kernel] at e2
  have h22 : AT p ia22 v22 sp22 := AT.n0 h21 z20 e1 e2
  have z22 : sp22.2.2 = 113 := h22.gz (by decide +kernel) (by decide)
  clear e1 e2
  refine ⟨h22.gk (by decide +kernel) (by decide), ?_⟩
  intro v23 e1
  try rw [z20] at e1
  have h23 : AT p ia23 v23 sp22 := AT.st h22 e1
  clear e1
  refine ⟨h23.gk (by decide +kernel) (by decide), ?_⟩
  intro v24 e1
  try rw [z13] at e1
  have h24 : AT p ia24 v24 sp22 := AT.st h23 e1
  clear e1
  refine ⟨h24.gk (by decide +kernel) (by decide), ?_⟩
  intro v25 e1
  try rw [z9] at e1
  have h25 : AT p ia25 v25 sp22 := AT.st h24 e1
  clear e1
  refine ⟨by decide +kernel, ?_⟩
  intro v26 sp26 e1 e2
  have h26 : AT p ia26 v26 sp26 := AT.n3 h25 z22 e1 e2
  have z26 : sp26.2.2 = 114 := h26.gz (by decide +kernel) (by decide)
  clear e1 e2
  refine ⟨by decide +kernel, ?_⟩
  try rw [z22]
  rw [I_Book_init]
  refine ⟨h26.gk (by decide +kernel) (by decide), ?_⟩
  refine ⟨by rw [h26.gk (a := 113) (κ := 2) (by decide +kernel) (by decide)]; decide, ?_⟩
  refine ⟨by decide +kernel, ?_⟩
  intro v27 sp27 e1 e2
  rw [show s32 240 = 240 from by decide +kernel] at e2
  have h27 : AT p ia27 v27 sp27 := AT.n0 h26 z26 e1 e2
  have z27 : sp27.2.2 = 115 := h27.gz (by decide +kernel) (by decide)
  clear e1 e2
  refine ⟨h27.gk (by decide +kernel) (by decide), ?_⟩
  intro v28 e1
  try rw [z26] at e1
  have h28 : AT p ia28 v28 sp27 := AT.st h27 e1
  clear e1
  refine ⟨h28.gk (by decide +kernel) (by decide), ?_⟩
  intro v29 e1
  have h29 : AT p ia29 v29 sp27 := AT.st h28 e1
  clear e1
  refine ⟨h29.gk (by decide +kernel) (by decide), ?_⟩
  intro v30 e1
  try rw [z22] at e1
  have h30 : AT p ia30 v30 sp27 := AT.st h29 e1
  clear e1
  refine ⟨by decide +kernel, ?_⟩
  intro v31 sp31 e1 e2
  have h31 : AT p ia31 v31 sp31 := AT.n3 h30 z27 e1 e2
  have z31 : sp31.2.2 = 116 := h31.gz (by decide +kernel) (by decide)
  clear e1 e2
  refine ⟨by decide +kernel, ?_⟩
  try rw [z27]
  rw [I_Book_init]
  refine ⟨h31.gk (by decide +kernel) (by decide), ?_⟩
  refine ⟨by rw [h31.gk (a := 115) (κ := 2) (by decide +kernel) (by decide)]; decide, ?_⟩
  refine ⟨by decide +kernel, ?_⟩
  intro v32 sp32 e1 e2
  rw [show s32 240 = 240 from by decide +kernel] at e2
  have h32 : AT p ia32 v32 sp32 := AT.n0 h31 z31 e1 e2
  have z32 : sp32.2.2 = 117 := h32.gz (by decide +kernel) (by decide)
  clear e1 e2
  refine ⟨h32.gk (by decide +kernel) (by decide), ?_⟩
  intro v33 e1
  try rw [z31] at e1
  have h33 : AT p ia33 v33 sp32 := AT.st h32 e1
  clear e1
  refine ⟨h33.gk (by decide +kernel) (by decide), ?_⟩
  intro v34 e1
  have h34 : AT p ia34 v34 sp32 := AT.st h33 e1
  clear e1
  refine ⟨h34.gk (by decide +kernel) (by decide), ?_⟩
  intro v35 e1
  try rw [z27] at e1
  have h35 : AT p ia35 v35 sp32 := AT.st h34 e1
  clear e1
  refine ⟨by decide +kernel, ?_⟩
  intro v36 sp36 e1 e2
  have h36 : AT p ia36 v36 sp36 := AT.n3 h35 z32 e1 e2
  have z36 : sp36.2.2 = 118 := h36.gz (by decide +kernel) (by decide)
  clear e1 e2
  refine ⟨by decide +kernel, ?_⟩
  try rw [z32]
  rw [I_Book_init]
  refine ⟨h36.gk (by decide +kernel) (by decide), ?_⟩
  refine ⟨by rw [h36.gk (a := 117) (κ := 2) (by decide +kernel) (by decide)]; decide, ?_⟩
  refine ⟨by decide +kernel, ?_⟩
  intro v37 sp37 e1 e2
  rw [show s32 240 = 240 from by decide +kernel] at e2
  have h37 : AT p ia37 v37 sp37 := AT.n0 h36 z36 e1 e2
  have z37 : sp37.2.2 = 119 := h37.gz (by decide +kernel) (by decide)
  clear e1 e2
  refine ⟨h37.gk (by decide +kernel) (by decide), ?_⟩
  intro v38 e1
  try rw [z36] at e1
  have h38 : AT p ia38 v38 sp37 := AT.st h37 e1
  clear e1
  refine ⟨h38.gk (by decide +kernel) (by decide), ?_⟩
  intro v39 e1
  have h39 : AT p ia39 v39 sp37 := AT.st h38 e1
  clear e1
  refine ⟨h39.gk (by decide +kernel) (by decide), ?_⟩
  intro v40 e1
  try rw [z32] at e1
  have h40 : AT p ia40 v40 sp37 := AT.st h39 e1
  clear e1
  refine ⟨by decide +kernel, ?_⟩
  intro v41 sp41 e1 e2
  have h41 : AT p ia41 v41 sp41 := AT.n3 h40 z37 e1 e2
  have z41 : sp41.2.2 = 120 := h41.gz (by decide +kernel) (by decide)
  clear e1 e2
  refine ⟨by decide +kernel, ?_⟩
  try rw [z37]
  rw [I_Acts_init]
  refine ⟨h41.gk (by decide +kernel) (by decide), ?_⟩
  refine ⟨by rw [h41.gk (a := 119) (κ := 0) (by decide +kernel) (by decide)]; decide, ?_⟩
  refine ⟨by decide +kernel, ?_⟩
  intro v42 sp42 e1 e2
  rw [show s32 20 = 20 from by decide +kernel] at e2
  have h42 : AT p ia42 v42 sp42 := AT.n0 h41 z41 e1 e2
  have z42 : sp42.2.2 = 121 := h42.gz (by decide +kernel) (by decide)
  clear e1 e2
  refine ⟨h42.gk (by decide +kernel) (by decide), ?_⟩
  intro v43 e1
  try rw [z41] at e1
  have h43 : AT p ia43 v43 sp42 := AT.st h42 e1
  clear e1
  refine ⟨h43.gk (by decide +kernel) (by decide), ?_⟩
  intro v44 e1
  try rw [z37] at e1
  have h44 : AT p ia44 v44 sp42 := AT.st h43 e1
  clear e1
  refine ⟨by decide +kernel, ?_⟩
  intro v45 sp45 e1 e2
  have h45 : AT p ia45 v45 sp45 := AT.n3 h44 z42 e1 e2
  have z45 : sp45.2.2 = 122 := h45.gz (by decide +kernel) (by decide)
  clear e1 e2
  refine ⟨by decide +kernel, ?_⟩
  try rw [z42]
  rw [I_Agent_init]
  refine ⟨h45.gk (by decide +kernel) (by decide), ?_⟩
  refine ⟨by rw [h45.gk (a := 121) (κ := 1) (by decide +kernel) (by decide)]; decide, ?_⟩
  refine ⟨by decide +kernel, ?_⟩
  intro v46 sp46 e1 e2
  rw [show s32 7 = 7 from by decide +kernel] at e2
  have h46 : AT p ia46 v46 sp46 := AT.n2 h45 z45 e1 e2
  have z46 : sp46.2.2 = 123 := h46.gz (by decide +kernel) (by decide)
  clear e1 e2
  refine ⟨h46.gk (by decide +kernel) (by decide), ?_⟩
  intro v47 e1
  try rw [z45] at e1
  have h47 : AT p ia47 v47 sp46 := AT.st h46 e1
  clear e1
  refine ⟨by decide +kernel, ?_⟩
  intro v48 sp48 e1 e2
  rw [show s32 7 = 7 from by decide +kernel] at e2
  have h48 : AT p ia48 v48 sp48 := AT.n0 h47 z46 e1 e2
  have z48 : sp48.2.2 = 124 := h48.gz (by decide +kernel) (by decide)
  clear e1 e2
  refine ⟨h48.gk (by decide +kernel) (by decide), ?_⟩
  intro v49 e1
  try rw [z46] at e1
  have h49 : AT p ia49 v49 sp48 := AT.st h48 e1
  clear e1
  refine ⟨by decide +kernel, ?_⟩
  intro v50 sp50 e1 e2
  rw [show s32 7 = 7 from by decide +kernel] at e2
  have h50 : AT p ia50 v50 sp50 := AT.n0 h49 z48 e1 e2
  have z50 : sp50.2.2 = 125 := h50.gz (by decide +kernel) (by decide)
  clear e1 e2
  refine ⟨h50.gk (by decide +kernel) (by decide), ?_⟩
  intro v51 e1
  try rw [z48] at e1
  have h51 : AT p ia51 v51 sp50 := AT.st h50 e1
  clear e1
  refine ⟨h51.gk (by decide +kernel) (by decide), ?_⟩
  intro v52 e1
  try rw [z42] at e1
  have h52 : AT p ia52 v52 sp50 := AT.st h51 e1
  clear e1
  exact ix_0 p _ (by decide +kernel) (by decide +kernel) hU v52 sp50 h52
theorem im_526 (p : Mem × Shp) {d : Nat} {U : Mem → Shp → Prop} (g : Cnt) (h1 : g.1 = 44) (h2 : g.2 = 16150) (hU : ∀ V S, AT p ia207 V S → U V S) : ∀ V S, AT p ia205 V S → K_m_init d U (526, [(2, 137)], [], V, S, g) := by
  intro v205 sp205 h205
  have z205 : sp205.2.2 = 182 := h205.gz (by decide +kernel) (by decide)
  rw [L_m_init_526]
  refine ⟨⟨by decide +kernel, by omega, by rw [show (s32 60).toNat = 60 from by decide +kernel]; omega⟩, ?_⟩
  intro v206 sp206 e1 e2
  rw [show s32 60 = 60 from by decide +kernel] at e2
  have h206 : AT p ia206 v206 sp206 := AT.n0 h205 z205 e1 e2
  have z206 : sp206.2.2 = 183 := h206.gz (by decide +kernel) (by decide)
  clear e1 e2
  refine ⟨h206.gk (by decide +kernel) (by decide), ?_⟩
  intro v207 e1
  try rw [z205] at e1
  have h207 : AT p ia207 v207 sp206 := AT.st h206 e1
  clear e1
  exact hU v207 sp206 h207
theorem im_509 (p : Mem × Shp) {d : Nat} {U : Mem → Shp → Prop} (g : Cnt) (h1 : g.1 = 42) (h2 : g.2 = 15784) (hU : ∀ V S, AT p ia207 V S → U V S) : ∀ V S, AT p ia201 V S → K_m_init d U (509, [(2, 137)], [], V, S, g) := by
  intro v201 sp201 h201
  have z201 : sp201.2.2 = 180 := h201.gz (by decide +kernel) (by decide)
  rw [L_m_init_509]
  refine ⟨⟨by decide +kernel, by omega, by rw [show (s32 6).toNat = 6 from by decide +kernel]; omega⟩, ?_⟩
  intro v202 sp202 e1 e2
  rw [show s32 6 = 6 from by decide +kernel] at e2
  have h202 : AT p ia202 v202 sp202 := AT.n0 h201 z201 e1 e2
  have z202 : sp202.2.2 = 181 := h202.gz (by decide +kernel) (by decide)
  clear e1 e2
  refine ⟨h202.gk (by decide +kernel) (by decide), ?_⟩
  intro v203 e1
  try rw [z201] at e1
  have h203 : AT p ia203 v203 sp202 := AT.st h202 e1
  clear e1
  refine ⟨⟨by decide +kernel, by omega, by rw [show (s32 360).toNat = 360 from by decide +kernel, show (s32 6).toNat = 6 from by decide +kernel]; omega⟩, ?_⟩
  intro v204 sp204 e1 e2
  rw [show s32 360 = 360 from by decide +kernel] at e2
  have h204 : AT p ia204 v204 sp204 := AT.n0 h203 z202 e1 e2
  have z204 : sp204.2.2 = 182 := h204.gz (by decide +kernel) (by decide)
  clear e1 e2
  refine ⟨h204.gk (by decide +kernel) (by decide), ?_⟩
  intro v205 e1
  try rw [z202] at e1
  have h205 : AT p ia205 v205 sp204 := AT.st h204 e1
  clear e1
  exact im_526 p _ (by show g.1 + 1 + 1 = _; omega) (by show g.2 + (s32 6).toNat + (s32 360).toNat = _; rw [show (s32 360).toNat = 360 from by decide +kernel, show (s32 6).toNat = 6 from by decide +kernel]; omega) hU v205 sp204 h205
theorem im_449 (p : Mem × Shp) {d : Nat} {U : Mem → Shp → Prop} (g : Cnt) (h1 : g.1 = 40) (h2 : g.2 = 15758) (hU : ∀ V S, AT p ia207 V S → U V S) : ∀ V S, AT p ia187 V S → K_m_init d U (449, [(2, 137)], [], V, S, g) := by
  intro v187 sp187 h187
  have z187 : sp187.2.2 = 178 := h187.gz (by decide +kernel) (by decide)
  rw [L_m_init_449]
  refine ⟨h187.gk (by decide +kernel) (by decide), ?_⟩
  intro v188 e1
  have h188 : AT p ia188 v188 sp187 := AT.st h187 e1
  clear e1
  refine ⟨h188.gk (by decide +kernel) (by decide), ?_⟩
  intro v189 e1
  have h189 : AT p ia189 v189 sp187 := AT.st h188 e1
  clear e1
  refine ⟨h189.gk (by decide +kernel) (by decide), ?_⟩
  intro v190 e1
  have h190 : AT p ia190 v190 sp187 := AT.st h189 e1
  clear e1
  refine ⟨h190.gk (by decide +kernel) (by decide), ?_⟩
  intro v191 e1
  have h191 : AT p ia191 v191 sp187 := AT.st h190 e1
  clear e1
  refine ⟨⟨by decide +kernel, by omega, by rw [show (s32 20).toNat = 20 from by decide +kernel]; omega⟩, ?_⟩
  intro v192 sp192 e1 e2
  rw [show s32 20 = 20 from by decide +kernel] at e2
  have h192 : AT p ia192 v192 sp192 := AT.n0 h191 z187 e1 e2
  have z192 : sp192.2.2 = 179 := h192.gz (by decide +kernel) (by decide)
  clear e1 e2
  refine ⟨h192.gk (by decide +kernel) (by decide), ?_⟩
  intro v193 e1
  try rw [z187] at e1
  have h193 : AT p ia193 v193 sp192 := AT.st h192 e1
  clear e1
  refine ⟨⟨by decide +kernel, by omega, by rw [show (s32 20).toNat = 20 from by decide +kernel, show (s32 6).toNat = 6 from by decide +kernel]; omega⟩, ?_⟩
  intro v194 sp194 e1 e2
  rw [show s32 6 = 6 from by decide +kernel] at e2
  have h194 : AT p ia194 v194 sp194 := AT.n0 h193 z192 e1 e2
  have z194 : sp194.2.2 = 180 := h194.gz (by decide +kernel) (by decide)
  clear e1 e2
  refine ⟨⟨by rw [z192]; exact h194.gk (by decide +kernel) (by decide), by decide +kernel, by rw [z192, h194.gn (a := 179) (n := 6) (by decide +kernel) (by decide)]; decide +kernel⟩, ?_⟩
  intro v195 e1
  try rw [z192] at e1
  rw [show s32 0 = 0 from by decide +kernel] at e1
  have h195 : AT p ia195 v195 sp194 := AT.st h194 e1
  clear e1
  refine ⟨⟨by rw [z192]; exact h195.gk (by decide +kernel) (by decide), by decide +kernel, by rw [z192, h195.gn (a := 179) (n := 6) (by decide +kernel) (by decide)]; decide +kernel⟩, ?_⟩
  intro v196 e1
  try rw [z192] at e1
  rw [show s32 1 = 1 from by decide +kernel] at e1
  have h196 : AT p ia196 v196 sp194 := AT.st h195 e1
  clear e1
  refine ⟨⟨by rw [z192]; exact h196.gk (by decide +kernel) (by decide), by decide +kernel, by rw [z192, h196.gn (a := 179) (n := 6) (by decide +kernel) (by decide)]; decide +kernel⟩, ?_⟩
  intro v197 e1
  try rw [z192] at e1
  rw [show s32 2 = 2 from by decide +kernel] at e1
  have h197 : AT p ia197 v197 sp194 := AT.st h196 e1
  clear e1
  refine ⟨⟨by rw [z192]; exact h197.gk (by decide +kernel) (by decide), by decide +kernel, by rw [z192, h197.gn (a := 179) (n := 6) (by decide +kernel) (by decide)]; decide +kernel⟩, ?_⟩
  intro v198 e1
  try rw [z192] at e1
  rw [show s32 3 = 3 from by decide +kernel] at e1
  have h198 : AT p ia198 v198 sp194 := AT.st h197 e1
  clear e1
  refine ⟨⟨by rw [z192]; exact h198.gk (by decide +kernel) (by decide), by decide +kernel, by rw [z192, h198.gn (a := 179) (n := 6) (by decide +kernel) (by decide)]; decide +kernel⟩, ?_⟩
  intro v199 e1
  try rw [z192] at e1
  rw [show s32 4 = 4 from by decide +kernel] at e1
  have h199 : AT p ia199 v199 sp194 := AT.st h198 e1
  clear e1
  refine ⟨⟨by rw [z192]; exact h199.gk (by decide +kernel) (by decide), by decide +kernel, by rw [z192, h199.gn (a := 179) (n := 6) (by decide +kernel) (by decide)]; decide +kernel⟩, ?_⟩
  intro v200 e1
  try rw [z192] at e1
  rw [show s32 5 = 5 from by decide +kernel] at e1
  have h200 : AT p ia200 v200 sp194 := AT.st h199 e1
  clear e1
  refine ⟨h200.gk (by decide +kernel) (by decide), ?_⟩
  intro v201 e1
  try rw [z192] at e1
  have h201 : AT p ia201 v201 sp194 := AT.st h200 e1
  clear e1
  exact im_509 p _ (by show g.1 + 1 + 1 = _; omega) (by show g.2 + (s32 20).toNat + (s32 6).toNat = _; rw [show (s32 20).toNat = 20 from by decide +kernel, show (s32 6).toNat = 6 from by decide +kernel]; omega) hU v201 sp194 h201
theorem im_432 (p : Mem × Shp) {d : Nat} {U : Mem → Shp → Prop} (g : Cnt) (h1 : g.1 = 38) (h2 : g.2 = 15538) (hU : ∀ V S, AT p ia207 V S → U V S) : ∀ V S, AT p ia183 V S → K_m_init d U (432, [(2, 137)], [], V, S, g) := by
  intro v183 sp183 h183
  have z183 : sp183.2.2 = 176 := h183.gz (by decide +kernel) (by decide)
  rw [L_m_init_432]
  refine ⟨⟨by decide +kernel, by omega, by rw [show (s32 60).toNat = 60 from by decide +kernel]; omega⟩, ?_⟩
  intro v184 sp184 e1 e2
  rw [show s32 60 = 60 from by decide +kernel] at e2
  have h184 : AT p ia184 v184 sp184 := AT.n0 h183 z183 e1 e2
  have z184 : sp184.2.2 = 177 := h184.gz (by decide +kernel) (by decide)
  clear e1 e2
  refine ⟨h184.gk (by decide +kernel) (by decide), ?_⟩
  intro v185 e1
  try rw [z183] at e1
  have h185 : AT p ia185 v185 sp184 := AT.st h184 e1
  clear e1
  refine ⟨⟨by decide +kernel, by omega, by rw [show (s32 160).toNat = 160 from by decide +kernel, show (s32 60).toNat = 60 from by decide +kernel]; omega⟩, ?_⟩
  intro v186 sp186 e1 e2
  rw [show s32 160 = 160 from by decide +kernel] at e2
  have h186 : AT p ia186 v186 sp186 := AT.n0 h185 z184 e1 e2
  have z186 : sp186.2.2 = 178 := h186.gz (by decide +kernel) (by decide)
  clear e1 e2
  refine ⟨h186.gk (by decide +kernel) (by decide), ?_⟩
  intro v187 e1
  try rw [z184] at e1
  have h187 : AT p ia187 v187 sp186 := AT.st h186 e1
  clear e1
  exact im_449 p _ (by show g.1 + 1 + 1 = _; omega) (by show g.2 + (s32 60).toNat + (s32 160).toNat = _; rw [show (s32 160).toNat = 160 from by decide +kernel, show (s32 60).toNat = 60 from by decide +kernel]; omega) hU v187 sp186 h187
theorem im_416 (p : Mem × Shp) {d : Nat} {U : Mem → Shp → Prop} (g : Cnt) (h1 : g.1 = 36) (h2 : g.2 = 15418) (hU : ∀ V S, AT p ia207 V S → U V S) : ∀ V S, AT p ia179 V S → K_m_init d U (416, [(2, 137)], [], V, S, g) := by
  intro v179 sp179 h179
  have z179 : sp179.2.2 = 174 := h179.gz (by decide +kernel) (by decide)
  rw [L_m_init_416]
  refine ⟨⟨by decide +kernel, by omega, by rw [show (s32 60).toNat = 60 from by decide +kernel]; omega⟩, ?_⟩
  intro v180 sp180 e1 e2
  rw [show s32 60 = 60 from by decide +kernel] at e2
  have h180 : AT p ia180 v180 sp180 := AT.n0 h179 z179 e1 e2
  have z180 : sp180.2.2 = 175 := h180.gz (by decide +kernel) (by decide)
  clear e1 e2
  refine ⟨h180.gk (by decide +kernel) (by decide), ?_⟩
  intro v181 e1
  try rw [z179] at e1
  have h181 : AT p ia181 v181 sp180 := AT.st h180 e1
  clear e1
  refine ⟨⟨by decide +kernel, by omega, by rw [show (s32 60).toNat = 60 from by decide +kernel]; omega⟩, ?_⟩
  intro v182 sp182 e1 e2
  rw [show s32 60 = 60 from by decide +kernel] at e2
  have h182 : AT p ia182 v182 sp182 := AT.n0 h181 z180 e1 e2
  have z182 : sp182.2.2 = 176 := h182.gz (by decide +kernel) (by decide)
  clear e1 e2
  refine ⟨h182.gk (by decide +kernel) (by decide), ?_⟩
  intro v183 e1
  try rw [z180] at e1
  have h183 : AT p ia183 v183 sp182 := AT.st h182 e1
  clear e1
  exact im_432 p _ (by show g.1 + 1 + 1 = _; omega) (by show g.2 + (s32 60).toNat + (s32 60).toNat = _; rw [show (s32 60).toNat = 60 from by decide +kernel]; omega) hU v183 sp182 h183
theorem im_400 (p : Mem × Shp) {d : Nat} {U : Mem → Shp → Prop} (g : Cnt) (h1 : g.1 = 34) (h2 : g.2 = 15378) (hU : ∀ V S, AT p ia207 V S → U V S) : ∀ V S, AT p ia175 V S → K_m_init d U (400, [(2, 137)], [], V, S, g) := by
  intro v175 sp175 h175
  have z175 : sp175.2.2 = 172 := h175.gz (by decide +kernel) (by decide)
  rw [L_m_init_400]
  refine ⟨⟨by decide +kernel, by omega, by rw [show (s32 20).toNat = 20 from by decide +kernel]; omega⟩, ?_⟩
  intro v176 sp176 e1 e2
  rw [show s32 20 = 20 from by decide +kernel] at e2
  have h176 : AT p ia176 v176 sp176 := AT.n0 h175 z175 e1 e2
  have z176 : sp176.2.2 = 173 := h176.gz (by decide +kernel) (by decide)
  clear e1 e2
  refine ⟨h176.gk (by decide +kernel) (by decide), ?_⟩
  intro v177 e1
  try rw [z175] at e1
  have h177 : AT p ia177 v177 sp176 := AT.st h176 e1
  clear e1
  refine ⟨⟨by decide +kernel, by omega, by rw [show (s32 20).toNat = 20 from by decide +kernel]; omega⟩, ?_⟩
  intro v178 sp178 e1 e2
  rw [show s32 20 = 20 from by decide +kernel] at e2
  have h178 : AT p ia178 v178 sp178 := AT.n0 h177 z176 e1 e2
  have z178 : sp178.2.2 = 174 := h178.gz (by decide +kernel) (by decide)
  clear e1 e2
  refine ⟨h178.gk (by decide +kernel) (by decide), ?_⟩
  intro v179 e1
  try rw [z176] at e1
  have h179 : AT p ia179 v179 sp178 := AT.st h178 e1
  clear e1
  exact im_416 p _ (by show g.1 + 1 + 1 = _; omega) (by show g.2 + (s32 20).toNat + (s32 20).toNat = _; rw [show (s32 20).toNat = 20 from by decide +kernel]; omega) hU v179 sp178 h179
theorem im_384 (p : Mem × Shp) {d : Nat} {U : Mem → Shp → Prop} (g : Cnt) (h1 : g.1 = 32) (h2 : g.2 = 15338) (hU : ∀ V S, AT p ia207 V S → U V S) : ∀ V S, AT p ia171 V S → K_m_init d U (384, [(2, 137)], [], V, S, g) := by
  intro v171 sp171 h171
  have z171 : sp171.2.2 = 170 := h171.gz (by decide +kernel) (by decide)
  rw [L_m_init_384]
  refine ⟨⟨by decide +kernel, by omega, by rw [show (s32 20).toNat = 20 from by decide +kernel]; omega⟩, ?_⟩
  intro v172 sp172 e1 e2
  rw [show s32 20 = 20 from by decide +kernel] at e2
  have h172 : AT p ia172 v172 sp172 := AT.n0 h171 z171 e1 e2
  have z172 : sp172.2.2 = 171 := h172.gz (by decide +kernel) (by decide)
  clear e1 e2
  refine ⟨h172.gk (by decide +kernel) (by decide), ?_⟩
  intro v173 e1
  try rw [z171] at e1
  have h173 : AT p ia173 v173 sp172 := AT.st h172 e1
  clear e1
  refine ⟨⟨by decide +kernel, by omega, by rw [show (s32 20).toNat = 20 from by decide +kernel]; omega⟩, ?_⟩
  intro v174 sp174 e1 e2
  rw [show s32 20 = 20 from by decide +kernel] at e2
  have h174 : AT p ia174 v174 sp174 := AT.n0 h173 z172 e1 e2
  have z174 : sp174.2.2 = 172 := h174.gz (by decide +kernel) (by decide)
  clear e1 e2
  refine ⟨h174.gk (by decide +kernel) (by decide), ?_⟩
  intro v175 e1
  try rw [z172] at e1
  have h175 : AT p ia175 v175 sp174 := AT.st h174 e1
  clear e1
  exact im_400 p _ (by show g.1 + 1 + 1 = _; omega) (by show g.2 + (s32 20).toNat + (s32 20).toNat = _; rw [show (s32 20).toNat = 20 from by decide +kernel]; omega) hU v175 sp174 h175
theorem im_343 (p : Mem × Shp) {d : Nat} {U : Mem → Shp → Prop} (g : Cnt) (h1 : g.1 = 30) (h2 : g.2 = 15318) (hU : ∀ V S, AT p ia207 V S → U V S) : ∀ V S, AT p ia162 V S → K_m_init d U (343, [(2, 137)], [], V, S, g) := by
  intro v162 sp162 h162
  have z162 : sp162.2.2 = 168 := h162.gz (by decide +kernel) (by decide)
  rw [L_m_init_343]
  refine ⟨⟨by decide +kernel, by omega, by rw [show (s32 8).toNat = 8 from by decide +kernel]; omega⟩, ?_⟩
  intro v163 sp163 e1 e2
  rw [show s32 8 = 8 from by decide +kernel] at e2
  have h163 : AT p ia163 v163 sp163 := AT.n0 h162 z162 e1 e2
  have z163 : sp163.2.2 = 169 := h163.gz (by decide +kernel) (by decide)
  clear e1 e2
  refine ⟨h163.gk (by decide +kernel) (by decide), ?_⟩
  intro v164 e1
  try rw [z162] at e1
  have h164 : AT p ia164 v164 sp163 := AT.st h163 e1
  clear e1
  refine ⟨h164.gk (by decide +kernel) (by decide), ?_⟩
  intro v165 e1
  have h165 : AT p ia165 v165 sp163 := AT.st h164 e1
  clear e1
  refine ⟨h165.gk (by decide +kernel) (by decide), ?_⟩
  intro v166 e1
  have h166 : AT p ia166 v166 sp163 := AT.st h165 e1
  clear e1
  refine ⟨h166.gk (by decide +kernel) (by decide), ?_⟩
  intro v167 e1
  have h167 : AT p ia167 v167 sp163 := AT.st h166 e1
  clear e1
  refine ⟨h167.gk (by decide +kernel) (by decide), ?_⟩
  intro v168 e1
  have h168 : AT p ia168 v168 sp163 := AT.st h167 e1
  clear e1
  refine ⟨h168.gk (by decide +kernel) (by decide), ?_⟩
  intro v169 e1
  have h169 : AT p ia169 v169 sp163 := AT.st h168 e1
  clear e1
  refine ⟨⟨by decide +kernel, by omega, by rw [show (s32 12).toNat = 12 from by decide +kernel, show (s32 8).toNat = 8 from by decide +kernel]; omega⟩, ?_⟩
  intro v170 sp170 e1 e2
  rw [show s32 12 = 12 from by decide +kernel] at e2
  have h170 : AT p ia170 v170 sp170 := AT.n0 h169 z163 e1 e2
  have z170 : sp170.2.2 = 170 := h170.gz (by decide +kernel) (by decide)
  clear e1 e2
  refine ⟨h170.gk (by decide +kernel) (by decide), ?_⟩
  intro v171 e1
  try rw [z163] at e1
  have h171 : AT p ia171 v171 sp170 := AT.st h170 e1
  clear e1
  exact im_384 p _ (by show g.1 + 1 + 1 = _; omega) (by show g.2 + (s32 8).toNat + (s32 12).toNat = _; rw [show (s32 12).toNat = 12 from by decide +kernel, show (s32 8).toNat = 8 from by decide +kernel]; omega) hU v171 sp170 h171
theorem im_327 (p : Mem × Shp) {d : Nat} {U : Mem → Shp → Prop} (g : Cnt) (h1 : g.1 = 28) (h2 : g.2 = 15303) (hU : ∀ V S, AT p ia207 V S → U V S) : ∀ V S, AT p ia158 V S → K_m_init d U (327, [(2, 137)], [], V, S, g) := by
  intro v158 sp158 h158
  have z158 : sp158.2.2 = 166 := h158.gz (by decide +kernel) (by decide)
  rw [L_m_init_327]
  refine ⟨⟨by decide +kernel, by omega, by rw [show (s32 7).toNat = 7 from by decide +kernel]; omega⟩, ?_⟩
  intro v159 sp159 e1 e2
  rw [show s32 7 = 7 from by decide +kernel] at e2
  have h159 : AT p ia159 v159 sp159 := AT.n0 h158 z158 e1 e2
  have z159 : sp159.2.2 = 167 := h159.gz (by decide +kernel) (by decide)
  clear e1 e2
  refine ⟨h159.gk (by decide +kernel) (by decide), ?_⟩
  intro v160 e1
  try rw [z158] at e1
  have h160 : AT p ia160 v160 sp159 := AT.st h159 e1
  clear e1
  refine ⟨⟨by decide +kernel, by omega, by rw [show (s32 7).toNat = 7 from by decide +kernel, show (s32 8).toNat = 8 from by decide +kernel]; omega⟩, ?_⟩
  intro v161 sp161 e1 e2
  rw [show s32 8 = 8 from by decide +kernel] at e2
  have h161 : AT p ia161 v161 sp161 := AT.n0 h160 z159 e1 e2
  have z161 : sp161.2.2 = 168 := h161.gz (by decide +kernel) (by decide)
  clear e1 e2
  refine ⟨h161.gk (by decide +kernel) (by decide), ?_⟩
  intro v162 e1
  try rw [z159] at e1
  have h162 : AT p ia162 v162 sp161 := AT.st h161 e1
  clear e1
  exact im_343 p _ (by show g.1 + 1 + 1 = _; omega) (by show g.2 + (s32 7).toNat + (s32 8).toNat = _; rw [show (s32 7).toNat = 7 from by decide +kernel, show (s32 8).toNat = 8 from by decide +kernel]; omega) hU v162 sp161 h162
theorem im_291 (p : Mem × Shp) {d : Nat} {U : Mem → Shp → Prop} (g : Cnt) (h1 : g.1 = 26) (h2 : g.2 = 15194) (hU : ∀ V S, AT p ia207 V S → U V S) : ∀ V S, AT p ia150 V S → K_m_init d U (291, [(2, 137)], [], V, S, g) := by
  intro v150 sp150 h150
  have z150 : sp150.2.2 = 164 := h150.gz (by decide +kernel) (by decide)
  rw [L_m_init_291]
  refine ⟨⟨by decide +kernel, by omega, by rw [show (s32 101).toNat = 101 from by decide +kernel]; omega⟩, ?_⟩
  intro v151 sp151 e1 e2
  rw [show s32 101 = 101 from by decide +kernel] at e2
  have h151 : AT p ia151 v151 sp151 := AT.n0 h150 z150 e1 e2
  have z151 : sp151.2.2 = 165 := h151.gz (by decide +kernel) (by decide)
  clear e1 e2
  refine ⟨h151.gk (by decide +kernel) (by decide), ?_⟩
  intro v152 e1
  try rw [z150] at e1
  have h152 : AT p ia152 v152 sp151 := AT.st h151 e1
  clear e1
  refine ⟨h152.gk (by decide +kernel) (by decide), ?_⟩
  intro v153 e1
  have h153 : AT p ia153 v153 sp151 := AT.st h152 e1
  clear e1
  refine ⟨h153.gk (by decide +kernel) (by decide), ?_⟩
  intro v154 e1
  have h154 : AT p ia154 v154 sp151 := AT.st h153 e1
  clear e1
  refine ⟨h154.gk (by decide +kernel) (by decide), ?_⟩
  intro v155 e1
  have h155 : AT p ia155 v155 sp151 := AT.st h154 e1
  clear e1
  refine ⟨⟨h155.gk (by decide +kernel) (by decide), by decide +kernel⟩, ?_⟩
  intro v156 e1
  have h156 : AT p ia156 v156 sp151 := AT.st h155 e1
  clear e1
  refine ⟨⟨by decide +kernel, by omega, by rw [show (s32 101).toNat = 101 from by decide +kernel, show (s32 8).toNat = 8 from by decide +kernel]; omega⟩, ?_⟩
  intro v157 sp157 e1 e2
  rw [show s32 8 = 8 from by decide +kernel] at e2
  have h157 : AT p ia157 v157 sp157 := AT.n0 h156 z151 e1 e2
  have z157 : sp157.2.2 = 166 := h157.gz (by decide +kernel) (by decide)
  clear e1 e2
  refine ⟨h157.gk (by decide +kernel) (by decide), ?_⟩
  intro v158 e1
  try rw [z151] at e1
  have h158 : AT p ia158 v158 sp157 := AT.st h157 e1
  clear e1
  exact im_327 p _ (by show g.1 + 1 + 1 = _; omega) (by show g.2 + (s32 101).toNat + (s32 8).toNat = _; rw [show (s32 101).toNat = 101 from by decide +kernel, show (s32 8).toNat = 8 from by decide +kernel]; omega) hU v158 sp157 h158
theorem im_225 (p : Mem × Shp) {d : Nat} {U : Mem → Shp → Prop} (g : Cnt) (h1 : g.1 = 24) (h2 : g.2 = 15087) (hU : ∀ V S, AT p ia207 V S → U V S) : ∀ V S, AT p ia136 V S → K_m_init d U (225, [(2, 137)], [], V, S, g) := by
  intro v136 sp136 h136
  have z136 : sp136.2.2 = 162 := h136.gz (by decide +kernel) (by decide)
  rw [L_m_init_225]
  refine ⟨⟨by decide +kernel, by omega, by rw [show (s32 6).toNat = 6 from by decide +kernel]; omega⟩, ?_⟩
  intro v137 sp137 e1 e2
  rw [show s32 6 = 6 from by decide +kernel] at e2
  have h137 : AT p ia137 v137 sp137 := AT.n0 h136 z136 e1 e2
  have z137 : sp137.2.2 = 163 := h137.gz (by decide +kernel) (by decide)
  clear e1 e2
  refine ⟨h137.gk (by decide +kernel) (by decide), ?_⟩
  intro v138 e1
  try rw [z136] at e1
  have h138 : AT p ia138 v138 sp137 := AT.st h137 e1
  clear e1
  refine ⟨h138.gk (by decide +kernel) (by decide), ?_⟩
  intro v139 e1
  have h139 : AT p ia139 v139 sp137 := AT.st h138 e1
  clear e1
  refine ⟨h139.gk (by decide +kernel) (by decide), ?_⟩
  intro v140 e1
  have h140 : AT p ia140 v140 sp137 := AT.st h139 e1
  clear e1
  refine ⟨h140.gk (by decide +kernel) (by decide), ?_⟩
  intro v141 e1
  have h141 : AT p ia141 v141 sp137 := AT.st h140 e1
  clear e1
  refine ⟨h141.gk (by decide +kernel) (by decide), ?_⟩
  intro v142 e1
  have h142 : AT p ia142 v142 sp137 := AT.st h141 e1
  clear e1
  refine ⟨h142.gk (by decide +kernel) (by decide), ?_⟩
  intro v143 e1
  have h143 : AT p ia143 v143 sp137 := AT.st h142 e1
  clear e1
  refine ⟨h143.gk (by decide +kernel) (by decide), ?_⟩
  intro v144 e1
  have h144 : AT p ia144 v144 sp137 := AT.st h143 e1
  clear e1
  refine ⟨h144.gk (by decide +kernel) (by decide), ?_⟩
  intro v145 e1
  have h145 : AT p ia145 v145 sp137 := AT.st h144 e1
  clear e1
  refine ⟨h145.gk (by decide +kernel) (by decide), ?_⟩
  intro v146 e1
  have h146 : AT p ia146 v146 sp137 := AT.st h145 e1
  clear e1
  refine ⟨⟨h146.gk (by decide +kernel) (by decide), by decide +kernel⟩, ?_⟩
  intro v147 e1
  have h147 : AT p ia147 v147 sp137 := AT.st h146 e1
  clear e1
  refine ⟨h147.gk (by decide +kernel) (by decide), ?_⟩
  intro v148 e1
  have h148 : AT p ia148 v148 sp137 := AT.st h147 e1
  clear e1
  refine ⟨⟨by decide +kernel, by omega, by rw [show (s32 101).toNat = 101 from by decide +kernel, show (s32 6).toNat = 6 from by decide +kernel]; omega⟩, ?_⟩
  intro v149 sp149 e1 e2
  rw [show s32 101 = 101 from by decide +kernel] at e2
  have h149 : AT p ia149 v149 sp149 := AT.n0 h148 z137 e1 e2
  have z149 : sp149.2.2 = 164 := h149.gz (by decide +kernel) (by decide)
  clear e1 e2
  refine ⟨h149.gk (by decide +kernel) (by decide), ?_⟩
  intro v150 e1
  try rw [z137] at e1
  have h150 : AT p ia150 v150 sp149 := AT.st h149 e1
  clear e1
  exact im_291 p _ (by show g.1 + 1 + 1 = _; omega) (by show g.2 + (s32 6).toNat + (s32 101).toNat = _; rw [show (s32 101).toNat = 101 from by decide +kernel, show (s32 6).toNat = 6 from by decide +kernel]; omega) hU v150 sp149 h150
theorem im_208 (p : Mem × Shp) {d : Nat} {U : Mem → Shp → Prop} (g : Cnt) (h1 : g.1 = 22) (h2 : g.2 = 13875) (hU : ∀ V S, AT p ia207 V S → U V S) : ∀ V S, AT p ia132 V S → K_m_init d U (208, [(2, 137)], [], V, S, g) := by
  intro v132 sp132 h132
  have z132 : sp132.2.2 = 160 := h132.gz (by decide +kernel) (by decide)
  rw [L_m_init_208]
  refine ⟨⟨by decide +kernel, by omega, by rw [show (s32 1200).toNat = 1200 from by decide +kernel]; omega⟩, ?_⟩
  intro v133 sp133 e1 e2
  rw [show s32 1200 = 1200 from by decide +kernel] at e2
  have h133 : AT p ia133 v133 sp133 := AT.n0 h132 z132 e1 e2
  have z133 : sp133.2.2 = 161 := h133.gz (by decide +kernel) (by decide)
  clear e1 e2
  refine ⟨h133.gk (by decide +kernel) (by decide), ?_⟩
  intro v134 e1
  try rw [z132] at e1
  have h134 : AT p ia134 v134 sp133 := AT.st h133 e1
  clear e1
  refine ⟨⟨by decide +kernel, by omega, by rw [show (s32 12).toNat = 12 from by decide +kernel, show (s32 1200).toNat = 1200 from by decide +kernel]; omega⟩, ?_⟩
  intro v135 sp135 e1 e2
  rw [show s32 12 = 12 from by decide +kernel] at e2
  have h135 : AT p ia135 v135 sp135 := AT.n0 h134 z133 e1 e2
  have z135 : sp135.2.2 = 162 := h135.gz (by decide +kernel) (by decide)
  clear e1 e2
  refine ⟨h135.gk (by decide +kernel) (by decide), ?_⟩
  intro v136 e1
  try rw [z133] at e1
  have h136 : AT p ia136 v136 sp135 := AT.st h135 e1
  clear e1
  exact im_225 p _ (by show g.1 + 1 + 1 = _; omega) (by show g.2 + (s32 1200).toNat + (s32 12).toNat = _; rw [show (s32 12).toNat = 12 from by decide +kernel, show (s32 1200).toNat = 1200 from by decide +kernel]; omega) hU v136 sp135 h136
theorem im_181 (p : Mem × Shp) {d : Nat} {U : Mem → Shp → Prop} (g : Cnt) (h1 : g.1 = 20) (h2 : g.2 = 1864) (hU : ∀ V S, AT p ia207 V S → U V S) : ∀ V S, AT p ia126 V S → K_m_init d U (181, [(2, 137)], [], V, S, g) := by
  intro v126 sp126 h126
  have z126 : sp126.2.2 = 158 := h126.gz (by decide +kernel) (by decide)
  rw [L_m_init_181]
  refine ⟨⟨by decide +kernel, by omega, by rw [show (s32 12000).toNat = 12000 from by decide +kernel]; omega⟩, ?_⟩
  intro v127 sp127 e1 e2
  rw [show s32 12000 = 12000 from by decide +kernel] at e2
  have h127 : AT p ia127 v127 sp127 := AT.n0 h126 z126 e1 e2
  have z127 : sp127.2.2 = 159 := h127.gz (by decide +kernel) (by decide)
  clear e1 e2
  refine ⟨h127.gk (by decide +kernel) (by decide), ?_⟩
  intro v128 e1
  try rw [z126] at e1
  have h128 : AT p ia128 v128 sp127 := AT.st h127 e1
  clear e1
  refine ⟨h128.gk (by decide +kernel) (by decide), ?_⟩
  intro v129 e1
  have h129 : AT p ia129 v129 sp127 := AT.st h128 e1
  clear e1
  refine ⟨h129.gk (by decide +kernel) (by decide), ?_⟩
  intro v130 e1
  have h130 : AT p ia130 v130 sp127 := AT.st h129 e1
  clear e1
  refine ⟨⟨by decide +kernel, by omega, by rw [show (s32 11).toNat = 11 from by decide +kernel, show (s32 12000).toNat = 12000 from by decide +kernel]; omega⟩, ?_⟩
  intro v131 sp131 e1 e2
  rw [show s32 11 = 11 from by decide +kernel] at e2
  have h131 : AT p ia131 v131 sp131 := AT.n0 h130 z127 e1 e2
  have z131 : sp131.2.2 = 160 := h131.gz (by decide +kernel) (by decide)
  clear e1 e2
  refine ⟨h131.gk (by decide +kernel) (by decide), ?_⟩
  intro v132 e1
  try rw [z127] at e1
  have h132 : AT p ia132 v132 sp131 := AT.st h131 e1
  clear e1
  exact im_208 p _ (by show g.1 + 1 + 1 = _; omega) (by show g.2 + (s32 12000).toNat + (s32 11).toNat = _; rw [show (s32 11).toNat = 11 from by decide +kernel, show (s32 12000).toNat = 12000 from by decide +kernel]; omega) hU v132 sp131 h132
theorem im_164 (p : Mem × Shp) {d : Nat} {U : Mem → Shp → Prop} (g : Cnt) (h1 : g.1 = 18) (h2 : g.2 = 564) (hU : ∀ V S, AT p ia207 V S → U V S) : ∀ V S, AT p ia122 V S → K_m_init d U (164, [(2, 137)], [], V, S, g) := by
  intro v122 sp122 h122
  have z122 : sp122.2.2 = 156 := h122.gz (by decide +kernel) (by decide)
  rw [L_m_init_164]
  refine ⟨⟨by decide +kernel, by omega, by rw [show (s32 20).toNat = 20 from by decide +kernel]; omega⟩, ?_⟩
  intro v123 sp123 e1 e2
  rw [show s32 20 = 20 from by decide +kernel] at e2
  have h123 : AT p ia123 v123 sp123 := AT.n0 h122 z122 e1 e2
  have z123 : sp123.2.2 = 157 := h123.gz (by decide +kernel) (by decide)
  clear e1 e2
  refine ⟨h123.gk (by decide +kernel) (by decide), ?_⟩
  intro v124 e1
  try rw [z122] at e1
  have h124 : AT p ia124 v124 sp123 := AT.st h123 e1
  clear e1
  refine ⟨⟨by decide +kernel, by omega, by rw [show (s32 1280).toNat = 1280 from by decide +kernel, show (s32 20).toNat = 20 from by decide +kernel]; omega⟩, ?_⟩
  intro v125 sp125 e1 e2
  rw [show s32 1280 = 1280 from by decide +kernel] at e2
  have h125 : AT p ia125 v125 sp125 := AT.n0 h124 z123 e1 e2
  have z125 : sp125.2.2 = 158 := h125.gz (by decide +kernel) (by decide)
  clear e1 e2
  refine ⟨h125.gk (by decide +kernel) (by decide), ?_⟩
  intro v126 e1
  try rw [z123] at e1
  have h126 : AT p ia126 v126 sp125 := AT.st h125 e1
  clear e1
  exact im_181 p _ (by show g.1 + 1 + 1 = _; omega) (by show g.2 + (s32 20).toNat + (s32 1280).toNat = _; rw [show (s32 1280).toNat = 1280 from by decide +kernel, show (s32 20).toNat = 20 from by decide +kernel]; omega) hU v126 sp125 h126
theorem im_148 (p : Mem × Shp) {d : Nat} {U : Mem → Shp → Prop} (g : Cnt) (h1 : g.1 = 16) (h2 : g.2 = 524) (hU : ∀ V S, AT p ia207 V S → U V S) : ∀ V S, AT p ia118 V S → K_m_init d U (148, [(2, 137)], [], V, S, g) := by
  intro v118 sp118 h118
  have z118 : sp118.2.2 = 154 := h118.gz (by decide +kernel) (by decide)
  rw [L_m_init_148]
  refine ⟨⟨by decide +kernel, by omega, by rw [show (s32 20).toNat = 20 from by decide +kernel]; omega⟩, ?_⟩
  intro v119 sp119 e1 e2
  rw [show s32 20 = 20 from by decide +kernel] at e2
  have h119 : AT p ia119 v119 sp119 := AT.n0 h118 z118 e1 e2
  have z119 : sp119.2.2 = 155 := h119.gz (by decide +kernel) (by decide)
  clear e1 e2
  refine ⟨h119.gk (by decide +kernel) (by decide), ?_⟩
  intro v120 e1
  try rw [z118] at e1
  have h120 : AT p ia120 v120 sp119 := AT.st h119 e1
  clear e1
  refine ⟨⟨by decide +kernel, by omega, by rw [show (s32 20).toNat = 20 from by decide +kernel]; omega⟩, ?_⟩
  intro v121 sp121 e1 e2
  rw [show s32 20 = 20 from by decide +kernel] at e2
  have h121 : AT p ia121 v121 sp121 := AT.n0 h120 z119 e1 e2
  have z121 : sp121.2.2 = 156 := h121.gz (by decide +kernel) (by decide)
  clear e1 e2
  refine ⟨h121.gk (by decide +kernel) (by decide), ?_⟩
  intro v122 e1
  try rw [z119] at e1
  have h122 : AT p ia122 v122 sp121 := AT.st h121 e1
  clear e1
  exact im_164 p _ (by show g.1 + 1 + 1 = _; omega) (by show g.2 + (s32 20).toNat + (s32 20).toNat = _; rw [show (s32 20).toNat = 20 from by decide +kernel]; omega) hU v122 sp121 h122
theorem im_132 (p : Mem × Shp) {d : Nat} {U : Mem → Shp → Prop} (g : Cnt) (h1 : g.1 = 14) (h2 : g.2 = 484) (hU : ∀ V S, AT p ia207 V S → U V S) : ∀ V S, AT p ia114 V S → K_m_init d U (132, [(2, 137)], [], V, S, g) := by
  intro v114 sp114 h114
  have z114 : sp114.2.2 = 152 := h114.gz (by decide +kernel) (by decide)
  rw [L_m_init_132]
  refine ⟨⟨by decide +kernel, by omega, by rw [show (s32 20).toNat = 20 from by decide +kernel]; omega⟩, ?_⟩
  intro v115 sp115 e1 e2
  rw [show s32 20 = 20 from by decide +kernel] at e2
  have h115 : AT p ia115 v115 sp115 := AT.n0 h114 z114 e1 e2
  have z115 : sp115.2.2 = 153 := h115.gz (by decide +kernel) (by decide)
  clear e1 e2
  refine ⟨h115.gk (by decide +kernel) (by decide), ?_⟩
  intro v116 e1
  try rw [z114] at e1
  have h116 : AT p ia116 v116 sp115 := AT.st h115 e1
  clear e1
  refine ⟨⟨by decide +kernel, by omega, by rw [show (s32 20).toNat = 20 from by decide +kernel]; omega⟩, ?_⟩
  intro v117 sp117 e1 e2
  rw [show s32 20 = 20 from by decide +kernel] at e2
  have h117 : AT p ia117 v117 sp117 := AT.n0 h116 z115 e1 e2
  have z117 : sp117.2.2 = 154 := h117.gz (by decide +kernel) (by decide)
  clear e1 e2
  refine ⟨h117.gk (by decide +kernel) (by decide), ?_⟩
  intro v118 e1
  try rw [z115] at e1
  have h118 : AT p ia118 v118 sp117 := AT.st h117 e1
  clear e1
  exact im_148 p _ (by show g.1 + 1 + 1 = _; omega) (by show g.2 + (s32 20).toNat + (s32 20).toNat = _; rw [show (s32 20).toNat = 20 from by decide +kernel]; omega) hU v118 sp117 h118
theorem im_116 (p : Mem × Shp) {d : Nat} {U : Mem → Shp → Prop} (g : Cnt) (h1 : g.1 = 12) (h2 : g.2 = 444) (hU : ∀ V S, AT p ia207 V S → U V S) : ∀ V S, AT p ia110 V S → K_m_init d U (116, [(2, 137)], [], V, S, g) := by
  intro v110 sp110 h110
  have z110 : sp110.2.2 = 150 := h110.gz (by decide +kernel) (by decide)
  rw [L_m_init_116]
  refine ⟨⟨by decide +kernel, by omega, by rw [show (s32 20).toNat = 20 from by decide +kernel]; omega⟩, ?_⟩
  intro v111 sp111 e1 e2
  rw [show s32 20 = 20 from by decide +kernel] at e2
  have h111 : AT p ia111 v111 sp111 := AT.n0 h110 z110 e1 e2
  have z111 : sp111.2.2 = 151 := h111.gz (by decide +kernel) (by decide)
  clear e1 e2
  refine ⟨h111.gk (by decide +kernel) (by decide), ?_⟩
  intro v112 e1
  try rw [z110] at e1
  have h112 : AT p ia112 v112 sp111 := AT.st h111 e1
  clear e1
  refine ⟨⟨by decide +kernel, by omega, by rw [show (s32 20).toNat = 20 from by decide +kernel]; omega⟩, ?_⟩
  intro v113 sp113 e1 e2
  rw [show s32 20 = 20 from by decide +kernel] at e2
  have h113 : AT p ia113 v113 sp113 := AT.n0 h112 z111 e1 e2
  have z113 : sp113.2.2 = 152 := h113.gz (by decide +kernel) (by decide)
  clear e1 e2
  refine ⟨h113.gk (by decide +kernel) (by decide), ?_⟩
  intro v114 e1
  try rw [z111] at e1
  have h114 : AT p ia114 v114 sp113 := AT.st h113 e1
  clear e1
  exact im_132 p _ (by show g.1 + 1 + 1 = _; omega) (by show g.2 + (s32 20).toNat + (s32 20).toNat = _; rw [show (s32 20).toNat = 20 from by decide +kernel]; omega) hU v114 sp113 h114
theorem im_100 (p : Mem × Shp) {d : Nat} {U : Mem → Shp → Prop} (g : Cnt) (h1 : g.1 = 10) (h2 : g.2 = 404) (hU : ∀ V S, AT p ia207 V S → U V S) : ∀ V S, AT p ia106 V S → K_m_init d U (100, [(2, 137)], [], V, S, g) := by
  intro v106 sp106 h106
  have z106 : sp106.2.2 = 148 := h106.gz (by decide +kernel) (by decide)
  rw [L_m_init_100]
  refine ⟨⟨by decide +kernel, by omega, by rw [show (s32 20).toNat = 20 from by decide +kernel]; omega⟩, ?_⟩
  intro v107 sp107 e1 e2
  rw [show s32 20 = 20 from by decide +kernel] at e2
  have h107 : AT p ia107 v107 sp107 := AT.n0 h106 z106 e1 e2
  have z107 : sp107.2.2 = 149 := h107.gz (by decide +kernel) (by decide)
  clear e1 e2
  refine ⟨h107.gk (by decide +kernel) (by decide), ?_⟩
  intro v108 e1
  try rw [z106] at e1
  have h108 : AT p ia108 v108 sp107 := AT.st h107 e1
  clear e1
  refine ⟨⟨by decide +kernel, by omega, by rw [show (s32 20).toNat = 20 from by decide +kernel]; omega⟩, ?_⟩
  intro v109 sp109 e1 e2
  rw [show s32 20 = 20 from by decide +kernel] at e2
  have h109 : AT p ia109 v109 sp109 := AT.n0 h108 z107 e1 e2
  have z109 : sp109.2.2 = 150 := h109.gz (by decide +kernel) (by decide)
  clear e1 e2
  refine ⟨h109.gk (by decide +kernel) (by decide), ?_⟩
  intro v110 e1
  try rw [z107] at e1
  have h110 : AT p ia110 v110 sp109 := AT.st h109 e1
  clear e1
  exact im_116 p _ (by show g.1 + 1 + 1 = _; omega) (by show g.2 + (s32 20).toNat + (s32 20).toNat = _; rw [show (s32 20).toNat = 20 from by decide +kernel]; omega) hU v110 sp109 h110
theorem im_84 (p : Mem × Shp) {d : Nat} {U : Mem → Shp → Prop} (g : Cnt) (h1 : g.1 = 8) (h2 : g.2 = 364) (hU : ∀ V S, AT p ia207 V S → U V S) : ∀ V S, AT p ia102 V S → K_m_init d U (84, [(2, 137)], [], V, S, g) := by
  intro v102 sp102 h102
  have z102 : sp102.2.2 = 146 := h102.gz (by decide +kernel) (by decide)
  rw [L_m_init_84]
  refine ⟨⟨by decide +kernel, by omega, by rw [show (s32 20).toNat = 20 from by decide +kernel]; omega⟩, ?_⟩
  intro v103 sp103 e1 e2
  rw [show s32 20 = 20 from by decide +kernel] at e2
  have h103 : AT p ia103 v103 sp103 := AT.n0 h102 z102 e1 e2
  have z103 : sp103.2.2 = 147 := h103.gz (by decide +kernel) (by decide)
  clear e1 e2
  refine ⟨h103.gk (by decide +kernel) (by decide), ?_⟩
  intro v104 e1
  try rw [z102] at e1
  have h104 : AT p ia104 v104 sp103 := AT.st h103 e1
  clear e1
  refine ⟨⟨by decide +kernel, by omega, by rw [show (s32 20).toNat = 20 from by decide +kernel]; omega⟩, ?_⟩
  intro v105 sp105 e1 e2
  rw [show s32 20 = 20 from by decide +kernel] at e2
  have h105 : AT p ia105 v105 sp105 := AT.n0 h104 z103 e1 e2
  have z105 : sp105.2.2 = 148 := h105.gz (by decide +kernel) (by decide)
  clear e1 e2
  refine ⟨h105.gk (by decide +kernel) (by decide), ?_⟩
  intro v106 e1
  try rw [z103] at e1
  have h106 : AT p ia106 v106 sp105 := AT.st h105 e1
  clear e1
  exact im_100 p _ (by show g.1 + 1 + 1 = _; omega) (by show g.2 + (s32 20).toNat + (s32 20).toNat = _; rw [show (s32 20).toNat = 20 from by decide +kernel]; omega) hU v106 sp105 h106
theorem im_68 (p : Mem × Shp) {d : Nat} {U : Mem → Shp → Prop} (g : Cnt) (h1 : g.1 = 6) (h2 : g.2 = 324) (hU : ∀ V S, AT p ia207 V S → U V S) : ∀ V S, AT p ia98 V S → K_m_init d U (68, [(2, 137)], [], V, S, g) := by
  intro v98 sp98 h98
  have z98 : sp98.2.2 = 144 := h98.gz (by decide +kernel) (by decide)
  rw [L_m_init_68]
  refine ⟨⟨by decide +kernel, by omega, by rw [show (s32 20).toNat = 20 from by decide +kernel]; omega⟩, ?_⟩
  intro v99 sp99 e1 e2
  rw [show s32 20 = 20 from by decide +kernel] at e2
  have h99 : AT p ia99 v99 sp99 := AT.n0 h98 z98 e1 e2
  have z99 : sp99.2.2 = 145 := h99.gz (by decide +kernel) (by decide)
  clear e1 e2
  refine ⟨h99.gk (by decide +kernel) (by decide), ?_⟩
  intro v100 e1
  try rw [z98] at e1
  have h100 : AT p ia100 v100 sp99 := AT.st h99 e1
  clear e1
  refine ⟨⟨by decide +kernel, by omega, by rw [show (s32 20).toNat = 20 from by decide +kernel]; omega⟩, ?_⟩
  intro v101 sp101 e1 e2
  rw [show s32 20 = 20 from by decide +kernel] at e2
  have h101 : AT p ia101 v101 sp101 := AT.n0 h100 z99 e1 e2
  have z101 : sp101.2.2 = 146 := h101.gz (by decide +kernel) (by decide)
  clear e1 e2
  refine ⟨h101.gk (by decide +kernel) (by decide), ?_⟩
  intro v102 e1
  try rw [z99] at e1
  have h102 : AT p ia102 v102 sp101 := AT.st h101 e1
  clear e1
  exact im_84 p _ (by show g.1 + 1 + 1 = _; omega) (by show g.2 + (s32 20).toNat + (s32 20).toNat = _; rw [show (s32 20).toNat = 20 from by decide +kernel]; omega) hU v102 sp101 h102
theorem im_52 (p : Mem × Shp) {d : Nat} {U : Mem → Shp → Prop} (g : Cnt) (h1 : g.1 = 4) (h2 : g.2 = 284) (hU : ∀ V S, AT p ia207 V S → U V S) : ∀ V S, AT p ia94 V S → K_m_init d U (52, [(2, 137)], [], V, S, g) := by
  intro v94 sp94 h94
  have z94 : sp94.2.2 = 142 := h94.gz (by decide +kernel) (by decide)
  rw [L_m_init_52]
  refine ⟨⟨by decide +kernel, by omega, by rw [show (s32 20).toNat = 20 from by decide +kernel]; omega⟩, ?_⟩
  intro v95 sp95 e1 e2
  rw [show s32 20 = 20 from by decide +kernel] at e2
  have h95 : AT p ia95 v95 sp95 := AT.n0 h94 z94 e1 e2
  have z95 : sp95.2.2 = 143 := h95.gz (by decide +kernel) (by decide)
  clear e1 e2
  refine ⟨h95.gk (by decide +kernel) (by decide), ?_⟩
  intro v96 e1
  try rw [z94] at e1
  have h96 : AT p ia96 v96 sp95 := AT.st h95 e1
  clear e1
  refine ⟨⟨by decide +kernel, by omega, by rw [show (s32 20).toNat = 20 from by decide +kernel]; omega⟩, ?_⟩
  intro v97 sp97 e1 e2
  rw [show s32 20 = 20 from by decide +kernel] at e2
  have h97 : AT p ia97 v97 sp97 := AT.n0 h96 z95 e1 e2
  have z97 : sp97.2.2 = 144 := h97.gz (by decide +kernel) (by decide)
  clear e1 e2
  refine ⟨h97.gk (by decide +kernel) (by decide), ?_⟩
  intro v98 e1
  try rw [z95] at e1
  have h98 : AT p ia98 v98 sp97 := AT.st h97 e1
  clear e1
  exact im_68 p _ (by show g.1 + 1 + 1 = _; omega) (by show g.2 + (s32 20).toNat + (s32 20).toNat = _; rw [show (s32 20).toNat = 20 from by decide +kernel]; omega) hU v98 sp97 h98
theorem im_35 (p : Mem × Shp) {d : Nat} {U : Mem → Shp → Prop} (g : Cnt) (h1 : g.1 = 2) (h2 : g.2 = 24) (hU : ∀ V S, AT p ia207 V S → U V S) : ∀ V S, AT p ia90 V S → K_m_init d U (35, [(2, 137)], [], V, S, g) := by
  intro v90 sp90 h90
  have z90 : sp90.2.2 = 140 := h90.gz (by decide +kernel) (by decide)
  rw [L_m_init_35]
  refine ⟨⟨by decide +kernel, by omega, by rw [show (s32 240).toNat = 240 from by decide +kernel]; omega⟩, ?_⟩
  intro v91 sp91 e1 e2
  rw [show s32 240 = 240 from by decide +kernel] at e2
  have h91 : AT p ia91 v91 sp91 := AT.n0 h90 z90 e1 e2
  have z91 : sp91.2.2 = 141 := h91.gz (by decide +kernel) (by decide)
  clear e1 e2
  refine ⟨h91.gk (by decide +kernel) (by decide), ?_⟩
  intro v92 e1
  try rw [z90] at e1
  have h92 : AT p ia92 v92 sp91 := AT.st h91 e1
  clear e1
  refine ⟨⟨by decide +kernel, by omega, by rw [show (s32 20).toNat = 20 from by decide +kernel, show (s32 240).toNat = 240 from by decide +kernel]; omega⟩, ?_⟩
  intro v93 sp93 e1 e2
  rw [show s32 20 = 20 from by decide +kernel] at e2
  have h93 : AT p ia93 v93 sp93 := AT.n0 h92 z91 e1 e2
  have z93 : sp93.2.2 = 142 := h93.gz (by decide +kernel) (by decide)
  clear e1 e2
  refine ⟨h93.gk (by decide +kernel) (by decide), ?_⟩
  intro v94 e1
  try rw [z91] at e1
  have h94 : AT p ia94 v94 sp93 := AT.st h93 e1
  clear e1
  exact im_52 p _ (by show g.1 + 1 + 1 = _; omega) (by show g.2 + (s32 240).toNat + (s32 20).toNat = _; rw [show (s32 20).toNat = 20 from by decide +kernel, show (s32 240).toNat = 240 from by decide +kernel]; omega) hU v94 sp93 h94
theorem m_ini (p : Mem × Shp) {d : Nat} {U : Mem → Shp → Prop} (hU : ∀ V S, AT p ia207 V S → U V S) : ∀ V S, AT p ia83 V S → C_m_init (d + 1) 137 V S U := by
  intro v83 sp83 h83
  have z83 : sp83.2.2 = 138 := h83.gz (by decide +kernel) (by decide)
  rw [I_m_init]
  refine ⟨h83.gk (by decide +kernel) (by decide), ?_⟩
  refine ⟨by rw [h83.gk (a := 137) (κ := 12) (by decide +kernel) (by decide)]; decide, ?_⟩
  refine ⟨h83.gk (by decide +kernel) (by decide), ?_⟩
  intro v84 e1
  have h84 : AT p ia84 v84 sp83 := AT.st h83 e1
  clear e1
  refine ⟨h84.gk (by decide +kernel) (by decide), ?_⟩
  intro v85 e1
  have h85 : AT p ia85 v85 sp83 := AT.st h84 e1
  clear e1
  refine ⟨h85.gk (by decide +kernel) (by decide), ?_⟩
  intro v86 e1
  have h86 : AT p ia86 v86 sp83 := AT.st h85 e1
  clear e1
  refine ⟨by decide +kernel, ?_⟩
  intro v87 sp87 e1 e2
  rw [show s32 12 = 12 from by decide +kernel] at e2
  have h87 : AT p ia87 v87 sp87 := AT.n0 h86 z83 e1 e2
  have z87 : sp87.2.2 = 139 := h87.gz (by decide +kernel) (by decide)
  clear e1 e2
  refine ⟨h87.gk (by decide +kernel) (by decide), ?_⟩
  intro v88 e1
  try rw [z83] at e1
  have h88 : AT p ia88 v88 sp87 := AT.st h87 e1
  clear e1
  refine ⟨by decide +kernel, ?_⟩
  intro v89 sp89 e1 e2
  rw [show s32 12 = 12 from by decide +kernel] at e2
  have h89 : AT p ia89 v89 sp89 := AT.n0 h88 z87 e1 e2
  have z89 : sp89.2.2 = 140 := h89.gz (by decide +kernel) (by decide)
  clear e1 e2
  refine ⟨h89.gk (by decide +kernel) (by decide), ?_⟩
  intro v90 e1
  try rw [z87] at e1
  have h90 : AT p ia90 v90 sp89 := AT.st h89 e1
  clear e1
  exact im_35 p _ (by decide +kernel) (by decide +kernel) hU v90 sp89 h90
