/-! THE LAW'S CODE -/
def mLL (n : String) (h : List ((Nat × Nat × Nat × Nat) × String)) : MI := (⟨"RunFaxesLaw", n, "([I)Z"⟩, code, 9, some .boolean, room_1, h)
theorem rmLL {k : MI} (n : String) (h : List ((Nat × Nat × Nat × Nat) × String)) (h1 : (mi_rm k).frames + 1 ≤ room_1.frames) (h2 : 8 + (mi_l k + 11) + (mi_rm k).locals ≤ room_1.locals) : RMok (mLL n h) k := ⟨h1, h2⟩
set_option maxRecDepth 100000 in
theorem ln_L_8 : LkN "RunFaxesLaw" 8 9 := ⟨_, _, _, rfl, (wt_1 23 (by decide +kernel) rfl), (wt_1 24 (by decide +kernel) rfl), (wt_1 1 (by decide +kernel) rfl)⟩
set_option maxRecDepth 100000 in
theorem lc_L_104 : LkI "RunFaxesLaw" 104 m9_init := ⟨(wt_1 25 (by decide +kernel) rfl), (wt_1 26 (by decide +kernel) rfl), rfl, rfl⟩
set_option maxRecDepth 100000 in
theorem ln_L_105 : LkN "RunFaxesLaw" 105 10 := ⟨_, _, _, rfl, (wt_5 93 (by decide +kernel) rfl), (wt_5 94 (by decide +kernel) rfl), (wt_1 11 (by decide +kernel) rfl)⟩
set_option maxRecDepth 100000 in
theorem lc_L_107 : LkI "RunFaxesLaw" 107 m10_init := ⟨(wt_5 95 (by decide +kernel) rfl), (wt_5 96 (by decide +kernel) rfl), rfl, rfl⟩
set_option maxRecDepth 100000 in
theorem lc_L_108 : LkS "RunFaxesLaw" 108 mL_setWidth := ⟨(wt_3 166 (by decide +kernel) rfl), (wt_3 167 (by decide +kernel) rfl)⟩
set_option maxRecDepth 100000 in
theorem lc_L_113 : LkV "RunFaxesLaw" 113 m10_setWidth := ⟨(wt_5 167 (by decide +kernel) rfl), (wt_5 168 (by decide +kernel) rfl), (wt_5 169 (by decide +kernel) rfl)⟩
set_option maxRecDepth 100000 in
theorem lc_L_114 : LkV "RunFaxesLaw" 114 m10_thrown := ⟨(wt_5 163 (by decide +kernel) rfl), (wt_5 164 (by decide +kernel) rfl), (wt_5 165 (by decide +kernel) rfl)⟩
set_option maxRecDepth 100000 in
theorem lk_L_117 : Jvm.Cond.constantLong "RunFaxesLaw" 117 (Int64.ofInt 4294967295) ∈ WS := (wt_7 106 (by decide +kernel) rfl)
set_option maxRecDepth 100000 in
theorem lc_L_119 : LkS "RunFaxesLaw" 119 mL_addLine := ⟨(wt_4 7 (by decide +kernel) rfl), (wt_4 8 (by decide +kernel) rfl)⟩
set_option maxRecDepth 100000 in
theorem lc_L_122 : LkV "RunFaxesLaw" 122 m10_addLine := ⟨(wt_5 186 (by decide +kernel) rfl), (wt_5 187 (by decide +kernel) rfl), (wt_5 188 (by decide +kernel) rfl)⟩
set_option maxRecDepth 100000 in
theorem lc_L_123 : LkS "RunFaxesLaw" 123 mL_setLine := ⟨(wt_4 48 (by decide +kernel) rfl), (wt_4 49 (by decide +kernel) rfl)⟩
set_option maxRecDepth 100000 in
theorem lc_L_126 : LkV "RunFaxesLaw" 126 m10_setLine := ⟨(wt_5 198 (by decide +kernel) rfl), (wt_5 199 (by decide +kernel) rfl), (wt_5 200 (by decide +kernel) rfl)⟩
set_option maxRecDepth 100000 in
theorem lc_L_127 : LkS "RunFaxesLaw" 127 mL_dropLast := ⟨(wt_4 84 (by decide +kernel) rfl), (wt_4 85 (by decide +kernel) rfl)⟩
set_option maxRecDepth 100000 in
theorem lc_L_130 : LkV "RunFaxesLaw" 130 m10_dropLast := ⟨(wt_5 210 (by decide +kernel) rfl), (wt_5 211 (by decide +kernel) rfl), (wt_5 212 (by decide +kernel) rfl)⟩
set_option maxRecDepth 100000 in
theorem lc_L_131 : LkS "RunFaxesLaw" 131 mL_setStyle := ⟨(wt_4 96 (by decide +kernel) rfl), (wt_4 97 (by decide +kernel) rfl)⟩
set_option maxRecDepth 100000 in
theorem lc_L_133 : LkV "RunFaxesLaw" 133 m10_setStyle := ⟨(wt_5 214 (by decide +kernel) rfl), (wt_5 215 (by decide +kernel) rfl), (wt_5 216 (by decide +kernel) rfl)⟩
set_option maxRecDepth 100000 in
theorem lc_L_134 : LkV "RunFaxesLaw" 134 m9_send := ⟨(wt_2 20 (by decide +kernel) rfl), (wt_2 21 (by decide +kernel) rfl), (wt_2 22 (by decide +kernel) rfl)⟩
set_option maxRecDepth 100000 in
theorem lc_L_137 : LkV "RunFaxesLaw" 137 m10_send := ⟨(wt_5 218 (by decide +kernel) rfl), (wt_5 219 (by decide +kernel) rfl), (wt_5 220 (by decide +kernel) rfl)⟩
set_option maxRecDepth 100000 in
theorem lc_L_138 : LkS "RunFaxesLaw" 138 mL_replace := ⟨(wt_4 104 (by decide +kernel) rfl), (wt_4 105 (by decide +kernel) rfl)⟩
set_option maxRecDepth 100000 in
theorem lc_L_141 : LkV "RunFaxesLaw" 141 m10_replace := ⟨(wt_6 10 (by decide +kernel) rfl), (wt_6 11 (by decide +kernel) rfl), (wt_6 12 (by decide +kernel) rfl)⟩
set_option maxRecDepth 100000 in
theorem lc_L_142 : LkS "RunFaxesLaw" 142 mL_lose := ⟨(wt_4 125 (by decide +kernel) rfl), (wt_4 126 (by decide +kernel) rfl)⟩
set_option maxRecDepth 100000 in
theorem lc_L_144 : LkV "RunFaxesLaw" 144 m10_lose := ⟨(wt_6 25 (by decide +kernel) rfl), (wt_6 26 (by decide +kernel) rfl), (wt_6 27 (by decide +kernel) rfl)⟩
set_option maxRecDepth 100000 in
theorem lc_L_145 : LkS "RunFaxesLaw" 145 mL_gain := ⟨(wt_4 137 (by decide +kernel) rfl), (wt_4 138 (by decide +kernel) rfl)⟩
set_option maxRecDepth 100000 in
theorem lc_L_147 : LkV "RunFaxesLaw" 147 m10_gain := ⟨(wt_6 29 (by decide +kernel) rfl), (wt_6 30 (by decide +kernel) rfl), (wt_6 31 (by decide +kernel) rfl)⟩
set_option maxRecDepth 100000 in
theorem lc_L_148 : LkV "RunFaxesLaw" 148 m9_receive := ⟨(wt_2 140 (by decide +kernel) rfl), (wt_2 141 (by decide +kernel) rfl), (wt_2 142 (by decide +kernel) rfl)⟩
set_option maxRecDepth 100000 in
theorem lc_L_151 : LkV "RunFaxesLaw" 151 m10_receive := ⟨(wt_6 33 (by decide +kernel) rfl), (wt_6 34 (by decide +kernel) rfl), (wt_6 35 (by decide +kernel) rfl)⟩
set_option maxRecDepth 100000 in
theorem lc_L_152 : LkS "RunFaxesLaw" 152 mL_append := ⟨(wt_4 150 (by decide +kernel) rfl), (wt_4 151 (by decide +kernel) rfl)⟩
set_option maxRecDepth 100000 in
theorem lc_L_154 : LkV "RunFaxesLaw" 154 m10_append := ⟨(wt_6 84 (by decide +kernel) rfl), (wt_6 85 (by decide +kernel) rfl), (wt_6 86 (by decide +kernel) rfl)⟩
set_option maxRecDepth 100000 in
theorem lc_L_155 : LkV "RunFaxesLaw" 155 m9_clearBuffer := ⟨(wt_2 212 (by decide +kernel) rfl), (wt_2 213 (by decide +kernel) rfl), (wt_2 214 (by decide +kernel) rfl)⟩
set_option maxRecDepth 100000 in
theorem lc_L_158 : LkV "RunFaxesLaw" 158 m10_clearBuffer := ⟨(wt_6 88 (by decide +kernel) rfl), (wt_6 89 (by decide +kernel) rfl), (wt_6 90 (by decide +kernel) rfl)⟩
set_option maxRecDepth 100000 in
theorem lc_L_159 : LkV "RunFaxesLaw" 159 m9_firstError := ⟨(wt_2 220 (by decide +kernel) rfl), (wt_2 221 (by decide +kernel) rfl), (wt_2 222 (by decide +kernel) rfl)⟩
set_option maxRecDepth 100000 in
theorem lc_L_162 : LkV "RunFaxesLaw" 162 m10_firstError := ⟨(wt_6 92 (by decide +kernel) rfl), (wt_6 93 (by decide +kernel) rfl), (wt_6 94 (by decide +kernel) rfl)⟩
set_option maxRecDepth 100000 in
theorem lc_L_163 : LkS "RunFaxesLaw" 163 mL_play := ⟨(wt_4 167 (by decide +kernel) rfl), (wt_4 168 (by decide +kernel) rfl)⟩
set_option maxRecDepth 100000 in
theorem lc_L_165 : LkV "RunFaxesLaw" 165 m10_play := ⟨(wt_6 120 (by decide +kernel) rfl), (wt_6 121 (by decide +kernel) rfl), (wt_6 122 (by decide +kernel) rfl)⟩
set_option maxRecDepth 100000 in
theorem lc_L_166 : LkV "RunFaxesLaw" 166 m9_hasStopped := ⟨(wt_3 25 (by decide +kernel) rfl), (wt_3 26 (by decide +kernel) rfl), (wt_3 27 (by decide +kernel) rfl)⟩
set_option maxRecDepth 100000 in
theorem lc_L_170 : LkV "RunFaxesLaw" 170 m10_hasStopped := ⟨(wt_6 128 (by decide +kernel) rfl), (wt_6 129 (by decide +kernel) rfl), (wt_6 130 (by decide +kernel) rfl)⟩
set_option maxRecDepth 100000 in
theorem lc_L_171 : LkS "RunFaxesLaw" 171 mL_stoppedPart := ⟨(wt_4 191 (by decide +kernel) rfl), (wt_4 192 (by decide +kernel) rfl)⟩
set_option maxRecDepth 100000 in
theorem lc_L_173 : LkV "RunFaxesLaw" 173 m10_stoppedPart := ⟨(wt_6 132 (by decide +kernel) rfl), (wt_6 133 (by decide +kernel) rfl), (wt_6 134 (by decide +kernel) rfl)⟩
set_option maxRecDepth 100000 in
theorem lc_L_174 : LkS "RunFaxesLaw" 174 mL_undo := ⟨(wt_4 199 (by decide +kernel) rfl), (wt_4 200 (by decide +kernel) rfl)⟩
set_option maxRecDepth 100000 in
theorem lc_L_176 : LkV "RunFaxesLaw" 176 m10_undo := ⟨(wt_6 136 (by decide +kernel) rfl), (wt_6 137 (by decide +kernel) rfl), (wt_6 138 (by decide +kernel) rfl)⟩
set_option maxRecDepth 100000 in
theorem lc_L_177 : LkV "RunFaxesLaw" 177 m9_keep := ⟨(wt_3 29 (by decide +kernel) rfl), (wt_3 30 (by decide +kernel) rfl), (wt_3 31 (by decide +kernel) rfl)⟩
set_option maxRecDepth 100000 in
theorem lc_L_180 : LkV "RunFaxesLaw" 180 m10_keep := ⟨(wt_6 140 (by decide +kernel) rfl), (wt_6 141 (by decide +kernel) rfl), (wt_6 142 (by decide +kernel) rfl)⟩
set_option maxRecDepth 100000 in
theorem lc_L_181 : LkS "RunFaxesLaw" 181 mL_restore := ⟨(wt_4 211 (by decide +kernel) rfl), (wt_4 212 (by decide +kernel) rfl)⟩
set_option maxRecDepth 100000 in
theorem lc_L_183 : LkV "RunFaxesLaw" 183 m10_restore := ⟨(wt_6 144 (by decide +kernel) rfl), (wt_6 145 (by decide +kernel) rfl), (wt_6 146 (by decide +kernel) rfl)⟩
set_option maxRecDepth 100000 in
theorem lc_L_184 : LkV "RunFaxesLaw" 184 m9_savedStates := ⟨(wt_3 34 (by decide +kernel) rfl), (wt_3 35 (by decide +kernel) rfl), (wt_3 36 (by decide +kernel) rfl)⟩
set_option maxRecDepth 100000 in
theorem lc_L_187 : LkV "RunFaxesLaw" 187 m10_savedStates := ⟨(wt_6 148 (by decide +kernel) rfl), (wt_6 149 (by decide +kernel) rfl), (wt_6 150 (by decide +kernel) rfl)⟩
set_option maxRecDepth 100000 in
theorem lc_L_188 : LkV "RunFaxesLaw" 188 m9_width := ⟨(wt_3 38 (by decide +kernel) rfl), (wt_3 39 (by decide +kernel) rfl), (wt_3 40 (by decide +kernel) rfl)⟩
set_option maxRecDepth 100000 in
theorem lc_L_191 : LkV "RunFaxesLaw" 191 m10_width := ⟨(wt_6 152 (by decide +kernel) rfl), (wt_6 153 (by decide +kernel) rfl), (wt_6 154 (by decide +kernel) rfl)⟩
set_option maxRecDepth 100000 in
theorem lc_L_192 : LkV "RunFaxesLaw" 192 m9_lines := ⟨(wt_3 42 (by decide +kernel) rfl), (wt_3 43 (by decide +kernel) rfl), (wt_3 44 (by decide +kernel) rfl)⟩
set_option maxRecDepth 100000 in
theorem lc_L_195 : LkV "RunFaxesLaw" 195 m10_lines := ⟨(wt_6 156 (by decide +kernel) rfl), (wt_6 157 (by decide +kernel) rfl), (wt_6 158 (by decide +kernel) rfl)⟩
set_option maxRecDepth 100000 in
theorem lc_L_196 : LkV "RunFaxesLaw" 196 m9_style := ⟨(wt_3 46 (by decide +kernel) rfl), (wt_3 47 (by decide +kernel) rfl), (wt_3 48 (by decide +kernel) rfl)⟩
set_option maxRecDepth 100000 in
theorem lc_L_199 : LkV "RunFaxesLaw" 199 m10_style := ⟨(wt_6 160 (by decide +kernel) rfl), (wt_6 161 (by decide +kernel) rfl), (wt_6 162 (by decide +kernel) rfl)⟩
set_option maxRecDepth 100000 in
theorem lc_L_200 : LkS "RunFaxesLaw" 200 mL_pixelsOf := ⟨(wt_4 219 (by decide +kernel) rfl), (wt_4 220 (by decide +kernel) rfl)⟩
set_option maxRecDepth 100000 in
theorem lc_L_202 : LkV "RunFaxesLaw" 202 m10_pixelsOf := ⟨(wt_6 164 (by decide +kernel) rfl), (wt_6 165 (by decide +kernel) rfl), (wt_6 166 (by decide +kernel) rfl)⟩
set_option maxRecDepth 100000 in
theorem lc_L_203 : LkS "RunFaxesLaw" 203 mL_isBlack := ⟨(wt_4 226 (by decide +kernel) rfl), (wt_4 227 (by decide +kernel) rfl)⟩
set_option maxRecDepth 100000 in
theorem lc_L_205 : LkV "RunFaxesLaw" 205 m10_isBlack := ⟨(wt_6 168 (by decide +kernel) rfl), (wt_6 169 (by decide +kernel) rfl), (wt_6 170 (by decide +kernel) rfl)⟩
set_option maxRecDepth 100000 in
theorem lc_L_206 : LkS "RunFaxesLaw" 206 mL_runsOf := ⟨(wt_4 234 (by decide +kernel) rfl), (wt_4 235 (by decide +kernel) rfl)⟩
set_option maxRecDepth 100000 in
theorem lc_L_208 : LkV "RunFaxesLaw" 208 m10_runsOf := ⟨(wt_6 172 (by decide +kernel) rfl), (wt_6 173 (by decide +kernel) rfl), (wt_6 174 (by decide +kernel) rfl)⟩
set_option maxRecDepth 100000 in
theorem lc_L_209 : LkS "RunFaxesLaw" 209 mL_longestRun := ⟨(wt_5 1 (by decide +kernel) rfl), (wt_5 2 (by decide +kernel) rfl)⟩
set_option maxRecDepth 100000 in
theorem lc_L_211 : LkV "RunFaxesLaw" 211 m10_longestRun := ⟨(wt_6 180 (by decide +kernel) rfl), (wt_6 181 (by decide +kernel) rfl), (wt_6 182 (by decide +kernel) rfl)⟩
set_option maxRecDepth 100000 in
theorem lc_L_212 : LkV "RunFaxesLaw" 212 m9_blackPixels := ⟨(wt_3 50 (by decide +kernel) rfl), (wt_3 51 (by decide +kernel) rfl), (wt_3 52 (by decide +kernel) rfl)⟩
set_option maxRecDepth 100000 in
theorem lc_L_215 : LkV "RunFaxesLaw" 215 m10_blackPixels := ⟨(wt_6 188 (by decide +kernel) rfl), (wt_6 189 (by decide +kernel) rfl), (wt_6 190 (by decide +kernel) rfl)⟩
set_option maxRecDepth 100000 in
theorem lc_L_216 : LkS "RunFaxesLaw" 216 mL_codeLength := ⟨(wt_5 8 (by decide +kernel) rfl), (wt_5 9 (by decide +kernel) rfl)⟩
set_option maxRecDepth 100000 in
theorem lc_L_218 : LkV "RunFaxesLaw" 218 m10_codeLength := ⟨(wt_6 196 (by decide +kernel) rfl), (wt_6 197 (by decide +kernel) rfl), (wt_6 198 (by decide +kernel) rfl)⟩
set_option maxRecDepth 100000 in
theorem lc_L_219 : LkS "RunFaxesLaw" 219 mL_codeLengthByCounting := ⟨(wt_5 19 (by decide +kernel) rfl), (wt_5 20 (by decide +kernel) rfl)⟩
set_option maxRecDepth 100000 in
theorem lc_L_221 : LkV "RunFaxesLaw" 221 m10_codeLengthByCounting := ⟨(wt_6 207 (by decide +kernel) rfl), (wt_6 208 (by decide +kernel) rfl), (wt_6 209 (by decide +kernel) rfl)⟩
set_option maxRecDepth 100000 in
theorem lc_L_222 : LkS "RunFaxesLaw" 222 mL_modeOf := ⟨(wt_5 26 (by decide +kernel) rfl), (wt_5 27 (by decide +kernel) rfl)⟩
set_option maxRecDepth 100000 in
theorem lc_L_224 : LkV "RunFaxesLaw" 224 m10_modeOf := ⟨(wt_6 211 (by decide +kernel) rfl), (wt_6 212 (by decide +kernel) rfl), (wt_6 213 (by decide +kernel) rfl)⟩
set_option maxRecDepth 100000 in
theorem lc_L_225 : LkS "RunFaxesLaw" 225 mL_checkOf := ⟨(wt_5 33 (by decide +kernel) rfl), (wt_5 34 (by decide +kernel) rfl)⟩
set_option maxRecDepth 100000 in
theorem lc_L_227 : LkV "RunFaxesLaw" 227 m10_checkOf := ⟨(wt_6 215 (by decide +kernel) rfl), (wt_6 216 (by decide +kernel) rfl), (wt_6 217 (by decide +kernel) rfl)⟩
set_option maxRecDepth 100000 in
theorem lc_L_228 : LkV "RunFaxesLaw" 228 m9_wouldSend := ⟨(wt_3 61 (by decide +kernel) rfl), (wt_3 62 (by decide +kernel) rfl), (wt_3 63 (by decide +kernel) rfl)⟩
set_option maxRecDepth 100000 in
theorem lc_L_231 : LkV "RunFaxesLaw" 231 m10_wouldSend := ⟨(wt_6 223 (by decide +kernel) rfl), (wt_6 224 (by decide +kernel) rfl), (wt_6 225 (by decide +kernel) rfl)⟩
set_option maxRecDepth 100000 in
theorem lc_L_232 : LkV "RunFaxesLaw" 232 m9_streamLength := ⟨(wt_3 65 (by decide +kernel) rfl), (wt_3 66 (by decide +kernel) rfl), (wt_3 67 (by decide +kernel) rfl)⟩
set_option maxRecDepth 100000 in
theorem lc_L_235 : LkV "RunFaxesLaw" 235 m10_streamLength := ⟨(wt_6 231 (by decide +kernel) rfl), (wt_6 232 (by decide +kernel) rfl), (wt_6 233 (by decide +kernel) rfl)⟩
set_option maxRecDepth 100000 in
theorem lc_L_236 : LkS "RunFaxesLaw" 236 mL_numberAt := ⟨(wt_5 40 (by decide +kernel) rfl), (wt_5 41 (by decide +kernel) rfl)⟩
set_option maxRecDepth 100000 in
theorem lc_L_238 : LkV "RunFaxesLaw" 238 m10_numberAt := ⟨(wt_6 235 (by decide +kernel) rfl), (wt_6 236 (by decide +kernel) rfl), (wt_6 237 (by decide +kernel) rfl)⟩
set_option maxRecDepth 100000 in
theorem lc_L_239 : LkV "RunFaxesLaw" 239 m9_markers := ⟨(wt_3 69 (by decide +kernel) rfl), (wt_3 70 (by decide +kernel) rfl), (wt_3 71 (by decide +kernel) rfl)⟩
set_option maxRecDepth 100000 in
theorem lc_L_242 : LkV "RunFaxesLaw" 242 m10_markers := ⟨(wt_6 239 (by decide +kernel) rfl), (wt_7 0 (by decide +kernel) rfl), (wt_7 1 (by decide +kernel) rfl)⟩
set_option maxRecDepth 100000 in
theorem lc_L_243 : LkS "RunFaxesLaw" 243 mL_isReceived := ⟨(wt_5 47 (by decide +kernel) rfl), (wt_5 48 (by decide +kernel) rfl)⟩
set_option maxRecDepth 100000 in
theorem lc_L_245 : LkV "RunFaxesLaw" 245 m10_isReceived := ⟨(wt_7 7 (by decide +kernel) rfl), (wt_7 8 (by decide +kernel) rfl), (wt_7 9 (by decide +kernel) rfl)⟩
set_option maxRecDepth 100000 in
theorem lc_L_246 : LkS "RunFaxesLaw" 246 mL_receivedPixels := ⟨(wt_5 58 (by decide +kernel) rfl), (wt_5 59 (by decide +kernel) rfl)⟩
set_option maxRecDepth 100000 in
theorem lc_L_248 : LkV "RunFaxesLaw" 248 m10_receivedPixels := ⟨(wt_7 18 (by decide +kernel) rfl), (wt_7 19 (by decide +kernel) rfl), (wt_7 20 (by decide +kernel) rfl)⟩
set_option maxRecDepth 100000 in
theorem lc_L_249 : LkV "RunFaxesLaw" 249 m9_received := ⟨(wt_3 77 (by decide +kernel) rfl), (wt_3 78 (by decide +kernel) rfl), (wt_3 79 (by decide +kernel) rfl)⟩
set_option maxRecDepth 100000 in
theorem lc_L_252 : LkV "RunFaxesLaw" 252 m10_received := ⟨(wt_7 22 (by decide +kernel) rfl), (wt_7 23 (by decide +kernel) rfl), (wt_7 24 (by decide +kernel) rfl)⟩
set_option maxRecDepth 100000 in
theorem lc_L_253 : LkV "RunFaxesLaw" 253 m9_right := ⟨(wt_3 81 (by decide +kernel) rfl), (wt_3 82 (by decide +kernel) rfl), (wt_3 83 (by decide +kernel) rfl)⟩
set_option maxRecDepth 100000 in
theorem lc_L_256 : LkV "RunFaxesLaw" 256 m10_right := ⟨(wt_7 26 (by decide +kernel) rfl), (wt_7 27 (by decide +kernel) rfl), (wt_7 28 (by decide +kernel) rfl)⟩
set_option maxRecDepth 100000 in
theorem lc_L_257 : LkV "RunFaxesLaw" 257 m9_errors := ⟨(wt_3 91 (by decide +kernel) rfl), (wt_3 92 (by decide +kernel) rfl), (wt_3 93 (by decide +kernel) rfl)⟩
set_option maxRecDepth 100000 in
theorem lc_L_260 : LkV "RunFaxesLaw" 260 m10_errors := ⟨(wt_7 34 (by decide +kernel) rfl), (wt_7 35 (by decide +kernel) rfl), (wt_7 36 (by decide +kernel) rfl)⟩
set_option maxRecDepth 100000 in
theorem lc_L_261 : LkS "RunFaxesLaw" 261 mL_errorPlace := ⟨(wt_5 66 (by decide +kernel) rfl), (wt_5 67 (by decide +kernel) rfl)⟩
set_option maxRecDepth 100000 in
theorem lc_L_263 : LkV "RunFaxesLaw" 263 m10_errorPlace := ⟨(wt_7 38 (by decide +kernel) rfl), (wt_7 39 (by decide +kernel) rfl), (wt_7 40 (by decide +kernel) rfl)⟩
set_option maxRecDepth 100000 in
theorem lc_L_264 : LkS "RunFaxesLaw" 264 mL_errorReason := ⟨(wt_5 79 (by decide +kernel) rfl), (wt_5 80 (by decide +kernel) rfl)⟩
set_option maxRecDepth 100000 in
theorem lc_L_266 : LkV "RunFaxesLaw" 266 m10_errorReason := ⟨(wt_7 46 (by decide +kernel) rfl), (wt_7 47 (by decide +kernel) rfl), (wt_7 48 (by decide +kernel) rfl)⟩
set_option maxRecDepth 100000 in
theorem lc_L_267 : LkV "RunFaxesLaw" 267 m9_wouldReceive := ⟨(wt_3 95 (by decide +kernel) rfl), (wt_3 96 (by decide +kernel) rfl), (wt_3 97 (by decide +kernel) rfl)⟩
set_option maxRecDepth 100000 in
theorem lc_L_270 : LkV "RunFaxesLaw" 270 m10_wouldReceive := ⟨(wt_7 50 (by decide +kernel) rfl), (wt_7 51 (by decide +kernel) rfl), (wt_7 52 (by decide +kernel) rfl)⟩
set_option maxRecDepth 100000 in
theorem lc_L_271 : LkV "RunFaxesLaw" 271 m9_wouldBeRight := ⟨(wt_3 99 (by decide +kernel) rfl), (wt_3 100 (by decide +kernel) rfl), (wt_3 101 (by decide +kernel) rfl)⟩
set_option maxRecDepth 100000 in
theorem lc_L_274 : LkV "RunFaxesLaw" 274 m10_wouldBeRight := ⟨(wt_7 66 (by decide +kernel) rfl), (wt_7 67 (by decide +kernel) rfl), (wt_7 68 (by decide +kernel) rfl)⟩
set_option maxRecDepth 100000 in
theorem lc_L_275 : LkS "RunFaxesLaw" 275 mL_rightIfReplaced := ⟨(wt_5 86 (by decide +kernel) rfl), (wt_5 87 (by decide +kernel) rfl)⟩
set_option maxRecDepth 100000 in
theorem lc_L_277 : LkV "RunFaxesLaw" 277 m10_rightIfReplaced := ⟨(wt_7 74 (by decide +kernel) rfl), (wt_7 75 (by decide +kernel) rfl), (wt_7 76 (by decide +kernel) rfl)⟩
set_option maxRecDepth 100000 in
theorem lc_L_278 : LkV "RunFaxesLaw" 278 m9_codedShare := ⟨(wt_3 103 (by decide +kernel) rfl), (wt_3 104 (by decide +kernel) rfl), (wt_3 105 (by decide +kernel) rfl)⟩
set_option maxRecDepth 100000 in
theorem lc_L_282 : LkV "RunFaxesLaw" 282 m10_codedShare := ⟨(wt_7 78 (by decide +kernel) rfl), (wt_7 79 (by decide +kernel) rfl), (wt_7 80 (by decide +kernel) rfl)⟩
set_option maxRecDepth 100000 in
theorem lc_L_283 : LkV "RunFaxesLaw" 283 m9_digest := ⟨(wt_3 108 (by decide +kernel) rfl), (wt_3 109 (by decide +kernel) rfl), (wt_3 110 (by decide +kernel) rfl)⟩
set_option maxRecDepth 100000 in
theorem lc_L_287 : LkV "RunFaxesLaw" 287 m10_digest := ⟨(wt_7 86 (by decide +kernel) rfl), (wt_7 87 (by decide +kernel) rfl), (wt_7 88 (by decide +kernel) rfl)⟩
