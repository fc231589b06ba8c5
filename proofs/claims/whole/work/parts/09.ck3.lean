set_option maxRecDepth 100000 in
theorem hk_ch180 : hk_chM 180 = true := by decide +kernel
set_option maxRecDepth 100000 in
theorem hk_ch181 : hk_chM 181 = true := by decide +kernel
set_option maxRecDepth 100000 in
theorem hk_ch182 : hk_chM 182 = true := by decide +kernel
set_option maxRecDepth 100000 in
theorem hk_ch183 : hk_chM 183 = true := by decide +kernel
set_option maxRecDepth 100000 in
theorem hk_ch184 : hk_chM 184 = true := by decide +kernel
set_option maxRecDepth 100000 in
theorem hk_ch185 : hk_chM 185 = true := by decide +kernel
set_option maxRecDepth 100000 in
theorem hk_ch186 : hk_chM 186 = true := by decide +kernel
set_option maxRecDepth 100000 in
theorem hk_ch187 : hk_chM 187 = true := by decide +kernel
set_option maxRecDepth 100000 in
theorem hk_ch188 : hk_chM 188 = true := by decide +kernel
set_option maxRecDepth 100000 in
theorem hk_ch189 : hk_chM 189 = true := by decide +kernel
set_option maxRecDepth 100000 in
theorem hk_ch190 : hk_chM 190 = true := by decide +kernel
set_option maxRecDepth 100000 in
theorem hk_ch191 : hk_chM 191 = true := by decide +kernel
set_option maxRecDepth 100000 in
theorem hk_ch192 : hk_chM 192 = true := by decide +kernel
set_option maxRecDepth 100000 in
theorem hk_ch193 : hk_chM 193 = true := by decide +kernel
set_option maxRecDepth 100000 in
theorem hk_ch194 : hk_chM 194 = true := by decide +kernel
set_option maxRecDepth 100000 in
theorem hk_ch195 : hk_chM 195 = true := by decide +kernel
set_option maxRecDepth 100000 in
theorem hk_ch196 : hk_chM 196 = true := by decide +kernel
set_option maxRecDepth 100000 in
theorem hk_ch197 : hk_chM 197 = true := by decide +kernel
set_option maxRecDepth 100000 in
theorem hk_ch198 : hk_chM 198 = true := by decide +kernel
set_option maxRecDepth 100000 in
theorem hk_ch199 : hk_chM 199 = true := by decide +kernel
set_option maxRecDepth 100000 in
theorem hk_ch200 : hk_chM 200 = true := by decide +kernel
set_option maxRecDepth 100000 in
theorem hk_ch201 : hk_chM 201 = true := by decide +kernel
set_option maxRecDepth 100000 in
theorem hk_ch202 : hk_chM 202 = true := by decide +kernel
set_option maxRecDepth 100000 in
theorem hk_ch203 : hk_chM 203 = true := by decide +kernel
set_option maxRecDepth 100000 in
theorem hk_ch204 : hk_chM 204 = true := by decide +kernel
set_option maxRecDepth 100000 in
theorem hk_ch205 : hk_chM 205 = true := by decide +kernel
set_option maxRecDepth 100000 in
theorem hk_ch206 : hk_chM 206 = true := by decide +kernel
set_option maxRecDepth 100000 in
theorem hk_ch207 : hk_chM 207 = true := by decide +kernel
set_option maxRecDepth 100000 in
theorem hk_ch208 : hk_chM 208 = true := by decide +kernel
set_option maxRecDepth 100000 in
theorem hk_ch209 : hk_chM 209 = true := by decide +kernel
set_option maxRecDepth 100000 in
theorem hk_ch210 : hk_chM 210 = true := by decide +kernel
set_option maxRecDepth 100000 in
theorem hk_ch211 : hk_chM 211 = true := by decide +kernel
set_option maxRecDepth 100000 in
theorem hk_ch212 : hk_chM 212 = true := by decide +kernel
set_option maxRecDepth 100000 in
theorem hk_ch213 : hk_chM 213 = true := by decide +kernel
set_option maxRecDepth 100000 in
theorem hk_ch214 : hk_chM 214 = true := by decide +kernel
set_option maxRecDepth 100000 in
theorem hk_ch215 : hk_chM 215 = true := by decide +kernel
set_option maxRecDepth 100000 in
theorem hk_ch216 : hk_chM 216 = true := by decide +kernel
set_option maxRecDepth 100000 in
theorem hk_ch217 : hk_chM 217 = true := by decide +kernel
set_option maxRecDepth 100000 in
theorem hk_ch218 : hk_chM 218 = true := by decide +kernel
set_option maxRecDepth 100000 in
theorem hk_ch219 : hk_chM 219 = true := by decide +kernel
set_option maxRecDepth 100000 in
theorem hk_ch220 : hk_chM 220 = true := by decide +kernel
set_option maxRecDepth 100000 in
theorem hk_ch221 : hk_chM 221 = true := by decide +kernel
set_option maxRecDepth 100000 in
theorem hk_ch222 : hk_chM 222 = true := by decide +kernel
set_option maxRecDepth 100000 in
theorem hk_ch223 : hk_chM 223 = true := by decide +kernel
set_option maxRecDepth 100000 in
theorem hk_ch224 : hk_chM 224 = true := by decide +kernel
set_option maxRecDepth 100000 in
theorem hk_ch225 : hk_chM 225 = true := by decide +kernel
set_option maxRecDepth 100000 in
theorem hk_ch226 : hk_chM 226 = true := by decide +kernel
set_option maxRecDepth 100000 in
theorem hk_ch227 : hk_chM 227 = true := by decide +kernel
set_option maxRecDepth 100000 in
theorem hk_ch228 : hk_chM 228 = true := by decide +kernel
set_option maxRecDepth 100000 in
theorem hk_ch229 : hk_chM 229 = true := by decide +kernel
set_option maxRecDepth 100000 in
theorem hk_ch230 : hk_chM 230 = true := by decide +kernel
set_option maxRecDepth 100000 in
theorem hk_ch231 : hk_chM 231 = true := by decide +kernel
set_option maxRecDepth 100000 in
theorem hk_ch232 : hk_chM 232 = true := by decide +kernel
set_option maxRecDepth 100000 in
theorem hk_ch233 : hk_chM 233 = true := by decide +kernel
set_option maxRecDepth 100000 in
theorem hk_ch234 : hk_chM 234 = true := by decide +kernel
set_option maxRecDepth 100000 in
theorem hk_ch235 : hk_chM 235 = true := by decide +kernel
