set_option maxRecDepth 100000 in
theorem hk_ch120 : hk_chM 120 = true := by decide +kernel
set_option maxRecDepth 100000 in
theorem hk_ch121 : hk_chM 121 = true := by decide +kernel
set_option maxRecDepth 100000 in
theorem hk_ch122 : hk_chM 122 = true := by decide +kernel
set_option maxRecDepth 100000 in
theorem hk_ch123 : hk_chM 123 = true := by decide +kernel
set_option maxRecDepth 100000 in
theorem hk_ch124 : hk_chM 124 = true := by decide +kernel
set_option maxRecDepth 100000 in
theorem hk_ch125 : hk_chM 125 = true := by decide +kernel
set_option maxRecDepth 100000 in
theorem hk_ch126 : hk_chM 126 = true := by decide +kernel
set_option maxRecDepth 100000 in
theorem hk_ch127 : hk_chM 127 = true := by decide +kernel
set_option maxRecDepth 100000 in
theorem hk_ch128 : hk_chM 128 = true := by decide +kernel
set_option maxRecDepth 100000 in
theorem hk_ch129 : hk_chM 129 = true := by decide +kernel
set_option maxRecDepth 100000 in
theorem hk_ch130 : hk_chM 130 = true := by decide +kernel
set_option maxRecDepth 100000 in
theorem hk_ch131 : hk_chM 131 = true := by decide +kernel
set_option maxRecDepth 100000 in
theorem hk_ch132 : hk_chM 132 = true := by decide +kernel
set_option maxRecDepth 100000 in
theorem hk_ch133 : hk_chM 133 = true := by decide +kernel
set_option maxRecDepth 100000 in
theorem hk_ch134 : hk_chM 134 = true := by decide +kernel
set_option maxRecDepth 100000 in
theorem hk_ch135 : hk_chM 135 = true := by decide +kernel
set_option maxRecDepth 100000 in
theorem hk_ch136 : hk_chM 136 = true := by decide +kernel
set_option maxRecDepth 100000 in
theorem hk_ch137 : hk_chM 137 = true := by decide +kernel
set_option maxRecDepth 100000 in
theorem hk_ch138 : hk_chM 138 = true := by decide +kernel
set_option maxRecDepth 100000 in
theorem hk_ch139 : hk_chM 139 = true := by decide +kernel
set_option maxRecDepth 100000 in
theorem hk_ch140 : hk_chM 140 = true := by decide +kernel
set_option maxRecDepth 100000 in
theorem hk_ch141 : hk_chM 141 = true := by decide +kernel
set_option maxRecDepth 100000 in
theorem hk_ch142 : hk_chM 142 = true := by decide +kernel
set_option maxRecDepth 100000 in
theorem hk_ch143 : hk_chM 143 = true := by decide +kernel
set_option maxRecDepth 100000 in
theorem hk_ch144 : hk_chM 144 = true := by decide +kernel
set_option maxRecDepth 100000 in
theorem hk_ch145 : hk_chM 145 = true := by decide +kernel
set_option maxRecDepth 100000 in
theorem hk_ch146 : hk_chM 146 = true := by decide +kernel
set_option maxRecDepth 100000 in
theorem hk_ch147 : hk_chM 147 = true := by decide +kernel
set_option maxRecDepth 100000 in
theorem hk_ch148 : hk_chM 148 = true := by decide +kernel
set_option maxRecDepth 100000 in
theorem hk_ch149 : hk_chM 149 = true := by decide +kernel
set_option maxRecDepth 100000 in
theorem hk_ch150 : hk_chM 150 = true := by decide +kernel
set_option maxRecDepth 100000 in
theorem hk_ch151 : hk_chM 151 = true := by decide +kernel
set_option maxRecDepth 100000 in
theorem hk_ch152 : hk_chM 152 = true := by decide +kernel
set_option maxRecDepth 100000 in
theorem hk_ch153 : hk_chM 153 = true := by decide +kernel
set_option maxRecDepth 100000 in
theorem hk_ch154 : hk_chM 154 = true := by decide +kernel
set_option maxRecDepth 100000 in
theorem hk_ch155 : hk_chM 155 = true := by decide +kernel
set_option maxRecDepth 100000 in
theorem hk_ch156 : hk_chM 156 = true := by decide +kernel
set_option maxRecDepth 100000 in
theorem hk_ch157 : hk_chM 157 = true := by decide +kernel
set_option maxRecDepth 100000 in
theorem hk_ch158 : hk_chM 158 = true := by decide +kernel
set_option maxRecDepth 100000 in
theorem hk_ch159 : hk_chM 159 = true := by decide +kernel
set_option maxRecDepth 100000 in
theorem hk_ch160 : hk_chM 160 = true := by decide +kernel
set_option maxRecDepth 100000 in
theorem hk_ch161 : hk_chM 161 = true := by decide +kernel
set_option maxRecDepth 100000 in
theorem hk_ch162 : hk_chM 162 = true := by decide +kernel
set_option maxRecDepth 100000 in
theorem hk_ch163 : hk_chM 163 = true := by decide +kernel
set_option maxRecDepth 100000 in
theorem hk_ch164 : hk_chM 164 = true := by decide +kernel
set_option maxRecDepth 100000 in
theorem hk_ch165 : hk_chM 165 = true := by decide +kernel
set_option maxRecDepth 100000 in
theorem hk_ch166 : hk_chM 166 = true := by decide +kernel
set_option maxRecDepth 100000 in
theorem hk_ch167 : hk_chM 167 = true := by decide +kernel
set_option maxRecDepth 100000 in
theorem hk_ch168 : hk_chM 168 = true := by decide +kernel
set_option maxRecDepth 100000 in
theorem hk_ch169 : hk_chM 169 = true := by decide +kernel
set_option maxRecDepth 100000 in
theorem hk_ch170 : hk_chM 170 = true := by decide +kernel
set_option maxRecDepth 100000 in
theorem hk_ch171 : hk_chM 171 = true := by decide +kernel
set_option maxRecDepth 100000 in
theorem hk_ch172 : hk_chM 172 = true := by decide +kernel
set_option maxRecDepth 100000 in
theorem hk_ch173 : hk_chM 173 = true := by decide +kernel
set_option maxRecDepth 100000 in
theorem hk_ch174 : hk_chM 174 = true := by decide +kernel
set_option maxRecDepth 100000 in
theorem hk_ch175 : hk_chM 175 = true := by decide +kernel
set_option maxRecDepth 100000 in
theorem hk_ch176 : hk_chM 176 = true := by decide +kernel
set_option maxRecDepth 100000 in
theorem hk_ch177 : hk_chM 177 = true := by decide +kernel
set_option maxRecDepth 100000 in
theorem hk_ch178 : hk_chM 178 = true := by decide +kernel
set_option maxRecDepth 100000 in
theorem hk_ch179 : hk_chM 179 = true := by decide +kernel
