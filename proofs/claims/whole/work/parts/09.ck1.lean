set_option maxRecDepth 100000 in
theorem hk_ch60 : hk_chM 60 = true := by decide +kernel
set_option maxRecDepth 100000 in
theorem hk_ch61 : hk_chM 61 = true := by decide +kernel
set_option maxRecDepth 100000 in
theorem hk_ch62 : hk_chM 62 = true := by decide +kernel
set_option maxRecDepth 100000 in
theorem hk_ch63 : hk_chM 63 = true := by decide +kernel
set_option maxRecDepth 100000 in
theorem hk_ch64 : hk_chM 64 = true := by decide +kernel
set_option maxRecDepth 100000 in
theorem hk_ch65 : hk_chM 65 = true := by decide +kernel
set_option maxRecDepth 100000 in
theorem hk_ch66 : hk_chM 66 = true := by decide +kernel
set_option maxRecDepth 100000 in
theorem hk_ch67 : hk_chM 67 = true := by decide +kernel
set_option maxRecDepth 100000 in
theorem hk_ch68 : hk_chM 68 = true := by decide +kernel
set_option maxRecDepth 100000 in
theorem hk_ch69 : hk_chM 69 = true := by decide +kernel
set_option maxRecDepth 100000 in
theorem hk_ch70 : hk_chM 70 = true := by decide +kernel
set_option maxRecDepth 100000 in
theorem hk_ch71 : hk_chM 71 = true := by decide +kernel
set_option maxRecDepth 100000 in
theorem hk_ch72 : hk_chM 72 = true := by decide +kernel
set_option maxRecDepth 100000 in
theorem hk_ch73 : hk_chM 73 = true := by decide +kernel
set_option maxRecDepth 100000 in
theorem hk_ch74 : hk_chM 74 = true := by decide +kernel
set_option maxRecDepth 100000 in
theorem hk_ch75 : hk_chM 75 = true := by decide +kernel
set_option maxRecDepth 100000 in
theorem hk_ch76 : hk_chM 76 = true := by decide +kernel
set_option maxRecDepth 100000 in
theorem hk_ch77 : hk_chM 77 = true := by decide +kernel
set_option maxRecDepth 100000 in
theorem hk_ch78 : hk_chM 78 = true := by decide +kernel
set_option maxRecDepth 100000 in
theorem hk_ch79 : hk_chM 79 = true := by decide +kernel
set_option maxRecDepth 100000 in
theorem hk_ch80 : hk_chM 80 = true := by decide +kernel
set_option maxRecDepth 100000 in
theorem hk_ch81 : hk_chM 81 = true := by decide +kernel
set_option maxRecDepth 100000 in
theorem hk_ch82 : hk_chM 82 = true := by decide +kernel
set_option maxRecDepth 100000 in
theorem hk_ch83 : hk_chM 83 = true := by decide +kernel
set_option maxRecDepth 100000 in
theorem hk_ch84 : hk_chM 84 = true := by decide +kernel
set_option maxRecDepth 100000 in
theorem hk_ch85 : hk_chM 85 = true := by decide +kernel
set_option maxRecDepth 100000 in
theorem hk_ch86 : hk_chM 86 = true := by decide +kernel
set_option maxRecDepth 100000 in
theorem hk_ch87 : hk_chM 87 = true := by decide +kernel
set_option maxRecDepth 100000 in
theorem hk_ch88 : hk_chM 88 = true := by decide +kernel
set_option maxRecDepth 100000 in
theorem hk_ch89 : hk_chM 89 = true := by decide +kernel
set_option maxRecDepth 100000 in
theorem hk_ch90 : hk_chM 90 = true := by decide +kernel
set_option maxRecDepth 100000 in
theorem hk_ch91 : hk_chM 91 = true := by decide +kernel
set_option maxRecDepth 100000 in
theorem hk_ch92 : hk_chM 92 = true := by decide +kernel
set_option maxRecDepth 100000 in
theorem hk_ch93 : hk_chM 93 = true := by decide +kernel
set_option maxRecDepth 100000 in
theorem hk_ch94 : hk_chM 94 = true := by decide +kernel
set_option maxRecDepth 100000 in
theorem hk_ch95 : hk_chM 95 = true := by decide +kernel
set_option maxRecDepth 100000 in
theorem hk_ch96 : hk_chM 96 = true := by decide +kernel
set_option maxRecDepth 100000 in
theorem hk_ch97 : hk_chM 97 = true := by decide +kernel
set_option maxRecDepth 100000 in
theorem hk_ch98 : hk_chM 98 = true := by decide +kernel
set_option maxRecDepth 100000 in
theorem hk_ch99 : hk_chM 99 = true := by decide +kernel
set_option maxRecDepth 100000 in
theorem hk_ch100 : hk_chM 100 = true := by decide +kernel
set_option maxRecDepth 100000 in
theorem hk_ch101 : hk_chM 101 = true := by decide +kernel
set_option maxRecDepth 100000 in
theorem hk_ch102 : hk_chM 102 = true := by decide +kernel
set_option maxRecDepth 100000 in
theorem hk_ch103 : hk_chM 103 = true := by decide +kernel
set_option maxRecDepth 100000 in
theorem hk_ch104 : hk_chM 104 = true := by decide +kernel
set_option maxRecDepth 100000 in
theorem hk_ch105 : hk_chM 105 = true := by decide +kernel
set_option maxRecDepth 100000 in
theorem hk_ch106 : hk_chM 106 = true := by decide +kernel
set_option maxRecDepth 100000 in
theorem hk_ch107 : hk_chM 107 = true := by decide +kernel
set_option maxRecDepth 100000 in
theorem hk_ch108 : hk_chM 108 = true := by decide +kernel
set_option maxRecDepth 100000 in
theorem hk_ch109 : hk_chM 109 = true := by decide +kernel
set_option maxRecDepth 100000 in
theorem hk_ch110 : hk_chM 110 = true := by decide +kernel
set_option maxRecDepth 100000 in
theorem hk_ch111 : hk_chM 111 = true := by decide +kernel
set_option maxRecDepth 100000 in
theorem hk_ch112 : hk_chM 112 = true := by decide +kernel
set_option maxRecDepth 100000 in
theorem hk_ch113 : hk_chM 113 = true := by decide +kernel
set_option maxRecDepth 100000 in
theorem hk_ch114 : hk_chM 114 = true := by decide +kernel
set_option maxRecDepth 100000 in
theorem hk_ch115 : hk_chM 115 = true := by decide +kernel
set_option maxRecDepth 100000 in
theorem hk_ch116 : hk_chM 116 = true := by decide +kernel
set_option maxRecDepth 100000 in
theorem hk_ch117 : hk_chM 117 = true := by decide +kernel
set_option maxRecDepth 100000 in
theorem hk_ch118 : hk_chM 118 = true := by decide +kernel
set_option maxRecDepth 100000 in
theorem hk_ch119 : hk_chM 119 = true := by decide +kernel
