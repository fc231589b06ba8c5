set_option maxRecDepth 100000 in
theorem hk_ch0 : hk_chM 0 = true := by decide +kernel
set_option maxRecDepth 100000 in
theorem hk_ch1 : hk_chM 1 = true := by decide +kernel
set_option maxRecDepth 100000 in
theorem hk_ch2 : hk_chM 2 = true := by decide +kernel
set_option maxRecDepth 100000 in
theorem hk_ch3 : hk_chM 3 = true := by decide +kernel
set_option maxRecDepth 100000 in
theorem hk_ch4 : hk_chM 4 = true := by decide +kernel
set_option maxRecDepth 100000 in
theorem hk_ch5 : hk_chM 5 = true := by decide +kernel
set_option maxRecDepth 100000 in
theorem hk_ch6 : hk_chM 6 = true := by decide +kernel
set_option maxRecDepth 100000 in
theorem hk_ch7 : hk_chM 7 = true := by decide +kernel
set_option maxRecDepth 100000 in
theorem hk_ch8 : hk_chM 8 = true := by decide +kernel
set_option maxRecDepth 100000 in
theorem hk_ch9 : hk_chM 9 = true := by decide +kernel
set_option maxRecDepth 100000 in
theorem hk_ch10 : hk_chM 10 = true := by decide +kernel
set_option maxRecDepth 100000 in
theorem hk_ch11 : hk_chM 11 = true := by decide +kernel
set_option maxRecDepth 100000 in
theorem hk_ch12 : hk_chM 12 = true := by decide +kernel
set_option maxRecDepth 100000 in
theorem hk_ch13 : hk_chM 13 = true := by decide +kernel
set_option maxRecDepth 100000 in
theorem hk_ch14 : hk_chM 14 = true := by decide +kernel
set_option maxRecDepth 100000 in
theorem hk_ch15 : hk_chM 15 = true := by decide +kernel
set_option maxRecDepth 100000 in
theorem hk_ch16 : hk_chM 16 = true := by decide +kernel
set_option maxRecDepth 100000 in
theorem hk_ch17 : hk_chM 17 = true := by decide +kernel
set_option maxRecDepth 100000 in
theorem hk_ch18 : hk_chM 18 = true := by decide +kernel
set_option maxRecDepth 100000 in
theorem hk_ch19 : hk_chM 19 = true := by decide +kernel
set_option maxRecDepth 100000 in
theorem hk_ch20 : hk_chM 20 = true := by decide +kernel
set_option maxRecDepth 100000 in
theorem hk_ch21 : hk_chM 21 = true := by decide +kernel
set_option maxRecDepth 100000 in
theorem hk_ch22 : hk_chM 22 = true := by decide +kernel
set_option maxRecDepth 100000 in
theorem hk_ch23 : hk_chM 23 = true := by decide +kernel
set_option maxRecDepth 100000 in
theorem hk_ch24 : hk_chM 24 = true := by decide +kernel
set_option maxRecDepth 100000 in
theorem hk_ch25 : hk_chM 25 = true := by decide +kernel
set_option maxRecDepth 100000 in
theorem hk_ch26 : hk_chM 26 = true := by decide +kernel
set_option maxRecDepth 100000 in
theorem hk_ch27 : hk_chM 27 = true := by decide +kernel
set_option maxRecDepth 100000 in
theorem hk_ch28 : hk_chM 28 = true := by decide +kernel
set_option maxRecDepth 100000 in
theorem hk_ch29 : hk_chM 29 = true := by decide +kernel
set_option maxRecDepth 100000 in
theorem hk_ch30 : hk_chM 30 = true := by decide +kernel
set_option maxRecDepth 100000 in
theorem hk_ch31 : hk_chM 31 = true := by decide +kernel
set_option maxRecDepth 100000 in
theorem hk_ch32 : hk_chM 32 = true := by decide +kernel
set_option maxRecDepth 100000 in
theorem hk_ch33 : hk_chM 33 = true := by decide +kernel
set_option maxRecDepth 100000 in
theorem hk_ch34 : hk_chM 34 = true := by decide +kernel
set_option maxRecDepth 100000 in
theorem hk_ch35 : hk_chM 35 = true := by decide +kernel
set_option maxRecDepth 100000 in
theorem hk_ch36 : hk_chM 36 = true := by decide +kernel
set_option maxRecDepth 100000 in
theorem hk_ch37 : hk_chM 37 = true := by decide +kernel
set_option maxRecDepth 100000 in
theorem hk_ch38 : hk_chM 38 = true := by decide +kernel
set_option maxRecDepth 100000 in
theorem hk_ch39 : hk_chM 39 = true := by decide +kernel
set_option maxRecDepth 100000 in
theorem hk_ch40 : hk_chM 40 = true := by decide +kernel
set_option maxRecDepth 100000 in
theorem hk_ch41 : hk_chM 41 = true := by decide +kernel
set_option maxRecDepth 100000 in
theorem hk_ch42 : hk_chM 42 = true := by decide +kernel
set_option maxRecDepth 100000 in
theorem hk_ch43 : hk_chM 43 = true := by decide +kernel
set_option maxRecDepth 100000 in
theorem hk_ch44 : hk_chM 44 = true := by decide +kernel
set_option maxRecDepth 100000 in
theorem hk_ch45 : hk_chM 45 = true := by decide +kernel
set_option maxRecDepth 100000 in
theorem hk_ch46 : hk_chM 46 = true := by decide +kernel
set_option maxRecDepth 100000 in
theorem hk_ch47 : hk_chM 47 = true := by decide +kernel
set_option maxRecDepth 100000 in
theorem hk_ch48 : hk_chM 48 = true := by decide +kernel
set_option maxRecDepth 100000 in
theorem hk_ch49 : hk_chM 49 = true := by decide +kernel
set_option maxRecDepth 100000 in
theorem hk_ch50 : hk_chM 50 = true := by decide +kernel
set_option maxRecDepth 100000 in
theorem hk_ch51 : hk_chM 51 = true := by decide +kernel
set_option maxRecDepth 100000 in
theorem hk_ch52 : hk_chM 52 = true := by decide +kernel
set_option maxRecDepth 100000 in
theorem hk_ch53 : hk_chM 53 = true := by decide +kernel
set_option maxRecDepth 100000 in
theorem hk_ch54 : hk_chM 54 = true := by decide +kernel
set_option maxRecDepth 100000 in
theorem hk_ch55 : hk_chM 55 = true := by decide +kernel
set_option maxRecDepth 100000 in
theorem hk_ch56 : hk_chM 56 = true := by decide +kernel
set_option maxRecDepth 100000 in
theorem hk_ch57 : hk_chM 57 = true := by decide +kernel
set_option maxRecDepth 100000 in
theorem hk_ch58 : hk_chM 58 = true := by decide +kernel
set_option maxRecDepth 100000 in
theorem hk_ch59 : hk_chM 59 = true := by decide +kernel
