/-! every instruction is what the bytes say -/
set_option maxRecDepth 100000 in
theorem xdc_0 : [0, 1, 2, 3, 4, 5, 6, 7, 8, 9, 10, 11, 12, 13, 14, 15, 16, 17].all (fun mi => (List.range (xbd mi)).all (xchk mi)) = true := by decide +kernel
set_option maxRecDepth 100000 in
theorem xdc_1 : [18, 19, 20, 21, 22, 23, 24, 25, 26, 27, 28, 29, 30, 31].all (fun mi => (List.range (xbd mi)).all (xchk mi)) = true := by decide +kernel
set_option maxRecDepth 100000 in
theorem xdc_2 : [32, 33, 34, 35, 36, 37, 38, 39, 40, 41, 42, 43, 44, 45, 46, 47].all (fun mi => (List.range (xbd mi)).all (xchk mi)) = true := by decide +kernel
set_option maxRecDepth 100000 in
theorem xdc_3 : [48, 49, 50, 51, 52, 53, 54, 55, 56, 57, 58, 59, 60, 61, 62, 63, 64, 65, 66, 67, 68, 69, 70, 71, 72, 73].all (fun mi => (List.range (xbd mi)).all (xchk mi)) = true := by decide +kernel
set_option maxRecDepth 100000 in
theorem xdc_4 : [74, 75, 76, 77, 78, 79, 80, 81, 82, 83, 84, 85, 86, 87, 88, 89, 90].all (fun mi => (List.range (xbd mi)).all (xchk mi)) = true := by decide +kernel
set_option maxRecDepth 100000 in
theorem xdc_5 : [91, 92, 93, 94, 95, 96, 97, 98, 99, 100, 101, 102, 103, 104, 105, 106, 107, 108, 109].all (fun mi => (List.range (xbd mi)).all (xchk mi)) = true := by decide +kernel
set_option maxRecDepth 100000 in
theorem xdc_6 : [110, 111, 112, 113, 114, 115, 116, 117, 118, 119].all (fun mi => (List.range (xbd mi)).all (xchk mi)) = true := by decide +kernel
set_option maxRecDepth 100000 in
theorem xdc_7 : [120, 121, 122, 123, 124, 125, 126, 127, 128, 129, 130, 131].all (fun mi => (List.range (xbd mi)).all (xchk mi)) = true := by decide +kernel
set_option maxRecDepth 100000 in
theorem xdc_8 : [132, 133, 134, 135, 136, 137, 138, 139, 140, 141].all (fun mi => (List.range (xbd mi)).all (xchk mi)) = true := by decide +kernel
set_option maxRecDepth 100000 in
theorem xdc_9 : [142, 143, 144, 145, 146, 147, 148, 149, 150, 151, 152, 153, 154, 155].all (fun mi => (List.range (xbd mi)).all (xchk mi)) = true := by decide +kernel
set_option maxRecDepth 100000 in
theorem xdc_10 : [156, 157, 158, 159, 160, 161, 162, 163, 164].all (fun mi => (List.range (xbd mi)).all (xchk mi)) = true := by decide +kernel
