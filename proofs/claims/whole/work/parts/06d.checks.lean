theorem zlt0 : zat (zst 176) 176 (zst 176 0) (blk 176 0) = true := by decide +kernel
theorem zlt1 : zat (zst 176) 176 (zst 176 1) (blk 176 1) = true := by decide +kernel
theorem zlt2 : zat (zst 176) 176 (zst 176 2) (blk 176 2) = true := by decide +kernel
theorem zlt3 : zat (zst 176) 176 (zst 176 3) (blk 176 3) = true := by decide +kernel
theorem zlt4 : zat (zst 176) 176 (zst 176 4) (blk 176 4) = true := by decide +kernel
theorem zlt5 : zat (zst 176) 176 (zst 176 5) (blk 176 5) = true := by decide +kernel
theorem zlt6 : zat (zst 176) 176 (zst 176 6) (blk 176 6) = true := by decide +kernel
theorem zlt7 : zat (zst 176) 176 (zst 176 7) (blk 176 7) = true := by decide +kernel
theorem zlt8 : zat (zst 176) 176 (zst 176 8) (blk 176 8) = true := by decide +kernel
theorem zlt9 : zat (zst 176) 176 (zst 176 9) (blk 176 9) = true := by decide +kernel
theorem zlt10 : zat (zst 176) 176 (zst 176 10) (blk 176 10) = true := by decide +kernel
theorem zlt11 : zat (zst 176) 176 (zst 176 11) (blk 176 11) = true := by decide +kernel
theorem zlt12 : zat (zst 176) 176 (zst 176 12) (blk 176 12) = true := by decide +kernel
theorem zlt13 : zat (zst 176) 176 (zst 176 13) (blk 176 13) = true := by decide +kernel
theorem zlt14 : zat (zst 176) 176 (zst 176 14) (blk 176 14) = true := by decide +kernel
theorem zlt15 : zat (zst 176) 176 (zst 176 15) (blk 176 15) = true := by decide +kernel
theorem zlt16 : zat (zst 176) 176 (zst 176 16) (blk 176 16) = true := by decide +kernel
theorem zlt17 : zat (zst 176) 176 (zst 176 17) (blk 176 17) = true := by decide +kernel
theorem zlt18 : zat (zst 176) 176 (zst 176 18) (blk 176 18) = true := by decide +kernel
theorem zlt19 : zat (zst 176) 176 (zst 176 19) (blk 176 19) = true := by decide +kernel
theorem zlt20 : zat (zst 176) 176 (zst 176 20) (blk 176 20) = true := by decide +kernel
theorem zlt21 : zat (zst 176) 176 (zst 176 21) (blk 176 21) = true := by decide +kernel
theorem zlt22 : zat (zst 176) 176 (zst 176 22) (blk 176 22) = true := by decide +kernel
theorem zlt23 : zat (zst 176) 176 (zst 176 23) (blk 176 23) = true := by decide +kernel
theorem zlt24 : zat (zst 176) 176 (zst 176 24) (blk 176 24) = true := by decide +kernel
theorem zlt25 : zat (zst 176) 176 (zst 176 25) (blk 176 25) = true := by decide +kernel
theorem zlt26 : zat (zst 176) 176 (zst 176 26) (blk 176 26) = true := by decide +kernel
theorem zlt27 : zat (zst 176) 176 (zst 176 27) (blk 176 27) = true := by decide +kernel
theorem zlt28 : zat (zst 176) 176 (zst 176 28) (blk 176 28) = true := by decide +kernel
theorem zlt29 : zat (zst 176) 176 (zst 176 29) (blk 176 29) = true := by decide +kernel
theorem zlt30 : zat (zst 176) 176 (zst 176 30) (blk 176 30) = true := by decide +kernel
theorem zlt31 : zat (zst 176) 176 (zst 176 31) (blk 176 31) = true := by decide +kernel
theorem zlt32 : zat (zst 176) 176 (zst 176 32) (blk 176 32) = true := by decide +kernel
theorem zlt33 : zat (zst 176) 176 (zst 176 33) (blk 176 33) = true := by decide +kernel
theorem zlt34 : zat (zst 176) 176 (zst 176 34) (blk 176 34) = true := by decide +kernel
theorem zlt35 : zat (zst 176) 176 (zst 176 35) (blk 176 35) = true := by decide +kernel
theorem zlt36 : zat (zst 176) 176 (zst 176 36) (blk 176 36) = true := by decide +kernel
theorem zlt37 : zat (zst 176) 176 (zst 176 37) (blk 176 37) = true := by decide +kernel
theorem zlt38 : zat (zst 176) 176 (zst 176 38) (blk 176 38) = true := by decide +kernel
theorem zlt39 : zat (zst 176) 176 (zst 176 39) (blk 176 39) = true := by decide +kernel
theorem zlt40 : zat (zst 176) 176 (zst 176 40) (blk 176 40) = true := by decide +kernel
theorem zlt41 : zat (zst 176) 176 (zst 176 41) (blk 176 41) = true := by decide +kernel
theorem zlt42 : zat (zst 176) 176 (zst 176 42) (blk 176 42) = true := by decide +kernel
theorem zlt43 : zat (zst 176) 176 (zst 176 43) (blk 176 43) = true := by decide +kernel
theorem zlt44 : zat (zst 176) 176 (zst 176 44) (blk 176 44) = true := by decide +kernel
theorem zlt45 : zat (zst 176) 176 (zst 176 45) (blk 176 45) = true := by decide +kernel
theorem zlt46 : zat (zst 176) 176 (zst 176 46) (blk 176 46) = true := by decide +kernel
theorem zlt47 : zat (zst 176) 176 (zst 176 47) (blk 176 47) = true := by decide +kernel
theorem zlt48 : zat (zst 176) 176 (zst 176 48) (blk 176 48) = true := by decide +kernel
theorem zlt49 : zat (zst 176) 176 (zst 176 49) (blk 176 49) = true := by decide +kernel
theorem zmt176 : zmt 176 = true := List.all_eq_true.mpr fun t ht => by
  have h : t < 50 := List.mem_range.mp ht
  match t, h with
  | 0, _ => exact zlt0
  | 1, _ => exact zlt1
  | 2, _ => exact zlt2
  | 3, _ => exact zlt3
  | 4, _ => exact zlt4
  | 5, _ => exact zlt5
  | 6, _ => exact zlt6
  | 7, _ => exact zlt7
  | 8, _ => exact zlt8
  | 9, _ => exact zlt9
  | 10, _ => exact zlt10
  | 11, _ => exact zlt11
  | 12, _ => exact zlt12
  | 13, _ => exact zlt13
  | 14, _ => exact zlt14
  | 15, _ => exact zlt15
  | 16, _ => exact zlt16
  | 17, _ => exact zlt17
  | 18, _ => exact zlt18
  | 19, _ => exact zlt19
  | 20, _ => exact zlt20
  | 21, _ => exact zlt21
  | 22, _ => exact zlt22
  | 23, _ => exact zlt23
  | 24, _ => exact zlt24
  | 25, _ => exact zlt25
  | 26, _ => exact zlt26
  | 27, _ => exact zlt27
  | 28, _ => exact zlt28
  | 29, _ => exact zlt29
  | 30, _ => exact zlt30
  | 31, _ => exact zlt31
  | 32, _ => exact zlt32
  | 33, _ => exact zlt33
  | 34, _ => exact zlt34
  | 35, _ => exact zlt35
  | 36, _ => exact zlt36
  | 37, _ => exact zlt37
  | 38, _ => exact zlt38
  | 39, _ => exact zlt39
  | 40, _ => exact zlt40
  | 41, _ => exact zlt41
  | 42, _ => exact zlt42
  | 43, _ => exact zlt43
  | 44, _ => exact zlt44
  | 45, _ => exact zlt45
  | 46, _ => exact zlt46
  | 47, _ => exact zlt47
  | 48, _ => exact zlt48
  | 49, _ => exact zlt49
  | t + 50, h => exact absurd h (by omega)
theorem zmt_all (z : Nat) (h : z < 177) : zmt z = true := match z, h with
  | 0, _ => zmt0
  | 1, _ => zmt1
  | 2, _ => zmt2
  | 3, _ => zmt3
  | 4, _ => zmt4
  | 5, _ => zmt5
  | 6, _ => zmt6
  | 7, _ => zmt7
  | 8, _ => zmt8
  | 9, _ => zmt9
  | 10, _ => zmt10
  | 11, _ => zmt11
  | 12, _ => zmt12
  | 13, _ => zmt13
  | 14, _ => zmt14
  | 15, _ => zmt15
  | 16, _ => zmt16
  | 17, _ => zmt17
  | 18, _ => zmt18
  | 19, _ => zmt19
  | 20, _ => zmt20
  | 21, _ => zmt21
  | 22, _ => zmt22
  | 23, _ => zmt23
  | 24, _ => zmt24
  | 25, _ => zmt25
  | 26, _ => zmt26
  | 27, _ => zmt27
  | 28, _ => zmt28
  | 29, _ => zmt29
  | 30, _ => zmt30
  | 31, _ => zmt31
  | 32, _ => zmt32
  | 33, _ => zmt33
  | 34, _ => zmt34
  | 35, _ => zmt35
  | 36, _ => zmt36
  | 37, _ => zmt37
  | 38, _ => zmt38
  | 39, _ => zmt39
  | 40, _ => zmt40
  | 41, _ => zmt41
  | 42, _ => zmt42
  | 43, _ => zmt43
  | 44, _ => zmt44
  | 45, _ => zmt45
  | 46, _ => zmt46
  | 47, _ => zmt47
  | 48, _ => zmt48
  | 49, _ => zmt49
  | 50, _ => zmt50
  | 51, _ => zmt51
  | 52, _ => zmt52
  | 53, _ => zmt53
  | 54, _ => zmt54
  | 55, _ => zmt55
  | 56, _ => zmt56
  | 57, _ => zmt57
  | 58, _ => zmt58
  | 59, _ => zmt59
  | 60, _ => zmt60
  | 61, _ => zmt61
  | 62, _ => zmt62
  | 63, _ => zmt63
  | 64, _ => zmt64
  | 65, _ => zmt65
  | 66, _ => zmt66
  | 67, _ => zmt67
  | 68, _ => zmt68
  | 69, _ => zmt69
  | 70, _ => zmt70
  | 71, _ => zmt71
  | 72, _ => zmt72
  | 73, _ => zmt73
  | 74, _ => zmt74
  | 75, _ => zmt75
  | 76, _ => zmt76
  | 77, _ => zmt77
  | 78, _ => zmt78
  | 79, _ => zmt79
  | 80, _ => zmt80
  | 81, _ => zmt81
  | 82, _ => zmt82
  | 83, _ => zmt83
  | 84, _ => zmt84
  | 85, _ => zmt85
  | 86, _ => zmt86
  | 87, _ => zmt87
  | 88, _ => zmt88
  | 89, _ => zmt89
  | 90, _ => zmt90
  | 91, _ => zmt91
  | 92, _ => zmt92
  | 93, _ => zmt93
  | 94, _ => zmt94
  | 95, _ => zmt95
  | 96, _ => zmt96
  | 97, _ => zmt97
  | 98, _ => zmt98
  | 99, _ => zmt99
  | 100, _ => zmt100
  | 101, _ => zmt101
  | 102, _ => zmt102
  | 103, _ => zmt103
  | 104, _ => zmt104
  | 105, _ => zmt105
  | 106, _ => zmt106
  | 107, _ => zmt107
  | 108, _ => zmt108
  | 109, _ => zmt109
  | 110, _ => zmt110
  | 111, _ => zmt111
  | 112, _ => zmt112
  | 113, _ => zmt113
  | 114, _ => zmt114
  | 115, _ => zmt115
  | 116, _ => zmt116
  | 117, _ => zmt117
  | 118, _ => zmt118
  | 119, _ => zmt119
  | 120, _ => zmt120
  | 121, _ => zmt121
  | 122, _ => zmt122
  | 123, _ => zmt123
  | 124, _ => zmt124
  | 125, _ => zmt125
  | 126, _ => zmt126
  | 127, _ => zmt127
  | 128, _ => zmt128
  | 129, _ => zmt129
  | 130, _ => zmt130
  | 131, _ => zmt131
  | 132, _ => zmt132
  | 133, _ => zmt133
  | 134, _ => zmt134
  | 135, _ => zmt135
  | 136, _ => zmt136
  | 137, _ => zmt137
  | 138, _ => zmt138
  | 139, _ => zmt139
  | 140, _ => zmt140
  | 141, _ => zmt141
  | 142, _ => zmt142
  | 143, _ => zmt143
  | 144, _ => zmt144
  | 145, _ => zmt145
  | 146, _ => zmt146
  | 147, _ => zmt147
  | 148, _ => zmt148
  | 149, _ => zmt149
  | 150, _ => zmt150
  | 151, _ => zmt151
  | 152, _ => zmt152
  | 153, _ => zmt153
  | 154, _ => zmt154
  | 155, _ => zmt155
  | 156, _ => zmt156
  | 157, _ => zmt157
  | 158, _ => zmt158
  | 159, _ => zmt159
  | 160, _ => zmt160
  | 161, _ => zmt161
  | 162, _ => zmt162
  | 163, _ => zmt163
  | 164, _ => zmt164
  | 165, _ => zmt165
  | 166, _ => zmt166
  | 167, _ => zmt167
  | 168, _ => zmt168
  | 169, _ => zmt169
  | 170, _ => zmt170
  | 171, _ => zmt171
  | 172, _ => zmt172
  | 173, _ => zmt173
  | 174, _ => zmt174
  | 175, _ => zmt175
  | 176, _ => zmt176
  | k + 177, h => absurd h (by omega)
