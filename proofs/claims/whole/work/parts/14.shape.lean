/-! the shape of the world when all is made: 65 cells -/
theorem zE_of {y : Nat} (h : zmC y = 0) (n : Nat) : zokE y n n = True := by simp [zokE, h]
theorem zE0 (n : Nat) : zokE 0 n n = True := zE_of rfl n
theorem zE1 (n : Nat) : zokE 1 n n = True := zE_of rfl n
theorem zE2 (n : Nat) : zokE 2 n n = True := zE_of rfl n
theorem zE3 (n : Nat) : zokE 3 n n = True := zE_of rfl n
theorem zE4 (n : Nat) : zokE 4 n n = True := zE_of rfl n
theorem zE6 (n : Nat) : zokE 6 n n = True := zE_of rfl n
theorem zE7 (n : Nat) : zokE 7 n n = True := zE_of rfl n
theorem zE8 (n : Nat) : zokE 8 n n = True := zE_of rfl n
theorem zE9 (n : Nat) : zokE 9 n n = True := zE_of rfl n
theorem zE10 (n : Nat) : zokE 10 n n = True := zE_of rfl n
theorem zE11 (n : Nat) : zokE 11 n n = True := zE_of rfl n
theorem zE12 (n : Nat) : zokE 12 n n = True := zE_of rfl n
theorem zE13 (n : Nat) : zokE 13 n n = True := zE_of rfl n
theorem zE14 (n : Nat) : zokE 14 n n = True := zE_of rfl n
theorem zE15 (n : Nat) : zokE 15 n n = True := zE_of rfl n
theorem zE16 (n : Nat) : zokE 16 n n = True := zE_of rfl n
theorem zE17 (n : Nat) : zokE 17 n n = True := zE_of rfl n
theorem zE18 (n : Nat) : zokE 18 n n = True := zE_of rfl n
theorem zE20 (n : Nat) : zokE 20 n n = True := zE_of rfl n
theorem zE21 (n : Nat) : zokE 21 n n = True := zE_of rfl n
theorem zE22 (n : Nat) : zokE 22 n n = True := zE_of rfl n
theorem zE23 (n : Nat) : zokE 23 n n = True := zE_of rfl n
theorem zE24 (n : Nat) : zokE 24 n n = True := zE_of rfl n
theorem zE25 (n : Nat) : zokE 25 n n = True := zE_of rfl n
theorem zE27 (n : Nat) : zokE 27 n n = True := zE_of rfl n
theorem zE28 (n : Nat) : zokE 28 n n = True := zE_of rfl n
theorem zE29 (n : Nat) : zokE 29 n n = True := zE_of rfl n
theorem zE30 (n : Nat) : zokE 30 n n = True := zE_of rfl n
theorem zE31 (n : Nat) : zokE 31 n n = True := zE_of rfl n
theorem zE32 (n : Nat) : zokE 32 n n = True := zE_of rfl n
theorem zE33 (n : Nat) : zokE 33 n n = True := zE_of rfl n
theorem zE35 (n : Nat) : zokE 35 n n = True := zE_of rfl n
theorem zE36 (n : Nat) : zokE 36 n n = True := zE_of rfl n
theorem zE37 (n : Nat) : zokE 37 n n = True := zE_of rfl n
theorem zE38 (n : Nat) : zokE 38 n n = True := zE_of rfl n
theorem zE39 (n : Nat) : zokE 39 n n = True := zE_of rfl n
theorem zE40 (n : Nat) : zokE 40 n n = True := zE_of rfl n
theorem zE41 (n : Nat) : zokE 41 n n = True := zE_of rfl n
theorem zE42 (n : Nat) : zokE 42 n n = True := zE_of rfl n
theorem zE43 (n : Nat) : zokE 43 n n = True := zE_of rfl n
theorem zE44 (n : Nat) : zokE 44 n n = True := zE_of rfl n
theorem zE46 (n : Nat) : zokE 46 n n = True := zE_of rfl n
theorem zE47 (n : Nat) : zokE 47 n n = True := zE_of rfl n
theorem zE48 (n : Nat) : zokE 48 n n = True := zE_of rfl n
theorem zE49 (n : Nat) : zokE 49 n n = True := zE_of rfl n
theorem zE50 (n : Nat) : zokE 50 n n = True := zE_of rfl n
theorem zE51 (n : Nat) : zokE 51 n n = True := zE_of rfl n
theorem zE52 (n : Nat) : zokE 52 n n = True := zE_of rfl n
theorem zE53 (n : Nat) : zokE 53 n n = True := zE_of rfl n
theorem zE54 (n : Nat) : zokE 54 n n = True := zE_of rfl n
theorem zE55 (n : Nat) : zokE 55 n n = True := zE_of rfl n
theorem zE56 (n : Nat) : zokE 56 n n = True := zE_of rfl n
theorem zE58 (n : Nat) : zokE 58 n n = True := zE_of rfl n
theorem zE59 (n : Nat) : zokE 59 n n = True := zE_of rfl n
theorem zE60 (n : Nat) : zokE 60 n n = True := zE_of rfl n
theorem zE61 (n : Nat) : zokE 61 n n = True := zE_of rfl n
theorem zE63 (n : Nat) : zokE 63 n n = True := zE_of rfl n
theorem zE64 (n : Nat) : zokE 64 n n = True := zE_of rfl n
theorem zE65 (n : Nat) : zokE 65 n n = True := zE_of rfl n
theorem zE66 (n : Nat) : zokE 66 n n = True := zE_of rfl n
theorem zE67 (n : Nat) : zokE 67 n n = True := zE_of rfl n
theorem zE68 (n : Nat) : zokE 68 n n = True := zE_of rfl n
theorem zE69 (n : Nat) : zokE 69 n n = True := zE_of rfl n
theorem zE70 (n : Nat) : zokE 70 n n = True := zE_of rfl n
theorem zE71 (n : Nat) : zokE 71 n n = True := zE_of rfl n
theorem zE72 (n : Nat) : zokE 72 n n = True := zE_of rfl n
theorem zE73 (n : Nat) : zokE 73 n n = True := zE_of rfl n
theorem zE75 (n : Nat) : zokE 75 n n = True := zE_of rfl n
theorem zE76 (n : Nat) : zokE 76 n n = True := zE_of rfl n
theorem zE77 (n : Nat) : zokE 77 n n = True := zE_of rfl n
theorem zE78 (n : Nat) : zokE 78 n n = True := zE_of rfl n
theorem zE79 (n : Nat) : zokE 79 n n = True := zE_of rfl n
theorem zE80 (n : Nat) : zokE 80 n n = True := zE_of rfl n
theorem zE81 (n : Nat) : zokE 81 n n = True := zE_of rfl n
theorem zE82 (n : Nat) : zokE 82 n n = True := zE_of rfl n
theorem zE83 (n : Nat) : zokE 83 n n = True := zE_of rfl n
theorem zE84 (n : Nat) : zokE 84 n n = True := zE_of rfl n
theorem zE85 (n : Nat) : zokE 85 n n = True := zE_of rfl n
theorem zE86 (n : Nat) : zokE 86 n n = True := zE_of rfl n
theorem zE87 (n : Nat) : zokE 87 n n = True := zE_of rfl n
theorem zE88 (n : Nat) : zokE 88 n n = True := zE_of rfl n
theorem zE89 (n : Nat) : zokE 89 n n = True := zE_of rfl n
theorem zE90 (n : Nat) : zokE 90 n n = True := zE_of rfl n
theorem zE91 (n : Nat) : zokE 91 n n = True := zE_of rfl n
theorem zE92 (n : Nat) : zokE 92 n n = True := zE_of rfl n
theorem zE93 (n : Nat) : zokE 93 n n = True := zE_of rfl n
theorem zE94 (n : Nat) : zokE 94 n n = True := zE_of rfl n
theorem zE95 (n : Nat) : zokE 95 n n = True := zE_of rfl n
theorem zE96 (n : Nat) : zokE 96 n n = True := zE_of rfl n
theorem zE97 (n : Nat) : zokE 97 n n = True := zE_of rfl n
theorem zE98 (n : Nat) : zokE 98 n n = True := zE_of rfl n
theorem zE99 (n : Nat) : zokE 99 n n = True := zE_of rfl n
theorem zE100 (n : Nat) : zokE 100 n n = True := zE_of rfl n
theorem zE101 (n : Nat) : zokE 101 n n = True := zE_of rfl n
theorem zE102 (n : Nat) : zokE 102 n n = True := zE_of rfl n
theorem zE103 (n : Nat) : zokE 103 n n = True := zE_of rfl n
theorem zE104 (n : Nat) : zokE 104 n n = True := zE_of rfl n
theorem zE105 (n : Nat) : zokE 105 n n = True := zE_of rfl n
theorem zE106 (n : Nat) : zokE 106 n n = True := zE_of rfl n
theorem zE107 (n : Nat) : zokE 107 n n = True := zE_of rfl n
theorem zE108 (n : Nat) : zokE 108 n n = True := zE_of rfl n
theorem zE109 (n : Nat) : zokE 109 n n = True := zE_of rfl n
theorem zE110 (n : Nat) : zokE 110 n n = True := zE_of rfl n
theorem zE111 (n : Nat) : zokE 111 n n = True := zE_of rfl n
theorem zE112 (n : Nat) : zokE 112 n n = True := zE_of rfl n
theorem zE113 (n : Nat) : zokE 113 n n = True := zE_of rfl n
theorem zE115 (n : Nat) : zokE 115 n n = True := zE_of rfl n
theorem zE116 (n : Nat) : zokE 116 n n = True := zE_of rfl n
theorem zE117 (n : Nat) : zokE 117 n n = True := zE_of rfl n
theorem zE118 (n : Nat) : zokE 118 n n = True := zE_of rfl n
theorem zE119 (n : Nat) : zokE 119 n n = True := zE_of rfl n
theorem zE120 (n : Nat) : zokE 120 n n = True := zE_of rfl n
theorem zE121 (n : Nat) : zokE 121 n n = True := zE_of rfl n
theorem zE122 (n : Nat) : zokE 122 n n = True := zE_of rfl n
theorem zE123 (n : Nat) : zokE 123 n n = True := zE_of rfl n
theorem zE124 (n : Nat) : zokE 124 n n = True := zE_of rfl n
theorem zE125 (n : Nat) : zokE 125 n n = True := zE_of rfl n
theorem zE126 (n : Nat) : zokE 126 n n = True := zE_of rfl n
theorem zE127 (n : Nat) : zokE 127 n n = True := zE_of rfl n
theorem zE128 (n : Nat) : zokE 128 n n = True := zE_of rfl n
theorem zE129 (n : Nat) : zokE 129 n n = True := zE_of rfl n
theorem zE130 (n : Nat) : zokE 130 n n = True := zE_of rfl n
theorem zE131 (n : Nat) : zokE 131 n n = True := zE_of rfl n
theorem zE132 (n : Nat) : zokE 132 n n = True := zE_of rfl n
theorem zE133 (n : Nat) : zokE 133 n n = True := zE_of rfl n
theorem zE134 (n : Nat) : zokE 134 n n = True := zE_of rfl n
theorem zE135 (n : Nat) : zokE 135 n n = True := zE_of rfl n
theorem zE136 (n : Nat) : zokE 136 n n = True := zE_of rfl n
theorem zE137 (n : Nat) : zokE 137 n n = True := zE_of rfl n
theorem zE138 (n : Nat) : zokE 138 n n = True := zE_of rfl n
theorem zE139 (n : Nat) : zokE 139 n n = True := zE_of rfl n
theorem zE140 (n : Nat) : zokE 140 n n = True := zE_of rfl n
theorem zE141 (n : Nat) : zokE 141 n n = True := zE_of rfl n
theorem zE142 (n : Nat) : zokE 142 n n = True := zE_of rfl n
theorem zE143 (n : Nat) : zokE 143 n n = True := zE_of rfl n
theorem zE144 (n : Nat) : zokE 144 n n = True := zE_of rfl n
theorem zE145 (n : Nat) : zokE 145 n n = True := zE_of rfl n
theorem zE146 (n : Nat) : zokE 146 n n = True := zE_of rfl n
theorem zE147 (n : Nat) : zokE 147 n n = True := zE_of rfl n
theorem zE148 (n : Nat) : zokE 148 n n = True := zE_of rfl n
theorem zE149 (n : Nat) : zokE 149 n n = True := zE_of rfl n
theorem zE150 (n : Nat) : zokE 150 n n = True := zE_of rfl n
theorem zE151 (n : Nat) : zokE 151 n n = True := zE_of rfl n
theorem zE152 (n : Nat) : zokE 152 n n = True := zE_of rfl n
theorem zE153 (n : Nat) : zokE 153 n n = True := zE_of rfl n
theorem zE154 (n : Nat) : zokE 154 n n = True := zE_of rfl n
theorem zE155 (n : Nat) : zokE 155 n n = True := zE_of rfl n
theorem zE156 (n : Nat) : zokE 156 n n = True := zE_of rfl n
theorem zE157 (n : Nat) : zokE 157 n n = True := zE_of rfl n
theorem zE158 (n : Nat) : zokE 158 n n = True := zE_of rfl n
theorem zE159 (n : Nat) : zokE 159 n n = True := zE_of rfl n
theorem zE160 (n : Nat) : zokE 160 n n = True := zE_of rfl n
theorem zE161 (n : Nat) : zokE 161 n n = True := zE_of rfl n
theorem zE162 (n : Nat) : zokE 162 n n = True := zE_of rfl n
theorem zE163 (n : Nat) : zokE 163 n n = True := zE_of rfl n
theorem zE164 (n : Nat) : zokE 164 n n = True := zE_of rfl n
theorem zE165 (n : Nat) : zokE 165 n n = True := zE_of rfl n
theorem zE166 (n : Nat) : zokE 166 n n = True := zE_of rfl n
theorem zE167 (n : Nat) : zokE 167 n n = True := zE_of rfl n
theorem zE168 (n : Nat) : zokE 168 n n = True := zE_of rfl n
theorem zE169 (n : Nat) : zokE 169 n n = True := zE_of rfl n
theorem zE170 (n : Nat) : zokE 170 n n = True := zE_of rfl n
theorem zE171 (n : Nat) : zokE 171 n n = True := zE_of rfl n
theorem zE172 (n : Nat) : zokE 172 n n = True := zE_of rfl n
theorem zE173 (n : Nat) : zokE 173 n n = True := zE_of rfl n
theorem zE174 (n : Nat) : zokE 174 n n = True := zE_of rfl n
theorem zE175 (n : Nat) : zokE 175 n n = True := zE_of rfl n
theorem o_0 : zokO 65 0 7 = True := eq_true ⟨by decide, rfl⟩
theorem o_1 : zokO 65 1 0 = True := eq_true ⟨by decide, rfl⟩
theorem o_2 : zokA 65 2 2 = True := eq_true ⟨by decide, rfl⟩
theorem a_2 : zal 2 = 192 := rfl
theorem w_2 : zokW 65 2 = True := eq_true (by unfold zokW; decide)
theorem o_3 : zokA 65 3 4 = True := eq_true ⟨by decide, rfl⟩
theorem a_3 : zal 3 = 12 := rfl
theorem w_3 : zokW 65 3 = True := eq_true (by unfold zokW; decide)
theorem o_4 : zokO 65 4 6 = True := eq_true ⟨by decide, rfl⟩
theorem o_5 : zokA 65 5 1 = True := eq_true ⟨by decide, rfl⟩
theorem a_5 : zal 5 = 66 := rfl
theorem w_5 : zokW 65 5 = True := eq_true (by unfold zokW; decide)
theorem o_6 : zokO 65 6 5 = True := eq_true ⟨by decide, rfl⟩
theorem o_7 : zokA 65 7 2 = True := eq_true ⟨by decide, rfl⟩
theorem a_7 : zal 7 = 64 := rfl
theorem w_7 : zokW 65 7 = True := eq_true (by unfold zokW; decide)
theorem o_8 : zokO 65 8 2 = True := eq_true ⟨by decide, rfl⟩
theorem o_9 : zokA 65 9 1 = True := eq_true ⟨by decide, rfl⟩
theorem a_9 : zal 9 = 6 := rfl
theorem w_9 : zokW 65 9 = True := eq_true (by unfold zokW; decide)
theorem o_10 : zokO 65 10 3 = True := eq_true ⟨by decide, rfl⟩
theorem o_11 : zokA 65 11 1 = True := eq_true ⟨by decide, rfl⟩
theorem a_11 : zal 11 = 64 := rfl
theorem w_11 : zokW 65 11 = True := eq_true (by unfold zokW; decide)
theorem o_12 : zokO 65 12 3 = True := eq_true ⟨by decide, rfl⟩
theorem o_13 : zokA 65 13 1 = True := eq_true ⟨by decide, rfl⟩
theorem a_13 : zal 13 = 64 := rfl
theorem w_13 : zokW 65 13 = True := eq_true (by unfold zokW; decide)
theorem o_14 : zokO 65 14 4 = True := eq_true ⟨by decide, rfl⟩
theorem o_15 : zokO 65 15 3 = True := eq_true ⟨by decide, rfl⟩
theorem o_16 : zokA 65 16 1 = True := eq_true ⟨by decide, rfl⟩
theorem a_16 : zal 16 = 64 := rfl
theorem w_16 : zokW 65 16 = True := eq_true (by unfold zokW; decide)
theorem o_17 : zokA 65 17 1 = True := eq_true ⟨by decide, rfl⟩
theorem a_17 : zal 17 = 65 := rfl
theorem w_17 : zokW 65 17 = True := eq_true (by unfold zokW; decide)
theorem o_18 : zokA 65 18 1 = True := eq_true ⟨by decide, rfl⟩
theorem a_18 : zal 18 = 65 := rfl
theorem w_18 : zokW 65 18 = True := eq_true (by unfold zokW; decide)
theorem o_19 : zokA 65 19 2 = True := eq_true ⟨by decide, rfl⟩
theorem a_19 : zal 19 = 65 := rfl
theorem w_19 : zokW 65 19 = True := eq_true (by unfold zokW; decide)
theorem o_20 : zokA 65 20 2 = True := eq_true ⟨by decide, rfl⟩
theorem a_20 : zal 20 = 65 := rfl
theorem w_20 : zokW 65 20 = True := eq_true (by unfold zokW; decide)
theorem o_21 : zokO 65 21 1 = True := eq_true ⟨by decide, rfl⟩
theorem o_22 : zokA 65 22 3 = True := eq_true ⟨by decide, rfl⟩
theorem a_22 : zal 22 = 12800 := rfl
theorem w_22 : zokW 65 22 = True := eq_true (by unfold zokW; decide)
theorem o_23 : zokO 65 23 1 = True := eq_true ⟨by decide, rfl⟩
theorem o_24 : zokA 65 24 3 = True := eq_true ⟨by decide, rfl⟩
theorem a_24 : zal 24 = 12800 := rfl
theorem w_24 : zokW 65 24 = True := eq_true (by unfold zokW; decide)
theorem o_25 : zokA 65 25 1 = True := eq_true ⟨by decide, rfl⟩
theorem a_25 : zal 25 = 5 := rfl
theorem w_25 : zokW 65 25 = True := eq_true (by unfold zokW; decide)
theorem o_26 : zokO 65 26 3 = True := eq_true ⟨by decide, rfl⟩
theorem o_27 : zokA 65 27 1 = True := eq_true ⟨by decide, rfl⟩
theorem a_27 : zal 27 = 64 := rfl
theorem w_27 : zokW 65 27 = True := eq_true (by unfold zokW; decide)
theorem o_28 : zokO 65 28 3 = True := eq_true ⟨by decide, rfl⟩
theorem o_29 : zokA 65 29 1 = True := eq_true ⟨by decide, rfl⟩
theorem a_29 : zal 29 = 64 := rfl
theorem w_29 : zokW 65 29 = True := eq_true (by unfold zokW; decide)
theorem o_30 : zokO 65 30 3 = True := eq_true ⟨by decide, rfl⟩
theorem o_31 : zokA 65 31 1 = True := eq_true ⟨by decide, rfl⟩
theorem a_31 : zal 31 = 64 := rfl
theorem w_31 : zokW 65 31 = True := eq_true (by unfold zokW; decide)
theorem o_32 : zokO 65 32 3 = True := eq_true ⟨by decide, rfl⟩
theorem o_33 : zokA 65 33 1 = True := eq_true ⟨by decide, rfl⟩
theorem a_33 : zal 33 = 64 := rfl
theorem w_33 : zokW 65 33 = True := eq_true (by unfold zokW; decide)
theorem o_34 : zokO 65 34 3 = True := eq_true ⟨by decide, rfl⟩
theorem o_35 : zokA 65 35 1 = True := eq_true ⟨by decide, rfl⟩
theorem a_35 : zal 35 = 64 := rfl
theorem w_35 : zokW 65 35 = True := eq_true (by unfold zokW; decide)
theorem o_36 : zokO 65 36 3 = True := eq_true ⟨by decide, rfl⟩
theorem o_37 : zokA 65 37 1 = True := eq_true ⟨by decide, rfl⟩
theorem a_37 : zal 37 = 64 := rfl
theorem w_37 : zokW 65 37 = True := eq_true (by unfold zokW; decide)
theorem o_38 : zokO 65 38 3 = True := eq_true ⟨by decide, rfl⟩
theorem o_39 : zokA 65 39 1 = True := eq_true ⟨by decide, rfl⟩
theorem a_39 : zal 39 = 64 := rfl
theorem w_39 : zokW 65 39 = True := eq_true (by unfold zokW; decide)
theorem o_40 : zokO 65 40 3 = True := eq_true ⟨by decide, rfl⟩
theorem o_41 : zokA 65 41 1 = True := eq_true ⟨by decide, rfl⟩
theorem a_41 : zal 41 = 64 := rfl
theorem w_41 : zokW 65 41 = True := eq_true (by unfold zokW; decide)
theorem o_42 : zokO 65 42 3 = True := eq_true ⟨by decide, rfl⟩
theorem o_43 : zokA 65 43 1 = True := eq_true ⟨by decide, rfl⟩
theorem a_43 : zal 43 = 64 := rfl
theorem w_43 : zokW 65 43 = True := eq_true (by unfold zokW; decide)
theorem o_44 : zokO 65 44 3 = True := eq_true ⟨by decide, rfl⟩
theorem o_45 : zokA 65 45 1 = True := eq_true ⟨by decide, rfl⟩
theorem a_45 : zal 45 = 64 := rfl
theorem w_45 : zokW 65 45 = True := eq_true (by unfold zokW; decide)
theorem o_46 : zokO 65 46 3 = True := eq_true ⟨by decide, rfl⟩
theorem o_47 : zokA 65 47 1 = True := eq_true ⟨by decide, rfl⟩
theorem a_47 : zal 47 = 64 := rfl
theorem w_47 : zokW 65 47 = True := eq_true (by unfold zokW; decide)
theorem o_48 : zokO 65 48 3 = True := eq_true ⟨by decide, rfl⟩
theorem o_49 : zokA 65 49 1 = True := eq_true ⟨by decide, rfl⟩
theorem a_49 : zal 49 = 64 := rfl
theorem w_49 : zokW 65 49 = True := eq_true (by unfold zokW; decide)
theorem o_50 : zokO 65 50 8 = True := eq_true ⟨by decide, rfl⟩
theorem o_51 : zokA 65 51 1 = True := eq_true ⟨by decide, rfl⟩
theorem a_51 : zal 51 = 5 := rfl
theorem w_51 : zokW 65 51 = True := eq_true (by unfold zokW; decide)
theorem o_52 : zokA 65 52 1 = True := eq_true ⟨by decide, rfl⟩
theorem a_52 : zal 52 = 12 := rfl
theorem w_52 : zokW 65 52 = True := eq_true (by unfold zokW; decide)
theorem o_53 : zokA 65 53 1 = True := eq_true ⟨by decide, rfl⟩
theorem a_53 : zal 53 = 768 := rfl
theorem w_53 : zokW 65 53 = True := eq_true (by unfold zokW; decide)
theorem o_54 : zokA 65 54 1 = True := eq_true ⟨by decide, rfl⟩
theorem a_54 : zal 54 = 65 := rfl
theorem w_54 : zokW 65 54 = True := eq_true (by unfold zokW; decide)
theorem o_55 : zokA 65 55 1 = True := eq_true ⟨by decide, rfl⟩
theorem a_55 : zal 55 = 66 := rfl
theorem w_55 : zokW 65 55 = True := eq_true (by unfold zokW; decide)
theorem o_56 : zokA 65 56 1 = True := eq_true ⟨by decide, rfl⟩
theorem a_56 : zal 56 = 64 := rfl
theorem w_56 : zokW 65 56 = True := eq_true (by unfold zokW; decide)
theorem o_57 : zokA 65 57 1 = True := eq_true ⟨by decide, rfl⟩
theorem a_57 : zal 57 = 6 := rfl
theorem w_57 : zokW 65 57 = True := eq_true (by unfold zokW; decide)
theorem o_58 : zokA 65 58 1 = True := eq_true ⟨by decide, rfl⟩
theorem a_58 : zal 58 = 64 := rfl
theorem w_58 : zokW 65 58 = True := eq_true (by unfold zokW; decide)
theorem o_59 : zokA 65 59 1 = True := eq_true ⟨by decide, rfl⟩
theorem a_59 : zal 59 = 64 := rfl
theorem w_59 : zokW 65 59 = True := eq_true (by unfold zokW; decide)
theorem o_60 : zokA 65 60 1 = True := eq_true ⟨by decide, rfl⟩
theorem a_60 : zal 60 = 6 := rfl
theorem w_60 : zokW 65 60 = True := eq_true (by unfold zokW; decide)
theorem o_61 : zokA 65 61 1 = True := eq_true ⟨by decide, rfl⟩
theorem a_61 : zal 61 = 66 := rfl
theorem w_61 : zokW 65 61 = True := eq_true (by unfold zokW; decide)
theorem o_62 : zokA 65 62 1 = True := eq_true ⟨by decide, rfl⟩
theorem a_62 : zal 62 = 64 := rfl
theorem w_62 : zokW 65 62 = True := eq_true (by unfold zokW; decide)
theorem o_63 : zokA 65 63 1 = True := eq_true ⟨by decide, rfl⟩
theorem a_63 : zal 63 = 12800 := rfl
theorem w_63 : zokW 65 63 = True := eq_true (by unfold zokW; decide)
theorem o_64 : zokA 65 64 1 = True := eq_true ⟨by decide, rfl⟩
theorem a_64 : zal 64 = 12800 := rfl
theorem w_64 : zokW 65 64 = True := eq_true (by unfold zokW; decide)
/-- the rope of number p, and its steps -/
def zrp (p : Nat) : Nat := 26 + 2 * p
def zrs (p : Nat) : Nat := 27 + 2 * p
theorem zrp_ok : ∀ p, p < 12 → zokO 65 (zrp p) 3 ∧ zokA 65 (zrs p) 1 ∧ zal (zrs p) = 64 ∧ zokW 65 (zrs p) := by unfold zokO zokA zokW; decide +kernel
theorem o_rp {p : Nat} (h : p < 12) : zokO 65 (zrp p) 3 = True := eq_true (zrp_ok p h).1
theorem o_rs {p : Nat} (h : p < 12) : zokA 65 (zrs p) 1 = True := eq_true (zrp_ok p h).2.1
theorem a_rs {p : Nat} (h : p < 12) : zal (zrs p) = 64 := (zrp_ok p h).2.2.1
theorem w_rs {p : Nat} (h : p < 12) : zokW 65 (zrs p) = True := eq_true (zrp_ok p h).2.2.2
theorem zrp_lt {p : Nat} (h : p < 12) : zrp p < 50 ∧ 26 ≤ zrp p ∧ zrs p = zrp p + 1 := by unfold zrp zrs; omega

