/-! THE CODE: each method as blocks of instructions (printed by gen/data.py); checked against its bytes in 06 -/
def q0_0 : List zI := [(.iload_n 0, 0, 0, 0, 0), (.ifCond .lt 19, 1, 0, 0, 0), (.iload_n 0, 0, 0, 0, 0), (.getstatic 7, 0, 0, 83, 0), (.arraylength, 2, 0, 0, 0), (.if_icmp .ge 11, 1, 0, 0, 0), (.getstatic 7, 0, 0, 83, 0), (.iload_n 0, 0, 0, 0, 0), (.laload, 2, 0, 0, 0), (.goto 4, 2, 0, 0, 0)]
def q0_1 : List zI := [(.lconst 0, 0, 0, 0, 0), (.nop, 2, 0, 0, 0)]
def q0_2 : List zI := [(.lreturn, 0, 0, 0, 0)]
def bk0 : List (List zI) := [q0_0, q0_1, q0_2]
def q1_0 : List zI := [(.lload_n 0, 0, 0, 0, 0), (.iload_n 2, 0, 0, 0, 0), (.lushr, 0, 0, 0, 0), (.lconst 1, 0, 1, 0, 0), (.land, 0, 0, 0, 0), (.lconst 0, 0, 0, 0, 0), (.lcmp, 0, 0, 0, 0), (.ifCond .eq 7, 1, 0, 0, 0), (.iconst 1, 0, 1, 0, 0), (.goto 4, 2, 0, 0, 0)]
def q1_1 : List zI := [(.iconst 0, 0, 0, 0, 0), (.nop, 2, 0, 0, 0)]
def q1_2 : List zI := [(.ireturn, 0, 0, 0, 2)]
def bk1 : List (List zI) := [q1_0, q1_1, q1_2]
def q2_0 : List zI := [(.iload_n 2, 0, 0, 0, 0), (.invokestatic 13, 0, 1, 80, 0), (.lstore_n 3, 0, 0, 0, 0), (.iconst 1, 0, 1, 0, 0), (.iload_n 2, 0, 0, 0, 0), (.ishl, 0, 0, 0, 0), (.istore 5, 0, 0, 0, 0), (.lload_n 0, 0, 0, 0, 0), (.lload_n 3, 0, 0, 0, 0), (.land, 0, 0, 0, 0), (.iload 5, 0, 0, 0, 0), (.lshl, 0, 0, 0, 0), (.lload_n 0, 0, 0, 0, 0), (.iload 5, 0, 0, 0, 0), (.lushr, 0, 0, 0, 0), (.lload_n 3, 0, 0, 0, 0), (.land, 0, 0, 0, 0), (.lor, 0, 0, 0, 0), (.lreturn, 0, 0, 0, 0)]
def bk2 : List (List zI) := [q2_0]
def q3_0 : List zI := [(.lload_n 0, 0, 0, 0, 0), (.lstore_n 3, 0, 0, 0, 0), (.iconst 0, 0, 0, 0, 0), (.istore 5, 0, 0, 0, 0), (.nop, 1, 0, 0, 1)]
def q3_1 : List zI := [(.iload 5, 0, 0, 0, 0), (.iload_n 2, 0, 0, 0, 0), (.if_icmp .ge 18, 2, 0, 0, 0), (.lload_n 3, 0, 0, 0, 0), (.lload_n 0, 0, 0, 0, 0), (.iload 5, 0, 0, 0, 0), (.invokestatic 17, 2, 2, 77, 0), (.lor, 0, 0, 0, 0), (.lstore_n 3, 0, 0, 0, 0), (.iinc 5 1, 0, 0, 0, 0), (.goto (-18), 1, 0, 0, 1)]
def q3_2 : List zI := [(.lload_n 3, 0, 0, 0, 0), (.lreturn, 0, 0, 0, 0)]
def bk3 : List (List zI) := [q3_0, q3_1, q3_2]
def q4_0 : List zI := [(.iload_n 3, 0, 0, 0, 0), (.invokestatic 13, 0, 1, 80, 0), (.iload_n 2, 0, 0, 0, 0), (.invokestatic 13, 0, 1, 80, 0), (.ldc2_w 21, 1, 1, 544, 0), (.lxor, 0, 0, 0, 0), (.land, 0, 0, 0, 0), (.lstore 4, 0, 0, 0, 0), (.iconst 1, 0, 1, 0, 0), (.iload_n 3, 0, 0, 0, 0), (.ishl, 0, 0, 0, 0), (.iconst 1, 0, 1, 0, 0), (.iload_n 2, 0, 0, 0, 0), (.ishl, 0, 0, 0, 0), (.isub, 0, 0, 0, 0), (.istore 6, 0, 0, 0, 0), (.lload 4, 0, 0, 0, 0), (.iload 6, 0, 0, 0, 0), (.lshl, 0, 0, 0, 0), (.lstore 7, 0, 0, 0, 0), (.lload_n 0, 0, 0, 0, 0), (.lload 4, 0, 0, 0, 0), (.land, 0, 0, 0, 0), (.iload 6, 0, 0, 0, 0), (.lshl, 0, 0, 0, 0), (.lload_n 0, 0, 0, 0, 0), (.lload 7, 0, 0, 0, 0), (.land, 0, 0, 0, 0), (.iload 6, 0, 0, 0, 0), (.lushr, 0, 0, 0, 0), (.lor, 0, 0, 0, 0), (.lload_n 0, 0, 0, 0, 0), (.lload 4, 0, 0, 0, 0), (.lload 7, 0, 0, 0, 0), (.lor, 0, 0, 0, 0), (.ldc2_w 21, 1, 1, 544, 0), (.lxor, 0, 0, 0, 0), (.land, 0, 0, 0, 0), (.lor, 0, 0, 0, 0), (.lreturn, 0, 0, 0, 0)]
def bk4 : List (List zI) := [q4_0]
def q5_0 : List zI := [(.aload_n 0, 0, 0, 0, 0), (.invokespecial 3, 999, 1, 73, 0), (.aload_n 0, 0, 0, 0, 0), (.iconst 3, 0, 3, 0, 0), (.putfield 9, 0, 0, 85, 0), (.aload_n 0, 0, 0, 0, 0), (.iconst 2, 0, 2, 0, 0), (.putfield 15, 0, 1, 86, 0), (.aload_n 0, 0, 0, 0, 0), (.lconst 0, 0, 0, 0, 0), (.putfield 18, 0, 2, 87, 1), (.aload_n 0, 0, 0, 0, 0), (.sipush 192, 0, 192, 0, 0), (.newarray .long, 2, 0, 0, 0), (.putfield 22, 0, 3, 88, 3), (.iconst 0, 0, 0, 0, 0), (.istore_n 1, 0, 0, 0, 0), (.nop, 1, 0, 0, 1)]
def q5_1 : List zI := [(.iload_n 1, 0, 0, 0, 0), (.bipush 64, 0, 64, 0, 0), (.if_icmp .ge 48, 4, 0, 0, 0), (.lconst 1, 0, 1, 0, 0), (.iload_n 1, 0, 0, 0, 0), (.lshl, 0, 0, 0, 0), (.lstore_n 2, 0, 0, 0, 0), (.iconst 0, 0, 0, 0, 0), (.istore 4, 0, 0, 0, 0), (.nop, 2, 0, 0, 1)]
def q5_2 : List zI := [(.iload 4, 0, 0, 0, 0), (.iconst 3, 0, 3, 0, 0), (.if_icmp .ge 29, 3, 0, 0, 0), (.aload_n 0, 0, 0, 0, 0), (.getfield 22, 0, 3, 88, 3), (.iload 4, 0, 0, 0, 0), (.bipush 64, 0, 64, 0, 0), (.imul, 0, 0, 0, 0), (.iload_n 1, 0, 0, 0, 0), (.iadd, 0, 0, 0, 0), (.lload_n 2, 0, 0, 0, 0), (.lastore, 0, 0, 0, 0), (.lload_n 2, 0, 0, 0, 0), (.bipush 6, 0, 6, 0, 0), (.invokestatic 26, 3, 2, 74, 0), (.lstore_n 2, 0, 0, 0, 0), (.iinc 4 1, 0, 0, 0, 0), (.goto (-29), 2, 0, 0, 1)]
def q5_3 : List zI := [(.iinc 1 1, 0, 0, 0, 0), (.goto (-48), 1, 0, 0, 1)]
def q5_4 : List zI := [(.return_, 0, 0, 0, 0)]
def bk5 : List (List zI) := [q5_0, q5_1, q5_2, q5_3, q5_4]
def q6_0 : List zI := [(.aload_n 0, 0, 0, 0, 0), (.iload_n 1, 0, 0, 0, 0), (.putfield 9, 0, 0, 85, 0), (.aload_n 0, 0, 0, 0, 0), (.lconst 0, 0, 0, 0, 0), (.putfield 18, 0, 2, 87, 1), (.return_, 0, 0, 0, 0)]
def bk6 : List (List zI) := [q6_0]
def q7_0 : List zI := [(.aload_n 0, 0, 0, 0, 0), (.iload_n 1, 0, 0, 0, 0), (.putfield 15, 0, 1, 86, 0), (.return_, 0, 0, 0, 0)]
def bk7 : List (List zI) := [q7_0]
def q8_0 : List zI := [(.aload_n 0, 0, 0, 0, 0), (.getfield 9, 0, 0, 85, 0), (.ireturn, 0, 0, 0, 0)]
def bk8 : List (List zI) := [q8_0]
def q9_0 : List zI := [(.aload_n 0, 0, 0, 0, 0), (.getfield 15, 0, 1, 86, 0), (.ireturn, 0, 0, 0, 0)]
def bk9 : List (List zI) := [q9_0]
def q10_0 : List zI := [(.aload_n 0, 0, 0, 0, 0), (.getfield 18, 0, 2, 87, 1), (.lreturn, 0, 0, 0, 0)]
def bk10 : List (List zI) := [q10_0]
def q11_0 : List zI := [(.ldc2_w 32, 1, 1, 287, 0), (.bipush 64, 0, 64, 0, 0), (.iconst 1, 0, 1, 0, 0), (.aload_n 0, 0, 0, 0, 0), (.getfield 9, 0, 0, 85, 0), (.ishl, 0, 0, 0, 0), (.isub, 0, 0, 0, 0), (.lushr, 0, 0, 0, 0), (.lreturn, 0, 0, 0, 0)]
def bk11 : List (List zI) := [q11_0]
def q12_0 : List zI := [(.iload_n 1, 0, 0, 0, 0), (.ifCond .lt 17, 1, 0, 0, 0), (.iload_n 1, 0, 0, 0, 0), (.iconst 1, 0, 1, 0, 0), (.aload_n 0, 0, 0, 0, 0), (.getfield 9, 0, 0, 85, 0), (.ishl, 0, 0, 0, 0), (.if_icmp .ge 7, 1, 0, 0, 0), (.iconst 1, 0, 1, 0, 0), (.goto 4, 2, 0, 0, 0)]
def q12_1 : List zI := [(.iconst 0, 0, 0, 0, 0), (.nop, 2, 0, 0, 0)]
def q12_2 : List zI := [(.ireturn, 0, 0, 0, 2)]
def bk12 : List (List zI) := [q12_0, q12_1, q12_2]
def q13_0 : List zI := [(.aload_n 0, 0, 0, 0, 0), (.getfield 18, 0, 2, 87, 1), (.lconst 0, 0, 0, 0, 0), (.lcmp, 0, 0, 0, 0), (.ifCond .ne 7, 1, 0, 0, 0), (.iconst 1, 0, 1, 0, 0), (.goto 4, 2, 0, 0, 0)]
def q13_1 : List zI := [(.iconst 0, 0, 0, 0, 0), (.nop, 2, 0, 0, 0)]
def q13_2 : List zI := [(.ireturn, 0, 0, 0, 2)]
def bk13 : List (List zI) := [q13_0, q13_1, q13_2]
def q14_0 : List zI := [(.aload_n 0, 0, 0, 0, 0), (.getfield 18, 0, 2, 87, 1), (.iload_n 1, 0, 0, 0, 0), (.invokestatic 34, 1, 2, 280, 0), (.ireturn, 0, 0, 0, 2)]
def bk14 : List (List zI) := [q14_0]
def q15_0 : List zI := [(.lconst 1, 0, 1, 0, 0), (.iload_n 1, 0, 0, 0, 0), (.lshl, 0, 0, 0, 0), (.lstore_n 3, 0, 0, 0, 0), (.aload_n 0, 0, 0, 0, 0), (.iload_n 2, 0, 0, 0, 0), (.ifCond .eq 12, 1, 0, 0, 0), (.aload_n 0, 0, 0, 0, 0), (.getfield 18, 0, 2, 87, 1), (.lload_n 3, 0, 0, 0, 0), (.lor, 0, 0, 0, 0), (.goto 13, 2, 0, 0, 0)]
def q15_1 : List zI := [(.aload_n 0, 0, 0, 0, 0), (.getfield 18, 0, 2, 87, 1), (.lload_n 3, 0, 0, 0, 0), (.ldc2_w 32, 1, 1, 287, 0), (.lxor, 0, 0, 0, 0), (.land, 0, 0, 0, 0), (.nop, 2, 0, 0, 0)]
def q15_2 : List zI := [(.putfield 18, 0, 2, 87, 1), (.return_, 0, 0, 0, 0)]
def bk15 : List (List zI) := [q15_0, q15_1, q15_2]
def q16_0 : List zI := [(.iload_n 2, 0, 0, 0, 0), (.bipush 64, 0, 64, 0, 0), (.imul, 0, 0, 0, 0), (.iload_n 1, 0, 0, 0, 0), (.iadd, 0, 0, 0, 0), (.istore_n 3, 0, 0, 0, 0), (.iload_n 1, 0, 0, 0, 0), (.ifCond .lt 31, 1, 0, 0, 0), (.iload_n 1, 0, 0, 0, 0), (.bipush 64, 0, 64, 0, 0), (.if_icmp .ge 25, 1, 0, 0, 0), (.iload_n 3, 0, 0, 0, 0), (.ifCond .lt 21, 1, 0, 0, 0), (.iload_n 3, 0, 0, 0, 0), (.aload_n 0, 0, 0, 0, 0), (.getfield 22, 0, 3, 88, 3), (.arraylength, 0, 0, 0, 0), (.if_icmp .ge 12, 1, 0, 0, 0), (.aload_n 0, 0, 0, 0, 0), (.getfield 22, 0, 3, 88, 3), (.iload_n 3, 0, 0, 0, 0), (.laload, 0, 0, 0, 0), (.goto 4, 2, 0, 0, 0)]
def q16_1 : List zI := [(.lconst 0, 0, 0, 0, 0), (.nop, 2, 0, 0, 0)]
def q16_2 : List zI := [(.lreturn, 0, 0, 0, 0)]
def bk16 : List (List zI) := [q16_0, q16_1, q16_2]
def q17_0 : List zI := [(.iload_n 1, 0, 0, 0, 0), (.iload_n 2, 0, 0, 0, 0), (.ixor, 0, 0, 0, 0), (.invokestatic 38, 172, 1, 397, 0), (.iload_n 3, 0, 0, 0, 0), (.aload_n 0, 0, 0, 0, 0), (.getfield 15, 0, 1, 86, 0), (.invokestatic 44, 998, 2, 403, 0), (.if_icmp .lt 7, 1, 0, 0, 0), (.iconst 1, 0, 1, 0, 0), (.goto 4, 2, 0, 0, 0)]
def q17_1 : List zI := [(.iconst 0, 0, 0, 0, 0), (.nop, 2, 0, 0, 0)]
def q17_2 : List zI := [(.ireturn, 0, 0, 0, 2)]
def bk17 : List (List zI) := [q17_0, q17_1, q17_2]
def q18_0 : List zI := [(.aload_n 0, 0, 0, 0, 0), (.getfield 15, 0, 1, 86, 0), (.iconst 1, 0, 1, 0, 0), (.if_icmp .ne 7, 1, 0, 0, 0), (.iconst 4, 0, 4, 0, 0), (.goto 9, 2, 0, 0, 0)]
def q18_1 : List zI := [(.iconst 2, 0, 2, 0, 0), (.aload_n 0, 0, 0, 0, 0), (.getfield 15, 0, 1, 86, 0), (.imul, 0, 0, 0, 0), (.nop, 2, 0, 0, 0)]
def q18_2 : List zI := [(.ireturn, 0, 0, 0, 0)]
def bk18 : List (List zI) := [q18_0, q18_1, q18_2]
def q19_0 : List zI := [(.aload_n 0, 0, 0, 0, 0), (.invokespecial 3, 999, 1, 197, 0), (.aload_n 0, 0, 0, 0, 0), (.sipush 12800, 0, 12800, 0, 0), (.newarray .byte, 3, 0, 0, 0), (.putfield 9, 1, 0, 198, 3), (.aload_n 0, 0, 0, 0, 0), (.iconst 0, 0, 0, 0, 0), (.putfield 15, 1, 1, 199, 0), (.aload_n 0, 0, 0, 0, 0), (.iconst 0, 0, 0, 0, 0), (.putfield 19, 1, 2, 200, 0), (.return_, 0, 0, 0, 0)]
def bk19 : List (List zI) := [q19_0]
def q20_0 : List zI := [(.aload_n 0, 0, 0, 0, 0), (.iconst 0, 0, 0, 0, 0), (.putfield 15, 1, 1, 199, 0), (.aload_n 0, 0, 0, 0, 0), (.iload_n 1, 0, 0, 0, 0), (.putfield 19, 1, 2, 200, 0), (.return_, 0, 0, 0, 0)]
def bk20 : List (List zI) := [q20_0]
def q21_0 : List zI := [(.aload_n 0, 0, 0, 0, 0), (.getfield 15, 1, 1, 199, 0), (.ireturn, 0, 0, 0, 0)]
def bk21 : List (List zI) := [q21_0]
def q22_0 : List zI := [(.aload_n 0, 0, 0, 0, 0), (.getfield 15, 1, 1, 199, 0), (.sipush 200, 0, 200, 0, 0), (.if_icmp .lt 7, 1, 0, 0, 0), (.iconst 1, 0, 1, 0, 0), (.goto 4, 2, 0, 0, 0)]
def q22_1 : List zI := [(.iconst 0, 0, 0, 0, 0), (.nop, 2, 0, 0, 0)]
def q22_2 : List zI := [(.ireturn, 0, 0, 0, 2)]
def bk22 : List (List zI) := [q22_0, q22_1, q22_2]
def q23_0 : List zI := [(.aload_n 0, 0, 0, 0, 0), (.invokevirtual 22, 22, 1, 665, 1), (.ifCond .eq 4, 1, 0, 0, 0), (.return_, 0, 0, 0, 0)]
def q23_1 : List zI := [(.iconst 0, 0, 0, 0, 0), (.istore_n 2, 0, 0, 0, 0), (.nop, 2, 0, 0, 1)]
def q23_2 : List zI := [(.iload_n 2, 0, 0, 0, 0), (.aload_n 0, 0, 0, 0, 0), (.getfield 19, 1, 2, 200, 0), (.if_icmp .ge 35, 3, 0, 0, 0), (.iload_n 2, 0, 0, 0, 0), (.bipush 64, 0, 64, 0, 0), (.if_icmp .ge 29, 3, 0, 0, 0), (.aload_n 0, 0, 0, 0, 0), (.getfield 9, 1, 0, 198, 3), (.aload_n 0, 0, 0, 0, 0), (.getfield 15, 1, 1, 199, 0), (.bipush 64, 0, 64, 0, 0), (.imul, 0, 0, 0, 0), (.iload_n 2, 0, 0, 0, 0), (.iadd, 0, 0, 0, 0), (.aload_n 1, 0, 0, 0, 0), (.iload_n 2, 0, 0, 0, 0), (.invokevirtual 26, 41, 2, 666, 1), (.i2b, 0, 0, 0, 0), (.bastore, 0, 0, 0, 0), (.iinc 2 1, 0, 0, 0, 0), (.goto (-37), 2, 0, 0, 1)]
def q23_3 : List zI := [(.aload_n 0, 0, 0, 0, 0), (.dup, 0, 0, 0, 0), (.getfield 15, 1, 1, 199, 0), (.iconst 1, 0, 1, 0, 0), (.iadd, 0, 0, 0, 0), (.putfield 15, 1, 1, 199, 0), (.return_, 0, 0, 0, 0)]
def bk23 : List (List zI) := [q23_0, q23_1, q23_2, q23_3]
def q24_0 : List zI := [(.aload_n 2, 0, 0, 0, 0), (.invokevirtual 32, 37, 1, 679, 1), (.iconst 0, 0, 0, 0, 0), (.istore_n 3, 0, 0, 0, 0), (.nop, 1, 0, 0, 1)]
def q24_1 : List zI := [(.iload_n 3, 0, 0, 0, 0), (.aload_n 0, 0, 0, 0, 0), (.getfield 19, 1, 2, 200, 0), (.if_icmp .ge 23, 2, 0, 0, 0), (.aload_n 2, 0, 0, 0, 0), (.aload_n 0, 0, 0, 0, 0), (.iload_n 1, 0, 0, 0, 0), (.bipush 64, 0, 64, 0, 0), (.imul, 0, 0, 0, 0), (.iload_n 3, 0, 0, 0, 0), (.iadd, 0, 0, 0, 0), (.invokevirtual 35, 25, 2, 680, 0), (.invokevirtual 36, 39, 2, 684, 1), (.iinc 3 1, 0, 0, 0, 0), (.goto (-25), 1, 0, 0, 1)]
def q24_2 : List zI := [(.return_, 0, 0, 0, 0)]
def bk24 : List (List zI) := [q24_0, q24_1, q24_2]
def q25_0 : List zI := [(.iload_n 1, 0, 0, 0, 0), (.ifCond .lt 21, 1, 0, 0, 0), (.iload_n 1, 0, 0, 0, 0), (.aload_n 0, 0, 0, 0, 0), (.getfield 9, 1, 0, 198, 3), (.arraylength, 0, 0, 0, 0), (.if_icmp .ge 12, 1, 0, 0, 0), (.aload_n 0, 0, 0, 0, 0), (.getfield 9, 1, 0, 198, 3), (.iload_n 1, 0, 0, 0, 0), (.baload, 0, 0, 0, 0), (.goto 4, 2, 0, 0, 0)]
def q25_1 : List zI := [(.iconst 0, 0, 0, 0, 0), (.nop, 2, 0, 0, 0)]
def q25_2 : List zI := [(.ireturn, 0, 0, 0, 0)]
def bk25 : List (List zI) := [q25_0, q25_1, q25_2]
def q26_0 : List zI := [(.aload_n 0, 0, 0, 0, 0), (.invokespecial 3, 999, 1, 136, 0), (.aload_n 0, 0, 0, 0, 0), (.bipush 6, 0, 6, 0, 0), (.newarray .int, 1, 0, 0, 0), (.putfield 9, 2, 0, 137, 3), (.return_, 0, 0, 0, 0)]
def bk26 : List (List zI) := [q26_0]
def q27_0 : List zI := [(.aload_n 3, 0, 0, 0, 0), (.invokevirtual 15, 37, 1, 482, 1), (.iconst 0, 0, 0, 0, 0), (.istore 4, 0, 0, 0, 0), (.nop, 1, 0, 0, 1)]
def q27_1 : List zI := [(.iload 4, 0, 0, 0, 0), (.aload_n 1, 0, 0, 0, 0), (.invokevirtual 20, 36, 1, 483, 1), (.if_icmp .ge 15, 2, 0, 0, 0), (.aload_n 3, 0, 0, 0, 0), (.bipush 6, 0, 6, 0, 0), (.invokevirtual 24, 39, 2, 484, 1), (.iinc 4 1, 0, 0, 0, 0), (.goto (-18), 1, 0, 0, 1)]
def q27_2 : List zI := [(.iload_n 2, 0, 0, 0, 0), (.ifCond .eq 10, 3, 0, 0, 0), (.aload_n 1, 0, 0, 0, 0), (.invokevirtual 20, 36, 1, 483, 1), (.goto 4, 4, 0, 0, 0)]
def q27_3 : List zI := [(.iconst 1, 0, 1, 0, 0), (.nop, 4, 0, 0, 0)]
def q27_4 : List zI := [(.istore 4, 0, 0, 0, 0), (.iconst 0, 0, 0, 0, 0), (.istore 5, 0, 0, 0, 0), (.nop, 5, 0, 0, 1)]
def q27_5 : List zI := [(.iload 5, 0, 0, 0, 0), (.iload 4, 0, 0, 0, 0), (.if_icmp .ge 27, 6, 0, 0, 0), (.aload_n 0, 0, 0, 0, 0), (.aload_n 1, 0, 0, 0, 0), (.iload 5, 0, 0, 0, 0), (.iconst 1, 0, 1, 0, 0), (.aload_n 3, 0, 0, 0, 0), (.invokevirtual 28, 28, 5, 485, 0), (.aload_n 0, 0, 0, 0, 0), (.aload_n 1, 0, 0, 0, 0), (.iload 5, 0, 0, 0, 0), (.iconst 0, 0, 0, 0, 0), (.aload_n 3, 0, 0, 0, 0), (.invokevirtual 28, 28, 5, 485, 0), (.iinc 5 1, 0, 0, 0, 0), (.goto (-28), 5, 0, 0, 1)]
def q27_6 : List zI := [(.return_, 0, 0, 0, 0)]
def bk27 : List (List zI) := [q27_0, q27_1, q27_2, q27_3, q27_4, q27_5, q27_6]
def q28_0 : List zI := [(.aload_n 0, 0, 0, 0, 0), (.invokevirtual 32, 31, 1, 489, 0), (.aload_n 1, 0, 0, 0, 0), (.invokevirtual 20, 36, 1, 483, 1), (.istore 5, 0, 0, 0, 0), (.iload_n 3, 0, 0, 0, 0), (.ifCond .eq 7, 1, 0, 0, 0), (.iload_n 2, 0, 0, 0, 0), (.goto 9, 2, 0, 0, 0)]
def q28_1 : List zI := [(.iload_n 2, 0, 0, 0, 0), (.iload 5, 0, 0, 0, 0), (.invokestatic 35, 30, 2, 493, 0), (.nop, 2, 0, 0, 0)]
def q28_2 : List zI := [(.istore 6, 0, 0, 0, 0), (.iconst 0, 0, 0, 0, 0), (.istore 7, 0, 0, 0, 0), (.iconst 0, 0, 0, 0, 0), (.istore 8, 0, 0, 0, 0), (.iconst 0, 0, 0, 0, 0), (.istore 9, 0, 0, 0, 0), (.nop, 3, 0, 0, 1)]
def q28_3 : List zI := [(.iload 9, 0, 0, 0, 0), (.iload 5, 0, 0, 0, 0), (.if_icmp .ge 121, 11, 0, 0, 0), (.aload_n 1, 0, 0, 0, 0), (.iload 6, 0, 0, 0, 0), (.invokevirtual 39, 41, 2, 496, 1), (.istore 10, 0, 0, 0, 0), (.iload_n 3, 0, 0, 0, 0), (.ifCond .eq 13, 4, 0, 0, 0), (.iload 6, 0, 0, 0, 0), (.iload 5, 0, 0, 0, 0), (.invokestatic 43, 29, 2, 497, 0), (.goto 10, 5, 0, 0, 0)]
def q28_4 : List zI := [(.iload 6, 0, 0, 0, 0), (.iload 5, 0, 0, 0, 0), (.invokestatic 35, 30, 2, 493, 0), (.nop, 5, 0, 0, 0)]
def q28_5 : List zI := [(.istore 6, 0, 0, 0, 0), (.aload_n 0, 0, 0, 0, 0), (.iload 10, 0, 0, 0, 0), (.invokevirtual 46, 32, 2, 500, 0), (.bipush (-9), 1, 9, 0, 0), (.if_icmp .ne 14, 6, 0, 0, 0), (.aload_n 0, 0, 0, 0, 0), (.iload 10, 0, 0, 0, 0), (.iload 7, 0, 0, 0, 0), (.invokevirtual 49, 33, 3, 504, 0), (.iinc 7 1, 0, 0, 0, 0), (.nop, 6, 0, 0, 0)]
def q28_6 : List zI := [(.aload_n 0, 0, 0, 0, 0), (.iload 10, 0, 0, 0, 0), (.invokevirtual 46, 32, 2, 500, 0), (.istore 11, 0, 0, 0, 0), (.iload 8, 0, 0, 0, 0), (.ifCond .ne 16, 7, 0, 0, 0), (.iload 11, 0, 0, 0, 0), (.aload 4, 0, 0, 0, 0), (.iload 9, 0, 0, 0, 0), (.invokevirtual 39, 41, 2, 496, 1), (.if_icmp .le 4, 7, 0, 0, 0), (.return_, 0, 0, 0, 0)]
def q28_7 : List zI := [(.iload 8, 0, 0, 0, 0), (.ifCond .ne 15, 8, 0, 0, 0), (.iload 11, 0, 0, 0, 0), (.aload 4, 0, 0, 0, 0), (.iload 9, 0, 0, 0, 0), (.invokevirtual 39, 41, 2, 496, 1), (.if_icmp .ge 7, 9, 0, 0, 0), (.nop, 8, 0, 0, 0)]
def q28_8 : List zI := [(.iconst 1, 0, 1, 0, 0), (.goto 4, 10, 0, 0, 0)]
def q28_9 : List zI := [(.iconst 0, 0, 0, 0, 0), (.nop, 10, 0, 0, 0)]
def q28_10 : List zI := [(.istore 8, 0, 0, 0, 0), (.aload 4, 0, 0, 0, 0), (.iload 9, 0, 0, 0, 0), (.iload 11, 0, 0, 0, 0), (.invokevirtual 53, 40, 3, 508, 1), (.iinc 9 1, 0, 0, 0, 0), (.goto (-122), 3, 0, 0, 1)]
def q28_11 : List zI := [(.return_, 0, 0, 0, 0)]
def bk28 : List (List zI) := [q28_0, q28_1, q28_2, q28_3, q28_4, q28_5, q28_6, q28_7, q28_8, q28_9, q28_10, q28_11]
def q29_0 : List zI := [(.iload_n 0, 0, 0, 0, 0), (.iconst 1, 0, 1, 0, 0), (.iadd, 0, 0, 0, 0), (.iload_n 1, 0, 0, 0, 0), (.if_icmp .ge 9, 1, 0, 0, 0), (.iload_n 0, 0, 0, 0, 0), (.iconst 1, 0, 1, 0, 0), (.iadd, 0, 0, 0, 0), (.goto 4, 2, 0, 0, 0)]
def q29_1 : List zI := [(.iconst 0, 0, 0, 0, 0), (.nop, 2, 0, 0, 0)]
def q29_2 : List zI := [(.ireturn, 0, 0, 0, 0)]
def bk29 : List (List zI) := [q29_0, q29_1, q29_2]
def q30_0 : List zI := [(.iload_n 0, 0, 0, 0, 0), (.ifCond .le 9, 1, 0, 0, 0), (.iload_n 0, 0, 0, 0, 0), (.iconst 1, 0, 1, 0, 0), (.isub, 0, 0, 0, 0), (.goto 6, 2, 0, 0, 0)]
def q30_1 : List zI := [(.iload_n 1, 0, 0, 0, 0), (.iconst 1, 0, 1, 0, 0), (.isub, 0, 0, 0, 0), (.nop, 2, 0, 0, 0)]
def q30_2 : List zI := [(.ireturn, 0, 0, 0, 0)]
def bk30 : List (List zI) := [q30_0, q30_1, q30_2]
def q31_0 : List zI := [(.iconst 0, 0, 0, 0, 0), (.istore_n 1, 0, 0, 0, 0), (.nop, 1, 0, 0, 1)]
def q31_1 : List zI := [(.iload_n 1, 0, 0, 0, 0), (.bipush 6, 0, 6, 0, 0), (.if_icmp .ge 17, 2, 0, 0, 0), (.aload_n 0, 0, 0, 0, 0), (.getfield 9, 2, 0, 137, 3), (.iload_n 1, 0, 0, 0, 0), (.bipush (-9), 1, 9, 0, 0), (.iastore, 0, 0, 0, 0), (.iinc 1 1, 0, 0, 0, 0), (.goto (-17), 1, 0, 0, 1)]
def q31_2 : List zI := [(.return_, 0, 0, 0, 0)]
def bk31 : List (List zI) := [q31_0, q31_1, q31_2]
def q32_0 : List zI := [(.iload_n 1, 0, 0, 0, 0), (.ifCond .lt 21, 1, 0, 0, 0), (.iload_n 1, 0, 0, 0, 0), (.aload_n 0, 0, 0, 0, 0), (.getfield 9, 2, 0, 137, 3), (.arraylength, 0, 0, 0, 0), (.if_icmp .ge 12, 1, 0, 0, 0), (.aload_n 0, 0, 0, 0, 0), (.getfield 9, 2, 0, 137, 3), (.iload_n 1, 0, 0, 0, 0), (.iaload, 0, 0, 0, 0), (.goto 4, 2, 0, 0, 0)]
def q32_1 : List zI := [(.iconst 0, 0, 0, 0, 0), (.nop, 2, 0, 0, 0)]
def q32_2 : List zI := [(.ireturn, 0, 0, 0, 0)]
def bk32 : List (List zI) := [q32_0, q32_1, q32_2]
def q33_0 : List zI := [(.iload_n 1, 0, 0, 0, 0), (.ifCond .lt 19, 1, 0, 0, 0), (.iload_n 1, 0, 0, 0, 0), (.aload_n 0, 0, 0, 0, 0), (.getfield 9, 2, 0, 137, 3), (.arraylength, 0, 0, 0, 0), (.if_icmp .ge 10, 1, 0, 0, 0), (.aload_n 0, 0, 0, 0, 0), (.getfield 9, 2, 0, 137, 3), (.iload_n 1, 0, 0, 0, 0), (.iload_n 2, 0, 0, 0, 0), (.iastore, 0, 0, 0, 0), (.nop, 1, 0, 0, 0)]
def q33_1 : List zI := [(.return_, 0, 0, 0, 0)]
def bk33 : List (List zI) := [q33_0, q33_1]
def q34_0 : List zI := [(.aload_n 0, 0, 0, 0, 0), (.invokespecial 3, 999, 1, 145, 0), (.aload_n 0, 0, 0, 0, 0), (.iconst 0, 0, 0, 0, 0), (.putfield 9, 3, 0, 146, 2), (.aload_n 0, 0, 0, 0, 0), (.iconst 0, 0, 0, 0, 0), (.putfield 15, 3, 1, 147, 0), (.aload_n 0, 0, 0, 0, 0), (.bipush 64, 0, 64, 0, 0), (.newarray .int, 1, 0, 0, 0), (.putfield 19, 3, 2, 148, 3), (.return_, 0, 0, 0, 0)]
def bk34 : List (List zI) := [q34_0]
def q35_0 : List zI := [(.aload_n 0, 0, 0, 0, 0), (.getfield 9, 3, 0, 146, 2), (.ireturn, 0, 0, 0, 2)]
def bk35 : List (List zI) := [q35_0]
def q36_0 : List zI := [(.aload_n 0, 0, 0, 0, 0), (.getfield 15, 3, 1, 147, 0), (.ireturn, 0, 0, 0, 0)]
def bk36 : List (List zI) := [q36_0]
def q37_0 : List zI := [(.aload_n 0, 0, 0, 0, 0), (.iconst 1, 0, 1, 0, 0), (.putfield 9, 3, 0, 146, 2), (.aload_n 0, 0, 0, 0, 0), (.iconst 0, 0, 0, 0, 0), (.putfield 15, 3, 1, 147, 0), (.return_, 0, 0, 0, 0)]
def bk37 : List (List zI) := [q37_0]
def q38_0 : List zI := [(.aload_n 0, 0, 0, 0, 0), (.iconst 0, 0, 0, 0, 0), (.putfield 9, 3, 0, 146, 2), (.aload_n 0, 0, 0, 0, 0), (.iconst 0, 0, 0, 0, 0), (.putfield 15, 3, 1, 147, 0), (.return_, 0, 0, 0, 0)]
def bk38 : List (List zI) := [q38_0]
def q39_0 : List zI := [(.aload_n 0, 0, 0, 0, 0), (.getfield 15, 3, 1, 147, 0), (.ifCond .lt 35, 1, 0, 0, 0), (.aload_n 0, 0, 0, 0, 0), (.getfield 15, 3, 1, 147, 0), (.aload_n 0, 0, 0, 0, 0), (.getfield 19, 3, 2, 148, 3), (.arraylength, 0, 0, 0, 0), (.if_icmp .ge 23, 1, 0, 0, 0), (.aload_n 0, 0, 0, 0, 0), (.getfield 19, 3, 2, 148, 3), (.aload_n 0, 0, 0, 0, 0), (.getfield 15, 3, 1, 147, 0), (.iload_n 1, 0, 0, 0, 0), (.iastore, 0, 0, 0, 0), (.aload_n 0, 0, 0, 0, 0), (.dup, 0, 0, 0, 0), (.getfield 15, 3, 1, 147, 0), (.iconst 1, 0, 1, 0, 0), (.iadd, 0, 0, 0, 0), (.putfield 15, 3, 1, 147, 0), (.nop, 1, 0, 0, 0)]
def q39_1 : List zI := [(.return_, 0, 0, 0, 0)]
def bk39 : List (List zI) := [q39_0, q39_1]
def q40_0 : List zI := [(.iload_n 1, 0, 0, 0, 0), (.ifCond .lt 27, 1, 0, 0, 0), (.iload_n 1, 0, 0, 0, 0), (.aload_n 0, 0, 0, 0, 0), (.getfield 15, 3, 1, 147, 0), (.if_icmp .ge 19, 1, 0, 0, 0), (.iload_n 1, 0, 0, 0, 0), (.aload_n 0, 0, 0, 0, 0), (.getfield 19, 3, 2, 148, 3), (.arraylength, 0, 0, 0, 0), (.if_icmp .ge 10, 1, 0, 0, 0), (.aload_n 0, 0, 0, 0, 0), (.getfield 19, 3, 2, 148, 3), (.iload_n 1, 0, 0, 0, 0), (.iload_n 2, 0, 0, 0, 0), (.iastore, 0, 0, 0, 0), (.nop, 1, 0, 0, 0)]
def q40_1 : List zI := [(.return_, 0, 0, 0, 0)]
def bk40 : List (List zI) := [q40_0, q40_1]
def q41_0 : List zI := [(.iload_n 1, 0, 0, 0, 0), (.ifCond .lt 29, 1, 0, 0, 0), (.iload_n 1, 0, 0, 0, 0), (.aload_n 0, 0, 0, 0, 0), (.getfield 15, 3, 1, 147, 0), (.if_icmp .ge 21, 1, 0, 0, 0), (.iload_n 1, 0, 0, 0, 0), (.aload_n 0, 0, 0, 0, 0), (.getfield 19, 3, 2, 148, 3), (.arraylength, 0, 0, 0, 0), (.if_icmp .ge 12, 1, 0, 0, 0), (.aload_n 0, 0, 0, 0, 0), (.getfield 19, 3, 2, 148, 3), (.iload_n 1, 0, 0, 0, 0), (.iaload, 0, 0, 0, 0), (.goto 4, 2, 0, 0, 0)]
def q41_1 : List zI := [(.iconst 0, 0, 0, 0, 0), (.nop, 2, 0, 0, 0)]
def q41_2 : List zI := [(.ireturn, 0, 0, 0, 0)]
def bk41 : List (List zI) := [q41_0, q41_1, q41_2]
def q42_0 : List zI := [(.iload_n 1, 0, 0, 0, 0), (.ifCond .lt 16, 1, 0, 0, 0), (.iload_n 1, 0, 0, 0, 0), (.aload_n 0, 0, 0, 0, 0), (.getfield 15, 3, 1, 147, 0), (.if_icmp .ge 8, 1, 0, 0, 0), (.aload_n 0, 0, 0, 0, 0), (.iload_n 1, 0, 0, 0, 0), (.putfield 15, 3, 1, 147, 0), (.nop, 1, 0, 0, 0)]
def q42_1 : List zI := [(.return_, 0, 0, 0, 0)]
def bk42 : List (List zI) := [q42_0, q42_1]
def q43_0 : List zI := [(.aload_n 0, 0, 0, 0, 0), (.invokevirtual 23, 37, 1, 592, 1), (.iconst 0, 0, 0, 0, 0), (.istore_n 2, 0, 0, 0, 0), (.nop, 1, 0, 0, 1)]
def q43_1 : List zI := [(.iload_n 2, 0, 0, 0, 0), (.aload_n 1, 0, 0, 0, 0), (.invokevirtual 26, 36, 1, 516, 1), (.if_icmp .ge 18, 2, 0, 0, 0), (.aload_n 0, 0, 0, 0, 0), (.aload_n 1, 0, 0, 0, 0), (.iload_n 2, 0, 0, 0, 0), (.invokevirtual 29, 41, 2, 517, 1), (.invokevirtual 33, 39, 2, 593, 1), (.iinc 2 1, 0, 0, 0, 0), (.goto (-20), 1, 0, 0, 1)]
def q43_2 : List zI := [(.return_, 0, 0, 0, 0)]
def bk43 : List (List zI) := [q43_0, q43_1, q43_2]
def q44_0 : List zI := [(.aload_n 0, 0, 0, 0, 0), (.getfield 15, 3, 1, 147, 0), (.aload_n 1, 0, 0, 0, 0), (.invokevirtual 26, 36, 1, 516, 1), (.if_icmp .eq 5, 1, 0, 0, 0), (.iconst 0, 0, 0, 0, 0), (.ireturn, 0, 0, 0, 2)]
def q44_1 : List zI := [(.iconst 0, 0, 0, 0, 0), (.istore_n 2, 0, 0, 0, 0), (.nop, 2, 0, 0, 1)]
def q44_2 : List zI := [(.iload_n 2, 0, 0, 0, 0), (.aload_n 0, 0, 0, 0, 0), (.getfield 15, 3, 1, 147, 0), (.if_icmp .ge 24, 4, 0, 0, 0), (.aload_n 0, 0, 0, 0, 0), (.iload_n 2, 0, 0, 0, 0), (.invokevirtual 29, 41, 2, 517, 1), (.aload_n 1, 0, 0, 0, 0), (.iload_n 2, 0, 0, 0, 0), (.invokevirtual 29, 41, 2, 517, 1), (.if_icmp .eq 5, 3, 0, 0, 0), (.iconst 0, 0, 0, 0, 0), (.ireturn, 0, 0, 0, 2)]
def q44_3 : List zI := [(.iinc 2 1, 0, 0, 0, 0), (.goto (-26), 2, 0, 0, 1)]
def q44_4 : List zI := [(.iconst 1, 0, 1, 0, 0), (.ireturn, 0, 0, 0, 2)]
def bk44 : List (List zI) := [q44_0, q44_1, q44_2, q44_3, q44_4]
def q45_0 : List zI := [(.aload_n 0, 0, 0, 0, 0), (.invokespecial 3, 999, 1, 161, 0), (.aload_n 0, 0, 0, 0, 0), (.new 9, 3, 3, 162, 0), (.dup, 0, 0, 0, 0), (.invokespecial 11, 34, 1, 163, 2), (.putfield 12, 4, 1, 165, 3), (.aload_n 0, 0, 0, 0, 0), (.bipush 65, 0, 65, 0, 0), (.newarray .int, 1, 0, 0, 0), (.putfield 18, 4, 2, 166, 3), (.aload_n 0, 0, 0, 0, 0), (.bipush 65, 0, 65, 0, 0), (.newarray .int, 1, 0, 0, 0), (.putfield 22, 4, 3, 167, 3), (.aload_n 0, 0, 0, 0, 0), (.bipush 65, 0, 65, 0, 0), (.newarray .long, 2, 0, 0, 0), (.putfield 25, 4, 4, 168, 3), (.aload_n 0, 0, 0, 0, 0), (.bipush 65, 0, 65, 0, 0), (.newarray .long, 2, 0, 0, 0), (.putfield 29, 4, 5, 169, 3), (.aload_n 0, 0, 0, 0, 0), (.iconst 0, 0, 0, 0, 0), (.putfield 32, 4, 6, 170, 2), (.aload_n 0, 0, 0, 0, 0), (.iconst 0, 0, 0, 0, 0), (.putfield 36, 4, 7, 171, 2), (.aload_n 0, 0, 0, 0, 0), (.iconst 0, 0, 0, 0, 0), (.putfield 39, 4, 8, 172, 0), (.aload_n 0, 0, 0, 0, 0), (.aload_n 1, 0, 0, 0, 0), (.putfield 43, 4, 0, 164, 3), (.return_, 0, 0, 0, 0)]
def bk45 : List (List zI) := [q45_0]
def q46_0 : List zI := [(.aload_n 0, 0, 0, 0, 0), (.iload_n 1, 0, 0, 0, 0), (.putfield 32, 4, 6, 170, 2), (.aload_n 0, 0, 0, 0, 0), (.iload_n 2, 0, 0, 0, 0), (.bipush 64, 0, 64, 0, 0), (.invokestatic 47, 998, 2, 553, 0), (.putfield 39, 4, 8, 172, 0), (.aload_n 0, 0, 0, 0, 0), (.iconst 0, 0, 0, 0, 0), (.putfield 36, 4, 7, 171, 2), (.aload_n 0, 0, 0, 0, 0), (.getfield 12, 4, 1, 165, 3), (.invokevirtual 53, 37, 1, 554, 1), (.aload_n 0, 0, 0, 0, 0), (.iconst 0, 0, 0, 0, 0), (.aload_n 0, 0, 0, 0, 0), (.getfield 43, 4, 0, 164, 3), (.invokevirtual 56, 13, 1, 555, 1), (.ifCond .eq 7, 1, 0, 0, 0), (.iconst 0, 0, 0, 0, 0), (.goto 12, 2, 0, 0, 0)]
def q46_1 : List zI := [(.aload_n 0, 0, 0, 0, 0), (.getfield 43, 4, 0, 164, 3), (.invokevirtual 62, 8, 1, 559, 1), (.iconst 1, 0, 1, 0, 0), (.isub, 0, 0, 0, 0), (.nop, 2, 0, 0, 0)]
def q46_2 : List zI := [(.invokevirtual 66, 54, 3, 560, 0), (.return_, 0, 0, 0, 0)]
def bk46 : List (List zI) := [q46_0, q46_1, q46_2]
def q47_0 : List zI := [(.aload_n 0, 0, 0, 0, 0), (.getfield 12, 4, 1, 165, 3), (.areturn, 0, 0, 0, 0)]
def bk47 : List (List zI) := [q47_0]
def q48_0 : List zI := [(.aload_n 0, 0, 0, 0, 0), (.getfield 36, 4, 7, 171, 2), (.ifCond .ne 10, 1, 0, 0, 0), (.aload_n 0, 0, 0, 0, 0), (.getfield 32, 4, 6, 170, 2), (.ifCond .ne 7, 2, 0, 0, 0), (.nop, 1, 0, 0, 0)]
def q48_1 : List zI := [(.iconst 1, 0, 1, 0, 0), (.goto 4, 3, 0, 0, 0)]
def q48_2 : List zI := [(.iconst 0, 0, 0, 0, 0), (.nop, 3, 0, 0, 0)]
def q48_3 : List zI := [(.ireturn, 0, 0, 0, 2)]
def bk48 : List (List zI) := [q48_0, q48_1, q48_2, q48_3]
def q49_0 : List zI := [(.aload_n 0, 0, 0, 0, 0), (.getfield 36, 4, 7, 171, 2), (.ifCond .ne 17, 1, 0, 0, 0), (.aload_n 0, 0, 0, 0, 0), (.getfield 12, 4, 1, 165, 3), (.invokevirtual 70, 36, 1, 564, 1), (.aload_n 0, 0, 0, 0, 0), (.getfield 39, 4, 8, 172, 0), (.if_icmp .lt 10, 2, 0, 0, 0), (.nop, 1, 0, 0, 0)]
def q49_1 : List zI := [(.aload_n 0, 0, 0, 0, 0), (.invokevirtual 73, 50, 1, 602, 0), (.goto 4, 3, 0, 0, 0)]
def q49_2 : List zI := [(.iconst 0, 0, 0, 0, 0), (.nop, 3, 0, 0, 0)]
def q49_3 : List zI := [(.istore_n 1, 0, 0, 0, 0), (.iconst 0, 0, 0, 0, 0), (.istore_n 2, 0, 0, 0, 0), (.nop, 4, 0, 0, 1)]
def q49_4 : List zI := [(.iload_n 2, 0, 0, 0, 0), (.sipush 1000, 0, 1000, 0, 0), (.if_icmp .ge 49, 8, 0, 0, 0), (.iload_n 1, 0, 0, 0, 0), (.ifCond .lt 45, 8, 0, 0, 0), (.iload_n 1, 0, 0, 0, 0), (.aload_n 0, 0, 0, 0, 0), (.aload_n 0, 0, 0, 0, 0), (.getfield 12, 4, 1, 165, 3), (.invokevirtual 70, 36, 1, 564, 1), (.invokevirtual 76, 52, 2, 608, 0), (.if_icmp .le 11, 5, 0, 0, 0), (.aload_n 0, 0, 0, 0, 0), (.invokevirtual 73, 50, 1, 602, 0), (.istore_n 1, 0, 0, 0, 0), (.goto 16, 7, 0, 0, 0)]
def q49_5 : List zI := [(.aload_n 0, 0, 0, 0, 0), (.iload_n 1, 0, 0, 0, 0), (.invokevirtual 80, 51, 2, 612, 0), (.ifCond .eq 5, 6, 0, 0, 0), (.iconst 1, 0, 1, 0, 0), (.ireturn, 0, 0, 0, 2)]
def q49_6 : List zI := [(.iinc 1 1, 0, 0, 0, 0), (.nop, 7, 0, 0, 0)]
def q49_7 : List zI := [(.iinc 2 1, 0, 0, 0, 0), (.goto (-50), 4, 0, 0, 1)]
def q49_8 : List zI := [(.iconst 0, 0, 0, 0, 0), (.ireturn, 0, 0, 0, 2)]
def bk49 : List (List zI) := [q49_0, q49_1, q49_2, q49_3, q49_4, q49_5, q49_6, q49_7, q49_8]
def q50_0 : List zI := [(.aload_n 0, 0, 0, 0, 0), (.getfield 12, 4, 1, 165, 3), (.invokevirtual 70, 36, 1, 564, 1), (.iconst 1, 0, 1, 0, 0), (.isub, 0, 0, 0, 0), (.istore_n 1, 0, 0, 0, 0), (.aload_n 0, 0, 0, 0, 0), (.iconst 0, 0, 0, 0, 0), (.putfield 36, 4, 7, 171, 2), (.iload_n 1, 0, 0, 0, 0), (.ifCond .ge 6, 1, 0, 0, 0), (.bipush (-9), 1, 9, 0, 0), (.ireturn, 0, 0, 0, 0)]
def q50_1 : List zI := [(.aload_n 0, 0, 0, 0, 0), (.getfield 12, 4, 1, 165, 3), (.iload_n 1, 0, 0, 0, 0), (.invokevirtual 84, 41, 2, 606, 1), (.istore_n 2, 0, 0, 0, 0), (.aload_n 0, 0, 0, 0, 0), (.getfield 12, 4, 1, 165, 3), (.iload_n 1, 0, 0, 0, 0), (.invokevirtual 87, 42, 2, 607, 1), (.iload_n 2, 0, 0, 0, 0), (.iconst 1, 0, 1, 0, 0), (.iadd, 0, 0, 0, 0), (.ireturn, 0, 0, 0, 0)]
def bk50 : List (List zI) := [q50_0, q50_1]
def q51_0 : List zI := [(.aload_n 0, 0, 0, 0, 0), (.getfield 12, 4, 1, 165, 3), (.invokevirtual 70, 36, 1, 564, 1), (.istore_n 2, 0, 0, 0, 0), (.iload_n 2, 0, 0, 0, 0), (.bipush 64, 0, 64, 0, 0), (.if_icmp .lt 5, 1, 0, 0, 0), (.iconst 0, 0, 0, 0, 0), (.ireturn, 0, 0, 0, 2)]
def q51_1 : List zI := [(.aload_n 0, 0, 0, 0, 0), (.getfield 18, 4, 2, 166, 3), (.iload_n 2, 0, 0, 0, 0), (.iaload, 0, 0, 0, 0), (.iconst 1, 0, 1, 0, 0), (.iload_n 1, 0, 0, 0, 0), (.ishl, 0, 0, 0, 0), (.ixor, 0, 0, 0, 0), (.istore_n 3, 0, 0, 0, 0), (.aload_n 0, 0, 0, 0, 0), (.getfield 32, 4, 6, 170, 2), (.ifCond .eq 38, 3, 0, 0, 0), (.iload_n 3, 0, 0, 0, 0), (.ifCond .ne 34, 3, 0, 0, 0), (.aload_n 0, 0, 0, 0, 0), (.aload_n 0, 0, 0, 0, 0), (.iload_n 2, 0, 0, 0, 0), (.iconst 1, 0, 1, 0, 0), (.iadd, 0, 0, 0, 0), (.invokevirtual 91, 53, 2, 616, 0), (.putfield 36, 4, 7, 171, 2), (.aload_n 0, 0, 0, 0, 0), (.getfield 36, 4, 7, 171, 2), (.ifCond .eq 11, 2, 0, 0, 0), (.aload_n 0, 0, 0, 0, 0), (.getfield 12, 4, 1, 165, 3), (.iload_n 1, 0, 0, 0, 0), (.invokevirtual 94, 39, 2, 622, 1), (.nop, 2, 0, 0, 0)]
def q51_2 : List zI := [(.aload_n 0, 0, 0, 0, 0), (.getfield 36, 4, 7, 171, 2), (.ireturn, 0, 0, 0, 2)]
def q51_3 : List zI := [(.aload_n 0, 0, 0, 0, 0), (.getfield 29, 4, 5, 169, 3), (.iload_n 2, 0, 0, 0, 0), (.laload, 0, 0, 0, 0), (.iload_n 3, 0, 0, 0, 0), (.invokestatic 97, 1, 2, 623, 0), (.ifCond .eq 5, 4, 0, 0, 0), (.iconst 0, 0, 0, 0, 0), (.ireturn, 0, 0, 0, 2)]
def q51_4 : List zI := [(.aload_n 0, 0, 0, 0, 0), (.getfield 12, 4, 1, 165, 3), (.iload_n 1, 0, 0, 0, 0), (.invokevirtual 94, 39, 2, 622, 1), (.aload_n 0, 0, 0, 0, 0), (.iload_n 3, 0, 0, 0, 0), (.aload_n 0, 0, 0, 0, 0), (.getfield 22, 4, 3, 167, 3), (.iload_n 2, 0, 0, 0, 0), (.iaload, 0, 0, 0, 0), (.iload_n 1, 0, 0, 0, 0), (.iconst 1, 0, 1, 0, 0), (.iadd, 0, 0, 0, 0), (.invokestatic 103, 997, 2, 624, 0), (.invokevirtual 66, 54, 3, 560, 0), (.iconst 1, 0, 1, 0, 0), (.ireturn, 0, 0, 0, 2)]
def bk51 : List (List zI) := [q51_0, q51_1, q51_2, q51_3, q51_4]
def q52_0 : List zI := [(.iload_n 1, 0, 0, 0, 0), (.ifCond .lt 21, 1, 0, 0, 0), (.iload_n 1, 0, 0, 0, 0), (.aload_n 0, 0, 0, 0, 0), (.getfield 22, 4, 3, 167, 3), (.arraylength, 0, 0, 0, 0), (.if_icmp .ge 12, 1, 0, 0, 0), (.aload_n 0, 0, 0, 0, 0), (.getfield 22, 4, 3, 167, 3), (.iload_n 1, 0, 0, 0, 0), (.iaload, 0, 0, 0, 0), (.goto 5, 2, 0, 0, 0)]
def q52_1 : List zI := [(.bipush (-9), 1, 9, 0, 0), (.nop, 2, 0, 0, 0)]
def q52_2 : List zI := [(.ireturn, 0, 0, 0, 0)]
def bk52 : List (List zI) := [q52_0, q52_1, q52_2]
def q53_0 : List zI := [(.iload_n 1, 0, 0, 0, 0), (.aload_n 0, 0, 0, 0, 0), (.getfield 43, 4, 0, 164, 3), (.invokevirtual 106, 18, 1, 620, 0), (.if_icmp .ge 5, 1, 0, 0, 0), (.iconst 0, 0, 0, 0, 0), (.ireturn, 0, 0, 0, 2)]
def q53_1 : List zI := [(.iconst 0, 0, 0, 0, 0), (.istore_n 2, 0, 0, 0, 0), (.nop, 2, 0, 0, 1)]
def q53_2 : List zI := [(.iload_n 2, 0, 0, 0, 0), (.aload_n 0, 0, 0, 0, 0), (.getfield 43, 4, 0, 164, 3), (.invokevirtual 109, 9, 1, 565, 1), (.if_icmp .ge 77, 6, 0, 0, 0), (.iload_n 2, 0, 0, 0, 0), (.iload_n 1, 0, 0, 0, 0), (.if_icmp .ge 72, 6, 0, 0, 0), (.iload_n 2, 0, 0, 0, 0), (.iconst 1, 0, 1, 0, 0), (.iadd, 0, 0, 0, 0), (.istore_n 3, 0, 0, 0, 0), (.nop, 3, 0, 0, 1)]
def q53_3 : List zI := [(.iload_n 3, 0, 0, 0, 0), (.iload_n 1, 0, 0, 0, 0), (.if_icmp .ge 57, 5, 0, 0, 0), (.iload_n 3, 0, 0, 0, 0), (.aload_n 0, 0, 0, 0, 0), (.getfield 18, 4, 2, 166, 3), (.arraylength, 0, 0, 0, 0), (.if_icmp .ge 48, 5, 0, 0, 0), (.iload_n 3, 0, 0, 0, 0), (.iload_n 2, 0, 0, 0, 0), (.isub, 0, 0, 0, 0), (.iload_n 1, 0, 0, 0, 0), (.iload_n 3, 0, 0, 0, 0), (.iload_n 2, 0, 0, 0, 0), (.isub, 0, 0, 0, 0), (.isub, 0, 0, 0, 0), (.invokestatic 47, 998, 2, 553, 0), (.istore 4, 0, 0, 0, 0), (.aload_n 0, 0, 0, 0, 0), (.getfield 43, 4, 0, 164, 3), (.aload_n 0, 0, 0, 0, 0), (.getfield 18, 4, 2, 166, 3), (.iload_n 2, 0, 0, 0, 0), (.iaload, 0, 0, 0, 0), (.aload_n 0, 0, 0, 0, 0), (.getfield 18, 4, 2, 166, 3), (.iload_n 3, 0, 0, 0, 0), (.iaload, 0, 0, 0, 0), (.iload 4, 0, 0, 0, 0), (.invokevirtual 112, 17, 4, 621, 0), (.ifCond .ne 5, 4, 0, 0, 0), (.iconst 0, 0, 0, 0, 0), (.ireturn, 0, 0, 0, 2)]
def q53_4 : List zI := [(.iinc 3 1, 0, 0, 0, 0), (.goto (-56), 3, 0, 0, 1)]
def q53_5 : List zI := [(.iinc 2 1, 0, 0, 0, 0), (.goto (-82), 2, 0, 0, 1)]
def q53_6 : List zI := [(.iconst 1, 0, 1, 0, 0), (.ireturn, 0, 0, 0, 2)]
def bk53 : List (List zI) := [q53_0, q53_1, q53_2, q53_3, q53_4, q53_5, q53_6]
def q54_0 : List zI := [(.aload_n 0, 0, 0, 0, 0), (.getfield 12, 4, 1, 165, 3), (.invokevirtual 70, 36, 1, 564, 1), (.istore_n 3, 0, 0, 0, 0), (.iload_n 3, 0, 0, 0, 0), (.aload_n 0, 0, 0, 0, 0), (.getfield 18, 4, 2, 166, 3), (.arraylength, 0, 0, 0, 0), (.if_icmp .lt 4, 1, 0, 0, 0), (.return_, 0, 0, 0, 0)]
def q54_1 : List zI := [(.aload_n 0, 0, 0, 0, 0), (.getfield 43, 4, 0, 164, 3), (.invokevirtual 109, 9, 1, 565, 1), (.istore 4, 0, 0, 0, 0), (.aload_n 0, 0, 0, 0, 0), (.getfield 18, 4, 2, 166, 3), (.iload_n 3, 0, 0, 0, 0), (.iload_n 1, 0, 0, 0, 0), (.iastore, 0, 0, 0, 0), (.aload_n 0, 0, 0, 0, 0), (.getfield 22, 4, 3, 167, 3), (.iload_n 3, 0, 0, 0, 0), (.iload_n 2, 0, 0, 0, 0), (.aload_n 0, 0, 0, 0, 0), (.getfield 43, 4, 0, 164, 3), (.invokevirtual 62, 8, 1, 559, 1), (.iconst 1, 0, 1, 0, 0), (.isub, 0, 0, 0, 0), (.invokestatic 47, 998, 2, 553, 0), (.iastore, 0, 0, 0, 0), (.aload_n 0, 0, 0, 0, 0), (.getfield 25, 4, 4, 168, 3), (.iload_n 3, 0, 0, 0, 0), (.aload_n 0, 0, 0, 0, 0), (.iload_n 3, 0, 0, 0, 0), (.iconst 1, 0, 1, 0, 0), (.isub, 0, 0, 0, 0), (.invokevirtual 116, 55, 2, 569, 0), (.aload_n 0, 0, 0, 0, 0), (.iload_n 3, 0, 0, 0, 0), (.iload 4, 0, 0, 0, 0), (.iconst 1, 0, 1, 0, 0), (.isub, 0, 0, 0, 0), (.invokevirtual 120, 56, 3, 574, 0), (.lor, 0, 0, 0, 0), (.lastore, 0, 0, 0, 0), (.aload_n 0, 0, 0, 0, 0), (.iload_n 3, 0, 0, 0, 0), (.iconst 1, 0, 1, 0, 0), (.iadd, 0, 0, 0, 0), (.iload 4, 0, 0, 0, 0), (.isub, 0, 0, 0, 0), (.invokevirtual 116, 55, 2, 569, 0), (.lstore 5, 0, 0, 0, 0), (.iconst 1, 0, 1, 0, 0), (.istore 7, 0, 0, 0, 0), (.nop, 2, 0, 0, 1)]
def q54_2 : List zI := [(.iload 7, 0, 0, 0, 0), (.iload 4, 0, 0, 0, 0), (.if_icmp .ge 28, 3, 0, 0, 0), (.lload 5, 0, 0, 0, 0), (.aload_n 0, 0, 0, 0, 0), (.iload_n 3, 0, 0, 0, 0), (.iconst 1, 0, 1, 0, 0), (.iadd, 0, 0, 0, 0), (.iload 7, 0, 0, 0, 0), (.isub, 0, 0, 0, 0), (.iload 7, 0, 0, 0, 0), (.iconst 1, 0, 1, 0, 0), (.isub, 0, 0, 0, 0), (.invokevirtual 120, 56, 3, 574, 0), (.lor, 0, 0, 0, 0), (.lstore 5, 0, 0, 0, 0), (.iinc 7 1, 0, 0, 0, 0), (.goto (-29), 2, 0, 0, 1)]
def q54_3 : List zI := [(.aload_n 0, 0, 0, 0, 0), (.getfield 29, 4, 5, 169, 3), (.iload_n 3, 0, 0, 0, 0), (.lload 5, 0, 0, 0, 0), (.lastore, 0, 0, 0, 0), (.return_, 0, 0, 0, 0)]
def bk54 : List (List zI) := [q54_0, q54_1, q54_2, q54_3]
def q55_0 : List zI := [(.iload_n 1, 0, 0, 0, 0), (.ifCond .lt 21, 1, 0, 0, 0), (.iload_n 1, 0, 0, 0, 0), (.aload_n 0, 0, 0, 0, 0), (.getfield 25, 4, 4, 168, 3), (.arraylength, 0, 0, 0, 0), (.if_icmp .ge 12, 1, 0, 0, 0), (.aload_n 0, 0, 0, 0, 0), (.getfield 25, 4, 4, 168, 3), (.iload_n 1, 0, 0, 0, 0), (.laload, 0, 0, 0, 0), (.goto 10, 2, 0, 0, 0)]
def q55_1 : List zI := [(.aload_n 0, 0, 0, 0, 0), (.getfield 43, 4, 0, 164, 3), (.invokevirtual 124, 10, 1, 573, 1), (.nop, 2, 0, 0, 0)]
def q55_2 : List zI := [(.lreturn, 0, 0, 0, 0)]
def bk55 : List (List zI) := [q55_0, q55_1, q55_2]
def q56_0 : List zI := [(.iload_n 1, 0, 0, 0, 0), (.ifCond .lt 12, 1, 0, 0, 0), (.iload_n 1, 0, 0, 0, 0), (.aload_n 0, 0, 0, 0, 0), (.getfield 18, 4, 2, 166, 3), (.arraylength, 0, 0, 0, 0), (.if_icmp .lt 5, 2, 0, 0, 0), (.nop, 1, 0, 0, 0)]
def q56_1 : List zI := [(.lconst 0, 0, 0, 0, 0), (.lreturn, 0, 0, 0, 0)]
def q56_2 : List zI := [(.aload_n 0, 0, 0, 0, 0), (.getfield 43, 4, 0, 164, 3), (.aload_n 0, 0, 0, 0, 0), (.getfield 18, 4, 2, 166, 3), (.iload_n 1, 0, 0, 0, 0), (.iaload, 0, 0, 0, 0), (.iload_n 2, 0, 0, 0, 0), (.invokevirtual 128, 16, 3, 578, 0), (.lstore_n 3, 0, 0, 0, 0), (.aload_n 0, 0, 0, 0, 0), (.getfield 32, 4, 6, 170, 2), (.ifCond .eq 25, 3, 0, 0, 0), (.aload_n 0, 0, 0, 0, 0), (.getfield 43, 4, 0, 164, 3), (.iconst 0, 0, 0, 0, 0), (.aload_n 0, 0, 0, 0, 0), (.getfield 43, 4, 0, 164, 3), (.invokevirtual 109, 9, 1, 565, 1), (.iconst 1, 0, 1, 0, 0), (.isub, 0, 0, 0, 0), (.iload_n 1, 0, 0, 0, 0), (.isub, 0, 0, 0, 0), (.invokevirtual 128, 16, 3, 578, 0), (.goto 4, 4, 0, 0, 0)]
def q56_3 : List zI := [(.lconst 0, 0, 0, 0, 0), (.nop, 4, 0, 0, 0)]
def q56_4 : List zI := [(.lstore 5, 0, 0, 0, 0), (.lload_n 3, 0, 0, 0, 0), (.lload 5, 0, 0, 0, 0), (.ldc2_w 131, 1, 1, 579, 0), (.lxor, 0, 0, 0, 0), (.land, 0, 0, 0, 0), (.lconst 1, 0, 1, 0, 0), (.aload_n 0, 0, 0, 0, 0), (.getfield 18, 4, 2, 166, 3), (.iload_n 1, 0, 0, 0, 0), (.iaload, 0, 0, 0, 0), (.lshl, 0, 0, 0, 0), (.lor, 0, 0, 0, 0), (.lreturn, 0, 0, 0, 0)]
def bk56 : List (List zI) := [q56_0, q56_1, q56_2, q56_3, q56_4]
def q57_0 : List zI := [(.aload_n 0, 0, 0, 0, 0), (.invokespecial 3, 999, 1, 126, 0), (.aload_n 0, 0, 0, 0, 0), (.bipush 64, 0, 64, 0, 0), (.newarray .long, 2, 0, 0, 0), (.putfield 9, 5, 0, 127, 3), (.return_, 0, 0, 0, 0)]
def bk57 : List (List zI) := [q57_0]
def q58_0 : List zI := [(.iconst 1, 0, 1, 0, 0), (.iload_n 3, 0, 0, 0, 0), (.ishl, 0, 0, 0, 0), (.istore 4, 0, 0, 0, 0), (.aload_n 0, 0, 0, 0, 0), (.lload_n 1, 0, 0, 0, 0), (.iload_n 3, 0, 0, 0, 0), (.invokevirtual 15, 59, 3, 530, 0), (.iconst 0, 0, 0, 0, 0), (.istore 5, 0, 0, 0, 0), (.iload_n 3, 0, 0, 0, 0), (.invokestatic 19, 60, 1, 535, 0), (.istore 6, 0, 0, 0, 0), (.iconst 0, 0, 0, 0, 0), (.istore 7, 0, 0, 0, 0), (.nop, 1, 0, 0, 1)]
def q58_1 : List zI := [(.iload 7, 0, 0, 0, 0), (.iload 6, 0, 0, 0, 0), (.if_icmp .ge 60, 5, 0, 0, 0), (.lload_n 1, 0, 0, 0, 0), (.iload_n 3, 0, 0, 0, 0), (.iload 7, 0, 0, 0, 0), (.invokestatic 23, 61, 3, 538, 0), (.lstore 8, 0, 0, 0, 0), (.iconst 0, 0, 0, 0, 0), (.istore 10, 0, 0, 0, 0), (.nop, 2, 0, 0, 1)]
def q58_2 : List zI := [(.iload 10, 0, 0, 0, 0), (.iload 4, 0, 0, 0, 0), (.if_icmp .ge 35, 4, 0, 0, 0), (.iload 10, 0, 0, 0, 0), (.aload_n 0, 0, 0, 0, 0), (.getfield 9, 5, 0, 127, 3), (.arraylength, 0, 0, 0, 0), (.if_icmp .ge 25, 4, 0, 0, 0), (.aload_n 0, 0, 0, 0, 0), (.getfield 9, 5, 0, 127, 3), (.iload 10, 0, 0, 0, 0), (.laload, 0, 0, 0, 0), (.lload 8, 0, 0, 0, 0), (.lcmp, 0, 0, 0, 0), (.ifCond .ne 6, 3, 0, 0, 0), (.iinc 5 1, 0, 0, 0, 0), (.nop, 3, 0, 0, 0)]
def q58_3 : List zI := [(.iinc 10 1, 0, 0, 0, 0), (.goto (-36), 2, 0, 0, 1)]
def q58_4 : List zI := [(.iinc 7 1, 0, 0, 0, 0), (.goto (-61), 1, 0, 0, 1)]
def q58_5 : List zI := [(.iload 5, 0, 0, 0, 0), (.ireturn, 0, 0, 0, 0)]
def bk58 : List (List zI) := [q58_0, q58_1, q58_2, q58_3, q58_4, q58_5]
def q59_0 : List zI := [(.aload_n 0, 0, 0, 0, 0), (.getfield 9, 5, 0, 127, 3), (.iconst 0, 0, 0, 0, 0), (.lload_n 1, 0, 0, 0, 0), (.lastore, 0, 0, 0, 0), (.iconst 0, 0, 0, 0, 0), (.istore 4, 0, 0, 0, 0), (.nop, 1, 0, 0, 1)]
def q59_1 : List zI := [(.iload 4, 0, 0, 0, 0), (.iload_n 3, 0, 0, 0, 0), (.if_icmp .ge 66, 4, 0, 0, 0), (.iconst 1, 0, 1, 0, 0), (.iload 4, 0, 0, 0, 0), (.ishl, 0, 0, 0, 0), (.istore 5, 0, 0, 0, 0), (.iconst 0, 0, 0, 0, 0), (.istore 6, 0, 0, 0, 0), (.nop, 2, 0, 0, 1)]
def q59_2 : List zI := [(.iload 6, 0, 0, 0, 0), (.iload 5, 0, 0, 0, 0), (.if_icmp .ge 44, 3, 0, 0, 0), (.iload 6, 0, 0, 0, 0), (.iload 5, 0, 0, 0, 0), (.iadd, 0, 0, 0, 0), (.aload_n 0, 0, 0, 0, 0), (.getfield 9, 5, 0, 127, 3), (.arraylength, 0, 0, 0, 0), (.if_icmp .ge 31, 3, 0, 0, 0), (.aload_n 0, 0, 0, 0, 0), (.getfield 9, 5, 0, 127, 3), (.iload 6, 0, 0, 0, 0), (.iload 5, 0, 0, 0, 0), (.iadd, 0, 0, 0, 0), (.aload_n 0, 0, 0, 0, 0), (.getfield 9, 5, 0, 127, 3), (.iload 6, 0, 0, 0, 0), (.laload, 0, 0, 0, 0), (.iload 4, 0, 0, 0, 0), (.invokestatic 27, 2, 2, 534, 0), (.lastore, 0, 0, 0, 0), (.iinc 6 1, 0, 0, 0, 0), (.goto (-45), 2, 0, 0, 1)]
def q59_3 : List zI := [(.iinc 4 1, 0, 0, 0, 0), (.goto (-66), 1, 0, 0, 1)]
def q59_4 : List zI := [(.return_, 0, 0, 0, 0)]
def bk59 : List (List zI) := [q59_0, q59_1, q59_2, q59_3, q59_4]
def q60_0 : List zI := [(.iconst 1, 0, 1, 0, 0), (.istore_n 1, 0, 0, 0, 0), (.iconst 2, 0, 2, 0, 0), (.istore_n 2, 0, 0, 0, 0), (.nop, 1, 0, 0, 1)]
def q60_1 : List zI := [(.iload_n 2, 0, 0, 0, 0), (.iload_n 0, 0, 0, 0, 0), (.if_icmp .gt 13, 2, 0, 0, 0), (.iload_n 1, 0, 0, 0, 0), (.iload_n 2, 0, 0, 0, 0), (.imul, 0, 0, 0, 0), (.istore_n 1, 0, 0, 0, 0), (.iinc 2 1, 0, 0, 0, 0), (.goto (-12), 1, 0, 0, 1)]
def q60_2 : List zI := [(.iload_n 1, 0, 0, 0, 0), (.ireturn, 0, 0, 0, 0)]
def bk60 : List (List zI) := [q60_0, q60_1, q60_2]
def q61_0 : List zI := [(.lload_n 0, 0, 0, 0, 0), (.lstore 4, 0, 0, 0, 0), (.iload_n 3, 0, 0, 0, 0), (.istore 6, 0, 0, 0, 0), (.iload_n 2, 0, 0, 0, 0), (.iconst 1, 0, 1, 0, 0), (.isub, 0, 0, 0, 0), (.istore 7, 0, 0, 0, 0), (.nop, 1, 0, 0, 1)]
def q61_1 : List zI := [(.iload 7, 0, 0, 0, 0), (.ifCond .le 47, 3, 0, 0, 0), (.iload 7, 0, 0, 0, 0), (.iconst 1, 0, 1, 0, 0), (.iadd, 0, 0, 0, 0), (.istore 8, 0, 0, 0, 0), (.iload 6, 0, 0, 0, 0), (.iload 8, 0, 0, 0, 0), (.irem, 0, 0, 0, 0), (.istore 9, 0, 0, 0, 0), (.iload 6, 0, 0, 0, 0), (.iload 8, 0, 0, 0, 0), (.idiv, 0, 0, 0, 0), (.istore 6, 0, 0, 0, 0), (.iload 9, 0, 0, 0, 0), (.iload 7, 0, 0, 0, 0), (.if_icmp .ge 14, 2, 0, 0, 0), (.lload 4, 0, 0, 0, 0), (.iload 9, 0, 0, 0, 0), (.iload 7, 0, 0, 0, 0), (.invokestatic 33, 4, 3, 541, 0), (.lstore 4, 0, 0, 0, 0), (.nop, 2, 0, 0, 0)]
def q61_2 : List zI := [(.iinc 7 (-1), 0, 0, 0, 0), (.goto (-46), 1, 0, 0, 1)]
def q61_3 : List zI := [(.lload 4, 0, 0, 0, 0), (.lreturn, 0, 0, 0, 0)]
def bk61 : List (List zI) := [q61_0, q61_1, q61_2, q61_3]
def q62_0 : List zI := [(.aload_n 0, 0, 0, 0, 0), (.invokespecial 3, 999, 1, 106, 0), (.aload_n 0, 0, 0, 0, 0), (.bipush 66, 0, 66, 0, 0), (.newarray .int, 1, 0, 0, 0), (.putfield 9, 6, 1, 108, 3), (.aload_n 0, 0, 0, 0, 0), (.iconst 0, 0, 0, 0, 0), (.putfield 15, 6, 2, 109, 0), (.aload_n 0, 0, 0, 0, 0), (.iconst 1, 0, 1, 0, 0), (.putfield 19, 6, 3, 110, 2), (.aload_n 0, 0, 0, 0, 0), (.aload_n 1, 0, 0, 0, 0), (.putfield 23, 6, 0, 107, 3), (.return_, 0, 0, 0, 0)]
def bk62 : List (List zI) := [q62_0]
def q63_0 : List zI := [(.aload_n 0, 0, 0, 0, 0), (.iconst 0, 0, 0, 0, 0), (.putfield 15, 6, 2, 109, 0), (.aload_n 0, 0, 0, 0, 0), (.getfield 9, 6, 1, 108, 3), (.iconst 0, 0, 0, 0, 0), (.iconst 0, 0, 0, 0, 0), (.iastore, 0, 0, 0, 0), (.aload_n 0, 0, 0, 0, 0), (.iconst 1, 0, 1, 0, 0), (.putfield 19, 6, 3, 110, 2), (.iconst 0, 0, 0, 0, 0), (.istore_n 2, 0, 0, 0, 0), (.nop, 1, 0, 0, 1)]
def q63_1 : List zI := [(.iload_n 2, 0, 0, 0, 0), (.aload_n 1, 0, 0, 0, 0), (.invokevirtual 27, 36, 1, 367, 1), (.if_icmp .ge 64, 3, 0, 0, 0), (.iload_n 2, 0, 0, 0, 0), (.bipush 64, 0, 64, 0, 0), (.if_icmp .ge 58, 3, 0, 0, 0), (.aload_n 1, 0, 0, 0, 0), (.iload_n 2, 0, 0, 0, 0), (.invokevirtual 33, 41, 2, 368, 1), (.istore_n 3, 0, 0, 0, 0), (.iload_n 3, 0, 0, 0, 0), (.aload_n 0, 0, 0, 0, 0), (.getfield 23, 6, 0, 107, 3), (.invokevirtual 37, 8, 1, 369, 1), (.if_icmp .lt 9, 2, 0, 0, 0), (.aload_n 0, 0, 0, 0, 0), (.iconst 0, 0, 0, 0, 0), (.putfield 19, 6, 3, 110, 2), (.return_, 0, 0, 0, 0)]
def q63_2 : List zI := [(.aload_n 0, 0, 0, 0, 0), (.iload_n 2, 0, 0, 0, 0), (.iconst 1, 0, 1, 0, 0), (.iadd, 0, 0, 0, 0), (.putfield 15, 6, 2, 109, 0), (.aload_n 0, 0, 0, 0, 0), (.getfield 9, 6, 1, 108, 3), (.aload_n 0, 0, 0, 0, 0), (.getfield 15, 6, 2, 109, 0), (.aload_n 0, 0, 0, 0, 0), (.getfield 9, 6, 1, 108, 3), (.iload_n 2, 0, 0, 0, 0), (.iaload, 0, 0, 0, 0), (.iconst 1, 0, 1, 0, 0), (.iload_n 3, 0, 0, 0, 0), (.ishl, 0, 0, 0, 0), (.ixor, 0, 0, 0, 0), (.iastore, 0, 0, 0, 0), (.iinc 2 1, 0, 0, 0, 0), (.goto (-66), 1, 0, 0, 1)]
def q63_3 : List zI := [(.return_, 0, 0, 0, 0)]
def bk63 : List (List zI) := [q63_0, q63_1, q63_2, q63_3]
def q64_0 : List zI := [(.aload_n 0, 0, 0, 0, 0), (.getfield 15, 6, 2, 109, 0), (.ireturn, 0, 0, 0, 0)]
def bk64 : List (List zI) := [q64_0]
def q65_0 : List zI := [(.iload_n 1, 0, 0, 0, 0), (.ifCond .lt 21, 1, 0, 0, 0), (.iload_n 1, 0, 0, 0, 0), (.aload_n 0, 0, 0, 0, 0), (.getfield 9, 6, 1, 108, 3), (.arraylength, 0, 0, 0, 0), (.if_icmp .ge 12, 1, 0, 0, 0), (.aload_n 0, 0, 0, 0, 0), (.getfield 9, 6, 1, 108, 3), (.iload_n 1, 0, 0, 0, 0), (.iaload, 0, 0, 0, 0), (.goto 4, 2, 0, 0, 0)]
def q65_1 : List zI := [(.iconst 0, 0, 0, 0, 0), (.nop, 2, 0, 0, 0)]
def q65_2 : List zI := [(.ireturn, 0, 0, 0, 0)]
def bk65 : List (List zI) := [q65_0, q65_1, q65_2]
def q66_0 : List zI := [(.lconst 0, 0, 0, 0, 0), (.lstore_n 1, 0, 0, 0, 0), (.iconst 0, 0, 0, 0, 0), (.istore_n 3, 0, 0, 0, 0), (.nop, 1, 0, 0, 1)]
def q66_1 : List zI := [(.iload_n 3, 0, 0, 0, 0), (.aload_n 0, 0, 0, 0, 0), (.getfield 15, 6, 2, 109, 0), (.if_icmp .gt 19, 2, 0, 0, 0), (.lload_n 1, 0, 0, 0, 0), (.lconst 1, 0, 1, 0, 0), (.aload_n 0, 0, 0, 0, 0), (.iload_n 3, 0, 0, 0, 0), (.invokevirtual 42, 65, 2, 381, 1), (.lshl, 0, 0, 0, 0), (.lor, 0, 0, 0, 0), (.lstore_n 1, 0, 0, 0, 0), (.iinc 3 1, 0, 0, 0, 0), (.goto (-21), 1, 0, 0, 1)]
def q66_2 : List zI := [(.lload_n 1, 0, 0, 0, 0), (.lreturn, 0, 0, 0, 0)]
def bk66 : List (List zI) := [q66_0, q66_1, q66_2]
def q67_0 : List zI := [(.iconst 0, 0, 0, 0, 0), (.istore_n 2, 0, 0, 0, 0), (.nop, 1, 0, 0, 1)]
def q67_1 : List zI := [(.iload_n 2, 0, 0, 0, 0), (.aload_n 0, 0, 0, 0, 0), (.getfield 15, 6, 2, 109, 0), (.if_icmp .gt 20, 3, 0, 0, 0), (.aload_n 0, 0, 0, 0, 0), (.iload_n 2, 0, 0, 0, 0), (.invokevirtual 42, 65, 2, 381, 1), (.iload_n 1, 0, 0, 0, 0), (.if_icmp .ne 5, 2, 0, 0, 0), (.iload_n 2, 0, 0, 0, 0), (.ireturn, 0, 0, 0, 0)]
def q67_2 : List zI := [(.iinc 2 1, 0, 0, 0, 0), (.goto (-22), 1, 0, 0, 1)]
def q67_3 : List zI := [(.bipush (-9), 1, 9, 0, 0), (.ireturn, 0, 0, 0, 0)]
def bk67 : List (List zI) := [q67_0, q67_1, q67_2, q67_3]
def q68_0 : List zI := [(.iconst 0, 0, 0, 0, 0), (.istore_n 1, 0, 0, 0, 0), (.nop, 1, 0, 0, 1)]
def q68_1 : List zI := [(.iload_n 1, 0, 0, 0, 0), (.aload_n 0, 0, 0, 0, 0), (.getfield 15, 6, 2, 109, 0), (.if_icmp .gt 21, 3, 0, 0, 0), (.aload_n 0, 0, 0, 0, 0), (.iload_n 1, 0, 0, 0, 0), (.invokevirtual 45, 72, 2, 408, 0), (.bipush (-9), 1, 9, 0, 0), (.if_icmp .eq 5, 2, 0, 0, 0), (.iload_n 1, 0, 0, 0, 0), (.ireturn, 0, 0, 0, 0)]
def q68_2 : List zI := [(.iinc 1 1, 0, 0, 0, 0), (.goto (-23), 1, 0, 0, 1)]
def q68_3 : List zI := [(.aload_n 0, 0, 0, 0, 0), (.getfield 19, 6, 3, 110, 2), (.ifCond .eq 8, 4, 0, 0, 0), (.bipush (-9), 1, 9, 0, 0), (.goto 9, 5, 0, 0, 0)]
def q68_4 : List zI := [(.aload_n 0, 0, 0, 0, 0), (.getfield 15, 6, 2, 109, 0), (.iconst 1, 0, 1, 0, 0), (.iadd, 0, 0, 0, 0), (.nop, 5, 0, 0, 0)]
def q68_5 : List zI := [(.ireturn, 0, 0, 0, 0)]
def bk68 : List (List zI) := [q68_0, q68_1, q68_2, q68_3, q68_4, q68_5]
def q69_0 : List zI := [(.aload_n 0, 0, 0, 0, 0), (.invokevirtual 48, 68, 1, 433, 0), (.istore_n 1, 0, 0, 0, 0), (.iload_n 1, 0, 0, 0, 0), (.bipush (-9), 1, 9, 0, 0), (.if_icmp .eq 11, 1, 0, 0, 0), (.iload_n 1, 0, 0, 0, 0), (.aload_n 0, 0, 0, 0, 0), (.getfield 15, 6, 2, 109, 0), (.if_icmp .le 7, 2, 0, 0, 0), (.nop, 1, 0, 0, 0)]
def q69_1 : List zI := [(.iload_n 1, 0, 0, 0, 0), (.goto 8, 3, 0, 0, 0)]
def q69_2 : List zI := [(.aload_n 0, 0, 0, 0, 0), (.iload_n 1, 0, 0, 0, 0), (.invokevirtual 45, 72, 2, 408, 0), (.nop, 3, 0, 0, 0)]
def q69_3 : List zI := [(.ireturn, 0, 0, 0, 0)]
def bk69 : List (List zI) := [q69_0, q69_1, q69_2, q69_3]
def q70_0 : List zI := [(.aload_n 0, 0, 0, 0, 0), (.getfield 15, 6, 2, 109, 0), (.iconst 1, 0, 1, 0, 0), (.iadd, 0, 0, 0, 0), (.istore_n 1, 0, 0, 0, 0), (.iconst 0, 0, 0, 0, 0), (.istore_n 2, 0, 0, 0, 0), (.iload_n 1, 0, 0, 0, 0), (.aload_n 0, 0, 0, 0, 0), (.getfield 9, 6, 1, 108, 3), (.arraylength, 0, 0, 0, 0), (.if_icmp .lt 5, 1, 0, 0, 0), (.iconst 0, 0, 0, 0, 0), (.ireturn, 0, 0, 0, 0)]
def q70_1 : List zI := [(.iconst 0, 0, 0, 0, 0), (.istore_n 3, 0, 0, 0, 0), (.nop, 2, 0, 0, 1)]
def q70_2 : List zI := [(.iload_n 3, 0, 0, 0, 0), (.aload_n 0, 0, 0, 0, 0), (.getfield 23, 6, 0, 107, 3), (.invokevirtual 37, 8, 1, 369, 1), (.if_icmp .ge 40, 4, 0, 0, 0), (.aload_n 0, 0, 0, 0, 0), (.getfield 9, 6, 1, 108, 3), (.iload_n 1, 0, 0, 0, 0), (.aload_n 0, 0, 0, 0, 0), (.aload_n 0, 0, 0, 0, 0), (.getfield 15, 6, 2, 109, 0), (.invokevirtual 42, 65, 2, 381, 1), (.iconst 1, 0, 1, 0, 0), (.iload_n 3, 0, 0, 0, 0), (.ishl, 0, 0, 0, 0), (.ixor, 0, 0, 0, 0), (.iastore, 0, 0, 0, 0), (.aload_n 0, 0, 0, 0, 0), (.iload_n 1, 0, 0, 0, 0), (.invokevirtual 45, 72, 2, 408, 0), (.bipush (-9), 1, 9, 0, 0), (.if_icmp .ne 6, 3, 0, 0, 0), (.iinc 2 1, 0, 0, 0, 0), (.nop, 3, 0, 0, 0)]
def q70_3 : List zI := [(.iinc 3 1, 0, 0, 0, 0), (.goto (-45), 2, 0, 0, 1)]
def q70_4 : List zI := [(.iload_n 2, 0, 0, 0, 0), (.ireturn, 0, 0, 0, 0)]
def bk70 : List (List zI) := [q70_0, q70_1, q70_2, q70_3, q70_4]
def q71_0 : List zI := [(.aload_n 0, 0, 0, 0, 0), (.getfield 19, 6, 3, 110, 2), (.ifCond .eq 28, 1, 0, 0, 0), (.aload_n 0, 0, 0, 0, 0), (.getfield 15, 6, 2, 109, 0), (.aload_n 0, 0, 0, 0, 0), (.getfield 23, 6, 0, 107, 3), (.invokevirtual 51, 18, 1, 377, 0), (.if_icmp .lt 14, 1, 0, 0, 0), (.aload_n 0, 0, 0, 0, 0), (.aload_n 0, 0, 0, 0, 0), (.getfield 15, 6, 2, 109, 0), (.invokevirtual 42, 65, 2, 381, 1), (.ifCond .eq 5, 2, 0, 0, 0), (.nop, 1, 0, 0, 0)]
def q71_1 : List zI := [(.iconst 0, 0, 0, 0, 0), (.ireturn, 0, 0, 0, 2)]
def q71_2 : List zI := [(.iconst 0, 0, 0, 0, 0), (.istore_n 1, 0, 0, 0, 0), (.nop, 3, 0, 0, 1)]
def q71_3 : List zI := [(.iload_n 1, 0, 0, 0, 0), (.aload_n 0, 0, 0, 0, 0), (.getfield 15, 6, 2, 109, 0), (.if_icmp .ge 34, 6, 0, 0, 0), (.aload_n 0, 0, 0, 0, 0), (.getfield 23, 6, 0, 107, 3), (.aload_n 0, 0, 0, 0, 0), (.iload_n 1, 0, 0, 0, 0), (.invokevirtual 42, 65, 2, 381, 1), (.invokevirtual 54, 14, 2, 385, 0), (.ifCond .ne 11, 4, 0, 0, 0), (.aload_n 0, 0, 0, 0, 0), (.iload_n 1, 0, 0, 0, 0), (.invokevirtual 58, 73, 2, 386, 0), (.ifCond .ne 5, 5, 0, 0, 0), (.nop, 4, 0, 0, 0)]
def q71_4 : List zI := [(.iconst 0, 0, 0, 0, 0), (.ireturn, 0, 0, 0, 2)]
def q71_5 : List zI := [(.iinc 1 1, 0, 0, 0, 0), (.goto (-36), 3, 0, 0, 1)]
def q71_6 : List zI := [(.iconst 1, 0, 1, 0, 0), (.ireturn, 0, 0, 0, 2)]
def bk71 : List (List zI) := [q71_0, q71_1, q71_2, q71_3, q71_4, q71_5, q71_6]
def q72_0 : List zI := [(.aload_n 0, 0, 0, 0, 0), (.iload_n 1, 0, 0, 0, 0), (.invokevirtual 42, 65, 2, 381, 1), (.istore_n 2, 0, 0, 0, 0), (.aload_n 0, 0, 0, 0, 0), (.getfield 23, 6, 0, 107, 3), (.iload_n 2, 0, 0, 0, 0), (.invokevirtual 54, 14, 2, 385, 0), (.ifCond .eq 5, 1, 0, 0, 0), (.iload_n 1, 0, 0, 0, 0), (.ireturn, 0, 0, 0, 0)]
def q72_1 : List zI := [(.iconst 0, 0, 0, 0, 0), (.istore_n 3, 0, 0, 0, 0), (.nop, 2, 0, 0, 1)]
def q72_2 : List zI := [(.iload_n 3, 0, 0, 0, 0), (.iload_n 1, 0, 0, 0, 0), (.if_icmp .ge 30, 4, 0, 0, 0), (.aload_n 0, 0, 0, 0, 0), (.getfield 23, 6, 0, 107, 3), (.aload_n 0, 0, 0, 0, 0), (.iload_n 3, 0, 0, 0, 0), (.invokevirtual 42, 65, 2, 381, 1), (.iload_n 2, 0, 0, 0, 0), (.iload_n 1, 0, 0, 0, 0), (.iload_n 3, 0, 0, 0, 0), (.isub, 0, 0, 0, 0), (.invokevirtual 61, 17, 4, 393, 0), (.ifCond .ne 5, 3, 0, 0, 0), (.iload_n 3, 0, 0, 0, 0), (.ireturn, 0, 0, 0, 0)]
def q72_3 : List zI := [(.iinc 3 1, 0, 0, 0, 0), (.goto (-29), 2, 0, 0, 1)]
def q72_4 : List zI := [(.bipush (-9), 1, 9, 0, 0), (.ireturn, 0, 0, 0, 0)]
def bk72 : List (List zI) := [q72_0, q72_1, q72_2, q72_3, q72_4]
def q73_0 : List zI := [(.iconst 0, 0, 0, 0, 0), (.istore_n 2, 0, 0, 0, 0), (.nop, 1, 0, 0, 1)]
def q73_1 : List zI := [(.iload_n 2, 0, 0, 0, 0), (.iload_n 1, 0, 0, 0, 0), (.if_icmp .ge 47, 3, 0, 0, 0), (.iload_n 1, 0, 0, 0, 0), (.iload_n 2, 0, 0, 0, 0), (.isub, 0, 0, 0, 0), (.aload_n 0, 0, 0, 0, 0), (.getfield 15, 6, 2, 109, 0), (.iload_n 1, 0, 0, 0, 0), (.iload_n 2, 0, 0, 0, 0), (.isub, 0, 0, 0, 0), (.isub, 0, 0, 0, 0), (.invokestatic 65, 998, 2, 390, 0), (.istore_n 3, 0, 0, 0, 0), (.aload_n 0, 0, 0, 0, 0), (.getfield 23, 6, 0, 107, 3), (.aload_n 0, 0, 0, 0, 0), (.iload_n 2, 0, 0, 0, 0), (.invokevirtual 42, 65, 2, 381, 1), (.aload_n 0, 0, 0, 0, 0), (.iload_n 1, 0, 0, 0, 0), (.invokevirtual 42, 65, 2, 381, 1), (.iload_n 3, 0, 0, 0, 0), (.invokevirtual 61, 17, 4, 393, 0), (.ifCond .ne 5, 2, 0, 0, 0), (.iconst 0, 0, 0, 0, 0), (.ireturn, 0, 0, 0, 2)]
def q73_2 : List zI := [(.iinc 2 1, 0, 0, 0, 0), (.goto (-46), 1, 0, 0, 1)]
def q73_3 : List zI := [(.iconst 1, 0, 1, 0, 0), (.ireturn, 0, 0, 0, 2)]
def bk73 : List (List zI) := [q73_0, q73_1, q73_2, q73_3]
def q74_0 : List zI := [(.aload_n 0, 0, 0, 0, 0), (.invokespecial 1, 999, 1, 65, 0), (.aload_n 0, 0, 0, 0, 0), (.new 7, 0, 4, 68, 0), (.dup, 0, 0, 0, 0), (.invokespecial 9, 5, 1, 70, 0), (.putfield 10, 7, 0, 209, 3), (.aload_n 0, 0, 0, 0, 0), (.bipush 12, 0, 12, 0, 0), (.anewarray 16, 4, 0, 99, 0), (.putfield 18, 7, 1, 210, 3), (.aload_n 0, 0, 0, 0, 0), (.new 22, 6, 4, 101, 0), (.dup, 0, 0, 0, 0), (.aload_n 0, 0, 0, 0, 0), (.getfield 10, 7, 0, 209, 3), (.invokespecial 24, 62, 2, 103, 0), (.putfield 27, 7, 2, 211, 3), (.aload_n 0, 0, 0, 0, 0), (.new 31, 5, 1, 121, 0), (.dup, 0, 0, 0, 0), (.invokespecial 33, 57, 1, 123, 2), (.putfield 34, 7, 3, 212, 3), (.aload_n 0, 0, 0, 0, 0), (.new 38, 2, 1, 131, 0), (.dup, 0, 0, 0, 0), (.invokespecial 40, 26, 1, 133, 2), (.putfield 41, 7, 4, 213, 3), (.aload_n 0, 0, 0, 0, 0), (.new 16, 3, 3, 99, 0), (.dup, 0, 0, 0, 0), (.invokespecial 45, 34, 1, 142, 2), (.putfield 46, 7, 5, 214, 3), (.aload_n 0, 0, 0, 0, 0), (.new 16, 3, 3, 99, 0), (.dup, 0, 0, 0, 0), (.invokespecial 45, 34, 1, 142, 2), (.putfield 50, 7, 6, 215, 3), (.aload_n 0, 0, 0, 0, 0), (.new 53, 4, 9, 156, 0), (.dup, 0, 0, 0, 0), (.aload_n 0, 0, 0, 0, 0), (.getfield 10, 7, 0, 209, 3), (.invokespecial 55, 45, 2, 158, 0), (.putfield 56, 7, 7, 216, 3), (.aload_n 0, 0, 0, 0, 0), (.new 60, 1, 3, 192, 0), (.dup, 0, 0, 0, 0), (.invokespecial 62, 19, 1, 194, 2), (.putfield 63, 7, 8, 217, 3), (.aload_n 0, 0, 0, 0, 0), (.new 60, 1, 3, 192, 0), (.dup, 0, 0, 0, 0), (.invokespecial 62, 19, 1, 194, 2), (.putfield 67, 7, 9, 218, 3), (.aload_n 0, 0, 0, 0, 0), (.iconst 0, 0, 0, 0, 0), (.putfield 70, 7, 10, 219, 0), (.aload_n 0, 0, 0, 0, 0), (.lconst 0, 0, 0, 0, 0), (.putfield 74, 7, 11, 220, 1), (.aload_n 0, 0, 0, 0, 0), (.iconst 5, 0, 5, 0, 0), (.newarray .int, 1, 0, 0, 0), (.putfield 78, 7, 12, 221, 3), (.aload_n 0, 0, 0, 0, 0), (.iconst 0, 0, 0, 0, 0), (.putfield 82, 7, 13, 222, 0), (.iconst 0, 0, 0, 0, 0), (.istore_n 1, 0, 0, 0, 0), (.nop, 1, 0, 0, 1)]
def q74_1 : List zI := [(.iload_n 1, 0, 0, 0, 0), (.bipush 12, 0, 12, 0, 0), (.if_icmp .ge 22, 2, 0, 0, 0), (.aload_n 0, 0, 0, 0, 0), (.getfield 18, 7, 1, 210, 3), (.iload_n 1, 0, 0, 0, 0), (.new 16, 3, 3, 99, 0), (.dup, 0, 0, 0, 0), (.invokespecial 45, 34, 1, 142, 2), (.aastore, 0, 0, 0, 0), (.iinc 1 1, 0, 0, 0, 0), (.goto (-22), 1, 0, 0, 1)]
def q74_2 : List zI := [(.return_, 0, 0, 0, 0)]
def bk74 : List (List zI) := [q74_0, q74_1, q74_2]
def q75_0 : List zI := [(.iload_n 1, 0, 0, 0, 0), (.iconst 1, 0, 1, 0, 0), (.if_icmp .lt 9, 1, 0, 0, 0), (.iload_n 1, 0, 0, 0, 0), (.bipush 6, 0, 6, 0, 0), (.if_icmp .le 5, 2, 0, 0, 0), (.nop, 1, 0, 0, 0)]
def q75_1 : List zI := [(.iconst (-1), 1, 1, 0, 0), (.ireturn, 0, 0, 0, 0)]
def q75_2 : List zI := [(.aload_n 0, 0, 0, 0, 0), (.getfield 10, 7, 0, 209, 3), (.iload_n 1, 0, 0, 0, 0), (.invokevirtual 85, 6, 2, 256, 1), (.iload_n 1, 0, 0, 0, 0), (.ireturn, 0, 0, 0, 0)]
def bk75 : List (List zI) := [q75_0, q75_1, q75_2]
def q76_0 : List zI := [(.iload_n 1, 0, 0, 0, 0), (.iconst 1, 0, 1, 0, 0), (.if_icmp .lt 8, 1, 0, 0, 0), (.iload_n 1, 0, 0, 0, 0), (.iconst 3, 0, 3, 0, 0), (.if_icmp .le 5, 2, 0, 0, 0), (.nop, 1, 0, 0, 0)]
def q76_1 : List zI := [(.iconst (-1), 1, 1, 0, 0), (.ireturn, 0, 0, 0, 0)]
def q76_2 : List zI := [(.aload_n 0, 0, 0, 0, 0), (.getfield 10, 7, 0, 209, 3), (.iload_n 1, 0, 0, 0, 0), (.invokevirtual 89, 7, 2, 264, 1), (.iconst 1, 0, 1, 0, 0), (.ireturn, 0, 0, 0, 0)]
def bk76 : List (List zI) := [q76_0, q76_1, q76_2]
def q77_0 : List zI := [(.aload_n 0, 0, 0, 0, 0), (.getfield 10, 7, 0, 209, 3), (.iload_n 1, 0, 0, 0, 0), (.invokevirtual 92, 12, 2, 272, 0), (.ifCond .ne 5, 1, 0, 0, 0), (.iconst (-1), 1, 1, 0, 0), (.ireturn, 0, 0, 0, 0)]
def q77_1 : List zI := [(.aload_n 0, 0, 0, 0, 0), (.getfield 10, 7, 0, 209, 3), (.iload_n 1, 0, 0, 0, 0), (.invokevirtual 96, 14, 2, 276, 0), (.ifCond .eq 7, 2, 0, 0, 0), (.iconst 1, 0, 1, 0, 0), (.goto 4, 3, 0, 0, 0)]
def q77_2 : List zI := [(.iconst 0, 0, 0, 0, 0), (.nop, 3, 0, 0, 0)]
def q77_3 : List zI := [(.istore_n 3, 0, 0, 0, 0), (.aload_n 0, 0, 0, 0, 0), (.getfield 10, 7, 0, 209, 3), (.iload_n 1, 0, 0, 0, 0), (.iload_n 2, 0, 0, 0, 0), (.invokevirtual 99, 15, 3, 283, 0), (.iload_n 3, 0, 0, 0, 0), (.ireturn, 0, 0, 0, 0)]
def bk77 : List (List zI) := [q77_0, q77_1, q77_2, q77_3]
def q78_0 : List zI := [(.aload_n 0, 0, 0, 0, 0), (.getfield 10, 7, 0, 209, 3), (.invokevirtual 103, 10, 1, 292, 1), (.lreturn, 0, 0, 0, 0)]
def bk78 : List (List zI) := [q78_0]
def q79_0 : List zI := [(.iload_n 1, 0, 0, 0, 0), (.invokestatic 107, 104, 1, 300, 1), (.ifCond .ne 5, 1, 0, 0, 0), (.iconst (-1), 1, 1, 0, 0), (.ireturn, 0, 0, 0, 0)]
def q79_1 : List zI := [(.aload_n 0, 0, 0, 0, 0), (.getfield 18, 7, 1, 210, 3), (.iload_n 1, 0, 0, 0, 0), (.aaload, 0, 0, 0, 0), (.invokevirtual 110, 35, 1, 303, 1), (.ifCond .eq 7, 2, 0, 0, 0), (.iconst 1, 0, 1, 0, 0), (.goto 4, 3, 0, 0, 0)]
def q79_2 : List zI := [(.iconst 0, 0, 0, 0, 0), (.nop, 3, 0, 0, 0)]
def q79_3 : List zI := [(.istore_n 2, 0, 0, 0, 0), (.aload_n 0, 0, 0, 0, 0), (.getfield 18, 7, 1, 210, 3), (.iload_n 1, 0, 0, 0, 0), (.aaload, 0, 0, 0, 0), (.invokevirtual 114, 37, 1, 307, 1), (.iload_n 2, 0, 0, 0, 0), (.ireturn, 0, 0, 0, 0)]
def bk79 : List (List zI) := [q79_0, q79_1, q79_2, q79_3]
def q80_0 : List zI := [(.iload_n 1, 0, 0, 0, 0), (.invokestatic 107, 104, 1, 300, 1), (.ifCond .eq 13, 1, 0, 0, 0), (.iload_n 2, 0, 0, 0, 0), (.ifCond .lt 9, 1, 0, 0, 0), (.iload_n 2, 0, 0, 0, 0), (.bipush 6, 0, 6, 0, 0), (.if_icmp .lt 5, 2, 0, 0, 0), (.nop, 1, 0, 0, 0)]
def q80_1 : List zI := [(.iconst (-1), 1, 1, 0, 0), (.ireturn, 0, 0, 0, 0)]
def q80_2 : List zI := [(.aload_n 0, 0, 0, 0, 0), (.getfield 18, 7, 1, 210, 3), (.iload_n 1, 0, 0, 0, 0), (.aaload, 0, 0, 0, 0), (.invokevirtual 117, 36, 1, 315, 1), (.bipush 64, 0, 64, 0, 0), (.if_icmp .lt 6, 3, 0, 0, 0), (.bipush (-2), 1, 2, 0, 0), (.ireturn, 0, 0, 0, 0)]
def q80_3 : List zI := [(.aload_n 0, 0, 0, 0, 0), (.getfield 18, 7, 1, 210, 3), (.iload_n 1, 0, 0, 0, 0), (.aaload, 0, 0, 0, 0), (.invokevirtual 110, 35, 1, 303, 1), (.ifCond .ne 9, 4, 0, 0, 0), (.aload_n 0, 0, 0, 0, 0), (.iconst 1, 0, 1, 0, 0), (.invokevirtual 121, 106, 2, 319, 1), (.ireturn, 0, 0, 0, 0)]
def q80_4 : List zI := [(.aload_n 0, 0, 0, 0, 0), (.getfield 18, 7, 1, 210, 3), (.iload_n 1, 0, 0, 0, 0), (.aaload, 0, 0, 0, 0), (.iload_n 2, 0, 0, 0, 0), (.invokevirtual 125, 39, 2, 323, 1), (.aload_n 0, 0, 0, 0, 0), (.getfield 18, 7, 1, 210, 3), (.iload_n 1, 0, 0, 0, 0), (.aaload, 0, 0, 0, 0), (.invokevirtual 117, 36, 1, 315, 1), (.ireturn, 0, 0, 0, 0)]
def bk80 : List (List zI) := [q80_0, q80_1, q80_2, q80_3, q80_4]
def q81_0 : List zI := [(.iload_n 1, 0, 0, 0, 0), (.invokestatic 107, 104, 1, 300, 1), (.ifCond .ne 5, 1, 0, 0, 0), (.iconst (-1), 1, 1, 0, 0), (.ireturn, 0, 0, 0, 0)]
def q81_1 : List zI := [(.aload_n 0, 0, 0, 0, 0), (.getfield 18, 7, 1, 210, 3), (.iload_n 1, 0, 0, 0, 0), (.aaload, 0, 0, 0, 0), (.invokevirtual 110, 35, 1, 303, 1), (.ifCond .ne 9, 2, 0, 0, 0), (.aload_n 0, 0, 0, 0, 0), (.iconst 1, 0, 1, 0, 0), (.invokevirtual 121, 106, 2, 319, 1), (.ireturn, 0, 0, 0, 0)]
def q81_2 : List zI := [(.iload_n 2, 0, 0, 0, 0), (.iconst (-1), 1, 1, 0, 0), (.if_icmp .ne 13, 3, 0, 0, 0), (.aload_n 0, 0, 0, 0, 0), (.getfield 18, 7, 1, 210, 3), (.iload_n 1, 0, 0, 0, 0), (.aaload, 0, 0, 0, 0), (.invokevirtual 117, 36, 1, 315, 1), (.ireturn, 0, 0, 0, 0)]
def q81_3 : List zI := [(.iload_n 2, 0, 0, 0, 0), (.ifCond .lt 16, 4, 0, 0, 0), (.iload_n 2, 0, 0, 0, 0), (.aload_n 0, 0, 0, 0, 0), (.getfield 18, 7, 1, 210, 3), (.iload_n 1, 0, 0, 0, 0), (.aaload, 0, 0, 0, 0), (.invokevirtual 117, 36, 1, 315, 1), (.if_icmp .lt 9, 5, 0, 0, 0), (.nop, 4, 0, 0, 0)]
def q81_4 : List zI := [(.aload_n 0, 0, 0, 0, 0), (.iconst 2, 0, 2, 0, 0), (.invokevirtual 121, 106, 2, 319, 1), (.ireturn, 0, 0, 0, 0)]
def q81_5 : List zI := [(.aload_n 0, 0, 0, 0, 0), (.getfield 18, 7, 1, 210, 3), (.iload_n 1, 0, 0, 0, 0), (.aaload, 0, 0, 0, 0), (.iload_n 2, 0, 0, 0, 0), (.invokevirtual 128, 41, 2, 331, 1), (.ireturn, 0, 0, 0, 0)]
def bk81 : List (List zI) := [q81_0, q81_1, q81_2, q81_3, q81_4, q81_5]
def q82_0 : List zI := [(.iload_n 1, 0, 0, 0, 0), (.invokestatic 107, 104, 1, 300, 1), (.ifCond .ne 5, 1, 0, 0, 0), (.iconst (-1), 1, 1, 0, 0), (.ireturn, 0, 0, 0, 0)]
def q82_1 : List zI := [(.iload_n 2, 0, 0, 0, 0), (.ifCond .ge 9, 2, 0, 0, 0), (.aload_n 0, 0, 0, 0, 0), (.iconst 4, 0, 4, 0, 0), (.invokevirtual 121, 106, 2, 319, 1), (.ireturn, 0, 0, 0, 0)]
def q82_2 : List zI := [(.aload_n 0, 0, 0, 0, 0), (.getfield 18, 7, 1, 210, 3), (.iload_n 1, 0, 0, 0, 0), (.aaload, 0, 0, 0, 0), (.invokevirtual 110, 35, 1, 303, 1), (.ifCond .ne 9, 3, 0, 0, 0), (.aload_n 0, 0, 0, 0, 0), (.iconst 1, 0, 1, 0, 0), (.invokevirtual 121, 106, 2, 319, 1), (.ireturn, 0, 0, 0, 0)]
def q82_3 : List zI := [(.iload_n 2, 0, 0, 0, 0), (.aload_n 0, 0, 0, 0, 0), (.getfield 18, 7, 1, 210, 3), (.iload_n 1, 0, 0, 0, 0), (.aaload, 0, 0, 0, 0), (.invokevirtual 117, 36, 1, 315, 1), (.if_icmp .le 9, 4, 0, 0, 0), (.aload_n 0, 0, 0, 0, 0), (.iconst 2, 0, 2, 0, 0), (.invokevirtual 121, 106, 2, 319, 1), (.ireturn, 0, 0, 0, 0)]
def q82_4 : List zI := [(.aload_n 0, 0, 0, 0, 0), (.getfield 18, 7, 1, 210, 3), (.iload_n 1, 0, 0, 0, 0), (.aaload, 0, 0, 0, 0), (.iload_n 2, 0, 0, 0, 0), (.invokevirtual 131, 42, 2, 339, 1), (.iload_n 2, 0, 0, 0, 0), (.ireturn, 0, 0, 0, 0)]
def bk82 : List (List zI) := [q82_0, q82_1, q82_2, q82_3, q82_4]
def q83_0 : List zI := [(.iload_n 1, 0, 0, 0, 0), (.invokestatic 107, 104, 1, 300, 1), (.ifCond .ne 5, 1, 0, 0, 0), (.iconst (-1), 1, 1, 0, 0), (.ireturn, 0, 0, 0, 0)]
def q83_1 : List zI := [(.aload_n 0, 0, 0, 0, 0), (.getfield 18, 7, 1, 210, 3), (.iload_n 1, 0, 0, 0, 0), (.aaload, 0, 0, 0, 0), (.invokevirtual 110, 35, 1, 303, 1), (.ifCond .ne 9, 2, 0, 0, 0), (.aload_n 0, 0, 0, 0, 0), (.iconst 1, 0, 1, 0, 0), (.invokevirtual 121, 106, 2, 319, 1), (.ireturn, 0, 0, 0, 0)]
def q83_2 : List zI := [(.aload_n 0, 0, 0, 0, 0), (.getfield 18, 7, 1, 210, 3), (.iload_n 1, 0, 0, 0, 0), (.aaload, 0, 0, 0, 0), (.invokevirtual 134, 38, 1, 347, 1), (.iconst 1, 0, 1, 0, 0), (.ireturn, 0, 0, 0, 0)]
def bk83 : List (List zI) := [q83_0, q83_1, q83_2]
def q84_0 : List zI := [(.iload_n 1, 0, 0, 0, 0), (.invokestatic 107, 104, 1, 300, 1), (.ifCond .eq 11, 1, 0, 0, 0), (.iload 4, 0, 0, 0, 0), (.invokestatic 107, 104, 1, 300, 1), (.ifCond .ne 5, 2, 0, 0, 0), (.nop, 1, 0, 0, 0)]
def q84_1 : List zI := [(.iconst (-1), 1, 1, 0, 0), (.ireturn, 0, 0, 0, 0)]
def q84_2 : List zI := [(.aload_n 0, 0, 0, 0, 0), (.getfield 18, 7, 1, 210, 3), (.iload_n 1, 0, 0, 0, 0), (.aaload, 0, 0, 0, 0), (.invokevirtual 110, 35, 1, 303, 1), (.ifCond .eq 16, 3, 0, 0, 0), (.aload_n 0, 0, 0, 0, 0), (.getfield 18, 7, 1, 210, 3), (.iload 4, 0, 0, 0, 0), (.aaload, 0, 0, 0, 0), (.invokevirtual 110, 35, 1, 303, 1), (.ifCond .ne 9, 4, 0, 0, 0), (.nop, 3, 0, 0, 0)]
def q84_3 : List zI := [(.aload_n 0, 0, 0, 0, 0), (.iconst 1, 0, 1, 0, 0), (.invokevirtual 121, 106, 2, 319, 1), (.ireturn, 0, 0, 0, 0)]
def q84_4 : List zI := [(.aload_n 0, 0, 0, 0, 0), (.getfield 18, 7, 1, 210, 3), (.iload_n 1, 0, 0, 0, 0), (.aaload, 0, 0, 0, 0), (.invokevirtual 117, 36, 1, 315, 1), (.istore 5, 0, 0, 0, 0), (.iload_n 2, 0, 0, 0, 0), (.ifCond .lt 21, 5, 0, 0, 0), (.iload_n 3, 0, 0, 0, 0), (.ifCond .lt 17, 5, 0, 0, 0), (.iload_n 2, 0, 0, 0, 0), (.iload 5, 0, 0, 0, 0), (.if_icmp .gt 11, 5, 0, 0, 0), (.iload_n 3, 0, 0, 0, 0), (.iload 5, 0, 0, 0, 0), (.iload_n 2, 0, 0, 0, 0), (.isub, 0, 0, 0, 0), (.if_icmp .le 9, 6, 0, 0, 0), (.nop, 5, 0, 0, 0)]
def q84_5 : List zI := [(.aload_n 0, 0, 0, 0, 0), (.iconst 2, 0, 2, 0, 0), (.invokevirtual 121, 106, 2, 319, 1), (.ireturn, 0, 0, 0, 0)]
def q84_6 : List zI := [(.iload_n 3, 0, 0, 0, 0), (.bipush 64, 0, 64, 0, 0), (.aload_n 0, 0, 0, 0, 0), (.getfield 18, 7, 1, 210, 3), (.iload 4, 0, 0, 0, 0), (.aaload, 0, 0, 0, 0), (.invokevirtual 117, 36, 1, 315, 1), (.isub, 0, 0, 0, 0), (.if_icmp .le 6, 7, 0, 0, 0), (.bipush (-2), 1, 2, 0, 0), (.ireturn, 0, 0, 0, 0)]
def q84_7 : List zI := [(.iconst 0, 0, 0, 0, 0), (.istore 6, 0, 0, 0, 0), (.nop, 8, 0, 0, 1)]
def q84_8 : List zI := [(.iload 6, 0, 0, 0, 0), (.iload_n 3, 0, 0, 0, 0), (.if_icmp .ge 32, 9, 0, 0, 0), (.aload_n 0, 0, 0, 0, 0), (.getfield 18, 7, 1, 210, 3), (.iload 4, 0, 0, 0, 0), (.aaload, 0, 0, 0, 0), (.aload_n 0, 0, 0, 0, 0), (.getfield 18, 7, 1, 210, 3), (.iload_n 1, 0, 0, 0, 0), (.aaload, 0, 0, 0, 0), (.iload_n 2, 0, 0, 0, 0), (.iload 6, 0, 0, 0, 0), (.iadd, 0, 0, 0, 0), (.invokevirtual 128, 41, 2, 331, 1), (.invokevirtual 125, 39, 2, 323, 1), (.iinc 6 1, 0, 0, 0, 0), (.goto (-32), 8, 0, 0, 1)]
def q84_9 : List zI := [(.aload_n 0, 0, 0, 0, 0), (.getfield 18, 7, 1, 210, 3), (.iload 4, 0, 0, 0, 0), (.aaload, 0, 0, 0, 0), (.invokevirtual 117, 36, 1, 315, 1), (.ireturn, 0, 0, 0, 0)]
def bk84 : List (List zI) := [q84_0, q84_1, q84_2, q84_3, q84_4, q84_5, q84_6, q84_7, q84_8, q84_9]
def q85_0 : List zI := [(.iload_n 1, 0, 0, 0, 0), (.invokestatic 107, 104, 1, 300, 1), (.ifCond .ne 5, 1, 0, 0, 0), (.iconst (-1), 1, 1, 0, 0), (.ireturn, 0, 0, 0, 0)]
def q85_1 : List zI := [(.aload_n 0, 0, 0, 0, 0), (.getfield 18, 7, 1, 210, 3), (.iload_n 1, 0, 0, 0, 0), (.aaload, 0, 0, 0, 0), (.invokevirtual 110, 35, 1, 303, 1), (.ifCond .ne 9, 2, 0, 0, 0), (.aload_n 0, 0, 0, 0, 0), (.iconst 1, 0, 1, 0, 0), (.invokevirtual 121, 106, 2, 319, 1), (.ireturn, 0, 0, 0, 0)]
def q85_2 : List zI := [(.aload_n 0, 0, 0, 0, 0), (.aload_n 0, 0, 0, 0, 0), (.getfield 18, 7, 1, 210, 3), (.iload_n 1, 0, 0, 0, 0), (.aaload, 0, 0, 0, 0), (.invokevirtual 137, 107, 2, 359, 0), (.ireturn, 0, 0, 0, 0)]
def bk85 : List (List zI) := [q85_0, q85_1, q85_2]
def q86_0 : List zI := [(.iload_n 1, 0, 0, 0, 0), (.invokestatic 107, 104, 1, 300, 1), (.ifCond .ne 5, 1, 0, 0, 0), (.iconst (-1), 1, 1, 0, 0), (.ireturn, 0, 0, 0, 0)]
def q86_1 : List zI := [(.aload_n 0, 0, 0, 0, 0), (.getfield 18, 7, 1, 210, 3), (.iload_n 1, 0, 0, 0, 0), (.aaload, 0, 0, 0, 0), (.invokevirtual 110, 35, 1, 303, 1), (.ifCond .ne 9, 2, 0, 0, 0), (.aload_n 0, 0, 0, 0, 0), (.iconst 1, 0, 1, 0, 0), (.invokevirtual 121, 106, 2, 319, 1), (.ireturn, 0, 0, 0, 0)]
def q86_2 : List zI := [(.aload_n 0, 0, 0, 0, 0), (.getfield 27, 7, 2, 211, 3), (.aload_n 0, 0, 0, 0, 0), (.getfield 18, 7, 1, 210, 3), (.iload_n 1, 0, 0, 0, 0), (.aaload, 0, 0, 0, 0), (.invokevirtual 141, 63, 2, 363, 0), (.iload_n 2, 0, 0, 0, 0), (.ifCond .lt 14, 3, 0, 0, 0), (.iload_n 2, 0, 0, 0, 0), (.aload_n 0, 0, 0, 0, 0), (.getfield 27, 7, 2, 211, 3), (.invokevirtual 145, 64, 1, 420, 1), (.if_icmp .le 9, 4, 0, 0, 0), (.nop, 3, 0, 0, 0)]
def q86_3 : List zI := [(.aload_n 0, 0, 0, 0, 0), (.iconst 2, 0, 2, 0, 0), (.invokevirtual 121, 106, 2, 319, 1), (.ireturn, 0, 0, 0, 0)]
def q86_4 : List zI := [(.aload_n 0, 0, 0, 0, 0), (.getfield 27, 7, 2, 211, 3), (.iload_n 2, 0, 0, 0, 0), (.invokevirtual 148, 65, 2, 424, 1), (.ireturn, 0, 0, 0, 0)]
def bk86 : List (List zI) := [q86_0, q86_1, q86_2, q86_3, q86_4]
def q87_0 : List zI := [(.iload_n 1, 0, 0, 0, 0), (.invokestatic 107, 104, 1, 300, 1), (.ifCond .eq 12, 1, 0, 0, 0), (.iload_n 2, 0, 0, 0, 0), (.ifCond .lt 8, 1, 0, 0, 0), (.iload_n 2, 0, 0, 0, 0), (.iconst 1, 0, 1, 0, 0), (.if_icmp .le 5, 2, 0, 0, 0), (.nop, 1, 0, 0, 0)]
def q87_1 : List zI := [(.iconst (-1), 1, 1, 0, 0), (.ireturn, 0, 0, 0, 0)]
def q87_2 : List zI := [(.aload_n 0, 0, 0, 0, 0), (.getfield 18, 7, 1, 210, 3), (.iload_n 1, 0, 0, 0, 0), (.aaload, 0, 0, 0, 0), (.invokevirtual 110, 35, 1, 303, 1), (.ifCond .ne 9, 3, 0, 0, 0), (.aload_n 0, 0, 0, 0, 0), (.iconst 1, 0, 1, 0, 0), (.invokevirtual 121, 106, 2, 319, 1), (.ireturn, 0, 0, 0, 0)]
def q87_3 : List zI := [(.aload_n 0, 0, 0, 0, 0), (.getfield 27, 7, 2, 211, 3), (.aload_n 0, 0, 0, 0, 0), (.getfield 18, 7, 1, 210, 3), (.iload_n 1, 0, 0, 0, 0), (.aaload, 0, 0, 0, 0), (.invokevirtual 141, 63, 2, 363, 0), (.iload_n 2, 0, 0, 0, 0), (.ifCond .ne 13, 4, 0, 0, 0), (.aload_n 0, 0, 0, 0, 0), (.getfield 27, 7, 2, 211, 3), (.invokevirtual 151, 68, 1, 404, 0), (.goto 10, 5, 0, 0, 0)]
def q87_4 : List zI := [(.aload_n 0, 0, 0, 0, 0), (.getfield 27, 7, 2, 211, 3), (.invokevirtual 154, 69, 1, 429, 0), (.nop, 5, 0, 0, 0)]
def q87_5 : List zI := [(.ireturn, 0, 0, 0, 0)]
def bk87 : List (List zI) := [q87_0, q87_1, q87_2, q87_3, q87_4, q87_5]
def q88_0 : List zI := [(.iload_n 1, 0, 0, 0, 0), (.invokestatic 107, 104, 1, 300, 1), (.ifCond .ne 5, 1, 0, 0, 0), (.iconst (-1), 1, 1, 0, 0), (.ireturn, 0, 0, 0, 0)]
def q88_1 : List zI := [(.aload_n 0, 0, 0, 0, 0), (.getfield 18, 7, 1, 210, 3), (.iload_n 1, 0, 0, 0, 0), (.aaload, 0, 0, 0, 0), (.invokevirtual 110, 35, 1, 303, 1), (.ifCond .ne 9, 2, 0, 0, 0), (.aload_n 0, 0, 0, 0, 0), (.iconst 1, 0, 1, 0, 0), (.invokevirtual 121, 106, 2, 319, 1), (.ireturn, 0, 0, 0, 0)]
def q88_2 : List zI := [(.aload_n 0, 0, 0, 0, 0), (.aload_n 0, 0, 0, 0, 0), (.getfield 18, 7, 1, 210, 3), (.iload_n 1, 0, 0, 0, 0), (.aaload, 0, 0, 0, 0), (.invokevirtual 137, 107, 2, 359, 0), (.invokestatic 157, 105, 1, 438, 0), (.ifCond .ne 9, 3, 0, 0, 0), (.aload_n 0, 0, 0, 0, 0), (.iconst 3, 0, 3, 0, 0), (.invokevirtual 121, 106, 2, 319, 1), (.ireturn, 0, 0, 0, 0)]
def q88_3 : List zI := [(.aload_n 0, 0, 0, 0, 0), (.getfield 27, 7, 2, 211, 3), (.invokevirtual 160, 70, 1, 412, 0), (.ireturn, 0, 0, 0, 0)]
def bk88 : List (List zI) := [q88_0, q88_1, q88_2, q88_3]
def q89_0 : List zI := [(.iload_n 1, 0, 0, 0, 0), (.invokestatic 107, 104, 1, 300, 1), (.ifCond .eq 14, 1, 0, 0, 0), (.aload_n 0, 0, 0, 0, 0), (.getfield 10, 7, 0, 209, 3), (.iload_n 2, 0, 0, 0, 0), (.invokevirtual 92, 12, 2, 272, 0), (.ifCond .ne 5, 2, 0, 0, 0), (.nop, 1, 0, 0, 0)]
def q89_1 : List zI := [(.iconst (-1), 1, 1, 0, 0), (.ireturn, 0, 0, 0, 0)]
def q89_2 : List zI := [(.aload_n 0, 0, 0, 0, 0), (.getfield 18, 7, 1, 210, 3), (.iload_n 1, 0, 0, 0, 0), (.aaload, 0, 0, 0, 0), (.invokevirtual 110, 35, 1, 303, 1), (.ifCond .ne 9, 3, 0, 0, 0), (.aload_n 0, 0, 0, 0, 0), (.iconst 1, 0, 1, 0, 0), (.invokevirtual 121, 106, 2, 319, 1), (.ireturn, 0, 0, 0, 0)]
def q89_3 : List zI := [(.aload_n 0, 0, 0, 0, 0), (.aload_n 0, 0, 0, 0, 0), (.getfield 18, 7, 1, 210, 3), (.iload_n 1, 0, 0, 0, 0), (.aaload, 0, 0, 0, 0), (.invokevirtual 137, 107, 2, 359, 0), (.iconst 3, 0, 3, 0, 0), (.if_icmp .eq 9, 4, 0, 0, 0), (.aload_n 0, 0, 0, 0, 0), (.iconst 3, 0, 3, 0, 0), (.invokevirtual 121, 106, 2, 319, 1), (.ireturn, 0, 0, 0, 0)]
def q89_4 : List zI := [(.aload_n 0, 0, 0, 0, 0), (.getfield 27, 7, 2, 211, 3), (.iload_n 2, 0, 0, 0, 0), (.invokevirtual 163, 67, 2, 445, 0), (.istore_n 3, 0, 0, 0, 0), (.iload_n 3, 0, 0, 0, 0), (.bipush (-9), 1, 9, 0, 0), (.if_icmp .eq 5, 5, 0, 0, 0), (.iload_n 3, 0, 0, 0, 0), (.ireturn, 0, 0, 0, 0)]
def q89_5 : List zI := [(.bipush (-10), 1, 10, 0, 0), (.aload_n 0, 0, 0, 0, 0), (.getfield 27, 7, 2, 211, 3), (.invokevirtual 166, 66, 1, 449, 0), (.aload_n 0, 0, 0, 0, 0), (.getfield 10, 7, 0, 209, 3), (.iload_n 2, 0, 0, 0, 0), (.iconst 1, 0, 1, 0, 0), (.invokevirtual 169, 16, 3, 453, 0), (.land, 0, 0, 0, 0), (.invokestatic 173, 173, 1, 457, 0), (.isub, 0, 0, 0, 0), (.ireturn, 0, 0, 0, 0)]
def bk89 : List (List zI) := [q89_0, q89_1, q89_2, q89_3, q89_4, q89_5]
def q90_0 : List zI := [(.iload_n 1, 0, 0, 0, 0), (.invokestatic 107, 104, 1, 300, 1), (.ifCond .ne 5, 1, 0, 0, 0), (.iconst (-1), 1, 1, 0, 0), (.ireturn, 0, 0, 0, 0)]
def q90_1 : List zI := [(.aload_n 0, 0, 0, 0, 0), (.getfield 18, 7, 1, 210, 3), (.iload_n 1, 0, 0, 0, 0), (.aaload, 0, 0, 0, 0), (.invokevirtual 110, 35, 1, 303, 1), (.ifCond .ne 9, 2, 0, 0, 0), (.aload_n 0, 0, 0, 0, 0), (.iconst 1, 0, 1, 0, 0), (.invokevirtual 121, 106, 2, 319, 1), (.ireturn, 0, 0, 0, 0)]
def q90_2 : List zI := [(.aload_n 0, 0, 0, 0, 0), (.aload_n 0, 0, 0, 0, 0), (.getfield 18, 7, 1, 210, 3), (.iload_n 1, 0, 0, 0, 0), (.aaload, 0, 0, 0, 0), (.invokevirtual 137, 107, 2, 359, 0), (.ifCond .ne 9, 3, 0, 0, 0), (.aload_n 0, 0, 0, 0, 0), (.iconst 3, 0, 3, 0, 0), (.invokevirtual 121, 106, 2, 319, 1), (.ireturn, 0, 0, 0, 0)]
def q90_3 : List zI := [(.aload_n 0, 0, 0, 0, 0), (.getfield 27, 7, 2, 211, 3), (.invokevirtual 166, 66, 1, 449, 0), (.aload_n 0, 0, 0, 0, 0), (.getfield 10, 7, 0, 209, 3), (.invokevirtual 179, 8, 1, 467, 1), (.invokestatic 182, 3, 2, 468, 0), (.lstore_n 2, 0, 0, 0, 0), (.aload_n 0, 0, 0, 0, 0), (.getfield 10, 7, 0, 209, 3), (.invokevirtual 188, 11, 1, 469, 0), (.lload_n 2, 0, 0, 0, 0), (.ldc2_w 191, 1, 1, 473, 0), (.lxor, 0, 0, 0, 0), (.land, 0, 0, 0, 0), (.invokestatic 173, 173, 1, 457, 0), (.ireturn, 0, 0, 0, 0)]
def bk90 : List (List zI) := [q90_0, q90_1, q90_2, q90_3]
def q91_0 : List zI := [(.iload_n 1, 0, 0, 0, 0), (.invokestatic 107, 104, 1, 300, 1), (.ifCond .eq 10, 1, 0, 0, 0), (.iload_n 2, 0, 0, 0, 0), (.invokestatic 107, 104, 1, 300, 1), (.ifCond .ne 5, 2, 0, 0, 0), (.nop, 1, 0, 0, 0)]
def q91_1 : List zI := [(.iconst (-1), 1, 1, 0, 0), (.ireturn, 0, 0, 0, 0)]
def q91_2 : List zI := [(.aload_n 0, 0, 0, 0, 0), (.getfield 18, 7, 1, 210, 3), (.iload_n 1, 0, 0, 0, 0), (.aaload, 0, 0, 0, 0), (.invokevirtual 110, 35, 1, 303, 1), (.ifCond .eq 15, 3, 0, 0, 0), (.aload_n 0, 0, 0, 0, 0), (.getfield 18, 7, 1, 210, 3), (.iload_n 2, 0, 0, 0, 0), (.aaload, 0, 0, 0, 0), (.invokevirtual 110, 35, 1, 303, 1), (.ifCond .ne 9, 4, 0, 0, 0), (.nop, 3, 0, 0, 0)]
def q91_3 : List zI := [(.aload_n 0, 0, 0, 0, 0), (.iconst 1, 0, 1, 0, 0), (.invokevirtual 121, 106, 2, 319, 1), (.ireturn, 0, 0, 0, 0)]
def q91_4 : List zI := [(.aload_n 0, 0, 0, 0, 0), (.aload_n 0, 0, 0, 0, 0), (.getfield 18, 7, 1, 210, 3), (.iload_n 1, 0, 0, 0, 0), (.aaload, 0, 0, 0, 0), (.invokevirtual 137, 107, 2, 359, 0), (.istore_n 3, 0, 0, 0, 0), (.aload_n 0, 0, 0, 0, 0), (.aload_n 0, 0, 0, 0, 0), (.getfield 18, 7, 1, 210, 3), (.iload_n 2, 0, 0, 0, 0), (.aaload, 0, 0, 0, 0), (.invokevirtual 137, 107, 2, 359, 0), (.istore 4, 0, 0, 0, 0), (.iload_n 3, 0, 0, 0, 0), (.iconst 3, 0, 3, 0, 0), (.if_icmp .ne 13, 5, 0, 0, 0), (.iload 4, 0, 0, 0, 0), (.iconst 3, 0, 3, 0, 0), (.if_icmp .ne 7, 5, 0, 0, 0), (.iconst 1, 0, 1, 0, 0), (.goto 4, 6, 0, 0, 0)]
def q91_5 : List zI := [(.iconst 0, 0, 0, 0, 0), (.nop, 6, 0, 0, 0)]
def q91_6 : List zI := [(.istore 5, 0, 0, 0, 0), (.iload 5, 0, 0, 0, 0), (.ifCond .ne 24, 8, 0, 0, 0), (.iload_n 3, 0, 0, 0, 0), (.invokestatic 157, 105, 1, 438, 0), (.ifCond .eq 11, 7, 0, 0, 0), (.iload 4, 0, 0, 0, 0), (.invokestatic 157, 105, 1, 438, 0), (.ifCond .ne 9, 8, 0, 0, 0), (.nop, 7, 0, 0, 0)]
def q91_7 : List zI := [(.aload_n 0, 0, 0, 0, 0), (.iconst 3, 0, 3, 0, 0), (.invokevirtual 121, 106, 2, 319, 1), (.ireturn, 0, 0, 0, 0)]
def q91_8 : List zI := [(.aload_n 0, 0, 0, 0, 0), (.getfield 41, 7, 4, 213, 3), (.aload_n 0, 0, 0, 0, 0), (.getfield 18, 7, 1, 210, 3), (.iload_n 1, 0, 0, 0, 0), (.aaload, 0, 0, 0, 0), (.iload 5, 0, 0, 0, 0), (.aload_n 0, 0, 0, 0, 0), (.getfield 46, 7, 5, 214, 3), (.invokevirtual 193, 27, 4, 478, 0), (.aload_n 0, 0, 0, 0, 0), (.getfield 41, 7, 4, 213, 3), (.aload_n 0, 0, 0, 0, 0), (.getfield 18, 7, 1, 210, 3), (.iload_n 2, 0, 0, 0, 0), (.aaload, 0, 0, 0, 0), (.iload 5, 0, 0, 0, 0), (.aload_n 0, 0, 0, 0, 0), (.getfield 50, 7, 6, 215, 3), (.invokevirtual 193, 27, 4, 478, 0), (.aload_n 0, 0, 0, 0, 0), (.getfield 46, 7, 5, 214, 3), (.aload_n 0, 0, 0, 0, 0), (.getfield 50, 7, 6, 215, 3), (.invokevirtual 197, 44, 2, 512, 0), (.ifCond .eq 7, 9, 0, 0, 0), (.iconst 1, 0, 1, 0, 0), (.goto 4, 10, 0, 0, 0)]
def q91_9 : List zI := [(.iconst 0, 0, 0, 0, 0), (.nop, 10, 0, 0, 0)]
def q91_10 : List zI := [(.ireturn, 0, 0, 0, 0)]
def bk91 : List (List zI) := [q91_0, q91_1, q91_2, q91_3, q91_4, q91_5, q91_6, q91_7, q91_8, q91_9, q91_10]
def q92_0 : List zI := [(.iload_n 1, 0, 0, 0, 0), (.invokestatic 107, 104, 1, 300, 1), (.ifCond .ne 5, 1, 0, 0, 0), (.iconst (-1), 1, 1, 0, 0), (.ireturn, 0, 0, 0, 0)]
def q92_1 : List zI := [(.aload_n 0, 0, 0, 0, 0), (.getfield 18, 7, 1, 210, 3), (.iload_n 1, 0, 0, 0, 0), (.aaload, 0, 0, 0, 0), (.invokevirtual 110, 35, 1, 303, 1), (.ifCond .ne 9, 2, 0, 0, 0), (.aload_n 0, 0, 0, 0, 0), (.iconst 1, 0, 1, 0, 0), (.invokevirtual 121, 106, 2, 319, 1), (.ireturn, 0, 0, 0, 0)]
def q92_2 : List zI := [(.aload_n 0, 0, 0, 0, 0), (.aload_n 0, 0, 0, 0, 0), (.getfield 18, 7, 1, 210, 3), (.iload_n 1, 0, 0, 0, 0), (.aaload, 0, 0, 0, 0), (.invokevirtual 137, 107, 2, 359, 0), (.istore_n 3, 0, 0, 0, 0), (.iload_n 3, 0, 0, 0, 0), (.ifCond .ne 9, 3, 0, 0, 0), (.aload_n 0, 0, 0, 0, 0), (.iconst 3, 0, 3, 0, 0), (.invokevirtual 121, 106, 2, 319, 1), (.ireturn, 0, 0, 0, 0)]
def q92_3 : List zI := [(.iload_n 2, 0, 0, 0, 0), (.ifCond .lt 16, 4, 0, 0, 0), (.iload_n 2, 0, 0, 0, 0), (.aload_n 0, 0, 0, 0, 0), (.getfield 18, 7, 1, 210, 3), (.iload_n 1, 0, 0, 0, 0), (.aaload, 0, 0, 0, 0), (.invokevirtual 117, 36, 1, 315, 1), (.if_icmp .lt 9, 5, 0, 0, 0), (.nop, 4, 0, 0, 0)]
def q92_4 : List zI := [(.aload_n 0, 0, 0, 0, 0), (.iconst 2, 0, 2, 0, 0), (.invokevirtual 121, 106, 2, 319, 1), (.ireturn, 0, 0, 0, 0)]
def q92_5 : List zI := [(.aload_n 0, 0, 0, 0, 0), (.getfield 41, 7, 4, 213, 3), (.aload_n 0, 0, 0, 0, 0), (.getfield 18, 7, 1, 210, 3), (.iload_n 1, 0, 0, 0, 0), (.aaload, 0, 0, 0, 0), (.iload_n 3, 0, 0, 0, 0), (.iconst 3, 0, 3, 0, 0), (.if_icmp .ne 7, 6, 0, 0, 0), (.iconst 1, 0, 1, 0, 0), (.goto 4, 7, 0, 0, 0)]
def q92_6 : List zI := [(.iconst 0, 0, 0, 0, 0), (.nop, 7, 0, 0, 0)]
def q92_7 : List zI := [(.aload_n 0, 0, 0, 0, 0), (.getfield 46, 7, 5, 214, 3), (.invokevirtual 193, 27, 4, 478, 0), (.aload_n 0, 0, 0, 0, 0), (.getfield 46, 7, 5, 214, 3), (.iload_n 2, 0, 0, 0, 0), (.invokevirtual 128, 41, 2, 331, 1), (.ireturn, 0, 0, 0, 0)]
def bk92 : List (List zI) := [q92_0, q92_1, q92_2, q92_3, q92_4, q92_5, q92_6, q92_7]
def q93_0 : List zI := [(.iload_n 1, 0, 0, 0, 0), (.invokestatic 107, 104, 1, 300, 1), (.ifCond .ne 5, 1, 0, 0, 0), (.iconst (-1), 1, 1, 0, 0), (.ireturn, 0, 0, 0, 0)]
def q93_1 : List zI := [(.aload_n 0, 0, 0, 0, 0), (.getfield 18, 7, 1, 210, 3), (.iload_n 1, 0, 0, 0, 0), (.aaload, 0, 0, 0, 0), (.invokevirtual 110, 35, 1, 303, 1), (.ifCond .ne 9, 2, 0, 0, 0), (.aload_n 0, 0, 0, 0, 0), (.iconst 1, 0, 1, 0, 0), (.invokevirtual 121, 106, 2, 319, 1), (.ireturn, 0, 0, 0, 0)]
def q93_2 : List zI := [(.aload_n 0, 0, 0, 0, 0), (.aload_n 0, 0, 0, 0, 0), (.getfield 18, 7, 1, 210, 3), (.iload_n 1, 0, 0, 0, 0), (.aaload, 0, 0, 0, 0), (.invokevirtual 137, 107, 2, 359, 0), (.iconst 3, 0, 3, 0, 0), (.if_icmp .eq 9, 3, 0, 0, 0), (.aload_n 0, 0, 0, 0, 0), (.iconst 3, 0, 3, 0, 0), (.invokevirtual 121, 106, 2, 319, 1), (.ireturn, 0, 0, 0, 0)]
def q93_3 : List zI := [(.aload_n 0, 0, 0, 0, 0), (.getfield 34, 7, 3, 212, 3), (.aload_n 0, 0, 0, 0, 0), (.getfield 27, 7, 2, 211, 3), (.invokevirtual 166, 66, 1, 449, 0), (.aload_n 0, 0, 0, 0, 0), (.getfield 10, 7, 0, 209, 3), (.invokevirtual 179, 8, 1, 467, 1), (.invokevirtual 201, 58, 3, 526, 0), (.ireturn, 0, 0, 0, 0)]
def bk93 : List (List zI) := [q93_0, q93_1, q93_2, q93_3]
def q94_0 : List zI := [(.iload_n 1, 0, 0, 0, 0), (.invokestatic 107, 104, 1, 300, 1), (.ifCond .eq 15, 1, 0, 0, 0), (.iload_n 3, 0, 0, 0, 0), (.iconst 1, 0, 1, 0, 0), (.if_icmp .lt 10, 1, 0, 0, 0), (.iload_n 3, 0, 0, 0, 0), (.sipush 20000, 0, 20000, 0, 0), (.if_icmp .le 5, 2, 0, 0, 0), (.nop, 1, 0, 0, 0)]
def q94_1 : List zI := [(.iconst (-1), 1, 1, 0, 0), (.ireturn, 0, 0, 0, 0)]
def q94_2 : List zI := [(.aload_n 0, 0, 0, 0, 0), (.getfield 10, 7, 0, 209, 3), (.iconst 0, 0, 0, 0, 0), (.invokevirtual 96, 14, 2, 276, 0), (.ifCond .eq 6, 3, 0, 0, 0), (.bipush (-4), 1, 4, 0, 0), (.ireturn, 0, 0, 0, 0)]
def q94_3 : List zI := [(.aload_n 0, 0, 0, 0, 0), (.getfield 18, 7, 1, 210, 3), (.iload_n 1, 0, 0, 0, 0), (.aaload, 0, 0, 0, 0), (.invokevirtual 114, 37, 1, 307, 1), (.aload_n 0, 0, 0, 0, 0), (.iconst 0, 0, 0, 0, 0), (.putfield 70, 7, 10, 219, 0), (.aload_n 0, 0, 0, 0, 0), (.getfield 56, 7, 7, 216, 3), (.iload_n 2, 0, 0, 0, 0), (.bipush 64, 0, 64, 0, 0), (.invokevirtual 205, 46, 3, 549, 0), (.iconst 0, 0, 0, 0, 0), (.istore 4, 0, 0, 0, 0), (.nop, 4, 0, 0, 1)]
def q94_4 : List zI := [(.iload 4, 0, 0, 0, 0), (.iload_n 3, 0, 0, 0, 0), (.if_icmp .gt 77, 7, 0, 0, 0), (.aload_n 0, 0, 0, 0, 0), (.getfield 56, 7, 7, 216, 3), (.invokevirtual 208, 48, 1, 580, 0), (.ifCond .eq 41, 5, 0, 0, 0), (.aload_n 0, 0, 0, 0, 0), (.getfield 56, 7, 7, 216, 3), (.invokevirtual 211, 47, 1, 584, 1), (.invokevirtual 117, 36, 1, 315, 1), (.aload_n 0, 0, 0, 0, 0), (.getfield 18, 7, 1, 210, 3), (.iload_n 1, 0, 0, 0, 0), (.aaload, 0, 0, 0, 0), (.invokevirtual 117, 36, 1, 315, 1), (.if_icmp .le 19, 5, 0, 0, 0), (.aload_n 0, 0, 0, 0, 0), (.getfield 18, 7, 1, 210, 3), (.iload_n 1, 0, 0, 0, 0), (.aaload, 0, 0, 0, 0), (.aload_n 0, 0, 0, 0, 0), (.getfield 56, 7, 7, 216, 3), (.invokevirtual 211, 47, 1, 584, 1), (.invokevirtual 215, 43, 2, 588, 0), (.nop, 5, 0, 0, 0)]
def q94_5 : List zI := [(.aload_n 0, 0, 0, 0, 0), (.iload 4, 0, 0, 0, 0), (.iload_n 3, 0, 0, 0, 0), (.invokevirtual 218, 109, 3, 594, 0), (.ifCond .ne 13, 6, 0, 0, 0), (.aload_n 0, 0, 0, 0, 0), (.getfield 18, 7, 1, 210, 3), (.iload_n 1, 0, 0, 0, 0), (.aaload, 0, 0, 0, 0), (.invokevirtual 117, 36, 1, 315, 1), (.ireturn, 0, 0, 0, 0)]
def q94_6 : List zI := [(.iinc 4 1, 0, 0, 0, 0), (.goto (-77), 4, 0, 0, 1)]
def q94_7 : List zI := [(.bipush (-6), 1, 6, 0, 0), (.ireturn, 0, 0, 0, 0)]
def bk94 : List (List zI) := [q94_0, q94_1, q94_2, q94_3, q94_4, q94_5, q94_6, q94_7]
def q95_0 : List zI := [(.iload_n 2, 0, 0, 0, 0), (.ifCond .lt 9, 1, 0, 0, 0), (.iload_n 2, 0, 0, 0, 0), (.bipush 64, 0, 64, 0, 0), (.if_icmp .le 5, 2, 0, 0, 0), (.nop, 1, 0, 0, 0)]
def q95_1 : List zI := [(.iconst (-1), 1, 1, 0, 0), (.ireturn, 0, 0, 0, 0)]
def q95_2 : List zI := [(.aload_n 0, 0, 0, 0, 0), (.getfield 10, 7, 0, 209, 3), (.iconst 0, 0, 0, 0, 0), (.invokevirtual 96, 14, 2, 276, 0), (.ifCond .eq 6, 3, 0, 0, 0), (.bipush (-4), 1, 4, 0, 0), (.ireturn, 0, 0, 0, 0)]
def q95_3 : List zI := [(.aload_n 0, 0, 0, 0, 0), (.iload_n 1, 0, 0, 0, 0), (.iload_n 2, 0, 0, 0, 0), (.invokevirtual 222, 111, 3, 632, 0), (.istore_n 3, 0, 0, 0, 0), (.iload_n 3, 0, 0, 0, 0), (.bipush (-6), 1, 6, 0, 0), (.if_icmp .ne 6, 4, 0, 0, 0), (.bipush (-6), 1, 6, 0, 0), (.ireturn, 0, 0, 0, 0)]
def q95_4 : List zI := [(.aload_n 0, 0, 0, 0, 0), (.iload_n 3, 0, 0, 0, 0), (.i2l, 0, 0, 0, 0), (.putfield 74, 7, 11, 220, 1), (.iconst 1, 0, 1, 0, 0), (.ireturn, 0, 0, 0, 0)]
def bk95 : List (List zI) := [q95_0, q95_1, q95_2, q95_3, q95_4]
def q96_0 : List zI := [(.iload_n 2, 0, 0, 0, 0), (.ifCond .lt 9, 1, 0, 0, 0), (.iload_n 2, 0, 0, 0, 0), (.bipush 64, 0, 64, 0, 0), (.if_icmp .le 5, 2, 0, 0, 0), (.nop, 1, 0, 0, 0)]
def q96_1 : List zI := [(.iconst (-1), 1, 1, 0, 0), (.ireturn, 0, 0, 0, 0)]
def q96_2 : List zI := [(.aload_n 0, 0, 0, 0, 0), (.getfield 10, 7, 0, 209, 3), (.invokevirtual 226, 13, 1, 644, 1), (.ifCond .ne 6, 3, 0, 0, 0), (.bipush (-4), 1, 4, 0, 0), (.ireturn, 0, 0, 0, 0)]
def q96_3 : List zI := [(.aload_n 0, 0, 0, 0, 0), (.iload_n 1, 0, 0, 0, 0), (.iload_n 2, 0, 0, 0, 0), (.invokevirtual 229, 112, 3, 645, 0), (.ifCond .ne 6, 4, 0, 0, 0), (.bipush (-6), 1, 6, 0, 0), (.ireturn, 0, 0, 0, 0)]
def q96_4 : List zI := [(.aload_n 0, 0, 0, 0, 0), (.getfield 63, 7, 8, 217, 3), (.astore_n 3, 0, 0, 0, 0), (.aload_n 0, 0, 0, 0, 0), (.aload_n 0, 0, 0, 0, 0), (.getfield 67, 7, 9, 218, 3), (.putfield 63, 7, 8, 217, 3), (.aload_n 0, 0, 0, 0, 0), (.aload_n 3, 0, 0, 0, 0), (.putfield 67, 7, 9, 218, 3), (.aload_n 0, 0, 0, 0, 0), (.aload_n 0, 0, 0, 0, 0), (.getfield 63, 7, 8, 217, 3), (.invokevirtual 233, 21, 1, 667, 1), (.i2l, 0, 0, 0, 0), (.putfield 74, 7, 11, 220, 1), (.iconst 1, 0, 1, 0, 0), (.ireturn, 0, 0, 0, 0)]
def bk96 : List (List zI) := [q96_0, q96_1, q96_2, q96_3, q96_4]
def q97_0 : List zI := [(.iload_n 2, 0, 0, 0, 0), (.invokestatic 107, 104, 1, 300, 1), (.ifCond .ne 5, 1, 0, 0, 0), (.iconst (-1), 1, 1, 0, 0), (.ireturn, 0, 0, 0, 0)]
def q97_1 : List zI := [(.iload_n 1, 0, 0, 0, 0), (.ifCond .lt 14, 2, 0, 0, 0), (.iload_n 1, 0, 0, 0, 0), (.aload_n 0, 0, 0, 0, 0), (.getfield 63, 7, 8, 217, 3), (.invokevirtual 233, 21, 1, 667, 1), (.if_icmp .lt 6, 3, 0, 0, 0), (.nop, 2, 0, 0, 0)]
def q97_2 : List zI := [(.bipush (-9), 1, 9, 0, 0), (.ireturn, 0, 0, 0, 0)]
def q97_3 : List zI := [(.aload_n 0, 0, 0, 0, 0), (.getfield 63, 7, 8, 217, 3), (.iload_n 1, 0, 0, 0, 0), (.aload_n 0, 0, 0, 0, 0), (.getfield 18, 7, 1, 210, 3), (.iload_n 2, 0, 0, 0, 0), (.aaload, 0, 0, 0, 0), (.invokevirtual 236, 24, 3, 675, 0), (.iconst 1, 0, 1, 0, 0), (.ireturn, 0, 0, 0, 0)]
def bk97 : List (List zI) := [q97_0, q97_1, q97_2, q97_3]
def q98_0 : List zI := [(.aload_n 0, 0, 0, 0, 0), (.getfield 70, 7, 10, 219, 0), (.ireturn, 0, 0, 0, 0)]
def bk98 : List (List zI) := [q98_0]
def q99_0 : List zI := [(.aload_n 0, 0, 0, 0, 0), (.getfield 74, 7, 11, 220, 1), (.lreturn, 0, 0, 0, 0)]
def bk99 : List (List zI) := [q99_0]
def q100_0 : List zI := [(.iload_n 1, 0, 0, 0, 0), (.tableswitch 63 0 3 #[31, 39, 47, 52], 1, 4, 0, 0)]
def q100_1 : List zI := [(.aload_n 0, 0, 0, 0, 0), (.getfield 10, 7, 0, 209, 3), (.invokevirtual 179, 8, 1, 467, 1), (.ireturn, 0, 0, 0, 0)]
def q100_2 : List zI := [(.aload_n 0, 0, 0, 0, 0), (.getfield 10, 7, 0, 209, 3), (.invokevirtual 240, 9, 1, 697, 1), (.ireturn, 0, 0, 0, 0)]
def q100_3 : List zI := [(.aload_n 0, 0, 0, 0, 0), (.invokevirtual 243, 108, 1, 698, 0), (.ireturn, 0, 0, 0, 0)]
def q100_4 : List zI := [(.aload_n 0, 0, 0, 0, 0), (.getfield 10, 7, 0, 209, 3), (.invokevirtual 103, 10, 1, 292, 1), (.invokestatic 173, 173, 1, 457, 0), (.ireturn, 0, 0, 0, 0)]
def q100_5 : List zI := [(.iconst (-1), 1, 1, 0, 0), (.ireturn, 0, 0, 0, 0)]
def bk100 : List (List zI) := [q100_0, q100_1, q100_2, q100_3, q100_4, q100_5]
def q101_0 : List zI := [(.aload_n 0, 0, 0, 0, 0), (.getfield 82, 7, 13, 222, 0), (.ireturn, 0, 0, 0, 0)]
def bk101 : List (List zI) := [q101_0]
def q102_0 : List zI := [(.iload_n 1, 0, 0, 0, 0), (.iconst 1, 0, 1, 0, 0), (.if_icmp .lt 8, 1, 0, 0, 0), (.iload_n 1, 0, 0, 0, 0), (.iconst 4, 0, 4, 0, 0), (.if_icmp .le 7, 2, 0, 0, 0), (.nop, 1, 0, 0, 0)]
def q102_1 : List zI := [(.iconst (-1), 1, 1, 0, 0), (.goto 9, 3, 0, 0, 0)]
def q102_2 : List zI := [(.aload_n 0, 0, 0, 0, 0), (.getfield 78, 7, 12, 221, 3), (.iload_n 1, 0, 0, 0, 0), (.iaload, 0, 0, 0, 0), (.nop, 3, 0, 0, 0)]
def q102_3 : List zI := [(.ireturn, 0, 0, 0, 0)]
def bk102 : List (List zI) := [q102_0, q102_1, q102_2, q102_3]
def q103_0 : List zI := [(.ldc2_w 246, 0, 17, 714, 0), (.lstore_n 1, 0, 0, 0, 0), (.ldc2_w 248, 0, 31, 715, 0), (.lload_n 1, 0, 0, 0, 0), (.lmul, 0, 0, 0, 0), (.aload_n 0, 0, 0, 0, 0), (.getfield 10, 7, 0, 209, 3), (.invokevirtual 179, 8, 1, 467, 1), (.i2l, 0, 0, 0, 0), (.ladd, 0, 0, 0, 0), (.lstore_n 1, 0, 0, 0, 0), (.ldc2_w 248, 0, 31, 715, 0), (.lload_n 1, 0, 0, 0, 0), (.lmul, 0, 0, 0, 0), (.aload_n 0, 0, 0, 0, 0), (.getfield 10, 7, 0, 209, 3), (.invokevirtual 240, 9, 1, 697, 1), (.i2l, 0, 0, 0, 0), (.ladd, 0, 0, 0, 0), (.lstore_n 1, 0, 0, 0, 0), (.ldc2_w 248, 0, 31, 715, 0), (.lload_n 1, 0, 0, 0, 0), (.lmul, 0, 0, 0, 0), (.aload_n 0, 0, 0, 0, 0), (.getfield 10, 7, 0, 209, 3), (.invokevirtual 103, 10, 1, 292, 1), (.ladd, 0, 0, 0, 0), (.lstore_n 1, 0, 0, 0, 0), (.iconst 0, 0, 0, 0, 0), (.istore_n 3, 0, 0, 0, 0), (.nop, 1, 0, 0, 1)]
def q103_1 : List zI := [(.iload_n 3, 0, 0, 0, 0), (.bipush 12, 0, 12, 0, 0), (.if_icmp .ge 84, 6, 0, 0, 0), (.ldc2_w 248, 0, 31, 715, 0), (.lload_n 1, 0, 0, 0, 0), (.lmul, 0, 0, 0, 0), (.aload_n 0, 0, 0, 0, 0), (.getfield 18, 7, 1, 210, 3), (.iload_n 3, 0, 0, 0, 0), (.aaload, 0, 0, 0, 0), (.invokevirtual 110, 35, 1, 303, 1), (.ifCond .eq 15, 2, 0, 0, 0), (.aload_n 0, 0, 0, 0, 0), (.getfield 18, 7, 1, 210, 3), (.iload_n 3, 0, 0, 0, 0), (.aaload, 0, 0, 0, 0), (.invokevirtual 117, 36, 1, 315, 1), (.goto 4, 3, 0, 0, 0)]
def q103_2 : List zI := [(.iconst (-1), 1, 1, 0, 0), (.nop, 3, 0, 0, 0)]
def q103_3 : List zI := [(.i2l, 0, 0, 0, 0), (.ladd, 0, 0, 0, 0), (.lstore_n 1, 0, 0, 0, 0), (.iconst 0, 0, 0, 0, 0), (.istore 4, 0, 0, 0, 0), (.nop, 4, 0, 0, 1)]
def q103_4 : List zI := [(.iload 4, 0, 0, 0, 0), (.aload_n 0, 0, 0, 0, 0), (.getfield 18, 7, 1, 210, 3), (.iload_n 3, 0, 0, 0, 0), (.aaload, 0, 0, 0, 0), (.invokevirtual 117, 36, 1, 315, 1), (.if_icmp .ge 28, 5, 0, 0, 0), (.ldc2_w 248, 0, 31, 715, 0), (.lload_n 1, 0, 0, 0, 0), (.lmul, 0, 0, 0, 0), (.aload_n 0, 0, 0, 0, 0), (.getfield 18, 7, 1, 210, 3), (.iload_n 3, 0, 0, 0, 0), (.aaload, 0, 0, 0, 0), (.iload 4, 0, 0, 0, 0), (.invokevirtual 128, 41, 2, 331, 1), (.i2l, 0, 0, 0, 0), (.ladd, 0, 0, 0, 0), (.lstore_n 1, 0, 0, 0, 0), (.iinc 4 1, 0, 0, 0, 0), (.goto (-36), 4, 0, 0, 1)]
def q103_5 : List zI := [(.iinc 3 1, 0, 0, 0, 0), (.goto (-84), 1, 0, 0, 1)]
def q103_6 : List zI := [(.lload_n 1, 0, 0, 0, 0), (.lreturn, 0, 0, 0, 0)]
def bk103 : List (List zI) := [q103_0, q103_1, q103_2, q103_3, q103_4, q103_5, q103_6]
def q104_0 : List zI := [(.iload_n 0, 0, 0, 0, 0), (.ifCond .lt 13, 1, 0, 0, 0), (.iload_n 0, 0, 0, 0, 0), (.bipush 12, 0, 12, 0, 0), (.if_icmp .ge 7, 1, 0, 0, 0), (.iconst 1, 0, 1, 0, 0), (.goto 4, 2, 0, 0, 0)]
def q104_1 : List zI := [(.iconst 0, 0, 0, 0, 0), (.nop, 2, 0, 0, 0)]
def q104_2 : List zI := [(.ireturn, 0, 0, 0, 2)]
def bk104 : List (List zI) := [q104_0, q104_1, q104_2]
def q105_0 : List zI := [(.iload_n 0, 0, 0, 0, 0), (.iconst 1, 0, 1, 0, 0), (.if_icmp .eq 8, 1, 0, 0, 0), (.iload_n 0, 0, 0, 0, 0), (.iconst 2, 0, 2, 0, 0), (.if_icmp .ne 7, 2, 0, 0, 0), (.nop, 1, 0, 0, 0)]
def q105_1 : List zI := [(.iconst 1, 0, 1, 0, 0), (.goto 4, 3, 0, 0, 0)]
def q105_2 : List zI := [(.iconst 0, 0, 0, 0, 0), (.nop, 3, 0, 0, 0)]
def q105_3 : List zI := [(.ireturn, 0, 0, 0, 2)]
def bk105 : List (List zI) := [q105_0, q105_1, q105_2, q105_3]
def q106_0 : List zI := [(.iload_n 1, 0, 0, 0, 0), (.iconst 1, 0, 1, 0, 0), (.if_icmp .lt 23, 1, 0, 0, 0), (.iload_n 1, 0, 0, 0, 0), (.iconst 4, 0, 4, 0, 0), (.if_icmp .gt 18, 1, 0, 0, 0), (.aload_n 0, 0, 0, 0, 0), (.getfield 78, 7, 12, 221, 3), (.iload_n 1, 0, 0, 0, 0), (.dup2, 0, 0, 0, 0), (.iaload, 0, 0, 0, 0), (.iconst 1, 0, 1, 0, 0), (.iadd, 0, 0, 0, 0), (.iastore, 0, 0, 0, 0), (.aload_n 0, 0, 0, 0, 0), (.iload_n 1, 0, 0, 0, 0), (.putfield 82, 7, 13, 222, 0), (.nop, 1, 0, 0, 0)]
def q106_1 : List zI := [(.bipush (-3), 1, 3, 0, 0), (.ireturn, 0, 0, 0, 0)]
def bk106 : List (List zI) := [q106_0, q106_1]
def q107_0 : List zI := [(.aload_n 0, 0, 0, 0, 0), (.getfield 27, 7, 2, 211, 3), (.aload_n 1, 0, 0, 0, 0), (.invokevirtual 141, 63, 2, 363, 0), (.aload_n 0, 0, 0, 0, 0), (.getfield 27, 7, 2, 211, 3), (.invokevirtual 250, 71, 1, 373, 0), (.ifCond .eq 5, 1, 0, 0, 0), (.iconst 3, 0, 3, 0, 0), (.ireturn, 0, 0, 0, 0)]
def q107_1 : List zI := [(.aload_n 0, 0, 0, 0, 0), (.getfield 27, 7, 2, 211, 3), (.invokevirtual 151, 68, 1, 404, 0), (.bipush (-9), 1, 9, 0, 0), (.if_icmp .eq 5, 2, 0, 0, 0), (.iconst 0, 0, 0, 0, 0), (.ireturn, 0, 0, 0, 0)]
def q107_2 : List zI := [(.aload_n 0, 0, 0, 0, 0), (.getfield 27, 7, 2, 211, 3), (.invokevirtual 160, 70, 1, 412, 0), (.ifCond .ne 7, 3, 0, 0, 0), (.iconst 2, 0, 2, 0, 0), (.goto 4, 4, 0, 0, 0)]
def q107_3 : List zI := [(.iconst 1, 0, 1, 0, 0), (.nop, 4, 0, 0, 0)]
def q107_4 : List zI := [(.ireturn, 0, 0, 0, 0)]
def bk107 : List (List zI) := [q107_0, q107_1, q107_2, q107_3, q107_4]
def q108_0 : List zI := [(.iconst 0, 0, 0, 0, 0), (.istore_n 1, 0, 0, 0, 0), (.iconst 0, 0, 0, 0, 0), (.istore_n 2, 0, 0, 0, 0), (.nop, 1, 0, 0, 1)]
def q108_1 : List zI := [(.iload_n 2, 0, 0, 0, 0), (.bipush 12, 0, 12, 0, 0), (.if_icmp .ge 24, 3, 0, 0, 0), (.aload_n 0, 0, 0, 0, 0), (.getfield 18, 7, 1, 210, 3), (.iload_n 2, 0, 0, 0, 0), (.aaload, 0, 0, 0, 0), (.invokevirtual 110, 35, 1, 303, 1), (.ifCond .eq 6, 2, 0, 0, 0), (.iinc 1 1, 0, 0, 0, 0), (.nop, 2, 0, 0, 0)]
def q108_2 : List zI := [(.iinc 2 1, 0, 0, 0, 0), (.goto (-24), 1, 0, 0, 1)]
def q108_3 : List zI := [(.iload_n 1, 0, 0, 0, 0), (.ireturn, 0, 0, 0, 0)]
def bk108 : List (List zI) := [q108_0, q108_1, q108_2, q108_3]
def q109_0 : List zI := [(.aload_n 0, 0, 0, 0, 0), (.getfield 56, 7, 7, 216, 3), (.invokevirtual 253, 49, 1, 598, 0), (.ifCond .ne 5, 1, 0, 0, 0), (.iconst 0, 0, 0, 0, 0), (.ireturn, 0, 0, 0, 2)]
def q109_1 : List zI := [(.aload_n 0, 0, 0, 0, 0), (.iload_n 1, 0, 0, 0, 0), (.iconst 1, 0, 1, 0, 0), (.iadd, 0, 0, 0, 0), (.iload_n 2, 0, 0, 0, 0), (.invokestatic 256, 998, 2, 627, 0), (.putfield 70, 7, 10, 219, 0), (.iconst 1, 0, 1, 0, 0), (.ireturn, 0, 0, 0, 2)]
def bk109 : List (List zI) := [q109_0, q109_1]
def q110_0 : List zI := [(.aload_n 0, 0, 0, 0, 0), (.getfield 56, 7, 7, 216, 3), (.invokevirtual 208, 48, 1, 580, 0), (.ifCond .eq 21, 1, 0, 0, 0), (.aload_n 0, 0, 0, 0, 0), (.getfield 56, 7, 7, 216, 3), (.invokevirtual 211, 47, 1, 584, 1), (.invokevirtual 117, 36, 1, 315, 1), (.iload_n 1, 0, 0, 0, 0), (.if_icmp .ne 7, 1, 0, 0, 0), (.iconst 1, 0, 1, 0, 0), (.goto 4, 2, 0, 0, 0)]
def q110_1 : List zI := [(.iconst 0, 0, 0, 0, 0), (.nop, 2, 0, 0, 0)]
def q110_2 : List zI := [(.ireturn, 0, 0, 0, 2)]
def bk110 : List (List zI) := [q110_0, q110_1, q110_2]
def q111_0 : List zI := [(.iconst 0, 0, 0, 0, 0), (.istore_n 3, 0, 0, 0, 0), (.aload_n 0, 0, 0, 0, 0), (.iconst 0, 0, 0, 0, 0), (.putfield 70, 7, 10, 219, 0), (.aload_n 0, 0, 0, 0, 0), (.getfield 56, 7, 7, 216, 3), (.iload_n 1, 0, 0, 0, 0), (.iload_n 2, 0, 0, 0, 0), (.invokevirtual 205, 46, 3, 549, 0), (.iconst 0, 0, 0, 0, 0), (.istore 4, 0, 0, 0, 0), (.nop, 1, 0, 0, 1)]
def q111_1 : List zI := [(.iload 4, 0, 0, 0, 0), (.sipush 20000, 0, 20000, 0, 0), (.if_icmp .gt 34, 4, 0, 0, 0), (.aload_n 0, 0, 0, 0, 0), (.iload_n 2, 0, 0, 0, 0), (.invokevirtual 262, 110, 2, 636, 0), (.ifCond .eq 6, 2, 0, 0, 0), (.iinc 3 1, 0, 0, 0, 0), (.nop, 2, 0, 0, 0)]
def q111_2 : List zI := [(.aload_n 0, 0, 0, 0, 0), (.iload 4, 0, 0, 0, 0), (.sipush 20000, 0, 20000, 0, 0), (.invokevirtual 218, 109, 3, 594, 0), (.ifCond .ne 5, 3, 0, 0, 0), (.iload_n 3, 0, 0, 0, 0), (.ireturn, 0, 0, 0, 0)]
def q111_3 : List zI := [(.iinc 4 1, 0, 0, 0, 0), (.goto (-36), 1, 0, 0, 1)]
def q111_4 : List zI := [(.bipush (-6), 1, 6, 0, 0), (.ireturn, 0, 0, 0, 0)]
def bk111 : List (List zI) := [q111_0, q111_1, q111_2, q111_3, q111_4]
def q112_0 : List zI := [(.aload_n 0, 0, 0, 0, 0), (.iconst 0, 0, 0, 0, 0), (.putfield 70, 7, 10, 219, 0), (.aload_n 0, 0, 0, 0, 0), (.getfield 67, 7, 9, 218, 3), (.iload_n 2, 0, 0, 0, 0), (.invokevirtual 265, 20, 2, 649, 1), (.aload_n 0, 0, 0, 0, 0), (.getfield 56, 7, 7, 216, 3), (.iload_n 1, 0, 0, 0, 0), (.iload_n 2, 0, 0, 0, 0), (.invokevirtual 205, 46, 3, 549, 0), (.iconst 0, 0, 0, 0, 0), (.istore_n 3, 0, 0, 0, 0), (.nop, 1, 0, 0, 1)]
def q112_1 : List zI := [(.iload_n 3, 0, 0, 0, 0), (.sipush 20000, 0, 20000, 0, 0), (.if_icmp .gt 71, 5, 0, 0, 0), (.aload_n 0, 0, 0, 0, 0), (.iload_n 2, 0, 0, 0, 0), (.invokevirtual 262, 110, 2, 636, 0), (.ifCond .eq 44, 3, 0, 0, 0), (.aload_n 0, 0, 0, 0, 0), (.aload_n 0, 0, 0, 0, 0), (.getfield 56, 7, 7, 216, 3), (.invokevirtual 211, 47, 1, 584, 1), (.iload_n 1, 0, 0, 0, 0), (.invokevirtual 267, 113, 3, 653, 0), (.ifCond .eq 29, 3, 0, 0, 0), (.aload_n 0, 0, 0, 0, 0), (.getfield 67, 7, 9, 218, 3), (.invokevirtual 271, 22, 1, 657, 1), (.ifCond .eq 5, 2, 0, 0, 0), (.iconst 0, 0, 0, 0, 0), (.ireturn, 0, 0, 0, 2)]
def q112_2 : List zI := [(.aload_n 0, 0, 0, 0, 0), (.getfield 67, 7, 9, 218, 3), (.aload_n 0, 0, 0, 0, 0), (.getfield 56, 7, 7, 216, 3), (.invokevirtual 211, 47, 1, 584, 1), (.invokevirtual 274, 23, 2, 661, 0), (.nop, 3, 0, 0, 0)]
def q112_3 : List zI := [(.aload_n 0, 0, 0, 0, 0), (.iload_n 3, 0, 0, 0, 0), (.sipush 20000, 0, 20000, 0, 0), (.invokevirtual 218, 109, 3, 594, 0), (.ifCond .ne 5, 4, 0, 0, 0), (.iconst 1, 0, 1, 0, 0), (.ireturn, 0, 0, 0, 2)]
def q112_4 : List zI := [(.iinc 3 1, 0, 0, 0, 0), (.goto (-72), 1, 0, 0, 1)]
def q112_5 : List zI := [(.iconst 0, 0, 0, 0, 0), (.ireturn, 0, 0, 0, 2)]
def bk112 : List (List zI) := [q112_0, q112_1, q112_2, q112_3, q112_4, q112_5]
def q113_0 : List zI := [(.aload_n 0, 0, 0, 0, 0), (.getfield 41, 7, 4, 213, 3), (.aload_n 1, 0, 0, 0, 0), (.iload_n 2, 0, 0, 0, 0), (.aload_n 0, 0, 0, 0, 0), (.getfield 46, 7, 5, 214, 3), (.invokevirtual 193, 27, 4, 478, 0), (.aload_n 0, 0, 0, 0, 0), (.getfield 46, 7, 5, 214, 3), (.aload_n 1, 0, 0, 0, 0), (.invokevirtual 197, 44, 2, 512, 0), (.ireturn, 0, 0, 0, 2)]
def bk113 : List (List zI) := [q113_0]
def q114_0 : List zI := [(.aload_n 0, 0, 0, 0, 0), (.invokespecial 1, 999, 1, 721, 0), (.aload_n 0, 0, 0, 0, 0), (.iconst 5, 0, 5, 0, 0), (.newarray .int, 1, 0, 0, 0), (.putfield 7, 8, 1, 723, 3), (.aload_n 0, 0, 0, 0, 0), (.iconst 3, 0, 3, 0, 0), (.putfield 13, 8, 2, 724, 0), (.aload_n 0, 0, 0, 0, 0), (.iconst 2, 0, 2, 0, 0), (.putfield 17, 8, 3, 725, 0), (.aload_n 0, 0, 0, 0, 0), (.bipush 12, 0, 12, 0, 0), (.newarray .int, 1, 0, 0, 0), (.putfield 20, 8, 5, 727, 3), (.aload_n 0, 0, 0, 0, 0), (.sipush 768, 0, 768, 0, 0), (.newarray .int, 1, 0, 0, 0), (.putfield 23, 8, 6, 728, 3), (.aload_n 0, 0, 0, 0, 0), (.bipush 65, 0, 65, 0, 0), (.newarray .int, 1, 0, 0, 0), (.putfield 26, 8, 7, 729, 3), (.aload_n 0, 0, 0, 0, 0), (.bipush 66, 0, 66, 0, 0), (.newarray .int, 1, 0, 0, 0), (.putfield 29, 8, 8, 730, 3), (.aload_n 0, 0, 0, 0, 0), (.bipush 64, 0, 64, 0, 0), (.newarray .int, 1, 0, 0, 0), (.putfield 32, 8, 10, 732, 3), (.aload_n 0, 0, 0, 0, 0), (.bipush 6, 0, 6, 0, 0), (.newarray .int, 1, 0, 0, 0), (.putfield 35, 8, 11, 733, 3), (.aload_n 0, 0, 0, 0, 0), (.bipush 64, 0, 64, 0, 0), (.newarray .int, 1, 0, 0, 0), (.putfield 38, 8, 12, 734, 3), (.aload_n 0, 0, 0, 0, 0), (.bipush 64, 0, 64, 0, 0), (.newarray .int, 1, 0, 0, 0), (.putfield 41, 8, 13, 735, 3), (.aload_n 0, 0, 0, 0, 0), (.bipush 6, 0, 6, 0, 0), (.newarray .int, 1, 0, 0, 0), (.putfield 44, 8, 14, 736, 3), (.aload_n 0, 0, 0, 0, 0), (.bipush 66, 0, 66, 0, 0), (.newarray .int, 1, 0, 0, 0), (.putfield 47, 8, 17, 739, 3), (.aload_n 0, 0, 0, 0, 0), (.bipush 64, 0, 64, 0, 0), (.newarray .int, 1, 0, 0, 0), (.putfield 50, 8, 18, 740, 3), (.aload_n 0, 0, 0, 0, 0), (.sipush 12800, 0, 12800, 0, 0), (.newarray .int, 1, 0, 0, 0), (.putfield 53, 8, 21, 743, 3), (.aload_n 0, 0, 0, 0, 0), (.sipush 12800, 0, 12800, 0, 0), (.newarray .int, 1, 0, 0, 0), (.putfield 56, 8, 23, 745, 3), (.iconst 0, 0, 0, 0, 0), (.istore_n 1, 0, 0, 0, 0), (.nop, 1, 0, 0, 1)]
def q114_1 : List zI := [(.iload_n 1, 0, 0, 0, 0), (.bipush 12, 0, 12, 0, 0), (.if_icmp .ge 17, 2, 0, 0, 0), (.aload_n 0, 0, 0, 0, 0), (.getfield 20, 8, 5, 727, 3), (.iload_n 1, 0, 0, 0, 0), (.bipush (-9), 1, 9, 0, 0), (.iastore, 0, 0, 0, 0), (.iinc 1 1, 0, 0, 0, 0), (.goto (-17), 1, 0, 0, 1)]
def q114_2 : List zI := [(.return_, 0, 0, 0, 0)]
def bk114 : List (List zI) := [q114_0, q114_1, q114_2]
def q115_0 : List zI := [(.iload_n 0, 0, 0, 0, 0), (.iload_n 1, 0, 0, 0, 0), (.if_icmp .lt 12, 1, 0, 0, 0), (.iload_n 0, 0, 0, 0, 0), (.iload_n 2, 0, 0, 0, 0), (.if_icmp .gt 7, 1, 0, 0, 0), (.iconst 1, 0, 1, 0, 0), (.goto 4, 2, 0, 0, 0)]
def q115_1 : List zI := [(.iconst 0, 0, 0, 0, 0), (.nop, 2, 0, 0, 0)]
def q115_2 : List zI := [(.ireturn, 0, 0, 0, 2)]
def bk115 : List (List zI) := [q115_0, q115_1, q115_2]
def q116_0 : List zI := [(.aload_n 0, 0, 0, 0, 0), (.iload_n 1, 0, 0, 0, 0), (.putfield 59, 8, 0, 722, 0), (.aload_n 0, 0, 0, 0, 0), (.getfield 7, 8, 1, 723, 3), (.iload_n 1, 0, 0, 0, 0), (.dup2, 0, 0, 0, 0), (.iaload, 0, 0, 0, 0), (.iconst 1, 0, 1, 0, 0), (.iadd, 0, 0, 0, 0), (.iastore, 0, 0, 0, 0), (.bipush (-3), 1, 3, 0, 0), (.ireturn, 0, 0, 0, 0)]
def bk116 : List (List zI) := [q116_0]
def q117_0 : List zI := [(.iload_n 1, 0, 0, 0, 0), (.iconst 1, 0, 1, 0, 0), (.bipush 6, 0, 6, 0, 0), (.invokestatic 62, 115, 3, 805, 1), (.ifCond .ne 5, 1, 0, 0, 0), (.iconst (-1), 1, 1, 0, 0), (.ireturn, 0, 0, 0, 0)]
def q117_1 : List zI := [(.aload_n 0, 0, 0, 0, 0), (.iload_n 1, 0, 0, 0, 0), (.putfield 13, 8, 2, 724, 0), (.aload_n 0, 0, 0, 0, 0), (.lconst 0, 0, 0, 0, 0), (.putfield 66, 8, 4, 726, 1), (.iload_n 1, 0, 0, 0, 0), (.ireturn, 0, 0, 0, 0)]
def bk117 : List (List zI) := [q117_0, q117_1]
def q118_0 : List zI := [(.iload_n 1, 0, 0, 0, 0), (.iconst 1, 0, 1, 0, 0), (.iconst 3, 0, 3, 0, 0), (.invokestatic 62, 115, 3, 805, 1), (.ifCond .ne 5, 1, 0, 0, 0), (.iconst (-1), 1, 1, 0, 0), (.ireturn, 0, 0, 0, 0)]
def q118_1 : List zI := [(.aload_n 0, 0, 0, 0, 0), (.iload_n 1, 0, 0, 0, 0), (.putfield 17, 8, 3, 725, 0), (.iconst 1, 0, 1, 0, 0), (.ireturn, 0, 0, 0, 0)]
def bk118 : List (List zI) := [q118_0, q118_1]
def q119_0 : List zI := [(.iload_n 1, 0, 0, 0, 0), (.iconst 0, 0, 0, 0, 0), (.iconst 1, 0, 1, 0, 0), (.aload_n 0, 0, 0, 0, 0), (.getfield 13, 8, 2, 724, 0), (.ishl, 0, 0, 0, 0), (.iconst 1, 0, 1, 0, 0), (.isub, 0, 0, 0, 0), (.invokestatic 62, 115, 3, 805, 1), (.ireturn, 0, 0, 0, 2)]
def bk119 : List (List zI) := [q119_0]
def q120_0 : List zI := [(.aload_n 0, 0, 0, 0, 0), (.getfield 66, 8, 4, 726, 1), (.iload_n 1, 0, 0, 0, 0), (.lshr, 0, 0, 0, 0), (.lconst 1, 0, 1, 0, 0), (.land, 0, 0, 0, 0), (.lconst 1, 0, 1, 0, 0), (.lcmp, 0, 0, 0, 0), (.ifCond .ne 7, 1, 0, 0, 0), (.iconst 1, 0, 1, 0, 0), (.goto 4, 2, 0, 0, 0)]
def q120_1 : List zI := [(.iconst 0, 0, 0, 0, 0), (.nop, 2, 0, 0, 0)]
def q120_2 : List zI := [(.ireturn, 0, 0, 0, 2)]
def bk120 : List (List zI) := [q120_0, q120_1, q120_2]
def q121_0 : List zI := [(.aload_n 0, 0, 0, 0, 0), (.iload_n 1, 0, 0, 0, 0), (.invokevirtual 70, 119, 2, 816, 0), (.ifCond .ne 5, 1, 0, 0, 0), (.iconst (-1), 1, 1, 0, 0), (.ireturn, 0, 0, 0, 0)]
def q121_1 : List zI := [(.aload_n 0, 0, 0, 0, 0), (.iload_n 1, 0, 0, 0, 0), (.invokevirtual 74, 120, 2, 820, 0), (.ifCond .eq 7, 2, 0, 0, 0), (.iconst 1, 0, 1, 0, 0), (.goto 4, 3, 0, 0, 0)]
def q121_2 : List zI := [(.iconst 0, 0, 0, 0, 0), (.nop, 3, 0, 0, 0)]
def q121_3 : List zI := [(.istore_n 3, 0, 0, 0, 0), (.aload_n 0, 0, 0, 0, 0), (.iload_n 2, 0, 0, 0, 0), (.ifCond .eq 14, 4, 0, 0, 0), (.aload_n 0, 0, 0, 0, 0), (.getfield 66, 8, 4, 726, 1), (.lconst 1, 0, 1, 0, 0), (.iload_n 1, 0, 0, 0, 0), (.lshl, 0, 0, 0, 0), (.lor, 0, 0, 0, 0), (.goto 15, 5, 0, 0, 0)]
def q121_4 : List zI := [(.aload_n 0, 0, 0, 0, 0), (.getfield 66, 8, 4, 726, 1), (.lconst 1, 0, 1, 0, 0), (.iload_n 1, 0, 0, 0, 0), (.lshl, 0, 0, 0, 0), (.ldc2_w 77, 1, 1, 824, 0), (.lxor, 0, 0, 0, 0), (.land, 0, 0, 0, 0), (.nop, 5, 0, 0, 0)]
def q121_5 : List zI := [(.putfield 66, 8, 4, 726, 1), (.iload_n 3, 0, 0, 0, 0), (.ireturn, 0, 0, 0, 0)]
def bk121 : List (List zI) := [q121_0, q121_1, q121_2, q121_3, q121_4, q121_5]
def q122_0 : List zI := [(.aload_n 0, 0, 0, 0, 0), (.getfield 66, 8, 4, 726, 1), (.lreturn, 0, 0, 0, 0)]
def bk122 : List (List zI) := [q122_0]
def q123_0 : List zI := [(.iload_n 0, 0, 0, 0, 0), (.iconst 0, 0, 0, 0, 0), (.bipush 11, 0, 11, 0, 0), (.invokestatic 62, 115, 3, 805, 1), (.ireturn, 0, 0, 0, 2)]
def bk123 : List (List zI) := [q123_0]
def q124_0 : List zI := [(.iload_n 1, 0, 0, 0, 0), (.invokestatic 79, 123, 1, 833, 1), (.ifCond .ne 5, 1, 0, 0, 0), (.iconst (-1), 1, 1, 0, 0), (.ireturn, 0, 0, 0, 0)]
def q124_1 : List zI := [(.aload_n 0, 0, 0, 0, 0), (.getfield 20, 8, 5, 727, 3), (.iload_n 1, 0, 0, 0, 0), (.iaload, 0, 0, 0, 0), (.ifCond .lt 7, 2, 0, 0, 0), (.iconst 1, 0, 1, 0, 0), (.goto 4, 3, 0, 0, 0)]
def q124_2 : List zI := [(.iconst 0, 0, 0, 0, 0), (.nop, 3, 0, 0, 0)]
def q124_3 : List zI := [(.istore_n 2, 0, 0, 0, 0), (.aload_n 0, 0, 0, 0, 0), (.getfield 20, 8, 5, 727, 3), (.iload_n 1, 0, 0, 0, 0), (.iconst 0, 0, 0, 0, 0), (.iastore, 0, 0, 0, 0), (.iload_n 2, 0, 0, 0, 0), (.ireturn, 0, 0, 0, 0)]
def bk124 : List (List zI) := [q124_0, q124_1, q124_2, q124_3]
def q125_0 : List zI := [(.iload_n 1, 0, 0, 0, 0), (.invokestatic 79, 123, 1, 833, 1), (.ifCond .eq 12, 1, 0, 0, 0), (.iload_n 2, 0, 0, 0, 0), (.iconst 0, 0, 0, 0, 0), (.iconst 5, 0, 5, 0, 0), (.invokestatic 62, 115, 3, 805, 1), (.ifCond .ne 5, 2, 0, 0, 0), (.nop, 1, 0, 0, 0)]
def q125_1 : List zI := [(.iconst (-1), 1, 1, 0, 0), (.ireturn, 0, 0, 0, 0)]
def q125_2 : List zI := [(.aload_n 0, 0, 0, 0, 0), (.getfield 20, 8, 5, 727, 3), (.iload_n 1, 0, 0, 0, 0), (.iaload, 0, 0, 0, 0), (.bipush 64, 0, 64, 0, 0), (.if_icmp .ne 6, 3, 0, 0, 0), (.bipush (-2), 1, 2, 0, 0), (.ireturn, 0, 0, 0, 0)]
def q125_3 : List zI := [(.aload_n 0, 0, 0, 0, 0), (.getfield 20, 8, 5, 727, 3), (.iload_n 1, 0, 0, 0, 0), (.iaload, 0, 0, 0, 0), (.ifCond .ge 9, 4, 0, 0, 0), (.aload_n 0, 0, 0, 0, 0), (.iconst 1, 0, 1, 0, 0), (.invokevirtual 82, 116, 2, 840, 1), (.ireturn, 0, 0, 0, 0)]
def q125_4 : List zI := [(.aload_n 0, 0, 0, 0, 0), (.getfield 23, 8, 6, 728, 3), (.bipush 64, 0, 64, 0, 0), (.iload_n 1, 0, 0, 0, 0), (.imul, 0, 0, 0, 0), (.aload_n 0, 0, 0, 0, 0), (.getfield 20, 8, 5, 727, 3), (.iload_n 1, 0, 0, 0, 0), (.iaload, 0, 0, 0, 0), (.iadd, 0, 0, 0, 0), (.iload_n 2, 0, 0, 0, 0), (.iastore, 0, 0, 0, 0), (.aload_n 0, 0, 0, 0, 0), (.getfield 20, 8, 5, 727, 3), (.iload_n 1, 0, 0, 0, 0), (.dup2, 0, 0, 0, 0), (.iaload, 0, 0, 0, 0), (.iconst 1, 0, 1, 0, 0), (.iadd, 0, 0, 0, 0), (.iastore, 0, 0, 0, 0), (.aload_n 0, 0, 0, 0, 0), (.getfield 20, 8, 5, 727, 3), (.iload_n 1, 0, 0, 0, 0), (.iaload, 0, 0, 0, 0), (.ireturn, 0, 0, 0, 0)]
def bk125 : List (List zI) := [q125_0, q125_1, q125_2, q125_3, q125_4]
def q126_0 : List zI := [(.iload_n 1, 0, 0, 0, 0), (.invokestatic 79, 123, 1, 833, 1), (.ifCond .ne 5, 1, 0, 0, 0), (.iconst (-1), 1, 1, 0, 0), (.ireturn, 0, 0, 0, 0)]
def q126_1 : List zI := [(.aload_n 0, 0, 0, 0, 0), (.getfield 20, 8, 5, 727, 3), (.iload_n 1, 0, 0, 0, 0), (.iaload, 0, 0, 0, 0), (.ifCond .ge 9, 2, 0, 0, 0), (.aload_n 0, 0, 0, 0, 0), (.iconst 1, 0, 1, 0, 0), (.invokevirtual 82, 116, 2, 840, 1), (.ireturn, 0, 0, 0, 0)]
def q126_2 : List zI := [(.iload_n 2, 0, 0, 0, 0), (.iconst (-1), 1, 1, 0, 0), (.if_icmp .ne 12, 3, 0, 0, 0), (.aload_n 0, 0, 0, 0, 0), (.getfield 20, 8, 5, 727, 3), (.iload_n 1, 0, 0, 0, 0), (.iaload, 0, 0, 0, 0), (.goto 38, 5, 0, 0, 0)]
def q126_3 : List zI := [(.iload_n 2, 0, 0, 0, 0), (.iconst 0, 0, 0, 0, 0), (.aload_n 0, 0, 0, 0, 0), (.getfield 20, 8, 5, 727, 3), (.iload_n 1, 0, 0, 0, 0), (.iaload, 0, 0, 0, 0), (.iconst 1, 0, 1, 0, 0), (.isub, 0, 0, 0, 0), (.invokestatic 62, 115, 3, 805, 1), (.ifCond .eq 17, 4, 0, 0, 0), (.aload_n 0, 0, 0, 0, 0), (.getfield 23, 8, 6, 728, 3), (.bipush 64, 0, 64, 0, 0), (.iload_n 1, 0, 0, 0, 0), (.imul, 0, 0, 0, 0), (.iload_n 2, 0, 0, 0, 0), (.iadd, 0, 0, 0, 0), (.iaload, 0, 0, 0, 0), (.goto 8, 5, 0, 0, 0)]
def q126_4 : List zI := [(.aload_n 0, 0, 0, 0, 0), (.iconst 2, 0, 2, 0, 0), (.invokevirtual 82, 116, 2, 840, 1), (.nop, 5, 0, 0, 0)]
def q126_5 : List zI := [(.ireturn, 0, 0, 0, 0)]
def bk126 : List (List zI) := [q126_0, q126_1, q126_2, q126_3, q126_4, q126_5]
def q127_0 : List zI := [(.iload_n 1, 0, 0, 0, 0), (.invokestatic 79, 123, 1, 833, 1), (.ifCond .ne 5, 1, 0, 0, 0), (.iconst (-1), 1, 1, 0, 0), (.ireturn, 0, 0, 0, 0)]
def q127_1 : List zI := [(.iload_n 2, 0, 0, 0, 0), (.ifCond .ge 9, 2, 0, 0, 0), (.aload_n 0, 0, 0, 0, 0), (.iconst 4, 0, 4, 0, 0), (.invokevirtual 82, 116, 2, 840, 1), (.ireturn, 0, 0, 0, 0)]
def q127_2 : List zI := [(.aload_n 0, 0, 0, 0, 0), (.getfield 20, 8, 5, 727, 3), (.iload_n 1, 0, 0, 0, 0), (.iaload, 0, 0, 0, 0), (.ifCond .ge 9, 3, 0, 0, 0), (.aload_n 0, 0, 0, 0, 0), (.iconst 1, 0, 1, 0, 0), (.invokevirtual 82, 116, 2, 840, 1), (.ireturn, 0, 0, 0, 0)]
def q127_3 : List zI := [(.iload_n 2, 0, 0, 0, 0), (.aload_n 0, 0, 0, 0, 0), (.getfield 20, 8, 5, 727, 3), (.iload_n 1, 0, 0, 0, 0), (.iaload, 0, 0, 0, 0), (.if_icmp .le 9, 4, 0, 0, 0), (.aload_n 0, 0, 0, 0, 0), (.iconst 2, 0, 2, 0, 0), (.invokevirtual 82, 116, 2, 840, 1), (.ireturn, 0, 0, 0, 0)]
def q127_4 : List zI := [(.aload_n 0, 0, 0, 0, 0), (.getfield 20, 8, 5, 727, 3), (.iload_n 1, 0, 0, 0, 0), (.iload_n 2, 0, 0, 0, 0), (.iastore, 0, 0, 0, 0), (.iload_n 2, 0, 0, 0, 0), (.ireturn, 0, 0, 0, 0)]
def bk127 : List (List zI) := [q127_0, q127_1, q127_2, q127_3, q127_4]
def q128_0 : List zI := [(.iload_n 1, 0, 0, 0, 0), (.invokestatic 79, 123, 1, 833, 1), (.ifCond .ne 5, 1, 0, 0, 0), (.iconst (-1), 1, 1, 0, 0), (.ireturn, 0, 0, 0, 0)]
def q128_1 : List zI := [(.aload_n 0, 0, 0, 0, 0), (.getfield 20, 8, 5, 727, 3), (.iload_n 1, 0, 0, 0, 0), (.iaload, 0, 0, 0, 0), (.ifCond .ge 9, 2, 0, 0, 0), (.aload_n 0, 0, 0, 0, 0), (.iconst 1, 0, 1, 0, 0), (.invokevirtual 82, 116, 2, 840, 1), (.ireturn, 0, 0, 0, 0)]
def q128_2 : List zI := [(.aload_n 0, 0, 0, 0, 0), (.getfield 20, 8, 5, 727, 3), (.iload_n 1, 0, 0, 0, 0), (.bipush (-9), 1, 9, 0, 0), (.iastore, 0, 0, 0, 0), (.iconst 1, 0, 1, 0, 0), (.ireturn, 0, 0, 0, 0)]
def bk128 : List (List zI) := [q128_0, q128_1, q128_2]
def q129_0 : List zI := [(.iload_n 1, 0, 0, 0, 0), (.invokestatic 79, 123, 1, 833, 1), (.ifCond .eq 11, 1, 0, 0, 0), (.iload 4, 0, 0, 0, 0), (.invokestatic 79, 123, 1, 833, 1), (.ifCond .ne 5, 2, 0, 0, 0), (.nop, 1, 0, 0, 0)]
def q129_1 : List zI := [(.iconst (-1), 1, 1, 0, 0), (.ireturn, 0, 0, 0, 0)]
def q129_2 : List zI := [(.aload_n 0, 0, 0, 0, 0), (.getfield 20, 8, 5, 727, 3), (.iload_n 1, 0, 0, 0, 0), (.iaload, 0, 0, 0, 0), (.ifCond .lt 13, 3, 0, 0, 0), (.aload_n 0, 0, 0, 0, 0), (.getfield 20, 8, 5, 727, 3), (.iload 4, 0, 0, 0, 0), (.iaload, 0, 0, 0, 0), (.ifCond .ge 9, 4, 0, 0, 0), (.nop, 3, 0, 0, 0)]
def q129_3 : List zI := [(.aload_n 0, 0, 0, 0, 0), (.iconst 1, 0, 1, 0, 0), (.invokevirtual 82, 116, 2, 840, 1), (.ireturn, 0, 0, 0, 0)]
def q129_4 : List zI := [(.iload_n 2, 0, 0, 0, 0), (.ifCond .lt 23, 5, 0, 0, 0), (.iload_n 3, 0, 0, 0, 0), (.ifCond .lt 19, 5, 0, 0, 0), (.iload_n 2, 0, 0, 0, 0), (.i2l, 0, 0, 0, 0), (.iload_n 3, 0, 0, 0, 0), (.i2l, 0, 0, 0, 0), (.ladd, 0, 0, 0, 0), (.aload_n 0, 0, 0, 0, 0), (.getfield 20, 8, 5, 727, 3), (.iload_n 1, 0, 0, 0, 0), (.iaload, 0, 0, 0, 0), (.i2l, 0, 0, 0, 0), (.lcmp, 0, 0, 0, 0), (.ifCond .le 9, 6, 0, 0, 0), (.nop, 5, 0, 0, 0)]
def q129_5 : List zI := [(.aload_n 0, 0, 0, 0, 0), (.iconst 2, 0, 2, 0, 0), (.invokevirtual 82, 116, 2, 840, 1), (.ireturn, 0, 0, 0, 0)]
def q129_6 : List zI := [(.aload_n 0, 0, 0, 0, 0), (.getfield 20, 8, 5, 727, 3), (.iload 4, 0, 0, 0, 0), (.iaload, 0, 0, 0, 0), (.iload_n 3, 0, 0, 0, 0), (.iadd, 0, 0, 0, 0), (.bipush 64, 0, 64, 0, 0), (.if_icmp .le 6, 7, 0, 0, 0), (.bipush (-2), 1, 2, 0, 0), (.ireturn, 0, 0, 0, 0)]
def q129_7 : List zI := [(.aload_n 0, 0, 0, 0, 0), (.getfield 20, 8, 5, 727, 3), (.iload 4, 0, 0, 0, 0), (.iaload, 0, 0, 0, 0), (.istore 5, 0, 0, 0, 0), (.iconst 0, 0, 0, 0, 0), (.istore 6, 0, 0, 0, 0), (.nop, 8, 0, 0, 1)]
def q129_8 : List zI := [(.iload 6, 0, 0, 0, 0), (.iload_n 3, 0, 0, 0, 0), (.if_icmp .ge 39, 9, 0, 0, 0), (.aload_n 0, 0, 0, 0, 0), (.getfield 23, 8, 6, 728, 3), (.bipush 64, 0, 64, 0, 0), (.iload 4, 0, 0, 0, 0), (.imul, 0, 0, 0, 0), (.iload 5, 0, 0, 0, 0), (.iadd, 0, 0, 0, 0), (.iload 6, 0, 0, 0, 0), (.iadd, 0, 0, 0, 0), (.aload_n 0, 0, 0, 0, 0), (.getfield 23, 8, 6, 728, 3), (.bipush 64, 0, 64, 0, 0), (.iload_n 1, 0, 0, 0, 0), (.imul, 0, 0, 0, 0), (.iload_n 2, 0, 0, 0, 0), (.iadd, 0, 0, 0, 0), (.iload 6, 0, 0, 0, 0), (.iadd, 0, 0, 0, 0), (.iaload, 0, 0, 0, 0), (.iastore, 0, 0, 0, 0), (.iinc 6 1, 0, 0, 0, 0), (.goto (-39), 8, 0, 0, 1)]
def q129_9 : List zI := [(.aload_n 0, 0, 0, 0, 0), (.getfield 20, 8, 5, 727, 3), (.iload 4, 0, 0, 0, 0), (.iload 5, 0, 0, 0, 0), (.iload_n 3, 0, 0, 0, 0), (.iadd, 0, 0, 0, 0), (.iastore, 0, 0, 0, 0), (.aload_n 0, 0, 0, 0, 0), (.getfield 20, 8, 5, 727, 3), (.iload 4, 0, 0, 0, 0), (.iaload, 0, 0, 0, 0), (.ireturn, 0, 0, 0, 0)]
def bk129 : List (List zI) := [q129_0, q129_1, q129_2, q129_3, q129_4, q129_5, q129_6, q129_7, q129_8, q129_9]
def q130_0 : List zI := [(.aload_n 0, 0, 0, 0, 0), (.aload_n 0, 0, 0, 0, 0), (.getfield 20, 8, 5, 727, 3), (.iload_n 1, 0, 0, 0, 0), (.iaload, 0, 0, 0, 0), (.putfield 86, 8, 9, 731, 0), (.aload_n 0, 0, 0, 0, 0), (.getfield 29, 8, 8, 730, 3), (.iconst 0, 0, 0, 0, 0), (.iconst 0, 0, 0, 0, 0), (.iastore, 0, 0, 0, 0), (.iconst 0, 0, 0, 0, 0), (.istore_n 2, 0, 0, 0, 0), (.nop, 1, 0, 0, 1)]
def q130_1 : List zI := [(.iload_n 2, 0, 0, 0, 0), (.aload_n 0, 0, 0, 0, 0), (.getfield 86, 8, 9, 731, 0), (.if_icmp .ge 49, 2, 0, 0, 0), (.aload_n 0, 0, 0, 0, 0), (.getfield 26, 8, 7, 729, 3), (.iload_n 2, 0, 0, 0, 0), (.aload_n 0, 0, 0, 0, 0), (.getfield 23, 8, 6, 728, 3), (.bipush 64, 0, 64, 0, 0), (.iload_n 1, 0, 0, 0, 0), (.imul, 0, 0, 0, 0), (.iload_n 2, 0, 0, 0, 0), (.iadd, 0, 0, 0, 0), (.iaload, 0, 0, 0, 0), (.iastore, 0, 0, 0, 0), (.aload_n 0, 0, 0, 0, 0), (.getfield 29, 8, 8, 730, 3), (.iload_n 2, 0, 0, 0, 0), (.iconst 1, 0, 1, 0, 0), (.iadd, 0, 0, 0, 0), (.aload_n 0, 0, 0, 0, 0), (.getfield 29, 8, 8, 730, 3), (.iload_n 2, 0, 0, 0, 0), (.iaload, 0, 0, 0, 0), (.iconst 1, 0, 1, 0, 0), (.aload_n 0, 0, 0, 0, 0), (.getfield 26, 8, 7, 729, 3), (.iload_n 2, 0, 0, 0, 0), (.iaload, 0, 0, 0, 0), (.ishl, 0, 0, 0, 0), (.ixor, 0, 0, 0, 0), (.iastore, 0, 0, 0, 0), (.iinc 2 1, 0, 0, 0, 0), (.goto (-51), 1, 0, 0, 1)]
def q130_2 : List zI := [(.return_, 0, 0, 0, 0)]
def bk130 : List (List zI) := [q130_0, q130_1, q130_2]
def q131_0 : List zI := [(.iconst 0, 0, 0, 0, 0), (.istore_n 1, 0, 0, 0, 0), (.iconst 0, 0, 0, 0, 0), (.istore_n 2, 0, 0, 0, 0), (.nop, 1, 0, 0, 1)]
def q131_1 : List zI := [(.iload_n 2, 0, 0, 0, 0), (.bipush 6, 0, 6, 0, 0), (.if_icmp .ge 17, 2, 0, 0, 0), (.iload_n 1, 0, 0, 0, 0), (.iload_n 0, 0, 0, 0, 0), (.iload_n 2, 0, 0, 0, 0), (.ishr, 0, 0, 0, 0), (.iconst 1, 0, 1, 0, 0), (.iand, 0, 0, 0, 0), (.iadd, 0, 0, 0, 0), (.istore_n 1, 0, 0, 0, 0), (.iinc 2 1, 0, 0, 0, 0), (.goto (-17), 1, 0, 0, 1)]
def q131_2 : List zI := [(.iload_n 1, 0, 0, 0, 0), (.ireturn, 0, 0, 0, 0)]
def bk131 : List (List zI) := [q131_0, q131_1, q131_2]
def q132_0 : List zI := [(.aload_n 0, 0, 0, 0, 0), (.getfield 29, 8, 8, 730, 3), (.iload_n 1, 0, 0, 0, 0), (.iaload, 0, 0, 0, 0), (.aload_n 0, 0, 0, 0, 0), (.getfield 29, 8, 8, 730, 3), (.iload_n 2, 0, 0, 0, 0), (.iaload, 0, 0, 0, 0), (.ixor, 0, 0, 0, 0), (.invokestatic 89, 131, 1, 884, 0), (.ireturn, 0, 0, 0, 0)]
def bk132 : List (List zI) := [q132_0]
def q133_0 : List zI := [(.iload_n 0, 0, 0, 0, 0), (.iload_n 1, 0, 0, 0, 0), (.if_icmp .ge 7, 1, 0, 0, 0), (.iload_n 0, 0, 0, 0, 0), (.goto 4, 2, 0, 0, 0)]
def q133_1 : List zI := [(.iload_n 1, 0, 0, 0, 0), (.nop, 2, 0, 0, 0)]
def q133_2 : List zI := [(.ireturn, 0, 0, 0, 0)]
def bk133 : List (List zI) := [q133_0, q133_1, q133_2]
def q134_0 : List zI := [(.iload_n 1, 0, 0, 0, 0), (.ifCond .le 18, 1, 0, 0, 0), (.aload_n 0, 0, 0, 0, 0), (.getfield 26, 8, 7, 729, 3), (.iload_n 1, 0, 0, 0, 0), (.iconst 1, 0, 1, 0, 0), (.isub, 0, 0, 0, 0), (.iaload, 0, 0, 0, 0), (.aload_n 0, 0, 0, 0, 0), (.getfield 13, 8, 2, 724, 0), (.if_icmp .ge 16, 2, 0, 0, 0), (.nop, 1, 0, 0, 0)]
def q134_1 : List zI := [(.aload_n 0, 0, 0, 0, 0), (.aload_n 0, 0, 0, 0, 0), (.getfield 29, 8, 8, 730, 3), (.iload_n 1, 0, 0, 0, 0), (.iaload, 0, 0, 0, 0), (.invokevirtual 74, 120, 2, 820, 0), (.ifCond .eq 5, 3, 0, 0, 0), (.nop, 2, 0, 0, 0)]
def q134_2 : List zI := [(.iload_n 1, 0, 0, 0, 0), (.ireturn, 0, 0, 0, 0)]
def q134_3 : List zI := [(.iconst 0, 0, 0, 0, 0), (.istore_n 2, 0, 0, 0, 0), (.nop, 4, 0, 0, 1)]
def q134_4 : List zI := [(.iload_n 2, 0, 0, 0, 0), (.iload_n 1, 0, 0, 0, 0), (.if_icmp .ge 30, 6, 0, 0, 0), (.aload_n 0, 0, 0, 0, 0), (.iload_n 2, 0, 0, 0, 0), (.iload_n 1, 0, 0, 0, 0), (.invokevirtual 92, 132, 3, 880, 0), (.iload_n 1, 0, 0, 0, 0), (.iload_n 2, 0, 0, 0, 0), (.isub, 0, 0, 0, 0), (.aload_n 0, 0, 0, 0, 0), (.getfield 17, 8, 3, 725, 0), (.invokestatic 96, 133, 2, 887, 0), (.if_icmp .ge 5, 5, 0, 0, 0), (.iload_n 2, 0, 0, 0, 0), (.ireturn, 0, 0, 0, 0)]
def q134_5 : List zI := [(.iinc 2 1, 0, 0, 0, 0), (.goto (-29), 4, 0, 0, 1)]
def q134_6 : List zI := [(.bipush (-9), 1, 9, 0, 0), (.ireturn, 0, 0, 0, 0)]
def bk134 : List (List zI) := [q134_0, q134_1, q134_2, q134_3, q134_4, q134_5, q134_6]
def q135_0 : List zI := [(.iconst 0, 0, 0, 0, 0), (.istore_n 1, 0, 0, 0, 0), (.nop, 1, 0, 0, 1)]
def q135_1 : List zI := [(.iload_n 1, 0, 0, 0, 0), (.aload_n 0, 0, 0, 0, 0), (.getfield 86, 8, 9, 731, 0), (.if_icmp .gt 19, 3, 0, 0, 0), (.aload_n 0, 0, 0, 0, 0), (.iload_n 1, 0, 0, 0, 0), (.invokevirtual 99, 134, 2, 898, 0), (.ifCond .lt 5, 2, 0, 0, 0), (.iload_n 1, 0, 0, 0, 0), (.ireturn, 0, 0, 0, 0)]
def q135_2 : List zI := [(.iinc 1 1, 0, 0, 0, 0), (.goto (-21), 1, 0, 0, 1)]
def q135_3 : List zI := [(.bipush (-9), 1, 9, 0, 0), (.ireturn, 0, 0, 0, 0)]
def bk135 : List (List zI) := [q135_0, q135_1, q135_2, q135_3]
def q136_0 : List zI := [(.aload_n 0, 0, 0, 0, 0), (.invokevirtual 102, 135, 1, 894, 0), (.ifCond .ge 7, 1, 0, 0, 0), (.iconst 1, 0, 1, 0, 0), (.goto 4, 2, 0, 0, 0)]
def q136_1 : List zI := [(.iconst 0, 0, 0, 0, 0), (.nop, 2, 0, 0, 0)]
def q136_2 : List zI := [(.ireturn, 0, 0, 0, 2)]
def bk136 : List (List zI) := [q136_0, q136_1, q136_2]
def q137_0 : List zI := [(.aload_n 0, 0, 0, 0, 0), (.getfield 86, 8, 9, 731, 0), (.aload_n 0, 0, 0, 0, 0), (.getfield 17, 8, 3, 725, 0), (.iconst 1, 0, 1, 0, 0), (.if_icmp .ne 7, 1, 0, 0, 0), (.iconst 4, 0, 4, 0, 0), (.goto 9, 2, 0, 0, 0)]
def q137_1 : List zI := [(.iconst 2, 0, 2, 0, 0), (.aload_n 0, 0, 0, 0, 0), (.getfield 17, 8, 3, 725, 0), (.imul, 0, 0, 0, 0), (.nop, 2, 0, 0, 0)]
def q137_2 : List zI := [(.if_icmp .lt 19, 3, 0, 0, 0), (.aload_n 0, 0, 0, 0, 0), (.getfield 29, 8, 8, 730, 3), (.aload_n 0, 0, 0, 0, 0), (.getfield 86, 8, 9, 731, 0), (.iaload, 0, 0, 0, 0), (.ifCond .ne 7, 3, 0, 0, 0), (.iconst 1, 0, 1, 0, 0), (.goto 4, 4, 0, 0, 0)]
def q137_3 : List zI := [(.iconst 0, 0, 0, 0, 0), (.nop, 4, 0, 0, 0)]
def q137_4 : List zI := [(.istore_n 1, 0, 0, 0, 0), (.iconst 0, 0, 0, 0, 0), (.istore_n 2, 0, 0, 0, 0), (.nop, 5, 0, 0, 1)]
def q137_5 : List zI := [(.iload_n 2, 0, 0, 0, 0), (.aload_n 0, 0, 0, 0, 0), (.getfield 86, 8, 9, 731, 0), (.if_icmp .ge 45, 8, 0, 0, 0), (.iload_n 1, 0, 0, 0, 0), (.ifCond .eq 33, 6, 0, 0, 0), (.aload_n 0, 0, 0, 0, 0), (.getfield 26, 8, 7, 729, 3), (.iload_n 2, 0, 0, 0, 0), (.iaload, 0, 0, 0, 0), (.aload_n 0, 0, 0, 0, 0), (.getfield 13, 8, 2, 724, 0), (.if_icmp .ge 20, 6, 0, 0, 0), (.aload_n 0, 0, 0, 0, 0), (.aload_n 0, 0, 0, 0, 0), (.getfield 29, 8, 8, 730, 3), (.iload_n 2, 0, 0, 0, 0), (.iaload, 0, 0, 0, 0), (.invokevirtual 74, 120, 2, 820, 0), (.ifCond .ne 7, 6, 0, 0, 0), (.iconst 1, 0, 1, 0, 0), (.goto 4, 7, 0, 0, 0)]
def q137_6 : List zI := [(.iconst 0, 0, 0, 0, 0), (.nop, 7, 0, 0, 0)]
def q137_7 : List zI := [(.istore_n 1, 0, 0, 0, 0), (.iinc 2 1, 0, 0, 0, 0), (.goto (-47), 5, 0, 0, 1)]
def q137_8 : List zI := [(.iconst 0, 0, 0, 0, 0), (.istore_n 2, 0, 0, 0, 0), (.nop, 9, 0, 0, 1)]
def q137_9 : List zI := [(.iload_n 2, 0, 0, 0, 0), (.aload_n 0, 0, 0, 0, 0), (.getfield 86, 8, 9, 731, 0), (.if_icmp .ge 67, 14, 0, 0, 0), (.iload_n 2, 0, 0, 0, 0), (.iconst 1, 0, 1, 0, 0), (.iadd, 0, 0, 0, 0), (.istore_n 3, 0, 0, 0, 0), (.nop, 10, 0, 0, 1)]
def q137_10 : List zI := [(.iload_n 3, 0, 0, 0, 0), (.aload_n 0, 0, 0, 0, 0), (.getfield 86, 8, 9, 731, 0), (.if_icmp .ge 49, 13, 0, 0, 0), (.iload_n 1, 0, 0, 0, 0), (.ifCond .eq 45, 13, 0, 0, 0), (.aload_n 0, 0, 0, 0, 0), (.iload_n 2, 0, 0, 0, 0), (.iload_n 3, 0, 0, 0, 0), (.invokevirtual 92, 132, 3, 880, 0), (.iload_n 3, 0, 0, 0, 0), (.iload_n 2, 0, 0, 0, 0), (.isub, 0, 0, 0, 0), (.aload_n 0, 0, 0, 0, 0), (.getfield 86, 8, 9, 731, 0), (.iload_n 3, 0, 0, 0, 0), (.isub, 0, 0, 0, 0), (.iload_n 2, 0, 0, 0, 0), (.iadd, 0, 0, 0, 0), (.invokestatic 96, 133, 2, 887, 0), (.aload_n 0, 0, 0, 0, 0), (.getfield 17, 8, 3, 725, 0), (.invokestatic 96, 133, 2, 887, 0), (.if_icmp .lt 7, 11, 0, 0, 0), (.iconst 1, 0, 1, 0, 0), (.goto 4, 12, 0, 0, 0)]
def q137_11 : List zI := [(.iconst 0, 0, 0, 0, 0), (.nop, 12, 0, 0, 0)]
def q137_12 : List zI := [(.istore_n 1, 0, 0, 0, 0), (.iinc 3 1, 0, 0, 0, 0), (.goto (-51), 10, 0, 0, 1)]
def q137_13 : List zI := [(.iinc 2 1, 0, 0, 0, 0), (.goto (-69), 9, 0, 0, 1)]
def q137_14 : List zI := [(.iload_n 1, 0, 0, 0, 0), (.ireturn, 0, 0, 0, 2)]
def bk137 : List (List zI) := [q137_0, q137_1, q137_2, q137_3, q137_4, q137_5, q137_6, q137_7, q137_8, q137_9, q137_10, q137_11, q137_12, q137_13, q137_14]
def q138_0 : List zI := [(.iconst 0, 0, 0, 0, 0), (.istore_n 1, 0, 0, 0, 0), (.iconst 0, 0, 0, 0, 0), (.istore_n 2, 0, 0, 0, 0), (.nop, 1, 0, 0, 1)]
def q138_1 : List zI := [(.iload_n 2, 0, 0, 0, 0), (.aload_n 0, 0, 0, 0, 0), (.getfield 13, 8, 2, 724, 0), (.if_icmp .ge 73, 4, 0, 0, 0), (.aload_n 0, 0, 0, 0, 0), (.getfield 86, 8, 9, 731, 0), (.bipush 64, 0, 64, 0, 0), (.if_icmp .ge 64, 4, 0, 0, 0), (.aload_n 0, 0, 0, 0, 0), (.getfield 26, 8, 7, 729, 3), (.aload_n 0, 0, 0, 0, 0), (.getfield 86, 8, 9, 731, 0), (.iload_n 2, 0, 0, 0, 0), (.iastore, 0, 0, 0, 0), (.aload_n 0, 0, 0, 0, 0), (.getfield 29, 8, 8, 730, 3), (.aload_n 0, 0, 0, 0, 0), (.getfield 86, 8, 9, 731, 0), (.iconst 1, 0, 1, 0, 0), (.iadd, 0, 0, 0, 0), (.aload_n 0, 0, 0, 0, 0), (.getfield 29, 8, 8, 730, 3), (.aload_n 0, 0, 0, 0, 0), (.getfield 86, 8, 9, 731, 0), (.iaload, 0, 0, 0, 0), (.iconst 1, 0, 1, 0, 0), (.iload_n 2, 0, 0, 0, 0), (.ishl, 0, 0, 0, 0), (.ixor, 0, 0, 0, 0), (.iastore, 0, 0, 0, 0), (.iload_n 1, 0, 0, 0, 0), (.aload_n 0, 0, 0, 0, 0), (.aload_n 0, 0, 0, 0, 0), (.getfield 86, 8, 9, 731, 0), (.iconst 1, 0, 1, 0, 0), (.iadd, 0, 0, 0, 0), (.invokevirtual 99, 134, 2, 898, 0), (.ifCond .ge 7, 2, 0, 0, 0), (.iconst 1, 0, 1, 0, 0), (.goto 4, 3, 0, 0, 0)]
def q138_2 : List zI := [(.iconst 0, 0, 0, 0, 0), (.nop, 3, 0, 0, 0)]
def q138_3 : List zI := [(.iadd, 0, 0, 0, 0), (.istore_n 1, 0, 0, 0, 0), (.iinc 2 1, 0, 0, 0, 0), (.goto (-75), 1, 0, 0, 1)]
def q138_4 : List zI := [(.iload_n 1, 0, 0, 0, 0), (.ireturn, 0, 0, 0, 0)]
def bk138 : List (List zI) := [q138_0, q138_1, q138_2, q138_3, q138_4]
def q139_0 : List zI := [(.aload_n 0, 0, 0, 0, 0), (.invokevirtual 106, 137, 1, 876, 0), (.ifCond .eq 7, 1, 0, 0, 0), (.iconst 3, 0, 3, 0, 0), (.goto 26, 4, 0, 0, 0)]
def q139_1 : List zI := [(.aload_n 0, 0, 0, 0, 0), (.invokevirtual 110, 136, 1, 890, 0), (.ifCond .ne 7, 2, 0, 0, 0), (.iconst 0, 0, 0, 0, 0), (.goto 15, 4, 0, 0, 0)]
def q139_2 : List zI := [(.aload_n 0, 0, 0, 0, 0), (.invokevirtual 113, 138, 1, 902, 0), (.ifCond .ne 7, 3, 0, 0, 0), (.iconst 2, 0, 2, 0, 0), (.goto 4, 4, 0, 0, 0)]
def q139_3 : List zI := [(.iconst 1, 0, 1, 0, 0), (.nop, 4, 0, 0, 0)]
def q139_4 : List zI := [(.ireturn, 0, 0, 0, 0)]
def bk139 : List (List zI) := [q139_0, q139_1, q139_2, q139_3, q139_4]
def q140_0 : List zI := [(.iload_n 1, 0, 0, 0, 0), (.invokestatic 79, 123, 1, 833, 1), (.ifCond .ne 5, 1, 0, 0, 0), (.iconst (-1), 1, 1, 0, 0), (.ireturn, 0, 0, 0, 0)]
def q140_1 : List zI := [(.aload_n 0, 0, 0, 0, 0), (.getfield 20, 8, 5, 727, 3), (.iload_n 1, 0, 0, 0, 0), (.iaload, 0, 0, 0, 0), (.ifCond .ge 9, 2, 0, 0, 0), (.aload_n 0, 0, 0, 0, 0), (.iconst 1, 0, 1, 0, 0), (.invokevirtual 82, 116, 2, 840, 1), (.ireturn, 0, 0, 0, 0)]
def q140_2 : List zI := [(.aload_n 0, 0, 0, 0, 0), (.iload_n 1, 0, 0, 0, 0), (.invokevirtual 116, 130, 2, 868, 0), (.iconst 0, 0, 0, 0, 0), (.ireturn, 0, 0, 0, 0)]
def bk140 : List (List zI) := [q140_0, q140_1, q140_2]
def q141_0 : List zI := [(.aload_n 0, 0, 0, 0, 0), (.iload_n 1, 0, 0, 0, 0), (.invokevirtual 120, 140, 2, 864, 0), (.istore_n 2, 0, 0, 0, 0), (.iload_n 2, 0, 0, 0, 0), (.ifCond .ge 7, 1, 0, 0, 0), (.iload_n 2, 0, 0, 0, 0), (.goto 7, 2, 0, 0, 0)]
def q141_1 : List zI := [(.aload_n 0, 0, 0, 0, 0), (.invokevirtual 123, 139, 1, 872, 0), (.nop, 2, 0, 0, 0)]
def q141_2 : List zI := [(.ireturn, 0, 0, 0, 0)]
def bk141 : List (List zI) := [q141_0, q141_1, q141_2]
def q142_0 : List zI := [(.aload_n 0, 0, 0, 0, 0), (.iload_n 1, 0, 0, 0, 0), (.invokevirtual 120, 140, 2, 864, 0), (.istore_n 3, 0, 0, 0, 0), (.iload_n 3, 0, 0, 0, 0), (.ifCond .ge 5, 1, 0, 0, 0), (.iload_n 3, 0, 0, 0, 0), (.ireturn, 0, 0, 0, 0)]
def q142_1 : List zI := [(.iload_n 2, 0, 0, 0, 0), (.iconst 0, 0, 0, 0, 0), (.aload_n 0, 0, 0, 0, 0), (.getfield 86, 8, 9, 731, 0), (.invokestatic 62, 115, 3, 805, 1), (.istore 4, 0, 0, 0, 0), (.iconst 0, 0, 0, 0, 0), (.istore 5, 0, 0, 0, 0), (.nop, 2, 0, 0, 1)]
def q142_2 : List zI := [(.iload 5, 0, 0, 0, 0), (.iload_n 2, 0, 0, 0, 0), (.if_icmp .ge 35, 5, 0, 0, 0), (.iload 4, 0, 0, 0, 0), (.ifCond .eq 30, 5, 0, 0, 0), (.aload_n 0, 0, 0, 0, 0), (.getfield 26, 8, 7, 729, 3), (.iload 5, 0, 0, 0, 0), (.iaload, 0, 0, 0, 0), (.aload_n 0, 0, 0, 0, 0), (.getfield 13, 8, 2, 724, 0), (.if_icmp .ge 7, 3, 0, 0, 0), (.iconst 1, 0, 1, 0, 0), (.goto 4, 4, 0, 0, 0)]
def q142_3 : List zI := [(.iconst 0, 0, 0, 0, 0), (.nop, 4, 0, 0, 0)]
def q142_4 : List zI := [(.istore 4, 0, 0, 0, 0), (.iinc 5 1, 0, 0, 0, 0), (.goto (-35), 2, 0, 0, 1)]
def q142_5 : List zI := [(.iload 4, 0, 0, 0, 0), (.ifCond .eq 12, 6, 0, 0, 0), (.aload_n 0, 0, 0, 0, 0), (.getfield 29, 8, 8, 730, 3), (.iload_n 2, 0, 0, 0, 0), (.iaload, 0, 0, 0, 0), (.goto 8, 7, 0, 0, 0)]
def q142_6 : List zI := [(.aload_n 0, 0, 0, 0, 0), (.iconst 2, 0, 2, 0, 0), (.invokevirtual 82, 116, 2, 840, 1), (.nop, 7, 0, 0, 0)]
def q142_7 : List zI := [(.ireturn, 0, 0, 0, 0)]
def bk142 : List (List zI) := [q142_0, q142_1, q142_2, q142_3, q142_4, q142_5, q142_6, q142_7]
def q143_0 : List zI := [(.iload_n 1, 0, 0, 0, 0), (.invokestatic 79, 123, 1, 833, 1), (.ifCond .eq 12, 1, 0, 0, 0), (.iload_n 2, 0, 0, 0, 0), (.iconst 0, 0, 0, 0, 0), (.iconst 1, 0, 1, 0, 0), (.invokestatic 62, 115, 3, 805, 1), (.ifCond .ne 5, 2, 0, 0, 0), (.nop, 1, 0, 0, 0)]
def q143_1 : List zI := [(.iconst (-1), 1, 1, 0, 0), (.ireturn, 0, 0, 0, 0)]
def q143_2 : List zI := [(.aload_n 0, 0, 0, 0, 0), (.iload_n 1, 0, 0, 0, 0), (.invokevirtual 120, 140, 2, 864, 0), (.istore_n 3, 0, 0, 0, 0), (.iload_n 3, 0, 0, 0, 0), (.ifCond .ge 5, 3, 0, 0, 0), (.iload_n 3, 0, 0, 0, 0), (.ireturn, 0, 0, 0, 0)]
def q143_3 : List zI := [(.aload_n 0, 0, 0, 0, 0), (.invokevirtual 102, 135, 1, 894, 0), (.istore 4, 0, 0, 0, 0), (.iload 4, 0, 0, 0, 0), (.ifCond .ge 8, 4, 0, 0, 0), (.bipush (-9), 1, 9, 0, 0), (.goto 18, 6, 0, 0, 0)]
def q143_4 : List zI := [(.iload_n 2, 0, 0, 0, 0), (.ifCond .ne 8, 5, 0, 0, 0), (.iload 4, 0, 0, 0, 0), (.goto 9, 6, 0, 0, 0)]
def q143_5 : List zI := [(.aload_n 0, 0, 0, 0, 0), (.iload 4, 0, 0, 0, 0), (.invokevirtual 99, 134, 2, 898, 0), (.nop, 6, 0, 0, 0)]
def q143_6 : List zI := [(.ireturn, 0, 0, 0, 0)]
def bk143 : List (List zI) := [q143_0, q143_1, q143_2, q143_3, q143_4, q143_5, q143_6]
def q144_0 : List zI := [(.aload_n 0, 0, 0, 0, 0), (.iload_n 1, 0, 0, 0, 0), (.invokevirtual 120, 140, 2, 864, 0), (.istore_n 2, 0, 0, 0, 0), (.iload_n 2, 0, 0, 0, 0), (.ifCond .ge 7, 1, 0, 0, 0), (.iload_n 2, 0, 0, 0, 0), (.goto 22, 3, 0, 0, 0)]
def q144_1 : List zI := [(.aload_n 0, 0, 0, 0, 0), (.invokevirtual 110, 136, 1, 890, 0), (.ifCond .eq 10, 2, 0, 0, 0), (.aload_n 0, 0, 0, 0, 0), (.invokevirtual 113, 138, 1, 902, 0), (.goto 8, 3, 0, 0, 0)]
def q144_2 : List zI := [(.aload_n 0, 0, 0, 0, 0), (.iconst 3, 0, 3, 0, 0), (.invokevirtual 82, 116, 2, 840, 1), (.nop, 3, 0, 0, 0)]
def q144_3 : List zI := [(.ireturn, 0, 0, 0, 0)]
def bk144 : List (List zI) := [q144_0, q144_1, q144_2, q144_3]
def q145_0 : List zI := [(.iconst 0, 0, 0, 0, 0), (.istore_n 3, 0, 0, 0, 0), (.nop, 1, 0, 0, 1)]
def q145_1 : List zI := [(.iload_n 3, 0, 0, 0, 0), (.iload_n 2, 0, 0, 0, 0), (.if_icmp .ge 21, 3, 0, 0, 0), (.aload_n 0, 0, 0, 0, 0), (.getfield 29, 8, 8, 730, 3), (.iload_n 3, 0, 0, 0, 0), (.iaload, 0, 0, 0, 0), (.iload_n 1, 0, 0, 0, 0), (.if_icmp .ne 5, 2, 0, 0, 0), (.iload_n 3, 0, 0, 0, 0), (.ireturn, 0, 0, 0, 0)]
def q145_2 : List zI := [(.iinc 3 1, 0, 0, 0, 0), (.goto (-20), 1, 0, 0, 1)]
def q145_3 : List zI := [(.bipush (-9), 1, 9, 0, 0), (.ireturn, 0, 0, 0, 0)]
def bk145 : List (List zI) := [q145_0, q145_1, q145_2, q145_3]
def q146_0 : List zI := [(.iconst 0, 0, 0, 0, 0), (.istore_n 3, 0, 0, 0, 0), (.iconst 0, 0, 0, 0, 0), (.istore 4, 0, 0, 0, 0), (.nop, 1, 0, 0, 1)]
def q146_1 : List zI := [(.iload 4, 0, 0, 0, 0), (.aload_n 0, 0, 0, 0, 0), (.getfield 13, 8, 2, 724, 0), (.if_icmp .ge 31, 4, 0, 0, 0), (.iload_n 3, 0, 0, 0, 0), (.aload_n 0, 0, 0, 0, 0), (.iload_n 1, 0, 0, 0, 0), (.iconst 1, 0, 1, 0, 0), (.iload 4, 0, 0, 0, 0), (.ishl, 0, 0, 0, 0), (.ixor, 0, 0, 0, 0), (.iload_n 2, 0, 0, 0, 0), (.invokevirtual 126, 145, 3, 922, 0), (.ifCond .lt 7, 2, 0, 0, 0), (.iconst 1, 0, 1, 0, 0), (.goto 4, 3, 0, 0, 0)]
def q146_2 : List zI := [(.iconst 0, 0, 0, 0, 0), (.nop, 3, 0, 0, 0)]
def q146_3 : List zI := [(.iadd, 0, 0, 0, 0), (.istore_n 3, 0, 0, 0, 0), (.iinc 4 1, 0, 0, 0, 0), (.goto (-34), 1, 0, 0, 1)]
def q146_4 : List zI := [(.iload_n 3, 0, 0, 0, 0), (.ireturn, 0, 0, 0, 0)]
def bk146 : List (List zI) := [q146_0, q146_1, q146_2, q146_3, q146_4]
def q147_0 : List zI := [(.iload_n 1, 0, 0, 0, 0), (.invokestatic 79, 123, 1, 833, 1), (.ifCond .eq 11, 1, 0, 0, 0), (.aload_n 0, 0, 0, 0, 0), (.iload_n 2, 0, 0, 0, 0), (.invokevirtual 70, 119, 2, 816, 0), (.ifCond .ne 5, 2, 0, 0, 0), (.nop, 1, 0, 0, 0)]
def q147_1 : List zI := [(.iconst (-1), 1, 1, 0, 0), (.ireturn, 0, 0, 0, 0)]
def q147_2 : List zI := [(.aload_n 0, 0, 0, 0, 0), (.iload_n 1, 0, 0, 0, 0), (.invokevirtual 120, 140, 2, 864, 0), (.istore_n 3, 0, 0, 0, 0), (.iload_n 3, 0, 0, 0, 0), (.ifCond .ge 5, 3, 0, 0, 0), (.iload_n 3, 0, 0, 0, 0), (.ireturn, 0, 0, 0, 0)]
def q147_3 : List zI := [(.aload_n 0, 0, 0, 0, 0), (.invokevirtual 106, 137, 1, 876, 0), (.ifCond .ne 9, 4, 0, 0, 0), (.aload_n 0, 0, 0, 0, 0), (.iconst 3, 0, 3, 0, 0), (.invokevirtual 82, 116, 2, 840, 1), (.ireturn, 0, 0, 0, 0)]
def q147_4 : List zI := [(.aload_n 0, 0, 0, 0, 0), (.iload_n 2, 0, 0, 0, 0), (.aload_n 0, 0, 0, 0, 0), (.getfield 86, 8, 9, 731, 0), (.invokevirtual 126, 145, 3, 922, 0), (.istore 4, 0, 0, 0, 0), (.iload 4, 0, 0, 0, 0), (.ifCond .lt 8, 5, 0, 0, 0), (.iload 4, 0, 0, 0, 0), (.goto 15, 6, 0, 0, 0)]
def q147_5 : List zI := [(.bipush (-10), 1, 10, 0, 0), (.aload_n 0, 0, 0, 0, 0), (.iload_n 2, 0, 0, 0, 0), (.aload_n 0, 0, 0, 0, 0), (.getfield 86, 8, 9, 731, 0), (.invokevirtual 129, 146, 3, 926, 0), (.isub, 0, 0, 0, 0), (.nop, 6, 0, 0, 0)]
def q147_6 : List zI := [(.ireturn, 0, 0, 0, 0)]
def bk147 : List (List zI) := [q147_0, q147_1, q147_2, q147_3, q147_4, q147_5, q147_6]
def q148_0 : List zI := [(.aload_n 0, 0, 0, 0, 0), (.iload_n 1, 0, 0, 0, 0), (.invokevirtual 120, 140, 2, 864, 0), (.istore_n 2, 0, 0, 0, 0), (.iload_n 2, 0, 0, 0, 0), (.ifCond .ge 5, 1, 0, 0, 0), (.iload_n 2, 0, 0, 0, 0), (.ireturn, 0, 0, 0, 0)]
def q148_1 : List zI := [(.aload_n 0, 0, 0, 0, 0), (.invokevirtual 106, 137, 1, 876, 0), (.istore_n 3, 0, 0, 0, 0), (.iload_n 3, 0, 0, 0, 0), (.ifCond .ne 16, 2, 0, 0, 0), (.aload_n 0, 0, 0, 0, 0), (.invokevirtual 110, 136, 1, 890, 0), (.ifCond .ne 9, 2, 0, 0, 0), (.aload_n 0, 0, 0, 0, 0), (.iconst 3, 0, 3, 0, 0), (.invokevirtual 82, 116, 2, 840, 1), (.ireturn, 0, 0, 0, 0)]
def q148_2 : List zI := [(.iload_n 3, 0, 0, 0, 0), (.ifCond .eq 10, 3, 0, 0, 0), (.aload_n 0, 0, 0, 0, 0), (.getfield 86, 8, 9, 731, 0), (.goto 9, 4, 0, 0, 0)]
def q148_3 : List zI := [(.aload_n 0, 0, 0, 0, 0), (.getfield 86, 8, 9, 731, 0), (.iconst 1, 0, 1, 0, 0), (.iadd, 0, 0, 0, 0), (.nop, 4, 0, 0, 0)]
def q148_4 : List zI := [(.istore 4, 0, 0, 0, 0), (.iconst 0, 0, 0, 0, 0), (.istore 5, 0, 0, 0, 0), (.iconst 0, 0, 0, 0, 0), (.istore 6, 0, 0, 0, 0), (.nop, 5, 0, 0, 1)]
def q148_5 : List zI := [(.aload_n 0, 0, 0, 0, 0), (.iload 6, 0, 0, 0, 0), (.invokevirtual 70, 119, 2, 816, 0), (.ifCond .eq 41, 8, 0, 0, 0), (.iload 5, 0, 0, 0, 0), (.aload_n 0, 0, 0, 0, 0), (.iload 6, 0, 0, 0, 0), (.iload 4, 0, 0, 0, 0), (.invokevirtual 126, 145, 3, 922, 0), (.ifCond .ge 18, 6, 0, 0, 0), (.aload_n 0, 0, 0, 0, 0), (.iload 6, 0, 0, 0, 0), (.iload 4, 0, 0, 0, 0), (.invokevirtual 129, 146, 3, 926, 0), (.ifCond .ne 7, 6, 0, 0, 0), (.iconst 1, 0, 1, 0, 0), (.goto 4, 7, 0, 0, 0)]
def q148_6 : List zI := [(.iconst 0, 0, 0, 0, 0), (.nop, 7, 0, 0, 0)]
def q148_7 : List zI := [(.iadd, 0, 0, 0, 0), (.istore 5, 0, 0, 0, 0), (.iinc 6 1, 0, 0, 0, 0), (.goto (-44), 5, 0, 0, 1)]
def q148_8 : List zI := [(.iload 5, 0, 0, 0, 0), (.ireturn, 0, 0, 0, 0)]
def bk148 : List (List zI) := [q148_0, q148_1, q148_2, q148_3, q148_4, q148_5, q148_6, q148_7, q148_8]
def q149_0 : List zI := [(.iconst 0, 0, 0, 0, 0), (.istore 4, 0, 0, 0, 0), (.nop, 1, 0, 0, 1)]
def q149_1 : List zI := [(.iload 4, 0, 0, 0, 0), (.bipush 6, 0, 6, 0, 0), (.if_icmp .ge 18, 2, 0, 0, 0), (.aload_n 0, 0, 0, 0, 0), (.getfield 35, 8, 11, 733, 3), (.iload 4, 0, 0, 0, 0), (.bipush (-9), 1, 9, 0, 0), (.iastore, 0, 0, 0, 0), (.iinc 4 1, 0, 0, 0, 0), (.goto (-19), 1, 0, 0, 1)]
def q149_2 : List zI := [(.iconst 0, 0, 0, 0, 0), (.istore 4, 0, 0, 0, 0), (.iconst 0, 0, 0, 0, 0), (.istore 5, 0, 0, 0, 0), (.nop, 3, 0, 0, 1)]
def q149_3 : List zI := [(.iload 5, 0, 0, 0, 0), (.aload_n 0, 0, 0, 0, 0), (.getfield 86, 8, 9, 731, 0), (.if_icmp .ge 84, 7, 0, 0, 0), (.aload_n 0, 0, 0, 0, 0), (.getfield 26, 8, 7, 729, 3), (.iload_n 2, 0, 0, 0, 0), (.ifCond .eq 22, 4, 0, 0, 0), (.iload_n 1, 0, 0, 0, 0), (.iload 5, 0, 0, 0, 0), (.isub, 0, 0, 0, 0), (.iconst 2, 0, 2, 0, 0), (.aload_n 0, 0, 0, 0, 0), (.getfield 86, 8, 9, 731, 0), (.imul, 0, 0, 0, 0), (.iadd, 0, 0, 0, 0), (.aload_n 0, 0, 0, 0, 0), (.getfield 86, 8, 9, 731, 0), (.irem, 0, 0, 0, 0), (.goto 12, 5, 0, 0, 0)]
def q149_4 : List zI := [(.iload_n 1, 0, 0, 0, 0), (.iload 5, 0, 0, 0, 0), (.iadd, 0, 0, 0, 0), (.aload_n 0, 0, 0, 0, 0), (.getfield 86, 8, 9, 731, 0), (.irem, 0, 0, 0, 0), (.nop, 5, 0, 0, 0)]
def q149_5 : List zI := [(.iaload, 0, 0, 0, 0), (.istore 6, 0, 0, 0, 0), (.aload_n 0, 0, 0, 0, 0), (.getfield 35, 8, 11, 733, 3), (.iload 6, 0, 0, 0, 0), (.iaload, 0, 0, 0, 0), (.ifCond .ge 15, 6, 0, 0, 0), (.aload_n 0, 0, 0, 0, 0), (.getfield 35, 8, 11, 733, 3), (.iload 6, 0, 0, 0, 0), (.iload 4, 0, 0, 0, 0), (.iastore, 0, 0, 0, 0), (.iinc 4 1, 0, 0, 0, 0), (.nop, 6, 0, 0, 0)]
def q149_6 : List zI := [(.aload_n 0, 0, 0, 0, 0), (.getfield 38, 8, 12, 734, 3), (.iload 5, 0, 0, 0, 0), (.aload_n 0, 0, 0, 0, 0), (.getfield 35, 8, 11, 733, 3), (.iload 6, 0, 0, 0, 0), (.iaload, 0, 0, 0, 0), (.iastore, 0, 0, 0, 0), (.iinc 5 1, 0, 0, 0, 0), (.goto (-87), 3, 0, 0, 1)]
def q149_7 : List zI := [(.iconst 0, 0, 0, 0, 0), (.istore 5, 0, 0, 0, 0), (.nop, 8, 0, 0, 1)]
def q149_8 : List zI := [(.iload_n 3, 0, 0, 0, 0), (.ifCond .ne 35, 9, 0, 0, 0), (.iload 5, 0, 0, 0, 0), (.aload_n 0, 0, 0, 0, 0), (.getfield 86, 8, 9, 731, 0), (.if_icmp .ge 26, 9, 0, 0, 0), (.aload_n 0, 0, 0, 0, 0), (.getfield 38, 8, 12, 734, 3), (.iload 5, 0, 0, 0, 0), (.iaload, 0, 0, 0, 0), (.aload_n 0, 0, 0, 0, 0), (.getfield 32, 8, 10, 732, 3), (.iload 5, 0, 0, 0, 0), (.iaload, 0, 0, 0, 0), (.if_icmp .ne 9, 9, 0, 0, 0), (.iinc 5 1, 0, 0, 0, 0), (.goto (-33), 8, 0, 0, 1)]
def q149_9 : List zI := [(.iload_n 3, 0, 0, 0, 0), (.ifCond .ne 29, 10, 0, 0, 0), (.iload 5, 0, 0, 0, 0), (.aload_n 0, 0, 0, 0, 0), (.getfield 86, 8, 9, 731, 0), (.if_icmp .ge 52, 12, 0, 0, 0), (.aload_n 0, 0, 0, 0, 0), (.getfield 38, 8, 12, 734, 3), (.iload 5, 0, 0, 0, 0), (.iaload, 0, 0, 0, 0), (.aload_n 0, 0, 0, 0, 0), (.getfield 32, 8, 10, 732, 3), (.iload 5, 0, 0, 0, 0), (.iaload, 0, 0, 0, 0), (.if_icmp .ge 35, 12, 0, 0, 0), (.nop, 10, 0, 0, 0)]
def q149_10 : List zI := [(.iconst 0, 0, 0, 0, 0), (.istore 6, 0, 0, 0, 0), (.nop, 11, 0, 0, 1)]
def q149_11 : List zI := [(.iload 6, 0, 0, 0, 0), (.aload_n 0, 0, 0, 0, 0), (.getfield 86, 8, 9, 731, 0), (.if_icmp .ge 23, 12, 0, 0, 0), (.aload_n 0, 0, 0, 0, 0), (.getfield 32, 8, 10, 732, 3), (.iload 6, 0, 0, 0, 0), (.aload_n 0, 0, 0, 0, 0), (.getfield 38, 8, 12, 734, 3), (.iload 6, 0, 0, 0, 0), (.iaload, 0, 0, 0, 0), (.iastore, 0, 0, 0, 0), (.iinc 6 1, 0, 0, 0, 0), (.goto (-26), 11, 0, 0, 1)]
def q149_12 : List zI := [(.return_, 0, 0, 0, 0)]
def bk149 : List (List zI) := [q149_0, q149_1, q149_2, q149_3, q149_4, q149_5, q149_6, q149_7, q149_8, q149_9, q149_10, q149_11, q149_12]
def q150_0 : List zI := [(.iconst 0, 0, 0, 0, 0), (.istore_n 2, 0, 0, 0, 0), (.nop, 1, 0, 0, 1)]
def q150_1 : List zI := [(.iload_n 2, 0, 0, 0, 0), (.aload_n 0, 0, 0, 0, 0), (.getfield 86, 8, 9, 731, 0), (.if_icmp .ge 52, 8, 0, 0, 0), (.iload_n 1, 0, 0, 0, 0), (.ifCond .ne 7, 2, 0, 0, 0), (.iload_n 2, 0, 0, 0, 0), (.ifCond .ne 38, 7, 0, 0, 0), (.nop, 2, 0, 0, 0)]
def q150_2 : List zI := [(.aload_n 0, 0, 0, 0, 0), (.iload_n 2, 0, 0, 0, 0), (.iconst 0, 0, 0, 0, 0), (.iload_n 2, 0, 0, 0, 0), (.ifCond .ne 7, 3, 0, 0, 0), (.iconst 1, 0, 1, 0, 0), (.goto 4, 4, 0, 0, 0)]
def q150_3 : List zI := [(.iconst 0, 0, 0, 0, 0), (.nop, 4, 0, 0, 0)]
def q150_4 : List zI := [(.invokevirtual 132, 149, 4, 942, 0), (.aload_n 0, 0, 0, 0, 0), (.iload_n 1, 0, 0, 0, 0), (.ifCond .eq 7, 5, 0, 0, 0), (.iload_n 2, 0, 0, 0, 0), (.goto 9, 6, 0, 0, 0)]
def q150_5 : List zI := [(.aload_n 0, 0, 0, 0, 0), (.getfield 86, 8, 9, 731, 0), (.iconst 1, 0, 1, 0, 0), (.isub, 0, 0, 0, 0), (.nop, 6, 0, 0, 0)]
def q150_6 : List zI := [(.iconst 1, 0, 1, 0, 0), (.iconst 0, 0, 0, 0, 0), (.invokevirtual 132, 149, 4, 942, 0), (.nop, 7, 0, 0, 0)]
def q150_7 : List zI := [(.iinc 2 1, 0, 0, 0, 0), (.goto (-54), 1, 0, 0, 1)]
def q150_8 : List zI := [(.return_, 0, 0, 0, 0)]
def bk150 : List (List zI) := [q150_0, q150_1, q150_2, q150_3, q150_4, q150_5, q150_6, q150_7, q150_8]
def q151_0 : List zI := [(.iload_n 1, 0, 0, 0, 0), (.invokestatic 79, 123, 1, 833, 1), (.ifCond .eq 10, 1, 0, 0, 0), (.iload_n 2, 0, 0, 0, 0), (.invokestatic 79, 123, 1, 833, 1), (.ifCond .ne 5, 2, 0, 0, 0), (.nop, 1, 0, 0, 0)]
def q151_1 : List zI := [(.iconst (-1), 1, 1, 0, 0), (.ireturn, 0, 0, 0, 0)]
def q151_2 : List zI := [(.aload_n 0, 0, 0, 0, 0), (.getfield 20, 8, 5, 727, 3), (.iload_n 1, 0, 0, 0, 0), (.iaload, 0, 0, 0, 0), (.ifCond .lt 12, 3, 0, 0, 0), (.aload_n 0, 0, 0, 0, 0), (.getfield 20, 8, 5, 727, 3), (.iload_n 2, 0, 0, 0, 0), (.iaload, 0, 0, 0, 0), (.ifCond .ge 9, 4, 0, 0, 0), (.nop, 3, 0, 0, 0)]
def q151_3 : List zI := [(.aload_n 0, 0, 0, 0, 0), (.iconst 1, 0, 1, 0, 0), (.invokevirtual 82, 116, 2, 840, 1), (.ireturn, 0, 0, 0, 0)]
def q151_4 : List zI := [(.aload_n 0, 0, 0, 0, 0), (.iload_n 1, 0, 0, 0, 0), (.invokevirtual 116, 130, 2, 868, 0), (.aload_n 0, 0, 0, 0, 0), (.invokevirtual 123, 139, 1, 872, 0), (.istore_n 3, 0, 0, 0, 0), (.aload_n 0, 0, 0, 0, 0), (.iload_n 3, 0, 0, 0, 0), (.iconst 3, 0, 3, 0, 0), (.if_icmp .ne 7, 5, 0, 0, 0), (.iconst 1, 0, 1, 0, 0), (.goto 4, 6, 0, 0, 0)]
def q151_5 : List zI := [(.iconst 0, 0, 0, 0, 0), (.nop, 6, 0, 0, 0)]
def q151_6 : List zI := [(.invokevirtual 136, 150, 2, 938, 0), (.iconst 0, 0, 0, 0, 0), (.istore 4, 0, 0, 0, 0), (.nop, 7, 0, 0, 1)]
def q151_7 : List zI := [(.iload 4, 0, 0, 0, 0), (.aload_n 0, 0, 0, 0, 0), (.getfield 86, 8, 9, 731, 0), (.if_icmp .ge 23, 8, 0, 0, 0), (.aload_n 0, 0, 0, 0, 0), (.getfield 41, 8, 13, 735, 3), (.iload 4, 0, 0, 0, 0), (.aload_n 0, 0, 0, 0, 0), (.getfield 32, 8, 10, 732, 3), (.iload 4, 0, 0, 0, 0), (.iaload, 0, 0, 0, 0), (.iastore, 0, 0, 0, 0), (.iinc 4 1, 0, 0, 0, 0), (.goto (-26), 7, 0, 0, 1)]
def q151_8 : List zI := [(.aload_n 0, 0, 0, 0, 0), (.getfield 86, 8, 9, 731, 0), (.istore 4, 0, 0, 0, 0), (.aload_n 0, 0, 0, 0, 0), (.iload_n 2, 0, 0, 0, 0), (.invokevirtual 116, 130, 2, 868, 0), (.aload_n 0, 0, 0, 0, 0), (.invokevirtual 123, 139, 1, 872, 0), (.istore 5, 0, 0, 0, 0), (.iload_n 3, 0, 0, 0, 0), (.ifCond .eq 32, 13, 0, 0, 0), (.iload 5, 0, 0, 0, 0), (.ifCond .eq 27, 13, 0, 0, 0), (.iload_n 3, 0, 0, 0, 0), (.iconst 3, 0, 3, 0, 0), (.if_icmp .ne 7, 9, 0, 0, 0), (.iconst 1, 0, 1, 0, 0), (.goto 4, 10, 0, 0, 0)]
def q151_9 : List zI := [(.iconst 0, 0, 0, 0, 0), (.nop, 10, 0, 0, 0)]
def q151_10 : List zI := [(.iload 5, 0, 0, 0, 0), (.iconst 3, 0, 3, 0, 0), (.if_icmp .ne 7, 11, 0, 0, 0), (.iconst 1, 0, 1, 0, 0), (.goto 4, 12, 0, 0, 0)]
def q151_11 : List zI := [(.iconst 0, 0, 0, 0, 0), (.nop, 12, 0, 0, 0)]
def q151_12 : List zI := [(.if_icmp .eq 9, 14, 0, 0, 0), (.nop, 13, 0, 0, 0)]
def q151_13 : List zI := [(.aload_n 0, 0, 0, 0, 0), (.iconst 3, 0, 3, 0, 0), (.invokevirtual 82, 116, 2, 840, 1), (.ireturn, 0, 0, 0, 0)]
def q151_14 : List zI := [(.aload_n 0, 0, 0, 0, 0), (.iload 5, 0, 0, 0, 0), (.iconst 3, 0, 3, 0, 0), (.if_icmp .ne 7, 15, 0, 0, 0), (.iconst 1, 0, 1, 0, 0), (.goto 4, 16, 0, 0, 0)]
def q151_15 : List zI := [(.iconst 0, 0, 0, 0, 0), (.nop, 16, 0, 0, 0)]
def q151_16 : List zI := [(.invokevirtual 136, 150, 2, 938, 0), (.iload 4, 0, 0, 0, 0), (.aload_n 0, 0, 0, 0, 0), (.getfield 86, 8, 9, 731, 0), (.if_icmp .ne 7, 17, 0, 0, 0), (.iconst 1, 0, 1, 0, 0), (.goto 4, 18, 0, 0, 0)]
def q151_17 : List zI := [(.iconst 0, 0, 0, 0, 0), (.nop, 18, 0, 0, 0)]
def q151_18 : List zI := [(.istore 6, 0, 0, 0, 0), (.iconst 0, 0, 0, 0, 0), (.istore 7, 0, 0, 0, 0), (.nop, 19, 0, 0, 1)]
def q151_19 : List zI := [(.iload 7, 0, 0, 0, 0), (.aload_n 0, 0, 0, 0, 0), (.getfield 86, 8, 9, 731, 0), (.if_icmp .ge 38, 22, 0, 0, 0), (.iload 6, 0, 0, 0, 0), (.ifCond .eq 33, 22, 0, 0, 0), (.aload_n 0, 0, 0, 0, 0), (.getfield 41, 8, 13, 735, 3), (.iload 7, 0, 0, 0, 0), (.iaload, 0, 0, 0, 0), (.aload_n 0, 0, 0, 0, 0), (.getfield 32, 8, 10, 732, 3), (.iload 7, 0, 0, 0, 0), (.iaload, 0, 0, 0, 0), (.if_icmp .ne 7, 20, 0, 0, 0), (.iconst 1, 0, 1, 0, 0), (.goto 4, 21, 0, 0, 0)]
def q151_20 : List zI := [(.iconst 0, 0, 0, 0, 0), (.nop, 21, 0, 0, 0)]
def q151_21 : List zI := [(.istore 6, 0, 0, 0, 0), (.iinc 7 1, 0, 0, 0, 0), (.goto (-41), 19, 0, 0, 1)]
def q151_22 : List zI := [(.iload 6, 0, 0, 0, 0), (.ifCond .eq 7, 23, 0, 0, 0), (.iconst 1, 0, 1, 0, 0), (.goto 4, 24, 0, 0, 0)]
def q151_23 : List zI := [(.iconst 0, 0, 0, 0, 0), (.nop, 24, 0, 0, 0)]
def q151_24 : List zI := [(.ireturn, 0, 0, 0, 0)]
def bk151 : List (List zI) := [q151_0, q151_1, q151_2, q151_3, q151_4, q151_5, q151_6, q151_7, q151_8, q151_9, q151_10, q151_11, q151_12, q151_13, q151_14, q151_15, q151_16, q151_17, q151_18, q151_19, q151_20, q151_21, q151_22, q151_23, q151_24]
def q152_0 : List zI := [(.aload_n 0, 0, 0, 0, 0), (.iload_n 1, 0, 0, 0, 0), (.invokevirtual 120, 140, 2, 864, 0), (.istore_n 3, 0, 0, 0, 0), (.iload_n 3, 0, 0, 0, 0), (.ifCond .ge 5, 1, 0, 0, 0), (.iload_n 3, 0, 0, 0, 0), (.ireturn, 0, 0, 0, 0)]
def q152_1 : List zI := [(.aload_n 0, 0, 0, 0, 0), (.invokevirtual 123, 139, 1, 872, 0), (.istore 4, 0, 0, 0, 0), (.iload 4, 0, 0, 0, 0), (.ifCond .ne 9, 2, 0, 0, 0), (.aload_n 0, 0, 0, 0, 0), (.iconst 3, 0, 3, 0, 0), (.invokevirtual 82, 116, 2, 840, 1), (.ireturn, 0, 0, 0, 0)]
def q152_2 : List zI := [(.aload_n 0, 0, 0, 0, 0), (.iload 4, 0, 0, 0, 0), (.iconst 3, 0, 3, 0, 0), (.if_icmp .ne 7, 3, 0, 0, 0), (.iconst 1, 0, 1, 0, 0), (.goto 4, 4, 0, 0, 0)]
def q152_3 : List zI := [(.iconst 0, 0, 0, 0, 0), (.nop, 4, 0, 0, 0)]
def q152_4 : List zI := [(.invokevirtual 136, 150, 2, 938, 0), (.iload_n 2, 0, 0, 0, 0), (.iconst 0, 0, 0, 0, 0), (.aload_n 0, 0, 0, 0, 0), (.getfield 86, 8, 9, 731, 0), (.iconst 1, 0, 1, 0, 0), (.isub, 0, 0, 0, 0), (.invokestatic 62, 115, 3, 805, 1), (.ifCond .eq 12, 5, 0, 0, 0), (.aload_n 0, 0, 0, 0, 0), (.getfield 32, 8, 10, 732, 3), (.iload_n 2, 0, 0, 0, 0), (.iaload, 0, 0, 0, 0), (.goto 8, 6, 0, 0, 0)]
def q152_5 : List zI := [(.aload_n 0, 0, 0, 0, 0), (.iconst 2, 0, 2, 0, 0), (.invokevirtual 82, 116, 2, 840, 1), (.nop, 6, 0, 0, 0)]
def q152_6 : List zI := [(.ireturn, 0, 0, 0, 0)]
def bk152 : List (List zI) := [q152_0, q152_1, q152_2, q152_3, q152_4, q152_5, q152_6]
def q153_0 : List zI := [(.iconst 0, 0, 0, 0, 0), (.istore_n 3, 0, 0, 0, 0), (.iconst 0, 0, 0, 0, 0), (.istore 4, 0, 0, 0, 0), (.nop, 1, 0, 0, 1)]
def q153_1 : List zI := [(.iload 4, 0, 0, 0, 0), (.iload_n 2, 0, 0, 0, 0), (.if_icmp .ge 23, 2, 0, 0, 0), (.iload_n 3, 0, 0, 0, 0), (.iload_n 0, 0, 0, 0, 0), (.iload 4, 0, 0, 0, 0), (.ishr, 0, 0, 0, 0), (.iconst 1, 0, 1, 0, 0), (.iand, 0, 0, 0, 0), (.aload_n 1, 0, 0, 0, 0), (.iload 4, 0, 0, 0, 0), (.iaload, 0, 0, 0, 0), (.ishl, 0, 0, 0, 0), (.ior, 0, 0, 0, 0), (.istore_n 3, 0, 0, 0, 0), (.iinc 4 1, 0, 0, 0, 0), (.goto (-23), 1, 0, 0, 1)]
def q153_2 : List zI := [(.iload_n 3, 0, 0, 0, 0), (.ireturn, 0, 0, 0, 0)]
def bk153 : List (List zI) := [q153_0, q153_1, q153_2]
def q154_0 : List zI := [(.aload_n 0, 0, 0, 0, 0), (.getfield 13, 8, 2, 724, 0), (.iconst 2, 0, 2, 0, 0), (.isub, 0, 0, 0, 0), (.istore_n 1, 0, 0, 0, 0), (.nop, 1, 0, 0, 1)]
def q154_1 : List zI := [(.iload_n 1, 0, 0, 0, 0), (.ifCond .lt 26, 2, 0, 0, 0), (.aload_n 0, 0, 0, 0, 0), (.getfield 44, 8, 14, 736, 3), (.iload_n 1, 0, 0, 0, 0), (.iaload, 0, 0, 0, 0), (.aload_n 0, 0, 0, 0, 0), (.getfield 44, 8, 14, 736, 3), (.iload_n 1, 0, 0, 0, 0), (.iconst 1, 0, 1, 0, 0), (.iadd, 0, 0, 0, 0), (.iaload, 0, 0, 0, 0), (.if_icmp .le 9, 2, 0, 0, 0), (.iinc 1 (-1), 0, 0, 0, 0), (.goto (-24), 1, 0, 0, 1)]
def q154_2 : List zI := [(.iload_n 1, 0, 0, 0, 0), (.ifCond .ge 5, 3, 0, 0, 0), (.iconst 0, 0, 0, 0, 0), (.ireturn, 0, 0, 0, 2)]
def q154_3 : List zI := [(.aload_n 0, 0, 0, 0, 0), (.getfield 13, 8, 2, 724, 0), (.iconst 1, 0, 1, 0, 0), (.isub, 0, 0, 0, 0), (.istore_n 2, 0, 0, 0, 0), (.nop, 4, 0, 0, 1)]
def q154_4 : List zI := [(.aload_n 0, 0, 0, 0, 0), (.getfield 44, 8, 14, 736, 3), (.iload_n 2, 0, 0, 0, 0), (.iaload, 0, 0, 0, 0), (.aload_n 0, 0, 0, 0, 0), (.getfield 44, 8, 14, 736, 3), (.iload_n 1, 0, 0, 0, 0), (.iaload, 0, 0, 0, 0), (.if_icmp .ge 9, 5, 0, 0, 0), (.iinc 2 (-1), 0, 0, 0, 0), (.goto (-18), 4, 0, 0, 1)]
def q154_5 : List zI := [(.aload_n 0, 0, 0, 0, 0), (.getfield 44, 8, 14, 736, 3), (.iload_n 1, 0, 0, 0, 0), (.iaload, 0, 0, 0, 0), (.istore_n 3, 0, 0, 0, 0), (.aload_n 0, 0, 0, 0, 0), (.getfield 44, 8, 14, 736, 3), (.iload_n 1, 0, 0, 0, 0), (.aload_n 0, 0, 0, 0, 0), (.getfield 44, 8, 14, 736, 3), (.iload_n 2, 0, 0, 0, 0), (.iaload, 0, 0, 0, 0), (.iastore, 0, 0, 0, 0), (.aload_n 0, 0, 0, 0, 0), (.getfield 44, 8, 14, 736, 3), (.iload_n 2, 0, 0, 0, 0), (.iload_n 3, 0, 0, 0, 0), (.iastore, 0, 0, 0, 0), (.iload_n 1, 0, 0, 0, 0), (.iconst 1, 0, 1, 0, 0), (.iadd, 0, 0, 0, 0), (.istore 4, 0, 0, 0, 0), (.aload_n 0, 0, 0, 0, 0), (.getfield 13, 8, 2, 724, 0), (.iconst 1, 0, 1, 0, 0), (.isub, 0, 0, 0, 0), (.istore 5, 0, 0, 0, 0), (.nop, 6, 0, 0, 1)]
def q154_6 : List zI := [(.iload 4, 0, 0, 0, 0), (.iload 5, 0, 0, 0, 0), (.if_icmp .ge 42, 7, 0, 0, 0), (.aload_n 0, 0, 0, 0, 0), (.getfield 44, 8, 14, 736, 3), (.iload 4, 0, 0, 0, 0), (.iaload, 0, 0, 0, 0), (.istore_n 3, 0, 0, 0, 0), (.aload_n 0, 0, 0, 0, 0), (.getfield 44, 8, 14, 736, 3), (.iload 4, 0, 0, 0, 0), (.aload_n 0, 0, 0, 0, 0), (.getfield 44, 8, 14, 736, 3), (.iload 5, 0, 0, 0, 0), (.iaload, 0, 0, 0, 0), (.iastore, 0, 0, 0, 0), (.aload_n 0, 0, 0, 0, 0), (.getfield 44, 8, 14, 736, 3), (.iload 5, 0, 0, 0, 0), (.iload_n 3, 0, 0, 0, 0), (.iastore, 0, 0, 0, 0), (.iinc 4 1, 0, 0, 0, 0), (.iinc 5 (-1), 0, 0, 0, 0), (.goto (-43), 6, 0, 0, 1)]
def q154_7 : List zI := [(.iconst 1, 0, 1, 0, 0), (.ireturn, 0, 0, 0, 2)]
def bk154 : List (List zI) := [q154_0, q154_1, q154_2, q154_3, q154_4, q154_5, q154_6, q154_7]
def q155_0 : List zI := [(.aload_n 0, 0, 0, 0, 0), (.iload_n 1, 0, 0, 0, 0), (.invokevirtual 120, 140, 2, 864, 0), (.istore_n 2, 0, 0, 0, 0), (.iload_n 2, 0, 0, 0, 0), (.ifCond .ge 5, 1, 0, 0, 0), (.iload_n 2, 0, 0, 0, 0), (.ireturn, 0, 0, 0, 0)]
def q155_1 : List zI := [(.aload_n 0, 0, 0, 0, 0), (.invokevirtual 106, 137, 1, 876, 0), (.ifCond .ne 9, 2, 0, 0, 0), (.aload_n 0, 0, 0, 0, 0), (.iconst 3, 0, 3, 0, 0), (.invokevirtual 82, 116, 2, 840, 1), (.ireturn, 0, 0, 0, 0)]
def q155_2 : List zI := [(.lconst 0, 0, 0, 0, 0), (.lstore_n 3, 0, 0, 0, 0), (.iconst 0, 0, 0, 0, 0), (.istore 5, 0, 0, 0, 0), (.nop, 3, 0, 0, 1)]
def q155_3 : List zI := [(.iload 5, 0, 0, 0, 0), (.aload_n 0, 0, 0, 0, 0), (.getfield 86, 8, 9, 731, 0), (.if_icmp .ge 21, 4, 0, 0, 0), (.lload_n 3, 0, 0, 0, 0), (.lconst 1, 0, 1, 0, 0), (.aload_n 0, 0, 0, 0, 0), (.getfield 29, 8, 8, 730, 3), (.iload 5, 0, 0, 0, 0), (.iaload, 0, 0, 0, 0), (.lshl, 0, 0, 0, 0), (.lor, 0, 0, 0, 0), (.lstore_n 3, 0, 0, 0, 0), (.iinc 5 1, 0, 0, 0, 0), (.goto (-24), 3, 0, 0, 1)]
def q155_4 : List zI := [(.iconst 0, 0, 0, 0, 0), (.istore 5, 0, 0, 0, 0), (.nop, 5, 0, 0, 1)]
def q155_5 : List zI := [(.iload 5, 0, 0, 0, 0), (.aload_n 0, 0, 0, 0, 0), (.getfield 13, 8, 2, 724, 0), (.if_icmp .ge 18, 6, 0, 0, 0), (.aload_n 0, 0, 0, 0, 0), (.getfield 44, 8, 14, 736, 3), (.iload 5, 0, 0, 0, 0), (.iload 5, 0, 0, 0, 0), (.iastore, 0, 0, 0, 0), (.iinc 5 1, 0, 0, 0, 0), (.goto (-21), 5, 0, 0, 1)]
def q155_6 : List zI := [(.iconst 0, 0, 0, 0, 0), (.istore 5, 0, 0, 0, 0), (.iconst 1, 0, 1, 0, 0), (.istore 6, 0, 0, 0, 0), (.nop, 7, 0, 0, 1)]
def q155_7 : List zI := [(.iload 6, 0, 0, 0, 0), (.ifCond .eq 113, 16, 0, 0, 0), (.iconst 0, 0, 0, 0, 0), (.istore 7, 0, 0, 0, 0), (.nop, 8, 0, 0, 1)]
def q155_8 : List zI := [(.iload 7, 0, 0, 0, 0), (.aload_n 0, 0, 0, 0, 0), (.getfield 86, 8, 9, 731, 0), (.if_icmp .ge 92, 15, 0, 0, 0), (.iconst 1, 0, 1, 0, 0), (.istore 8, 0, 0, 0, 0), (.iconst 0, 0, 0, 0, 0), (.istore 9, 0, 0, 0, 0), (.nop, 9, 0, 0, 1)]
def q155_9 : List zI := [(.iload 9, 0, 0, 0, 0), (.aload_n 0, 0, 0, 0, 0), (.getfield 86, 8, 9, 731, 0), (.if_icmp .ge 56, 12, 0, 0, 0), (.iload 8, 0, 0, 0, 0), (.ifCond .eq 51, 12, 0, 0, 0), (.lload_n 3, 0, 0, 0, 0), (.aload_n 0, 0, 0, 0, 0), (.getfield 29, 8, 8, 730, 3), (.iload 9, 0, 0, 0, 0), (.iaload, 0, 0, 0, 0), (.aload_n 0, 0, 0, 0, 0), (.getfield 44, 8, 14, 736, 3), (.aload_n 0, 0, 0, 0, 0), (.getfield 13, 8, 2, 724, 0), (.invokestatic 140, 153, 3, 954, 0), (.aload_n 0, 0, 0, 0, 0), (.getfield 29, 8, 8, 730, 3), (.iload 7, 0, 0, 0, 0), (.iaload, 0, 0, 0, 0), (.ixor, 0, 0, 0, 0), (.lshr, 0, 0, 0, 0), (.lconst 1, 0, 1, 0, 0), (.land, 0, 0, 0, 0), (.lconst 1, 0, 1, 0, 0), (.lcmp, 0, 0, 0, 0), (.ifCond .ne 7, 10, 0, 0, 0), (.iconst 1, 0, 1, 0, 0), (.goto 4, 11, 0, 0, 0)]
def q155_10 : List zI := [(.iconst 0, 0, 0, 0, 0), (.nop, 11, 0, 0, 0)]
def q155_11 : List zI := [(.istore 8, 0, 0, 0, 0), (.iinc 9 1, 0, 0, 0, 0), (.goto (-59), 9, 0, 0, 1)]
def q155_12 : List zI := [(.iload 5, 0, 0, 0, 0), (.iload 8, 0, 0, 0, 0), (.ifCond .eq 7, 13, 0, 0, 0), (.iconst 1, 0, 1, 0, 0), (.goto 4, 14, 0, 0, 0)]
def q155_13 : List zI := [(.iconst 0, 0, 0, 0, 0), (.nop, 14, 0, 0, 0)]
def q155_14 : List zI := [(.iadd, 0, 0, 0, 0), (.istore 5, 0, 0, 0, 0), (.iinc 7 1, 0, 0, 0, 0), (.goto (-95), 8, 0, 0, 1)]
def q155_15 : List zI := [(.aload_n 0, 0, 0, 0, 0), (.invokevirtual 144, 154, 1, 957, 0), (.istore 6, 0, 0, 0, 0), (.goto (-112), 7, 0, 0, 1)]
def q155_16 : List zI := [(.iload 5, 0, 0, 0, 0), (.ireturn, 0, 0, 0, 0)]
def bk155 : List (List zI) := [q155_0, q155_1, q155_2, q155_3, q155_4, q155_5, q155_6, q155_7, q155_8, q155_9, q155_10, q155_11, q155_12, q155_13, q155_14, q155_15, q155_16]
def q156_0 : List zI := [(.aload_n 0, 0, 0, 0, 0), (.getfield 86, 8, 9, 731, 0), (.istore_n 1, 0, 0, 0, 0), (.aload_n 0, 0, 0, 0, 0), (.aload_n 0, 0, 0, 0, 0), (.getfield 29, 8, 8, 730, 3), (.iload_n 1, 0, 0, 0, 0), (.iaload, 0, 0, 0, 0), (.invokevirtual 74, 120, 2, 820, 0), (.ifCond .eq 5, 1, 0, 0, 0), (.iconst 0, 0, 0, 0, 0), (.ireturn, 0, 0, 0, 2)]
def q156_1 : List zI := [(.iconst 1, 0, 1, 0, 0), (.istore_n 2, 0, 0, 0, 0), (.iconst 0, 0, 0, 0, 0), (.istore_n 3, 0, 0, 0, 0), (.nop, 2, 0, 0, 1)]
def q156_2 : List zI := [(.iload_n 3, 0, 0, 0, 0), (.iload_n 1, 0, 0, 0, 0), (.if_icmp .ge 65, 6, 0, 0, 0), (.aload_n 0, 0, 0, 0, 0), (.iload_n 3, 0, 0, 0, 0), (.iload_n 1, 0, 0, 0, 0), (.invokevirtual 92, 132, 3, 880, 0), (.istore 4, 0, 0, 0, 0), (.iload_n 2, 0, 0, 0, 0), (.ifCond .eq 45, 4, 0, 0, 0), (.iload 4, 0, 0, 0, 0), (.ifCond .le 40, 4, 0, 0, 0), (.iload 4, 0, 0, 0, 0), (.iload_n 1, 0, 0, 0, 0), (.iload_n 3, 0, 0, 0, 0), (.isub, 0, 0, 0, 0), (.aload_n 0, 0, 0, 0, 0), (.getfield 17, 8, 3, 725, 0), (.invokestatic 96, 133, 2, 887, 0), (.if_icmp .ge 21, 3, 0, 0, 0), (.iload_n 3, 0, 0, 0, 0), (.aload_n 0, 0, 0, 0, 0), (.getfield 29, 8, 8, 730, 3), (.iload_n 1, 0, 0, 0, 0), (.iaload, 0, 0, 0, 0), (.invokestatic 89, 131, 1, 884, 0), (.iadd, 0, 0, 0, 0), (.aload_n 0, 0, 0, 0, 0), (.getfield 17, 8, 3, 725, 0), (.if_icmp .ge 7, 4, 0, 0, 0), (.nop, 3, 0, 0, 0)]
def q156_3 : List zI := [(.iconst 1, 0, 1, 0, 0), (.goto 4, 5, 0, 0, 0)]
def q156_4 : List zI := [(.iconst 0, 0, 0, 0, 0), (.nop, 5, 0, 0, 0)]
def q156_5 : List zI := [(.istore_n 2, 0, 0, 0, 0), (.iinc 3 1, 0, 0, 0, 0), (.goto (-64), 2, 0, 0, 1)]
def q156_6 : List zI := [(.iload_n 2, 0, 0, 0, 0), (.ireturn, 0, 0, 0, 2)]
def bk156 : List (List zI) := [q156_0, q156_1, q156_2, q156_3, q156_4, q156_5, q156_6]
def q157_0 : List zI := [(.iconst 0, 0, 0, 0, 0), (.istore_n 1, 0, 0, 0, 0), (.iconst 0, 0, 0, 0, 0), (.istore_n 2, 0, 0, 0, 0), (.nop, 1, 0, 0, 1)]
def q157_1 : List zI := [(.iload_n 2, 0, 0, 0, 0), (.aload_n 0, 0, 0, 0, 0), (.getfield 86, 8, 9, 731, 0), (.iconst 1, 0, 1, 0, 0), (.isub, 0, 0, 0, 0), (.if_icmp .ge 34, 4, 0, 0, 0), (.aload_n 0, 0, 0, 0, 0), (.getfield 26, 8, 7, 729, 3), (.iload_n 2, 0, 0, 0, 0), (.iaload, 0, 0, 0, 0), (.iconst 1, 0, 1, 0, 0), (.iadd, 0, 0, 0, 0), (.iload_n 1, 0, 0, 0, 0), (.if_icmp .le 14, 2, 0, 0, 0), (.aload_n 0, 0, 0, 0, 0), (.getfield 26, 8, 7, 729, 3), (.iload_n 2, 0, 0, 0, 0), (.iaload, 0, 0, 0, 0), (.iconst 1, 0, 1, 0, 0), (.iadd, 0, 0, 0, 0), (.goto 4, 3, 0, 0, 0)]
def q157_2 : List zI := [(.iload_n 1, 0, 0, 0, 0), (.nop, 3, 0, 0, 0)]
def q157_3 : List zI := [(.istore_n 1, 0, 0, 0, 0), (.iinc 2 1, 0, 0, 0, 0), (.goto (-38), 1, 0, 0, 1)]
def q157_4 : List zI := [(.iload_n 1, 0, 0, 0, 0), (.ireturn, 0, 0, 0, 0)]
def bk157 : List (List zI) := [q157_0, q157_1, q157_2, q157_3, q157_4]
def q158_0 : List zI := [(.aload_n 0, 0, 0, 0, 0), (.getfield 86, 8, 9, 731, 0), (.bipush 64, 0, 64, 0, 0), (.if_icmp .ne 5, 1, 0, 0, 0), (.iconst 0, 0, 0, 0, 0), (.ireturn, 0, 0, 0, 0)]
def q158_1 : List zI := [(.aload_n 0, 0, 0, 0, 0), (.getfield 26, 8, 7, 729, 3), (.aload_n 0, 0, 0, 0, 0), (.getfield 86, 8, 9, 731, 0), (.iload_n 1, 0, 0, 0, 0), (.iastore, 0, 0, 0, 0), (.aload_n 0, 0, 0, 0, 0), (.getfield 29, 8, 8, 730, 3), (.aload_n 0, 0, 0, 0, 0), (.getfield 86, 8, 9, 731, 0), (.iconst 1, 0, 1, 0, 0), (.iadd, 0, 0, 0, 0), (.aload_n 0, 0, 0, 0, 0), (.getfield 29, 8, 8, 730, 3), (.aload_n 0, 0, 0, 0, 0), (.getfield 86, 8, 9, 731, 0), (.iaload, 0, 0, 0, 0), (.iconst 1, 0, 1, 0, 0), (.iload_n 1, 0, 0, 0, 0), (.ishl, 0, 0, 0, 0), (.ixor, 0, 0, 0, 0), (.iastore, 0, 0, 0, 0), (.aload_n 0, 0, 0, 0, 0), (.dup, 0, 0, 0, 0), (.getfield 86, 8, 9, 731, 0), (.iconst 1, 0, 1, 0, 0), (.iadd, 0, 0, 0, 0), (.putfield 86, 8, 9, 731, 0), (.aload_n 0, 0, 0, 0, 0), (.getfield 66, 8, 4, 726, 1), (.lconst 0, 0, 0, 0, 0), (.lcmp, 0, 0, 0, 0), (.ifCond .ne 15, 2, 0, 0, 0), (.iload_n 1, 0, 0, 0, 0), (.aload_n 0, 0, 0, 0, 0), (.invokevirtual 147, 157, 1, 977, 0), (.if_icmp .le 7, 2, 0, 0, 0), (.iconst 0, 0, 0, 0, 0), (.goto 52, 7, 0, 0, 0)]
def q158_2 : List zI := [(.aload_n 0, 0, 0, 0, 0), (.getfield 150, 8, 20, 742, 2), (.ifCond .ne 22, 4, 0, 0, 0), (.aload_n 0, 0, 0, 0, 0), (.aload_n 0, 0, 0, 0, 0), (.getfield 86, 8, 9, 731, 0), (.invokevirtual 99, 134, 2, 898, 0), (.ifCond .ge 7, 3, 0, 0, 0), (.iconst 1, 0, 1, 0, 0), (.goto 30, 7, 0, 0, 0)]
def q158_3 : List zI := [(.iconst 0, 0, 0, 0, 0), (.goto 26, 7, 0, 0, 0)]
def q158_4 : List zI := [(.aload_n 0, 0, 0, 0, 0), (.invokevirtual 106, 137, 1, 876, 0), (.ifCond .eq 7, 5, 0, 0, 0), (.iconst 2, 0, 2, 0, 0), (.goto 15, 7, 0, 0, 0)]
def q158_5 : List zI := [(.aload_n 0, 0, 0, 0, 0), (.invokevirtual 154, 156, 1, 981, 0), (.ifCond .eq 7, 6, 0, 0, 0), (.iconst 1, 0, 1, 0, 0), (.goto 4, 7, 0, 0, 0)]
def q158_6 : List zI := [(.iconst 0, 0, 0, 0, 0), (.nop, 7, 0, 0, 0)]
def q158_7 : List zI := [(.istore_n 2, 0, 0, 0, 0), (.iload_n 2, 0, 0, 0, 0), (.ifCond .ne 13, 8, 0, 0, 0), (.aload_n 0, 0, 0, 0, 0), (.dup, 0, 0, 0, 0), (.getfield 86, 8, 9, 731, 0), (.iconst 1, 0, 1, 0, 0), (.isub, 0, 0, 0, 0), (.putfield 86, 8, 9, 731, 0), (.nop, 8, 0, 0, 0)]
def q158_8 : List zI := [(.iload_n 2, 0, 0, 0, 0), (.ireturn, 0, 0, 0, 0)]
def bk158 : List (List zI) := [q158_0, q158_1, q158_2, q158_3, q158_4, q158_5, q158_6, q158_7, q158_8]
def q159_0 : List zI := [(.aload_n 0, 0, 0, 0, 0), (.getfield 86, 8, 9, 731, 0), (.aload_n 0, 0, 0, 0, 0), (.getfield 157, 8, 19, 741, 0), (.if_icmp .le 39, 2, 0, 0, 0), (.aload_n 0, 0, 0, 0, 0), (.aload_n 0, 0, 0, 0, 0), (.getfield 86, 8, 9, 731, 0), (.putfield 157, 8, 19, 741, 0), (.iconst 0, 0, 0, 0, 0), (.istore_n 1, 0, 0, 0, 0), (.nop, 1, 0, 0, 1)]
def q159_1 : List zI := [(.iload_n 1, 0, 0, 0, 0), (.aload_n 0, 0, 0, 0, 0), (.getfield 86, 8, 9, 731, 0), (.if_icmp .ge 21, 2, 0, 0, 0), (.aload_n 0, 0, 0, 0, 0), (.getfield 50, 8, 18, 740, 3), (.iload_n 1, 0, 0, 0, 0), (.aload_n 0, 0, 0, 0, 0), (.getfield 26, 8, 7, 729, 3), (.iload_n 1, 0, 0, 0, 0), (.iaload, 0, 0, 0, 0), (.iastore, 0, 0, 0, 0), (.iinc 1 1, 0, 0, 0, 0), (.goto (-23), 1, 0, 0, 1)]
def q159_2 : List zI := [(.return_, 0, 0, 0, 0)]
def bk159 : List (List zI) := [q159_0, q159_1, q159_2]
def q160_0 : List zI := [(.aload_n 0, 0, 0, 0, 0), (.aload_n 0, 0, 0, 0, 0), (.getfield 150, 8, 20, 742, 2), (.invokevirtual 136, 150, 2, 938, 0), (.iconst 0, 0, 0, 0, 0), (.istore_n 1, 0, 0, 0, 0), (.iconst (-1), 1, 1, 0, 0), (.istore_n 2, 0, 0, 0, 0), (.nop, 1, 0, 0, 1)]
def q160_1 : List zI := [(.iload_n 1, 0, 0, 0, 0), (.aload_n 0, 0, 0, 0, 0), (.getfield 160, 8, 22, 744, 0), (.if_icmp .ge 63, 6, 0, 0, 0), (.iload_n 2, 0, 0, 0, 0), (.ifCond .ge 59, 6, 0, 0, 0), (.iconst 0, 0, 0, 0, 0), (.istore_n 2, 0, 0, 0, 0), (.iconst 0, 0, 0, 0, 0), (.istore_n 3, 0, 0, 0, 0), (.nop, 2, 0, 0, 1)]
def q160_2 : List zI := [(.iload_n 3, 0, 0, 0, 0), (.aload_n 0, 0, 0, 0, 0), (.getfield 86, 8, 9, 731, 0), (.if_icmp .ge 32, 3, 0, 0, 0), (.iload_n 2, 0, 0, 0, 0), (.ifCond .ne 28, 3, 0, 0, 0), (.aload_n 0, 0, 0, 0, 0), (.getfield 53, 8, 21, 743, 3), (.bipush 64, 0, 64, 0, 0), (.iload_n 1, 0, 0, 0, 0), (.imul, 0, 0, 0, 0), (.iload_n 3, 0, 0, 0, 0), (.iadd, 0, 0, 0, 0), (.iaload, 0, 0, 0, 0), (.aload_n 0, 0, 0, 0, 0), (.getfield 32, 8, 10, 732, 3), (.iload_n 3, 0, 0, 0, 0), (.iaload, 0, 0, 0, 0), (.isub, 0, 0, 0, 0), (.istore_n 2, 0, 0, 0, 0), (.iinc 3 1, 0, 0, 0, 0), (.goto (-34), 2, 0, 0, 1)]
def q160_3 : List zI := [(.iload_n 1, 0, 0, 0, 0), (.iload_n 2, 0, 0, 0, 0), (.ifCond .ge 7, 4, 0, 0, 0), (.iconst 1, 0, 1, 0, 0), (.goto 4, 5, 0, 0, 0)]
def q160_4 : List zI := [(.iconst 0, 0, 0, 0, 0), (.nop, 5, 0, 0, 0)]
def q160_5 : List zI := [(.iadd, 0, 0, 0, 0), (.istore_n 1, 0, 0, 0, 0), (.goto (-65), 1, 0, 0, 1)]
def q160_6 : List zI := [(.aload_n 0, 0, 0, 0, 0), (.getfield 160, 8, 22, 744, 0), (.ifCond .le 8, 7, 0, 0, 0), (.iload_n 2, 0, 0, 0, 0), (.ifCond .ne 4, 7, 0, 0, 0), (.return_, 0, 0, 0, 0)]
def q160_7 : List zI := [(.aload_n 0, 0, 0, 0, 0), (.getfield 160, 8, 22, 744, 0), (.sipush 200, 0, 200, 0, 0), (.if_icmp .ge 97, 13, 0, 0, 0), (.aload_n 0, 0, 0, 0, 0), (.getfield 160, 8, 22, 744, 0), (.istore_n 3, 0, 0, 0, 0), (.nop, 8, 0, 0, 1)]
def q160_8 : List zI := [(.iload_n 3, 0, 0, 0, 0), (.iload_n 1, 0, 0, 0, 0), (.if_icmp .le 54, 11, 0, 0, 0), (.iconst 0, 0, 0, 0, 0), (.istore 4, 0, 0, 0, 0), (.nop, 9, 0, 0, 1)]
def q160_9 : List zI := [(.iload 4, 0, 0, 0, 0), (.aload_n 0, 0, 0, 0, 0), (.getfield 86, 8, 9, 731, 0), (.if_icmp .ge 36, 10, 0, 0, 0), (.aload_n 0, 0, 0, 0, 0), (.getfield 53, 8, 21, 743, 3), (.bipush 64, 0, 64, 0, 0), (.iload_n 3, 0, 0, 0, 0), (.imul, 0, 0, 0, 0), (.iload 4, 0, 0, 0, 0), (.iadd, 0, 0, 0, 0), (.aload_n 0, 0, 0, 0, 0), (.getfield 53, 8, 21, 743, 3), (.bipush 64, 0, 64, 0, 0), (.iload_n 3, 0, 0, 0, 0), (.imul, 0, 0, 0, 0), (.bipush 64, 0, 64, 0, 0), (.isub, 0, 0, 0, 0), (.iload 4, 0, 0, 0, 0), (.iadd, 0, 0, 0, 0), (.iaload, 0, 0, 0, 0), (.iastore, 0, 0, 0, 0), (.iinc 4 1, 0, 0, 0, 0), (.goto (-39), 9, 0, 0, 1)]
def q160_10 : List zI := [(.iinc 3 (-1), 0, 0, 0, 0), (.goto (-53), 8, 0, 0, 1)]
def q160_11 : List zI := [(.iconst 0, 0, 0, 0, 0), (.istore_n 3, 0, 0, 0, 0), (.nop, 12, 0, 0, 1)]
def q160_12 : List zI := [(.iload_n 3, 0, 0, 0, 0), (.aload_n 0, 0, 0, 0, 0), (.getfield 86, 8, 9, 731, 0), (.if_icmp .ge 26, 13, 0, 0, 0), (.aload_n 0, 0, 0, 0, 0), (.getfield 53, 8, 21, 743, 3), (.bipush 64, 0, 64, 0, 0), (.iload_n 1, 0, 0, 0, 0), (.imul, 0, 0, 0, 0), (.iload_n 3, 0, 0, 0, 0), (.iadd, 0, 0, 0, 0), (.aload_n 0, 0, 0, 0, 0), (.getfield 32, 8, 10, 732, 3), (.iload_n 3, 0, 0, 0, 0), (.iaload, 0, 0, 0, 0), (.iastore, 0, 0, 0, 0), (.iinc 3 1, 0, 0, 0, 0), (.goto (-28), 12, 0, 0, 1)]
def q160_13 : List zI := [(.aload_n 0, 0, 0, 0, 0), (.dup, 0, 0, 0, 0), (.getfield 160, 8, 22, 744, 0), (.iconst 1, 0, 1, 0, 0), (.iadd, 0, 0, 0, 0), (.putfield 160, 8, 22, 744, 0), (.return_, 0, 0, 0, 0)]
def bk160 : List (List zI) := [q160_0, q160_1, q160_2, q160_3, q160_4, q160_5, q160_6, q160_7, q160_8, q160_9, q160_10, q160_11, q160_12, q160_13]
def q161_0 : List zI := [(.aload_n 0, 0, 0, 0, 0), (.iload_n 1, 0, 0, 0, 0), (.putfield 150, 8, 20, 742, 2), (.aload_n 0, 0, 0, 0, 0), (.iconst 0, 0, 0, 0, 0), (.putfield 86, 8, 9, 731, 0), (.aload_n 0, 0, 0, 0, 0), (.getfield 29, 8, 8, 730, 3), (.iconst 0, 0, 0, 0, 0), (.iconst 0, 0, 0, 0, 0), (.iastore, 0, 0, 0, 0), (.aload_n 0, 0, 0, 0, 0), (.iconst 0, 0, 0, 0, 0), (.putfield 163, 8, 15, 737, 0), (.aload_n 0, 0, 0, 0, 0), (.iconst 0, 0, 0, 0, 0), (.putfield 157, 8, 19, 741, 0), (.iload_n 1, 0, 0, 0, 0), (.ifCond .ne 11, 1, 0, 0, 0), (.iload_n 2, 0, 0, 0, 0), (.ifCond .ne 7, 1, 0, 0, 0), (.lconst 1, 0, 1, 0, 0), (.goto 4, 2, 0, 0, 0)]
def q161_1 : List zI := [(.lconst 0, 0, 0, 0, 0), (.nop, 2, 0, 0, 0)]
def q161_2 : List zI := [(.lstore 5, 0, 0, 0, 0), (.iload 4, 0, 0, 0, 0), (.iconst 2, 0, 2, 0, 0), (.if_icmp .ne 14, 3, 0, 0, 0), (.lload 5, 0, 0, 0, 0), (.lconst 0, 0, 0, 0, 0), (.lcmp, 0, 0, 0, 0), (.ifCond .le 7, 3, 0, 0, 0), (.aload_n 0, 0, 0, 0, 0), (.invokevirtual 166, 160, 1, 969, 0), (.nop, 3, 0, 0, 0)]
def q161_3 : List zI := [(.aload_n 0, 0, 0, 0, 0), (.getfield 47, 8, 17, 739, 3), (.iconst 0, 0, 0, 0, 0), (.iconst 0, 0, 0, 0, 0), (.iastore, 0, 0, 0, 0), (.iconst 0, 0, 0, 0, 0), (.istore 7, 0, 0, 0, 0), (.nop, 4, 0, 0, 1)]
def q161_4 : List zI := [(.aload_n 0, 0, 0, 0, 0), (.getfield 86, 8, 9, 731, 0), (.ifCond .gt 16, 5, 0, 0, 0), (.aload_n 0, 0, 0, 0, 0), (.getfield 47, 8, 17, 739, 3), (.iconst 0, 0, 0, 0, 0), (.iaload, 0, 0, 0, 0), (.aload_n 0, 0, 0, 0, 0), (.getfield 13, 8, 2, 724, 0), (.if_icmp .ge 219, 16, 0, 0, 0), (.nop, 5, 0, 0, 0)]
def q161_5 : List zI := [(.aload_n 0, 0, 0, 0, 0), (.getfield 86, 8, 9, 731, 0), (.iload_n 2, 0, 0, 0, 0), (.if_icmp .eq 19, 6, 0, 0, 0), (.aload_n 0, 0, 0, 0, 0), (.getfield 47, 8, 17, 739, 3), (.aload_n 0, 0, 0, 0, 0), (.getfield 86, 8, 9, 731, 0), (.iaload, 0, 0, 0, 0), (.aload_n 0, 0, 0, 0, 0), (.getfield 13, 8, 2, 724, 0), (.if_icmp .ne 27, 7, 0, 0, 0), (.nop, 6, 0, 0, 0)]
def q161_6 : List zI := [(.aload_n 0, 0, 0, 0, 0), (.getfield 86, 8, 9, 731, 0), (.istore 7, 0, 0, 0, 0), (.aload_n 0, 0, 0, 0, 0), (.dup, 0, 0, 0, 0), (.getfield 86, 8, 9, 731, 0), (.iconst 1, 0, 1, 0, 0), (.isub, 0, 0, 0, 0), (.putfield 86, 8, 9, 731, 0), (.iload 7, 0, 0, 0, 0), (.ifCond .ne (-62), 4, 0, 0, 1), (.lload 5, 0, 0, 0, 0), (.lreturn, 0, 0, 0, 0)]
def q161_7 : List zI := [(.aload_n 0, 0, 0, 0, 0), (.getfield 47, 8, 17, 739, 3), (.aload_n 0, 0, 0, 0, 0), (.getfield 86, 8, 9, 731, 0), (.iaload, 0, 0, 0, 0), (.istore 8, 0, 0, 0, 0), (.aload_n 0, 0, 0, 0, 0), (.getfield 47, 8, 17, 739, 3), (.aload_n 0, 0, 0, 0, 0), (.getfield 86, 8, 9, 731, 0), (.dup2, 0, 0, 0, 0), (.iaload, 0, 0, 0, 0), (.iconst 1, 0, 1, 0, 0), (.iadd, 0, 0, 0, 0), (.iastore, 0, 0, 0, 0), (.aload_n 0, 0, 0, 0, 0), (.iload 8, 0, 0, 0, 0), (.invokevirtual 169, 158, 2, 973, 0), (.istore 9, 0, 0, 0, 0), (.iload 9, 0, 0, 0, 0), (.ifCond .ne 6, 8, 0, 0, 0), (.goto (-105), 4, 0, 0, 1)]
def q161_8 : List zI := [(.aload_n 0, 0, 0, 0, 0), (.getfield 163, 8, 15, 737, 0), (.iload_n 3, 0, 0, 0, 0), (.if_icmp .ne 17, 9, 0, 0, 0), (.aload_n 0, 0, 0, 0, 0), (.dup, 0, 0, 0, 0), (.getfield 86, 8, 9, 731, 0), (.iconst 1, 0, 1, 0, 0), (.isub, 0, 0, 0, 0), (.putfield 86, 8, 9, 731, 0), (.ldc2_w 172, 1, 6, 985, 0), (.lreturn, 0, 0, 0, 0)]
def q161_9 : List zI := [(.aload_n 0, 0, 0, 0, 0), (.dup, 0, 0, 0, 0), (.getfield 163, 8, 15, 737, 0), (.iconst 1, 0, 1, 0, 0), (.iadd, 0, 0, 0, 0), (.putfield 163, 8, 15, 737, 0), (.iload_n 1, 0, 0, 0, 0), (.ifCond .eq 9, 10, 0, 0, 0), (.iload 9, 0, 0, 0, 0), (.iconst 2, 0, 2, 0, 0), (.if_icmp .ne 57, 13, 0, 0, 0), (.nop, 10, 0, 0, 0)]
def q161_10 : List zI := [(.aload_n 0, 0, 0, 0, 0), (.invokevirtual 174, 159, 1, 986, 0), (.lload 5, 0, 0, 0, 0), (.aload_n 0, 0, 0, 0, 0), (.getfield 86, 8, 9, 731, 0), (.iload_n 2, 0, 0, 0, 0), (.if_icmp .ne 7, 11, 0, 0, 0), (.lconst 1, 0, 1, 0, 0), (.goto 4, 12, 0, 0, 0)]
def q161_11 : List zI := [(.lconst 0, 0, 0, 0, 0), (.nop, 12, 0, 0, 0)]
def q161_12 : List zI := [(.ladd, 0, 0, 0, 0), (.lstore 5, 0, 0, 0, 0), (.iload 4, 0, 0, 0, 0), (.iconst 2, 0, 2, 0, 0), (.if_icmp .ne 29, 13, 0, 0, 0), (.aload_n 0, 0, 0, 0, 0), (.getfield 86, 8, 9, 731, 0), (.iload_n 2, 0, 0, 0, 0), (.if_icmp .ne 21, 13, 0, 0, 0), (.aload_n 0, 0, 0, 0, 0), (.invokevirtual 166, 160, 1, 969, 0), (.aload_n 0, 0, 0, 0, 0), (.getfield 160, 8, 22, 744, 0), (.sipush 200, 0, 200, 0, 0), (.if_icmp .le 7, 13, 0, 0, 0), (.ldc2_w 172, 1, 6, 985, 0), (.lreturn, 0, 0, 0, 0)]
def q161_13 : List zI := [(.iload 9, 0, 0, 0, 0), (.iconst 2, 0, 2, 0, 0), (.if_icmp .ne 16, 14, 0, 0, 0), (.aload_n 0, 0, 0, 0, 0), (.dup, 0, 0, 0, 0), (.getfield 86, 8, 9, 731, 0), (.iconst 1, 0, 1, 0, 0), (.isub, 0, 0, 0, 0), (.putfield 86, 8, 9, 731, 0), (.goto 13, 15, 0, 0, 0)]
def q161_14 : List zI := [(.aload_n 0, 0, 0, 0, 0), (.getfield 47, 8, 17, 739, 3), (.aload_n 0, 0, 0, 0, 0), (.getfield 86, 8, 9, 731, 0), (.iconst 0, 0, 0, 0, 0), (.iastore, 0, 0, 0, 0), (.nop, 15, 0, 0, 0)]
def q161_15 : List zI := [(.goto (-233), 4, 0, 0, 1)]
def q161_16 : List zI := [(.lload 5, 0, 0, 0, 0), (.lreturn, 0, 0, 0, 0)]
def bk161 : List (List zI) := [q161_0, q161_1, q161_2, q161_3, q161_4, q161_5, q161_6, q161_7, q161_8, q161_9, q161_10, q161_11, q161_12, q161_13, q161_14, q161_15, q161_16]
def q162_0 : List zI := [(.iload_n 1, 0, 0, 0, 0), (.invokestatic 79, 123, 1, 833, 1), (.ifCond .eq 14, 1, 0, 0, 0), (.iload_n 3, 0, 0, 0, 0), (.iconst 1, 0, 1, 0, 0), (.sipush 20000, 0, 20000, 0, 0), (.invokestatic 62, 115, 3, 805, 1), (.ifCond .ne 5, 2, 0, 0, 0), (.nop, 1, 0, 0, 0)]
def q162_1 : List zI := [(.iconst (-1), 1, 1, 0, 0), (.ireturn, 0, 0, 0, 0)]
def q162_2 : List zI := [(.aload_n 0, 0, 0, 0, 0), (.iconst 0, 0, 0, 0, 0), (.invokevirtual 74, 120, 2, 820, 0), (.ifCond .eq 6, 3, 0, 0, 0), (.bipush (-4), 1, 4, 0, 0), (.ireturn, 0, 0, 0, 0)]
def q162_3 : List zI := [(.aload_n 0, 0, 0, 0, 0), (.iload_n 2, 0, 0, 0, 0), (.bipush 65, 0, 65, 0, 0), (.iload_n 3, 0, 0, 0, 0), (.iconst 0, 0, 0, 0, 0), (.invokevirtual 177, 161, 5, 965, 0), (.lstore 4, 0, 0, 0, 0), (.aload_n 0, 0, 0, 0, 0), (.getfield 20, 8, 5, 727, 3), (.iload_n 1, 0, 0, 0, 0), (.aload_n 0, 0, 0, 0, 0), (.getfield 157, 8, 19, 741, 0), (.iastore, 0, 0, 0, 0), (.iconst 0, 0, 0, 0, 0), (.istore 6, 0, 0, 0, 0), (.nop, 4, 0, 0, 1)]
def q162_4 : List zI := [(.iload 6, 0, 0, 0, 0), (.aload_n 0, 0, 0, 0, 0), (.getfield 157, 8, 19, 741, 0), (.if_icmp .ge 28, 5, 0, 0, 0), (.aload_n 0, 0, 0, 0, 0), (.getfield 23, 8, 6, 728, 3), (.bipush 64, 0, 64, 0, 0), (.iload_n 1, 0, 0, 0, 0), (.imul, 0, 0, 0, 0), (.iload 6, 0, 0, 0, 0), (.iadd, 0, 0, 0, 0), (.aload_n 0, 0, 0, 0, 0), (.getfield 50, 8, 18, 740, 3), (.iload 6, 0, 0, 0, 0), (.iaload, 0, 0, 0, 0), (.iastore, 0, 0, 0, 0), (.iinc 6 1, 0, 0, 0, 0), (.goto (-31), 4, 0, 0, 1)]
def q162_5 : List zI := [(.lload 4, 0, 0, 0, 0), (.lconst 0, 0, 0, 0, 0), (.lcmp, 0, 0, 0, 0), (.ifCond .ge 8, 6, 0, 0, 0), (.bipush (-6), 1, 6, 0, 0), (.goto 7, 7, 0, 0, 0)]
def q162_6 : List zI := [(.aload_n 0, 0, 0, 0, 0), (.getfield 157, 8, 19, 741, 0), (.nop, 7, 0, 0, 0)]
def q162_7 : List zI := [(.ireturn, 0, 0, 0, 0)]
def bk162 : List (List zI) := [q162_0, q162_1, q162_2, q162_3, q162_4, q162_5, q162_6, q162_7]
def q163_0 : List zI := [(.iload_n 2, 0, 0, 0, 0), (.iconst 0, 0, 0, 0, 0), (.bipush 64, 0, 64, 0, 0), (.invokestatic 62, 115, 3, 805, 1), (.ifCond .ne 5, 1, 0, 0, 0), (.iconst (-1), 1, 1, 0, 0), (.ireturn, 0, 0, 0, 0)]
def q163_1 : List zI := [(.aload_n 0, 0, 0, 0, 0), (.iconst 0, 0, 0, 0, 0), (.invokevirtual 74, 120, 2, 820, 0), (.ifCond .eq 6, 2, 0, 0, 0), (.bipush (-4), 1, 4, 0, 0), (.ireturn, 0, 0, 0, 0)]
def q163_2 : List zI := [(.aload_n 0, 0, 0, 0, 0), (.iload_n 1, 0, 0, 0, 0), (.iload_n 2, 0, 0, 0, 0), (.sipush 20000, 0, 20000, 0, 0), (.iconst 1, 0, 1, 0, 0), (.invokevirtual 177, 161, 5, 965, 0), (.lstore_n 3, 0, 0, 0, 0), (.lload_n 3, 0, 0, 0, 0), (.lconst 0, 0, 0, 0, 0), (.lcmp, 0, 0, 0, 0), (.ifCond .ge 6, 3, 0, 0, 0), (.bipush (-6), 1, 6, 0, 0), (.ireturn, 0, 0, 0, 0)]
def q163_3 : List zI := [(.aload_n 0, 0, 0, 0, 0), (.lload_n 3, 0, 0, 0, 0), (.putfield 181, 8, 16, 738, 1), (.iconst 1, 0, 1, 0, 0), (.ireturn, 0, 0, 0, 0)]
def bk163 : List (List zI) := [q163_0, q163_1, q163_2, q163_3]
def q164_0 : List zI := [(.iload_n 2, 0, 0, 0, 0), (.iconst 0, 0, 0, 0, 0), (.bipush 64, 0, 64, 0, 0), (.invokestatic 62, 115, 3, 805, 1), (.ifCond .ne 5, 1, 0, 0, 0), (.iconst (-1), 1, 1, 0, 0), (.ireturn, 0, 0, 0, 0)]
def q164_1 : List zI := [(.aload_n 0, 0, 0, 0, 0), (.getfield 66, 8, 4, 726, 1), (.lconst 0, 0, 0, 0, 0), (.lcmp, 0, 0, 0, 0), (.ifCond .eq 6, 2, 0, 0, 0), (.bipush (-4), 1, 4, 0, 0), (.ireturn, 0, 0, 0, 0)]
def q164_2 : List zI := [(.aload_n 0, 0, 0, 0, 0), (.iconst 0, 0, 0, 0, 0), (.putfield 160, 8, 22, 744, 0), (.aload_n 0, 0, 0, 0, 0), (.iload_n 1, 0, 0, 0, 0), (.iload_n 2, 0, 0, 0, 0), (.sipush 20000, 0, 20000, 0, 0), (.iconst 2, 0, 2, 0, 0), (.invokevirtual 177, 161, 5, 965, 0), (.lstore_n 3, 0, 0, 0, 0), (.lload_n 3, 0, 0, 0, 0), (.lconst 0, 0, 0, 0, 0), (.lcmp, 0, 0, 0, 0), (.ifCond .ge 6, 3, 0, 0, 0), (.bipush (-6), 1, 6, 0, 0), (.ireturn, 0, 0, 0, 0)]
def q164_3 : List zI := [(.aload_n 0, 0, 0, 0, 0), (.aload_n 0, 0, 0, 0, 0), (.getfield 160, 8, 22, 744, 0), (.putfield 184, 8, 24, 746, 0), (.aload_n 0, 0, 0, 0, 0), (.iload_n 2, 0, 0, 0, 0), (.putfield 187, 8, 25, 747, 0), (.iconst 0, 0, 0, 0, 0), (.istore 5, 0, 0, 0, 0), (.nop, 4, 0, 0, 1)]
def q164_4 : List zI := [(.iload 5, 0, 0, 0, 0), (.bipush 64, 0, 64, 0, 0), (.aload_n 0, 0, 0, 0, 0), (.getfield 160, 8, 22, 744, 0), (.imul, 0, 0, 0, 0), (.if_icmp .ge 23, 5, 0, 0, 0), (.aload_n 0, 0, 0, 0, 0), (.getfield 56, 8, 23, 745, 3), (.iload 5, 0, 0, 0, 0), (.aload_n 0, 0, 0, 0, 0), (.getfield 53, 8, 21, 743, 3), (.iload 5, 0, 0, 0, 0), (.iaload, 0, 0, 0, 0), (.iastore, 0, 0, 0, 0), (.iinc 5 1, 0, 0, 0, 0), (.goto (-29), 4, 0, 0, 1)]
def q164_5 : List zI := [(.aload_n 0, 0, 0, 0, 0), (.aload_n 0, 0, 0, 0, 0), (.getfield 160, 8, 22, 744, 0), (.i2l, 0, 0, 0, 0), (.putfield 181, 8, 16, 738, 1), (.iconst 1, 0, 1, 0, 0), (.ireturn, 0, 0, 0, 0)]
def bk164 : List (List zI) := [q164_0, q164_1, q164_2, q164_3, q164_4, q164_5]
def q165_0 : List zI := [(.iload_n 2, 0, 0, 0, 0), (.invokestatic 79, 123, 1, 833, 1), (.ifCond .ne 5, 1, 0, 0, 0), (.iconst (-1), 1, 1, 0, 0), (.ireturn, 0, 0, 0, 0)]
def q165_1 : List zI := [(.iload_n 1, 0, 0, 0, 0), (.iconst 0, 0, 0, 0, 0), (.aload_n 0, 0, 0, 0, 0), (.getfield 184, 8, 24, 746, 0), (.iconst 1, 0, 1, 0, 0), (.isub, 0, 0, 0, 0), (.invokestatic 62, 115, 3, 805, 1), (.ifCond .ne 6, 2, 0, 0, 0), (.bipush (-9), 1, 9, 0, 0), (.ireturn, 0, 0, 0, 0)]
def q165_2 : List zI := [(.aload_n 0, 0, 0, 0, 0), (.getfield 20, 8, 5, 727, 3), (.iload_n 2, 0, 0, 0, 0), (.aload_n 0, 0, 0, 0, 0), (.getfield 187, 8, 25, 747, 0), (.iastore, 0, 0, 0, 0), (.iconst 0, 0, 0, 0, 0), (.istore_n 3, 0, 0, 0, 0), (.nop, 3, 0, 0, 1)]
def q165_3 : List zI := [(.iload_n 3, 0, 0, 0, 0), (.aload_n 0, 0, 0, 0, 0), (.getfield 187, 8, 25, 747, 0), (.if_icmp .ge 31, 4, 0, 0, 0), (.aload_n 0, 0, 0, 0, 0), (.getfield 23, 8, 6, 728, 3), (.bipush 64, 0, 64, 0, 0), (.iload_n 2, 0, 0, 0, 0), (.imul, 0, 0, 0, 0), (.iload_n 3, 0, 0, 0, 0), (.iadd, 0, 0, 0, 0), (.aload_n 0, 0, 0, 0, 0), (.getfield 56, 8, 23, 745, 3), (.bipush 64, 0, 64, 0, 0), (.iload_n 1, 0, 0, 0, 0), (.imul, 0, 0, 0, 0), (.iload_n 3, 0, 0, 0, 0), (.iadd, 0, 0, 0, 0), (.iaload, 0, 0, 0, 0), (.iastore, 0, 0, 0, 0), (.iinc 3 1, 0, 0, 0, 0), (.goto (-33), 3, 0, 0, 1)]
def q165_4 : List zI := [(.iconst 1, 0, 1, 0, 0), (.ireturn, 0, 0, 0, 0)]
def bk165 : List (List zI) := [q165_0, q165_1, q165_2, q165_3, q165_4]
def q166_0 : List zI := [(.aload_n 0, 0, 0, 0, 0), (.getfield 163, 8, 15, 737, 0), (.ireturn, 0, 0, 0, 0)]
def bk166 : List (List zI) := [q166_0]
def q167_0 : List zI := [(.aload_n 0, 0, 0, 0, 0), (.getfield 181, 8, 16, 738, 1), (.lreturn, 0, 0, 0, 0)]
def bk167 : List (List zI) := [q167_0]
def q168_0 : List zI := [(.iconst 0, 0, 0, 0, 0), (.istore_n 2, 0, 0, 0, 0), (.iload_n 1, 0, 0, 0, 0), (.tableswitch 104 0 3 #[29, 34, 39, 72], 9, 4, 0, 0)]
def q168_1 : List zI := [(.iload_n 3, 0, 0, 0, 0), (.bipush 12, 0, 12, 0, 0), (.if_icmp .ge 26, 4, 0, 0, 0), (.iload_n 2, 0, 0, 0, 0), (.aload_n 0, 0, 0, 0, 0), (.getfield 20, 8, 5, 727, 3), (.iload_n 3, 0, 0, 0, 0), (.iaload, 0, 0, 0, 0), (.ifCond .lt 7, 2, 0, 0, 0), (.iconst 1, 0, 1, 0, 0), (.goto 4, 3, 0, 0, 0)]
def q168_2 : List zI := [(.iconst 0, 0, 0, 0, 0), (.nop, 3, 0, 0, 0)]
def q168_3 : List zI := [(.iadd, 0, 0, 0, 0), (.istore_n 2, 0, 0, 0, 0), (.iinc 3 1, 0, 0, 0, 0), (.goto (-26), 1, 0, 0, 1)]
def q168_4 : List zI := [(.iload_n 2, 0, 0, 0, 0), (.ireturn, 0, 0, 0, 0)]
def q168_5 : List zI := [(.iload_n 3, 0, 0, 0, 0), (.bipush 64, 0, 64, 0, 0), (.if_icmp .ge 25, 8, 0, 0, 0), (.iload_n 2, 0, 0, 0, 0), (.aload_n 0, 0, 0, 0, 0), (.iload_n 3, 0, 0, 0, 0), (.invokevirtual 74, 120, 2, 820, 0), (.ifCond .eq 7, 6, 0, 0, 0), (.iconst 1, 0, 1, 0, 0), (.goto 4, 7, 0, 0, 0)]
def q168_6 : List zI := [(.iconst 0, 0, 0, 0, 0), (.nop, 7, 0, 0, 0)]
def q168_7 : List zI := [(.iadd, 0, 0, 0, 0), (.istore_n 2, 0, 0, 0, 0), (.iinc 3 1, 0, 0, 0, 0), (.goto (-25), 5, 0, 0, 1)]
def q168_8 : List zI := [(.iload_n 2, 0, 0, 0, 0), (.ireturn, 0, 0, 0, 0)]
def q168_9 : List zI := [(.aload_n 0, 0, 0, 0, 0), (.getfield 13, 8, 2, 724, 0), (.ireturn, 0, 0, 0, 0)]
def q168_10 : List zI := [(.aload_n 0, 0, 0, 0, 0), (.getfield 17, 8, 3, 725, 0), (.ireturn, 0, 0, 0, 0)]
def q168_11 : List zI := [(.iconst 0, 0, 0, 0, 0), (.istore_n 3, 0, 0, 0, 0), (.nop, 1, 0, 0, 1)]
def q168_12 : List zI := [(.iconst 0, 0, 0, 0, 0), (.istore_n 3, 0, 0, 0, 0), (.nop, 5, 0, 0, 1)]
def q168_13 : List zI := [(.iconst (-1), 1, 1, 0, 0), (.ireturn, 0, 0, 0, 0)]
def bk168 : List (List zI) := [q168_0, q168_1, q168_2, q168_3, q168_4, q168_5, q168_6, q168_7, q168_8, q168_9, q168_10, q168_11, q168_12, q168_13]
def q169_0 : List zI := [(.aload_n 0, 0, 0, 0, 0), (.getfield 59, 8, 0, 722, 0), (.ireturn, 0, 0, 0, 0)]
def bk169 : List (List zI) := [q169_0]
def q170_0 : List zI := [(.iload_n 1, 0, 0, 0, 0), (.iconst 1, 0, 1, 0, 0), (.iconst 4, 0, 4, 0, 0), (.invokestatic 62, 115, 3, 805, 1), (.ifCond .eq 12, 1, 0, 0, 0), (.aload_n 0, 0, 0, 0, 0), (.getfield 7, 8, 1, 723, 3), (.iload_n 1, 0, 0, 0, 0), (.iaload, 0, 0, 0, 0), (.goto 4, 2, 0, 0, 0)]
def q170_1 : List zI := [(.iconst (-1), 1, 1, 0, 0), (.nop, 2, 0, 0, 0)]
def q170_2 : List zI := [(.ireturn, 0, 0, 0, 0)]
def bk170 : List (List zI) := [q170_0, q170_1, q170_2]
def q171_0 : List zI := [(.ldc2_w 190, 0, 31, 1026, 0), (.ldc2_w 190, 0, 31, 1026, 0), (.ldc2_w 192, 0, 527, 1027, 0), (.aload_n 0, 0, 0, 0, 0), (.getfield 13, 8, 2, 724, 0), (.i2l, 0, 0, 0, 0), (.ladd, 0, 0, 0, 0), (.lmul, 0, 0, 0, 0), (.aload_n 0, 0, 0, 0, 0), (.getfield 17, 8, 3, 725, 0), (.i2l, 0, 0, 0, 0), (.ladd, 0, 0, 0, 0), (.lmul, 0, 0, 0, 0), (.aload_n 0, 0, 0, 0, 0), (.getfield 66, 8, 4, 726, 1), (.ladd, 0, 0, 0, 0), (.lstore_n 1, 0, 0, 0, 0), (.iconst 0, 0, 0, 0, 0), (.istore_n 3, 0, 0, 0, 0), (.nop, 1, 0, 0, 1)]
def q171_1 : List zI := [(.iload_n 3, 0, 0, 0, 0), (.bipush 12, 0, 12, 0, 0), (.if_icmp .ge 76, 6, 0, 0, 0), (.ldc2_w 190, 0, 31, 1026, 0), (.lload_n 1, 0, 0, 0, 0), (.lmul, 0, 0, 0, 0), (.aload_n 0, 0, 0, 0, 0), (.getfield 20, 8, 5, 727, 3), (.iload_n 3, 0, 0, 0, 0), (.iaload, 0, 0, 0, 0), (.ifCond .ge 7, 2, 0, 0, 0), (.iconst (-1), 1, 1, 0, 0), (.goto 9, 3, 0, 0, 0)]
def q171_2 : List zI := [(.aload_n 0, 0, 0, 0, 0), (.getfield 20, 8, 5, 727, 3), (.iload_n 3, 0, 0, 0, 0), (.iaload, 0, 0, 0, 0), (.nop, 3, 0, 0, 0)]
def q171_3 : List zI := [(.i2l, 0, 0, 0, 0), (.ladd, 0, 0, 0, 0), (.lstore_n 1, 0, 0, 0, 0), (.iconst 0, 0, 0, 0, 0), (.istore 4, 0, 0, 0, 0), (.nop, 4, 0, 0, 1)]
def q171_4 : List zI := [(.iload 4, 0, 0, 0, 0), (.aload_n 0, 0, 0, 0, 0), (.getfield 20, 8, 5, 727, 3), (.iload_n 3, 0, 0, 0, 0), (.iaload, 0, 0, 0, 0), (.if_icmp .ge 29, 5, 0, 0, 0), (.ldc2_w 190, 0, 31, 1026, 0), (.lload_n 1, 0, 0, 0, 0), (.lmul, 0, 0, 0, 0), (.aload_n 0, 0, 0, 0, 0), (.getfield 23, 8, 6, 728, 3), (.bipush 64, 0, 64, 0, 0), (.iload_n 3, 0, 0, 0, 0), (.imul, 0, 0, 0, 0), (.iload 4, 0, 0, 0, 0), (.iadd, 0, 0, 0, 0), (.iaload, 0, 0, 0, 0), (.i2l, 0, 0, 0, 0), (.ladd, 0, 0, 0, 0), (.lstore_n 1, 0, 0, 0, 0), (.iinc 4 1, 0, 0, 0, 0), (.goto (-34), 4, 0, 0, 1)]
def q171_5 : List zI := [(.iinc 3 1, 0, 0, 0, 0), (.goto (-76), 1, 0, 0, 1)]
def q171_6 : List zI := [(.lload_n 1, 0, 0, 0, 0), (.lreturn, 0, 0, 0, 0)]
def bk171 : List (List zI) := [q171_0, q171_1, q171_2, q171_3, q171_4, q171_5, q171_6]
def q172_0 : List zI := [(.iload_n 0, 0, 0, 0, 0), (.iload_n 0, 0, 0, 0, 0), (.iconst 1, 0, 1, 0, 0), (.iushr, 0, 0, 0, 0), (.ldc_w 265, 0, 1431655765, 400, 0), (.iand, 0, 0, 0, 0), (.isub, 0, 0, 0, 0), (.istore_n 0, 0, 0, 0, 0), (.iload_n 0, 0, 0, 0, 0), (.ldc_w 266, 0, 858993459, 401, 0), (.iand, 0, 0, 0, 0), (.iload_n 0, 0, 0, 0, 0), (.iconst 2, 0, 2, 0, 0), (.iushr, 0, 0, 0, 0), (.ldc_w 266, 0, 858993459, 401, 0), (.iand, 0, 0, 0, 0), (.iadd, 0, 0, 0, 0), (.istore_n 0, 0, 0, 0, 0), (.iload_n 0, 0, 0, 0, 0), (.iload_n 0, 0, 0, 0, 0), (.iconst 4, 0, 4, 0, 0), (.iushr, 0, 0, 0, 0), (.iadd, 0, 0, 0, 0), (.ldc_w 267, 0, 252645135, 402, 0), (.iand, 0, 0, 0, 0), (.istore_n 0, 0, 0, 0, 0), (.iload_n 0, 0, 0, 0, 0), (.iload_n 0, 0, 0, 0, 0), (.bipush 8, 0, 8, 0, 0), (.iushr, 0, 0, 0, 0), (.iadd, 0, 0, 0, 0), (.istore_n 0, 0, 0, 0, 0), (.iload_n 0, 0, 0, 0, 0), (.iload_n 0, 0, 0, 0, 0), (.bipush 16, 0, 16, 0, 0), (.iushr, 0, 0, 0, 0), (.iadd, 0, 0, 0, 0), (.istore_n 0, 0, 0, 0, 0), (.iload_n 0, 0, 0, 0, 0), (.bipush 63, 0, 63, 0, 0), (.iand, 0, 0, 0, 0), (.ireturn, 0, 0, 0, 0)]
def bk172 : List (List zI) := [q172_0]
def q173_0 : List zI := [(.lload_n 0, 0, 0, 0, 0), (.lload_n 0, 0, 0, 0, 0), (.iconst 1, 0, 1, 0, 0), (.lushr, 0, 0, 0, 0), (.ldc2_w 314, 0, 6148914691236517205, 460, 0), (.land, 0, 0, 0, 0), (.lsub, 0, 0, 0, 0), (.lstore_n 0, 0, 0, 0, 0), (.lload_n 0, 0, 0, 0, 0), (.ldc2_w 316, 0, 3689348814741910323, 461, 0), (.land, 0, 0, 0, 0), (.lload_n 0, 0, 0, 0, 0), (.iconst 2, 0, 2, 0, 0), (.lushr, 0, 0, 0, 0), (.ldc2_w 316, 0, 3689348814741910323, 461, 0), (.land, 0, 0, 0, 0), (.ladd, 0, 0, 0, 0), (.lstore_n 0, 0, 0, 0, 0), (.lload_n 0, 0, 0, 0, 0), (.lload_n 0, 0, 0, 0, 0), (.iconst 4, 0, 4, 0, 0), (.lushr, 0, 0, 0, 0), (.ladd, 0, 0, 0, 0), (.ldc2_w 318, 0, 1085102592571150095, 462, 0), (.land, 0, 0, 0, 0), (.lstore_n 0, 0, 0, 0, 0), (.lload_n 0, 0, 0, 0, 0), (.lload_n 0, 0, 0, 0, 0), (.bipush 8, 0, 8, 0, 0), (.lushr, 0, 0, 0, 0), (.ladd, 0, 0, 0, 0), (.lstore_n 0, 0, 0, 0, 0), (.lload_n 0, 0, 0, 0, 0), (.lload_n 0, 0, 0, 0, 0), (.bipush 16, 0, 16, 0, 0), (.lushr, 0, 0, 0, 0), (.ladd, 0, 0, 0, 0), (.lstore_n 0, 0, 0, 0, 0), (.lload_n 0, 0, 0, 0, 0), (.lload_n 0, 0, 0, 0, 0), (.bipush 32, 0, 32, 0, 0), (.lushr, 0, 0, 0, 0), (.ladd, 0, 0, 0, 0), (.lstore_n 0, 0, 0, 0, 0), (.lload_n 0, 0, 0, 0, 0), (.l2i, 0, 0, 0, 0), (.bipush 127, 0, 127, 0, 0), (.iand, 0, 0, 0, 0), (.ireturn, 0, 0, 0, 0)]
def bk173 : List (List zI) := [q173_0]
def q174_0 : List zI := [(.iload_n 0, 0, 0, 0, 0), (.iload_n 1, 0, 0, 0, 0), (.if_icmp .lt 7, 1, 0, 0, 0), (.iload_n 0, 0, 0, 0, 0), (.goto 4, 2, 0, 0, 0)]
def q174_1 : List zI := [(.iload_n 1, 0, 0, 0, 0), (.nop, 2, 0, 0, 0)]
def q174_2 : List zI := [(.ireturn, 0, 0, 0, 0)]
def bk174 : List (List zI) := [q174_0, q174_1, q174_2]
def q175_0 : List zI := [(.iload_n 0, 0, 0, 0, 0), (.iload_n 1, 0, 0, 0, 0), (.if_icmp .gt 7, 1, 0, 0, 0), (.iload_n 0, 0, 0, 0, 0), (.goto 4, 2, 0, 0, 0)]
def q175_1 : List zI := [(.iload_n 1, 0, 0, 0, 0), (.nop, 2, 0, 0, 0)]
def q175_2 : List zI := [(.ireturn, 0, 0, 0, 0)]
def bk175 : List (List zI) := [q175_0, q175_1, q175_2]
def q176_0 : List zI := [(.new 7, 7, 14, 60, 0), (.dup, 0, 0, 0, 0), (.invokespecial 9, 74, 1, 62, 0), (.astore_n 1, 0, 0, 0, 0), (.new 10, 8, 26, 716, 0), (.dup, 0, 0, 0, 0), (.invokespecial 12, 114, 1, 718, 0), (.astore_n 2, 0, 0, 0, 0), (.iconst 0, 0, 0, 0, 0), (.istore_n 3, 0, 0, 0, 0), (.nop, 1, 0, 0, 1)]
def q176_1 : List zI := [(.iload_n 3, 0, 0, 0, 0), (.aload_n 0, 0, 0, 0, 0), (.arraylength, 1, 0, 0, 0), (.iconst 5, 0, 5, 0, 0), (.isub, 0, 0, 0, 0), (.if_icmp .gt 1001, 19, 0, 0, 0), (.aload_n 0, 0, 0, 0, 0), (.iload_n 3, 0, 0, 0, 0), (.iaload, 1, 0, 0, 0), (.bipush 31, 0, 31, 0, 0), (.iand, 0, 0, 0, 0), (.tableswitch 986 0 28 #[132, 155, 178, 227, 241, 264, 297, 330, 363, 386, 439, 462, 495, 528, 551, 584, 607, 640, 673, 696, 755, 804, 853, 886, 899, 913, 936, 949, 972], 20, 29, 0, 0)]
def q176_2 : List zI := [(.iconst 0, 0, 0, 0, 0), (.nop, 3, 0, 0, 0)]
def q176_3 : List zI := [(.invokevirtual 22, 77, 3, 268, 0), (.aload_n 2, 0, 0, 0, 0), (.aload_n 0, 0, 0, 0, 0), (.iload_n 3, 0, 0, 0, 0), (.iconst 1, 0, 1, 0, 0), (.iadd, 0, 0, 0, 0), (.iaload, 1, 0, 0, 0), (.aload_n 0, 0, 0, 0, 0), (.iload_n 3, 0, 0, 0, 0), (.iconst 2, 0, 2, 0, 0), (.iadd, 0, 0, 0, 0), (.iaload, 1, 0, 0, 0), (.ifCond .eq 7, 4, 0, 0, 0), (.iconst 1, 0, 1, 0, 0), (.goto 4, 5, 0, 0, 0)]
def q176_4 : List zI := [(.iconst 0, 0, 0, 0, 0), (.nop, 5, 0, 0, 0)]
def q176_5 : List zI := [(.invokevirtual 26, 121, 3, 812, 0), (.if_icmp .eq 764, 18, 0, 0, 0), (.iconst 0, 0, 0, 0, 0), (.ireturn, 0, 0, 0, 2)]
def q176_6 : List zI := [(.iconst 0, 0, 0, 0, 0), (.nop, 7, 0, 0, 0)]
def q176_7 : List zI := [(.aload_n 0, 0, 0, 0, 0), (.iload_n 3, 0, 0, 0, 0), (.iconst 3, 0, 3, 0, 0), (.iadd, 0, 0, 0, 0), (.iaload, 1, 0, 0, 0), (.invokevirtual 94, 94, 4, 545, 0), (.aload_n 2, 0, 0, 0, 0), (.aload_n 0, 0, 0, 0, 0), (.iload_n 3, 0, 0, 0, 0), (.iconst 1, 0, 1, 0, 0), (.iadd, 0, 0, 0, 0), (.iaload, 1, 0, 0, 0), (.aload_n 0, 0, 0, 0, 0), (.iload_n 3, 0, 0, 0, 0), (.iconst 2, 0, 2, 0, 0), (.iadd, 0, 0, 0, 0), (.iaload, 1, 0, 0, 0), (.ifCond .eq 7, 8, 0, 0, 0), (.iconst 1, 0, 1, 0, 0), (.goto 4, 9, 0, 0, 0)]
def q176_8 : List zI := [(.iconst 0, 0, 0, 0, 0), (.nop, 9, 0, 0, 0)]
def q176_9 : List zI := [(.aload_n 0, 0, 0, 0, 0), (.iload_n 3, 0, 0, 0, 0), (.iconst 3, 0, 3, 0, 0), (.iadd, 0, 0, 0, 0), (.iaload, 1, 0, 0, 0), (.invokevirtual 98, 162, 4, 961, 0), (.if_icmp .eq 236, 18, 0, 0, 0), (.iconst 0, 0, 0, 0, 0), (.ireturn, 0, 0, 0, 2)]
def q176_10 : List zI := [(.iconst 0, 0, 0, 0, 0), (.nop, 11, 0, 0, 0)]
def q176_11 : List zI := [(.aload_n 0, 0, 0, 0, 0), (.iload_n 3, 0, 0, 0, 0), (.iconst 2, 0, 2, 0, 0), (.iadd, 0, 0, 0, 0), (.iaload, 1, 0, 0, 0), (.invokevirtual 99, 95, 3, 628, 0), (.aload_n 2, 0, 0, 0, 0), (.aload_n 0, 0, 0, 0, 0), (.iload_n 3, 0, 0, 0, 0), (.iconst 1, 0, 1, 0, 0), (.iadd, 0, 0, 0, 0), (.iaload, 1, 0, 0, 0), (.ifCond .eq 7, 12, 0, 0, 0), (.iconst 1, 0, 1, 0, 0), (.goto 4, 13, 0, 0, 0)]
def q176_12 : List zI := [(.iconst 0, 0, 0, 0, 0), (.nop, 13, 0, 0, 0)]
def q176_13 : List zI := [(.aload_n 0, 0, 0, 0, 0), (.iload_n 3, 0, 0, 0, 0), (.iconst 2, 0, 2, 0, 0), (.iadd, 0, 0, 0, 0), (.iaload, 1, 0, 0, 0), (.invokevirtual 103, 163, 3, 990, 0), (.if_icmp .eq 187, 18, 0, 0, 0), (.iconst 0, 0, 0, 0, 0), (.ireturn, 0, 0, 0, 2)]
def q176_14 : List zI := [(.iconst 0, 0, 0, 0, 0), (.nop, 15, 0, 0, 0)]
def q176_15 : List zI := [(.aload_n 0, 0, 0, 0, 0), (.iload_n 3, 0, 0, 0, 0), (.iconst 2, 0, 2, 0, 0), (.iadd, 0, 0, 0, 0), (.iaload, 1, 0, 0, 0), (.invokevirtual 104, 96, 3, 640, 0), (.aload_n 2, 0, 0, 0, 0), (.aload_n 0, 0, 0, 0, 0), (.iload_n 3, 0, 0, 0, 0), (.iconst 1, 0, 1, 0, 0), (.iadd, 0, 0, 0, 0), (.iaload, 1, 0, 0, 0), (.ifCond .eq 7, 16, 0, 0, 0), (.iconst 1, 0, 1, 0, 0), (.goto 4, 17, 0, 0, 0)]
def q176_16 : List zI := [(.iconst 0, 0, 0, 0, 0), (.nop, 17, 0, 0, 0)]
def q176_17 : List zI := [(.aload_n 0, 0, 0, 0, 0), (.iload_n 3, 0, 0, 0, 0), (.iconst 2, 0, 2, 0, 0), (.iadd, 0, 0, 0, 0), (.iaload, 1, 0, 0, 0), (.invokevirtual 107, 164, 3, 994, 0), (.if_icmp .eq 138, 18, 0, 0, 0), (.iconst 0, 0, 0, 0, 0), (.ireturn, 0, 0, 0, 2)]
def q176_18 : List zI := [(.iinc 3 5, 0, 0, 0, 0), (.goto (-1003), 1, 0, 0, 1)]
def q176_19 : List zI := [(.iconst 1, 0, 1, 0, 0), (.ireturn, 0, 0, 0, 2)]
def q176_20 : List zI := [(.aload_n 1, 0, 0, 0, 0), (.aload_n 0, 0, 0, 0, 0), (.iload_n 3, 0, 0, 0, 0), (.iconst 1, 0, 1, 0, 0), (.iadd, 0, 0, 0, 0), (.iaload, 1, 0, 0, 0), (.invokevirtual 13, 75, 2, 252, 0), (.aload_n 2, 0, 0, 0, 0), (.aload_n 0, 0, 0, 0, 0), (.iload_n 3, 0, 0, 0, 0), (.iconst 1, 0, 1, 0, 0), (.iadd, 0, 0, 0, 0), (.iaload, 1, 0, 0, 0), (.invokevirtual 17, 117, 2, 801, 0), (.if_icmp .eq 836, 18, 0, 0, 0), (.iconst 0, 0, 0, 0, 0), (.ireturn, 0, 0, 0, 2)]
def q176_21 : List zI := [(.aload_n 1, 0, 0, 0, 0), (.aload_n 0, 0, 0, 0, 0), (.iload_n 3, 0, 0, 0, 0), (.iconst 1, 0, 1, 0, 0), (.iadd, 0, 0, 0, 0), (.iaload, 1, 0, 0, 0), (.invokevirtual 18, 76, 2, 260, 0), (.aload_n 2, 0, 0, 0, 0), (.aload_n 0, 0, 0, 0, 0), (.iload_n 3, 0, 0, 0, 0), (.iconst 1, 0, 1, 0, 0), (.iadd, 0, 0, 0, 0), (.iaload, 1, 0, 0, 0), (.invokevirtual 21, 118, 2, 808, 0), (.if_icmp .eq 813, 18, 0, 0, 0), (.iconst 0, 0, 0, 0, 0), (.ireturn, 0, 0, 0, 2)]
def q176_22 : List zI := [(.aload_n 1, 0, 0, 0, 0), (.aload_n 0, 0, 0, 0, 0), (.iload_n 3, 0, 0, 0, 0), (.iconst 1, 0, 1, 0, 0), (.iadd, 0, 0, 0, 0), (.iaload, 1, 0, 0, 0), (.aload_n 0, 0, 0, 0, 0), (.iload_n 3, 0, 0, 0, 0), (.iconst 2, 0, 2, 0, 0), (.iadd, 0, 0, 0, 0), (.iaload, 1, 0, 0, 0), (.ifCond .eq 7, 2, 0, 0, 0), (.iconst 1, 0, 1, 0, 0), (.goto 4, 3, 0, 0, 0)]
def q176_23 : List zI := [(.aload_n 1, 0, 0, 0, 0), (.invokevirtual 27, 78, 1, 288, 0), (.aload_n 2, 0, 0, 0, 0), (.invokevirtual 31, 122, 1, 825, 0), (.lcmp, 0, 0, 0, 0), (.ifCond .eq 750, 18, 0, 0, 0), (.iconst 0, 0, 0, 0, 0), (.ireturn, 0, 0, 0, 2)]
def q176_24 : List zI := [(.aload_n 1, 0, 0, 0, 0), (.aload_n 0, 0, 0, 0, 0), (.iload_n 3, 0, 0, 0, 0), (.iconst 1, 0, 1, 0, 0), (.iadd, 0, 0, 0, 0), (.iaload, 1, 0, 0, 0), (.invokevirtual 32, 79, 2, 296, 0), (.aload_n 2, 0, 0, 0, 0), (.aload_n 0, 0, 0, 0, 0), (.iload_n 3, 0, 0, 0, 0), (.iconst 1, 0, 1, 0, 0), (.iadd, 0, 0, 0, 0), (.iaload, 1, 0, 0, 0), (.invokevirtual 35, 124, 2, 829, 0), (.if_icmp .eq 727, 18, 0, 0, 0), (.iconst 0, 0, 0, 0, 0), (.ireturn, 0, 0, 0, 2)]
def q176_25 : List zI := [(.aload_n 1, 0, 0, 0, 0), (.aload_n 0, 0, 0, 0, 0), (.iload_n 3, 0, 0, 0, 0), (.iconst 1, 0, 1, 0, 0), (.iadd, 0, 0, 0, 0), (.iaload, 1, 0, 0, 0), (.aload_n 0, 0, 0, 0, 0), (.iload_n 3, 0, 0, 0, 0), (.iconst 2, 0, 2, 0, 0), (.iadd, 0, 0, 0, 0), (.iaload, 1, 0, 0, 0), (.invokevirtual 36, 80, 3, 311, 0), (.aload_n 2, 0, 0, 0, 0), (.aload_n 0, 0, 0, 0, 0), (.iload_n 3, 0, 0, 0, 0), (.iconst 1, 0, 1, 0, 0), (.iadd, 0, 0, 0, 0), (.iaload, 1, 0, 0, 0), (.aload_n 0, 0, 0, 0, 0), (.iload_n 3, 0, 0, 0, 0), (.iconst 2, 0, 2, 0, 0), (.iadd, 0, 0, 0, 0), (.iaload, 1, 0, 0, 0), (.invokevirtual 40, 125, 3, 836, 0), (.if_icmp .eq 694, 18, 0, 0, 0), (.iconst 0, 0, 0, 0, 0), (.ireturn, 0, 0, 0, 2)]
def q176_26 : List zI := [(.aload_n 1, 0, 0, 0, 0), (.aload_n 0, 0, 0, 0, 0), (.iload_n 3, 0, 0, 0, 0), (.iconst 1, 0, 1, 0, 0), (.iadd, 0, 0, 0, 0), (.iaload, 1, 0, 0, 0), (.aload_n 0, 0, 0, 0, 0), (.iload_n 3, 0, 0, 0, 0), (.iconst 2, 0, 2, 0, 0), (.iadd, 0, 0, 0, 0), (.iaload, 1, 0, 0, 0), (.invokevirtual 41, 81, 3, 327, 0), (.aload_n 2, 0, 0, 0, 0), (.aload_n 0, 0, 0, 0, 0), (.iload_n 3, 0, 0, 0, 0), (.iconst 1, 0, 1, 0, 0), (.iadd, 0, 0, 0, 0), (.iaload, 1, 0, 0, 0), (.aload_n 0, 0, 0, 0, 0), (.iload_n 3, 0, 0, 0, 0), (.iconst 2, 0, 2, 0, 0), (.iadd, 0, 0, 0, 0), (.iaload, 1, 0, 0, 0), (.invokevirtual 44, 126, 3, 844, 0), (.if_icmp .eq 661, 18, 0, 0, 0), (.iconst 0, 0, 0, 0, 0), (.ireturn, 0, 0, 0, 2)]
def q176_27 : List zI := [(.aload_n 1, 0, 0, 0, 0), (.aload_n 0, 0, 0, 0, 0), (.iload_n 3, 0, 0, 0, 0), (.iconst 1, 0, 1, 0, 0), (.iadd, 0, 0, 0, 0), (.iaload, 1, 0, 0, 0), (.aload_n 0, 0, 0, 0, 0), (.iload_n 3, 0, 0, 0, 0), (.iconst 2, 0, 2, 0, 0), (.iadd, 0, 0, 0, 0), (.iaload, 1, 0, 0, 0), (.invokevirtual 45, 82, 3, 335, 0), (.aload_n 2, 0, 0, 0, 0), (.aload_n 0, 0, 0, 0, 0), (.iload_n 3, 0, 0, 0, 0), (.iconst 1, 0, 1, 0, 0), (.iadd, 0, 0, 0, 0), (.iaload, 1, 0, 0, 0), (.aload_n 0, 0, 0, 0, 0), (.iload_n 3, 0, 0, 0, 0), (.iconst 2, 0, 2, 0, 0), (.iadd, 0, 0, 0, 0), (.iaload, 1, 0, 0, 0), (.invokevirtual 48, 127, 3, 848, 0), (.if_icmp .eq 628, 18, 0, 0, 0), (.iconst 0, 0, 0, 0, 0), (.ireturn, 0, 0, 0, 2)]
def q176_28 : List zI := [(.aload_n 1, 0, 0, 0, 0), (.aload_n 0, 0, 0, 0, 0), (.iload_n 3, 0, 0, 0, 0), (.iconst 1, 0, 1, 0, 0), (.iadd, 0, 0, 0, 0), (.iaload, 1, 0, 0, 0), (.invokevirtual 49, 83, 2, 343, 0), (.aload_n 2, 0, 0, 0, 0), (.aload_n 0, 0, 0, 0, 0), (.iload_n 3, 0, 0, 0, 0), (.iconst 1, 0, 1, 0, 0), (.iadd, 0, 0, 0, 0), (.iaload, 1, 0, 0, 0), (.invokevirtual 52, 128, 2, 852, 0), (.if_icmp .eq 605, 18, 0, 0, 0), (.iconst 0, 0, 0, 0, 0), (.ireturn, 0, 0, 0, 2)]
def q176_29 : List zI := [(.aload_n 1, 0, 0, 0, 0), (.aload_n 0, 0, 0, 0, 0), (.iload_n 3, 0, 0, 0, 0), (.iconst 1, 0, 1, 0, 0), (.iadd, 0, 0, 0, 0), (.iaload, 1, 0, 0, 0), (.aload_n 0, 0, 0, 0, 0), (.iload_n 3, 0, 0, 0, 0), (.iconst 2, 0, 2, 0, 0), (.iadd, 0, 0, 0, 0), (.iaload, 1, 0, 0, 0), (.aload_n 0, 0, 0, 0, 0), (.iload_n 3, 0, 0, 0, 0), (.iconst 3, 0, 3, 0, 0), (.iadd, 0, 0, 0, 0), (.iaload, 1, 0, 0, 0), (.aload_n 0, 0, 0, 0, 0), (.iload_n 3, 0, 0, 0, 0), (.iconst 4, 0, 4, 0, 0), (.iadd, 0, 0, 0, 0), (.iaload, 1, 0, 0, 0), (.invokevirtual 53, 84, 5, 351, 0), (.aload_n 2, 0, 0, 0, 0), (.aload_n 0, 0, 0, 0, 0), (.iload_n 3, 0, 0, 0, 0), (.iconst 1, 0, 1, 0, 0), (.iadd, 0, 0, 0, 0), (.iaload, 1, 0, 0, 0), (.aload_n 0, 0, 0, 0, 0), (.iload_n 3, 0, 0, 0, 0), (.iconst 2, 0, 2, 0, 0), (.iadd, 0, 0, 0, 0), (.iaload, 1, 0, 0, 0), (.aload_n 0, 0, 0, 0, 0), (.iload_n 3, 0, 0, 0, 0), (.iconst 3, 0, 3, 0, 0), (.iadd, 0, 0, 0, 0), (.iaload, 1, 0, 0, 0), (.aload_n 0, 0, 0, 0, 0), (.iload_n 3, 0, 0, 0, 0), (.iconst 4, 0, 4, 0, 0), (.iadd, 0, 0, 0, 0), (.iaload, 1, 0, 0, 0), (.invokevirtual 57, 129, 5, 856, 0), (.if_icmp .eq 552, 18, 0, 0, 0), (.iconst 0, 0, 0, 0, 0), (.ireturn, 0, 0, 0, 2)]
def q176_30 : List zI := [(.aload_n 1, 0, 0, 0, 0), (.aload_n 0, 0, 0, 0, 0), (.iload_n 3, 0, 0, 0, 0), (.iconst 1, 0, 1, 0, 0), (.iadd, 0, 0, 0, 0), (.iaload, 1, 0, 0, 0), (.invokevirtual 58, 85, 2, 355, 0), (.aload_n 2, 0, 0, 0, 0), (.aload_n 0, 0, 0, 0, 0), (.iload_n 3, 0, 0, 0, 0), (.iconst 1, 0, 1, 0, 0), (.iadd, 0, 0, 0, 0), (.iaload, 1, 0, 0, 0), (.invokevirtual 61, 141, 2, 860, 0), (.if_icmp .eq 529, 18, 0, 0, 0), (.iconst 0, 0, 0, 0, 0), (.ireturn, 0, 0, 0, 2)]
def q176_31 : List zI := [(.aload_n 1, 0, 0, 0, 0), (.aload_n 0, 0, 0, 0, 0), (.iload_n 3, 0, 0, 0, 0), (.iconst 1, 0, 1, 0, 0), (.iadd, 0, 0, 0, 0), (.iaload, 1, 0, 0, 0), (.aload_n 0, 0, 0, 0, 0), (.iload_n 3, 0, 0, 0, 0), (.iconst 2, 0, 2, 0, 0), (.iadd, 0, 0, 0, 0), (.iaload, 1, 0, 0, 0), (.invokevirtual 62, 86, 3, 416, 0), (.aload_n 2, 0, 0, 0, 0), (.aload_n 0, 0, 0, 0, 0), (.iload_n 3, 0, 0, 0, 0), (.iconst 1, 0, 1, 0, 0), (.iadd, 0, 0, 0, 0), (.iaload, 1, 0, 0, 0), (.aload_n 0, 0, 0, 0, 0), (.iload_n 3, 0, 0, 0, 0), (.iconst 2, 0, 2, 0, 0), (.iadd, 0, 0, 0, 0), (.iaload, 1, 0, 0, 0), (.invokevirtual 65, 142, 3, 906, 0), (.if_icmp .eq 496, 18, 0, 0, 0), (.iconst 0, 0, 0, 0, 0), (.ireturn, 0, 0, 0, 2)]
def q176_32 : List zI := [(.aload_n 1, 0, 0, 0, 0), (.aload_n 0, 0, 0, 0, 0), (.iload_n 3, 0, 0, 0, 0), (.iconst 1, 0, 1, 0, 0), (.iadd, 0, 0, 0, 0), (.iaload, 1, 0, 0, 0), (.aload_n 0, 0, 0, 0, 0), (.iload_n 3, 0, 0, 0, 0), (.iconst 2, 0, 2, 0, 0), (.iadd, 0, 0, 0, 0), (.iaload, 1, 0, 0, 0), (.invokevirtual 66, 87, 3, 425, 0), (.aload_n 2, 0, 0, 0, 0), (.aload_n 0, 0, 0, 0, 0), (.iload_n 3, 0, 0, 0, 0), (.iconst 1, 0, 1, 0, 0), (.iadd, 0, 0, 0, 0), (.iaload, 1, 0, 0, 0), (.aload_n 0, 0, 0, 0, 0), (.iload_n 3, 0, 0, 0, 0), (.iconst 2, 0, 2, 0, 0), (.iadd, 0, 0, 0, 0), (.iaload, 1, 0, 0, 0), (.invokevirtual 69, 143, 3, 910, 0), (.if_icmp .eq 463, 18, 0, 0, 0), (.iconst 0, 0, 0, 0, 0), (.ireturn, 0, 0, 0, 2)]
def q176_33 : List zI := [(.aload_n 1, 0, 0, 0, 0), (.aload_n 0, 0, 0, 0, 0), (.iload_n 3, 0, 0, 0, 0), (.iconst 1, 0, 1, 0, 0), (.iadd, 0, 0, 0, 0), (.iaload, 1, 0, 0, 0), (.invokevirtual 70, 88, 2, 434, 0), (.aload_n 2, 0, 0, 0, 0), (.aload_n 0, 0, 0, 0, 0), (.iload_n 3, 0, 0, 0, 0), (.iconst 1, 0, 1, 0, 0), (.iadd, 0, 0, 0, 0), (.iaload, 1, 0, 0, 0), (.invokevirtual 73, 144, 2, 914, 0), (.if_icmp .eq 440, 18, 0, 0, 0), (.iconst 0, 0, 0, 0, 0), (.ireturn, 0, 0, 0, 2)]
def q176_34 : List zI := [(.aload_n 1, 0, 0, 0, 0), (.aload_n 0, 0, 0, 0, 0), (.iload_n 3, 0, 0, 0, 0), (.iconst 1, 0, 1, 0, 0), (.iadd, 0, 0, 0, 0), (.iaload, 1, 0, 0, 0), (.aload_n 0, 0, 0, 0, 0), (.iload_n 3, 0, 0, 0, 0), (.iconst 2, 0, 2, 0, 0), (.iadd, 0, 0, 0, 0), (.iaload, 1, 0, 0, 0), (.invokevirtual 74, 89, 3, 441, 0), (.aload_n 2, 0, 0, 0, 0), (.aload_n 0, 0, 0, 0, 0), (.iload_n 3, 0, 0, 0, 0), (.iconst 1, 0, 1, 0, 0), (.iadd, 0, 0, 0, 0), (.iaload, 1, 0, 0, 0), (.aload_n 0, 0, 0, 0, 0), (.iload_n 3, 0, 0, 0, 0), (.iconst 2, 0, 2, 0, 0), (.iadd, 0, 0, 0, 0), (.iaload, 1, 0, 0, 0), (.invokevirtual 77, 147, 3, 918, 0), (.if_icmp .eq 407, 18, 0, 0, 0), (.iconst 0, 0, 0, 0, 0), (.ireturn, 0, 0, 0, 2)]
def q176_35 : List zI := [(.aload_n 1, 0, 0, 0, 0), (.aload_n 0, 0, 0, 0, 0), (.iload_n 3, 0, 0, 0, 0), (.iconst 1, 0, 1, 0, 0), (.iadd, 0, 0, 0, 0), (.iaload, 1, 0, 0, 0), (.invokevirtual 78, 90, 2, 463, 0), (.aload_n 2, 0, 0, 0, 0), (.aload_n 0, 0, 0, 0, 0), (.iload_n 3, 0, 0, 0, 0), (.iconst 1, 0, 1, 0, 0), (.iadd, 0, 0, 0, 0), (.iaload, 1, 0, 0, 0), (.invokevirtual 81, 148, 2, 930, 0), (.if_icmp .eq 384, 18, 0, 0, 0), (.iconst 0, 0, 0, 0, 0), (.ireturn, 0, 0, 0, 2)]
def q176_36 : List zI := [(.aload_n 1, 0, 0, 0, 0), (.aload_n 0, 0, 0, 0, 0), (.iload_n 3, 0, 0, 0, 0), (.iconst 1, 0, 1, 0, 0), (.iadd, 0, 0, 0, 0), (.iaload, 1, 0, 0, 0), (.aload_n 0, 0, 0, 0, 0), (.iload_n 3, 0, 0, 0, 0), (.iconst 2, 0, 2, 0, 0), (.iadd, 0, 0, 0, 0), (.iaload, 1, 0, 0, 0), (.invokevirtual 82, 91, 3, 474, 0), (.aload_n 2, 0, 0, 0, 0), (.aload_n 0, 0, 0, 0, 0), (.iload_n 3, 0, 0, 0, 0), (.iconst 1, 0, 1, 0, 0), (.iadd, 0, 0, 0, 0), (.iaload, 1, 0, 0, 0), (.aload_n 0, 0, 0, 0, 0), (.iload_n 3, 0, 0, 0, 0), (.iconst 2, 0, 2, 0, 0), (.iadd, 0, 0, 0, 0), (.iaload, 1, 0, 0, 0), (.invokevirtual 85, 151, 3, 934, 0), (.if_icmp .eq 351, 18, 0, 0, 0), (.iconst 0, 0, 0, 0, 0), (.ireturn, 0, 0, 0, 2)]
def q176_37 : List zI := [(.aload_n 1, 0, 0, 0, 0), (.aload_n 0, 0, 0, 0, 0), (.iload_n 3, 0, 0, 0, 0), (.iconst 1, 0, 1, 0, 0), (.iadd, 0, 0, 0, 0), (.iaload, 1, 0, 0, 0), (.aload_n 0, 0, 0, 0, 0), (.iload_n 3, 0, 0, 0, 0), (.iconst 2, 0, 2, 0, 0), (.iadd, 0, 0, 0, 0), (.iaload, 1, 0, 0, 0), (.invokevirtual 86, 92, 3, 518, 0), (.aload_n 2, 0, 0, 0, 0), (.aload_n 0, 0, 0, 0, 0), (.iload_n 3, 0, 0, 0, 0), (.iconst 1, 0, 1, 0, 0), (.iadd, 0, 0, 0, 0), (.iaload, 1, 0, 0, 0), (.aload_n 0, 0, 0, 0, 0), (.iload_n 3, 0, 0, 0, 0), (.iconst 2, 0, 2, 0, 0), (.iadd, 0, 0, 0, 0), (.iaload, 1, 0, 0, 0), (.invokevirtual 89, 152, 3, 946, 0), (.if_icmp .eq 318, 18, 0, 0, 0), (.iconst 0, 0, 0, 0, 0), (.ireturn, 0, 0, 0, 2)]
def q176_38 : List zI := [(.aload_n 1, 0, 0, 0, 0), (.aload_n 0, 0, 0, 0, 0), (.iload_n 3, 0, 0, 0, 0), (.iconst 1, 0, 1, 0, 0), (.iadd, 0, 0, 0, 0), (.iaload, 1, 0, 0, 0), (.invokevirtual 90, 93, 2, 522, 0), (.aload_n 2, 0, 0, 0, 0), (.aload_n 0, 0, 0, 0, 0), (.iload_n 3, 0, 0, 0, 0), (.iconst 1, 0, 1, 0, 0), (.iadd, 0, 0, 0, 0), (.iaload, 1, 0, 0, 0), (.invokevirtual 93, 155, 2, 950, 0), (.if_icmp .eq 295, 18, 0, 0, 0), (.iconst 0, 0, 0, 0, 0), (.ireturn, 0, 0, 0, 2)]
def q176_39 : List zI := [(.aload_n 1, 0, 0, 0, 0), (.aload_n 0, 0, 0, 0, 0), (.iload_n 3, 0, 0, 0, 0), (.iconst 1, 0, 1, 0, 0), (.iadd, 0, 0, 0, 0), (.iaload, 1, 0, 0, 0), (.aload_n 0, 0, 0, 0, 0), (.iload_n 3, 0, 0, 0, 0), (.iconst 2, 0, 2, 0, 0), (.iadd, 0, 0, 0, 0), (.iaload, 1, 0, 0, 0), (.ifCond .eq 7, 6, 0, 0, 0), (.iconst 1, 0, 1, 0, 0), (.goto 4, 7, 0, 0, 0)]
def q176_40 : List zI := [(.aload_n 1, 0, 0, 0, 0), (.aload_n 0, 0, 0, 0, 0), (.iload_n 3, 0, 0, 0, 0), (.iconst 1, 0, 1, 0, 0), (.iadd, 0, 0, 0, 0), (.iaload, 1, 0, 0, 0), (.ifCond .eq 7, 10, 0, 0, 0), (.iconst 1, 0, 1, 0, 0), (.goto 4, 11, 0, 0, 0)]
def q176_41 : List zI := [(.aload_n 1, 0, 0, 0, 0), (.aload_n 0, 0, 0, 0, 0), (.iload_n 3, 0, 0, 0, 0), (.iconst 1, 0, 1, 0, 0), (.iadd, 0, 0, 0, 0), (.iaload, 1, 0, 0, 0), (.ifCond .eq 7, 14, 0, 0, 0), (.iconst 1, 0, 1, 0, 0), (.goto 4, 15, 0, 0, 0)]
def q176_42 : List zI := [(.aload_n 1, 0, 0, 0, 0), (.aload_n 0, 0, 0, 0, 0), (.iload_n 3, 0, 0, 0, 0), (.iconst 1, 0, 1, 0, 0), (.iadd, 0, 0, 0, 0), (.iaload, 1, 0, 0, 0), (.aload_n 0, 0, 0, 0, 0), (.iload_n 3, 0, 0, 0, 0), (.iconst 2, 0, 2, 0, 0), (.iadd, 0, 0, 0, 0), (.iaload, 1, 0, 0, 0), (.invokevirtual 108, 97, 3, 671, 0), (.aload_n 2, 0, 0, 0, 0), (.aload_n 0, 0, 0, 0, 0), (.iload_n 3, 0, 0, 0, 0), (.iconst 1, 0, 1, 0, 0), (.iadd, 0, 0, 0, 0), (.iaload, 1, 0, 0, 0), (.aload_n 0, 0, 0, 0, 0), (.iload_n 3, 0, 0, 0, 0), (.iconst 2, 0, 2, 0, 0), (.iadd, 0, 0, 0, 0), (.iaload, 1, 0, 0, 0), (.invokevirtual 111, 165, 3, 998, 0), (.if_icmp .eq 105, 18, 0, 0, 0), (.iconst 0, 0, 0, 0, 0), (.ireturn, 0, 0, 0, 2)]
def q176_43 : List zI := [(.aload_n 1, 0, 0, 0, 0), (.invokevirtual 112, 98, 1, 685, 0), (.aload_n 2, 0, 0, 0, 0), (.invokevirtual 116, 166, 1, 1002, 0), (.if_icmp .eq 92, 18, 0, 0, 0), (.iconst 0, 0, 0, 0, 0), (.ireturn, 0, 0, 0, 2)]
def q176_44 : List zI := [(.aload_n 1, 0, 0, 0, 0), (.invokevirtual 117, 99, 1, 689, 0), (.aload_n 2, 0, 0, 0, 0), (.invokevirtual 120, 167, 1, 1006, 0), (.lcmp, 0, 0, 0, 0), (.ifCond .eq 78, 18, 0, 0, 0), (.iconst 0, 0, 0, 0, 0), (.ireturn, 0, 0, 0, 2)]
def q176_45 : List zI := [(.aload_n 1, 0, 0, 0, 0), (.aload_n 0, 0, 0, 0, 0), (.iload_n 3, 0, 0, 0, 0), (.iconst 1, 0, 1, 0, 0), (.iadd, 0, 0, 0, 0), (.iaload, 1, 0, 0, 0), (.invokevirtual 121, 100, 2, 693, 0), (.aload_n 2, 0, 0, 0, 0), (.aload_n 0, 0, 0, 0, 0), (.iload_n 3, 0, 0, 0, 0), (.iconst 1, 0, 1, 0, 0), (.iadd, 0, 0, 0, 0), (.iaload, 1, 0, 0, 0), (.invokevirtual 124, 168, 2, 1010, 0), (.if_icmp .eq 55, 18, 0, 0, 0), (.iconst 0, 0, 0, 0, 0), (.ireturn, 0, 0, 0, 2)]
def q176_46 : List zI := [(.aload_n 1, 0, 0, 0, 0), (.invokevirtual 125, 101, 1, 702, 0), (.aload_n 2, 0, 0, 0, 0), (.invokevirtual 128, 169, 1, 1014, 0), (.if_icmp .eq 42, 18, 0, 0, 0), (.iconst 0, 0, 0, 0, 0), (.ireturn, 0, 0, 0, 2)]
def q176_47 : List zI := [(.aload_n 1, 0, 0, 0, 0), (.aload_n 0, 0, 0, 0, 0), (.iload_n 3, 0, 0, 0, 0), (.iconst 1, 0, 1, 0, 0), (.iadd, 0, 0, 0, 0), (.iaload, 1, 0, 0, 0), (.invokevirtual 129, 102, 2, 706, 0), (.aload_n 2, 0, 0, 0, 0), (.aload_n 0, 0, 0, 0, 0), (.iload_n 3, 0, 0, 0, 0), (.iconst 1, 0, 1, 0, 0), (.iadd, 0, 0, 0, 0), (.iaload, 1, 0, 0, 0), (.invokevirtual 132, 170, 2, 1018, 0), (.if_icmp .eq 19, 18, 0, 0, 0), (.iconst 0, 0, 0, 0, 0), (.ireturn, 0, 0, 0, 2)]
def q176_48 : List zI := [(.aload_n 1, 0, 0, 0, 0), (.invokevirtual 133, 103, 1, 710, 0), (.aload_n 2, 0, 0, 0, 0), (.invokevirtual 136, 171, 1, 1022, 0), (.lcmp, 0, 0, 0, 0), (.ifCond .eq 5, 18, 0, 0, 0), (.iconst 0, 0, 0, 0, 0), (.ireturn, 0, 0, 0, 2)]
def q176_49 : List zI := [(.iinc 3 5, 0, 0, 0, 0), (.goto (-1003), 1, 0, 0, 1)]
def bk176 : List (List zI) := [q176_0, q176_1, q176_2, q176_3, q176_4, q176_5, q176_6, q176_7, q176_8, q176_9, q176_10, q176_11, q176_12, q176_13, q176_14, q176_15, q176_16, q176_17, q176_18, q176_19, q176_20, q176_21, q176_22, q176_23, q176_24, q176_25, q176_26, q176_27, q176_28, q176_29, q176_30, q176_31, q176_32, q176_33, q176_34, q176_35, q176_36, q176_37, q176_38, q176_39, q176_40, q176_41, q176_42, q176_43, q176_44, q176_45, q176_46, q176_47, q176_48, q176_49]
def bKl : List (List (List zI)) := [bk0, bk1, bk2, bk3, bk4, bk5, bk6, bk7, bk8, bk9, bk10, bk11, bk12, bk13, bk14, bk15, bk16, bk17, bk18, bk19, bk20, bk21, bk22, bk23, bk24, bk25, bk26, bk27, bk28, bk29, bk30, bk31, bk32, bk33, bk34, bk35, bk36, bk37, bk38, bk39, bk40, bk41, bk42, bk43, bk44, bk45, bk46, bk47, bk48, bk49, bk50, bk51, bk52, bk53, bk54, bk55, bk56, bk57, bk58, bk59, bk60, bk61, bk62, bk63, bk64, bk65, bk66, bk67, bk68, bk69, bk70, bk71, bk72, bk73, bk74, bk75, bk76, bk77, bk78, bk79, bk80, bk81, bk82, bk83, bk84, bk85, bk86, bk87, bk88, bk89, bk90, bk91, bk92, bk93, bk94, bk95, bk96, bk97, bk98, bk99, bk100, bk101, bk102, bk103, bk104, bk105, bk106, bk107, bk108, bk109, bk110, bk111, bk112, bk113, bk114, bk115, bk116, bk117, bk118, bk119, bk120, bk121, bk122, bk123, bk124, bk125, bk126, bk127, bk128, bk129, bk130, bk131, bk132, bk133, bk134, bk135, bk136, bk137, bk138, bk139, bk140, bk141, bk142, bk143, bk144, bk145, bk146, bk147, bk148, bk149, bk150, bk151, bk152, bk153, bk154, bk155, bk156, bk157, bk158, bk159, bk160, bk161, bk162, bk163, bk164, bk165, bk166, bk167, bk168, bk169, bk170, bk171, bk172, bk173, bk174, bk175, bk176]
def sTl : List (List Nat) := [[0, 20, 21], [0, 14, 15], [0], [0, 5, 26], [0], [0, 30, 43, 75, 81], [0], [0], [0], [0], [0], [0], [0, 18, 19], [0, 13, 14], [0], [0, 18, 28], [0, 39, 40], [0, 21, 22], [0, 12, 18], [0], [0], [0], [0, 14, 15], [0, 8, 10, 50], [0, 6, 34], [0, 22, 23], [0], [0, 7, 28, 39, 40, 45, 76], [0, 18, 24, 35, 64, 71, 95, 121, 138, 142, 143, 160], [0, 13, 14], [0, 10, 13], [0, 2, 22], [0, 22, 23], [0, 20], [0], [0], [0], [0], [0], [0, 39], [0, 28], [0, 30, 31], [0, 17], [0, 6, 29], [0, 13, 15, 38, 44], [0], [0, 43, 52], [0], [0, 14, 18, 19], [0, 21, 28, 29, 32, 66, 76, 79, 85], [0, 22], [0, 16, 64, 69, 84], [0, 22, 24], [0, 13, 15, 35, 88, 94, 100], [0, 18, 91, 123], [0, 22, 29], [0, 13, 15, 59, 60], [0], [0, 23, 42, 75, 81, 87], [0, 10, 25, 73, 79], [0, 4, 19], [0, 11, 54, 60], [0], [0, 19, 56, 88], [0], [0, 22, 23], [0, 4, 28], [0, 2, 21, 27], [0, 2, 22, 28, 40, 46], [0, 19, 23, 28], [0, 20, 22, 64, 70], [0, 32, 34, 36, 67, 69, 75], [0, 19, 21, 47, 53], [0, 2, 45, 51], [0, 144, 169], [0, 11, 13], [0, 10, 12], [0, 13, 28, 29], [0], [0, 9, 25, 26], [0, 17, 19, 36, 54], [0, 9, 27, 42, 59, 65], [0, 9, 19, 37, 56], [0, 9, 27], [0, 15, 17, 42, 48, 81, 87, 107, 110, 145], [0, 9, 27], [0, 9, 27, 55, 61], [0, 16, 18, 36, 63, 70], [0, 9, 27, 49], [0, 18, 20, 38, 58, 75], [0, 9, 27, 46], [0, 14, 16, 40, 46, 84, 85, 107, 113, 169, 170], [0, 9, 27, 48, 65, 71, 90, 91], [0, 9, 27, 47], [0, 19, 21, 35, 62, 116, 136, 142], [0, 10, 12, 26, 42], [0, 10, 12, 25, 37], [0, 9, 24, 27], [0], [0], [0, 32, 40, 48, 53, 64], [0], [0, 10, 14, 20], [0, 50, 85, 86, 92, 131, 137], [0, 14, 15], [0, 10, 14, 15], [0, 25], [0, 20, 34, 48, 49], [0, 4, 25, 31], [0, 12], [0, 28, 29], [0, 19, 38, 52, 58], [0, 24, 66, 80, 93, 99], [0], [0, 130, 150], [0, 14, 15], [0], [0, 12], [0, 11], [0], [0, 17, 18], [0, 10, 22, 23, 40, 52], [0], [0], [0, 9, 22, 23], [0, 16, 18, 32, 47], [0, 9, 24, 38, 68, 73], [0, 9, 19, 34, 50], [0, 9, 24], [0, 15, 17, 36, 42, 66, 72, 89, 101, 143], [0, 19, 73], [0, 4, 24], [0], [0, 9, 10], [0, 19, 32, 34, 36, 62, 68], [0, 2, 20, 26], [0, 11, 12], [0, 16, 22, 41, 42, 45, 87, 88, 95, 97, 109, 155, 156, 163, 169], [0, 4, 73, 74, 82], [0, 11, 22, 33, 34], [0, 9, 24], [0, 14, 18], [0, 12, 26, 55, 56, 64, 78, 83], [0, 16, 18, 30, 46, 55, 61], [0, 14, 28, 33], [0, 2, 19, 25], [0, 5, 33, 34, 42], [0, 15, 17, 29, 42, 63, 75], [0, 12, 34, 45, 51, 59, 96, 97, 106], [0, 3, 25, 31, 67, 76, 101, 121, 124, 160, 190, 193, 222], [0, 2, 18, 29, 30, 42, 48, 53, 59], [0, 14, 16, 34, 40, 60, 61, 67, 96, 131, 132, 142, 143, 146, 152, 163, 164, 180, 181, 186, 221, 222, 230, 239, 240], [0, 12, 29, 40, 41, 67, 72], [0, 5, 31], [0, 7, 34, 40, 47, 68, 107, 153], [0, 12, 25, 30, 57, 60, 84, 90, 98, 113, 166, 167, 175, 186, 187, 196, 205], [0, 20, 24, 79, 83, 84, 91], [0, 4, 37, 38, 45], [0, 11, 76, 98, 102, 113, 124, 125, 140], [0, 21, 47], [0, 12, 28, 65, 74, 75, 80, 92, 107, 115, 157, 163, 165, 196], [0, 39, 40, 59, 69, 89, 113, 137, 177, 199, 219, 237, 238, 273, 292, 302, 305], [0, 18, 20, 31, 55, 89, 101, 105], [0, 12, 23, 43], [0, 12, 24, 49, 65, 97], [0, 9, 26, 38, 74], [0], [0], [0, 44, 64, 65, 73, 77, 96, 97, 105, 32, 37, 42, 75, 107], [0], [0, 18, 19], [0, 31, 55, 61, 67, 104, 110], [0], [0], [0, 9, 10], [0, 9, 10], [0, 18, 228, 229, 250, 251, 746, 747, 773, 774, 800, 801, 822, 823, 849, 850, 871, 872, 1018, 1024, 164, 187, 210, 259, 273, 296, 329, 362, 395, 418, 471, 494, 527, 560, 583, 616, 639, 672, 705, 728, 787, 836, 885, 918, 931, 945, 968, 981, 1004, 1018]]
def blk (y t : Nat) : List zI := (bKl.getD y []).getD t []
def zst (y t : Nat) : Nat := (sTl.getD y []).getD t 999999
theorem b0_0 : blk 0 0 = q0_0 := rfl
theorem b0_1 : blk 0 1 = q0_1 := rfl
theorem b0_2 : blk 0 2 = q0_2 := rfl
theorem b1_0 : blk 1 0 = q1_0 := rfl
theorem b1_1 : blk 1 1 = q1_1 := rfl
theorem b1_2 : blk 1 2 = q1_2 := rfl
theorem b2_0 : blk 2 0 = q2_0 := rfl
theorem b3_0 : blk 3 0 = q3_0 := rfl
theorem b3_1 : blk 3 1 = q3_1 := rfl
theorem b3_2 : blk 3 2 = q3_2 := rfl
theorem b4_0 : blk 4 0 = q4_0 := rfl
theorem b5_0 : blk 5 0 = q5_0 := rfl
theorem b5_1 : blk 5 1 = q5_1 := rfl
theorem b5_2 : blk 5 2 = q5_2 := rfl
theorem b5_3 : blk 5 3 = q5_3 := rfl
theorem b5_4 : blk 5 4 = q5_4 := rfl
theorem b6_0 : blk 6 0 = q6_0 := rfl
theorem b7_0 : blk 7 0 = q7_0 := rfl
theorem b8_0 : blk 8 0 = q8_0 := rfl
theorem b9_0 : blk 9 0 = q9_0 := rfl
theorem b10_0 : blk 10 0 = q10_0 := rfl
theorem b11_0 : blk 11 0 = q11_0 := rfl
theorem b12_0 : blk 12 0 = q12_0 := rfl
theorem b12_1 : blk 12 1 = q12_1 := rfl
theorem b12_2 : blk 12 2 = q12_2 := rfl
theorem b13_0 : blk 13 0 = q13_0 := rfl
theorem b13_1 : blk 13 1 = q13_1 := rfl
theorem b13_2 : blk 13 2 = q13_2 := rfl
theorem b14_0 : blk 14 0 = q14_0 := rfl
theorem b15_0 : blk 15 0 = q15_0 := rfl
theorem b15_1 : blk 15 1 = q15_1 := rfl
theorem b15_2 : blk 15 2 = q15_2 := rfl
theorem b16_0 : blk 16 0 = q16_0 := rfl
theorem b16_1 : blk 16 1 = q16_1 := rfl
theorem b16_2 : blk 16 2 = q16_2 := rfl
theorem b17_0 : blk 17 0 = q17_0 := rfl
theorem b17_1 : blk 17 1 = q17_1 := rfl
theorem b17_2 : blk 17 2 = q17_2 := rfl
theorem b18_0 : blk 18 0 = q18_0 := rfl
theorem b18_1 : blk 18 1 = q18_1 := rfl
theorem b18_2 : blk 18 2 = q18_2 := rfl
theorem b19_0 : blk 19 0 = q19_0 := rfl
theorem b20_0 : blk 20 0 = q20_0 := rfl
theorem b21_0 : blk 21 0 = q21_0 := rfl
theorem b22_0 : blk 22 0 = q22_0 := rfl
theorem b22_1 : blk 22 1 = q22_1 := rfl
theorem b22_2 : blk 22 2 = q22_2 := rfl
theorem b23_0 : blk 23 0 = q23_0 := rfl
theorem b23_1 : blk 23 1 = q23_1 := rfl
theorem b23_2 : blk 23 2 = q23_2 := rfl
theorem b23_3 : blk 23 3 = q23_3 := rfl
theorem b24_0 : blk 24 0 = q24_0 := rfl
theorem b24_1 : blk 24 1 = q24_1 := rfl
theorem b24_2 : blk 24 2 = q24_2 := rfl
theorem b25_0 : blk 25 0 = q25_0 := rfl
theorem b25_1 : blk 25 1 = q25_1 := rfl
theorem b25_2 : blk 25 2 = q25_2 := rfl
theorem b26_0 : blk 26 0 = q26_0 := rfl
theorem b27_0 : blk 27 0 = q27_0 := rfl
theorem b27_1 : blk 27 1 = q27_1 := rfl
theorem b27_2 : blk 27 2 = q27_2 := rfl
theorem b27_3 : blk 27 3 = q27_3 := rfl
theorem b27_4 : blk 27 4 = q27_4 := rfl
theorem b27_5 : blk 27 5 = q27_5 := rfl
theorem b27_6 : blk 27 6 = q27_6 := rfl
theorem b28_0 : blk 28 0 = q28_0 := rfl
theorem b28_1 : blk 28 1 = q28_1 := rfl
theorem b28_2 : blk 28 2 = q28_2 := rfl
theorem b28_3 : blk 28 3 = q28_3 := rfl
theorem b28_4 : blk 28 4 = q28_4 := rfl
theorem b28_5 : blk 28 5 = q28_5 := rfl
theorem b28_6 : blk 28 6 = q28_6 := rfl
theorem b28_7 : blk 28 7 = q28_7 := rfl
theorem b28_8 : blk 28 8 = q28_8 := rfl
theorem b28_9 : blk 28 9 = q28_9 := rfl
theorem b28_10 : blk 28 10 = q28_10 := rfl
theorem b28_11 : blk 28 11 = q28_11 := rfl
theorem b29_0 : blk 29 0 = q29_0 := rfl
theorem b29_1 : blk 29 1 = q29_1 := rfl
theorem b29_2 : blk 29 2 = q29_2 := rfl
theorem b30_0 : blk 30 0 = q30_0 := rfl
theorem b30_1 : blk 30 1 = q30_1 := rfl
theorem b30_2 : blk 30 2 = q30_2 := rfl
theorem b31_0 : blk 31 0 = q31_0 := rfl
theorem b31_1 : blk 31 1 = q31_1 := rfl
theorem b31_2 : blk 31 2 = q31_2 := rfl
theorem b32_0 : blk 32 0 = q32_0 := rfl
theorem b32_1 : blk 32 1 = q32_1 := rfl
theorem b32_2 : blk 32 2 = q32_2 := rfl
theorem b33_0 : blk 33 0 = q33_0 := rfl
theorem b33_1 : blk 33 1 = q33_1 := rfl
theorem b34_0 : blk 34 0 = q34_0 := rfl
theorem b35_0 : blk 35 0 = q35_0 := rfl
theorem b36_0 : blk 36 0 = q36_0 := rfl
theorem b37_0 : blk 37 0 = q37_0 := rfl
theorem b38_0 : blk 38 0 = q38_0 := rfl
theorem b39_0 : blk 39 0 = q39_0 := rfl
theorem b39_1 : blk 39 1 = q39_1 := rfl
theorem b40_0 : blk 40 0 = q40_0 := rfl
theorem b40_1 : blk 40 1 = q40_1 := rfl
theorem b41_0 : blk 41 0 = q41_0 := rfl
theorem b41_1 : blk 41 1 = q41_1 := rfl
theorem b41_2 : blk 41 2 = q41_2 := rfl
theorem b42_0 : blk 42 0 = q42_0 := rfl
theorem b42_1 : blk 42 1 = q42_1 := rfl
theorem b43_0 : blk 43 0 = q43_0 := rfl
theorem b43_1 : blk 43 1 = q43_1 := rfl
theorem b43_2 : blk 43 2 = q43_2 := rfl
theorem b44_0 : blk 44 0 = q44_0 := rfl
theorem b44_1 : blk 44 1 = q44_1 := rfl
theorem b44_2 : blk 44 2 = q44_2 := rfl
theorem b44_3 : blk 44 3 = q44_3 := rfl
theorem b44_4 : blk 44 4 = q44_4 := rfl
theorem b45_0 : blk 45 0 = q45_0 := rfl
theorem b46_0 : blk 46 0 = q46_0 := rfl
theorem b46_1 : blk 46 1 = q46_1 := rfl
theorem b46_2 : blk 46 2 = q46_2 := rfl
theorem b47_0 : blk 47 0 = q47_0 := rfl
theorem b48_0 : blk 48 0 = q48_0 := rfl
theorem b48_1 : blk 48 1 = q48_1 := rfl
theorem b48_2 : blk 48 2 = q48_2 := rfl
theorem b48_3 : blk 48 3 = q48_3 := rfl
theorem b49_0 : blk 49 0 = q49_0 := rfl
theorem b49_1 : blk 49 1 = q49_1 := rfl
theorem b49_2 : blk 49 2 = q49_2 := rfl
theorem b49_3 : blk 49 3 = q49_3 := rfl
theorem b49_4 : blk 49 4 = q49_4 := rfl
theorem b49_5 : blk 49 5 = q49_5 := rfl
theorem b49_6 : blk 49 6 = q49_6 := rfl
theorem b49_7 : blk 49 7 = q49_7 := rfl
theorem b49_8 : blk 49 8 = q49_8 := rfl
theorem b50_0 : blk 50 0 = q50_0 := rfl
theorem b50_1 : blk 50 1 = q50_1 := rfl
theorem b51_0 : blk 51 0 = q51_0 := rfl
theorem b51_1 : blk 51 1 = q51_1 := rfl
theorem b51_2 : blk 51 2 = q51_2 := rfl
theorem b51_3 : blk 51 3 = q51_3 := rfl
theorem b51_4 : blk 51 4 = q51_4 := rfl
theorem b52_0 : blk 52 0 = q52_0 := rfl
theorem b52_1 : blk 52 1 = q52_1 := rfl
theorem b52_2 : blk 52 2 = q52_2 := rfl
theorem b53_0 : blk 53 0 = q53_0 := rfl
theorem b53_1 : blk 53 1 = q53_1 := rfl
theorem b53_2 : blk 53 2 = q53_2 := rfl
theorem b53_3 : blk 53 3 = q53_3 := rfl
theorem b53_4 : blk 53 4 = q53_4 := rfl
theorem b53_5 : blk 53 5 = q53_5 := rfl
theorem b53_6 : blk 53 6 = q53_6 := rfl
theorem b54_0 : blk 54 0 = q54_0 := rfl
theorem b54_1 : blk 54 1 = q54_1 := rfl
theorem b54_2 : blk 54 2 = q54_2 := rfl
theorem b54_3 : blk 54 3 = q54_3 := rfl
theorem b55_0 : blk 55 0 = q55_0 := rfl
theorem b55_1 : blk 55 1 = q55_1 := rfl
theorem b55_2 : blk 55 2 = q55_2 := rfl
theorem b56_0 : blk 56 0 = q56_0 := rfl
theorem b56_1 : blk 56 1 = q56_1 := rfl
theorem b56_2 : blk 56 2 = q56_2 := rfl
theorem b56_3 : blk 56 3 = q56_3 := rfl
theorem b56_4 : blk 56 4 = q56_4 := rfl
theorem b57_0 : blk 57 0 = q57_0 := rfl
theorem b58_0 : blk 58 0 = q58_0 := rfl
theorem b58_1 : blk 58 1 = q58_1 := rfl
theorem b58_2 : blk 58 2 = q58_2 := rfl
theorem b58_3 : blk 58 3 = q58_3 := rfl
theorem b58_4 : blk 58 4 = q58_4 := rfl
theorem b58_5 : blk 58 5 = q58_5 := rfl
theorem b59_0 : blk 59 0 = q59_0 := rfl
theorem b59_1 : blk 59 1 = q59_1 := rfl
theorem b59_2 : blk 59 2 = q59_2 := rfl
theorem b59_3 : blk 59 3 = q59_3 := rfl
theorem b59_4 : blk 59 4 = q59_4 := rfl
theorem b60_0 : blk 60 0 = q60_0 := rfl
theorem b60_1 : blk 60 1 = q60_1 := rfl
theorem b60_2 : blk 60 2 = q60_2 := rfl
theorem b61_0 : blk 61 0 = q61_0 := rfl
theorem b61_1 : blk 61 1 = q61_1 := rfl
theorem b61_2 : blk 61 2 = q61_2 := rfl
theorem b61_3 : blk 61 3 = q61_3 := rfl
theorem b62_0 : blk 62 0 = q62_0 := rfl
theorem b63_0 : blk 63 0 = q63_0 := rfl
theorem b63_1 : blk 63 1 = q63_1 := rfl
theorem b63_2 : blk 63 2 = q63_2 := rfl
theorem b63_3 : blk 63 3 = q63_3 := rfl
theorem b64_0 : blk 64 0 = q64_0 := rfl
theorem b65_0 : blk 65 0 = q65_0 := rfl
theorem b65_1 : blk 65 1 = q65_1 := rfl
theorem b65_2 : blk 65 2 = q65_2 := rfl
theorem b66_0 : blk 66 0 = q66_0 := rfl
theorem b66_1 : blk 66 1 = q66_1 := rfl
theorem b66_2 : blk 66 2 = q66_2 := rfl
theorem b67_0 : blk 67 0 = q67_0 := rfl
theorem b67_1 : blk 67 1 = q67_1 := rfl
theorem b67_2 : blk 67 2 = q67_2 := rfl
theorem b67_3 : blk 67 3 = q67_3 := rfl
theorem b68_0 : blk 68 0 = q68_0 := rfl
theorem b68_1 : blk 68 1 = q68_1 := rfl
theorem b68_2 : blk 68 2 = q68_2 := rfl
theorem b68_3 : blk 68 3 = q68_3 := rfl
theorem b68_4 : blk 68 4 = q68_4 := rfl
theorem b68_5 : blk 68 5 = q68_5 := rfl
theorem b69_0 : blk 69 0 = q69_0 := rfl
theorem b69_1 : blk 69 1 = q69_1 := rfl
theorem b69_2 : blk 69 2 = q69_2 := rfl
theorem b69_3 : blk 69 3 = q69_3 := rfl
theorem b70_0 : blk 70 0 = q70_0 := rfl
theorem b70_1 : blk 70 1 = q70_1 := rfl
theorem b70_2 : blk 70 2 = q70_2 := rfl
theorem b70_3 : blk 70 3 = q70_3 := rfl
theorem b70_4 : blk 70 4 = q70_4 := rfl
theorem b71_0 : blk 71 0 = q71_0 := rfl
theorem b71_1 : blk 71 1 = q71_1 := rfl
theorem b71_2 : blk 71 2 = q71_2 := rfl
theorem b71_3 : blk 71 3 = q71_3 := rfl
theorem b71_4 : blk 71 4 = q71_4 := rfl
theorem b71_5 : blk 71 5 = q71_5 := rfl
theorem b71_6 : blk 71 6 = q71_6 := rfl
theorem b72_0 : blk 72 0 = q72_0 := rfl
theorem b72_1 : blk 72 1 = q72_1 := rfl
theorem b72_2 : blk 72 2 = q72_2 := rfl
theorem b72_3 : blk 72 3 = q72_3 := rfl
theorem b72_4 : blk 72 4 = q72_4 := rfl
theorem b73_0 : blk 73 0 = q73_0 := rfl
theorem b73_1 : blk 73 1 = q73_1 := rfl
theorem b73_2 : blk 73 2 = q73_2 := rfl
theorem b73_3 : blk 73 3 = q73_3 := rfl
theorem b74_0 : blk 74 0 = q74_0 := rfl
theorem b74_1 : blk 74 1 = q74_1 := rfl
theorem b74_2 : blk 74 2 = q74_2 := rfl
theorem b75_0 : blk 75 0 = q75_0 := rfl
theorem b75_1 : blk 75 1 = q75_1 := rfl
theorem b75_2 : blk 75 2 = q75_2 := rfl
theorem b76_0 : blk 76 0 = q76_0 := rfl
theorem b76_1 : blk 76 1 = q76_1 := rfl
theorem b76_2 : blk 76 2 = q76_2 := rfl
theorem b77_0 : blk 77 0 = q77_0 := rfl
theorem b77_1 : blk 77 1 = q77_1 := rfl
theorem b77_2 : blk 77 2 = q77_2 := rfl
theorem b77_3 : blk 77 3 = q77_3 := rfl
theorem b78_0 : blk 78 0 = q78_0 := rfl
theorem b79_0 : blk 79 0 = q79_0 := rfl
theorem b79_1 : blk 79 1 = q79_1 := rfl
theorem b79_2 : blk 79 2 = q79_2 := rfl
theorem b79_3 : blk 79 3 = q79_3 := rfl
theorem b80_0 : blk 80 0 = q80_0 := rfl
theorem b80_1 : blk 80 1 = q80_1 := rfl
theorem b80_2 : blk 80 2 = q80_2 := rfl
theorem b80_3 : blk 80 3 = q80_3 := rfl
theorem b80_4 : blk 80 4 = q80_4 := rfl
theorem b81_0 : blk 81 0 = q81_0 := rfl
theorem b81_1 : blk 81 1 = q81_1 := rfl
theorem b81_2 : blk 81 2 = q81_2 := rfl
theorem b81_3 : blk 81 3 = q81_3 := rfl
theorem b81_4 : blk 81 4 = q81_4 := rfl
theorem b81_5 : blk 81 5 = q81_5 := rfl
theorem b82_0 : blk 82 0 = q82_0 := rfl
theorem b82_1 : blk 82 1 = q82_1 := rfl
theorem b82_2 : blk 82 2 = q82_2 := rfl
theorem b82_3 : blk 82 3 = q82_3 := rfl
theorem b82_4 : blk 82 4 = q82_4 := rfl
theorem b83_0 : blk 83 0 = q83_0 := rfl
theorem b83_1 : blk 83 1 = q83_1 := rfl
theorem b83_2 : blk 83 2 = q83_2 := rfl
theorem b84_0 : blk 84 0 = q84_0 := rfl
theorem b84_1 : blk 84 1 = q84_1 := rfl
theorem b84_2 : blk 84 2 = q84_2 := rfl
theorem b84_3 : blk 84 3 = q84_3 := rfl
theorem b84_4 : blk 84 4 = q84_4 := rfl
theorem b84_5 : blk 84 5 = q84_5 := rfl
theorem b84_6 : blk 84 6 = q84_6 := rfl
theorem b84_7 : blk 84 7 = q84_7 := rfl
theorem b84_8 : blk 84 8 = q84_8 := rfl
theorem b84_9 : blk 84 9 = q84_9 := rfl
theorem b85_0 : blk 85 0 = q85_0 := rfl
theorem b85_1 : blk 85 1 = q85_1 := rfl
theorem b85_2 : blk 85 2 = q85_2 := rfl
theorem b86_0 : blk 86 0 = q86_0 := rfl
theorem b86_1 : blk 86 1 = q86_1 := rfl
theorem b86_2 : blk 86 2 = q86_2 := rfl
theorem b86_3 : blk 86 3 = q86_3 := rfl
theorem b86_4 : blk 86 4 = q86_4 := rfl
theorem b87_0 : blk 87 0 = q87_0 := rfl
theorem b87_1 : blk 87 1 = q87_1 := rfl
theorem b87_2 : blk 87 2 = q87_2 := rfl
theorem b87_3 : blk 87 3 = q87_3 := rfl
theorem b87_4 : blk 87 4 = q87_4 := rfl
theorem b87_5 : blk 87 5 = q87_5 := rfl
theorem b88_0 : blk 88 0 = q88_0 := rfl
theorem b88_1 : blk 88 1 = q88_1 := rfl
theorem b88_2 : blk 88 2 = q88_2 := rfl
theorem b88_3 : blk 88 3 = q88_3 := rfl
theorem b89_0 : blk 89 0 = q89_0 := rfl
theorem b89_1 : blk 89 1 = q89_1 := rfl
theorem b89_2 : blk 89 2 = q89_2 := rfl
theorem b89_3 : blk 89 3 = q89_3 := rfl
theorem b89_4 : blk 89 4 = q89_4 := rfl
theorem b89_5 : blk 89 5 = q89_5 := rfl
theorem b90_0 : blk 90 0 = q90_0 := rfl
theorem b90_1 : blk 90 1 = q90_1 := rfl
theorem b90_2 : blk 90 2 = q90_2 := rfl
theorem b90_3 : blk 90 3 = q90_3 := rfl
theorem b91_0 : blk 91 0 = q91_0 := rfl
theorem b91_1 : blk 91 1 = q91_1 := rfl
theorem b91_2 : blk 91 2 = q91_2 := rfl
theorem b91_3 : blk 91 3 = q91_3 := rfl
theorem b91_4 : blk 91 4 = q91_4 := rfl
theorem b91_5 : blk 91 5 = q91_5 := rfl
theorem b91_6 : blk 91 6 = q91_6 := rfl
theorem b91_7 : blk 91 7 = q91_7 := rfl
theorem b91_8 : blk 91 8 = q91_8 := rfl
theorem b91_9 : blk 91 9 = q91_9 := rfl
theorem b91_10 : blk 91 10 = q91_10 := rfl
theorem b92_0 : blk 92 0 = q92_0 := rfl
theorem b92_1 : blk 92 1 = q92_1 := rfl
theorem b92_2 : blk 92 2 = q92_2 := rfl
theorem b92_3 : blk 92 3 = q92_3 := rfl
theorem b92_4 : blk 92 4 = q92_4 := rfl
theorem b92_5 : blk 92 5 = q92_5 := rfl
theorem b92_6 : blk 92 6 = q92_6 := rfl
theorem b92_7 : blk 92 7 = q92_7 := rfl
theorem b93_0 : blk 93 0 = q93_0 := rfl
theorem b93_1 : blk 93 1 = q93_1 := rfl
theorem b93_2 : blk 93 2 = q93_2 := rfl
theorem b93_3 : blk 93 3 = q93_3 := rfl
theorem b94_0 : blk 94 0 = q94_0 := rfl
theorem b94_1 : blk 94 1 = q94_1 := rfl
theorem b94_2 : blk 94 2 = q94_2 := rfl
theorem b94_3 : blk 94 3 = q94_3 := rfl
theorem b94_4 : blk 94 4 = q94_4 := rfl
theorem b94_5 : blk 94 5 = q94_5 := rfl
theorem b94_6 : blk 94 6 = q94_6 := rfl
theorem b94_7 : blk 94 7 = q94_7 := rfl
theorem b95_0 : blk 95 0 = q95_0 := rfl
theorem b95_1 : blk 95 1 = q95_1 := rfl
theorem b95_2 : blk 95 2 = q95_2 := rfl
theorem b95_3 : blk 95 3 = q95_3 := rfl
theorem b95_4 : blk 95 4 = q95_4 := rfl
theorem b96_0 : blk 96 0 = q96_0 := rfl
theorem b96_1 : blk 96 1 = q96_1 := rfl
theorem b96_2 : blk 96 2 = q96_2 := rfl
theorem b96_3 : blk 96 3 = q96_3 := rfl
theorem b96_4 : blk 96 4 = q96_4 := rfl
theorem b97_0 : blk 97 0 = q97_0 := rfl
theorem b97_1 : blk 97 1 = q97_1 := rfl
theorem b97_2 : blk 97 2 = q97_2 := rfl
theorem b97_3 : blk 97 3 = q97_3 := rfl
theorem b98_0 : blk 98 0 = q98_0 := rfl
theorem b99_0 : blk 99 0 = q99_0 := rfl
theorem b100_0 : blk 100 0 = q100_0 := rfl
theorem b100_1 : blk 100 1 = q100_1 := rfl
theorem b100_2 : blk 100 2 = q100_2 := rfl
theorem b100_3 : blk 100 3 = q100_3 := rfl
theorem b100_4 : blk 100 4 = q100_4 := rfl
theorem b100_5 : blk 100 5 = q100_5 := rfl
theorem b101_0 : blk 101 0 = q101_0 := rfl
theorem b102_0 : blk 102 0 = q102_0 := rfl
theorem b102_1 : blk 102 1 = q102_1 := rfl
theorem b102_2 : blk 102 2 = q102_2 := rfl
theorem b102_3 : blk 102 3 = q102_3 := rfl
theorem b103_0 : blk 103 0 = q103_0 := rfl
theorem b103_1 : blk 103 1 = q103_1 := rfl
theorem b103_2 : blk 103 2 = q103_2 := rfl
theorem b103_3 : blk 103 3 = q103_3 := rfl
theorem b103_4 : blk 103 4 = q103_4 := rfl
theorem b103_5 : blk 103 5 = q103_5 := rfl
theorem b103_6 : blk 103 6 = q103_6 := rfl
theorem b104_0 : blk 104 0 = q104_0 := rfl
theorem b104_1 : blk 104 1 = q104_1 := rfl
theorem b104_2 : blk 104 2 = q104_2 := rfl
theorem b105_0 : blk 105 0 = q105_0 := rfl
theorem b105_1 : blk 105 1 = q105_1 := rfl
theorem b105_2 : blk 105 2 = q105_2 := rfl
theorem b105_3 : blk 105 3 = q105_3 := rfl
theorem b106_0 : blk 106 0 = q106_0 := rfl
theorem b106_1 : blk 106 1 = q106_1 := rfl
theorem b107_0 : blk 107 0 = q107_0 := rfl
theorem b107_1 : blk 107 1 = q107_1 := rfl
theorem b107_2 : blk 107 2 = q107_2 := rfl
theorem b107_3 : blk 107 3 = q107_3 := rfl
theorem b107_4 : blk 107 4 = q107_4 := rfl
theorem b108_0 : blk 108 0 = q108_0 := rfl
theorem b108_1 : blk 108 1 = q108_1 := rfl
theorem b108_2 : blk 108 2 = q108_2 := rfl
theorem b108_3 : blk 108 3 = q108_3 := rfl
theorem b109_0 : blk 109 0 = q109_0 := rfl
theorem b109_1 : blk 109 1 = q109_1 := rfl
theorem b110_0 : blk 110 0 = q110_0 := rfl
theorem b110_1 : blk 110 1 = q110_1 := rfl
theorem b110_2 : blk 110 2 = q110_2 := rfl
theorem b111_0 : blk 111 0 = q111_0 := rfl
theorem b111_1 : blk 111 1 = q111_1 := rfl
theorem b111_2 : blk 111 2 = q111_2 := rfl
theorem b111_3 : blk 111 3 = q111_3 := rfl
theorem b111_4 : blk 111 4 = q111_4 := rfl
theorem b112_0 : blk 112 0 = q112_0 := rfl
theorem b112_1 : blk 112 1 = q112_1 := rfl
theorem b112_2 : blk 112 2 = q112_2 := rfl
theorem b112_3 : blk 112 3 = q112_3 := rfl
theorem b112_4 : blk 112 4 = q112_4 := rfl
theorem b112_5 : blk 112 5 = q112_5 := rfl
theorem b113_0 : blk 113 0 = q113_0 := rfl
theorem b114_0 : blk 114 0 = q114_0 := rfl
theorem b114_1 : blk 114 1 = q114_1 := rfl
theorem b114_2 : blk 114 2 = q114_2 := rfl
theorem b115_0 : blk 115 0 = q115_0 := rfl
theorem b115_1 : blk 115 1 = q115_1 := rfl
theorem b115_2 : blk 115 2 = q115_2 := rfl
theorem b116_0 : blk 116 0 = q116_0 := rfl
theorem b117_0 : blk 117 0 = q117_0 := rfl
theorem b117_1 : blk 117 1 = q117_1 := rfl
theorem b118_0 : blk 118 0 = q118_0 := rfl
theorem b118_1 : blk 118 1 = q118_1 := rfl
theorem b119_0 : blk 119 0 = q119_0 := rfl
theorem b120_0 : blk 120 0 = q120_0 := rfl
theorem b120_1 : blk 120 1 = q120_1 := rfl
theorem b120_2 : blk 120 2 = q120_2 := rfl
theorem b121_0 : blk 121 0 = q121_0 := rfl
theorem b121_1 : blk 121 1 = q121_1 := rfl
theorem b121_2 : blk 121 2 = q121_2 := rfl
theorem b121_3 : blk 121 3 = q121_3 := rfl
theorem b121_4 : blk 121 4 = q121_4 := rfl
theorem b121_5 : blk 121 5 = q121_5 := rfl
theorem b122_0 : blk 122 0 = q122_0 := rfl
theorem b123_0 : blk 123 0 = q123_0 := rfl
theorem b124_0 : blk 124 0 = q124_0 := rfl
theorem b124_1 : blk 124 1 = q124_1 := rfl
theorem b124_2 : blk 124 2 = q124_2 := rfl
theorem b124_3 : blk 124 3 = q124_3 := rfl
theorem b125_0 : blk 125 0 = q125_0 := rfl
theorem b125_1 : blk 125 1 = q125_1 := rfl
theorem b125_2 : blk 125 2 = q125_2 := rfl
theorem b125_3 : blk 125 3 = q125_3 := rfl
theorem b125_4 : blk 125 4 = q125_4 := rfl
theorem b126_0 : blk 126 0 = q126_0 := rfl
theorem b126_1 : blk 126 1 = q126_1 := rfl
theorem b126_2 : blk 126 2 = q126_2 := rfl
theorem b126_3 : blk 126 3 = q126_3 := rfl
theorem b126_4 : blk 126 4 = q126_4 := rfl
theorem b126_5 : blk 126 5 = q126_5 := rfl
theorem b127_0 : blk 127 0 = q127_0 := rfl
theorem b127_1 : blk 127 1 = q127_1 := rfl
theorem b127_2 : blk 127 2 = q127_2 := rfl
theorem b127_3 : blk 127 3 = q127_3 := rfl
theorem b127_4 : blk 127 4 = q127_4 := rfl
theorem b128_0 : blk 128 0 = q128_0 := rfl
theorem b128_1 : blk 128 1 = q128_1 := rfl
theorem b128_2 : blk 128 2 = q128_2 := rfl
theorem b129_0 : blk 129 0 = q129_0 := rfl
theorem b129_1 : blk 129 1 = q129_1 := rfl
theorem b129_2 : blk 129 2 = q129_2 := rfl
theorem b129_3 : blk 129 3 = q129_3 := rfl
theorem b129_4 : blk 129 4 = q129_4 := rfl
theorem b129_5 : blk 129 5 = q129_5 := rfl
theorem b129_6 : blk 129 6 = q129_6 := rfl
theorem b129_7 : blk 129 7 = q129_7 := rfl
theorem b129_8 : blk 129 8 = q129_8 := rfl
theorem b129_9 : blk 129 9 = q129_9 := rfl
theorem b130_0 : blk 130 0 = q130_0 := rfl
theorem b130_1 : blk 130 1 = q130_1 := rfl
theorem b130_2 : blk 130 2 = q130_2 := rfl
theorem b131_0 : blk 131 0 = q131_0 := rfl
theorem b131_1 : blk 131 1 = q131_1 := rfl
theorem b131_2 : blk 131 2 = q131_2 := rfl
theorem b132_0 : blk 132 0 = q132_0 := rfl
theorem b133_0 : blk 133 0 = q133_0 := rfl
theorem b133_1 : blk 133 1 = q133_1 := rfl
theorem b133_2 : blk 133 2 = q133_2 := rfl
theorem b134_0 : blk 134 0 = q134_0 := rfl
theorem b134_1 : blk 134 1 = q134_1 := rfl
theorem b134_2 : blk 134 2 = q134_2 := rfl
theorem b134_3 : blk 134 3 = q134_3 := rfl
theorem b134_4 : blk 134 4 = q134_4 := rfl
theorem b134_5 : blk 134 5 = q134_5 := rfl
theorem b134_6 : blk 134 6 = q134_6 := rfl
theorem b135_0 : blk 135 0 = q135_0 := rfl
theorem b135_1 : blk 135 1 = q135_1 := rfl
theorem b135_2 : blk 135 2 = q135_2 := rfl
theorem b135_3 : blk 135 3 = q135_3 := rfl
theorem b136_0 : blk 136 0 = q136_0 := rfl
theorem b136_1 : blk 136 1 = q136_1 := rfl
theorem b136_2 : blk 136 2 = q136_2 := rfl
theorem b137_0 : blk 137 0 = q137_0 := rfl
theorem b137_1 : blk 137 1 = q137_1 := rfl
theorem b137_2 : blk 137 2 = q137_2 := rfl
theorem b137_3 : blk 137 3 = q137_3 := rfl
theorem b137_4 : blk 137 4 = q137_4 := rfl
theorem b137_5 : blk 137 5 = q137_5 := rfl
theorem b137_6 : blk 137 6 = q137_6 := rfl
theorem b137_7 : blk 137 7 = q137_7 := rfl
theorem b137_8 : blk 137 8 = q137_8 := rfl
theorem b137_9 : blk 137 9 = q137_9 := rfl
theorem b137_10 : blk 137 10 = q137_10 := rfl
theorem b137_11 : blk 137 11 = q137_11 := rfl
theorem b137_12 : blk 137 12 = q137_12 := rfl
theorem b137_13 : blk 137 13 = q137_13 := rfl
theorem b137_14 : blk 137 14 = q137_14 := rfl
theorem b138_0 : blk 138 0 = q138_0 := rfl
theorem b138_1 : blk 138 1 = q138_1 := rfl
theorem b138_2 : blk 138 2 = q138_2 := rfl
theorem b138_3 : blk 138 3 = q138_3 := rfl
theorem b138_4 : blk 138 4 = q138_4 := rfl
theorem b139_0 : blk 139 0 = q139_0 := rfl
theorem b139_1 : blk 139 1 = q139_1 := rfl
theorem b139_2 : blk 139 2 = q139_2 := rfl
theorem b139_3 : blk 139 3 = q139_3 := rfl
theorem b139_4 : blk 139 4 = q139_4 := rfl
theorem b140_0 : blk 140 0 = q140_0 := rfl
theorem b140_1 : blk 140 1 = q140_1 := rfl
theorem b140_2 : blk 140 2 = q140_2 := rfl
theorem b141_0 : blk 141 0 = q141_0 := rfl
theorem b141_1 : blk 141 1 = q141_1 := rfl
theorem b141_2 : blk 141 2 = q141_2 := rfl
theorem b142_0 : blk 142 0 = q142_0 := rfl
theorem b142_1 : blk 142 1 = q142_1 := rfl
theorem b142_2 : blk 142 2 = q142_2 := rfl
theorem b142_3 : blk 142 3 = q142_3 := rfl
theorem b142_4 : blk 142 4 = q142_4 := rfl
theorem b142_5 : blk 142 5 = q142_5 := rfl
theorem b142_6 : blk 142 6 = q142_6 := rfl
theorem b142_7 : blk 142 7 = q142_7 := rfl
theorem b143_0 : blk 143 0 = q143_0 := rfl
theorem b143_1 : blk 143 1 = q143_1 := rfl
theorem b143_2 : blk 143 2 = q143_2 := rfl
theorem b143_3 : blk 143 3 = q143_3 := rfl
theorem b143_4 : blk 143 4 = q143_4 := rfl
theorem b143_5 : blk 143 5 = q143_5 := rfl
theorem b143_6 : blk 143 6 = q143_6 := rfl
theorem b144_0 : blk 144 0 = q144_0 := rfl
theorem b144_1 : blk 144 1 = q144_1 := rfl
theorem b144_2 : blk 144 2 = q144_2 := rfl
theorem b144_3 : blk 144 3 = q144_3 := rfl
theorem b145_0 : blk 145 0 = q145_0 := rfl
theorem b145_1 : blk 145 1 = q145_1 := rfl
theorem b145_2 : blk 145 2 = q145_2 := rfl
theorem b145_3 : blk 145 3 = q145_3 := rfl
theorem b146_0 : blk 146 0 = q146_0 := rfl
theorem b146_1 : blk 146 1 = q146_1 := rfl
theorem b146_2 : blk 146 2 = q146_2 := rfl
theorem b146_3 : blk 146 3 = q146_3 := rfl
theorem b146_4 : blk 146 4 = q146_4 := rfl
theorem b147_0 : blk 147 0 = q147_0 := rfl
theorem b147_1 : blk 147 1 = q147_1 := rfl
theorem b147_2 : blk 147 2 = q147_2 := rfl
theorem b147_3 : blk 147 3 = q147_3 := rfl
theorem b147_4 : blk 147 4 = q147_4 := rfl
theorem b147_5 : blk 147 5 = q147_5 := rfl
theorem b147_6 : blk 147 6 = q147_6 := rfl
theorem b148_0 : blk 148 0 = q148_0 := rfl
theorem b148_1 : blk 148 1 = q148_1 := rfl
theorem b148_2 : blk 148 2 = q148_2 := rfl
theorem b148_3 : blk 148 3 = q148_3 := rfl
theorem b148_4 : blk 148 4 = q148_4 := rfl
theorem b148_5 : blk 148 5 = q148_5 := rfl
theorem b148_6 : blk 148 6 = q148_6 := rfl
theorem b148_7 : blk 148 7 = q148_7 := rfl
theorem b148_8 : blk 148 8 = q148_8 := rfl
theorem b149_0 : blk 149 0 = q149_0 := rfl
theorem b149_1 : blk 149 1 = q149_1 := rfl
theorem b149_2 : blk 149 2 = q149_2 := rfl
theorem b149_3 : blk 149 3 = q149_3 := rfl
theorem b149_4 : blk 149 4 = q149_4 := rfl
theorem b149_5 : blk 149 5 = q149_5 := rfl
theorem b149_6 : blk 149 6 = q149_6 := rfl
theorem b149_7 : blk 149 7 = q149_7 := rfl
theorem b149_8 : blk 149 8 = q149_8 := rfl
theorem b149_9 : blk 149 9 = q149_9 := rfl
theorem b149_10 : blk 149 10 = q149_10 := rfl
theorem b149_11 : blk 149 11 = q149_11 := rfl
theorem b149_12 : blk 149 12 = q149_12 := rfl
theorem b150_0 : blk 150 0 = q150_0 := rfl
theorem b150_1 : blk 150 1 = q150_1 := rfl
theorem b150_2 : blk 150 2 = q150_2 := rfl
theorem b150_3 : blk 150 3 = q150_3 := rfl
theorem b150_4 : blk 150 4 = q150_4 := rfl
theorem b150_5 : blk 150 5 = q150_5 := rfl
theorem b150_6 : blk 150 6 = q150_6 := rfl
theorem b150_7 : blk 150 7 = q150_7 := rfl
theorem b150_8 : blk 150 8 = q150_8 := rfl
theorem b151_0 : blk 151 0 = q151_0 := rfl
theorem b151_1 : blk 151 1 = q151_1 := rfl
theorem b151_2 : blk 151 2 = q151_2 := rfl
theorem b151_3 : blk 151 3 = q151_3 := rfl
theorem b151_4 : blk 151 4 = q151_4 := rfl
theorem b151_5 : blk 151 5 = q151_5 := rfl
theorem b151_6 : blk 151 6 = q151_6 := rfl
theorem b151_7 : blk 151 7 = q151_7 := rfl
theorem b151_8 : blk 151 8 = q151_8 := rfl
theorem b151_9 : blk 151 9 = q151_9 := rfl
theorem b151_10 : blk 151 10 = q151_10 := rfl
theorem b151_11 : blk 151 11 = q151_11 := rfl
theorem b151_12 : blk 151 12 = q151_12 := rfl
theorem b151_13 : blk 151 13 = q151_13 := rfl
theorem b151_14 : blk 151 14 = q151_14 := rfl
theorem b151_15 : blk 151 15 = q151_15 := rfl
theorem b151_16 : blk 151 16 = q151_16 := rfl
theorem b151_17 : blk 151 17 = q151_17 := rfl
theorem b151_18 : blk 151 18 = q151_18 := rfl
theorem b151_19 : blk 151 19 = q151_19 := rfl
theorem b151_20 : blk 151 20 = q151_20 := rfl
theorem b151_21 : blk 151 21 = q151_21 := rfl
theorem b151_22 : blk 151 22 = q151_22 := rfl
theorem b151_23 : blk 151 23 = q151_23 := rfl
theorem b151_24 : blk 151 24 = q151_24 := rfl
theorem b152_0 : blk 152 0 = q152_0 := rfl
theorem b152_1 : blk 152 1 = q152_1 := rfl
theorem b152_2 : blk 152 2 = q152_2 := rfl
theorem b152_3 : blk 152 3 = q152_3 := rfl
theorem b152_4 : blk 152 4 = q152_4 := rfl
theorem b152_5 : blk 152 5 = q152_5 := rfl
theorem b152_6 : blk 152 6 = q152_6 := rfl
theorem b153_0 : blk 153 0 = q153_0 := rfl
theorem b153_1 : blk 153 1 = q153_1 := rfl
theorem b153_2 : blk 153 2 = q153_2 := rfl
theorem b154_0 : blk 154 0 = q154_0 := rfl
theorem b154_1 : blk 154 1 = q154_1 := rfl
theorem b154_2 : blk 154 2 = q154_2 := rfl
theorem b154_3 : blk 154 3 = q154_3 := rfl
theorem b154_4 : blk 154 4 = q154_4 := rfl
theorem b154_5 : blk 154 5 = q154_5 := rfl
theorem b154_6 : blk 154 6 = q154_6 := rfl
theorem b154_7 : blk 154 7 = q154_7 := rfl
theorem b155_0 : blk 155 0 = q155_0 := rfl
theorem b155_1 : blk 155 1 = q155_1 := rfl
theorem b155_2 : blk 155 2 = q155_2 := rfl
theorem b155_3 : blk 155 3 = q155_3 := rfl
theorem b155_4 : blk 155 4 = q155_4 := rfl
theorem b155_5 : blk 155 5 = q155_5 := rfl
theorem b155_6 : blk 155 6 = q155_6 := rfl
theorem b155_7 : blk 155 7 = q155_7 := rfl
theorem b155_8 : blk 155 8 = q155_8 := rfl
theorem b155_9 : blk 155 9 = q155_9 := rfl
theorem b155_10 : blk 155 10 = q155_10 := rfl
theorem b155_11 : blk 155 11 = q155_11 := rfl
theorem b155_12 : blk 155 12 = q155_12 := rfl
theorem b155_13 : blk 155 13 = q155_13 := rfl
theorem b155_14 : blk 155 14 = q155_14 := rfl
theorem b155_15 : blk 155 15 = q155_15 := rfl
theorem b155_16 : blk 155 16 = q155_16 := rfl
theorem b156_0 : blk 156 0 = q156_0 := rfl
theorem b156_1 : blk 156 1 = q156_1 := rfl
theorem b156_2 : blk 156 2 = q156_2 := rfl
theorem b156_3 : blk 156 3 = q156_3 := rfl
theorem b156_4 : blk 156 4 = q156_4 := rfl
theorem b156_5 : blk 156 5 = q156_5 := rfl
theorem b156_6 : blk 156 6 = q156_6 := rfl
theorem b157_0 : blk 157 0 = q157_0 := rfl
theorem b157_1 : blk 157 1 = q157_1 := rfl
theorem b157_2 : blk 157 2 = q157_2 := rfl
theorem b157_3 : blk 157 3 = q157_3 := rfl
theorem b157_4 : blk 157 4 = q157_4 := rfl
theorem b158_0 : blk 158 0 = q158_0 := rfl
theorem b158_1 : blk 158 1 = q158_1 := rfl
theorem b158_2 : blk 158 2 = q158_2 := rfl
theorem b158_3 : blk 158 3 = q158_3 := rfl
theorem b158_4 : blk 158 4 = q158_4 := rfl
theorem b158_5 : blk 158 5 = q158_5 := rfl
theorem b158_6 : blk 158 6 = q158_6 := rfl
theorem b158_7 : blk 158 7 = q158_7 := rfl
theorem b158_8 : blk 158 8 = q158_8 := rfl
theorem b159_0 : blk 159 0 = q159_0 := rfl
theorem b159_1 : blk 159 1 = q159_1 := rfl
theorem b159_2 : blk 159 2 = q159_2 := rfl
theorem b160_0 : blk 160 0 = q160_0 := rfl
theorem b160_1 : blk 160 1 = q160_1 := rfl
theorem b160_2 : blk 160 2 = q160_2 := rfl
theorem b160_3 : blk 160 3 = q160_3 := rfl
theorem b160_4 : blk 160 4 = q160_4 := rfl
theorem b160_5 : blk 160 5 = q160_5 := rfl
theorem b160_6 : blk 160 6 = q160_6 := rfl
theorem b160_7 : blk 160 7 = q160_7 := rfl
theorem b160_8 : blk 160 8 = q160_8 := rfl
theorem b160_9 : blk 160 9 = q160_9 := rfl
theorem b160_10 : blk 160 10 = q160_10 := rfl
theorem b160_11 : blk 160 11 = q160_11 := rfl
theorem b160_12 : blk 160 12 = q160_12 := rfl
theorem b160_13 : blk 160 13 = q160_13 := rfl
theorem b161_0 : blk 161 0 = q161_0 := rfl
theorem b161_1 : blk 161 1 = q161_1 := rfl
theorem b161_2 : blk 161 2 = q161_2 := rfl
theorem b161_3 : blk 161 3 = q161_3 := rfl
theorem b161_4 : blk 161 4 = q161_4 := rfl
theorem b161_5 : blk 161 5 = q161_5 := rfl
theorem b161_6 : blk 161 6 = q161_6 := rfl
theorem b161_7 : blk 161 7 = q161_7 := rfl
theorem b161_8 : blk 161 8 = q161_8 := rfl
theorem b161_9 : blk 161 9 = q161_9 := rfl
theorem b161_10 : blk 161 10 = q161_10 := rfl
theorem b161_11 : blk 161 11 = q161_11 := rfl
theorem b161_12 : blk 161 12 = q161_12 := rfl
theorem b161_13 : blk 161 13 = q161_13 := rfl
theorem b161_14 : blk 161 14 = q161_14 := rfl
theorem b161_15 : blk 161 15 = q161_15 := rfl
theorem b161_16 : blk 161 16 = q161_16 := rfl
theorem b162_0 : blk 162 0 = q162_0 := rfl
theorem b162_1 : blk 162 1 = q162_1 := rfl
theorem b162_2 : blk 162 2 = q162_2 := rfl
theorem b162_3 : blk 162 3 = q162_3 := rfl
theorem b162_4 : blk 162 4 = q162_4 := rfl
theorem b162_5 : blk 162 5 = q162_5 := rfl
theorem b162_6 : blk 162 6 = q162_6 := rfl
theorem b162_7 : blk 162 7 = q162_7 := rfl
theorem b163_0 : blk 163 0 = q163_0 := rfl
theorem b163_1 : blk 163 1 = q163_1 := rfl
theorem b163_2 : blk 163 2 = q163_2 := rfl
theorem b163_3 : blk 163 3 = q163_3 := rfl
theorem b164_0 : blk 164 0 = q164_0 := rfl
theorem b164_1 : blk 164 1 = q164_1 := rfl
theorem b164_2 : blk 164 2 = q164_2 := rfl
theorem b164_3 : blk 164 3 = q164_3 := rfl
theorem b164_4 : blk 164 4 = q164_4 := rfl
theorem b164_5 : blk 164 5 = q164_5 := rfl
theorem b165_0 : blk 165 0 = q165_0 := rfl
theorem b165_1 : blk 165 1 = q165_1 := rfl
theorem b165_2 : blk 165 2 = q165_2 := rfl
theorem b165_3 : blk 165 3 = q165_3 := rfl
theorem b165_4 : blk 165 4 = q165_4 := rfl
theorem b166_0 : blk 166 0 = q166_0 := rfl
theorem b167_0 : blk 167 0 = q167_0 := rfl
theorem b168_0 : blk 168 0 = q168_0 := rfl
theorem b168_1 : blk 168 1 = q168_1 := rfl
theorem b168_2 : blk 168 2 = q168_2 := rfl
theorem b168_3 : blk 168 3 = q168_3 := rfl
theorem b168_4 : blk 168 4 = q168_4 := rfl
theorem b168_5 : blk 168 5 = q168_5 := rfl
theorem b168_6 : blk 168 6 = q168_6 := rfl
theorem b168_7 : blk 168 7 = q168_7 := rfl
theorem b168_8 : blk 168 8 = q168_8 := rfl
theorem b168_9 : blk 168 9 = q168_9 := rfl
theorem b168_10 : blk 168 10 = q168_10 := rfl
theorem b168_11 : blk 168 11 = q168_11 := rfl
theorem b168_12 : blk 168 12 = q168_12 := rfl
theorem b168_13 : blk 168 13 = q168_13 := rfl
theorem b169_0 : blk 169 0 = q169_0 := rfl
theorem b170_0 : blk 170 0 = q170_0 := rfl
theorem b170_1 : blk 170 1 = q170_1 := rfl
theorem b170_2 : blk 170 2 = q170_2 := rfl
theorem b171_0 : blk 171 0 = q171_0 := rfl
theorem b171_1 : blk 171 1 = q171_1 := rfl
theorem b171_2 : blk 171 2 = q171_2 := rfl
theorem b171_3 : blk 171 3 = q171_3 := rfl
theorem b171_4 : blk 171 4 = q171_4 := rfl
theorem b171_5 : blk 171 5 = q171_5 := rfl
theorem b171_6 : blk 171 6 = q171_6 := rfl
theorem b172_0 : blk 172 0 = q172_0 := rfl
theorem b173_0 : blk 173 0 = q173_0 := rfl
theorem b174_0 : blk 174 0 = q174_0 := rfl
theorem b174_1 : blk 174 1 = q174_1 := rfl
theorem b174_2 : blk 174 2 = q174_2 := rfl
theorem b175_0 : blk 175 0 = q175_0 := rfl
theorem b175_1 : blk 175 1 = q175_1 := rfl
theorem b175_2 : blk 175 2 = q175_2 := rfl
theorem b176_0 : blk 176 0 = q176_0 := rfl
theorem b176_1 : blk 176 1 = q176_1 := rfl
theorem b176_2 : blk 176 2 = q176_2 := rfl
theorem b176_3 : blk 176 3 = q176_3 := rfl
theorem b176_4 : blk 176 4 = q176_4 := rfl
theorem b176_5 : blk 176 5 = q176_5 := rfl
theorem b176_6 : blk 176 6 = q176_6 := rfl
theorem b176_7 : blk 176 7 = q176_7 := rfl
theorem b176_8 : blk 176 8 = q176_8 := rfl
theorem b176_9 : blk 176 9 = q176_9 := rfl
theorem b176_10 : blk 176 10 = q176_10 := rfl
theorem b176_11 : blk 176 11 = q176_11 := rfl
theorem b176_12 : blk 176 12 = q176_12 := rfl
theorem b176_13 : blk 176 13 = q176_13 := rfl
theorem b176_14 : blk 176 14 = q176_14 := rfl
theorem b176_15 : blk 176 15 = q176_15 := rfl
theorem b176_16 : blk 176 16 = q176_16 := rfl
theorem b176_17 : blk 176 17 = q176_17 := rfl
theorem b176_18 : blk 176 18 = q176_18 := rfl
theorem b176_19 : blk 176 19 = q176_19 := rfl
theorem b176_20 : blk 176 20 = q176_20 := rfl
theorem b176_21 : blk 176 21 = q176_21 := rfl
theorem b176_22 : blk 176 22 = q176_22 := rfl
theorem b176_23 : blk 176 23 = q176_23 := rfl
theorem b176_24 : blk 176 24 = q176_24 := rfl
theorem b176_25 : blk 176 25 = q176_25 := rfl
theorem b176_26 : blk 176 26 = q176_26 := rfl
theorem b176_27 : blk 176 27 = q176_27 := rfl
theorem b176_28 : blk 176 28 = q176_28 := rfl
theorem b176_29 : blk 176 29 = q176_29 := rfl
theorem b176_30 : blk 176 30 = q176_30 := rfl
theorem b176_31 : blk 176 31 = q176_31 := rfl
theorem b176_32 : blk 176 32 = q176_32 := rfl
theorem b176_33 : blk 176 33 = q176_33 := rfl
theorem b176_34 : blk 176 34 = q176_34 := rfl
theorem b176_35 : blk 176 35 = q176_35 := rfl
theorem b176_36 : blk 176 36 = q176_36 := rfl
theorem b176_37 : blk 176 37 = q176_37 := rfl
theorem b176_38 : blk 176 38 = q176_38 := rfl
theorem b176_39 : blk 176 39 = q176_39 := rfl
theorem b176_40 : blk 176 40 = q176_40 := rfl
theorem b176_41 : blk 176 41 = q176_41 := rfl
theorem b176_42 : blk 176 42 = q176_42 := rfl
theorem b176_43 : blk 176 43 = q176_43 := rfl
theorem b176_44 : blk 176 44 = q176_44 := rfl
theorem b176_45 : blk 176 45 = q176_45 := rfl
theorem b176_46 : blk 176 46 = q176_46 := rfl
theorem b176_47 : blk 176 47 = q176_47 := rfl
theorem b176_48 : blk 176 48 = q176_48 := rfl
theorem b176_49 : blk 176 49 = q176_49 := rfl
theorem ml0 : zmL 0 = 1 := rfl
theorem ml1 : zmL 1 = 3 := rfl
theorem ml2 : zmL 2 = 6 := rfl
theorem ml3 : zmL 3 = 6 := rfl
theorem ml4 : zmL 4 = 9 := rfl
theorem ml5 : zmL 5 = 5 := rfl
theorem ml6 : zmL 6 = 2 := rfl
theorem ci6 : zcI 6 = 0 := rfl
theorem ml7 : zmL 7 = 2 := rfl
theorem ci7 : zcI 7 = 0 := rfl
theorem ml8 : zmL 8 = 1 := rfl
theorem ci8 : zcI 8 = 0 := rfl
theorem ml9 : zmL 9 = 1 := rfl
theorem ci9 : zcI 9 = 0 := rfl
theorem ml10 : zmL 10 = 1 := rfl
theorem ci10 : zcI 10 = 0 := rfl
theorem ml11 : zmL 11 = 1 := rfl
theorem ci11 : zcI 11 = 0 := rfl
theorem ml12 : zmL 12 = 2 := rfl
theorem ci12 : zcI 12 = 0 := rfl
theorem ml13 : zmL 13 = 1 := rfl
theorem ci13 : zcI 13 = 0 := rfl
theorem ml14 : zmL 14 = 2 := rfl
theorem ci14 : zcI 14 = 0 := rfl
theorem ml15 : zmL 15 = 5 := rfl
theorem ci15 : zcI 15 = 0 := rfl
theorem ml16 : zmL 16 = 4 := rfl
theorem ci16 : zcI 16 = 0 := rfl
theorem ml17 : zmL 17 = 4 := rfl
theorem ci17 : zcI 17 = 0 := rfl
theorem ml18 : zmL 18 = 1 := rfl
theorem ci18 : zcI 18 = 0 := rfl
theorem ml19 : zmL 19 = 1 := rfl
theorem ml20 : zmL 20 = 2 := rfl
theorem ci20 : zcI 20 = 1 := rfl
theorem ml21 : zmL 21 = 1 := rfl
theorem ci21 : zcI 21 = 1 := rfl
theorem ml22 : zmL 22 = 1 := rfl
theorem ci22 : zcI 22 = 1 := rfl
theorem ml23 : zmL 23 = 3 := rfl
theorem ci23 : zcI 23 = 1 := rfl
theorem ml24 : zmL 24 = 4 := rfl
theorem ci24 : zcI 24 = 1 := rfl
theorem ml25 : zmL 25 = 2 := rfl
theorem ci25 : zcI 25 = 1 := rfl
theorem ml26 : zmL 26 = 1 := rfl
theorem ml27 : zmL 27 = 6 := rfl
theorem ci27 : zcI 27 = 2 := rfl
theorem ml28 : zmL 28 = 12 := rfl
theorem ci28 : zcI 28 = 2 := rfl
theorem ml29 : zmL 29 = 2 := rfl
theorem ml30 : zmL 30 = 2 := rfl
theorem ml31 : zmL 31 = 2 := rfl
theorem ci31 : zcI 31 = 2 := rfl
theorem ml32 : zmL 32 = 2 := rfl
theorem ci32 : zcI 32 = 2 := rfl
theorem ml33 : zmL 33 = 3 := rfl
theorem ci33 : zcI 33 = 2 := rfl
theorem ml34 : zmL 34 = 1 := rfl
theorem ml35 : zmL 35 = 1 := rfl
theorem ci35 : zcI 35 = 3 := rfl
theorem ml36 : zmL 36 = 1 := rfl
theorem ci36 : zcI 36 = 3 := rfl
theorem ml37 : zmL 37 = 1 := rfl
theorem ci37 : zcI 37 = 3 := rfl
theorem ml38 : zmL 38 = 1 := rfl
theorem ci38 : zcI 38 = 3 := rfl
theorem ml39 : zmL 39 = 2 := rfl
theorem ci39 : zcI 39 = 3 := rfl
theorem ml40 : zmL 40 = 3 := rfl
theorem ci40 : zcI 40 = 3 := rfl
theorem ml41 : zmL 41 = 2 := rfl
theorem ci41 : zcI 41 = 3 := rfl
theorem ml42 : zmL 42 = 2 := rfl
theorem ci42 : zcI 42 = 3 := rfl
theorem ml43 : zmL 43 = 3 := rfl
theorem ci43 : zcI 43 = 3 := rfl
theorem ml44 : zmL 44 = 3 := rfl
theorem ci44 : zcI 44 = 3 := rfl
theorem ml45 : zmL 45 = 2 := rfl
theorem ml46 : zmL 46 = 3 := rfl
theorem ci46 : zcI 46 = 4 := rfl
theorem ml47 : zmL 47 = 1 := rfl
theorem ci47 : zcI 47 = 4 := rfl
theorem ml48 : zmL 48 = 1 := rfl
theorem ci48 : zcI 48 = 4 := rfl
theorem ml49 : zmL 49 = 3 := rfl
theorem ci49 : zcI 49 = 4 := rfl
theorem ml50 : zmL 50 = 3 := rfl
theorem ci50 : zcI 50 = 4 := rfl
theorem ml51 : zmL 51 = 4 := rfl
theorem ci51 : zcI 51 = 4 := rfl
theorem ml52 : zmL 52 = 2 := rfl
theorem ci52 : zcI 52 = 4 := rfl
theorem ml53 : zmL 53 = 5 := rfl
theorem ci53 : zcI 53 = 4 := rfl
theorem ml54 : zmL 54 = 8 := rfl
theorem ci54 : zcI 54 = 4 := rfl
theorem ml55 : zmL 55 = 2 := rfl
theorem ci55 : zcI 55 = 4 := rfl
theorem ml56 : zmL 56 = 7 := rfl
theorem ci56 : zcI 56 = 4 := rfl
theorem ml57 : zmL 57 = 1 := rfl
theorem ml58 : zmL 58 = 11 := rfl
theorem ci58 : zcI 58 = 5 := rfl
theorem ml59 : zmL 59 = 7 := rfl
theorem ci59 : zcI 59 = 5 := rfl
theorem ml60 : zmL 60 = 3 := rfl
theorem ml61 : zmL 61 = 10 := rfl
theorem ml62 : zmL 62 = 2 := rfl
theorem ml63 : zmL 63 = 4 := rfl
theorem ci63 : zcI 63 = 6 := rfl
theorem ml64 : zmL 64 = 1 := rfl
theorem ci64 : zcI 64 = 6 := rfl
theorem ml65 : zmL 65 = 2 := rfl
theorem ci65 : zcI 65 = 6 := rfl
theorem ml66 : zmL 66 = 4 := rfl
theorem ci66 : zcI 66 = 6 := rfl
theorem ml67 : zmL 67 = 3 := rfl
theorem ci67 : zcI 67 = 6 := rfl
theorem ml68 : zmL 68 = 2 := rfl
theorem ci68 : zcI 68 = 6 := rfl
theorem ml69 : zmL 69 = 2 := rfl
theorem ci69 : zcI 69 = 6 := rfl
theorem ml70 : zmL 70 = 4 := rfl
theorem ci70 : zcI 70 = 6 := rfl
theorem ml71 : zmL 71 = 2 := rfl
theorem ci71 : zcI 71 = 6 := rfl
theorem ml72 : zmL 72 = 4 := rfl
theorem ci72 : zcI 72 = 6 := rfl
theorem ml73 : zmL 73 = 4 := rfl
theorem ci73 : zcI 73 = 6 := rfl
theorem ml74 : zmL 74 = 2 := rfl
theorem ml75 : zmL 75 = 2 := rfl
theorem ci75 : zcI 75 = 7 := rfl
theorem ml76 : zmL 76 = 2 := rfl
theorem ci76 : zcI 76 = 7 := rfl
theorem ml77 : zmL 77 = 4 := rfl
theorem ci77 : zcI 77 = 7 := rfl
theorem ml78 : zmL 78 = 1 := rfl
theorem ci78 : zcI 78 = 7 := rfl
theorem ml79 : zmL 79 = 3 := rfl
theorem ci79 : zcI 79 = 7 := rfl
theorem ml80 : zmL 80 = 3 := rfl
theorem ci80 : zcI 80 = 7 := rfl
theorem ml81 : zmL 81 = 3 := rfl
theorem ci81 : zcI 81 = 7 := rfl
theorem ml82 : zmL 82 = 3 := rfl
theorem ci82 : zcI 82 = 7 := rfl
theorem ml83 : zmL 83 = 2 := rfl
theorem ci83 : zcI 83 = 7 := rfl
theorem ml84 : zmL 84 = 7 := rfl
theorem ci84 : zcI 84 = 7 := rfl
theorem ml85 : zmL 85 = 2 := rfl
theorem ci85 : zcI 85 = 7 := rfl
theorem ml86 : zmL 86 = 3 := rfl
theorem ci86 : zcI 86 = 7 := rfl
theorem ml87 : zmL 87 = 3 := rfl
theorem ci87 : zcI 87 = 7 := rfl
theorem ml88 : zmL 88 = 2 := rfl
theorem ci88 : zcI 88 = 7 := rfl
theorem ml89 : zmL 89 = 4 := rfl
theorem ci89 : zcI 89 = 7 := rfl
theorem ml90 : zmL 90 = 4 := rfl
theorem ci90 : zcI 90 = 7 := rfl
theorem ml91 : zmL 91 = 6 := rfl
theorem ci91 : zcI 91 = 7 := rfl
theorem ml92 : zmL 92 = 4 := rfl
theorem ci92 : zcI 92 = 7 := rfl
theorem ml93 : zmL 93 = 2 := rfl
theorem ci93 : zcI 93 = 7 := rfl
theorem ml94 : zmL 94 = 5 := rfl
theorem ci94 : zcI 94 = 7 := rfl
theorem ml95 : zmL 95 = 4 := rfl
theorem ci95 : zcI 95 = 7 := rfl
theorem ml96 : zmL 96 = 4 := rfl
theorem ci96 : zcI 96 = 7 := rfl
theorem ml97 : zmL 97 = 3 := rfl
theorem ci97 : zcI 97 = 7 := rfl
theorem ml98 : zmL 98 = 1 := rfl
theorem ci98 : zcI 98 = 7 := rfl
theorem ml99 : zmL 99 = 1 := rfl
theorem ci99 : zcI 99 = 7 := rfl
theorem ml100 : zmL 100 = 2 := rfl
theorem ci100 : zcI 100 = 7 := rfl
theorem ml101 : zmL 101 = 1 := rfl
theorem ci101 : zcI 101 = 7 := rfl
theorem ml102 : zmL 102 = 2 := rfl
theorem ci102 : zcI 102 = 7 := rfl
theorem ml103 : zmL 103 = 5 := rfl
theorem ci103 : zcI 103 = 7 := rfl
theorem ml104 : zmL 104 = 1 := rfl
theorem ml105 : zmL 105 = 1 := rfl
theorem ml106 : zmL 106 = 2 := rfl
theorem ci106 : zcI 106 = 7 := rfl
theorem ml107 : zmL 107 = 2 := rfl
theorem ci107 : zcI 107 = 7 := rfl
theorem ml108 : zmL 108 = 3 := rfl
theorem ci108 : zcI 108 = 7 := rfl
theorem ml109 : zmL 109 = 3 := rfl
theorem ci109 : zcI 109 = 7 := rfl
theorem ml110 : zmL 110 = 2 := rfl
theorem ci110 : zcI 110 = 7 := rfl
theorem ml111 : zmL 111 = 5 := rfl
theorem ci111 : zcI 111 = 7 := rfl
theorem ml112 : zmL 112 = 4 := rfl
theorem ci112 : zcI 112 = 7 := rfl
theorem ml113 : zmL 113 = 3 := rfl
theorem ci113 : zcI 113 = 7 := rfl
theorem ml114 : zmL 114 = 2 := rfl
theorem ml115 : zmL 115 = 3 := rfl
theorem ml116 : zmL 116 = 2 := rfl
theorem ci116 : zcI 116 = 8 := rfl
theorem ml117 : zmL 117 = 2 := rfl
theorem ci117 : zcI 117 = 8 := rfl
theorem ml118 : zmL 118 = 2 := rfl
theorem ci118 : zcI 118 = 8 := rfl
theorem ml119 : zmL 119 = 2 := rfl
theorem ci119 : zcI 119 = 8 := rfl
theorem ml120 : zmL 120 = 2 := rfl
theorem ci120 : zcI 120 = 8 := rfl
theorem ml121 : zmL 121 = 4 := rfl
theorem ci121 : zcI 121 = 8 := rfl
theorem ml122 : zmL 122 = 1 := rfl
theorem ci122 : zcI 122 = 8 := rfl
theorem ml123 : zmL 123 = 1 := rfl
theorem ml124 : zmL 124 = 3 := rfl
theorem ci124 : zcI 124 = 8 := rfl
theorem ml125 : zmL 125 = 3 := rfl
theorem ci125 : zcI 125 = 8 := rfl
theorem ml126 : zmL 126 = 3 := rfl
theorem ci126 : zcI 126 = 8 := rfl
theorem ml127 : zmL 127 = 3 := rfl
theorem ci127 : zcI 127 = 8 := rfl
theorem ml128 : zmL 128 = 2 := rfl
theorem ci128 : zcI 128 = 8 := rfl
theorem ml129 : zmL 129 = 7 := rfl
theorem ci129 : zcI 129 = 8 := rfl
theorem ml130 : zmL 130 = 3 := rfl
theorem ci130 : zcI 130 = 8 := rfl
theorem ml131 : zmL 131 = 3 := rfl
theorem ml132 : zmL 132 = 3 := rfl
theorem ci132 : zcI 132 = 8 := rfl
theorem ml133 : zmL 133 = 2 := rfl
theorem ml134 : zmL 134 = 3 := rfl
theorem ci134 : zcI 134 = 8 := rfl
theorem ml135 : zmL 135 = 2 := rfl
theorem ci135 : zcI 135 = 8 := rfl
theorem ml136 : zmL 136 = 1 := rfl
theorem ci136 : zcI 136 = 8 := rfl
theorem ml137 : zmL 137 = 4 := rfl
theorem ci137 : zcI 137 = 8 := rfl
theorem ml138 : zmL 138 = 3 := rfl
theorem ci138 : zcI 138 = 8 := rfl
theorem ml139 : zmL 139 = 1 := rfl
theorem ci139 : zcI 139 = 8 := rfl
theorem ml140 : zmL 140 = 2 := rfl
theorem ci140 : zcI 140 = 8 := rfl
theorem ml141 : zmL 141 = 3 := rfl
theorem ci141 : zcI 141 = 8 := rfl
theorem ml142 : zmL 142 = 6 := rfl
theorem ci142 : zcI 142 = 8 := rfl
theorem ml143 : zmL 143 = 5 := rfl
theorem ci143 : zcI 143 = 8 := rfl
theorem ml144 : zmL 144 = 3 := rfl
theorem ci144 : zcI 144 = 8 := rfl
theorem ml145 : zmL 145 = 4 := rfl
theorem ci145 : zcI 145 = 8 := rfl
theorem ml146 : zmL 146 = 5 := rfl
theorem ci146 : zcI 146 = 8 := rfl
theorem ml147 : zmL 147 = 5 := rfl
theorem ci147 : zcI 147 = 8 := rfl
theorem ml148 : zmL 148 = 7 := rfl
theorem ci148 : zcI 148 = 8 := rfl
theorem ml149 : zmL 149 = 7 := rfl
theorem ci149 : zcI 149 = 8 := rfl
theorem ml150 : zmL 150 = 3 := rfl
theorem ci150 : zcI 150 = 8 := rfl
theorem ml151 : zmL 151 = 8 := rfl
theorem ci151 : zcI 151 = 8 := rfl
theorem ml152 : zmL 152 = 5 := rfl
theorem ci152 : zcI 152 = 8 := rfl
theorem ml153 : zmL 153 = 5 := rfl
theorem ml154 : zmL 154 = 6 := rfl
theorem ci154 : zcI 154 = 8 := rfl
theorem ml155 : zmL 155 = 10 := rfl
theorem ci155 : zcI 155 = 8 := rfl
theorem ml156 : zmL 156 = 5 := rfl
theorem ci156 : zcI 156 = 8 := rfl
theorem ml157 : zmL 157 = 3 := rfl
theorem ci157 : zcI 157 = 8 := rfl
theorem ml158 : zmL 158 = 3 := rfl
theorem ci158 : zcI 158 = 8 := rfl
theorem ml159 : zmL 159 = 2 := rfl
theorem ci159 : zcI 159 = 8 := rfl
theorem ml160 : zmL 160 = 5 := rfl
theorem ci160 : zcI 160 = 8 := rfl
theorem ml161 : zmL 161 = 10 := rfl
theorem ci161 : zcI 161 = 8 := rfl
theorem ml162 : zmL 162 = 7 := rfl
theorem ci162 : zcI 162 = 8 := rfl
theorem ml163 : zmL 163 = 5 := rfl
theorem ci163 : zcI 163 = 8 := rfl
theorem ml164 : zmL 164 = 6 := rfl
theorem ci164 : zcI 164 = 8 := rfl
theorem ml165 : zmL 165 = 4 := rfl
theorem ci165 : zcI 165 = 8 := rfl
theorem ml166 : zmL 166 = 1 := rfl
theorem ci166 : zcI 166 = 8 := rfl
theorem ml167 : zmL 167 = 1 := rfl
theorem ci167 : zcI 167 = 8 := rfl
theorem ml168 : zmL 168 = 4 := rfl
theorem ci168 : zcI 168 = 8 := rfl
theorem ml169 : zmL 169 = 1 := rfl
theorem ci169 : zcI 169 = 8 := rfl
theorem ml170 : zmL 170 = 2 := rfl
theorem ci170 : zcI 170 = 8 := rfl
theorem ml171 : zmL 171 = 5 := rfl
theorem ci171 : zcI 171 = 8 := rfl
theorem ml172 : zmL 172 = 1 := rfl
theorem ml173 : zmL 173 = 2 := rfl
theorem ml174 : zmL 174 = 2 := rfl
theorem ml175 : zmL 175 = 2 := rfl
theorem ml176 : zmL 176 = 4 := rfl
def zmt (y : Nat) : Bool := (List.range (sTl.getD y []).length).all fun t => zat (zst y) y (zst y t) (blk y t)
