/-! the constructors: words, decode rows -/
theorem ar_byte : Cond.arrayClass .byte ∈ lw_tbl := zt1 (List.mem_of_getElem? (i := 53) (rfl : tables_1_1[53]? = some (Cond.arrayClass .byte)))
theorem ar_int : Cond.arrayClass .int ∈ lw_tbl := zt1 (List.mem_of_getElem? (i := 234) (rfl : tables_1_1[234]? = some (Cond.arrayClass .int)))
theorem ar_boolean : Cond.arrayClass .boolean ∈ lw_tbl := zt7 (List.mem_of_getElem? (i := 105) (rfl : tables_1_7[105]? = some (Cond.arrayClass .boolean)))
theorem ar_long : Cond.arrayClass .long ∈ lw_tbl := zt9 (List.mem_of_getElem? (i := 142) (rfl : tables_1_9[142]? = some (Cond.arrayClass .long)))
theorem oi_im : Cond.instanceMethod Lib.objectInit ∈ lw_tbl := zt1 (List.mem_of_getElem? (i := 36) (rfl : tables_1_1[36]? = some (Cond.instanceMethod Lib.objectInit)))
theorem oi_cd : Cond.code Lib.objectInit ⟨#[0xb1]⟩ 1 none ∈ lw_tbl := zt1 (List.mem_of_getElem? (i := 37) (rfl : tables_1_1[37]? = some (Cond.code Lib.objectInit ⟨#[0xb1]⟩ 1 none)))
theorem oi_X8 : Cond.methodLink RX8 1 Lib.objectInit ∈ lw_tbl := zt1 (List.mem_of_getElem? (i := 84) (rfl : tables_1_1[84]? = some (Cond.methodLink RX8 1 Lib.objectInit)))
theorem it_X8 : Cond.instantiable RX8 8 ∈ lw_tbl := zt1 (List.mem_of_getElem? (i := 80) (rfl : tables_1_1[80]? = some (Cond.instantiable RX8 8)))
theorem iz_X8 : Cond.initialized RX8 ∈ lw_tbl := zt1 (List.mem_of_getElem? (i := 5) (rfl : tables_1_1[5]? = some (Cond.initialized RX8)))
theorem dX8_init_0 : zal cX8_init 0 0 1 := Or.inl ⟨0, by decide +kernel, rfl, rfl⟩
theorem dX8_init_1 : zd cX8_init 1 (.invokespecial 1) 3 4 := ⟨by decide +kernel, rfl⟩
theorem dX8_init_4 : zal cX8_init 4 0 5 := Or.inl ⟨0, by decide +kernel, rfl, rfl⟩
theorem dX8_init_5 : zk cX8_init 5 (nI 0) 6 := Or.inl ⟨0, by decide +kernel, by decide +kernel, rfl⟩
theorem dX8_init_6 : zd cX8_init 6 (.putfield 7) 3 9 := ⟨by decide +kernel, rfl⟩
theorem dX8_init_9 : zal cX8_init 9 0 10 := Or.inl ⟨0, by decide +kernel, rfl, rfl⟩
theorem dX8_init_10 : zk cX8_init 10 (nI 5) 11 := Or.inl ⟨5, by decide +kernel, by decide +kernel, rfl⟩
theorem dX8_init_11 : zd cX8_init 11 (.putfield 13) 3 14 := ⟨by decide +kernel, rfl⟩
theorem dX8_init_14 : zal cX8_init 14 0 15 := Or.inl ⟨0, by decide +kernel, rfl, rfl⟩
theorem dX8_init_15 : zk cX8_init 15 (nI 0) 16 := Or.inl ⟨0, by decide +kernel, by decide +kernel, rfl⟩
theorem dX8_init_16 : zd cX8_init 16 (.putfield 16) 3 19 := ⟨by decide +kernel, rfl⟩
theorem dX8_init_19 : zal cX8_init 19 0 20 := Or.inl ⟨0, by decide +kernel, rfl, rfl⟩
theorem dX8_init_20 : zk cX8_init 20 (nI 0) 21 := Or.inl ⟨0, by decide +kernel, by decide +kernel, rfl⟩
theorem dX8_init_21 : zd cX8_init 21 (.putfield 19) 3 24 := ⟨by decide +kernel, rfl⟩
theorem dX8_init_24 : zal cX8_init 24 0 25 := Or.inl ⟨0, by decide +kernel, rfl, rfl⟩
theorem dX8_init_25 : zk cX8_init 25 (nI 8) 27 := Or.inr <| Or.inl ⟨8, by decide +kernel, by decide +kernel, rfl⟩
theorem dX8_init_27 : zd cX8_init 27 (.putfield 22) 3 30 := ⟨by decide +kernel, rfl⟩
theorem dX8_init_30 : zal cX8_init 30 0 31 := Or.inl ⟨0, by decide +kernel, rfl, rfl⟩
theorem dX8_init_31 : zk cX8_init 31 (nI 8) 33 := Or.inr <| Or.inl ⟨8, by decide +kernel, by decide +kernel, rfl⟩
theorem dX8_init_33 : zd cX8_init 33 (.putfield 25) 3 36 := ⟨by decide +kernel, rfl⟩
theorem dX8_init_36 : zal cX8_init 36 0 37 := Or.inl ⟨0, by decide +kernel, rfl, rfl⟩
theorem dX8_init_37 : zk cX8_init 37 (nI 4) 38 := Or.inl ⟨4, by decide +kernel, by decide +kernel, rfl⟩
theorem dX8_init_38 : zd cX8_init 38 (.putfield 28) 3 41 := ⟨by decide +kernel, rfl⟩
theorem dX8_init_41 : zal cX8_init 41 0 42 := Or.inl ⟨0, by decide +kernel, rfl, rfl⟩
theorem dX8_init_42 : zk cX8_init 42 (nI 4) 43 := Or.inl ⟨4, by decide +kernel, by decide +kernel, rfl⟩
theorem dX8_init_43 : zd cX8_init 43 (.putfield 31) 3 46 := ⟨by decide +kernel, rfl⟩
theorem dX8_init_46 : zd cX8_init 46 (.return_) 1 47 := ⟨by decide +kernel, rfl⟩
theorem oi_X1 : Cond.methodLink RX1 3 Lib.objectInit ∈ lw_tbl := zt1 (List.mem_of_getElem? (i := 137) (rfl : tables_1_1[137]? = some (Cond.methodLink RX1 3 Lib.objectInit)))
theorem it_X1 : Cond.instantiable RX1 2 ∈ lw_tbl := zt1 (List.mem_of_getElem? (i := 133) (rfl : tables_1_1[133]? = some (Cond.instantiable RX1 2)))
theorem iz_X1 : Cond.initialized RX1 ∈ lw_tbl := zt1 (List.mem_of_getElem? (i := 6) (rfl : tables_1_1[6]? = some (Cond.initialized RX1)))
theorem dX1_init_0 : zal cX1_init 0 0 1 := Or.inl ⟨0, by decide +kernel, rfl, rfl⟩
theorem dX1_init_1 : zd cX1_init 1 (.invokespecial 3) 3 4 := ⟨by decide +kernel, rfl⟩
theorem dX1_init_4 : zal cX1_init 4 0 5 := Or.inl ⟨0, by decide +kernel, rfl, rfl⟩
theorem dX1_init_5 : zk cX1_init 5 (nI 1) 6 := Or.inl ⟨1, by decide +kernel, by decide +kernel, rfl⟩
theorem dX1_init_6 : zd cX1_init 6 (.putfield 9) 3 9 := ⟨by decide +kernel, rfl⟩
theorem dX1_init_9 : zal cX1_init 9 0 10 := Or.inl ⟨0, by decide +kernel, rfl, rfl⟩
theorem dX1_init_10 : zk cX1_init 10 (nI 0) 11 := Or.inl ⟨0, by decide +kernel, by decide +kernel, rfl⟩
theorem dX1_init_11 : zd cX1_init 11 (.putfield 15) 3 14 := ⟨by decide +kernel, rfl⟩
theorem dX1_init_14 : zd cX1_init 14 (.return_) 1 15 := ⟨by decide +kernel, rfl⟩
theorem oi_X4 : Cond.methodLink RX4 3 Lib.objectInit ∈ lw_tbl := zt1 (List.mem_of_getElem? (i := 153) (rfl : tables_1_1[153]? = some (Cond.methodLink RX4 3 Lib.objectInit)))
theorem it_X4 : Cond.instantiable RX4 14 ∈ lw_tbl := zt1 (List.mem_of_getElem? (i := 149) (rfl : tables_1_1[149]? = some (Cond.instantiable RX4 14)))
theorem iz_X4 : Cond.initialized RX4 ∈ lw_tbl := zt1 (List.mem_of_getElem? (i := 7) (rfl : tables_1_1[7]? = some (Cond.initialized RX4)))
theorem dX4_init_0 : zal cX4_init 0 0 1 := Or.inl ⟨0, by decide +kernel, rfl, rfl⟩
theorem dX4_init_1 : zd cX4_init 1 (.invokespecial 3) 3 4 := ⟨by decide +kernel, rfl⟩
theorem dX4_init_4 : zal cX4_init 4 0 5 := Or.inl ⟨0, by decide +kernel, rfl, rfl⟩
theorem dX4_init_5 : zk cX4_init 5 (nI 0) 6 := Or.inl ⟨0, by decide +kernel, by decide +kernel, rfl⟩
theorem dX4_init_6 : zd cX4_init 6 (.putfield 9) 3 9 := ⟨by decide +kernel, rfl⟩
theorem dX4_init_9 : zal cX4_init 9 0 10 := Or.inl ⟨0, by decide +kernel, rfl, rfl⟩
theorem dX4_init_10 : zk cX4_init 10 (nI 0) 11 := Or.inl ⟨0, by decide +kernel, by decide +kernel, rfl⟩
theorem dX4_init_11 : zd cX4_init 11 (.putfield 15) 3 14 := ⟨by decide +kernel, rfl⟩
theorem dX4_init_14 : zal cX4_init 14 0 15 := Or.inl ⟨0, by decide +kernel, rfl, rfl⟩
theorem dX4_init_15 : zk cX4_init 15 (nI 6) 17 := Or.inr <| Or.inl ⟨6, by decide +kernel, by decide +kernel, rfl⟩
theorem dX4_init_17 : zd cX4_init 17 (.newarray .int) 2 19 := ⟨by decide +kernel, rfl⟩
theorem dX4_init_19 : zd cX4_init 19 (.putfield 18) 3 22 := ⟨by decide +kernel, rfl⟩
theorem dX4_init_22 : zal cX4_init 22 0 23 := Or.inl ⟨0, by decide +kernel, rfl, rfl⟩
theorem dX4_init_23 : zk cX4_init 23 (nI 6) 25 := Or.inr <| Or.inl ⟨6, by decide +kernel, by decide +kernel, rfl⟩
theorem dX4_init_25 : zd cX4_init 25 (.invokestatic 22) 3 28 := ⟨by decide +kernel, rfl⟩
theorem dX4_init_28 : zd cX4_init 28 (.putfield 26) 3 31 := ⟨by decide +kernel, rfl⟩
theorem dX4_init_31 : zal cX4_init 31 0 32 := Or.inl ⟨0, by decide +kernel, rfl, rfl⟩
theorem dX4_init_32 : zk cX4_init 32 (nI 6) 34 := Or.inr <| Or.inl ⟨6, by decide +kernel, by decide +kernel, rfl⟩
theorem dX4_init_34 : zd cX4_init 34 (.newarray .int) 2 36 := ⟨by decide +kernel, rfl⟩
theorem dX4_init_36 : zd cX4_init 36 (.putfield 29) 3 39 := ⟨by decide +kernel, rfl⟩
theorem dX4_init_39 : zal cX4_init 39 0 40 := Or.inl ⟨0, by decide +kernel, rfl, rfl⟩
theorem dX4_init_40 : zk cX4_init 40 (nI 6) 42 := Or.inr <| Or.inl ⟨6, by decide +kernel, by decide +kernel, rfl⟩
theorem dX4_init_42 : zd cX4_init 42 (.newarray .int) 2 44 := ⟨by decide +kernel, rfl⟩
theorem dX4_init_44 : zd cX4_init 44 (.putfield 32) 3 47 := ⟨by decide +kernel, rfl⟩
theorem dX4_init_47 : zal cX4_init 47 0 48 := Or.inl ⟨0, by decide +kernel, rfl, rfl⟩
theorem dX4_init_48 : zk cX4_init 48 (nI 6) 50 := Or.inr <| Or.inl ⟨6, by decide +kernel, by decide +kernel, rfl⟩
theorem dX4_init_50 : zd cX4_init 50 (.newarray .int) 2 52 := ⟨by decide +kernel, rfl⟩
theorem dX4_init_52 : zd cX4_init 52 (.putfield 35) 3 55 := ⟨by decide +kernel, rfl⟩
theorem dX4_init_55 : zal cX4_init 55 0 56 := Or.inl ⟨0, by decide +kernel, rfl, rfl⟩
theorem dX4_init_56 : zk cX4_init 56 (nI 6) 58 := Or.inr <| Or.inl ⟨6, by decide +kernel, by decide +kernel, rfl⟩
theorem dX4_init_58 : zd cX4_init 58 (.newarray .int) 2 60 := ⟨by decide +kernel, rfl⟩
theorem dX4_init_60 : zd cX4_init 60 (.putfield 38) 3 63 := ⟨by decide +kernel, rfl⟩
theorem dX4_init_63 : zal cX4_init 63 0 64 := Or.inl ⟨0, by decide +kernel, rfl, rfl⟩
theorem dX4_init_64 : zk cX4_init 64 (nI 6) 66 := Or.inr <| Or.inl ⟨6, by decide +kernel, by decide +kernel, rfl⟩
theorem dX4_init_66 : zd cX4_init 66 (.newarray .int) 2 68 := ⟨by decide +kernel, rfl⟩
theorem dX4_init_68 : zd cX4_init 68 (.putfield 41) 3 71 := ⟨by decide +kernel, rfl⟩
theorem dX4_init_71 : zal cX4_init 71 0 72 := Or.inl ⟨0, by decide +kernel, rfl, rfl⟩
theorem dX4_init_72 : zk cX4_init 72 (nI 6) 74 := Or.inr <| Or.inl ⟨6, by decide +kernel, by decide +kernel, rfl⟩
theorem dX4_init_74 : zd cX4_init 74 (.newarray .int) 2 76 := ⟨by decide +kernel, rfl⟩
theorem dX4_init_76 : zd cX4_init 76 (.putfield 44) 3 79 := ⟨by decide +kernel, rfl⟩
theorem dX4_init_79 : zal cX4_init 79 0 80 := Or.inl ⟨0, by decide +kernel, rfl, rfl⟩
theorem dX4_init_80 : zk cX4_init 80 (nI 6) 82 := Or.inr <| Or.inl ⟨6, by decide +kernel, by decide +kernel, rfl⟩
theorem dX4_init_82 : zd cX4_init 82 (.newarray .int) 2 84 := ⟨by decide +kernel, rfl⟩
theorem dX4_init_84 : zd cX4_init 84 (.putfield 47) 3 87 := ⟨by decide +kernel, rfl⟩
theorem dX4_init_87 : zal cX4_init 87 0 88 := Or.inl ⟨0, by decide +kernel, rfl, rfl⟩
theorem dX4_init_88 : zk cX4_init 88 (nI 36) 90 := Or.inr <| Or.inl ⟨36, by decide +kernel, by decide +kernel, rfl⟩
theorem dX4_init_90 : zd cX4_init 90 (.newarray .int) 2 92 := ⟨by decide +kernel, rfl⟩
theorem dX4_init_92 : zd cX4_init 92 (.putfield 50) 3 95 := ⟨by decide +kernel, rfl⟩
theorem dX4_init_95 : zal cX4_init 95 0 96 := Or.inl ⟨0, by decide +kernel, rfl, rfl⟩
theorem dX4_init_96 : zk cX4_init 96 (nI 36) 98 := Or.inr <| Or.inl ⟨36, by decide +kernel, by decide +kernel, rfl⟩
theorem dX4_init_98 : zd cX4_init 98 (.invokestatic 22) 3 101 := ⟨by decide +kernel, rfl⟩
theorem dX4_init_101 : zd cX4_init 101 (.putfield 53) 3 104 := ⟨by decide +kernel, rfl⟩
theorem dX4_init_104 : zal cX4_init 104 0 105 := Or.inl ⟨0, by decide +kernel, rfl, rfl⟩
theorem dX4_init_105 : zk cX4_init 105 (nI 36) 107 := Or.inr <| Or.inl ⟨36, by decide +kernel, by decide +kernel, rfl⟩
theorem dX4_init_107 : zd cX4_init 107 (.invokestatic 22) 3 110 := ⟨by decide +kernel, rfl⟩
theorem dX4_init_110 : zd cX4_init 110 (.putfield 56) 3 113 := ⟨by decide +kernel, rfl⟩
theorem dX4_init_113 : zal cX4_init 113 0 114 := Or.inl ⟨0, by decide +kernel, rfl, rfl⟩
theorem dX4_init_114 : zd cX4_init 114 (.getfield 35) 3 117 := ⟨by decide +kernel, rfl⟩
theorem dX4_init_117 : zk cX4_init 117 (nI 16) 119 := Or.inr <| Or.inl ⟨16, by decide +kernel, by decide +kernel, rfl⟩
theorem dX4_init_119 : zd cX4_init 119 (.invokestatic 59) 3 122 := ⟨by decide +kernel, rfl⟩
theorem dX4_init_122 : zal cX4_init 122 0 123 := Or.inl ⟨0, by decide +kernel, rfl, rfl⟩
theorem dX4_init_123 : zd cX4_init 123 (.getfield 50) 3 126 := ⟨by decide +kernel, rfl⟩
theorem dX4_init_126 : zk cX4_init 126 (nI 4) 127 := Or.inl ⟨4, by decide +kernel, by decide +kernel, rfl⟩
theorem dX4_init_127 : zd cX4_init 127 (.invokestatic 59) 3 130 := ⟨by decide +kernel, rfl⟩
theorem dX4_init_130 : zd cX4_init 130 (.return_) 1 131 := ⟨by decide +kernel, rfl⟩
theorem oi_X5 : Cond.methodLink RX5 3 Lib.objectInit ∈ lw_tbl := zt2 (List.mem_of_getElem? (i := 0) (rfl : tables_1_2[0]? = some (Cond.methodLink RX5 3 Lib.objectInit)))
theorem it_X5 : Cond.instantiable RX5 13 ∈ lw_tbl := zt1 (List.mem_of_getElem? (i := 236) (rfl : tables_1_1[236]? = some (Cond.instantiable RX5 13)))
theorem iz_X5 : Cond.initialized RX5 ∈ lw_tbl := zt1 (List.mem_of_getElem? (i := 10) (rfl : tables_1_1[10]? = some (Cond.initialized RX5)))
theorem dX5_init_0 : zal cX5_init 0 0 1 := Or.inl ⟨0, by decide +kernel, rfl, rfl⟩
theorem dX5_init_1 : zd cX5_init 1 (.invokespecial 3) 3 4 := ⟨by decide +kernel, rfl⟩
theorem dX5_init_4 : zal cX5_init 4 0 5 := Or.inl ⟨0, by decide +kernel, rfl, rfl⟩
theorem dX5_init_5 : zk cX5_init 5 (nI 72) 7 := Or.inr <| Or.inl ⟨72, by decide +kernel, by decide +kernel, rfl⟩
theorem dX5_init_7 : zd cX5_init 7 (.invokestatic 11) 3 10 := ⟨by decide +kernel, rfl⟩
theorem dX5_init_10 : zd cX5_init 10 (.putfield 15) 3 13 := ⟨by decide +kernel, rfl⟩
theorem dX5_init_13 : zal cX5_init 13 0 14 := Or.inl ⟨0, by decide +kernel, rfl, rfl⟩
theorem dX5_init_14 : zk cX5_init 14 (nI 72) 16 := Or.inr <| Or.inl ⟨72, by decide +kernel, by decide +kernel, rfl⟩
theorem dX5_init_16 : zd cX5_init 16 (.newarray .int) 2 18 := ⟨by decide +kernel, rfl⟩
theorem dX5_init_18 : zd cX5_init 18 (.putfield 19) 3 21 := ⟨by decide +kernel, rfl⟩
theorem dX5_init_21 : zal cX5_init 21 0 22 := Or.inl ⟨0, by decide +kernel, rfl, rfl⟩
theorem dX5_init_22 : zk cX5_init 22 (nI 72) 24 := Or.inr <| Or.inl ⟨72, by decide +kernel, by decide +kernel, rfl⟩
theorem dX5_init_24 : zd cX5_init 24 (.newarray .int) 2 26 := ⟨by decide +kernel, rfl⟩
theorem dX5_init_26 : zd cX5_init 26 (.putfield 22) 3 29 := ⟨by decide +kernel, rfl⟩
theorem dX5_init_29 : zal cX5_init 29 0 30 := Or.inl ⟨0, by decide +kernel, rfl, rfl⟩
theorem dX5_init_30 : zk cX5_init 30 (nI 72) 32 := Or.inr <| Or.inl ⟨72, by decide +kernel, by decide +kernel, rfl⟩
theorem dX5_init_32 : zd cX5_init 32 (.newarray .int) 2 34 := ⟨by decide +kernel, rfl⟩
theorem dX5_init_34 : zd cX5_init 34 (.putfield 25) 3 37 := ⟨by decide +kernel, rfl⟩
theorem dX5_init_37 : zal cX5_init 37 0 38 := Or.inl ⟨0, by decide +kernel, rfl, rfl⟩
theorem dX5_init_38 : zk cX5_init 38 (nI 72) 40 := Or.inr <| Or.inl ⟨72, by decide +kernel, by decide +kernel, rfl⟩
theorem dX5_init_40 : zd cX5_init 40 (.newarray .int) 2 42 := ⟨by decide +kernel, rfl⟩
theorem dX5_init_42 : zd cX5_init 42 (.putfield 28) 3 45 := ⟨by decide +kernel, rfl⟩
theorem dX5_init_45 : zal cX5_init 45 0 46 := Or.inl ⟨0, by decide +kernel, rfl, rfl⟩
theorem dX5_init_46 : zk cX5_init 46 (nI 72) 48 := Or.inr <| Or.inl ⟨72, by decide +kernel, by decide +kernel, rfl⟩
theorem dX5_init_48 : zd cX5_init 48 (.invokestatic 11) 3 51 := ⟨by decide +kernel, rfl⟩
theorem dX5_init_51 : zd cX5_init 51 (.putfield 31) 3 54 := ⟨by decide +kernel, rfl⟩
theorem dX5_init_54 : zal cX5_init 54 0 55 := Or.inl ⟨0, by decide +kernel, rfl, rfl⟩
theorem dX5_init_55 : zk cX5_init 55 (nI 72) 57 := Or.inr <| Or.inl ⟨72, by decide +kernel, by decide +kernel, rfl⟩
theorem dX5_init_57 : zd cX5_init 57 (.invokestatic 11) 3 60 := ⟨by decide +kernel, rfl⟩
theorem dX5_init_60 : zd cX5_init 60 (.putfield 34) 3 63 := ⟨by decide +kernel, rfl⟩
theorem dX5_init_63 : zal cX5_init 63 0 64 := Or.inl ⟨0, by decide +kernel, rfl, rfl⟩
theorem dX5_init_64 : zk cX5_init 64 (nI 72) 66 := Or.inr <| Or.inl ⟨72, by decide +kernel, by decide +kernel, rfl⟩
theorem dX5_init_66 : zd cX5_init 66 (.invokestatic 11) 3 69 := ⟨by decide +kernel, rfl⟩
theorem dX5_init_69 : zd cX5_init 69 (.putfield 37) 3 72 := ⟨by decide +kernel, rfl⟩
theorem dX5_init_72 : zal cX5_init 72 0 73 := Or.inl ⟨0, by decide +kernel, rfl, rfl⟩
theorem dX5_init_73 : zk cX5_init 73 (nI 72) 75 := Or.inr <| Or.inl ⟨72, by decide +kernel, by decide +kernel, rfl⟩
theorem dX5_init_75 : zd cX5_init 75 (.newarray .int) 2 77 := ⟨by decide +kernel, rfl⟩
theorem dX5_init_77 : zd cX5_init 77 (.putfield 40) 3 80 := ⟨by decide +kernel, rfl⟩
theorem dX5_init_80 : zal cX5_init 80 0 81 := Or.inl ⟨0, by decide +kernel, rfl, rfl⟩
theorem dX5_init_81 : zk cX5_init 81 (nI 72) 83 := Or.inr <| Or.inl ⟨72, by decide +kernel, by decide +kernel, rfl⟩
theorem dX5_init_83 : zd cX5_init 83 (.invokestatic 11) 3 86 := ⟨by decide +kernel, rfl⟩
theorem dX5_init_86 : zd cX5_init 86 (.putfield 43) 3 89 := ⟨by decide +kernel, rfl⟩
theorem dX5_init_89 : zal cX5_init 89 0 90 := Or.inl ⟨0, by decide +kernel, rfl, rfl⟩
theorem dX5_init_90 : zk cX5_init 90 (nI 72) 92 := Or.inr <| Or.inl ⟨72, by decide +kernel, by decide +kernel, rfl⟩
theorem dX5_init_92 : zd cX5_init 92 (.newarray .int) 2 94 := ⟨by decide +kernel, rfl⟩
theorem dX5_init_94 : zd cX5_init 94 (.putfield 46) 3 97 := ⟨by decide +kernel, rfl⟩
theorem dX5_init_97 : zal cX5_init 97 0 98 := Or.inl ⟨0, by decide +kernel, rfl, rfl⟩
theorem dX5_init_98 : zk cX5_init 98 (nI 72) 100 := Or.inr <| Or.inl ⟨72, by decide +kernel, by decide +kernel, rfl⟩
theorem dX5_init_100 : zd cX5_init 100 (.invokestatic 11) 3 103 := ⟨by decide +kernel, rfl⟩
theorem dX5_init_103 : zd cX5_init 103 (.putfield 49) 3 106 := ⟨by decide +kernel, rfl⟩
theorem dX5_init_106 : zal cX5_init 106 0 107 := Or.inl ⟨0, by decide +kernel, rfl, rfl⟩
theorem dX5_init_107 : zk cX5_init 107 (nI 72) 109 := Or.inr <| Or.inl ⟨72, by decide +kernel, by decide +kernel, rfl⟩
theorem dX5_init_109 : zd cX5_init 109 (.invokestatic 11) 3 112 := ⟨by decide +kernel, rfl⟩
theorem dX5_init_112 : zd cX5_init 112 (.putfield 52) 3 115 := ⟨by decide +kernel, rfl⟩
theorem dX5_init_115 : zd cX5_init 115 (.return_) 1 116 := ⟨by decide +kernel, rfl⟩
theorem oi_X2 : Cond.methodLink RX2 3 Lib.objectInit ∈ lw_tbl := zt2 (List.mem_of_getElem? (i := 66) (rfl : tables_1_2[66]? = some (Cond.methodLink RX2 3 Lib.objectInit)))
theorem it_X2 : Cond.instantiable RX2 7 ∈ lw_tbl := zt2 (List.mem_of_getElem? (i := 62) (rfl : tables_1_2[62]? = some (Cond.instantiable RX2 7)))
theorem iz_X2 : Cond.initialized RX2 ∈ lw_tbl := zt1 (List.mem_of_getElem? (i := 11) (rfl : tables_1_1[11]? = some (Cond.initialized RX2)))
theorem dX2_init_0 : zal cX2_init 0 0 1 := Or.inl ⟨0, by decide +kernel, rfl, rfl⟩
theorem dX2_init_1 : zd cX2_init 1 (.invokespecial 3) 3 4 := ⟨by decide +kernel, rfl⟩
theorem dX2_init_4 : zal cX2_init 4 0 5 := Or.inl ⟨0, by decide +kernel, rfl, rfl⟩
theorem dX2_init_5 : zk cX2_init 5 (nI 0) 6 := Or.inl ⟨0, by decide +kernel, by decide +kernel, rfl⟩
theorem dX2_init_6 : zd cX2_init 6 (.putfield 9) 3 9 := ⟨by decide +kernel, rfl⟩
theorem dX2_init_9 : zal cX2_init 9 0 10 := Or.inl ⟨0, by decide +kernel, rfl, rfl⟩
theorem dX2_init_10 : zk cX2_init 10 (nI 0) 11 := Or.inl ⟨0, by decide +kernel, by decide +kernel, rfl⟩
theorem dX2_init_11 : zd cX2_init 11 (.putfield 15) 3 14 := ⟨by decide +kernel, rfl⟩
theorem dX2_init_14 : zal cX2_init 14 0 15 := Or.inl ⟨0, by decide +kernel, rfl, rfl⟩
theorem dX2_init_15 : zk cX2_init 15 (nI 10) 17 := Or.inr <| Or.inl ⟨10, by decide +kernel, by decide +kernel, rfl⟩
theorem dX2_init_17 : zd cX2_init 17 (.newarray .int) 2 19 := ⟨by decide +kernel, rfl⟩
theorem dX2_init_19 : zd cX2_init 19 (.putfield 18) 3 22 := ⟨by decide +kernel, rfl⟩
theorem dX2_init_22 : zal cX2_init 22 0 23 := Or.inl ⟨0, by decide +kernel, rfl, rfl⟩
theorem dX2_init_23 : zk cX2_init 23 (nI 10) 25 := Or.inr <| Or.inl ⟨10, by decide +kernel, by decide +kernel, rfl⟩
theorem dX2_init_25 : zd cX2_init 25 (.newarray .int) 2 27 := ⟨by decide +kernel, rfl⟩
theorem dX2_init_27 : zd cX2_init 27 (.putfield 22) 3 30 := ⟨by decide +kernel, rfl⟩
theorem dX2_init_30 : zal cX2_init 30 0 31 := Or.inl ⟨0, by decide +kernel, rfl, rfl⟩
theorem dX2_init_31 : zk cX2_init 31 (nI 10) 33 := Or.inr <| Or.inl ⟨10, by decide +kernel, by decide +kernel, rfl⟩
theorem dX2_init_33 : zd cX2_init 33 (.newarray .int) 2 35 := ⟨by decide +kernel, rfl⟩
theorem dX2_init_35 : zd cX2_init 35 (.putfield 25) 3 38 := ⟨by decide +kernel, rfl⟩
theorem dX2_init_38 : zal cX2_init 38 0 39 := Or.inl ⟨0, by decide +kernel, rfl, rfl⟩
theorem dX2_init_39 : zk cX2_init 39 (nI 10) 41 := Or.inr <| Or.inl ⟨10, by decide +kernel, by decide +kernel, rfl⟩
theorem dX2_init_41 : zd cX2_init 41 (.newarray .int) 2 43 := ⟨by decide +kernel, rfl⟩
theorem dX2_init_43 : zd cX2_init 43 (.putfield 28) 3 46 := ⟨by decide +kernel, rfl⟩
theorem dX2_init_46 : zal cX2_init 46 0 47 := Or.inl ⟨0, by decide +kernel, rfl, rfl⟩
theorem dX2_init_47 : zk cX2_init 47 (nI 10) 49 := Or.inr <| Or.inl ⟨10, by decide +kernel, by decide +kernel, rfl⟩
theorem dX2_init_49 : zd cX2_init 49 (.newarray .int) 2 51 := ⟨by decide +kernel, rfl⟩
theorem dX2_init_51 : zd cX2_init 51 (.putfield 31) 3 54 := ⟨by decide +kernel, rfl⟩
theorem dX2_init_54 : zd cX2_init 54 (.return_) 1 55 := ⟨by decide +kernel, rfl⟩
theorem oi_X9 : Cond.methodLink RX9 3 Lib.objectInit ∈ lw_tbl := zt2 (List.mem_of_getElem? (i := 107) (rfl : tables_1_2[107]? = some (Cond.methodLink RX9 3 Lib.objectInit)))
theorem it_X9 : Cond.instantiable RX9 7 ∈ lw_tbl := zt2 (List.mem_of_getElem? (i := 103) (rfl : tables_1_2[103]? = some (Cond.instantiable RX9 7)))
theorem iz_X9 : Cond.initialized RX9 ∈ lw_tbl := zt1 (List.mem_of_getElem? (i := 12) (rfl : tables_1_1[12]? = some (Cond.initialized RX9)))
theorem dX9_init_0 : zal cX9_init 0 0 1 := Or.inl ⟨0, by decide +kernel, rfl, rfl⟩
theorem dX9_init_1 : zd cX9_init 1 (.invokespecial 3) 3 4 := ⟨by decide +kernel, rfl⟩
theorem dX9_init_4 : zal cX9_init 4 0 5 := Or.inl ⟨0, by decide +kernel, rfl, rfl⟩
theorem dX9_init_5 : zk cX9_init 5 (nI 0) 6 := Or.inl ⟨0, by decide +kernel, by decide +kernel, rfl⟩
theorem dX9_init_6 : zd cX9_init 6 (.putfield 9) 3 9 := ⟨by decide +kernel, rfl⟩
theorem dX9_init_9 : zal cX9_init 9 0 10 := Or.inl ⟨0, by decide +kernel, rfl, rfl⟩
theorem dX9_init_10 : zk cX9_init 10 (nI 36) 12 := Or.inr <| Or.inl ⟨36, by decide +kernel, by decide +kernel, rfl⟩
theorem dX9_init_12 : zd cX9_init 12 (.invokestatic 15) 3 15 := ⟨by decide +kernel, rfl⟩
theorem dX9_init_15 : zd cX9_init 15 (.putfield 19) 3 18 := ⟨by decide +kernel, rfl⟩
theorem dX9_init_18 : zal cX9_init 18 0 19 := Or.inl ⟨0, by decide +kernel, rfl, rfl⟩
theorem dX9_init_19 : zk cX9_init 19 (nI 36) 21 := Or.inr <| Or.inl ⟨36, by decide +kernel, by decide +kernel, rfl⟩
theorem dX9_init_21 : zd cX9_init 21 (.invokestatic 15) 3 24 := ⟨by decide +kernel, rfl⟩
theorem dX9_init_24 : zd cX9_init 24 (.putfield 23) 3 27 := ⟨by decide +kernel, rfl⟩
theorem dX9_init_27 : zal cX9_init 27 0 28 := Or.inl ⟨0, by decide +kernel, rfl, rfl⟩
theorem dX9_init_28 : zk cX9_init 28 (nI 36) 30 := Or.inr <| Or.inl ⟨36, by decide +kernel, by decide +kernel, rfl⟩
theorem dX9_init_30 : zd cX9_init 30 (.invokestatic 15) 3 33 := ⟨by decide +kernel, rfl⟩
theorem dX9_init_33 : zd cX9_init 33 (.putfield 26) 3 36 := ⟨by decide +kernel, rfl⟩
theorem dX9_init_36 : zal cX9_init 36 0 37 := Or.inl ⟨0, by decide +kernel, rfl, rfl⟩
theorem dX9_init_37 : zk cX9_init 37 (nI 36) 39 := Or.inr <| Or.inl ⟨36, by decide +kernel, by decide +kernel, rfl⟩
theorem dX9_init_39 : zd cX9_init 39 (.invokestatic 15) 3 42 := ⟨by decide +kernel, rfl⟩
theorem dX9_init_42 : zd cX9_init 42 (.putfield 29) 3 45 := ⟨by decide +kernel, rfl⟩
theorem dX9_init_45 : zal cX9_init 45 0 46 := Or.inl ⟨0, by decide +kernel, rfl, rfl⟩
theorem dX9_init_46 : zk cX9_init 46 (nI 36) 48 := Or.inr <| Or.inl ⟨36, by decide +kernel, by decide +kernel, rfl⟩
theorem dX9_init_48 : zd cX9_init 48 (.invokestatic 15) 3 51 := ⟨by decide +kernel, rfl⟩
theorem dX9_init_51 : zd cX9_init 51 (.putfield 32) 3 54 := ⟨by decide +kernel, rfl⟩
theorem dX9_init_54 : zal cX9_init 54 0 55 := Or.inl ⟨0, by decide +kernel, rfl, rfl⟩
theorem dX9_init_55 : zk cX9_init 55 (nI 6) 57 := Or.inr <| Or.inl ⟨6, by decide +kernel, by decide +kernel, rfl⟩
theorem dX9_init_57 : zd cX9_init 57 (.newarray .int) 2 59 := ⟨by decide +kernel, rfl⟩
theorem dX9_init_59 : zd cX9_init 59 (.putfield 35) 3 62 := ⟨by decide +kernel, rfl⟩
theorem dX9_init_62 : zd cX9_init 62 (.return_) 1 63 := ⟨by decide +kernel, rfl⟩
theorem oi_X0 : Cond.methodLink RX0 3 Lib.objectInit ∈ lw_tbl := zt2 (List.mem_of_getElem? (i := 145) (rfl : tables_1_2[145]? = some (Cond.methodLink RX0 3 Lib.objectInit)))
theorem it_X0 : Cond.instantiable RX0 11 ∈ lw_tbl := zt2 (List.mem_of_getElem? (i := 141) (rfl : tables_1_2[141]? = some (Cond.instantiable RX0 11)))
theorem iz_X0 : Cond.initialized RX0 ∈ lw_tbl := zt1 (List.mem_of_getElem? (i := 13) (rfl : tables_1_1[13]? = some (Cond.initialized RX0)))
theorem dX0_init_0 : zal cX0_init 0 0 1 := Or.inl ⟨0, by decide +kernel, rfl, rfl⟩
theorem dX0_init_1 : zd cX0_init 1 (.invokespecial 3) 3 4 := ⟨by decide +kernel, rfl⟩
theorem dX0_init_4 : zal cX0_init 4 0 5 := Or.inl ⟨0, by decide +kernel, rfl, rfl⟩
theorem dX0_init_5 : zk cX0_init 5 (nI 0) 6 := Or.inl ⟨0, by decide +kernel, by decide +kernel, rfl⟩
theorem dX0_init_6 : zd cX0_init 6 (.putfield 9) 3 9 := ⟨by decide +kernel, rfl⟩
theorem dX0_init_9 : zal cX0_init 9 0 10 := Or.inl ⟨0, by decide +kernel, rfl, rfl⟩
theorem dX0_init_10 : zk cX0_init 10 (nI 64) 12 := Or.inr <| Or.inl ⟨64, by decide +kernel, by decide +kernel, rfl⟩
theorem dX0_init_12 : zd cX0_init 12 (.newarray .int) 2 14 := ⟨by decide +kernel, rfl⟩
theorem dX0_init_14 : zd cX0_init 14 (.putfield 15) 3 17 := ⟨by decide +kernel, rfl⟩
theorem dX0_init_17 : zal cX0_init 17 0 18 := Or.inl ⟨0, by decide +kernel, rfl, rfl⟩
theorem dX0_init_18 : zk cX0_init 18 (nI 64) 20 := Or.inr <| Or.inl ⟨64, by decide +kernel, by decide +kernel, rfl⟩
theorem dX0_init_20 : zd cX0_init 20 (.newarray .int) 2 22 := ⟨by decide +kernel, rfl⟩
theorem dX0_init_22 : zd cX0_init 22 (.putfield 19) 3 25 := ⟨by decide +kernel, rfl⟩
theorem dX0_init_25 : zal cX0_init 25 0 26 := Or.inl ⟨0, by decide +kernel, rfl, rfl⟩
theorem dX0_init_26 : zk cX0_init 26 (nI 64) 28 := Or.inr <| Or.inl ⟨64, by decide +kernel, by decide +kernel, rfl⟩
theorem dX0_init_28 : zd cX0_init 28 (.newarray .int) 2 30 := ⟨by decide +kernel, rfl⟩
theorem dX0_init_30 : zd cX0_init 30 (.putfield 22) 3 33 := ⟨by decide +kernel, rfl⟩
theorem dX0_init_33 : zal cX0_init 33 0 34 := Or.inl ⟨0, by decide +kernel, rfl, rfl⟩
theorem dX0_init_34 : zk cX0_init 34 (nI 64) 36 := Or.inr <| Or.inl ⟨64, by decide +kernel, by decide +kernel, rfl⟩
theorem dX0_init_36 : zd cX0_init 36 (.newarray .int) 2 38 := ⟨by decide +kernel, rfl⟩
theorem dX0_init_38 : zd cX0_init 38 (.putfield 25) 3 41 := ⟨by decide +kernel, rfl⟩
theorem dX0_init_41 : zal cX0_init 41 0 42 := Or.inl ⟨0, by decide +kernel, rfl, rfl⟩
theorem dX0_init_42 : zk cX0_init 42 (nI 64) 44 := Or.inr <| Or.inl ⟨64, by decide +kernel, by decide +kernel, rfl⟩
theorem dX0_init_44 : zd cX0_init 44 (.newarray .int) 2 46 := ⟨by decide +kernel, rfl⟩
theorem dX0_init_46 : zd cX0_init 46 (.putfield 28) 3 49 := ⟨by decide +kernel, rfl⟩
theorem dX0_init_49 : zal cX0_init 49 0 50 := Or.inl ⟨0, by decide +kernel, rfl, rfl⟩
theorem dX0_init_50 : zk cX0_init 50 (nI 64) 52 := Or.inr <| Or.inl ⟨64, by decide +kernel, by decide +kernel, rfl⟩
theorem dX0_init_52 : zd cX0_init 52 (.newarray .int) 2 54 := ⟨by decide +kernel, rfl⟩
theorem dX0_init_54 : zd cX0_init 54 (.putfield 31) 3 57 := ⟨by decide +kernel, rfl⟩
theorem dX0_init_57 : zal cX0_init 57 0 58 := Or.inl ⟨0, by decide +kernel, rfl, rfl⟩
theorem dX0_init_58 : zk cX0_init 58 (nI 64) 60 := Or.inr <| Or.inl ⟨64, by decide +kernel, by decide +kernel, rfl⟩
theorem dX0_init_60 : zd cX0_init 60 (.newarray .int) 2 62 := ⟨by decide +kernel, rfl⟩
theorem dX0_init_62 : zd cX0_init 62 (.putfield 34) 3 65 := ⟨by decide +kernel, rfl⟩
theorem dX0_init_65 : zal cX0_init 65 0 66 := Or.inl ⟨0, by decide +kernel, rfl, rfl⟩
theorem dX0_init_66 : zk cX0_init 66 (nI 64) 68 := Or.inr <| Or.inl ⟨64, by decide +kernel, by decide +kernel, rfl⟩
theorem dX0_init_68 : zd cX0_init 68 (.newarray .int) 2 70 := ⟨by decide +kernel, rfl⟩
theorem dX0_init_70 : zd cX0_init 70 (.putfield 37) 3 73 := ⟨by decide +kernel, rfl⟩
theorem dX0_init_73 : zal cX0_init 73 0 74 := Or.inl ⟨0, by decide +kernel, rfl, rfl⟩
theorem dX0_init_74 : zk cX0_init 74 (nI 64) 76 := Or.inr <| Or.inl ⟨64, by decide +kernel, by decide +kernel, rfl⟩
theorem dX0_init_76 : zd cX0_init 76 (.newarray .int) 2 78 := ⟨by decide +kernel, rfl⟩
theorem dX0_init_78 : zd cX0_init 78 (.putfield 40) 3 81 := ⟨by decide +kernel, rfl⟩
theorem dX0_init_81 : zal cX0_init 81 0 82 := Or.inl ⟨0, by decide +kernel, rfl, rfl⟩
theorem dX0_init_82 : zk cX0_init 82 (nI 64) 84 := Or.inr <| Or.inl ⟨64, by decide +kernel, by decide +kernel, rfl⟩
theorem dX0_init_84 : zd cX0_init 84 (.newarray .int) 2 86 := ⟨by decide +kernel, rfl⟩
theorem dX0_init_86 : zd cX0_init 86 (.putfield 43) 3 89 := ⟨by decide +kernel, rfl⟩
theorem dX0_init_89 : zd cX0_init 89 (.return_) 1 90 := ⟨by decide +kernel, rfl⟩
theorem oi_X3 : Cond.methodLink RX3 3 Lib.objectInit ∈ lw_tbl := zt2 (List.mem_of_getElem? (i := 203) (rfl : tables_1_2[203]? = some (Cond.methodLink RX3 3 Lib.objectInit)))
theorem it_X3 : Cond.instantiable RX3 3 ∈ lw_tbl := zt2 (List.mem_of_getElem? (i := 199) (rfl : tables_1_2[199]? = some (Cond.instantiable RX3 3)))
theorem iz_X3 : Cond.initialized RX3 ∈ lw_tbl := zt1 (List.mem_of_getElem? (i := 14) (rfl : tables_1_1[14]? = some (Cond.initialized RX3)))
theorem dX3_init_0 : zal cX3_init 0 0 1 := Or.inl ⟨0, by decide +kernel, rfl, rfl⟩
theorem dX3_init_1 : zd cX3_init 1 (.invokespecial 3) 3 4 := ⟨by decide +kernel, rfl⟩
theorem dX3_init_4 : zal cX3_init 4 0 5 := Or.inl ⟨0, by decide +kernel, rfl, rfl⟩
theorem dX3_init_5 : zk cX3_init 5 (nI 0) 6 := Or.inl ⟨0, by decide +kernel, by decide +kernel, rfl⟩
theorem dX3_init_6 : zd cX3_init 6 (.putfield 9) 3 9 := ⟨by decide +kernel, rfl⟩
theorem dX3_init_9 : zal cX3_init 9 0 10 := Or.inl ⟨0, by decide +kernel, rfl, rfl⟩
theorem dX3_init_10 : zk cX3_init 10 (nI 0) 11 := Or.inl ⟨0, by decide +kernel, by decide +kernel, rfl⟩
theorem dX3_init_11 : zd cX3_init 11 (.putfield 15) 3 14 := ⟨by decide +kernel, rfl⟩
theorem dX3_init_14 : zal cX3_init 14 0 15 := Or.inl ⟨0, by decide +kernel, rfl, rfl⟩
theorem dX3_init_15 : zk cX3_init 15 (nI 240) 18 := Or.inr <| Or.inr ⟨240, by decide +kernel, by decide +kernel, rfl⟩
theorem dX3_init_18 : zd cX3_init 18 (.newarray .int) 2 20 := ⟨by decide +kernel, rfl⟩
theorem dX3_init_20 : zd cX3_init 20 (.putfield 18) 3 23 := ⟨by decide +kernel, rfl⟩
theorem dX3_init_23 : zd cX3_init 23 (.return_) 1 24 := ⟨by decide +kernel, rfl⟩
theorem oi_X10 : Cond.methodLink RX10 3 Lib.objectInit ∈ lw_tbl := zt1 (List.mem_of_getElem? (i := 78) (rfl : tables_1_1[78]? = some (Cond.methodLink RX10 3 Lib.objectInit)))
theorem it_X10 : Cond.instantiable RX10 14 ∈ lw_tbl := zt1 (List.mem_of_getElem? (i := 74) (rfl : tables_1_1[74]? = some (Cond.instantiable RX10 14)))
theorem iz_X10 : Cond.initialized RX10 ∈ lw_tbl := zt1 (List.mem_of_getElem? (i := 4) (rfl : tables_1_1[4]? = some (Cond.initialized RX10)))
theorem dX10_init_0 : zal cX10_init 0 0 1 := Or.inl ⟨0, by decide +kernel, rfl, rfl⟩
theorem dX10_init_1 : zd cX10_init 1 (.invokespecial 3) 3 4 := ⟨by decide +kernel, rfl⟩
theorem dX10_init_4 : zal cX10_init 4 0 5 := Or.inl ⟨0, by decide +kernel, rfl, rfl⟩
theorem dX10_init_5 : zd cX10_init 5 (.new 9) 3 8 := ⟨by decide +kernel, rfl⟩
theorem dX10_init_8 : zd cX10_init 8 (.dup) 1 9 := ⟨by decide +kernel, rfl⟩
theorem dX10_init_9 : zd cX10_init 9 (.invokespecial 11) 3 12 := ⟨by decide +kernel, rfl⟩
theorem dX10_init_12 : zd cX10_init 12 (.putfield 12) 3 15 := ⟨by decide +kernel, rfl⟩
theorem dX10_init_15 : zal cX10_init 15 0 16 := Or.inl ⟨0, by decide +kernel, rfl, rfl⟩
theorem dX10_init_16 : zd cX10_init 16 (.new 18) 3 19 := ⟨by decide +kernel, rfl⟩
theorem dX10_init_19 : zd cX10_init 19 (.dup) 1 20 := ⟨by decide +kernel, rfl⟩
theorem dX10_init_20 : zd cX10_init 20 (.invokespecial 20) 3 23 := ⟨by decide +kernel, rfl⟩
theorem dX10_init_23 : zd cX10_init 23 (.putfield 21) 3 26 := ⟨by decide +kernel, rfl⟩
theorem dX10_init_26 : zal cX10_init 26 0 27 := Or.inl ⟨0, by decide +kernel, rfl, rfl⟩
theorem dX10_init_27 : zd cX10_init 27 (.new 25) 3 30 := ⟨by decide +kernel, rfl⟩
theorem dX10_init_30 : zd cX10_init 30 (.dup) 1 31 := ⟨by decide +kernel, rfl⟩
theorem dX10_init_31 : zd cX10_init 31 (.invokespecial 27) 3 34 := ⟨by decide +kernel, rfl⟩
theorem dX10_init_34 : zd cX10_init 34 (.putfield 28) 3 37 := ⟨by decide +kernel, rfl⟩
theorem dX10_init_37 : zal cX10_init 37 0 38 := Or.inl ⟨0, by decide +kernel, rfl, rfl⟩
theorem dX10_init_38 : zd cX10_init 38 (.new 32) 3 41 := ⟨by decide +kernel, rfl⟩
theorem dX10_init_41 : zd cX10_init 41 (.dup) 1 42 := ⟨by decide +kernel, rfl⟩
theorem dX10_init_42 : zd cX10_init 42 (.invokespecial 34) 3 45 := ⟨by decide +kernel, rfl⟩
theorem dX10_init_45 : zd cX10_init 45 (.putfield 35) 3 48 := ⟨by decide +kernel, rfl⟩
theorem dX10_init_48 : zal cX10_init 48 0 49 := Or.inl ⟨0, by decide +kernel, rfl, rfl⟩
theorem dX10_init_49 : zd cX10_init 49 (.new 39) 3 52 := ⟨by decide +kernel, rfl⟩
theorem dX10_init_52 : zd cX10_init 52 (.dup) 1 53 := ⟨by decide +kernel, rfl⟩
theorem dX10_init_53 : zd cX10_init 53 (.invokespecial 41) 3 56 := ⟨by decide +kernel, rfl⟩
theorem dX10_init_56 : zd cX10_init 56 (.putfield 42) 3 59 := ⟨by decide +kernel, rfl⟩
theorem dX10_init_59 : zal cX10_init 59 0 60 := Or.inl ⟨0, by decide +kernel, rfl, rfl⟩
theorem dX10_init_60 : zd cX10_init 60 (.new 46) 3 63 := ⟨by decide +kernel, rfl⟩
theorem dX10_init_63 : zd cX10_init 63 (.dup) 1 64 := ⟨by decide +kernel, rfl⟩
theorem dX10_init_64 : zd cX10_init 64 (.invokespecial 48) 3 67 := ⟨by decide +kernel, rfl⟩
theorem dX10_init_67 : zd cX10_init 67 (.putfield 49) 3 70 := ⟨by decide +kernel, rfl⟩
theorem dX10_init_70 : zal cX10_init 70 0 71 := Or.inl ⟨0, by decide +kernel, rfl, rfl⟩
theorem dX10_init_71 : zd cX10_init 71 (.new 53) 3 74 := ⟨by decide +kernel, rfl⟩
theorem dX10_init_74 : zd cX10_init 74 (.dup) 1 75 := ⟨by decide +kernel, rfl⟩
theorem dX10_init_75 : zd cX10_init 75 (.invokespecial 55) 3 78 := ⟨by decide +kernel, rfl⟩
theorem dX10_init_78 : zd cX10_init 78 (.putfield 56) 3 81 := ⟨by decide +kernel, rfl⟩
theorem dX10_init_81 : zal cX10_init 81 0 82 := Or.inl ⟨0, by decide +kernel, rfl, rfl⟩
theorem dX10_init_82 : zd cX10_init 82 (.new 60) 3 85 := ⟨by decide +kernel, rfl⟩
theorem dX10_init_85 : zd cX10_init 85 (.dup) 1 86 := ⟨by decide +kernel, rfl⟩
theorem dX10_init_86 : zd cX10_init 86 (.invokespecial 62) 3 89 := ⟨by decide +kernel, rfl⟩
theorem dX10_init_89 : zd cX10_init 89 (.putfield 63) 3 92 := ⟨by decide +kernel, rfl⟩
theorem dX10_init_92 : zal cX10_init 92 0 93 := Or.inl ⟨0, by decide +kernel, rfl, rfl⟩
theorem dX10_init_93 : zk cX10_init 93 (nI 0) 94 := Or.inl ⟨0, by decide +kernel, by decide +kernel, rfl⟩
theorem dX10_init_94 : zd cX10_init 94 (.putfield 67) 3 97 := ⟨by decide +kernel, rfl⟩
theorem dX10_init_97 : zal cX10_init 97 0 98 := Or.inl ⟨0, by decide +kernel, rfl, rfl⟩
theorem dX10_init_98 : zk cX10_init 98 (nI 0) 99 := Or.inl ⟨0, by decide +kernel, by decide +kernel, rfl⟩
theorem dX10_init_99 : zd cX10_init 99 (.putfield 71) 3 102 := ⟨by decide +kernel, rfl⟩
theorem dX10_init_102 : zal cX10_init 102 0 103 := Or.inl ⟨0, by decide +kernel, rfl, rfl⟩
theorem dX10_init_103 : zk cX10_init 103 (nI 0) 104 := Or.inl ⟨0, by decide +kernel, by decide +kernel, rfl⟩
theorem dX10_init_104 : zd cX10_init 104 (.putfield 74) 3 107 := ⟨by decide +kernel, rfl⟩
theorem dX10_init_107 : zal cX10_init 107 0 108 := Or.inl ⟨0, by decide +kernel, rfl, rfl⟩
theorem dX10_init_108 : zk cX10_init 108 (nI 0) 109 := Or.inl ⟨0, by decide +kernel, by decide +kernel, rfl⟩
theorem dX10_init_109 : zd cX10_init 109 (.putfield 77) 3 112 := ⟨by decide +kernel, rfl⟩
theorem dX10_init_112 : zal cX10_init 112 0 113 := Or.inl ⟨0, by decide +kernel, rfl, rfl⟩
theorem dX10_init_113 : zk cX10_init 113 (nI 0) 114 := Or.inl ⟨0, by decide +kernel, by decide +kernel, rfl⟩
theorem dX10_init_114 : zd cX10_init 114 (.putfield 80) 3 117 := ⟨by decide +kernel, rfl⟩
theorem dX10_init_117 : zal cX10_init 117 0 118 := Or.inl ⟨0, by decide +kernel, rfl, rfl⟩
theorem dX10_init_118 : zk cX10_init 118 (nI 0) 119 := Or.inl ⟨0, by decide +kernel, by decide +kernel, rfl⟩
theorem dX10_init_119 : zd cX10_init 119 (.putfield 83) 3 122 := ⟨by decide +kernel, rfl⟩
theorem dX10_init_122 : zd cX10_init 122 (.return_) 1 123 := ⟨by decide +kernel, rfl⟩
theorem oi_X7 : Cond.methodLink RX7 3 Lib.objectInit ∈ lw_tbl := zt1 (List.mem_of_getElem? (i := 43) (rfl : tables_1_1[43]? = some (Cond.methodLink RX7 3 Lib.objectInit)))
theorem it_X7 : Cond.instantiable RX7 2 ∈ lw_tbl := zt1 (List.mem_of_getElem? (i := 39) (rfl : tables_1_1[39]? = some (Cond.instantiable RX7 2)))
theorem iz_X7 : Cond.initialized RX7 ∈ lw_tbl := zt1 (List.mem_of_getElem? (i := 2) (rfl : tables_1_1[2]? = some (Cond.initialized RX7)))
theorem dX7_init_0 : zal cX7_init 0 0 1 := Or.inl ⟨0, by decide +kernel, rfl, rfl⟩
theorem dX7_init_1 : zd cX7_init 1 (.invokespecial 3) 3 4 := ⟨by decide +kernel, rfl⟩
theorem dX7_init_4 : zal cX7_init 4 0 5 := Or.inl ⟨0, by decide +kernel, rfl, rfl⟩
theorem dX7_init_5 : zk cX7_init 5 (nI 400) 8 := Or.inr <| Or.inr ⟨400, by decide +kernel, by decide +kernel, rfl⟩
theorem dX7_init_8 : zd cX7_init 8 (.newarray .byte) 2 10 := ⟨by decide +kernel, rfl⟩
theorem dX7_init_10 : zd cX7_init 10 (.putfield 9) 3 13 := ⟨by decide +kernel, rfl⟩
theorem dX7_init_13 : zal cX7_init 13 0 14 := Or.inl ⟨0, by decide +kernel, rfl, rfl⟩
theorem dX7_init_14 : zk cX7_init 14 (nI 0) 15 := Or.inl ⟨0, by decide +kernel, by decide +kernel, rfl⟩
theorem dX7_init_15 : zd cX7_init 15 (.putfield 15) 3 18 := ⟨by decide +kernel, rfl⟩
theorem dX7_init_18 : zd cX7_init 18 (.return_) 1 19 := ⟨by decide +kernel, rfl⟩
theorem oi_X6 : Cond.methodLink RX6 3 Lib.objectInit ∈ lw_tbl := zt1 (List.mem_of_getElem? (i := 59) (rfl : tables_1_1[59]? = some (Cond.methodLink RX6 3 Lib.objectInit)))
theorem it_X6 : Cond.instantiable RX6 4 ∈ lw_tbl := zt1 (List.mem_of_getElem? (i := 55) (rfl : tables_1_1[55]? = some (Cond.instantiable RX6 4)))
theorem iz_X6 : Cond.initialized RX6 ∈ lw_tbl := zt1 (List.mem_of_getElem? (i := 3) (rfl : tables_1_1[3]? = some (Cond.initialized RX6)))
theorem dX6_init_0 : zal cX6_init 0 0 1 := Or.inl ⟨0, by decide +kernel, rfl, rfl⟩
theorem dX6_init_1 : zd cX6_init 1 (.invokespecial 3) 3 4 := ⟨by decide +kernel, rfl⟩
theorem dX6_init_4 : zal cX6_init 4 0 5 := Or.inl ⟨0, by decide +kernel, rfl, rfl⟩
theorem dX6_init_5 : zal cX6_init 5 1 6 := Or.inl ⟨1, by decide +kernel, rfl, rfl⟩
theorem dX6_init_6 : zd cX6_init 6 (.putfield 9) 3 9 := ⟨by decide +kernel, rfl⟩
theorem dX6_init_9 : zd cX6_init 9 (.return_) 1 10 := ⟨by decide +kernel, rfl⟩
theorem oi_X11 : Cond.methodLink RX11 1 Lib.objectInit ∈ lw_tbl := zt1 (List.mem_of_getElem? (i := 35) (rfl : tables_1_1[35]? = some (Cond.methodLink RX11 1 Lib.objectInit)))
theorem it_X11 : Cond.instantiable RX11 7 ∈ lw_tbl := zt1 (List.mem_of_getElem? (i := 31) (rfl : tables_1_1[31]? = some (Cond.instantiable RX11 7)))
theorem iz_X11 : Cond.initialized RX11 ∈ lw_tbl := zt1 (List.mem_of_getElem? (i := 1) (rfl : tables_1_1[1]? = some (Cond.initialized RX11)))
theorem dX11_init_0 : zal cX11_init 0 0 1 := Or.inl ⟨0, by decide +kernel, rfl, rfl⟩
theorem dX11_init_1 : zd cX11_init 1 (.invokespecial 1) 3 4 := ⟨by decide +kernel, rfl⟩
theorem dX11_init_4 : zal cX11_init 4 0 5 := Or.inl ⟨0, by decide +kernel, rfl, rfl⟩
theorem dX11_init_5 : zd cX11_init 5 (.new 7) 3 8 := ⟨by decide +kernel, rfl⟩
theorem dX11_init_8 : zd cX11_init 8 (.dup) 1 9 := ⟨by decide +kernel, rfl⟩
theorem dX11_init_9 : zd cX11_init 9 (.invokespecial 9) 3 12 := ⟨by decide +kernel, rfl⟩
theorem dX11_init_12 : zd cX11_init 12 (.putfield 10) 3 15 := ⟨by decide +kernel, rfl⟩
theorem dX11_init_15 : zal cX11_init 15 0 16 := Or.inl ⟨0, by decide +kernel, rfl, rfl⟩
theorem dX11_init_16 : zd cX11_init 16 (.new 16) 3 19 := ⟨by decide +kernel, rfl⟩
theorem dX11_init_19 : zd cX11_init 19 (.dup) 1 20 := ⟨by decide +kernel, rfl⟩
theorem dX11_init_20 : zal cX11_init 20 0 21 := Or.inl ⟨0, by decide +kernel, rfl, rfl⟩
theorem dX11_init_21 : zd cX11_init 21 (.getfield 10) 3 24 := ⟨by decide +kernel, rfl⟩
theorem dX11_init_24 : zd cX11_init 24 (.invokespecial 18) 3 27 := ⟨by decide +kernel, rfl⟩
theorem dX11_init_27 : zd cX11_init 27 (.putfield 21) 3 30 := ⟨by decide +kernel, rfl⟩
theorem dX11_init_30 : zal cX11_init 30 0 31 := Or.inl ⟨0, by decide +kernel, rfl, rfl⟩
theorem dX11_init_31 : zd cX11_init 31 (.new 25) 3 34 := ⟨by decide +kernel, rfl⟩
theorem dX11_init_34 : zd cX11_init 34 (.dup) 1 35 := ⟨by decide +kernel, rfl⟩
theorem dX11_init_35 : zd cX11_init 35 (.invokespecial 27) 3 38 := ⟨by decide +kernel, rfl⟩
theorem dX11_init_38 : zd cX11_init 38 (.putfield 28) 3 41 := ⟨by decide +kernel, rfl⟩
theorem dX11_init_41 : zal cX11_init 41 0 42 := Or.inl ⟨0, by decide +kernel, rfl, rfl⟩
theorem dX11_init_42 : zd cX11_init 42 (.new 25) 3 45 := ⟨by decide +kernel, rfl⟩
theorem dX11_init_45 : zd cX11_init 45 (.dup) 1 46 := ⟨by decide +kernel, rfl⟩
theorem dX11_init_46 : zd cX11_init 46 (.invokespecial 27) 3 49 := ⟨by decide +kernel, rfl⟩
theorem dX11_init_49 : zd cX11_init 49 (.putfield 32) 3 52 := ⟨by decide +kernel, rfl⟩
theorem dX11_init_52 : zal cX11_init 52 0 53 := Or.inl ⟨0, by decide +kernel, rfl, rfl⟩
theorem dX11_init_53 : zd cX11_init 53 (.new 25) 3 56 := ⟨by decide +kernel, rfl⟩
theorem dX11_init_56 : zd cX11_init 56 (.dup) 1 57 := ⟨by decide +kernel, rfl⟩
theorem dX11_init_57 : zd cX11_init 57 (.invokespecial 27) 3 60 := ⟨by decide +kernel, rfl⟩
theorem dX11_init_60 : zd cX11_init 60 (.putfield 35) 3 63 := ⟨by decide +kernel, rfl⟩
theorem dX11_init_63 : zal cX11_init 63 0 64 := Or.inl ⟨0, by decide +kernel, rfl, rfl⟩
theorem dX11_init_64 : zk cX11_init 64 (nI 0) 65 := Or.inl ⟨0, by decide +kernel, by decide +kernel, rfl⟩
theorem dX11_init_65 : zd cX11_init 65 (.putfield 38) 3 68 := ⟨by decide +kernel, rfl⟩
theorem dX11_init_68 : zal cX11_init 68 0 69 := Or.inl ⟨0, by decide +kernel, rfl, rfl⟩
theorem dX11_init_69 : zk cX11_init 69 (-1) 70 := Or.inl ⟨(-1), by decide +kernel, by decide +kernel, rfl⟩
theorem dX11_init_70 : zd cX11_init 70 (.putfield 42) 3 73 := ⟨by decide +kernel, rfl⟩
theorem dX11_init_73 : zd cX11_init 73 (.return_) 1 74 := ⟨by decide +kernel, rfl⟩
theorem oi_X12 : Cond.methodLink RX12 7 Lib.objectInit ∈ lw_tbl := zt7 (List.mem_of_getElem? (i := 46) (rfl : tables_1_7[46]? = some (Cond.methodLink RX12 7 Lib.objectInit)))
theorem it_X12 : Cond.instantiable RX12 19 ∈ lw_tbl := zt7 (List.mem_of_getElem? (i := 42) (rfl : tables_1_7[42]? = some (Cond.instantiable RX12 19)))
theorem iz_X12 : Cond.initialized RX12 ∈ lw_tbl := zt1 (List.mem_of_getElem? (i := 15) (rfl : tables_1_1[15]? = some (Cond.initialized RX12)))
theorem dX12_init_0 : zal cX12_init 0 0 1 := Or.inl ⟨0, by decide +kernel, rfl, rfl⟩
theorem dX12_init_1 : zd cX12_init 1 (.invokespecial 7) 3 4 := ⟨by decide +kernel, rfl⟩
theorem dX12_init_4 : zal cX12_init 4 0 5 := Or.inl ⟨0, by decide +kernel, rfl, rfl⟩
theorem dX12_init_5 : zk cX12_init 5 (nI 2422) 8 := Or.inr <| Or.inr ⟨2422, by decide +kernel, by decide +kernel, rfl⟩
theorem dX12_init_8 : zd cX12_init 8 (.newarray .int) 2 10 := ⟨by decide +kernel, rfl⟩
theorem dX12_init_10 : zd cX12_init 10 (.putfield 13) 3 13 := ⟨by decide +kernel, rfl⟩
theorem dX12_init_13 : zal cX12_init 13 0 14 := Or.inl ⟨0, by decide +kernel, rfl, rfl⟩
theorem dX12_init_14 : zk cX12_init 14 (nI 2422) 17 := Or.inr <| Or.inr ⟨2422, by decide +kernel, by decide +kernel, rfl⟩
theorem dX12_init_17 : zd cX12_init 17 (.newarray .int) 2 19 := ⟨by decide +kernel, rfl⟩
theorem dX12_init_19 : zd cX12_init 19 (.putfield 17) 3 22 := ⟨by decide +kernel, rfl⟩
theorem dX12_init_22 : zal cX12_init 22 0 23 := Or.inl ⟨0, by decide +kernel, rfl, rfl⟩
theorem dX12_init_23 : zk cX12_init 23 (nI 2422) 26 := Or.inr <| Or.inr ⟨2422, by decide +kernel, by decide +kernel, rfl⟩
theorem dX12_init_26 : zd cX12_init 26 (.newarray .int) 2 28 := ⟨by decide +kernel, rfl⟩
theorem dX12_init_28 : zd cX12_init 28 (.putfield 20) 3 31 := ⟨by decide +kernel, rfl⟩
theorem dX12_init_31 : zal cX12_init 31 0 32 := Or.inl ⟨0, by decide +kernel, rfl, rfl⟩
theorem dX12_init_32 : zk cX12_init 32 (nI 2422) 35 := Or.inr <| Or.inr ⟨2422, by decide +kernel, by decide +kernel, rfl⟩
theorem dX12_init_35 : zd cX12_init 35 (.newarray .int) 2 37 := ⟨by decide +kernel, rfl⟩
theorem dX12_init_37 : zd cX12_init 37 (.putfield 23) 3 40 := ⟨by decide +kernel, rfl⟩
theorem dX12_init_40 : zal cX12_init 40 0 41 := Or.inl ⟨0, by decide +kernel, rfl, rfl⟩
theorem dX12_init_41 : zk cX12_init 41 (nI 400) 44 := Or.inr <| Or.inr ⟨400, by decide +kernel, by decide +kernel, rfl⟩
theorem dX12_init_44 : zd cX12_init 44 (.newarray .byte) 2 46 := ⟨by decide +kernel, rfl⟩
theorem dX12_init_46 : zd cX12_init 46 (.putfield 26) 3 49 := ⟨by decide +kernel, rfl⟩
theorem dX12_init_49 : zal cX12_init 49 0 50 := Or.inl ⟨0, by decide +kernel, rfl, rfl⟩
theorem dX12_init_50 : zk cX12_init 50 (-1) 51 := Or.inl ⟨(-1), by decide +kernel, by decide +kernel, rfl⟩
theorem dX12_init_51 : zd cX12_init 51 (.putfield 30) 3 54 := ⟨by decide +kernel, rfl⟩
theorem dX12_init_54 : zal cX12_init 54 0 55 := Or.inl ⟨0, by decide +kernel, rfl, rfl⟩
theorem dX12_init_55 : zk cX12_init 55 (nI 5) 56 := Or.inl ⟨5, by decide +kernel, by decide +kernel, rfl⟩
theorem dX12_init_56 : zd cX12_init 56 (.newarray .int) 2 58 := ⟨by decide +kernel, rfl⟩
theorem dX12_init_58 : zd cX12_init 58 (.putfield 33) 3 61 := ⟨by decide +kernel, rfl⟩
theorem dX12_init_61 : zal cX12_init 61 0 62 := Or.inl ⟨0, by decide +kernel, rfl, rfl⟩
theorem dX12_init_62 : zk cX12_init 62 (nI 36) 64 := Or.inr <| Or.inl ⟨36, by decide +kernel, by decide +kernel, rfl⟩
theorem dX12_init_64 : zd cX12_init 64 (.newarray .int) 2 66 := ⟨by decide +kernel, rfl⟩
theorem dX12_init_66 : zd cX12_init 66 (.putfield 36) 3 69 := ⟨by decide +kernel, rfl⟩
theorem dX12_init_69 : zal cX12_init 69 0 70 := Or.inl ⟨0, by decide +kernel, rfl, rfl⟩
theorem dX12_init_70 : zk cX12_init 70 (nI 36) 72 := Or.inr <| Or.inl ⟨36, by decide +kernel, by decide +kernel, rfl⟩
theorem dX12_init_72 : zd cX12_init 72 (.newarray .int) 2 74 := ⟨by decide +kernel, rfl⟩
theorem dX12_init_74 : zd cX12_init 74 (.putfield 39) 3 77 := ⟨by decide +kernel, rfl⟩
theorem dX12_init_77 : zal cX12_init 77 0 78 := Or.inl ⟨0, by decide +kernel, rfl, rfl⟩
theorem dX12_init_78 : zk cX12_init 78 (nI 36) 80 := Or.inr <| Or.inl ⟨36, by decide +kernel, by decide +kernel, rfl⟩
theorem dX12_init_80 : zd cX12_init 80 (.newarray .int) 2 82 := ⟨by decide +kernel, rfl⟩
theorem dX12_init_82 : zd cX12_init 82 (.putfield 42) 3 85 := ⟨by decide +kernel, rfl⟩
theorem dX12_init_85 : zal cX12_init 85 0 86 := Or.inl ⟨0, by decide +kernel, rfl, rfl⟩
theorem dX12_init_86 : zk cX12_init 86 (nI 6) 88 := Or.inr <| Or.inl ⟨6, by decide +kernel, by decide +kernel, rfl⟩
theorem dX12_init_88 : zd cX12_init 88 (.newarray .boolean) 2 90 := ⟨by decide +kernel, rfl⟩
theorem dX12_init_90 : zd cX12_init 90 (.putfield 45) 3 93 := ⟨by decide +kernel, rfl⟩
theorem dX12_init_93 : zal cX12_init 93 0 94 := Or.inl ⟨0, by decide +kernel, rfl, rfl⟩
theorem dX12_init_94 : zk cX12_init 94 (nI 6) 96 := Or.inr <| Or.inl ⟨6, by decide +kernel, by decide +kernel, rfl⟩
theorem dX12_init_96 : zd cX12_init 96 (.newarray .int) 2 98 := ⟨by decide +kernel, rfl⟩
theorem dX12_init_98 : zd cX12_init 98 (.putfield 49) 3 101 := ⟨by decide +kernel, rfl⟩
theorem dX12_init_101 : zal cX12_init 101 0 102 := Or.inl ⟨0, by decide +kernel, rfl, rfl⟩
theorem dX12_init_102 : zd cX12_init 102 (.getfield 13) 3 105 := ⟨by decide +kernel, rfl⟩
theorem dX12_init_105 : zk cX12_init 105 (nI 5) 106 := Or.inl ⟨5, by decide +kernel, by decide +kernel, rfl⟩
theorem dX12_init_106 : zk cX12_init 106 (nI 5) 107 := Or.inl ⟨5, by decide +kernel, by decide +kernel, rfl⟩
theorem dX12_init_107 : zd cX12_init 107 (.iastore) 1 108 := ⟨by decide +kernel, rfl⟩
theorem dX12_init_108 : zal cX12_init 108 0 109 := Or.inl ⟨0, by decide +kernel, rfl, rfl⟩
theorem dX12_init_109 : zd cX12_init 109 (.getfield 13) 3 112 := ⟨by decide +kernel, rfl⟩
theorem dX12_init_112 : zk cX12_init 112 (nI 8) 114 := Or.inr <| Or.inl ⟨8, by decide +kernel, by decide +kernel, rfl⟩
theorem dX12_init_114 : zk cX12_init 114 (nI 8) 116 := Or.inr <| Or.inl ⟨8, by decide +kernel, by decide +kernel, rfl⟩
theorem dX12_init_116 : zd cX12_init 116 (.iastore) 1 117 := ⟨by decide +kernel, rfl⟩
theorem dX12_init_117 : zal cX12_init 117 0 118 := Or.inl ⟨0, by decide +kernel, rfl, rfl⟩
theorem dX12_init_118 : zd cX12_init 118 (.getfield 13) 3 121 := ⟨by decide +kernel, rfl⟩
theorem dX12_init_121 : zk cX12_init 121 (nI 9) 123 := Or.inr <| Or.inl ⟨9, by decide +kernel, by decide +kernel, rfl⟩
theorem dX12_init_123 : zk cX12_init 123 (nI 8) 125 := Or.inr <| Or.inl ⟨8, by decide +kernel, by decide +kernel, rfl⟩
theorem dX12_init_125 : zd cX12_init 125 (.iastore) 1 126 := ⟨by decide +kernel, rfl⟩
theorem dX12_init_126 : zal cX12_init 126 0 127 := Or.inl ⟨0, by decide +kernel, rfl, rfl⟩
theorem dX12_init_127 : zd cX12_init 127 (.getfield 13) 3 130 := ⟨by decide +kernel, rfl⟩
theorem dX12_init_130 : zk cX12_init 130 (nI 10) 132 := Or.inr <| Or.inl ⟨10, by decide +kernel, by decide +kernel, rfl⟩
theorem dX12_init_132 : zk cX12_init 132 (nI 4) 133 := Or.inl ⟨4, by decide +kernel, by decide +kernel, rfl⟩
theorem dX12_init_133 : zd cX12_init 133 (.iastore) 1 134 := ⟨by decide +kernel, rfl⟩
theorem dX12_init_134 : zal cX12_init 134 0 135 := Or.inl ⟨0, by decide +kernel, rfl, rfl⟩
theorem dX12_init_135 : zd cX12_init 135 (.getfield 13) 3 138 := ⟨by decide +kernel, rfl⟩
theorem dX12_init_138 : zk cX12_init 138 (nI 11) 140 := Or.inr <| Or.inl ⟨11, by decide +kernel, by decide +kernel, rfl⟩
theorem dX12_init_140 : zk cX12_init 140 (nI 4) 141 := Or.inl ⟨4, by decide +kernel, by decide +kernel, rfl⟩
theorem dX12_init_141 : zd cX12_init 141 (.iastore) 1 142 := ⟨by decide +kernel, rfl⟩
theorem dX12_init_142 : zal cX12_init 142 0 143 := Or.inl ⟨0, by decide +kernel, rfl, rfl⟩
theorem dX12_init_143 : zd cX12_init 143 (.getfield 13) 3 146 := ⟨by decide +kernel, rfl⟩
theorem dX12_init_146 : zk cX12_init 146 (nI 17) 148 := Or.inr <| Or.inl ⟨17, by decide +kernel, by decide +kernel, rfl⟩
theorem dX12_init_148 : zk cX12_init 148 (nI 1) 149 := Or.inl ⟨1, by decide +kernel, by decide +kernel, rfl⟩
theorem dX12_init_149 : zd cX12_init 149 (.iastore) 1 150 := ⟨by decide +kernel, rfl⟩
theorem dX12_init_150 : zd cX12_init 150 (.return_) 1 151 := ⟨by decide +kernel, rfl⟩
theorem clX11_7 : Cond.classLink RX11 7 RX7 ∈ lw_tbl := zt1 (List.mem_of_getElem? (i := 38) (rfl : tables_1_1[38]? = some (Cond.classLink RX11 7 RX7)))
theorem clX11_16 : Cond.classLink RX11 16 RX6 ∈ lw_tbl := zt1 (List.mem_of_getElem? (i := 54) (rfl : tables_1_1[54]? = some (Cond.classLink RX11 16 RX6)))
theorem clX11_25 : Cond.classLink RX11 25 RX10 ∈ lw_tbl := zt1 (List.mem_of_getElem? (i := 73) (rfl : tables_1_1[73]? = some (Cond.classLink RX11 25 RX10)))
theorem clX10_9 : Cond.classLink RX10 9 RX8 ∈ lw_tbl := zt1 (List.mem_of_getElem? (i := 79) (rfl : tables_1_1[79]? = some (Cond.classLink RX10 9 RX8)))
theorem clX10_18 : Cond.classLink RX10 18 RX1 ∈ lw_tbl := zt1 (List.mem_of_getElem? (i := 132) (rfl : tables_1_1[132]? = some (Cond.classLink RX10 18 RX1)))
theorem clX10_25 : Cond.classLink RX10 25 RX4 ∈ lw_tbl := zt1 (List.mem_of_getElem? (i := 148) (rfl : tables_1_1[148]? = some (Cond.classLink RX10 25 RX4)))
theorem clX10_32 : Cond.classLink RX10 32 RX5 ∈ lw_tbl := zt1 (List.mem_of_getElem? (i := 235) (rfl : tables_1_1[235]? = some (Cond.classLink RX10 32 RX5)))
theorem clX10_39 : Cond.classLink RX10 39 RX2 ∈ lw_tbl := zt2 (List.mem_of_getElem? (i := 61) (rfl : tables_1_2[61]? = some (Cond.classLink RX10 39 RX2)))
theorem clX10_46 : Cond.classLink RX10 46 RX9 ∈ lw_tbl := zt2 (List.mem_of_getElem? (i := 102) (rfl : tables_1_2[102]? = some (Cond.classLink RX10 46 RX9)))
theorem clX10_53 : Cond.classLink RX10 53 RX0 ∈ lw_tbl := zt2 (List.mem_of_getElem? (i := 140) (rfl : tables_1_2[140]? = some (Cond.classLink RX10 53 RX0)))
theorem clX10_60 : Cond.classLink RX10 60 RX3 ∈ lw_tbl := zt2 (List.mem_of_getElem? (i := 198) (rfl : tables_1_2[198]? = some (Cond.classLink RX10 60 RX3)))
theorem clL_8 : Cond.classLink RL 8 RX11 ∈ lw_tbl := zt1 (List.mem_of_getElem? (i := 30) (rfl : tables_1_1[30]? = some (Cond.classLink RL 8 RX11)))
theorem clL_122 : Cond.classLink RL 122 RX12 ∈ lw_tbl := zt7 (List.mem_of_getElem? (i := 41) (rfl : tables_1_7[41]? = some (Cond.classLink RL 122 RX12)))
