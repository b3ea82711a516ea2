theorem ok_P_feed_0 : zx_okK 0 (some Jvm.ClassFile.FieldType.int) prog_1_method_2_code ck_P_feed_0 = true := by decide +kernel
theorem ok_P_feed_1 : zx_okK 0 (some Jvm.ClassFile.FieldType.int) prog_1_method_2_code ck_P_feed_1 = true := by decide +kernel
theorem ok_P_feed : ∀ g ∈ ck_P_feed, zx_okK 0 (some Jvm.ClassFile.FieldType.int) prog_1_method_2_code g.2 = true := List.forall_mem_cons.mpr ⟨ok_P_feed_0, List.forall_mem_cons.mpr ⟨ok_P_feed_1, fun _ h => absurd h List.not_mem_nil⟩⟩
theorem ok_P_copy_0 : zx_okK 0 (some Jvm.ClassFile.FieldType.int) prog_1_method_3_code ck_P_copy_0 = true := by decide +kernel
theorem ok_P_copy_1 : zx_okK 0 (some Jvm.ClassFile.FieldType.int) prog_1_method_3_code ck_P_copy_1 = true := by decide +kernel
theorem ok_P_copy : ∀ g ∈ ck_P_copy, zx_okK 0 (some Jvm.ClassFile.FieldType.int) prog_1_method_3_code g.2 = true := List.forall_mem_cons.mpr ⟨ok_P_copy_0, List.forall_mem_cons.mpr ⟨ok_P_copy_1, fun _ h => absurd h List.not_mem_nil⟩⟩
theorem ok_P_cut_0 : zx_okK 0 (some Jvm.ClassFile.FieldType.int) prog_1_method_4_code ck_P_cut_0 = true := by decide +kernel
theorem ok_P_cut : ∀ g ∈ ck_P_cut, zx_okK 0 (some Jvm.ClassFile.FieldType.int) prog_1_method_4_code g.2 = true := List.forall_mem_cons.mpr ⟨ok_P_cut_0, fun _ h => absurd h List.not_mem_nil⟩
theorem ok_P_change_0 : zx_okK 0 (some Jvm.ClassFile.FieldType.int) prog_1_method_5_code ck_P_change_0 = true := by decide +kernel
theorem ok_P_change : ∀ g ∈ ck_P_change, zx_okK 0 (some Jvm.ClassFile.FieldType.int) prog_1_method_5_code g.2 = true := List.forall_mem_cons.mpr ⟨ok_P_change_0, fun _ h => absurd h List.not_mem_nil⟩
theorem ok_P_at_0 : zx_okK 0 (some Jvm.ClassFile.FieldType.int) prog_1_method_6_code ck_P_at_0 = true := by decide +kernel
theorem ok_P_at : ∀ g ∈ ck_P_at, zx_okK 0 (some Jvm.ClassFile.FieldType.int) prog_1_method_6_code g.2 = true := List.forall_mem_cons.mpr ⟨ok_P_at_0, fun _ h => absurd h List.not_mem_nil⟩
theorem ok_P_pack_0 : zx_okK 0 (some Jvm.ClassFile.FieldType.int) prog_1_method_7_code ck_P_pack_0 = true := by decide +kernel
theorem ok_P_pack_1 : zx_okK 0 (some Jvm.ClassFile.FieldType.int) prog_1_method_7_code ck_P_pack_1 = true := by decide +kernel
theorem ok_P_pack_2 : zx_okK 0 (some Jvm.ClassFile.FieldType.int) prog_1_method_7_code ck_P_pack_2 = true := by decide +kernel
theorem ok_P_pack_3 : zx_okK 0 (some Jvm.ClassFile.FieldType.int) prog_1_method_7_code ck_P_pack_3 = true := by decide +kernel
theorem ok_P_pack : ∀ g ∈ ck_P_pack, zx_okK 0 (some Jvm.ClassFile.FieldType.int) prog_1_method_7_code g.2 = true := List.forall_mem_cons.mpr ⟨ok_P_pack_0, List.forall_mem_cons.mpr ⟨ok_P_pack_1, List.forall_mem_cons.mpr ⟨ok_P_pack_2, List.forall_mem_cons.mpr ⟨ok_P_pack_3, fun _ h => absurd h List.not_mem_nil⟩⟩⟩⟩
theorem ok_P_unpack_0 : zx_okK 0 (some Jvm.ClassFile.FieldType.int) prog_1_method_8_code ck_P_unpack_0 = true := by decide +kernel
theorem ok_P_unpack_1 : zx_okK 0 (some Jvm.ClassFile.FieldType.int) prog_1_method_8_code ck_P_unpack_1 = true := by decide +kernel
theorem ok_P_unpack : ∀ g ∈ ck_P_unpack, zx_okK 0 (some Jvm.ClassFile.FieldType.int) prog_1_method_8_code g.2 = true := List.forall_mem_cons.mpr ⟨ok_P_unpack_0, List.forall_mem_cons.mpr ⟨ok_P_unpack_1, fun _ h => absurd h List.not_mem_nil⟩⟩
theorem ok_P_where_0 : zx_okK 0 (some Jvm.ClassFile.FieldType.int) prog_1_method_9_code ck_P_where_0 = true := by decide +kernel
theorem ok_P_where : ∀ g ∈ ck_P_where, zx_okK 0 (some Jvm.ClassFile.FieldType.int) prog_1_method_9_code g.2 = true := List.forall_mem_cons.mpr ⟨ok_P_where_0, fun _ h => absurd h List.not_mem_nil⟩
theorem ok_P_watch_0 : zx_okK 0 (some Jvm.ClassFile.FieldType.boolean) prog_1_method_10_code ck_P_watch_0 = true := by decide +kernel
theorem ok_P_watch : ∀ g ∈ ck_P_watch, zx_okK 0 (some Jvm.ClassFile.FieldType.boolean) prog_1_method_10_code g.2 = true := List.forall_mem_cons.mpr ⟨ok_P_watch_0, fun _ h => absurd h List.not_mem_nil⟩
theorem ok_P_range_0 : zx_okK 0 (some Jvm.ClassFile.FieldType.long) prog_1_method_11_code ck_P_range_0 = true := by decide +kernel
theorem ok_P_range : ∀ g ∈ ck_P_range, zx_okK 0 (some Jvm.ClassFile.FieldType.long) prog_1_method_11_code g.2 = true := List.forall_mem_cons.mpr ⟨ok_P_range_0, fun _ h => absurd h List.not_mem_nil⟩
theorem ok_P_code_0 : zx_okK 0 (some Jvm.ClassFile.FieldType.long) prog_1_method_12_code ck_P_code_0 = true := by decide +kernel
theorem ok_P_code : ∀ g ∈ ck_P_code, zx_okK 0 (some Jvm.ClassFile.FieldType.long) prog_1_method_12_code g.2 = true := List.forall_mem_cons.mpr ⟨ok_P_code_0, fun _ h => absurd h List.not_mem_nil⟩
theorem ok_P_count_0 : zx_okK 0 (some Jvm.ClassFile.FieldType.int) prog_1_method_13_code ck_P_count_0 = true := by decide +kernel
theorem ok_P_count : ∀ g ∈ ck_P_count, zx_okK 0 (some Jvm.ClassFile.FieldType.int) prog_1_method_13_code g.2 = true := List.forall_mem_cons.mpr ⟨ok_P_count_0, fun _ h => absurd h List.not_mem_nil⟩
theorem ok_P_sum_0 : zx_okK 0 (some Jvm.ClassFile.FieldType.long) prog_1_method_14_code ck_P_sum_0 = true := by decide +kernel
theorem ok_P_sum : ∀ g ∈ ck_P_sum, zx_okK 0 (some Jvm.ClassFile.FieldType.long) prog_1_method_14_code g.2 = true := List.forall_mem_cons.mpr ⟨ok_P_sum_0, fun _ h => absurd h List.not_mem_nil⟩
theorem ok_P_rowOf_0 : zx_okK 0 (some (Jvm.ClassFile.FieldType.object "IntervalPacker$Row")) prog_1_method_15_code ck_P_rowOf_0 = true := by decide +kernel
theorem ok_P_rowOf : ∀ g ∈ ck_P_rowOf, zx_okK 0 (some (Jvm.ClassFile.FieldType.object "IntervalPacker$Row")) prog_1_method_15_code g.2 = true := List.forall_mem_cons.mpr ⟨ok_P_rowOf_0, fun _ h => absurd h List.not_mem_nil⟩
theorem ok_P_isSort_0 : zx_okK 0 (some Jvm.ClassFile.FieldType.boolean) prog_1_method_16_code ck_P_isSort_0 = true := by decide +kernel
theorem ok_P_isSort : ∀ g ∈ ck_P_isSort, zx_okK 0 (some Jvm.ClassFile.FieldType.boolean) prog_1_method_16_code g.2 = true := List.forall_mem_cons.mpr ⟨ok_P_isSort_0, fun _ h => absurd h List.not_mem_nil⟩
theorem ok_P_checkSize_0 : zx_okK 0 (some Jvm.ClassFile.FieldType.int) prog_1_method_17_code ck_P_checkSize_0 = true := by decide +kernel
theorem ok_P_checkSize : ∀ g ∈ ck_P_checkSize, zx_okK 0 (some Jvm.ClassFile.FieldType.int) prog_1_method_17_code g.2 = true := List.forall_mem_cons.mpr ⟨ok_P_checkSize_0, fun _ h => absurd h List.not_mem_nil⟩
theorem ok_P_areProperties_0 : zx_okK 0 (some Jvm.ClassFile.FieldType.boolean) prog_1_method_18_code ck_P_areProperties_0 = true := by decide +kernel
theorem ok_P_areProperties : ∀ g ∈ ck_P_areProperties, zx_okK 0 (some Jvm.ClassFile.FieldType.boolean) prog_1_method_18_code g.2 = true := List.forall_mem_cons.mpr ⟨ok_P_areProperties_0, fun _ h => absurd h List.not_mem_nil⟩
theorem ok_P_sumFour_0 : zx_okK 0 (some Jvm.ClassFile.FieldType.long) prog_1_method_19_code ck_P_sumFour_0 = true := by decide +kernel
theorem ok_P_sumFour : ∀ g ∈ ck_P_sumFour, zx_okK 0 (some Jvm.ClassFile.FieldType.long) prog_1_method_19_code g.2 = true := List.forall_mem_cons.mpr ⟨ok_P_sumFour_0, fun _ h => absurd h List.not_mem_nil⟩
theorem ok_P_sumEight_0 : zx_okK 0 (some Jvm.ClassFile.FieldType.long) prog_1_method_20_code ck_P_sumEight_0 = true := by decide +kernel
theorem ok_P_sumEight : ∀ g ∈ ck_P_sumEight, zx_okK 0 (some Jvm.ClassFile.FieldType.long) prog_1_method_20_code g.2 = true := List.forall_mem_cons.mpr ⟨ok_P_sumEight_0, fun _ h => absurd h List.not_mem_nil⟩
theorem ok_P_sumBy_0 : zx_okK 0 (some Jvm.ClassFile.FieldType.long) prog_1_method_21_code ck_P_sumBy_0 = true := by decide +kernel
theorem ok_P_sumBy_1 : zx_okK 0 (some Jvm.ClassFile.FieldType.long) prog_1_method_21_code ck_P_sumBy_1 = true := by decide +kernel
theorem ok_P_sumBy : ∀ g ∈ ck_P_sumBy, zx_okK 0 (some Jvm.ClassFile.FieldType.long) prog_1_method_21_code g.2 = true := List.forall_mem_cons.mpr ⟨ok_P_sumBy_0, List.forall_mem_cons.mpr ⟨ok_P_sumBy_1, fun _ h => absurd h List.not_mem_nil⟩⟩
theorem ok_Row_clear_0 : zx_okK 1 none prog_8_method_2_code ck_Row_clear_0 = true := by decide +kernel
theorem ok_Row_clear : ∀ g ∈ ck_Row_clear, zx_okK 1 none prog_8_method_2_code g.2 = true := List.forall_mem_cons.mpr ⟨ok_Row_clear_0, fun _ h => absurd h List.not_mem_nil⟩
theorem ok_Row_hasRoom_0 : zx_okK 1 (some Jvm.ClassFile.FieldType.boolean) prog_8_method_3_code ck_Row_hasRoom_0 = true := by decide +kernel
theorem ok_Row_hasRoom : ∀ g ∈ ck_Row_hasRoom, zx_okK 1 (some Jvm.ClassFile.FieldType.boolean) prog_8_method_3_code g.2 = true := List.forall_mem_cons.mpr ⟨ok_Row_hasRoom_0, fun _ h => absurd h List.not_mem_nil⟩
theorem ok_Row_append_0 : zx_okK 1 none prog_8_method_4_code ck_Row_append_0 = true := by decide +kernel
theorem ok_Row_append : ∀ g ∈ ck_Row_append, zx_okK 1 none prog_8_method_4_code g.2 = true := List.forall_mem_cons.mpr ⟨ok_Row_append_0, fun _ h => absurd h List.not_mem_nil⟩
theorem ok_Row_appendAll_0 : zx_okK 1 none prog_8_method_5_code ck_Row_appendAll_0 = true := by decide +kernel
theorem ok_Row_appendAll : ∀ g ∈ ck_Row_appendAll, zx_okK 1 none prog_8_method_5_code g.2 = true := List.forall_mem_cons.mpr ⟨ok_Row_appendAll_0, fun _ h => absurd h List.not_mem_nil⟩
theorem ok_Row_appendLowFirst_0 : zx_okK 1 none prog_8_method_6_code ck_Row_appendLowFirst_0 = true := by decide +kernel
theorem ok_Row_appendLowFirst : ∀ g ∈ ck_Row_appendLowFirst, zx_okK 1 none prog_8_method_6_code g.2 = true := List.forall_mem_cons.mpr ⟨ok_Row_appendLowFirst_0, fun _ h => absurd h List.not_mem_nil⟩
theorem ok_Row_repeat_0 : zx_okK 1 none prog_8_method_7_code ck_Row_repeat_0 = true := by decide +kernel
theorem ok_Row_repeat : ∀ g ∈ ck_Row_repeat, zx_okK 1 none prog_8_method_7_code g.2 = true := List.forall_mem_cons.mpr ⟨ok_Row_repeat_0, fun _ h => absurd h List.not_mem_nil⟩
theorem ok_Row_byteAt_0 : zx_okK 1 (some Jvm.ClassFile.FieldType.int) prog_8_method_8_code ck_Row_byteAt_0 = true := by decide +kernel
theorem ok_Row_byteAt : ∀ g ∈ ck_Row_byteAt, zx_okK 1 (some Jvm.ClassFile.FieldType.int) prog_8_method_8_code g.2 = true := List.forall_mem_cons.mpr ⟨ok_Row_byteAt_0, fun _ h => absurd h List.not_mem_nil⟩
theorem ok_Row_byteBack_0 : zx_okK 1 (some Jvm.ClassFile.FieldType.int) prog_8_method_9_code ck_Row_byteBack_0 = true := by decide +kernel
theorem ok_Row_byteBack : ∀ g ∈ ck_Row_byteBack, zx_okK 1 (some Jvm.ClassFile.FieldType.int) prog_8_method_9_code g.2 = true := List.forall_mem_cons.mpr ⟨ok_Row_byteBack_0, fun _ h => absurd h List.not_mem_nil⟩
theorem ok_Row_become_0 : zx_okK 1 none prog_8_method_10_code ck_Row_become_0 = true := by decide +kernel
theorem ok_Row_become : ∀ g ∈ ck_Row_become, zx_okK 1 none prog_8_method_10_code g.2 = true := List.forall_mem_cons.mpr ⟨ok_Row_become_0, fun _ h => absurd h List.not_mem_nil⟩
theorem ok_Cur_begin_0 : zx_okK 2 none prog_5_method_2_code ck_Cur_begin_0 = true := by decide +kernel
theorem ok_Cur_begin : ∀ g ∈ ck_Cur_begin, zx_okK 2 none prog_5_method_2_code g.2 = true := List.forall_mem_cons.mpr ⟨ok_Cur_begin_0, fun _ h => absurd h List.not_mem_nil⟩
theorem ok_Cur_isSound_0 : zx_okK 2 (some Jvm.ClassFile.FieldType.boolean) prog_5_method_3_code ck_Cur_isSound_0 = true := by decide +kernel
theorem ok_Cur_isSound : ∀ g ∈ ck_Cur_isSound, zx_okK 2 (some Jvm.ClassFile.FieldType.boolean) prog_5_method_3_code g.2 = true := List.forall_mem_cons.mpr ⟨ok_Cur_isSound_0, fun _ h => absurd h List.not_mem_nil⟩
theorem ok_Cur_fail_0 : zx_okK 2 none prog_5_method_4_code ck_Cur_fail_0 = true := by decide +kernel
theorem ok_Cur_fail : ∀ g ∈ ck_Cur_fail, zx_okK 2 none prog_5_method_4_code g.2 = true := List.forall_mem_cons.mpr ⟨ok_Cur_fail_0, fun _ h => absurd h List.not_mem_nil⟩
theorem ok_Cur_narrow_0 : zx_okK 2 none prog_5_method_5_code ck_Cur_narrow_0 = true := by decide +kernel
theorem ok_Cur_narrow : ∀ g ∈ ck_Cur_narrow, zx_okK 2 none prog_5_method_5_code g.2 = true := List.forall_mem_cons.mpr ⟨ok_Cur_narrow_0, fun _ h => absurd h List.not_mem_nil⟩
theorem ok_Cur_widen_0 : zx_okK 2 none prog_5_method_6_code ck_Cur_widen_0 = true := by decide +kernel
theorem ok_Cur_widen : ∀ g ∈ ck_Cur_widen, zx_okK 2 none prog_5_method_6_code g.2 = true := List.forall_mem_cons.mpr ⟨ok_Cur_widen_0, fun _ h => absurd h List.not_mem_nil⟩
theorem ok_Cur_has_0 : zx_okK 2 (some Jvm.ClassFile.FieldType.boolean) prog_5_method_7_code ck_Cur_has_0 = true := by decide +kernel
theorem ok_Cur_has_1 : zx_okK 2 (some Jvm.ClassFile.FieldType.boolean) prog_5_method_7_code ck_Cur_has_1 = true := by decide +kernel
theorem ok_Cur_has : ∀ g ∈ ck_Cur_has, zx_okK 2 (some Jvm.ClassFile.FieldType.boolean) prog_5_method_7_code g.2 = true := List.forall_mem_cons.mpr ⟨ok_Cur_has_0, List.forall_mem_cons.mpr ⟨ok_Cur_has_1, fun _ h => absurd h List.not_mem_nil⟩⟩
theorem ok_Cur_expectByte_0 : zx_okK 2 none prog_5_method_8_code ck_Cur_expectByte_0 = true := by decide +kernel
theorem ok_Cur_expectByte : ∀ g ∈ ck_Cur_expectByte, zx_okK 2 none prog_5_method_8_code g.2 = true := List.forall_mem_cons.mpr ⟨ok_Cur_expectByte_0, fun _ h => absurd h List.not_mem_nil⟩
theorem ok_Cur_expectWithin_0 : zx_okK 2 none prog_5_method_9_code ck_Cur_expectWithin_0 = true := by decide +kernel
theorem ok_Cur_expectWithin_1 : zx_okK 2 none prog_5_method_9_code ck_Cur_expectWithin_1 = true := by decide +kernel
theorem ok_Cur_expectWithin : ∀ g ∈ ck_Cur_expectWithin, zx_okK 2 none prog_5_method_9_code g.2 = true := List.forall_mem_cons.mpr ⟨ok_Cur_expectWithin_0, List.forall_mem_cons.mpr ⟨ok_Cur_expectWithin_1, fun _ h => absurd h List.not_mem_nil⟩⟩
theorem ok_Cur_expectFilling_0 : zx_okK 2 none prog_5_method_10_code ck_Cur_expectFilling_0 = true := by decide +kernel
theorem ok_Cur_expectFilling : ∀ g ∈ ck_Cur_expectFilling, zx_okK 2 none prog_5_method_10_code g.2 = true := List.forall_mem_cons.mpr ⟨ok_Cur_expectFilling_0, fun _ h => absurd h List.not_mem_nil⟩
theorem ok_Cur_lowFirst_0 : zx_okK 2 (some Jvm.ClassFile.FieldType.long) prog_5_method_11_code ck_Cur_lowFirst_0 = true := by decide +kernel
theorem ok_Cur_lowFirst : ∀ g ∈ ck_Cur_lowFirst, zx_okK 2 (some Jvm.ClassFile.FieldType.long) prog_5_method_11_code g.2 = true := List.forall_mem_cons.mpr ⟨ok_Cur_lowFirst_0, fun _ h => absurd h List.not_mem_nil⟩
theorem ok_Cur_expectSum_0 : zx_okK 2 none prog_5_method_12_code ck_Cur_expectSum_0 = true := by decide +kernel
theorem ok_Cur_expectSum_1 : zx_okK 2 none prog_5_method_12_code ck_Cur_expectSum_1 = true := by decide +kernel
theorem ok_Cur_expectSum : ∀ g ∈ ck_Cur_expectSum, zx_okK 2 none prog_5_method_12_code g.2 = true := List.forall_mem_cons.mpr ⟨ok_Cur_expectSum_0, List.forall_mem_cons.mpr ⟨ok_Cur_expectSum_1, fun _ h => absurd h List.not_mem_nil⟩⟩
theorem ok_Cur_readTwo_0 : zx_okK 2 (some Jvm.ClassFile.FieldType.int) prog_5_method_13_code ck_Cur_readTwo_0 = true := by decide +kernel
theorem ok_Cur_readTwo_1 : zx_okK 2 (some Jvm.ClassFile.FieldType.int) prog_5_method_13_code ck_Cur_readTwo_1 = true := by decide +kernel
theorem ok_Cur_readTwo : ∀ g ∈ ck_Cur_readTwo, zx_okK 2 (some Jvm.ClassFile.FieldType.int) prog_5_method_13_code g.2 = true := List.forall_mem_cons.mpr ⟨ok_Cur_readTwo_0, List.forall_mem_cons.mpr ⟨ok_Cur_readTwo_1, fun _ h => absurd h List.not_mem_nil⟩⟩
theorem ok_Cur_readNumber_0 : zx_okK 2 (some Jvm.ClassFile.FieldType.long) prog_5_method_14_code ck_Cur_readNumber_0 = true := by decide +kernel
theorem ok_Cur_readNumber_1 : zx_okK 2 (some Jvm.ClassFile.FieldType.long) prog_5_method_14_code ck_Cur_readNumber_1 = true := by decide +kernel
theorem ok_Cur_readNumber_2 : zx_okK 2 (some Jvm.ClassFile.FieldType.long) prog_5_method_14_code ck_Cur_readNumber_2 = true := by decide +kernel
theorem ok_Cur_readNumber : ∀ g ∈ ck_Cur_readNumber, zx_okK 2 (some Jvm.ClassFile.FieldType.long) prog_5_method_14_code g.2 = true := List.forall_mem_cons.mpr ⟨ok_Cur_readNumber_0, List.forall_mem_cons.mpr ⟨ok_Cur_readNumber_1, List.forall_mem_cons.mpr ⟨ok_Cur_readNumber_2, fun _ h => absurd h List.not_mem_nil⟩⟩⟩
theorem ok_Cur_expectNumber_0 : zx_okK 2 none prog_5_method_15_code ck_Cur_expectNumber_0 = true := by decide +kernel
theorem ok_Cur_expectNumber : ∀ g ∈ ck_Cur_expectNumber, zx_okK 2 none prog_5_method_15_code g.2 = true := List.forall_mem_cons.mpr ⟨ok_Cur_expectNumber_0, fun _ h => absurd h List.not_mem_nil⟩
theorem ok_Src_forget_0 : zx_okK 3 none prog_4_method_2_code ck_Src_forget_0 = true := by decide +kernel
theorem ok_Src_forget : ∀ g ∈ ck_Src_forget, zx_okK 3 none prog_4_method_2_code g.2 = true := List.forall_mem_cons.mpr ⟨ok_Src_forget_0, fun _ h => absurd h List.not_mem_nil⟩
theorem ok_Src_begin_0 : zx_okK 3 none prog_4_method_3_code ck_Src_begin_0 = true := by decide +kernel
theorem ok_Src_begin_1 : zx_okK 3 none prog_4_method_3_code ck_Src_begin_1 = true := by decide +kernel
theorem ok_Src_begin_2 : zx_okK 3 none prog_4_method_3_code ck_Src_begin_2 = true := by decide +kernel
theorem ok_Src_begin : ∀ g ∈ ck_Src_begin, zx_okK 3 none prog_4_method_3_code g.2 = true := List.forall_mem_cons.mpr ⟨ok_Src_begin_0, List.forall_mem_cons.mpr ⟨ok_Src_begin_1, List.forall_mem_cons.mpr ⟨ok_Src_begin_2, fun _ h => absurd h List.not_mem_nil⟩⟩⟩
theorem ok_Src_shift_0 : zx_okK 3 none prog_4_method_4_code ck_Src_shift_0 = true := by decide +kernel
theorem ok_Src_shift_1 : zx_okK 3 none prog_4_method_4_code ck_Src_shift_1 = true := by decide +kernel
theorem ok_Src_shift : ∀ g ∈ ck_Src_shift, zx_okK 3 none prog_4_method_4_code g.2 = true := List.forall_mem_cons.mpr ⟨ok_Src_shift_0, List.forall_mem_cons.mpr ⟨ok_Src_shift_1, fun _ h => absurd h List.not_mem_nil⟩⟩
theorem ok_Src_codeBit_0 : zx_okK 3 (some Jvm.ClassFile.FieldType.int) prog_4_method_5_code ck_Src_codeBit_0 = true := by decide +kernel
theorem ok_Src_codeBit_1 : zx_okK 3 (some Jvm.ClassFile.FieldType.int) prog_4_method_5_code ck_Src_codeBit_1 = true := by decide +kernel
theorem ok_Src_codeBit_2 : zx_okK 3 (some Jvm.ClassFile.FieldType.int) prog_4_method_5_code ck_Src_codeBit_2 = true := by decide +kernel
theorem ok_Src_codeBit : ∀ g ∈ ck_Src_codeBit, zx_okK 3 (some Jvm.ClassFile.FieldType.int) prog_4_method_5_code g.2 = true := List.forall_mem_cons.mpr ⟨ok_Src_codeBit_0, List.forall_mem_cons.mpr ⟨ok_Src_codeBit_1, List.forall_mem_cons.mpr ⟨ok_Src_codeBit_2, fun _ h => absurd h List.not_mem_nil⟩⟩⟩
theorem ok_Src_codeEvenBit_0 : zx_okK 3 (some Jvm.ClassFile.FieldType.int) prog_4_method_6_code ck_Src_codeEvenBit_0 = true := by decide +kernel
theorem ok_Src_codeEvenBit_1 : zx_okK 3 (some Jvm.ClassFile.FieldType.int) prog_4_method_6_code ck_Src_codeEvenBit_1 = true := by decide +kernel
theorem ok_Src_codeEvenBit_2 : zx_okK 3 (some Jvm.ClassFile.FieldType.int) prog_4_method_6_code ck_Src_codeEvenBit_2 = true := by decide +kernel
theorem ok_Src_codeEvenBit : ∀ g ∈ ck_Src_codeEvenBit, zx_okK 3 (some Jvm.ClassFile.FieldType.int) prog_4_method_6_code g.2 = true := List.forall_mem_cons.mpr ⟨ok_Src_codeEvenBit_0, List.forall_mem_cons.mpr ⟨ok_Src_codeEvenBit_1, List.forall_mem_cons.mpr ⟨ok_Src_codeEvenBit_2, fun _ h => absurd h List.not_mem_nil⟩⟩⟩
theorem ok_Src_keep_0 : zx_okK 3 none prog_4_method_7_code ck_Src_keep_0 = true := by decide +kernel
theorem ok_Src_keep : ∀ g ∈ ck_Src_keep, zx_okK 3 none prog_4_method_7_code g.2 = true := List.forall_mem_cons.mpr ⟨ok_Src_keep_0, fun _ h => absurd h List.not_mem_nil⟩
theorem ok_Src_endsWell_0 : zx_okK 3 (some Jvm.ClassFile.FieldType.boolean) prog_4_method_8_code ck_Src_endsWell_0 = true := by decide +kernel
theorem ok_Src_endsWell : ∀ g ∈ ck_Src_endsWell, zx_okK 3 (some Jvm.ClassFile.FieldType.boolean) prog_4_method_8_code g.2 = true := List.forall_mem_cons.mpr ⟨ok_Src_endsWell_0, fun _ h => absurd h List.not_mem_nil⟩
theorem ok_Snk_begin_0 : zx_okK 4 none prog_3_method_2_code ck_Snk_begin_0 = true := by decide +kernel
theorem ok_Snk_begin_1 : zx_okK 4 none prog_3_method_2_code ck_Snk_begin_1 = true := by decide +kernel
theorem ok_Snk_begin : ∀ g ∈ ck_Snk_begin, zx_okK 4 none prog_3_method_2_code g.2 = true := List.forall_mem_cons.mpr ⟨ok_Snk_begin_0, List.forall_mem_cons.mpr ⟨ok_Snk_begin_1, fun _ h => absurd h List.not_mem_nil⟩⟩
theorem ok_Snk_shift_0 : zx_okK 4 none prog_3_method_3_code ck_Snk_shift_0 = true := by decide +kernel
theorem ok_Snk_shift_1 : zx_okK 4 none prog_3_method_3_code ck_Snk_shift_1 = true := by decide +kernel
theorem ok_Snk_shift : ∀ g ∈ ck_Snk_shift, zx_okK 4 none prog_3_method_3_code g.2 = true := List.forall_mem_cons.mpr ⟨ok_Snk_shift_0, List.forall_mem_cons.mpr ⟨ok_Snk_shift_1, fun _ h => absurd h List.not_mem_nil⟩⟩
theorem ok_Snk_raise_0 : zx_okK 4 none prog_3_method_4_code ck_Snk_raise_0 = true := by decide +kernel
theorem ok_Snk_raise_1 : zx_okK 4 none prog_3_method_4_code ck_Snk_raise_1 = true := by decide +kernel
theorem ok_Snk_raise : ∀ g ∈ ck_Snk_raise, zx_okK 4 none prog_3_method_4_code g.2 = true := List.forall_mem_cons.mpr ⟨ok_Snk_raise_0, List.forall_mem_cons.mpr ⟨ok_Snk_raise_1, fun _ h => absurd h List.not_mem_nil⟩⟩
theorem ok_Snk_codeBit_0 : zx_okK 4 (some Jvm.ClassFile.FieldType.int) prog_3_method_5_code ck_Snk_codeBit_0 = true := by decide +kernel
theorem ok_Snk_codeBit_1 : zx_okK 4 (some Jvm.ClassFile.FieldType.int) prog_3_method_5_code ck_Snk_codeBit_1 = true := by decide +kernel
theorem ok_Snk_codeBit : ∀ g ∈ ck_Snk_codeBit, zx_okK 4 (some Jvm.ClassFile.FieldType.int) prog_3_method_5_code g.2 = true := List.forall_mem_cons.mpr ⟨ok_Snk_codeBit_0, List.forall_mem_cons.mpr ⟨ok_Snk_codeBit_1, fun _ h => absurd h List.not_mem_nil⟩⟩
theorem ok_Snk_codeEvenBit_0 : zx_okK 4 (some Jvm.ClassFile.FieldType.int) prog_3_method_6_code ck_Snk_codeEvenBit_0 = true := by decide +kernel
theorem ok_Snk_codeEvenBit : ∀ g ∈ ck_Snk_codeEvenBit, zx_okK 4 (some Jvm.ClassFile.FieldType.int) prog_3_method_6_code g.2 = true := List.forall_mem_cons.mpr ⟨ok_Snk_codeEvenBit_0, fun _ h => absurd h List.not_mem_nil⟩
theorem ok_Snk_finish_0 : zx_okK 4 none prog_3_method_7_code ck_Snk_finish_0 = true := by decide +kernel
theorem ok_Snk_finish : ∀ g ∈ ck_Snk_finish, zx_okK 4 none prog_3_method_7_code g.2 = true := List.forall_mem_cons.mpr ⟨ok_Snk_finish_0, fun _ h => absurd h List.not_mem_nil⟩
theorem ok_Mdl_setProperties_0 : zx_okK 5 none prog_6_method_2_code ck_Mdl_setProperties_0 = true := by decide +kernel
theorem ok_Mdl_setProperties : ∀ g ∈ ck_Mdl_setProperties, zx_okK 5 none prog_6_method_2_code g.2 = true := List.forall_mem_cons.mpr ⟨ok_Mdl_setProperties_0, fun _ h => absurd h List.not_mem_nil⟩
theorem ok_Mdl_beginAnew_0 : zx_okK 5 none prog_6_method_3_code ck_Mdl_beginAnew_0 = true := by decide +kernel
theorem ok_Mdl_beginAnew : ∀ g ∈ ck_Mdl_beginAnew, zx_okK 5 none prog_6_method_3_code g.2 = true := List.forall_mem_cons.mpr ⟨ok_Mdl_beginAnew_0, fun _ h => absurd h List.not_mem_nil⟩
theorem ok_Mdl_useLine_0 : zx_okK 5 none prog_6_method_4_code ck_Mdl_useLine_0 = true := by decide +kernel
theorem ok_Mdl_useLine : ∀ g ∈ ck_Mdl_useLine, zx_okK 5 none prog_6_method_4_code g.2 = true := List.forall_mem_cons.mpr ⟨ok_Mdl_useLine_0, fun _ h => absurd h List.not_mem_nil⟩
theorem ok_Mdl_distanceOf_0 : zx_okK 5 (some Jvm.ClassFile.FieldType.long) prog_6_method_5_code ck_Mdl_distanceOf_0 = true := by decide +kernel
theorem ok_Mdl_distanceOf : ∀ g ∈ ck_Mdl_distanceOf, zx_okK 5 (some Jvm.ClassFile.FieldType.long) prog_6_method_5_code g.2 = true := List.forall_mem_cons.mpr ⟨ok_Mdl_distanceOf_0, fun _ h => absurd h List.not_mem_nil⟩
theorem ok_Mdl_step_0 : zx_okK 5 none prog_6_method_6_code ck_Mdl_step_0 = true := by decide +kernel
theorem ok_Mdl_step_1 : zx_okK 5 none prog_6_method_6_code ck_Mdl_step_1 = true := by decide +kernel
theorem ok_Mdl_step_2 : zx_okK 5 none prog_6_method_6_code ck_Mdl_step_2 = true := by decide +kernel
theorem ok_Mdl_step_3 : zx_okK 5 none prog_6_method_6_code ck_Mdl_step_3 = true := by decide +kernel
theorem ok_Mdl_step_4 : zx_okK 5 none prog_6_method_6_code ck_Mdl_step_4 = true := by decide +kernel
theorem ok_Mdl_step_5 : zx_okK 5 none prog_6_method_6_code ck_Mdl_step_5 = true := by decide +kernel
theorem ok_Mdl_step_6 : zx_okK 5 none prog_6_method_6_code ck_Mdl_step_6 = true := by decide +kernel
theorem ok_Mdl_step : ∀ g ∈ ck_Mdl_step, zx_okK 5 none prog_6_method_6_code g.2 = true := List.forall_mem_cons.mpr ⟨ok_Mdl_step_0, List.forall_mem_cons.mpr ⟨ok_Mdl_step_1, List.forall_mem_cons.mpr ⟨ok_Mdl_step_2, List.forall_mem_cons.mpr ⟨ok_Mdl_step_3, List.forall_mem_cons.mpr ⟨ok_Mdl_step_4, List.forall_mem_cons.mpr ⟨ok_Mdl_step_5, List.forall_mem_cons.mpr ⟨ok_Mdl_step_6, fun _ h => absurd h List.not_mem_nil⟩⟩⟩⟩⟩⟩⟩
theorem ok_Mdl_bringForward_0 : zx_okK 5 none prog_6_method_7_code ck_Mdl_bringForward_0 = true := by decide +kernel
theorem ok_Mdl_bringForward : ∀ g ∈ ck_Mdl_bringForward, zx_okK 5 none prog_6_method_7_code g.2 = true := List.forall_mem_cons.mpr ⟨ok_Mdl_bringForward_0, fun _ h => absurd h List.not_mem_nil⟩
theorem ok_Mdl_codeKind_0 : zx_okK 5 (some Jvm.ClassFile.FieldType.int) prog_6_method_8_code ck_Mdl_codeKind_0 = true := by decide +kernel
theorem ok_Mdl_codeKind_1 : zx_okK 5 (some Jvm.ClassFile.FieldType.int) prog_6_method_8_code ck_Mdl_codeKind_1 = true := by decide +kernel
theorem ok_Mdl_codeKind_2 : zx_okK 5 (some Jvm.ClassFile.FieldType.int) prog_6_method_8_code ck_Mdl_codeKind_2 = true := by decide +kernel
theorem ok_Mdl_codeKind_3 : zx_okK 5 (some Jvm.ClassFile.FieldType.int) prog_6_method_8_code ck_Mdl_codeKind_3 = true := by decide +kernel
theorem ok_Mdl_codeKind_4 : zx_okK 5 (some Jvm.ClassFile.FieldType.int) prog_6_method_8_code ck_Mdl_codeKind_4 = true := by decide +kernel
theorem ok_Mdl_codeKind : ∀ g ∈ ck_Mdl_codeKind, zx_okK 5 (some Jvm.ClassFile.FieldType.int) prog_6_method_8_code g.2 = true := List.forall_mem_cons.mpr ⟨ok_Mdl_codeKind_0, List.forall_mem_cons.mpr ⟨ok_Mdl_codeKind_1, List.forall_mem_cons.mpr ⟨ok_Mdl_codeKind_2, List.forall_mem_cons.mpr ⟨ok_Mdl_codeKind_3, List.forall_mem_cons.mpr ⟨ok_Mdl_codeKind_4, fun _ h => absurd h List.not_mem_nil⟩⟩⟩⟩⟩
theorem ok_Mdl_codeLiteral_0 : zx_okK 5 (some Jvm.ClassFile.FieldType.int) prog_6_method_9_code ck_Mdl_codeLiteral_0 = true := by decide +kernel
theorem ok_Mdl_codeLiteral_1 : zx_okK 5 (some Jvm.ClassFile.FieldType.int) prog_6_method_9_code ck_Mdl_codeLiteral_1 = true := by decide +kernel
theorem ok_Mdl_codeLiteral_2 : zx_okK 5 (some Jvm.ClassFile.FieldType.int) prog_6_method_9_code ck_Mdl_codeLiteral_2 = true := by decide +kernel
theorem ok_Mdl_codeLiteral : ∀ g ∈ ck_Mdl_codeLiteral, zx_okK 5 (some Jvm.ClassFile.FieldType.int) prog_6_method_9_code g.2 = true := List.forall_mem_cons.mpr ⟨ok_Mdl_codeLiteral_0, List.forall_mem_cons.mpr ⟨ok_Mdl_codeLiteral_1, List.forall_mem_cons.mpr ⟨ok_Mdl_codeLiteral_2, fun _ h => absurd h List.not_mem_nil⟩⟩⟩
theorem ok_Mdl_codeLength_0 : zx_okK 5 (some Jvm.ClassFile.FieldType.int) prog_6_method_10_code ck_Mdl_codeLength_0 = true := by decide +kernel
theorem ok_Mdl_codeLength_1 : zx_okK 5 (some Jvm.ClassFile.FieldType.int) prog_6_method_10_code ck_Mdl_codeLength_1 = true := by decide +kernel
theorem ok_Mdl_codeLength_2 : zx_okK 5 (some Jvm.ClassFile.FieldType.int) prog_6_method_10_code ck_Mdl_codeLength_2 = true := by decide +kernel
theorem ok_Mdl_codeLength_3 : zx_okK 5 (some Jvm.ClassFile.FieldType.int) prog_6_method_10_code ck_Mdl_codeLength_3 = true := by decide +kernel
theorem ok_Mdl_codeLength : ∀ g ∈ ck_Mdl_codeLength, zx_okK 5 (some Jvm.ClassFile.FieldType.int) prog_6_method_10_code g.2 = true := List.forall_mem_cons.mpr ⟨ok_Mdl_codeLength_0, List.forall_mem_cons.mpr ⟨ok_Mdl_codeLength_1, List.forall_mem_cons.mpr ⟨ok_Mdl_codeLength_2, List.forall_mem_cons.mpr ⟨ok_Mdl_codeLength_3, fun _ h => absurd h List.not_mem_nil⟩⟩⟩⟩
theorem ok_Mdl_codeDistance_0 : zx_okK 5 (some Jvm.ClassFile.FieldType.long) prog_6_method_11_code ck_Mdl_codeDistance_0 = true := by decide +kernel
theorem ok_Mdl_codeDistance_1 : zx_okK 5 (some Jvm.ClassFile.FieldType.long) prog_6_method_11_code ck_Mdl_codeDistance_1 = true := by decide +kernel
theorem ok_Mdl_codeDistance_2 : zx_okK 5 (some Jvm.ClassFile.FieldType.long) prog_6_method_11_code ck_Mdl_codeDistance_2 = true := by decide +kernel
theorem ok_Mdl_codeDistance_3 : zx_okK 5 (some Jvm.ClassFile.FieldType.long) prog_6_method_11_code ck_Mdl_codeDistance_3 = true := by decide +kernel
theorem ok_Mdl_codeDistance_4 : zx_okK 5 (some Jvm.ClassFile.FieldType.long) prog_6_method_11_code ck_Mdl_codeDistance_4 = true := by decide +kernel
theorem ok_Mdl_codeDistance : ∀ g ∈ ck_Mdl_codeDistance, zx_okK 5 (some Jvm.ClassFile.FieldType.long) prog_6_method_11_code g.2 = true := List.forall_mem_cons.mpr ⟨ok_Mdl_codeDistance_0, List.forall_mem_cons.mpr ⟨ok_Mdl_codeDistance_1, List.forall_mem_cons.mpr ⟨ok_Mdl_codeDistance_2, List.forall_mem_cons.mpr ⟨ok_Mdl_codeDistance_3, List.forall_mem_cons.mpr ⟨ok_Mdl_codeDistance_4, fun _ h => absurd h List.not_mem_nil⟩⟩⟩⟩⟩
theorem ok_Mdl_slotOf_0 : zx_okK 5 (some Jvm.ClassFile.FieldType.int) prog_6_method_12_code ck_Mdl_slotOf_0 = true := by decide +kernel
theorem ok_Mdl_slotOf_1 : zx_okK 5 (some Jvm.ClassFile.FieldType.int) prog_6_method_12_code ck_Mdl_slotOf_1 = true := by decide +kernel
theorem ok_Mdl_slotOf : ∀ g ∈ ck_Mdl_slotOf, zx_okK 5 (some Jvm.ClassFile.FieldType.int) prog_6_method_12_code g.2 = true := List.forall_mem_cons.mpr ⟨ok_Mdl_slotOf_0, List.forall_mem_cons.mpr ⟨ok_Mdl_slotOf_1, fun _ h => absurd h List.not_mem_nil⟩⟩
theorem ok_Mdl_codeTree_0 : zx_okK 5 (some Jvm.ClassFile.FieldType.int) prog_6_method_13_code ck_Mdl_codeTree_0 = true := by decide +kernel
theorem ok_Mdl_codeTree_1 : zx_okK 5 (some Jvm.ClassFile.FieldType.int) prog_6_method_13_code ck_Mdl_codeTree_1 = true := by decide +kernel
theorem ok_Mdl_codeTree : ∀ g ∈ ck_Mdl_codeTree, zx_okK 5 (some Jvm.ClassFile.FieldType.int) prog_6_method_13_code g.2 = true := List.forall_mem_cons.mpr ⟨ok_Mdl_codeTree_0, List.forall_mem_cons.mpr ⟨ok_Mdl_codeTree_1, fun _ h => absurd h List.not_mem_nil⟩⟩
theorem ok_Mdl_codeTreeBackwards_0 : zx_okK 5 (some Jvm.ClassFile.FieldType.int) prog_6_method_14_code ck_Mdl_codeTreeBackwards_0 = true := by decide +kernel
theorem ok_Mdl_codeTreeBackwards_1 : zx_okK 5 (some Jvm.ClassFile.FieldType.int) prog_6_method_14_code ck_Mdl_codeTreeBackwards_1 = true := by decide +kernel
theorem ok_Mdl_codeTreeBackwards : ∀ g ∈ ck_Mdl_codeTreeBackwards, zx_okK 5 (some Jvm.ClassFile.FieldType.int) prog_6_method_14_code g.2 = true := List.forall_mem_cons.mpr ⟨ok_Mdl_codeTreeBackwards_0, List.forall_mem_cons.mpr ⟨ok_Mdl_codeTreeBackwards_1, fun _ h => absurd h List.not_mem_nil⟩⟩
theorem ok_Unp_begin_0 : zx_okK 6 none prog_9_method_2_code ck_Unp_begin_0 = true := by decide +kernel
theorem ok_Unp_begin : ∀ g ∈ ck_Unp_begin, zx_okK 6 none prog_9_method_2_code g.2 = true := List.forall_mem_cons.mpr ⟨ok_Unp_begin_0, fun _ h => absurd h List.not_mem_nil⟩
theorem ok_Unp_readStart_0 : zx_okK 6 none prog_9_method_3_code ck_Unp_readStart_0 = true := by decide +kernel
theorem ok_Unp_readStart_1 : zx_okK 6 none prog_9_method_3_code ck_Unp_readStart_1 = true := by decide +kernel
theorem ok_Unp_readStart_2 : zx_okK 6 none prog_9_method_3_code ck_Unp_readStart_2 = true := by decide +kernel
theorem ok_Unp_readStart_3 : zx_okK 6 none prog_9_method_3_code ck_Unp_readStart_3 = true := by decide +kernel
theorem ok_Unp_readStart : ∀ g ∈ ck_Unp_readStart, zx_okK 6 none prog_9_method_3_code g.2 = true := List.forall_mem_cons.mpr ⟨ok_Unp_readStart_0, List.forall_mem_cons.mpr ⟨ok_Unp_readStart_1, List.forall_mem_cons.mpr ⟨ok_Unp_readStart_2, List.forall_mem_cons.mpr ⟨ok_Unp_readStart_3, fun _ h => absurd h List.not_mem_nil⟩⟩⟩⟩
theorem ok_Unp_comesBlock_0 : zx_okK 6 (some Jvm.ClassFile.FieldType.boolean) prog_9_method_4_code ck_Unp_comesBlock_0 = true := by decide +kernel
theorem ok_Unp_comesBlock : ∀ g ∈ ck_Unp_comesBlock, zx_okK 6 (some Jvm.ClassFile.FieldType.boolean) prog_9_method_4_code g.2 = true := List.forall_mem_cons.mpr ⟨ok_Unp_comesBlock_0, fun _ h => absurd h List.not_mem_nil⟩
theorem ok_Unp_readBlock_0 : zx_okK 6 none prog_9_method_5_code ck_Unp_readBlock_0 = true := by decide +kernel
theorem ok_Unp_readBlock_1 : zx_okK 6 none prog_9_method_5_code ck_Unp_readBlock_1 = true := by decide +kernel
theorem ok_Unp_readBlock_2 : zx_okK 6 none prog_9_method_5_code ck_Unp_readBlock_2 = true := by decide +kernel
theorem ok_Unp_readBlock : ∀ g ∈ ck_Unp_readBlock, zx_okK 6 none prog_9_method_5_code g.2 = true := List.forall_mem_cons.mpr ⟨ok_Unp_readBlock_0, List.forall_mem_cons.mpr ⟨ok_Unp_readBlock_1, List.forall_mem_cons.mpr ⟨ok_Unp_readBlock_2, fun _ h => absurd h List.not_mem_nil⟩⟩⟩
theorem ok_Unp_readHead_0 : zx_okK 6 none prog_9_method_6_code ck_Unp_readHead_0 = true := by decide +kernel
theorem ok_Unp_readHead_1 : zx_okK 6 none prog_9_method_6_code ck_Unp_readHead_1 = true := by decide +kernel
theorem ok_Unp_readHead_2 : zx_okK 6 none prog_9_method_6_code ck_Unp_readHead_2 = true := by decide +kernel
theorem ok_Unp_readHead_3 : zx_okK 6 none prog_9_method_6_code ck_Unp_readHead_3 = true := by decide +kernel
theorem ok_Unp_readHead : ∀ g ∈ ck_Unp_readHead, zx_okK 6 none prog_9_method_6_code g.2 = true := List.forall_mem_cons.mpr ⟨ok_Unp_readHead_0, List.forall_mem_cons.mpr ⟨ok_Unp_readHead_1, List.forall_mem_cons.mpr ⟨ok_Unp_readHead_2, List.forall_mem_cons.mpr ⟨ok_Unp_readHead_3, fun _ h => absurd h List.not_mem_nil⟩⟩⟩⟩
theorem ok_Unp_readHeadNumbers_0 : zx_okK 6 none prog_9_method_7_code ck_Unp_readHeadNumbers_0 = true := by decide +kernel
theorem ok_Unp_readHeadNumbers_1 : zx_okK 6 none prog_9_method_7_code ck_Unp_readHeadNumbers_1 = true := by decide +kernel
theorem ok_Unp_readHeadNumbers_2 : zx_okK 6 none prog_9_method_7_code ck_Unp_readHeadNumbers_2 = true := by decide +kernel
theorem ok_Unp_readHeadNumbers : ∀ g ∈ ck_Unp_readHeadNumbers, zx_okK 6 none prog_9_method_7_code g.2 = true := List.forall_mem_cons.mpr ⟨ok_Unp_readHeadNumbers_0, List.forall_mem_cons.mpr ⟨ok_Unp_readHeadNumbers_1, List.forall_mem_cons.mpr ⟨ok_Unp_readHeadNumbers_2, fun _ h => absurd h List.not_mem_nil⟩⟩⟩
theorem ok_Unp_readChunkHead_0 : zx_okK 6 none prog_9_method_8_code ck_Unp_readChunkHead_0 = true := by decide +kernel
theorem ok_Unp_readChunkHead_1 : zx_okK 6 none prog_9_method_8_code ck_Unp_readChunkHead_1 = true := by decide +kernel
theorem ok_Unp_readChunkHead_2 : zx_okK 6 none prog_9_method_8_code ck_Unp_readChunkHead_2 = true := by decide +kernel
theorem ok_Unp_readChunkHead_3 : zx_okK 6 none prog_9_method_8_code ck_Unp_readChunkHead_3 = true := by decide +kernel
theorem ok_Unp_readChunkHead : ∀ g ∈ ck_Unp_readChunkHead, zx_okK 6 none prog_9_method_8_code g.2 = true := List.forall_mem_cons.mpr ⟨ok_Unp_readChunkHead_0, List.forall_mem_cons.mpr ⟨ok_Unp_readChunkHead_1, List.forall_mem_cons.mpr ⟨ok_Unp_readChunkHead_2, List.forall_mem_cons.mpr ⟨ok_Unp_readChunkHead_3, fun _ h => absurd h List.not_mem_nil⟩⟩⟩⟩
theorem ok_Unp_empties_0 : zx_okK 6 (some Jvm.ClassFile.FieldType.boolean) prog_9_method_9_code ck_Unp_empties_0 = true := by decide +kernel
theorem ok_Unp_empties : ∀ g ∈ ck_Unp_empties, zx_okK 6 (some Jvm.ClassFile.FieldType.boolean) prog_9_method_9_code g.2 = true := List.forall_mem_cons.mpr ⟨ok_Unp_empties_0, fun _ h => absurd h List.not_mem_nil⟩
theorem ok_Unp_isAllowed_0 : zx_okK 6 (some Jvm.ClassFile.FieldType.boolean) prog_9_method_10_code ck_Unp_isAllowed_0 = true := by decide +kernel
theorem ok_Unp_isAllowed_1 : zx_okK 6 (some Jvm.ClassFile.FieldType.boolean) prog_9_method_10_code ck_Unp_isAllowed_1 = true := by decide +kernel
theorem ok_Unp_isAllowed : ∀ g ∈ ck_Unp_isAllowed, zx_okK 6 (some Jvm.ClassFile.FieldType.boolean) prog_9_method_10_code g.2 = true := List.forall_mem_cons.mpr ⟨ok_Unp_isAllowed_0, List.forall_mem_cons.mpr ⟨ok_Unp_isAllowed_1, fun _ h => absurd h List.not_mem_nil⟩⟩
theorem ok_Unp_readProperties_0 : zx_okK 6 none prog_9_method_11_code ck_Unp_readProperties_0 = true := by decide +kernel
theorem ok_Unp_readProperties_1 : zx_okK 6 none prog_9_method_11_code ck_Unp_readProperties_1 = true := by decide +kernel
theorem ok_Unp_readProperties_2 : zx_okK 6 none prog_9_method_11_code ck_Unp_readProperties_2 = true := by decide +kernel
theorem ok_Unp_readProperties : ∀ g ∈ ck_Unp_readProperties, zx_okK 6 none prog_9_method_11_code g.2 = true := List.forall_mem_cons.mpr ⟨ok_Unp_readProperties_0, List.forall_mem_cons.mpr ⟨ok_Unp_readProperties_1, List.forall_mem_cons.mpr ⟨ok_Unp_readProperties_2, fun _ h => absurd h List.not_mem_nil⟩⟩⟩
theorem ok_Unp_hasBytesAndRoom_0 : zx_okK 6 (some Jvm.ClassFile.FieldType.boolean) prog_9_method_12_code ck_Unp_hasBytesAndRoom_0 = true := by decide +kernel
theorem ok_Unp_hasBytesAndRoom : ∀ g ∈ ck_Unp_hasBytesAndRoom, zx_okK 6 (some Jvm.ClassFile.FieldType.boolean) prog_9_method_12_code g.2 = true := List.forall_mem_cons.mpr ⟨ok_Unp_hasBytesAndRoom_0, fun _ h => absurd h List.not_mem_nil⟩
theorem ok_Unp_givePlain_0 : zx_okK 6 none prog_9_method_13_code ck_Unp_givePlain_0 = true := by decide +kernel
theorem ok_Unp_givePlain_1 : zx_okK 6 none prog_9_method_13_code ck_Unp_givePlain_1 = true := by decide +kernel
theorem ok_Unp_givePlain : ∀ g ∈ ck_Unp_givePlain, zx_okK 6 none prog_9_method_13_code g.2 = true := List.forall_mem_cons.mpr ⟨ok_Unp_givePlain_0, List.forall_mem_cons.mpr ⟨ok_Unp_givePlain_1, fun _ h => absurd h List.not_mem_nil⟩⟩
theorem ok_Unp_giveCoded_0 : zx_okK 6 none prog_9_method_14_code ck_Unp_giveCoded_0 = true := by decide +kernel
theorem ok_Unp_giveCoded_1 : zx_okK 6 none prog_9_method_14_code ck_Unp_giveCoded_1 = true := by decide +kernel
theorem ok_Unp_giveCoded_2 : zx_okK 6 none prog_9_method_14_code ck_Unp_giveCoded_2 = true := by decide +kernel
theorem ok_Unp_giveCoded_3 : zx_okK 6 none prog_9_method_14_code ck_Unp_giveCoded_3 = true := by decide +kernel
theorem ok_Unp_giveCoded_4 : zx_okK 6 none prog_9_method_14_code ck_Unp_giveCoded_4 = true := by decide +kernel
theorem ok_Unp_giveCoded_5 : zx_okK 6 none prog_9_method_14_code ck_Unp_giveCoded_5 = true := by decide +kernel
theorem ok_Unp_giveCoded : ∀ g ∈ ck_Unp_giveCoded, zx_okK 6 none prog_9_method_14_code g.2 = true := List.forall_mem_cons.mpr ⟨ok_Unp_giveCoded_0, List.forall_mem_cons.mpr ⟨ok_Unp_giveCoded_1, List.forall_mem_cons.mpr ⟨ok_Unp_giveCoded_2, List.forall_mem_cons.mpr ⟨ok_Unp_giveCoded_3, List.forall_mem_cons.mpr ⟨ok_Unp_giveCoded_4, List.forall_mem_cons.mpr ⟨ok_Unp_giveCoded_5, fun _ h => absurd h List.not_mem_nil⟩⟩⟩⟩⟩⟩
theorem ok_Unp_giveStep_0 : zx_okK 6 (some Jvm.ClassFile.FieldType.boolean) prog_9_method_15_code ck_Unp_giveStep_0 = true := by decide +kernel
theorem ok_Unp_giveStep_1 : zx_okK 6 (some Jvm.ClassFile.FieldType.boolean) prog_9_method_15_code ck_Unp_giveStep_1 = true := by decide +kernel
theorem ok_Unp_giveStep : ∀ g ∈ ck_Unp_giveStep, zx_okK 6 (some Jvm.ClassFile.FieldType.boolean) prog_9_method_15_code g.2 = true := List.forall_mem_cons.mpr ⟨ok_Unp_giveStep_0, List.forall_mem_cons.mpr ⟨ok_Unp_giveStep_1, fun _ h => absurd h List.not_mem_nil⟩⟩
theorem ok_Unp_closeBlock_0 : zx_okK 6 none prog_9_method_16_code ck_Unp_closeBlock_0 = true := by decide +kernel
theorem ok_Unp_closeBlock_1 : zx_okK 6 none prog_9_method_16_code ck_Unp_closeBlock_1 = true := by decide +kernel
theorem ok_Unp_closeBlock_2 : zx_okK 6 none prog_9_method_16_code ck_Unp_closeBlock_2 = true := by decide +kernel
theorem ok_Unp_closeBlock_3 : zx_okK 6 none prog_9_method_16_code ck_Unp_closeBlock_3 = true := by decide +kernel
theorem ok_Unp_closeBlock_4 : zx_okK 6 none prog_9_method_16_code ck_Unp_closeBlock_4 = true := by decide +kernel
theorem ok_Unp_closeBlock_5 : zx_okK 6 none prog_9_method_16_code ck_Unp_closeBlock_5 = true := by decide +kernel
theorem ok_Unp_closeBlock : ∀ g ∈ ck_Unp_closeBlock, zx_okK 6 none prog_9_method_16_code g.2 = true := List.forall_mem_cons.mpr ⟨ok_Unp_closeBlock_0, List.forall_mem_cons.mpr ⟨ok_Unp_closeBlock_1, List.forall_mem_cons.mpr ⟨ok_Unp_closeBlock_2, List.forall_mem_cons.mpr ⟨ok_Unp_closeBlock_3, List.forall_mem_cons.mpr ⟨ok_Unp_closeBlock_4, List.forall_mem_cons.mpr ⟨ok_Unp_closeBlock_5, fun _ h => absurd h List.not_mem_nil⟩⟩⟩⟩⟩⟩
theorem ok_Unp_readIndex_0 : zx_okK 6 none prog_9_method_17_code ck_Unp_readIndex_0 = true := by decide +kernel
theorem ok_Unp_readIndex_1 : zx_okK 6 none prog_9_method_17_code ck_Unp_readIndex_1 = true := by decide +kernel
theorem ok_Unp_readIndex_2 : zx_okK 6 none prog_9_method_17_code ck_Unp_readIndex_2 = true := by decide +kernel
theorem ok_Unp_readIndex_3 : zx_okK 6 none prog_9_method_17_code ck_Unp_readIndex_3 = true := by decide +kernel
theorem ok_Unp_readIndex : ∀ g ∈ ck_Unp_readIndex, zx_okK 6 none prog_9_method_17_code g.2 = true := List.forall_mem_cons.mpr ⟨ok_Unp_readIndex_0, List.forall_mem_cons.mpr ⟨ok_Unp_readIndex_1, List.forall_mem_cons.mpr ⟨ok_Unp_readIndex_2, List.forall_mem_cons.mpr ⟨ok_Unp_readIndex_3, fun _ h => absurd h List.not_mem_nil⟩⟩⟩⟩
theorem ok_Unp_readEnd_0 : zx_okK 6 none prog_9_method_18_code ck_Unp_readEnd_0 = true := by decide +kernel
theorem ok_Unp_readEnd_1 : zx_okK 6 none prog_9_method_18_code ck_Unp_readEnd_1 = true := by decide +kernel
theorem ok_Unp_readEnd_2 : zx_okK 6 none prog_9_method_18_code ck_Unp_readEnd_2 = true := by decide +kernel
theorem ok_Unp_readEnd_3 : zx_okK 6 none prog_9_method_18_code ck_Unp_readEnd_3 = true := by decide +kernel
theorem ok_Unp_readEnd_4 : zx_okK 6 none prog_9_method_18_code ck_Unp_readEnd_4 = true := by decide +kernel
theorem ok_Unp_readEnd : ∀ g ∈ ck_Unp_readEnd, zx_okK 6 none prog_9_method_18_code g.2 = true := List.forall_mem_cons.mpr ⟨ok_Unp_readEnd_0, List.forall_mem_cons.mpr ⟨ok_Unp_readEnd_1, List.forall_mem_cons.mpr ⟨ok_Unp_readEnd_2, List.forall_mem_cons.mpr ⟨ok_Unp_readEnd_3, List.forall_mem_cons.mpr ⟨ok_Unp_readEnd_4, fun _ h => absurd h List.not_mem_nil⟩⟩⟩⟩⟩
theorem ok_Pkg_begin_0 : zx_okK 7 none prog_7_method_2_code ck_Pkg_begin_0 = true := by decide +kernel
theorem ok_Pkg_begin_1 : zx_okK 7 none prog_7_method_2_code ck_Pkg_begin_1 = true := by decide +kernel
theorem ok_Pkg_begin : ∀ g ∈ ck_Pkg_begin, zx_okK 7 none prog_7_method_2_code g.2 = true := List.forall_mem_cons.mpr ⟨ok_Pkg_begin_0, List.forall_mem_cons.mpr ⟨ok_Pkg_begin_1, fun _ h => absurd h List.not_mem_nil⟩⟩
theorem ok_Pkg_writeHead_0 : zx_okK 7 none prog_7_method_3_code ck_Pkg_writeHead_0 = true := by decide +kernel
theorem ok_Pkg_writeHead_1 : zx_okK 7 none prog_7_method_3_code ck_Pkg_writeHead_1 = true := by decide +kernel
theorem ok_Pkg_writeHead_2 : zx_okK 7 none prog_7_method_3_code ck_Pkg_writeHead_2 = true := by decide +kernel
theorem ok_Pkg_writeHead : ∀ g ∈ ck_Pkg_writeHead, zx_okK 7 none prog_7_method_3_code g.2 = true := List.forall_mem_cons.mpr ⟨ok_Pkg_writeHead_0, List.forall_mem_cons.mpr ⟨ok_Pkg_writeHead_1, List.forall_mem_cons.mpr ⟨ok_Pkg_writeHead_2, fun _ h => absurd h List.not_mem_nil⟩⟩⟩
theorem ok_Pkg_writePiece_0 : zx_okK 7 none prog_7_method_4_code ck_Pkg_writePiece_0 = true := by decide +kernel
theorem ok_Pkg_writePiece_1 : zx_okK 7 none prog_7_method_4_code ck_Pkg_writePiece_1 = true := by decide +kernel
theorem ok_Pkg_writePiece : ∀ g ∈ ck_Pkg_writePiece, zx_okK 7 none prog_7_method_4_code g.2 = true := List.forall_mem_cons.mpr ⟨ok_Pkg_writePiece_0, List.forall_mem_cons.mpr ⟨ok_Pkg_writePiece_1, fun _ h => absurd h List.not_mem_nil⟩⟩
theorem ok_Pkg_writePlain_0 : zx_okK 7 none prog_7_method_5_code ck_Pkg_writePlain_0 = true := by decide +kernel
theorem ok_Pkg_writePlain_1 : zx_okK 7 none prog_7_method_5_code ck_Pkg_writePlain_1 = true := by decide +kernel
theorem ok_Pkg_writePlain : ∀ g ∈ ck_Pkg_writePlain, zx_okK 7 none prog_7_method_5_code g.2 = true := List.forall_mem_cons.mpr ⟨ok_Pkg_writePlain_0, List.forall_mem_cons.mpr ⟨ok_Pkg_writePlain_1, fun _ h => absurd h List.not_mem_nil⟩⟩
theorem ok_Pkg_writeCoded_0 : zx_okK 7 none prog_7_method_6_code ck_Pkg_writeCoded_0 = true := by decide +kernel
theorem ok_Pkg_writeCoded_1 : zx_okK 7 none prog_7_method_6_code ck_Pkg_writeCoded_1 = true := by decide +kernel
theorem ok_Pkg_writeCoded_2 : zx_okK 7 none prog_7_method_6_code ck_Pkg_writeCoded_2 = true := by decide +kernel
theorem ok_Pkg_writeCoded : ∀ g ∈ ck_Pkg_writeCoded, zx_okK 7 none prog_7_method_6_code g.2 = true := List.forall_mem_cons.mpr ⟨ok_Pkg_writeCoded_0, List.forall_mem_cons.mpr ⟨ok_Pkg_writeCoded_1, List.forall_mem_cons.mpr ⟨ok_Pkg_writeCoded_2, fun _ h => absurd h List.not_mem_nil⟩⟩⟩
theorem ok_Pkg_appendTwo_0 : zx_okK 7 none prog_7_method_7_code ck_Pkg_appendTwo_0 = true := by decide +kernel
theorem ok_Pkg_appendTwo : ∀ g ∈ ck_Pkg_appendTwo, zx_okK 7 none prog_7_method_7_code g.2 = true := List.forall_mem_cons.mpr ⟨ok_Pkg_appendTwo_0, fun _ h => absurd h List.not_mem_nil⟩
theorem ok_Pkg_encode_0 : zx_okK 7 (some Jvm.ClassFile.FieldType.boolean) prog_7_method_8_code ck_Pkg_encode_0 = true := by decide +kernel
theorem ok_Pkg_encode_1 : zx_okK 7 (some Jvm.ClassFile.FieldType.boolean) prog_7_method_8_code ck_Pkg_encode_1 = true := by decide +kernel
theorem ok_Pkg_encode_2 : zx_okK 7 (some Jvm.ClassFile.FieldType.boolean) prog_7_method_8_code ck_Pkg_encode_2 = true := by decide +kernel
theorem ok_Pkg_encode_3 : zx_okK 7 (some Jvm.ClassFile.FieldType.boolean) prog_7_method_8_code ck_Pkg_encode_3 = true := by decide +kernel
theorem ok_Pkg_encode : ∀ g ∈ ck_Pkg_encode, zx_okK 7 (some Jvm.ClassFile.FieldType.boolean) prog_7_method_8_code g.2 = true := List.forall_mem_cons.mpr ⟨ok_Pkg_encode_0, List.forall_mem_cons.mpr ⟨ok_Pkg_encode_1, List.forall_mem_cons.mpr ⟨ok_Pkg_encode_2, List.forall_mem_cons.mpr ⟨ok_Pkg_encode_3, fun _ h => absurd h List.not_mem_nil⟩⟩⟩⟩
theorem ok_Pkg_choose_0 : zx_okK 7 none prog_7_method_9_code ck_Pkg_choose_0 = true := by decide +kernel
theorem ok_Pkg_choose_1 : zx_okK 7 none prog_7_method_9_code ck_Pkg_choose_1 = true := by decide +kernel
theorem ok_Pkg_choose_2 : zx_okK 7 none prog_7_method_9_code ck_Pkg_choose_2 = true := by decide +kernel
theorem ok_Pkg_choose_3 : zx_okK 7 none prog_7_method_9_code ck_Pkg_choose_3 = true := by decide +kernel
theorem ok_Pkg_choose : ∀ g ∈ ck_Pkg_choose, zx_okK 7 none prog_7_method_9_code g.2 = true := List.forall_mem_cons.mpr ⟨ok_Pkg_choose_0, List.forall_mem_cons.mpr ⟨ok_Pkg_choose_1, List.forall_mem_cons.mpr ⟨ok_Pkg_choose_2, List.forall_mem_cons.mpr ⟨ok_Pkg_choose_3, fun _ h => absurd h List.not_mem_nil⟩⟩⟩⟩
theorem ok_Pkg_searchMatch_0 : zx_okK 7 none prog_7_method_10_code ck_Pkg_searchMatch_0 = true := by decide +kernel
theorem ok_Pkg_searchMatch_1 : zx_okK 7 none prog_7_method_10_code ck_Pkg_searchMatch_1 = true := by decide +kernel
theorem ok_Pkg_searchMatch : ∀ g ∈ ck_Pkg_searchMatch, zx_okK 7 none prog_7_method_10_code g.2 = true := List.forall_mem_cons.mpr ⟨ok_Pkg_searchMatch_0, List.forall_mem_cons.mpr ⟨ok_Pkg_searchMatch_1, fun _ h => absurd h List.not_mem_nil⟩⟩
theorem ok_Pkg_searchAgain_0 : zx_okK 7 none prog_7_method_11_code ck_Pkg_searchAgain_0 = true := by decide +kernel
theorem ok_Pkg_searchAgain_1 : zx_okK 7 none prog_7_method_11_code ck_Pkg_searchAgain_1 = true := by decide +kernel
theorem ok_Pkg_searchAgain : ∀ g ∈ ck_Pkg_searchAgain, zx_okK 7 none prog_7_method_11_code g.2 = true := List.forall_mem_cons.mpr ⟨ok_Pkg_searchAgain_0, List.forall_mem_cons.mpr ⟨ok_Pkg_searchAgain_1, fun _ h => absurd h List.not_mem_nil⟩⟩
theorem ok_Pkg_sameBytes_0 : zx_okK 7 (some Jvm.ClassFile.FieldType.int) prog_7_method_12_code ck_Pkg_sameBytes_0 = true := by decide +kernel
theorem ok_Pkg_sameBytes_1 : zx_okK 7 (some Jvm.ClassFile.FieldType.int) prog_7_method_12_code ck_Pkg_sameBytes_1 = true := by decide +kernel
theorem ok_Pkg_sameBytes : ∀ g ∈ ck_Pkg_sameBytes, zx_okK 7 (some Jvm.ClassFile.FieldType.int) prog_7_method_12_code g.2 = true := List.forall_mem_cons.mpr ⟨ok_Pkg_sameBytes_0, List.forall_mem_cons.mpr ⟨ok_Pkg_sameBytes_1, fun _ h => absurd h List.not_mem_nil⟩⟩
theorem ok_Pkg_closeBlock_0 : zx_okK 7 none prog_7_method_13_code ck_Pkg_closeBlock_0 = true := by decide +kernel
theorem ok_Pkg_closeBlock_1 : zx_okK 7 none prog_7_method_13_code ck_Pkg_closeBlock_1 = true := by decide +kernel
theorem ok_Pkg_closeBlock_2 : zx_okK 7 none prog_7_method_13_code ck_Pkg_closeBlock_2 = true := by decide +kernel
theorem ok_Pkg_closeBlock : ∀ g ∈ ck_Pkg_closeBlock, zx_okK 7 none prog_7_method_13_code g.2 = true := List.forall_mem_cons.mpr ⟨ok_Pkg_closeBlock_0, List.forall_mem_cons.mpr ⟨ok_Pkg_closeBlock_1, List.forall_mem_cons.mpr ⟨ok_Pkg_closeBlock_2, fun _ h => absurd h List.not_mem_nil⟩⟩⟩
theorem ok_Pkg_fillUp_0 : zx_okK 7 none prog_7_method_14_code ck_Pkg_fillUp_0 = true := by decide +kernel
theorem ok_Pkg_fillUp : ∀ g ∈ ck_Pkg_fillUp, zx_okK 7 none prog_7_method_14_code g.2 = true := List.forall_mem_cons.mpr ⟨ok_Pkg_fillUp_0, fun _ h => absurd h List.not_mem_nil⟩
theorem ok_Pkg_appendNumber_0 : zx_okK 7 none prog_7_method_15_code ck_Pkg_appendNumber_0 = true := by decide +kernel
theorem ok_Pkg_appendNumber_1 : zx_okK 7 none prog_7_method_15_code ck_Pkg_appendNumber_1 = true := by decide +kernel
theorem ok_Pkg_appendNumber : ∀ g ∈ ck_Pkg_appendNumber, zx_okK 7 none prog_7_method_15_code g.2 = true := List.forall_mem_cons.mpr ⟨ok_Pkg_appendNumber_0, List.forall_mem_cons.mpr ⟨ok_Pkg_appendNumber_1, fun _ h => absurd h List.not_mem_nil⟩⟩
theorem ok_Pkg_writeIndex_0 : zx_okK 7 none prog_7_method_16_code ck_Pkg_writeIndex_0 = true := by decide +kernel
theorem ok_Pkg_writeIndex_1 : zx_okK 7 none prog_7_method_16_code ck_Pkg_writeIndex_1 = true := by decide +kernel
theorem ok_Pkg_writeIndex_2 : zx_okK 7 none prog_7_method_16_code ck_Pkg_writeIndex_2 = true := by decide +kernel
theorem ok_Pkg_writeIndex : ∀ g ∈ ck_Pkg_writeIndex, zx_okK 7 none prog_7_method_16_code g.2 = true := List.forall_mem_cons.mpr ⟨ok_Pkg_writeIndex_0, List.forall_mem_cons.mpr ⟨ok_Pkg_writeIndex_1, List.forall_mem_cons.mpr ⟨ok_Pkg_writeIndex_2, fun _ h => absurd h List.not_mem_nil⟩⟩⟩
theorem ok_Pkg_writeEnd_0 : zx_okK 7 none prog_7_method_17_code ck_Pkg_writeEnd_0 = true := by decide +kernel
theorem ok_Pkg_writeEnd_1 : zx_okK 7 none prog_7_method_17_code ck_Pkg_writeEnd_1 = true := by decide +kernel
theorem ok_Pkg_writeEnd : ∀ g ∈ ck_Pkg_writeEnd, zx_okK 7 none prog_7_method_17_code g.2 = true := List.forall_mem_cons.mpr ⟨ok_Pkg_writeEnd_0, List.forall_mem_cons.mpr ⟨ok_Pkg_writeEnd_1, fun _ h => absurd h List.not_mem_nil⟩⟩
theorem ok_R_feed_0 : zx_okK 8 (some Jvm.ClassFile.FieldType.int) prog_11_method_2_code ck_R_feed_0 = true := by decide +kernel
theorem ok_R_feed_1 : zx_okK 8 (some Jvm.ClassFile.FieldType.int) prog_11_method_2_code ck_R_feed_1 = true := by decide +kernel
theorem ok_R_feed_2 : zx_okK 8 (some Jvm.ClassFile.FieldType.int) prog_11_method_2_code ck_R_feed_2 = true := by decide +kernel
theorem ok_R_feed_3 : zx_okK 8 (some Jvm.ClassFile.FieldType.int) prog_11_method_2_code ck_R_feed_3 = true := by decide +kernel
theorem ok_R_feed : ∀ g ∈ ck_R_feed, zx_okK 8 (some Jvm.ClassFile.FieldType.int) prog_11_method_2_code g.2 = true := List.forall_mem_cons.mpr ⟨ok_R_feed_0, List.forall_mem_cons.mpr ⟨ok_R_feed_1, List.forall_mem_cons.mpr ⟨ok_R_feed_2, List.forall_mem_cons.mpr ⟨ok_R_feed_3, fun _ h => absurd h List.not_mem_nil⟩⟩⟩⟩
theorem ok_R_copy_0 : zx_okK 8 (some Jvm.ClassFile.FieldType.int) prog_11_method_3_code ck_R_copy_0 = true := by decide +kernel
theorem ok_R_copy_1 : zx_okK 8 (some Jvm.ClassFile.FieldType.int) prog_11_method_3_code ck_R_copy_1 = true := by decide +kernel
theorem ok_R_copy_2 : zx_okK 8 (some Jvm.ClassFile.FieldType.int) prog_11_method_3_code ck_R_copy_2 = true := by decide +kernel
theorem ok_R_copy : ∀ g ∈ ck_R_copy, zx_okK 8 (some Jvm.ClassFile.FieldType.int) prog_11_method_3_code g.2 = true := List.forall_mem_cons.mpr ⟨ok_R_copy_0, List.forall_mem_cons.mpr ⟨ok_R_copy_1, List.forall_mem_cons.mpr ⟨ok_R_copy_2, fun _ h => absurd h List.not_mem_nil⟩⟩⟩
theorem ok_R_cut_0 : zx_okK 8 (some Jvm.ClassFile.FieldType.int) prog_11_method_4_code ck_R_cut_0 = true := by decide +kernel
theorem ok_R_cut_1 : zx_okK 8 (some Jvm.ClassFile.FieldType.int) prog_11_method_4_code ck_R_cut_1 = true := by decide +kernel
theorem ok_R_cut : ∀ g ∈ ck_R_cut, zx_okK 8 (some Jvm.ClassFile.FieldType.int) prog_11_method_4_code g.2 = true := List.forall_mem_cons.mpr ⟨ok_R_cut_0, List.forall_mem_cons.mpr ⟨ok_R_cut_1, fun _ h => absurd h List.not_mem_nil⟩⟩
theorem ok_R_change_0 : zx_okK 8 (some Jvm.ClassFile.FieldType.int) prog_11_method_5_code ck_R_change_0 = true := by decide +kernel
theorem ok_R_change_1 : zx_okK 8 (some Jvm.ClassFile.FieldType.int) prog_11_method_5_code ck_R_change_1 = true := by decide +kernel
theorem ok_R_change : ∀ g ∈ ck_R_change, zx_okK 8 (some Jvm.ClassFile.FieldType.int) prog_11_method_5_code g.2 = true := List.forall_mem_cons.mpr ⟨ok_R_change_0, List.forall_mem_cons.mpr ⟨ok_R_change_1, fun _ h => absurd h List.not_mem_nil⟩⟩
theorem ok_R_at_0 : zx_okK 8 (some Jvm.ClassFile.FieldType.int) prog_11_method_6_code ck_R_at_0 = true := by decide +kernel
theorem ok_R_at_1 : zx_okK 8 (some Jvm.ClassFile.FieldType.int) prog_11_method_6_code ck_R_at_1 = true := by decide +kernel
theorem ok_R_at : ∀ g ∈ ck_R_at, zx_okK 8 (some Jvm.ClassFile.FieldType.int) prog_11_method_6_code g.2 = true := List.forall_mem_cons.mpr ⟨ok_R_at_0, List.forall_mem_cons.mpr ⟨ok_R_at_1, fun _ h => absurd h List.not_mem_nil⟩⟩
theorem ok_R_four_0 : zx_okK 8 (some Jvm.ClassFile.FieldType.long) prog_11_method_7_code ck_R_four_0 = true := by decide +kernel
theorem ok_R_four_1 : zx_okK 8 (some Jvm.ClassFile.FieldType.long) prog_11_method_7_code ck_R_four_1 = true := by decide +kernel
theorem ok_R_four : ∀ g ∈ ck_R_four, zx_okK 8 (some Jvm.ClassFile.FieldType.long) prog_11_method_7_code g.2 = true := List.forall_mem_cons.mpr ⟨ok_R_four_0, List.forall_mem_cons.mpr ⟨ok_R_four_1, fun _ h => absurd h List.not_mem_nil⟩⟩
theorem ok_R_eight_0 : zx_okK 8 (some Jvm.ClassFile.FieldType.long) prog_11_method_8_code ck_R_eight_0 = true := by decide +kernel
theorem ok_R_eight_1 : zx_okK 8 (some Jvm.ClassFile.FieldType.long) prog_11_method_8_code ck_R_eight_1 = true := by decide +kernel
theorem ok_R_eight : ∀ g ∈ ck_R_eight, zx_okK 8 (some Jvm.ClassFile.FieldType.long) prog_11_method_8_code g.2 = true := List.forall_mem_cons.mpr ⟨ok_R_eight_0, List.forall_mem_cons.mpr ⟨ok_R_eight_1, fun _ h => absurd h List.not_mem_nil⟩⟩
theorem ok_R_fourOfPacked_0 : zx_okK 8 (some Jvm.ClassFile.FieldType.long) prog_11_method_9_code ck_R_fourOfPacked_0 = true := by decide +kernel
theorem ok_R_fourOfPacked : ∀ g ∈ ck_R_fourOfPacked, zx_okK 8 (some Jvm.ClassFile.FieldType.long) prog_11_method_9_code g.2 = true := List.forall_mem_cons.mpr ⟨ok_R_fourOfPacked_0, fun _ h => absurd h List.not_mem_nil⟩
theorem ok_R_fourOfMade_0 : zx_okK 8 (some Jvm.ClassFile.FieldType.long) prog_11_method_10_code ck_R_fourOfMade_0 = true := by decide +kernel
theorem ok_R_fourOfMade : ∀ g ∈ ck_R_fourOfMade, zx_okK 8 (some Jvm.ClassFile.FieldType.long) prog_11_method_10_code g.2 = true := List.forall_mem_cons.mpr ⟨ok_R_fourOfMade_0, fun _ h => absurd h List.not_mem_nil⟩
theorem ok_R_eightOfMade_0 : zx_okK 8 (some Jvm.ClassFile.FieldType.long) prog_11_method_11_code ck_R_eightOfMade_0 = true := by decide +kernel
theorem ok_R_eightOfMade : ∀ g ∈ ck_R_eightOfMade, zx_okK 8 (some Jvm.ClassFile.FieldType.long) prog_11_method_11_code g.2 = true := List.forall_mem_cons.mpr ⟨ok_R_eightOfMade_0, fun _ h => absurd h List.not_mem_nil⟩
theorem ok_R_sum_0 : zx_okK 8 (some Jvm.ClassFile.FieldType.long) prog_11_method_12_code ck_R_sum_0 = true := by decide +kernel
theorem ok_R_sum_1 : zx_okK 8 (some Jvm.ClassFile.FieldType.long) prog_11_method_12_code ck_R_sum_1 = true := by decide +kernel
theorem ok_R_sum : ∀ g ∈ ck_R_sum, zx_okK 8 (some Jvm.ClassFile.FieldType.long) prog_11_method_12_code g.2 = true := List.forall_mem_cons.mpr ⟨ok_R_sum_0, List.forall_mem_cons.mpr ⟨ok_R_sum_1, fun _ h => absurd h List.not_mem_nil⟩⟩
theorem ok_R_fail_0 : zx_okK 8 none prog_11_method_13_code ck_R_fail_0 = true := by decide +kernel
theorem ok_R_fail : ∀ g ∈ ck_R_fail, zx_okK 8 none prog_11_method_13_code g.2 = true := List.forall_mem_cons.mpr ⟨ok_R_fail_0, fun _ h => absurd h List.not_mem_nil⟩
theorem ok_R_has_0 : zx_okK 8 (some Jvm.ClassFile.FieldType.boolean) prog_11_method_14_code ck_R_has_0 = true := by decide +kernel
theorem ok_R_has : ∀ g ∈ ck_R_has, zx_okK 8 (some Jvm.ClassFile.FieldType.boolean) prog_11_method_14_code g.2 = true := List.forall_mem_cons.mpr ⟨ok_R_has_0, fun _ h => absurd h List.not_mem_nil⟩
theorem ok_R_number_0 : zx_okK 8 (some Jvm.ClassFile.FieldType.long) prog_11_method_15_code ck_R_number_0 = true := by decide +kernel
theorem ok_R_number : ∀ g ∈ ck_R_number, zx_okK 8 (some Jvm.ClassFile.FieldType.long) prog_11_method_15_code g.2 = true := List.forall_mem_cons.mpr ⟨ok_R_number_0, fun _ h => absurd h List.not_mem_nil⟩
theorem ok_R_sumOf_0 : zx_okK 8 none prog_11_method_16_code ck_R_sumOf_0 = true := by decide +kernel
theorem ok_R_sumOf_1 : zx_okK 8 none prog_11_method_16_code ck_R_sumOf_1 = true := by decide +kernel
theorem ok_R_sumOf : ∀ g ∈ ck_R_sumOf, zx_okK 8 none prog_11_method_16_code g.2 = true := List.forall_mem_cons.mpr ⟨ok_R_sumOf_0, List.forall_mem_cons.mpr ⟨ok_R_sumOf_1, fun _ h => absurd h List.not_mem_nil⟩⟩
theorem ok_R_vli_0 : zx_okK 8 (some Jvm.ClassFile.FieldType.long) prog_11_method_17_code ck_R_vli_0 = true := by decide +kernel
theorem ok_R_vli_1 : zx_okK 8 (some Jvm.ClassFile.FieldType.long) prog_11_method_17_code ck_R_vli_1 = true := by decide +kernel
theorem ok_R_vli_2 : zx_okK 8 (some Jvm.ClassFile.FieldType.long) prog_11_method_17_code ck_R_vli_2 = true := by decide +kernel
theorem ok_R_vli : ∀ g ∈ ck_R_vli, zx_okK 8 (some Jvm.ClassFile.FieldType.long) prog_11_method_17_code g.2 = true := List.forall_mem_cons.mpr ⟨ok_R_vli_0, List.forall_mem_cons.mpr ⟨ok_R_vli_1, List.forall_mem_cons.mpr ⟨ok_R_vli_2, fun _ h => absurd h List.not_mem_nil⟩⟩⟩
theorem ok_R_zeros_0 : zx_okK 8 none prog_11_method_18_code ck_R_zeros_0 = true := by decide +kernel
theorem ok_R_zeros_1 : zx_okK 8 none prog_11_method_18_code ck_R_zeros_1 = true := by decide +kernel
theorem ok_R_zeros : ∀ g ∈ ck_R_zeros, zx_okK 8 none prog_11_method_18_code g.2 = true := List.forall_mem_cons.mpr ⟨ok_R_zeros_0, List.forall_mem_cons.mpr ⟨ok_R_zeros_1, fun _ h => absurd h List.not_mem_nil⟩⟩
theorem ok_R_magic_0 : zx_okK 8 (some Jvm.ClassFile.FieldType.int) prog_11_method_19_code ck_R_magic_0 = true := by decide +kernel
theorem ok_R_magic_1 : zx_okK 8 (some Jvm.ClassFile.FieldType.int) prog_11_method_19_code ck_R_magic_1 = true := by decide +kernel
theorem ok_R_magic : ∀ g ∈ ck_R_magic, zx_okK 8 (some Jvm.ClassFile.FieldType.int) prog_11_method_19_code g.2 = true := List.forall_mem_cons.mpr ⟨ok_R_magic_0, List.forall_mem_cons.mpr ⟨ok_R_magic_1, fun _ h => absurd h List.not_mem_nil⟩⟩
theorem ok_R_isSort_0 : zx_okK 8 (some Jvm.ClassFile.FieldType.boolean) prog_11_method_20_code ck_R_isSort_0 = true := by decide +kernel
theorem ok_R_isSort : ∀ g ∈ ck_R_isSort, zx_okK 8 (some Jvm.ClassFile.FieldType.boolean) prog_11_method_20_code g.2 = true := List.forall_mem_cons.mpr ⟨ok_R_isSort_0, fun _ h => absurd h List.not_mem_nil⟩
theorem ok_R_begin_0 : zx_okK 8 none prog_11_method_21_code ck_R_begin_0 = true := by decide +kernel
theorem ok_R_begin_1 : zx_okK 8 none prog_11_method_21_code ck_R_begin_1 = true := by decide +kernel
theorem ok_R_begin_2 : zx_okK 8 none prog_11_method_21_code ck_R_begin_2 = true := by decide +kernel
theorem ok_R_begin : ∀ g ∈ ck_R_begin, zx_okK 8 none prog_11_method_21_code g.2 = true := List.forall_mem_cons.mpr ⟨ok_R_begin_0, List.forall_mem_cons.mpr ⟨ok_R_begin_1, List.forall_mem_cons.mpr ⟨ok_R_begin_2, fun _ h => absurd h List.not_mem_nil⟩⟩⟩
theorem ok_R_headByte_0 : zx_okK 8 (some Jvm.ClassFile.FieldType.int) prog_11_method_22_code ck_R_headByte_0 = true := by decide +kernel
theorem ok_R_headByte_1 : zx_okK 8 (some Jvm.ClassFile.FieldType.int) prog_11_method_22_code ck_R_headByte_1 = true := by decide +kernel
theorem ok_R_headByte : ∀ g ∈ ck_R_headByte, zx_okK 8 (some Jvm.ClassFile.FieldType.int) prog_11_method_22_code g.2 = true := List.forall_mem_cons.mpr ⟨ok_R_headByte_0, List.forall_mem_cons.mpr ⟨ok_R_headByte_1, fun _ h => absurd h List.not_mem_nil⟩⟩
theorem ok_R_block_0 : zx_okK 8 none prog_11_method_23_code ck_R_block_0 = true := by decide +kernel
theorem ok_R_block_1 : zx_okK 8 none prog_11_method_23_code ck_R_block_1 = true := by decide +kernel
theorem ok_R_block_2 : zx_okK 8 none prog_11_method_23_code ck_R_block_2 = true := by decide +kernel
theorem ok_R_block_3 : zx_okK 8 none prog_11_method_23_code ck_R_block_3 = true := by decide +kernel
theorem ok_R_block_4 : zx_okK 8 none prog_11_method_23_code ck_R_block_4 = true := by decide +kernel
theorem ok_R_block_5 : zx_okK 8 none prog_11_method_23_code ck_R_block_5 = true := by decide +kernel
theorem ok_R_block_6 : zx_okK 8 none prog_11_method_23_code ck_R_block_6 = true := by decide +kernel
theorem ok_R_block_7 : zx_okK 8 none prog_11_method_23_code ck_R_block_7 = true := by decide +kernel
theorem ok_R_block_8 : zx_okK 8 none prog_11_method_23_code ck_R_block_8 = true := by decide +kernel
theorem ok_R_block_9 : zx_okK 8 none prog_11_method_23_code ck_R_block_9 = true := by decide +kernel
theorem ok_R_block_10 : zx_okK 8 none prog_11_method_23_code ck_R_block_10 = true := by decide +kernel
theorem ok_R_block_11 : zx_okK 8 none prog_11_method_23_code ck_R_block_11 = true := by decide +kernel
theorem ok_R_block_12 : zx_okK 8 none prog_11_method_23_code ck_R_block_12 = true := by decide +kernel
theorem ok_R_block_13 : zx_okK 8 none prog_11_method_23_code ck_R_block_13 = true := by decide +kernel
theorem ok_R_block : ∀ g ∈ ck_R_block, zx_okK 8 none prog_11_method_23_code g.2 = true := List.forall_mem_cons.mpr ⟨ok_R_block_0, List.forall_mem_cons.mpr ⟨ok_R_block_1, List.forall_mem_cons.mpr ⟨ok_R_block_2, List.forall_mem_cons.mpr ⟨ok_R_block_3, List.forall_mem_cons.mpr ⟨ok_R_block_4, List.forall_mem_cons.mpr ⟨ok_R_block_5, List.forall_mem_cons.mpr ⟨ok_R_block_6, List.forall_mem_cons.mpr ⟨ok_R_block_7, List.forall_mem_cons.mpr ⟨ok_R_block_8, List.forall_mem_cons.mpr ⟨ok_R_block_9, List.forall_mem_cons.mpr ⟨ok_R_block_10, List.forall_mem_cons.mpr ⟨ok_R_block_11, List.forall_mem_cons.mpr ⟨ok_R_block_12, List.forall_mem_cons.mpr ⟨ok_R_block_13, fun _ h => absurd h List.not_mem_nil⟩⟩⟩⟩⟩⟩⟩⟩⟩⟩⟩⟩⟩⟩
theorem ok_R_chunk_0 : zx_okK 8 (some Jvm.ClassFile.FieldType.boolean) prog_11_method_24_code ck_R_chunk_0 = true := by decide +kernel
theorem ok_R_chunk_1 : zx_okK 8 (some Jvm.ClassFile.FieldType.boolean) prog_11_method_24_code ck_R_chunk_1 = true := by decide +kernel
theorem ok_R_chunk_2 : zx_okK 8 (some Jvm.ClassFile.FieldType.boolean) prog_11_method_24_code ck_R_chunk_2 = true := by decide +kernel
theorem ok_R_chunk_3 : zx_okK 8 (some Jvm.ClassFile.FieldType.boolean) prog_11_method_24_code ck_R_chunk_3 = true := by decide +kernel
theorem ok_R_chunk_4 : zx_okK 8 (some Jvm.ClassFile.FieldType.boolean) prog_11_method_24_code ck_R_chunk_4 = true := by decide +kernel
theorem ok_R_chunk_5 : zx_okK 8 (some Jvm.ClassFile.FieldType.boolean) prog_11_method_24_code ck_R_chunk_5 = true := by decide +kernel
theorem ok_R_chunk : ∀ g ∈ ck_R_chunk, zx_okK 8 (some Jvm.ClassFile.FieldType.boolean) prog_11_method_24_code g.2 = true := List.forall_mem_cons.mpr ⟨ok_R_chunk_0, List.forall_mem_cons.mpr ⟨ok_R_chunk_1, List.forall_mem_cons.mpr ⟨ok_R_chunk_2, List.forall_mem_cons.mpr ⟨ok_R_chunk_3, List.forall_mem_cons.mpr ⟨ok_R_chunk_4, List.forall_mem_cons.mpr ⟨ok_R_chunk_5, fun _ h => absurd h List.not_mem_nil⟩⟩⟩⟩⟩⟩
theorem ok_R_length_0 : zx_okK 8 (some Jvm.ClassFile.FieldType.int) prog_11_method_25_code ck_R_length_0 = true := by decide +kernel
theorem ok_R_length_1 : zx_okK 8 (some Jvm.ClassFile.FieldType.int) prog_11_method_25_code ck_R_length_1 = true := by decide +kernel
theorem ok_R_length : ∀ g ∈ ck_R_length, zx_okK 8 (some Jvm.ClassFile.FieldType.int) prog_11_method_25_code g.2 = true := List.forall_mem_cons.mpr ⟨ok_R_length_0, List.forall_mem_cons.mpr ⟨ok_R_length_1, fun _ h => absurd h List.not_mem_nil⟩⟩
theorem ok_R_isProperties_0 : zx_okK 8 (some Jvm.ClassFile.FieldType.boolean) prog_11_method_26_code ck_R_isProperties_0 = true := by decide +kernel
theorem ok_R_isProperties : ∀ g ∈ ck_R_isProperties, zx_okK 8 (some Jvm.ClassFile.FieldType.boolean) prog_11_method_26_code g.2 = true := List.forall_mem_cons.mpr ⟨ok_R_isProperties_0, fun _ h => absurd h List.not_mem_nil⟩
theorem ok_R_properties_0 : zx_okK 8 none prog_11_method_27_code ck_R_properties_0 = true := by decide +kernel
theorem ok_R_properties_1 : zx_okK 8 none prog_11_method_27_code ck_R_properties_1 = true := by decide +kernel
theorem ok_R_properties : ∀ g ∈ ck_R_properties, zx_okK 8 none prog_11_method_27_code g.2 = true := List.forall_mem_cons.mpr ⟨ok_R_properties_0, List.forall_mem_cons.mpr ⟨ok_R_properties_1, fun _ h => absurd h List.not_mem_nil⟩⟩
theorem ok_R_plainChunk_0 : zx_okK 8 none prog_11_method_28_code ck_R_plainChunk_0 = true := by decide +kernel
theorem ok_R_plainChunk_1 : zx_okK 8 none prog_11_method_28_code ck_R_plainChunk_1 = true := by decide +kernel
theorem ok_R_plainChunk_2 : zx_okK 8 none prog_11_method_28_code ck_R_plainChunk_2 = true := by decide +kernel
theorem ok_R_plainChunk : ∀ g ∈ ck_R_plainChunk, zx_okK 8 none prog_11_method_28_code g.2 = true := List.forall_mem_cons.mpr ⟨ok_R_plainChunk_0, List.forall_mem_cons.mpr ⟨ok_R_plainChunk_1, List.forall_mem_cons.mpr ⟨ok_R_plainChunk_2, fun _ h => absurd h List.not_mem_nil⟩⟩⟩
theorem ok_R_coded_0 : zx_okK 8 none prog_11_method_29_code ck_R_coded_0 = true := by decide +kernel
theorem ok_R_coded_1 : zx_okK 8 none prog_11_method_29_code ck_R_coded_1 = true := by decide +kernel
theorem ok_R_coded_2 : zx_okK 8 none prog_11_method_29_code ck_R_coded_2 = true := by decide +kernel
theorem ok_R_coded_3 : zx_okK 8 none prog_11_method_29_code ck_R_coded_3 = true := by decide +kernel
theorem ok_R_coded_4 : zx_okK 8 none prog_11_method_29_code ck_R_coded_4 = true := by decide +kernel
theorem ok_R_coded_5 : zx_okK 8 none prog_11_method_29_code ck_R_coded_5 = true := by decide +kernel
theorem ok_R_coded_6 : zx_okK 8 none prog_11_method_29_code ck_R_coded_6 = true := by decide +kernel
theorem ok_R_coded : ∀ g ∈ ck_R_coded, zx_okK 8 none prog_11_method_29_code g.2 = true := List.forall_mem_cons.mpr ⟨ok_R_coded_0, List.forall_mem_cons.mpr ⟨ok_R_coded_1, List.forall_mem_cons.mpr ⟨ok_R_coded_2, List.forall_mem_cons.mpr ⟨ok_R_coded_3, List.forall_mem_cons.mpr ⟨ok_R_coded_4, List.forall_mem_cons.mpr ⟨ok_R_coded_5, List.forall_mem_cons.mpr ⟨ok_R_coded_6, fun _ h => absurd h List.not_mem_nil⟩⟩⟩⟩⟩⟩⟩
theorem ok_R_index_0 : zx_okK 8 none prog_11_method_30_code ck_R_index_0 = true := by decide +kernel
theorem ok_R_index_1 : zx_okK 8 none prog_11_method_30_code ck_R_index_1 = true := by decide +kernel
theorem ok_R_index_2 : zx_okK 8 none prog_11_method_30_code ck_R_index_2 = true := by decide +kernel
theorem ok_R_index_3 : zx_okK 8 none prog_11_method_30_code ck_R_index_3 = true := by decide +kernel
theorem ok_R_index_4 : zx_okK 8 none prog_11_method_30_code ck_R_index_4 = true := by decide +kernel
theorem ok_R_index_5 : zx_okK 8 none prog_11_method_30_code ck_R_index_5 = true := by decide +kernel
theorem ok_R_index_6 : zx_okK 8 none prog_11_method_30_code ck_R_index_6 = true := by decide +kernel
theorem ok_R_index : ∀ g ∈ ck_R_index, zx_okK 8 none prog_11_method_30_code g.2 = true := List.forall_mem_cons.mpr ⟨ok_R_index_0, List.forall_mem_cons.mpr ⟨ok_R_index_1, List.forall_mem_cons.mpr ⟨ok_R_index_2, List.forall_mem_cons.mpr ⟨ok_R_index_3, List.forall_mem_cons.mpr ⟨ok_R_index_4, List.forall_mem_cons.mpr ⟨ok_R_index_5, List.forall_mem_cons.mpr ⟨ok_R_index_6, fun _ h => absurd h List.not_mem_nil⟩⟩⟩⟩⟩⟩⟩
theorem ok_R_expect_0 : zx_okK 8 none prog_11_method_31_code ck_R_expect_0 = true := by decide +kernel
theorem ok_R_expect : ∀ g ∈ ck_R_expect, zx_okK 8 none prog_11_method_31_code g.2 = true := List.forall_mem_cons.mpr ⟨ok_R_expect_0, fun _ h => absurd h List.not_mem_nil⟩
theorem ok_R_unpack_0 : zx_okK 8 (some Jvm.ClassFile.FieldType.int) prog_11_method_32_code ck_R_unpack_0 = true := by decide +kernel
theorem ok_R_unpack_1 : zx_okK 8 (some Jvm.ClassFile.FieldType.int) prog_11_method_32_code ck_R_unpack_1 = true := by decide +kernel
theorem ok_R_unpack_2 : zx_okK 8 (some Jvm.ClassFile.FieldType.int) prog_11_method_32_code ck_R_unpack_2 = true := by decide +kernel
theorem ok_R_unpack_3 : zx_okK 8 (some Jvm.ClassFile.FieldType.int) prog_11_method_32_code ck_R_unpack_3 = true := by decide +kernel
theorem ok_R_unpack : ∀ g ∈ ck_R_unpack, zx_okK 8 (some Jvm.ClassFile.FieldType.int) prog_11_method_32_code g.2 = true := List.forall_mem_cons.mpr ⟨ok_R_unpack_0, List.forall_mem_cons.mpr ⟨ok_R_unpack_1, List.forall_mem_cons.mpr ⟨ok_R_unpack_2, List.forall_mem_cons.mpr ⟨ok_R_unpack_3, fun _ h => absurd h List.not_mem_nil⟩⟩⟩⟩
theorem ok_R_where_0 : zx_okK 8 (some Jvm.ClassFile.FieldType.int) prog_11_method_33_code ck_R_where_0 = true := by decide +kernel
theorem ok_R_where : ∀ g ∈ ck_R_where, zx_okK 8 (some Jvm.ClassFile.FieldType.int) prog_11_method_33_code g.2 = true := List.forall_mem_cons.mpr ⟨ok_R_where_0, fun _ h => absurd h List.not_mem_nil⟩
theorem ok_R_watch_0 : zx_okK 8 (some Jvm.ClassFile.FieldType.boolean) prog_11_method_34_code ck_R_watch_0 = true := by decide +kernel
theorem ok_R_watch : ∀ g ∈ ck_R_watch, zx_okK 8 (some Jvm.ClassFile.FieldType.boolean) prog_11_method_34_code g.2 = true := List.forall_mem_cons.mpr ⟨ok_R_watch_0, fun _ h => absurd h List.not_mem_nil⟩
theorem ok_R_range_0 : zx_okK 8 (some Jvm.ClassFile.FieldType.long) prog_11_method_35_code ck_R_range_0 = true := by decide +kernel
theorem ok_R_range : ∀ g ∈ ck_R_range, zx_okK 8 (some Jvm.ClassFile.FieldType.long) prog_11_method_35_code g.2 = true := List.forall_mem_cons.mpr ⟨ok_R_range_0, fun _ h => absurd h List.not_mem_nil⟩
theorem ok_R_code_0 : zx_okK 8 (some Jvm.ClassFile.FieldType.long) prog_11_method_36_code ck_R_code_0 = true := by decide +kernel
theorem ok_R_code : ∀ g ∈ ck_R_code, zx_okK 8 (some Jvm.ClassFile.FieldType.long) prog_11_method_36_code g.2 = true := List.forall_mem_cons.mpr ⟨ok_R_code_0, fun _ h => absurd h List.not_mem_nil⟩
theorem ok_R_count_0 : zx_okK 8 (some Jvm.ClassFile.FieldType.int) prog_11_method_37_code ck_R_count_0 = true := by decide +kernel
theorem ok_R_count : ∀ g ∈ ck_R_count, zx_okK 8 (some Jvm.ClassFile.FieldType.int) prog_11_method_37_code g.2 = true := List.forall_mem_cons.mpr ⟨ok_R_count_0, fun _ h => absurd h List.not_mem_nil⟩
theorem ok_R_anew_0 : zx_okK 8 none prog_11_method_38_code ck_R_anew_0 = true := by decide +kernel
theorem ok_R_anew_1 : zx_okK 8 none prog_11_method_38_code ck_R_anew_1 = true := by decide +kernel
theorem ok_R_anew : ∀ g ∈ ck_R_anew, zx_okK 8 none prog_11_method_38_code g.2 = true := List.forall_mem_cons.mpr ⟨ok_R_anew_0, List.forall_mem_cons.mpr ⟨ok_R_anew_1, fun _ h => absurd h List.not_mem_nil⟩⟩
theorem ok_R_shift_0 : zx_okK 8 none prog_11_method_39_code ck_R_shift_0 = true := by decide +kernel
theorem ok_R_shift_1 : zx_okK 8 none prog_11_method_39_code ck_R_shift_1 = true := by decide +kernel
theorem ok_R_shift : ∀ g ∈ ck_R_shift, zx_okK 8 none prog_11_method_39_code g.2 = true := List.forall_mem_cons.mpr ⟨ok_R_shift_0, List.forall_mem_cons.mpr ⟨ok_R_shift_1, fun _ h => absurd h List.not_mem_nil⟩⟩
theorem ok_R_told_0 : zx_okK 8 none prog_11_method_40_code ck_R_told_0 = true := by decide +kernel
theorem ok_R_told : ∀ g ∈ ck_R_told, zx_okK 8 none prog_11_method_40_code g.2 = true := List.forall_mem_cons.mpr ⟨ok_R_told_0, fun _ h => absurd h List.not_mem_nil⟩
theorem ok_R_bit_0 : zx_okK 8 (some Jvm.ClassFile.FieldType.int) prog_11_method_41_code ck_R_bit_0 = true := by decide +kernel
theorem ok_R_bit_1 : zx_okK 8 (some Jvm.ClassFile.FieldType.int) prog_11_method_41_code ck_R_bit_1 = true := by decide +kernel
theorem ok_R_bit_2 : zx_okK 8 (some Jvm.ClassFile.FieldType.int) prog_11_method_41_code ck_R_bit_2 = true := by decide +kernel
theorem ok_R_bit : ∀ g ∈ ck_R_bit, zx_okK 8 (some Jvm.ClassFile.FieldType.int) prog_11_method_41_code g.2 = true := List.forall_mem_cons.mpr ⟨ok_R_bit_0, List.forall_mem_cons.mpr ⟨ok_R_bit_1, List.forall_mem_cons.mpr ⟨ok_R_bit_2, fun _ h => absurd h List.not_mem_nil⟩⟩⟩
theorem ok_R_learn_0 : zx_okK 8 none prog_11_method_42_code ck_R_learn_0 = true := by decide +kernel
theorem ok_R_learn_1 : zx_okK 8 none prog_11_method_42_code ck_R_learn_1 = true := by decide +kernel
theorem ok_R_learn : ∀ g ∈ ck_R_learn, zx_okK 8 none prog_11_method_42_code g.2 = true := List.forall_mem_cons.mpr ⟨ok_R_learn_0, List.forall_mem_cons.mpr ⟨ok_R_learn_1, fun _ h => absurd h List.not_mem_nil⟩⟩
theorem ok_R_even_0 : zx_okK 8 (some Jvm.ClassFile.FieldType.int) prog_11_method_43_code ck_R_even_0 = true := by decide +kernel
theorem ok_R_even_1 : zx_okK 8 (some Jvm.ClassFile.FieldType.int) prog_11_method_43_code ck_R_even_1 = true := by decide +kernel
theorem ok_R_even : ∀ g ∈ ck_R_even, zx_okK 8 (some Jvm.ClassFile.FieldType.int) prog_11_method_43_code g.2 = true := List.forall_mem_cons.mpr ⟨ok_R_even_0, List.forall_mem_cons.mpr ⟨ok_R_even_1, fun _ h => absurd h List.not_mem_nil⟩⟩
theorem ok_R_tree_0 : zx_okK 8 (some Jvm.ClassFile.FieldType.int) prog_11_method_44_code ck_R_tree_0 = true := by decide +kernel
theorem ok_R_tree_1 : zx_okK 8 (some Jvm.ClassFile.FieldType.int) prog_11_method_44_code ck_R_tree_1 = true := by decide +kernel
theorem ok_R_tree : ∀ g ∈ ck_R_tree, zx_okK 8 (some Jvm.ClassFile.FieldType.int) prog_11_method_44_code g.2 = true := List.forall_mem_cons.mpr ⟨ok_R_tree_0, List.forall_mem_cons.mpr ⟨ok_R_tree_1, fun _ h => absurd h List.not_mem_nil⟩⟩
theorem ok_R_backwards_0 : zx_okK 8 (some Jvm.ClassFile.FieldType.int) prog_11_method_45_code ck_R_backwards_0 = true := by decide +kernel
theorem ok_R_backwards_1 : zx_okK 8 (some Jvm.ClassFile.FieldType.int) prog_11_method_45_code ck_R_backwards_1 = true := by decide +kernel
theorem ok_R_backwards : ∀ g ∈ ck_R_backwards, zx_okK 8 (some Jvm.ClassFile.FieldType.int) prog_11_method_45_code g.2 = true := List.forall_mem_cons.mpr ⟨ok_R_backwards_0, List.forall_mem_cons.mpr ⟨ok_R_backwards_1, fun _ h => absurd h List.not_mem_nil⟩⟩
theorem ok_R_bytes_0 : zx_okK 8 (some Jvm.ClassFile.FieldType.int) prog_11_method_46_code ck_R_bytes_0 = true := by decide +kernel
theorem ok_R_bytes : ∀ g ∈ ck_R_bytes, zx_okK 8 (some Jvm.ClassFile.FieldType.int) prog_11_method_46_code g.2 = true := List.forall_mem_cons.mpr ⟨ok_R_bytes_0, fun _ h => absurd h List.not_mem_nil⟩
theorem ok_R_low4_0 : zx_okK 8 (some Jvm.ClassFile.FieldType.int) prog_11_method_47_code ck_R_low4_0 = true := by decide +kernel
theorem ok_R_low4 : ∀ g ∈ ck_R_low4, zx_okK 8 (some Jvm.ClassFile.FieldType.int) prog_11_method_47_code g.2 = true := List.forall_mem_cons.mpr ⟨ok_R_low4_0, fun _ h => absurd h List.not_mem_nil⟩
theorem ok_R_give_0 : zx_okK 8 none prog_11_method_48_code ck_R_give_0 = true := by decide +kernel
theorem ok_R_give : ∀ g ∈ ck_R_give, zx_okK 8 none prog_11_method_48_code g.2 = true := List.forall_mem_cons.mpr ⟨ok_R_give_0, fun _ h => absurd h List.not_mem_nil⟩
theorem ok_R_token_0 : zx_okK 8 none prog_11_method_49_code ck_R_token_0 = true := by decide +kernel
theorem ok_R_token_1 : zx_okK 8 none prog_11_method_49_code ck_R_token_1 = true := by decide +kernel
theorem ok_R_token_2 : zx_okK 8 none prog_11_method_49_code ck_R_token_2 = true := by decide +kernel
theorem ok_R_token_3 : zx_okK 8 none prog_11_method_49_code ck_R_token_3 = true := by decide +kernel
theorem ok_R_token_4 : zx_okK 8 none prog_11_method_49_code ck_R_token_4 = true := by decide +kernel
theorem ok_R_token_5 : zx_okK 8 none prog_11_method_49_code ck_R_token_5 = true := by decide +kernel
theorem ok_R_token : ∀ g ∈ ck_R_token, zx_okK 8 none prog_11_method_49_code g.2 = true := List.forall_mem_cons.mpr ⟨ok_R_token_0, List.forall_mem_cons.mpr ⟨ok_R_token_1, List.forall_mem_cons.mpr ⟨ok_R_token_2, List.forall_mem_cons.mpr ⟨ok_R_token_3, List.forall_mem_cons.mpr ⟨ok_R_token_4, List.forall_mem_cons.mpr ⟨ok_R_token_5, fun _ h => absurd h List.not_mem_nil⟩⟩⟩⟩⟩⟩
theorem ok_R_repeated_0 : zx_okK 8 none prog_11_method_50_code ck_R_repeated_0 = true := by decide +kernel
theorem ok_R_repeated : ∀ g ∈ ck_R_repeated, zx_okK 8 none prog_11_method_50_code g.2 = true := List.forall_mem_cons.mpr ⟨ok_R_repeated_0, fun _ h => absurd h List.not_mem_nil⟩
theorem ok_R_turn_0 : zx_okK 8 none prog_11_method_51_code ck_R_turn_0 = true := by decide +kernel
theorem ok_R_turn_1 : zx_okK 8 none prog_11_method_51_code ck_R_turn_1 = true := by decide +kernel
theorem ok_R_turn_2 : zx_okK 8 none prog_11_method_51_code ck_R_turn_2 = true := by decide +kernel
theorem ok_R_turn : ∀ g ∈ ck_R_turn, zx_okK 8 none prog_11_method_51_code g.2 = true := List.forall_mem_cons.mpr ⟨ok_R_turn_0, List.forall_mem_cons.mpr ⟨ok_R_turn_1, List.forall_mem_cons.mpr ⟨ok_R_turn_2, fun _ h => absurd h List.not_mem_nil⟩⟩⟩
theorem ok_R_back_0 : zx_okK 8 none prog_11_method_52_code ck_R_back_0 = true := by decide +kernel
theorem ok_R_back_1 : zx_okK 8 none prog_11_method_52_code ck_R_back_1 = true := by decide +kernel
theorem ok_R_back_2 : zx_okK 8 none prog_11_method_52_code ck_R_back_2 = true := by decide +kernel
theorem ok_R_back : ∀ g ∈ ck_R_back, zx_okK 8 none prog_11_method_52_code g.2 = true := List.forall_mem_cons.mpr ⟨ok_R_back_0, List.forall_mem_cons.mpr ⟨ok_R_back_1, List.forall_mem_cons.mpr ⟨ok_R_back_2, fun _ h => absurd h List.not_mem_nil⟩⟩⟩
theorem ok_R_lengthTaken_0 : zx_okK 8 (some Jvm.ClassFile.FieldType.int) prog_11_method_53_code ck_R_lengthTaken_0 = true := by decide +kernel
theorem ok_R_lengthTaken_1 : zx_okK 8 (some Jvm.ClassFile.FieldType.int) prog_11_method_53_code ck_R_lengthTaken_1 = true := by decide +kernel
theorem ok_R_lengthTaken : ∀ g ∈ ck_R_lengthTaken, zx_okK 8 (some Jvm.ClassFile.FieldType.int) prog_11_method_53_code g.2 = true := List.forall_mem_cons.mpr ⟨ok_R_lengthTaken_0, List.forall_mem_cons.mpr ⟨ok_R_lengthTaken_1, fun _ h => absurd h List.not_mem_nil⟩⟩
theorem ok_R_distance_0 : zx_okK 8 (some Jvm.ClassFile.FieldType.long) prog_11_method_54_code ck_R_distance_0 = true := by decide +kernel
theorem ok_R_distance_1 : zx_okK 8 (some Jvm.ClassFile.FieldType.long) prog_11_method_54_code ck_R_distance_1 = true := by decide +kernel
theorem ok_R_distance_2 : zx_okK 8 (some Jvm.ClassFile.FieldType.long) prog_11_method_54_code ck_R_distance_2 = true := by decide +kernel
theorem ok_R_distance_3 : zx_okK 8 (some Jvm.ClassFile.FieldType.long) prog_11_method_54_code ck_R_distance_3 = true := by decide +kernel
theorem ok_R_distance : ∀ g ∈ ck_R_distance, zx_okK 8 (some Jvm.ClassFile.FieldType.long) prog_11_method_54_code g.2 = true := List.forall_mem_cons.mpr ⟨ok_R_distance_0, List.forall_mem_cons.mpr ⟨ok_R_distance_1, List.forall_mem_cons.mpr ⟨ok_R_distance_2, List.forall_mem_cons.mpr ⟨ok_R_distance_3, fun _ h => absurd h List.not_mem_nil⟩⟩⟩⟩
theorem ok_R_context_0 : zx_okK 8 (some Jvm.ClassFile.FieldType.int) prog_11_method_55_code ck_R_context_0 = true := by decide +kernel
theorem ok_R_context : ∀ g ∈ ck_R_context, zx_okK 8 (some Jvm.ClassFile.FieldType.int) prog_11_method_55_code g.2 = true := List.forall_mem_cons.mpr ⟨ok_R_context_0, fun _ h => absurd h List.not_mem_nil⟩
theorem ok_R_after_0 : zx_okK 8 (some Jvm.ClassFile.FieldType.int) prog_11_method_56_code ck_R_after_0 = true := by decide +kernel
theorem ok_R_after : ∀ g ∈ ck_R_after, zx_okK 8 (some Jvm.ClassFile.FieldType.int) prog_11_method_56_code g.2 = true := List.forall_mem_cons.mpr ⟨ok_R_after_0, fun _ h => absurd h List.not_mem_nil⟩
theorem ok_R_literal_0 : zx_okK 8 none prog_11_method_57_code ck_R_literal_0 = true := by decide +kernel
theorem ok_R_literal_1 : zx_okK 8 none prog_11_method_57_code ck_R_literal_1 = true := by decide +kernel
theorem ok_R_literal_2 : zx_okK 8 none prog_11_method_57_code ck_R_literal_2 = true := by decide +kernel
theorem ok_R_literal_3 : zx_okK 8 none prog_11_method_57_code ck_R_literal_3 = true := by decide +kernel
theorem ok_R_literal_4 : zx_okK 8 none prog_11_method_57_code ck_R_literal_4 = true := by decide +kernel
theorem ok_R_literal : ∀ g ∈ ck_R_literal, zx_okK 8 none prog_11_method_57_code g.2 = true := List.forall_mem_cons.mpr ⟨ok_R_literal_0, List.forall_mem_cons.mpr ⟨ok_R_literal_1, List.forall_mem_cons.mpr ⟨ok_R_literal_2, List.forall_mem_cons.mpr ⟨ok_R_literal_3, List.forall_mem_cons.mpr ⟨ok_R_literal_4, fun _ h => absurd h List.not_mem_nil⟩⟩⟩⟩⟩
theorem ok_R_shiftOut_0 : zx_okK 8 none prog_11_method_58_code ck_R_shiftOut_0 = true := by decide +kernel
theorem ok_R_shiftOut_1 : zx_okK 8 none prog_11_method_58_code ck_R_shiftOut_1 = true := by decide +kernel
theorem ok_R_shiftOut : ∀ g ∈ ck_R_shiftOut, zx_okK 8 none prog_11_method_58_code g.2 = true := List.forall_mem_cons.mpr ⟨ok_R_shiftOut_0, List.forall_mem_cons.mpr ⟨ok_R_shiftOut_1, fun _ h => absurd h List.not_mem_nil⟩⟩
theorem ok_R_grow_0 : zx_okK 8 none prog_11_method_59_code ck_R_grow_0 = true := by decide +kernel
theorem ok_R_grow_1 : zx_okK 8 none prog_11_method_59_code ck_R_grow_1 = true := by decide +kernel
theorem ok_R_grow : ∀ g ∈ ck_R_grow, zx_okK 8 none prog_11_method_59_code g.2 = true := List.forall_mem_cons.mpr ⟨ok_R_grow_0, List.forall_mem_cons.mpr ⟨ok_R_grow_1, fun _ h => absurd h List.not_mem_nil⟩⟩
theorem ok_R_put_0 : zx_okK 8 none prog_11_method_60_code ck_R_put_0 = true := by decide +kernel
theorem ok_R_put_1 : zx_okK 8 none prog_11_method_60_code ck_R_put_1 = true := by decide +kernel
theorem ok_R_put : ∀ g ∈ ck_R_put, zx_okK 8 none prog_11_method_60_code g.2 = true := List.forall_mem_cons.mpr ⟨ok_R_put_0, List.forall_mem_cons.mpr ⟨ok_R_put_1, fun _ h => absurd h List.not_mem_nil⟩⟩
theorem ok_R_putEven_0 : zx_okK 8 none prog_11_method_61_code ck_R_putEven_0 = true := by decide +kernel
theorem ok_R_putEven : ∀ g ∈ ck_R_putEven, zx_okK 8 none prog_11_method_61_code g.2 = true := List.forall_mem_cons.mpr ⟨ok_R_putEven_0, fun _ h => absurd h List.not_mem_nil⟩
theorem ok_R_putTree_0 : zx_okK 8 none prog_11_method_62_code ck_R_putTree_0 = true := by decide +kernel
theorem ok_R_putTree_1 : zx_okK 8 none prog_11_method_62_code ck_R_putTree_1 = true := by decide +kernel
theorem ok_R_putTree : ∀ g ∈ ck_R_putTree, zx_okK 8 none prog_11_method_62_code g.2 = true := List.forall_mem_cons.mpr ⟨ok_R_putTree_0, List.forall_mem_cons.mpr ⟨ok_R_putTree_1, fun _ h => absurd h List.not_mem_nil⟩⟩
theorem ok_R_putBackwards_0 : zx_okK 8 none prog_11_method_63_code ck_R_putBackwards_0 = true := by decide +kernel
theorem ok_R_putBackwards_1 : zx_okK 8 none prog_11_method_63_code ck_R_putBackwards_1 = true := by decide +kernel
theorem ok_R_putBackwards : ∀ g ∈ ck_R_putBackwards, zx_okK 8 none prog_11_method_63_code g.2 = true := List.forall_mem_cons.mpr ⟨ok_R_putBackwards_0, List.forall_mem_cons.mpr ⟨ok_R_putBackwards_1, fun _ h => absurd h List.not_mem_nil⟩⟩
theorem ok_R_alike_0 : zx_okK 8 (some Jvm.ClassFile.FieldType.int) prog_11_method_64_code ck_R_alike_0 = true := by decide +kernel
theorem ok_R_alike_1 : zx_okK 8 (some Jvm.ClassFile.FieldType.int) prog_11_method_64_code ck_R_alike_1 = true := by decide +kernel
theorem ok_R_alike : ∀ g ∈ ck_R_alike, zx_okK 8 (some Jvm.ClassFile.FieldType.int) prog_11_method_64_code g.2 = true := List.forall_mem_cons.mpr ⟨ok_R_alike_0, List.forall_mem_cons.mpr ⟨ok_R_alike_1, fun _ h => absurd h List.not_mem_nil⟩⟩
theorem ok_R_distanceOf_0 : zx_okK 8 (some Jvm.ClassFile.FieldType.long) prog_11_method_65_code ck_R_distanceOf_0 = true := by decide +kernel
theorem ok_R_distanceOf : ∀ g ∈ ck_R_distanceOf, zx_okK 8 (some Jvm.ClassFile.FieldType.long) prog_11_method_65_code g.2 = true := List.forall_mem_cons.mpr ⟨ok_R_distanceOf_0, fun _ h => absurd h List.not_mem_nil⟩
theorem ok_R_putToken_0 : zx_okK 8 (some Jvm.ClassFile.FieldType.int) prog_11_method_66_code ck_R_putToken_0 = true := by decide +kernel
theorem ok_R_putToken_1 : zx_okK 8 (some Jvm.ClassFile.FieldType.int) prog_11_method_66_code ck_R_putToken_1 = true := by decide +kernel
theorem ok_R_putToken_2 : zx_okK 8 (some Jvm.ClassFile.FieldType.int) prog_11_method_66_code ck_R_putToken_2 = true := by decide +kernel
theorem ok_R_putToken_3 : zx_okK 8 (some Jvm.ClassFile.FieldType.int) prog_11_method_66_code ck_R_putToken_3 = true := by decide +kernel
theorem ok_R_putToken_4 : zx_okK 8 (some Jvm.ClassFile.FieldType.int) prog_11_method_66_code ck_R_putToken_4 = true := by decide +kernel
theorem ok_R_putToken_5 : zx_okK 8 (some Jvm.ClassFile.FieldType.int) prog_11_method_66_code ck_R_putToken_5 = true := by decide +kernel
theorem ok_R_putToken_6 : zx_okK 8 (some Jvm.ClassFile.FieldType.int) prog_11_method_66_code ck_R_putToken_6 = true := by decide +kernel
theorem ok_R_putToken_7 : zx_okK 8 (some Jvm.ClassFile.FieldType.int) prog_11_method_66_code ck_R_putToken_7 = true := by decide +kernel
theorem ok_R_putToken : ∀ g ∈ ck_R_putToken, zx_okK 8 (some Jvm.ClassFile.FieldType.int) prog_11_method_66_code g.2 = true := List.forall_mem_cons.mpr ⟨ok_R_putToken_0, List.forall_mem_cons.mpr ⟨ok_R_putToken_1, List.forall_mem_cons.mpr ⟨ok_R_putToken_2, List.forall_mem_cons.mpr ⟨ok_R_putToken_3, List.forall_mem_cons.mpr ⟨ok_R_putToken_4, List.forall_mem_cons.mpr ⟨ok_R_putToken_5, List.forall_mem_cons.mpr ⟨ok_R_putToken_6, List.forall_mem_cons.mpr ⟨ok_R_putToken_7, fun _ h => absurd h List.not_mem_nil⟩⟩⟩⟩⟩⟩⟩⟩
theorem ok_R_putRepeated_0 : zx_okK 8 none prog_11_method_67_code ck_R_putRepeated_0 = true := by decide +kernel
theorem ok_R_putRepeated_1 : zx_okK 8 none prog_11_method_67_code ck_R_putRepeated_1 = true := by decide +kernel
theorem ok_R_putRepeated_2 : zx_okK 8 none prog_11_method_67_code ck_R_putRepeated_2 = true := by decide +kernel
theorem ok_R_putRepeated_3 : zx_okK 8 none prog_11_method_67_code ck_R_putRepeated_3 = true := by decide +kernel
theorem ok_R_putRepeated : ∀ g ∈ ck_R_putRepeated, zx_okK 8 none prog_11_method_67_code g.2 = true := List.forall_mem_cons.mpr ⟨ok_R_putRepeated_0, List.forall_mem_cons.mpr ⟨ok_R_putRepeated_1, List.forall_mem_cons.mpr ⟨ok_R_putRepeated_2, List.forall_mem_cons.mpr ⟨ok_R_putRepeated_3, fun _ h => absurd h List.not_mem_nil⟩⟩⟩⟩
theorem ok_R_putCopy_0 : zx_okK 8 none prog_11_method_68_code ck_R_putCopy_0 = true := by decide +kernel
theorem ok_R_putCopy_1 : zx_okK 8 none prog_11_method_68_code ck_R_putCopy_1 = true := by decide +kernel
theorem ok_R_putCopy_2 : zx_okK 8 none prog_11_method_68_code ck_R_putCopy_2 = true := by decide +kernel
theorem ok_R_putCopy_3 : zx_okK 8 none prog_11_method_68_code ck_R_putCopy_3 = true := by decide +kernel
theorem ok_R_putCopy_4 : zx_okK 8 none prog_11_method_68_code ck_R_putCopy_4 = true := by decide +kernel
theorem ok_R_putCopy_5 : zx_okK 8 none prog_11_method_68_code ck_R_putCopy_5 = true := by decide +kernel
theorem ok_R_putCopy_6 : zx_okK 8 none prog_11_method_68_code ck_R_putCopy_6 = true := by decide +kernel
theorem ok_R_putCopy : ∀ g ∈ ck_R_putCopy, zx_okK 8 none prog_11_method_68_code g.2 = true := List.forall_mem_cons.mpr ⟨ok_R_putCopy_0, List.forall_mem_cons.mpr ⟨ok_R_putCopy_1, List.forall_mem_cons.mpr ⟨ok_R_putCopy_2, List.forall_mem_cons.mpr ⟨ok_R_putCopy_3, List.forall_mem_cons.mpr ⟨ok_R_putCopy_4, List.forall_mem_cons.mpr ⟨ok_R_putCopy_5, List.forall_mem_cons.mpr ⟨ok_R_putCopy_6, fun _ h => absurd h List.not_mem_nil⟩⟩⟩⟩⟩⟩⟩
theorem ok_R_putLength_0 : zx_okK 8 none prog_11_method_69_code ck_R_putLength_0 = true := by decide +kernel
theorem ok_R_putLength_1 : zx_okK 8 none prog_11_method_69_code ck_R_putLength_1 = true := by decide +kernel
theorem ok_R_putLength_2 : zx_okK 8 none prog_11_method_69_code ck_R_putLength_2 = true := by decide +kernel
theorem ok_R_putLength : ∀ g ∈ ck_R_putLength, zx_okK 8 none prog_11_method_69_code g.2 = true := List.forall_mem_cons.mpr ⟨ok_R_putLength_0, List.forall_mem_cons.mpr ⟨ok_R_putLength_1, List.forall_mem_cons.mpr ⟨ok_R_putLength_2, fun _ h => absurd h List.not_mem_nil⟩⟩⟩
theorem ok_R_putLiteral_0 : zx_okK 8 none prog_11_method_70_code ck_R_putLiteral_0 = true := by decide +kernel
theorem ok_R_putLiteral_1 : zx_okK 8 none prog_11_method_70_code ck_R_putLiteral_1 = true := by decide +kernel
theorem ok_R_putLiteral_2 : zx_okK 8 none prog_11_method_70_code ck_R_putLiteral_2 = true := by decide +kernel
theorem ok_R_putLiteral_3 : zx_okK 8 none prog_11_method_70_code ck_R_putLiteral_3 = true := by decide +kernel
theorem ok_R_putLiteral_4 : zx_okK 8 none prog_11_method_70_code ck_R_putLiteral_4 = true := by decide +kernel
theorem ok_R_putLiteral : ∀ g ∈ ck_R_putLiteral, zx_okK 8 none prog_11_method_70_code g.2 = true := List.forall_mem_cons.mpr ⟨ok_R_putLiteral_0, List.forall_mem_cons.mpr ⟨ok_R_putLiteral_1, List.forall_mem_cons.mpr ⟨ok_R_putLiteral_2, List.forall_mem_cons.mpr ⟨ok_R_putLiteral_3, List.forall_mem_cons.mpr ⟨ok_R_putLiteral_4, fun _ h => absurd h List.not_mem_nil⟩⟩⟩⟩⟩
theorem ok_R_write_0 : zx_okK 8 none prog_11_method_71_code ck_R_write_0 = true := by decide +kernel
theorem ok_R_write : ∀ g ∈ ck_R_write, zx_okK 8 none prog_11_method_71_code g.2 = true := List.forall_mem_cons.mpr ⟨ok_R_write_0, fun _ h => absurd h List.not_mem_nil⟩
theorem ok_R_writeNumber_0 : zx_okK 8 none prog_11_method_72_code ck_R_writeNumber_0 = true := by decide +kernel
theorem ok_R_writeNumber : ∀ g ∈ ck_R_writeNumber, zx_okK 8 none prog_11_method_72_code g.2 = true := List.forall_mem_cons.mpr ⟨ok_R_writeNumber_0, fun _ h => absurd h List.not_mem_nil⟩
theorem ok_R_writeSum_0 : zx_okK 8 none prog_11_method_73_code ck_R_writeSum_0 = true := by decide +kernel
theorem ok_R_writeSum_1 : zx_okK 8 none prog_11_method_73_code ck_R_writeSum_1 = true := by decide +kernel
theorem ok_R_writeSum : ∀ g ∈ ck_R_writeSum, zx_okK 8 none prog_11_method_73_code g.2 = true := List.forall_mem_cons.mpr ⟨ok_R_writeSum_0, List.forall_mem_cons.mpr ⟨ok_R_writeSum_1, fun _ h => absurd h List.not_mem_nil⟩⟩
theorem ok_R_writeVli_0 : zx_okK 8 none prog_11_method_74_code ck_R_writeVli_0 = true := by decide +kernel
theorem ok_R_writeVli : ∀ g ∈ ck_R_writeVli, zx_okK 8 none prog_11_method_74_code g.2 = true := List.forall_mem_cons.mpr ⟨ok_R_writeVli_0, fun _ h => absurd h List.not_mem_nil⟩
theorem ok_R_writeZeros_0 : zx_okK 8 none prog_11_method_75_code ck_R_writeZeros_0 = true := by decide +kernel
theorem ok_R_writeZeros : ∀ g ∈ ck_R_writeZeros, zx_okK 8 none prog_11_method_75_code g.2 = true := List.forall_mem_cons.mpr ⟨ok_R_writeZeros_0, fun _ h => absurd h List.not_mem_nil⟩
theorem ok_R_squeeze_0 : zx_okK 8 (some Jvm.ClassFile.FieldType.boolean) prog_11_method_76_code ck_R_squeeze_0 = true := by decide +kernel
theorem ok_R_squeeze_1 : zx_okK 8 (some Jvm.ClassFile.FieldType.boolean) prog_11_method_76_code ck_R_squeeze_1 = true := by decide +kernel
theorem ok_R_squeeze_2 : zx_okK 8 (some Jvm.ClassFile.FieldType.boolean) prog_11_method_76_code ck_R_squeeze_2 = true := by decide +kernel
theorem ok_R_squeeze : ∀ g ∈ ck_R_squeeze, zx_okK 8 (some Jvm.ClassFile.FieldType.boolean) prog_11_method_76_code g.2 = true := List.forall_mem_cons.mpr ⟨ok_R_squeeze_0, List.forall_mem_cons.mpr ⟨ok_R_squeeze_1, List.forall_mem_cons.mpr ⟨ok_R_squeeze_2, fun _ h => absurd h List.not_mem_nil⟩⟩⟩
theorem ok_R_writeChunks_0 : zx_okK 8 none prog_11_method_77_code ck_R_writeChunks_0 = true := by decide +kernel
theorem ok_R_writeChunks_1 : zx_okK 8 none prog_11_method_77_code ck_R_writeChunks_1 = true := by decide +kernel
theorem ok_R_writeChunks_2 : zx_okK 8 none prog_11_method_77_code ck_R_writeChunks_2 = true := by decide +kernel
theorem ok_R_writeChunks_3 : zx_okK 8 none prog_11_method_77_code ck_R_writeChunks_3 = true := by decide +kernel
theorem ok_R_writeChunks_4 : zx_okK 8 none prog_11_method_77_code ck_R_writeChunks_4 = true := by decide +kernel
theorem ok_R_writeChunks_5 : zx_okK 8 none prog_11_method_77_code ck_R_writeChunks_5 = true := by decide +kernel
theorem ok_R_writeChunks_6 : zx_okK 8 none prog_11_method_77_code ck_R_writeChunks_6 = true := by decide +kernel
theorem ok_R_writeChunks : ∀ g ∈ ck_R_writeChunks, zx_okK 8 none prog_11_method_77_code g.2 = true := List.forall_mem_cons.mpr ⟨ok_R_writeChunks_0, List.forall_mem_cons.mpr ⟨ok_R_writeChunks_1, List.forall_mem_cons.mpr ⟨ok_R_writeChunks_2, List.forall_mem_cons.mpr ⟨ok_R_writeChunks_3, List.forall_mem_cons.mpr ⟨ok_R_writeChunks_4, List.forall_mem_cons.mpr ⟨ok_R_writeChunks_5, List.forall_mem_cons.mpr ⟨ok_R_writeChunks_6, fun _ h => absurd h List.not_mem_nil⟩⟩⟩⟩⟩⟩⟩
theorem ok_R_writeBlock_0 : zx_okK 8 (some Jvm.ClassFile.FieldType.int) prog_11_method_78_code ck_R_writeBlock_0 = true := by decide +kernel
theorem ok_R_writeBlock_1 : zx_okK 8 (some Jvm.ClassFile.FieldType.int) prog_11_method_78_code ck_R_writeBlock_1 = true := by decide +kernel
theorem ok_R_writeBlock_2 : zx_okK 8 (some Jvm.ClassFile.FieldType.int) prog_11_method_78_code ck_R_writeBlock_2 = true := by decide +kernel
theorem ok_R_writeBlock : ∀ g ∈ ck_R_writeBlock, zx_okK 8 (some Jvm.ClassFile.FieldType.int) prog_11_method_78_code g.2 = true := List.forall_mem_cons.mpr ⟨ok_R_writeBlock_0, List.forall_mem_cons.mpr ⟨ok_R_writeBlock_1, List.forall_mem_cons.mpr ⟨ok_R_writeBlock_2, fun _ h => absurd h List.not_mem_nil⟩⟩⟩
theorem ok_R_pack_0 : zx_okK 8 (some Jvm.ClassFile.FieldType.int) prog_11_method_79_code ck_R_pack_0 = true := by decide +kernel
theorem ok_R_pack_1 : zx_okK 8 (some Jvm.ClassFile.FieldType.int) prog_11_method_79_code ck_R_pack_1 = true := by decide +kernel
theorem ok_R_pack_2 : zx_okK 8 (some Jvm.ClassFile.FieldType.int) prog_11_method_79_code ck_R_pack_2 = true := by decide +kernel
theorem ok_R_pack_3 : zx_okK 8 (some Jvm.ClassFile.FieldType.int) prog_11_method_79_code ck_R_pack_3 = true := by decide +kernel
theorem ok_R_pack_4 : zx_okK 8 (some Jvm.ClassFile.FieldType.int) prog_11_method_79_code ck_R_pack_4 = true := by decide +kernel
theorem ok_R_pack_5 : zx_okK 8 (some Jvm.ClassFile.FieldType.int) prog_11_method_79_code ck_R_pack_5 = true := by decide +kernel
theorem ok_R_pack_6 : zx_okK 8 (some Jvm.ClassFile.FieldType.int) prog_11_method_79_code ck_R_pack_6 = true := by decide +kernel
theorem ok_R_pack : ∀ g ∈ ck_R_pack, zx_okK 8 (some Jvm.ClassFile.FieldType.int) prog_11_method_79_code g.2 = true := List.forall_mem_cons.mpr ⟨ok_R_pack_0, List.forall_mem_cons.mpr ⟨ok_R_pack_1, List.forall_mem_cons.mpr ⟨ok_R_pack_2, List.forall_mem_cons.mpr ⟨ok_R_pack_3, List.forall_mem_cons.mpr ⟨ok_R_pack_4, List.forall_mem_cons.mpr ⟨ok_R_pack_5, List.forall_mem_cons.mpr ⟨ok_R_pack_6, fun _ h => absurd h List.not_mem_nil⟩⟩⟩⟩⟩⟩⟩
theorem ok_Lin_learn_0 : zx_okK 9 none prog_2_method_4_code ck_Lin_learn_0 = true := by decide +kernel
theorem ok_Lin_learn_1 : zx_okK 9 none prog_2_method_4_code ck_Lin_learn_1 = true := by decide +kernel
theorem ok_Lin_learn : ∀ g ∈ ck_Lin_learn, zx_okK 9 none prog_2_method_4_code g.2 = true := List.forall_mem_cons.mpr ⟨ok_Lin_learn_0, List.forall_mem_cons.mpr ⟨ok_Lin_learn_1, fun _ h => absurd h List.not_mem_nil⟩⟩
theorem ok_Arr_rangeCheck_0 : zx_okK 10 none prog_16_method_30_code ck_Arr_rangeCheck_0 = true := by decide +kernel
theorem ok_Arr_rangeCheck : ∀ g ∈ ck_Arr_rangeCheck, zx_okK 10 none prog_16_method_30_code g.2 = true := List.forall_mem_cons.mpr ⟨ok_Arr_rangeCheck_0, fun _ h => absurd h List.not_mem_nil⟩
theorem ok_Arr_fill_0 : zx_okK 10 none prog_16_method_101_code ck_Arr_fill_0 = true := by decide +kernel
theorem ok_Arr_fill : ∀ g ∈ ck_Arr_fill, zx_okK 10 none prog_16_method_101_code g.2 = true := List.forall_mem_cons.mpr ⟨ok_Arr_fill_0, fun _ h => absurd h List.not_mem_nil⟩
theorem ok_Arr_fill2_0 : zx_okK 10 none prog_16_method_103_code ck_Arr_fill2_0 = true := by decide +kernel
theorem ok_Arr_fill2 : ∀ g ∈ ck_Arr_fill2, zx_okK 10 none prog_16_method_103_code g.2 = true := List.forall_mem_cons.mpr ⟨ok_Arr_fill2_0, fun _ h => absurd h List.not_mem_nil⟩
theorem ok_Arr_fill3_0 : zx_okK 10 none prog_16_method_104_code ck_Arr_fill3_0 = true := by decide +kernel
theorem ok_Arr_fill3 : ∀ g ∈ ck_Arr_fill3, zx_okK 10 none prog_16_method_104_code g.2 = true := List.forall_mem_cons.mpr ⟨ok_Arr_fill3_0, fun _ h => absurd h List.not_mem_nil⟩
theorem ok_Lng_numberOfLeadingZeros_0 : zx_okK 11 (some Jvm.ClassFile.FieldType.int) prog_13_method_48_code ck_Lng_numberOfLeadingZeros_0 = true := by decide +kernel
theorem ok_Lng_numberOfLeadingZeros : ∀ g ∈ ck_Lng_numberOfLeadingZeros, zx_okK 11 (some Jvm.ClassFile.FieldType.int) prog_13_method_48_code g.2 = true := List.forall_mem_cons.mpr ⟨ok_Lng_numberOfLeadingZeros_0, fun _ h => absurd h List.not_mem_nil⟩
theorem ok_Itg_numberOfLeadingZeros_0 : zx_okK 12 (some Jvm.ClassFile.FieldType.int) prog_12_method_47_code ck_Itg_numberOfLeadingZeros_0 = true := by decide +kernel
theorem ok_Itg_numberOfLeadingZeros_1 : zx_okK 12 (some Jvm.ClassFile.FieldType.int) prog_12_method_47_code ck_Itg_numberOfLeadingZeros_1 = true := by decide +kernel
theorem ok_Itg_numberOfLeadingZeros : ∀ g ∈ ck_Itg_numberOfLeadingZeros, zx_okK 12 (some Jvm.ClassFile.FieldType.int) prog_12_method_47_code g.2 = true := List.forall_mem_cons.mpr ⟨ok_Itg_numberOfLeadingZeros_0, List.forall_mem_cons.mpr ⟨ok_Itg_numberOfLeadingZeros_1, fun _ h => absurd h List.not_mem_nil⟩⟩
