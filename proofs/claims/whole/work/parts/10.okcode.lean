theorem ok_P_feed_0 : zx_okK 0 (some Jvm.ClassFile.FieldType.int) prog_1_method_2_code ck_P_feed_0 = true := by decide +kernel
theorem ok_P_feed_1 : zx_okK 0 (some Jvm.ClassFile.FieldType.int) prog_1_method_2_code ck_P_feed_1 = true := by decide +kernel
theorem ok_P_feed : ∀ g ∈ ck_P_feed, zx_okK 0 (some Jvm.ClassFile.FieldType.int) prog_1_method_2_code g.2 = true := List.forall_mem_cons.mpr ⟨ok_P_feed_0, List.forall_mem_cons.mpr ⟨ok_P_feed_1, fun _ h => absurd h List.not_mem_nil⟩⟩
theorem ok_P_copy_0 : zx_okK 0 (some Jvm.ClassFile.FieldType.int) prog_1_method_3_code ck_P_copy_0 = true := by decide +kernel
theorem ok_P_copy_1 : zx_okK 0 (some Jvm.ClassFile.FieldType.int) prog_1_method_3_code ck_P_copy_1 = true := by decide +kernel
theorem ok_P_copy : ∀ g ∈ ck_P_copy, zx_okK 0 (some Jvm.ClassFile.FieldType.int) prog_1_method_3_code g.2 = true := List.forall_mem_cons.mpr ⟨ok_P_copy_0, List.forall_mem_cons.mpr ⟨ok_P_copy_1, fun _ h => absurd h List.not_mem_nil⟩⟩
theorem ok_P_cut_0 : zx_okK 0 (some Jvm.ClassFile.FieldType.int) prog_1_method_4_code ck_P_cut_0 = true := by decide +kernel
theorem ok_P_cut : ∀ g ∈ ck_P_cut, zx_okK 0 (some Jvm.ClassFile.FieldType.int) prog_1_method_4_code g.2 = true := List.forall_mem_cons.mpr ⟨ok_P_cut_0, fun _ h => absurd h List.not_mem_nil⟩
theorem ok_P_change_0 : zx_okK 0 (some Jvm.ClassFile.FieldType.int) prog_1_method_5_code ck_P_change_0 = true := by decide +kernel
theorem ok_P_change : ∀ g ∈ ck_P_change, zx_okK 0 (some Jvm.ClassFile.FieldType.int) prog_1_method_5_code g.2 = true := List.forall_mem_cons.mpr ⟨ok_P_change_0, fun _ h => absurd h List.not_mem_nil⟩
theorem ok_P_at_0 : zx_okK 0 (some Jvm.ClassFile.FieldType.int) prog_1_method_6_code ck_P_at_0 = true := by decide +kernel
theorem ok_P_at : ∀ g ∈ ck_P_at, zx_okK 0 (some Jvm.ClassFile.FieldType.int) prog_1_method_6_code g.2 = true := List.forall_mem_cons.mpr ⟨ok_P_at_0, fun _ h => absurd h List.not_mem_nil⟩
theorem ok_P_pack_0 : zx_okK 0 (some Jvm.ClassFile.FieldType.int) prog_1_method_7_code ck_P_pack_0 = true := by decide +kernel
theorem ok_P_pack_1 : zx_okK 0 (some Jvm.ClassFile.FieldType.int) prog_1_method_7_code ck_P_pack_1 = true := by decide +kernel
theorem ok_P_pack_2 : zx_okK 0 (some Jvm.ClassFile.FieldType.int) prog_1_method_7_code ck_P_pack_2 = true := by decide +kernel
theorem ok_P_pack_3 : zx_okK 0 (some Jvm.ClassFile.FieldType.int) prog_1_method_7_code ck_P_pack_3 = true := by decide +kernel
theorem ok_P_pack : ∀ g ∈ ck_P_pack, zx_okK 0 (some Jvm.ClassFile.FieldType.int) prog_1_method_7_code g.2 = true := List.forall_mem_cons.mpr ⟨ok_P_pack_0, List.forall_mem_cons.mpr ⟨ok_P_pack_1, List.forall_mem_cons.mpr ⟨ok_P_pack_2, List.forall_mem_cons.mpr ⟨ok_P_pack_3, fun _ h => absurd h List.not_mem_nil⟩⟩⟩⟩
theorem ok_P_unpack_0 : zx_okK 0 (some Jvm.ClassFile.FieldType.int) prog_1_method_8_code ck_P_unpack_0 = true := by decide +kernel
theorem ok_P_unpack_1 : zx_okK 0 (some Jvm.ClassFile.FieldType.int) prog_1_method_8_code ck_P_unpack_1 = true := by decide +kernel
theorem ok_P_unpack : ∀ g ∈ ck_P_unpack, zx_okK 0 (some Jvm.ClassFile.FieldType.int) prog_1_method_8_code g.2 = true := List.forall_mem_cons.mpr ⟨ok_P_unpack_0, List.forall_mem_cons.mpr ⟨ok_P_unpack_1, fun _ h => absurd h List.not_mem_nil⟩⟩
theorem ok_P_where_0 : zx_okK 0 (some Jvm.ClassFile.FieldType.int) prog_1_method_9_code ck_P_where_0 = true := by decide +kernel
theorem ok_P_where : ∀ g ∈ ck_P_where, zx_okK 0 (some Jvm.ClassFile.FieldType.int) prog_1_method_9_code g.2 = true := List.forall_mem_cons.mpr ⟨ok_P_where_0, fun _ h => absurd h List.not_mem_nil⟩
theorem ok_P_watch_0 : zx_okK 0 (some Jvm.ClassFile.FieldType.boolean) prog_1_method_10_code ck_P_watch_0 = true := by decide +kernel
theorem ok_P_watch : ∀ g ∈ ck_P_watch, zx_okK 0 (some Jvm.ClassFile.FieldType.boolean) prog_1_method_10_code g.2 = true := List.forall_mem_cons.mpr ⟨ok_P_watch_0, fun _ h => absurd h List.not_mem_nil⟩
theorem ok_P_range_0 : zx_okK 0 (some Jvm.ClassFile.FieldType.long) prog_1_method_11_code ck_P_range_0 = true := by decide +kernel
theorem ok_P_range : ∀ g ∈ ck_P_range, zx_okK 0 (some Jvm.ClassFile.FieldType.long) prog_1_method_11_code g.2 = true := List.forall_mem_cons.mpr ⟨ok_P_range_0, fun _ h => absurd h List.not_mem_nil⟩
theorem ok_P_code_0 : zx_okK 0 (some Jvm.ClassFile.FieldType.long) prog_1_method_12_code ck_P_code_0 = true := by decide +kernel
theorem ok_P_code : ∀ g ∈ ck_P_code, zx_okK 0 (some Jvm.ClassFile.FieldType.long) prog_1_method_12_code g.2 = true := List.forall_mem_cons.mpr ⟨ok_P_code_0, fun _ h => absurd h List.not_mem_nil⟩
theorem ok_P_count_0 : zx_okK 0 (some Jvm.ClassFile.FieldType.int) prog_1_method_13_code ck_P_count_0 = true := by decide +kernel
theorem ok_P_count : ∀ g ∈ ck_P_count, zx_okK 0 (some Jvm.ClassFile.FieldType.int) prog_1_method_13_code g.2 = true := List.forall_mem_cons.mpr ⟨ok_P_count_0, fun _ h => absurd h List.not_mem_nil⟩
theorem ok_P_sum_0 : zx_okK 0 (some Jvm.ClassFile.FieldType.long) prog_1_method_14_code ck_P_sum_0 = true := by decide +kernel
theorem ok_P_sum : ∀ g ∈ ck_P_sum, zx_okK 0 (some Jvm.ClassFile.FieldType.long) prog_1_method_14_code g.2 = true := List.forall_mem_cons.mpr ⟨ok_P_sum_0, fun _ h => absurd h List.not_mem_nil⟩
theorem ok_P_rowOf_0 : zx_okK 0 (some (Jvm.ClassFile.FieldType.object "IntervalPacker$Row")) prog_1_method_15_code ck_P_rowOf_0 = true := by decide +kernel
theorem ok_P_rowOf : ∀ g ∈ ck_P_rowOf, zx_okK 0 (some (Jvm.ClassFile.FieldType.object "IntervalPacker$Row")) prog_1_method_15_code g.2 = true := List.forall_mem_cons.mpr ⟨ok_P_rowOf_0, fun _ h => absurd h List.not_mem_nil⟩
theorem ok_P_isSort_0 : zx_okK 0 (some Jvm.ClassFile.FieldType.boolean) prog_1_method_16_code ck_P_isSort_0 = true := by decide +kernel
theorem ok_P_isSort : ∀ g ∈ ck_P_isSort, zx_okK 0 (some Jvm.ClassFile.FieldType.boolean) prog_1_method_16_code g.2 = true := List.forall_mem_cons.mpr ⟨ok_P_isSort_0, fun _ h => absurd h List.not_mem_nil⟩
theorem ok_P_checkSize_0 : zx_okK 0 (some Jvm.ClassFile.FieldType.int) prog_1_method_17_code ck_P_checkSize_0 = true := by decide +kernel
theorem ok_P_checkSize : ∀ g ∈ ck_P_checkSize, zx_okK 0 (some Jvm.ClassFile.FieldType.int) prog_1_method_17_code g.2 = true := List.forall_mem_cons.mpr ⟨ok_P_checkSize_0, fun _ h => absurd h List.not_mem_nil⟩
theorem ok_P_areProperties_0 : zx_okK 0 (some Jvm.ClassFile.FieldType.boolean) prog_1_method_18_code ck_P_areProperties_0 = true := by decide +kernel
theorem ok_P_areProperties : ∀ g ∈ ck_P_areProperties, zx_okK 0 (some Jvm.ClassFile.FieldType.boolean) prog_1_method_18_code g.2 = true := List.forall_mem_cons.mpr ⟨ok_P_areProperties_0, fun _ h => absurd h List.not_mem_nil⟩
theorem ok_P_sumFour_0 : zx_okK 0 (some Jvm.ClassFile.FieldType.long) prog_1_method_19_code ck_P_sumFour_0 = true := by decide +kernel
theorem ok_P_sumFour : ∀ g ∈ ck_P_sumFour, zx_okK 0 (some Jvm.ClassFile.FieldType.long) prog_1_method_19_code g.2 = true := List.forall_mem_cons.mpr ⟨ok_P_sumFour_0, fun _ h => absurd h List.not_mem_nil⟩
theorem ok_P_sumEight_0 : zx_okK 0 (some Jvm.ClassFile.FieldType.long) prog_1_method_20_code ck_P_sumEight_0 = true := by decide +kernel
theorem ok_P_sumEight : ∀ g ∈ ck_P_sumEight, zx_okK 0 (some Jvm.ClassFile.FieldType.long) prog_1_method_20_code g.2 = true := List.forall_mem_cons.mpr ⟨ok_P_sumEight_0, fun _ h => absurd h List.not_mem_nil⟩
theorem ok_P_sumBy_0 : zx_okK 0 (some Jvm.ClassFile.FieldType.long) prog_1_method_21_code ck_P_sumBy_0 = true := by decide +kernel
theorem ok_P_sumBy_1 : zx_okK 0 (some Jvm.ClassFile.FieldType.long) prog_1_method_21_code ck_P_sumBy_1 = true := by decide +kernel
theorem ok_P_sumBy : ∀ g ∈ ck_P_sumBy, zx_okK 0 (some Jvm.ClassFile.FieldType.long) prog_1_method_21_code g.2 = true := List.forall_mem_cons.mpr ⟨ok_P_sumBy_0, List.forall_mem_cons.mpr ⟨ok_P_sumBy_1, fun _ h => absurd h List.not_mem_nil⟩⟩
theorem ok_Row_clear_0 : zx_okK 1 none prog_8_method_2_code ck_Row_clear_0 = true := by decide +kernel
theorem ok_Row_clear : ∀ g ∈ ck_Row_clear, zx_okK 1 none prog_8_method_2_code g.2 = true := List.forall_mem_cons.mpr ⟨ok_Row_clear_0, fun _ h => absurd h List.not_mem_nil⟩
theorem ok_Row_hasRoom_0 : zx_okK 1 (some Jvm.ClassFile.FieldType.boolean) prog_8_method_3_code ck_Row_hasRoom_0 = true := by decide +kernel
theorem ok_Row_hasRoom : ∀ g ∈ ck_Row_hasRoom, zx_okK 1 (some Jvm.ClassFile.FieldType.boolean) prog_8_method_3_code g.2 = true := List.forall_mem_cons.mpr ⟨ok_Row_hasRoom_0, fun _ h => absurd h List.not_mem_nil⟩
theorem ok_Row_append_0 : zx_okK 1 none prog_8_method_4_code ck_Row_append_0 = true := by decide +kernel
theorem ok_Row_append : ∀ g ∈ ck_Row_append, zx_okK 1 none prog_8_method_4_code g.2 = true := List.forall_mem_cons.mpr ⟨ok_Row_append_0, fun _ h => absurd h List.not_mem_nil⟩
theorem ok_Row_appendAll_0 : zx_okK 1 none prog_8_method_5_code ck_Row_appendAll_0 = true := by decide +kernel
theorem ok_Row_appendAll : ∀ g ∈ ck_Row_appendAll, zx_okK 1 none prog_8_method_5_code g.2 = true := List.forall_mem_cons.mpr ⟨ok_Row_appendAll_0, fun _ h => absurd h List.not_mem_nil⟩
theorem ok_Row_appendLowFirst_0 : zx_okK 1 none prog_8_method_6_code ck_Row_appendLowFirst_0 = true := by decide +kernel
theorem ok_Row_appendLowFirst : ∀ g ∈ ck_Row_appendLowFirst, zx_okK 1 none prog_8_method_6_code g.2 = true := List.forall_mem_cons.mpr ⟨ok_Row_appendLowFirst_0, fun _ h => absurd h List.not_mem_nil⟩
theorem ok_Row_repeat_0 : zx_okK 1 none prog_8_method_7_code ck_Row_repeat_0 = true := by decide +kernel
theorem ok_Row_repeat : ∀ g ∈ ck_Row_repeat, zx_okK 1 none prog_8_method_7_code g.2 = true := List.forall_mem_cons.mpr ⟨ok_Row_repeat_0, fun _ h => absurd h List.not_mem_nil⟩
theorem ok_Row_byteAt_0 : zx_okK 1 (some Jvm.ClassFile.FieldType.int) prog_8_method_8_code ck_Row_byteAt_0 = true := by decide +kernel
