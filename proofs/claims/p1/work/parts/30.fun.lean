/-! Shallow functions of the code, and their contracts (written by a program) -/
def zk_in (i : Int32) (n : Nat) : Bool := decide (0 ≤ i.toInt ∧ i.toInt < n)
theorem zk_vp {i : Int32} {n : Nat} (h : zk_in i n = true) : vp_in i n := vp_in_iff.mpr (of_decide_eq_true h)
theorem zk_ck {α : Type} {c : Prop} [Decidable c] {a : Option α} {x : α} (h : (if c then a else none) = some x) : c ∧ a = some x := by
  by_cases hc : c
  · rw [if_pos hc] at h
    exact ⟨hc, h⟩
  · rw [if_neg hc] at h
    cases h
theorem zk_t {α : Type} {c : Prop} [Decidable c] {a b x : α} (h : (if c then a else b) = x) (hc : c) : a = x := by
  rw [if_pos hc] at h
  exact h
theorem zk_f {α : Type} {c : Prop} [Decidable c] {a b x : α} (h : (if c then a else b) = x) (hc : ¬ c) : b = x := by
  rw [if_neg hc] at h
  exact h
theorem zk_bind {α β : Type} {o : Option α} {f : α → Option β} {x : β} (h : o.bind f = some x) : ∃ a, o = some a ∧ f a = some x := by
  cases o with
  | none => cases h
  | some a => exact ⟨a, rfl, h⟩
theorem zk_no {α : Type} {x : α} (h : none = some x) : False := by cases h
def g_P_rowOf_b0 (D : zx_D) : Option (Unit) :=
  some ()
def g_Row_hasRoom_1 (x1 : Int32) (D : zx_D) : Option (Int32) :=
  if 400 - (zg_i D 1 1) < x1 then
    some 0
  else
    some 1
def g_Row_append_1 (x1 : Int32) (D : zx_D) : Option (zx_D) :=
  if zg_i D 1 1 < 400 then
    if zk_in (zg_i D 1 1) 400 = true then
    some (zp_i (zp_i D 2 (zn (zg_i D 1 1)) x1) 1 1 ((zg_i D 1 1) + 1))
    else none
  else
    some (zp_i D 1 2 1)
def g_P_feed_b0_35 (x1 : Int64) : Nat → Int32 → zx_D → Option (zx_D)
  | 0, _, _ => none
  | k + 1, x6, D =>
    if x6 < 0 then
      some D
    else
      (g_Row_append_1 ((((zo_lushr x1 (8 * x6))).toInt32) &&& 255) D).bind fun q3 =>
      g_P_feed_b0_35 x1 k (x6 + (-1)) q3
def g_P_feed_b0 (x1 : Int64) (x3 : Int32) (D : zx_D) : Option (Int32 × zx_D) :=
  (g_P_rowOf_b0 D).bind fun q1 =>
  if x3 < 1 then
    some (-1, D)
  else
    if 8 < x3 then
      some (-1, D)
    else
      (g_Row_hasRoom_1 x3 D).bind fun q2 =>
      if ¬ q2 = 0 then
        (g_P_feed_b0_35 x1 10000 (x3 - 1) D).bind fun q4 =>
        some (zg_i q4 1 1, q4)
      else
        some (-1, D)
def g_P_cut_b0 (x1 : Int32) (D : zx_D) : Option (Int32 × zx_D) :=
  (g_P_rowOf_b0 D).bind fun q1 =>
  if x1 < 0 then
    some (-1, D)
  else
    if x1 ≤ zg_i D 1 1 then
      some ((zg_i D 1 1) - x1, zp_i D 1 1 x1)
    else
      some (-1, D)
def g_Row_byteAt_1 (x1 : Int32) (D : zx_D) : Option (Int32) :=
  if x1 < 0 then
    some (-1)
  else
    if zg_i D 1 1 ≤ x1 then
      some (-1)
    else
      if zk_in x1 400 = true then
      some (zg_i D 2 (zn x1))
      else none
def g_P_at_b0 (x1 : Int32) (D : zx_D) : Option (Int32) :=
  (g_P_rowOf_b0 D).bind fun q1 =>
  (g_Row_byteAt_1 x1 D).bind fun q2 =>
  some q2
def g_P_sumBy_2_25 (x2 : Int32) (x3 : Int64) (x5 : Int64) (x9 : Int32) (D : zx_D) : Nat → Int64 → Int32 → Option (Int64)
  | 0, _, _ => none
  | k + 1, x7, x10 =>
    if 8 ≤ x10 then
      some x7
    else
      if ¬ x7 &&& 1 = 1 then
        g_P_sumBy_2_25 x2 x3 x5 x9 D k (zo_lushr x7 1) (x10 + 1)
      else
        g_P_sumBy_2_25 x2 x3 x5 x9 D k ((zo_lushr x7 1) ^^^ x5) (x10 + 1)
def g_P_sumBy_2_6 (x2 : Int32) (x3 : Int64) (x5 : Int64) (D : zx_D) : Nat → Int64 → Int32 → Option (Int64)
  | 0, _, _ => none
  | k + 1, x7, x9 =>
    if x2 ≤ x9 then
      some x7
    else
      if zk_in x9 400 = true then
      (g_P_sumBy_2_25 x2 x3 x5 x9 D 10000 (x7 ^^^ (((zg_i D 2 (zn x9))).toInt64)) 0).bind fun q1 =>
      g_P_sumBy_2_6 x2 x3 x5 D k q1 (x9 + 1)
      else none
def g_P_sumBy_2 (x1 : Int32) (x2 : Int32) (x3 : Int64) (x5 : Int64) (D : zx_D) : Option (Int64) :=
  (g_P_sumBy_2_6 x2 x3 x5 D 10000 x3 x1).bind fun q2 =>
  some (q2 ^^^ x3)
def g_P_sumFour_2 (x1 : Int32) (x2 : Int32) (D : zx_D) : Option (Int64) :=
  (g_P_sumBy_2 x1 x2 4294967295 3988292384 D).bind fun q1 =>
  some q1
def g_P_sum_b0 (D : zx_D) : Option (Int64) :=
  (g_P_sumFour_2 0 (zg_i D 1 1) D).bind fun q1 =>
  some q1
def g_P_rowOf_b1 (D : zx_D) : Option (Unit) :=
  some ()
def g_Row_hasRoom_3 (x1 : Int32) (D : zx_D) : Option (Int32) :=
  if 640 - (zg_i D 3 1) < x1 then
    some 0
  else
    some 1
def g_Row_append_3 (x1 : Int32) (D : zx_D) : Option (zx_D) :=
  if zg_i D 3 1 < 640 then
    if zk_in (zg_i D 3 1) 640 = true then
    some (zp_i (zp_i D 4 (zn (zg_i D 3 1)) x1) 3 1 ((zg_i D 3 1) + 1))
    else none
  else
    some (zp_i D 3 2 1)
def g_P_feed_b1_35 (x1 : Int64) : Nat → Int32 → zx_D → Option (zx_D)
  | 0, _, _ => none
  | k + 1, x6, D =>
    if x6 < 0 then
      some D
    else
      (g_Row_append_3 ((((zo_lushr x1 (8 * x6))).toInt32) &&& 255) D).bind fun q3 =>
      g_P_feed_b1_35 x1 k (x6 + (-1)) q3
def g_P_feed_b1 (x1 : Int64) (x3 : Int32) (D : zx_D) : Option (Int32 × zx_D) :=
  (g_P_rowOf_b1 D).bind fun q1 =>
  if x3 < 1 then
    some (-1, D)
  else
    if 8 < x3 then
      some (-1, D)
    else
      (g_Row_hasRoom_3 x3 D).bind fun q2 =>
      if ¬ q2 = 0 then
        (g_P_feed_b1_35 x1 10000 (x3 - 1) D).bind fun q4 =>
        some (zg_i q4 3 1, q4)
      else
        some (-1, D)
def g_P_cut_b1 (x1 : Int32) (D : zx_D) : Option (Int32 × zx_D) :=
  (g_P_rowOf_b1 D).bind fun q1 =>
  if x1 < 0 then
    some (-1, D)
  else
    if x1 ≤ zg_i D 3 1 then
      some ((zg_i D 3 1) - x1, zp_i D 3 1 x1)
    else
      some (-1, D)
def g_Row_byteAt_3 (x1 : Int32) (D : zx_D) : Option (Int32) :=
  if x1 < 0 then
    some (-1)
  else
    if zg_i D 3 1 ≤ x1 then
      some (-1)
    else
      if zk_in x1 640 = true then
      some (zg_i D 4 (zn x1))
      else none
def g_P_at_b1 (x1 : Int32) (D : zx_D) : Option (Int32) :=
  (g_P_rowOf_b1 D).bind fun q1 =>
  (g_Row_byteAt_3 x1 D).bind fun q2 =>
  some q2
def g_P_sumEight_2 (x1 : Int32) (x2 : Int32) (D : zx_D) : Option (Int64) :=
  (g_P_sumBy_2 x1 x2 (-1) (-3932672073523589310) D).bind fun q1 =>
  some q1
def g_P_sum_b1 (D : zx_D) : Option (Int64) :=
  (g_P_sumEight_2 0 (zg_i D 1 1) D).bind fun q1 =>
  some q1
def g_Row_byteBack_1 (x1 : Int32) (x2 : Int64) (D : zx_D) : Option (Int32) :=
  if x2 < 1 then
    some 0
  else
    if (x1).toInt64 < x2 then
      some 0
    else
      if x1 ≤ 400 then
        if zk_in (x1 - ((x2).toInt32)) 400 = true then
        some (zg_i D 2 (zn (x1 - ((x2).toInt32))))
        else none
      else
        some 0
def g_Row_repeat_1_3 (x1 : Int64) (x3 : Int32) : Nat → Int32 → zx_D → Option (zx_D)
  | 0, _, _ => none
  | k + 1, x4, D =>
    if x3 ≤ x4 then
      some D
    else
      (g_Row_byteBack_1 (zg_i D 1 1) x1 D).bind fun q1 =>
      (g_Row_append_1 q1 D).bind fun q2 =>
      g_Row_repeat_1_3 x1 x3 k (x4 + 1) q2
def g_Row_repeat_1 (x1 : Int64) (x3 : Int32) (D : zx_D) : Option (zx_D) :=
  (g_Row_repeat_1_3 x1 x3 10000 0 D).bind fun q3 =>
  some q3
def g_P_copy (x1 : Int32) (x2 : Int32) (D : zx_D) : Option (Int32 × zx_D) :=
  if x2 < 1 then
    some (-1, D)
  else
    if 300 < x2 then
      some (-1, D)
    else
      if x1 < 1 then
        some (-1, D)
      else
        if zg_i D 1 1 < x1 then
          some (-1, D)
        else
          (g_Row_hasRoom_1 x2 D).bind fun q1 =>
          if ¬ q1 = 0 then
            (g_Row_repeat_1 ((x1).toInt64) x2 D).bind fun q2 =>
            some (zg_i q2 1 1, q2)
          else
            some (-1, D)
def g_P_change (x1 : Int32) (x2 : Int32) (D : zx_D) : Option (Int32 × zx_D) :=
  (g_Row_byteAt_3 x1 D).bind fun q1 =>
  if q1 = -1 then
    some (-1, D)
  else
    if x2 < 0 then
      some (-1, D)
    else
      if x2 ≤ 255 then
        if zk_in x1 640 = true then
        some (q1, zp_i D 4 (zn x1) x2)
        else none
      else
        some (-1, D)
def g_P_where (D : zx_D) : Option (Int32) :=
  some (zg_i D 12 5)
def g_P_watch (x1 : Int32) (D : zx_D) : Option (Int32 × zx_D) :=
  if 1 ≤ x1 then
    some (1, zp_i D 5 9 x1)
  else
    some (0, D)
def g_P_range (D : zx_D) : Option (Int64) :=
  some (zg_l D 5 10)
def g_P_code (D : zx_D) : Option (Int64) :=
  some (zg_l D 5 11)
def g_P_count (x1 : Int32) (D : zx_D) : Option (Int32) :=
  if x1 < 0 then
    some (-1)
  else
    if x1 < 11 then
      if ¬ x1 = 0 then
        if zk_in x1 11 = true then
        some (zg_i D 14 (zn x1))
        else none
      else
        some (zg_i D 5 8)
    else
      some (-1)
def g_P_isSort (x0 : Int32) (D : zx_D) : Option (Int32) :=
  if x0 = 0 then
    some 1
  else
    if x0 = 1 then
      some 1
    else
      if ¬ x0 = 4 then
        some 0
      else
        some 1
def g_P_areProperties (x0 : Int32) (D : zx_D) : Option (Int32) :=
  if x0 < 0 then
    some 0
  else
    if x0 < 225 then
      if 3 < (zo_rem x0 9) + (zo_rem (x0 / 9) 5) then
        some 0
      else
        some 1
    else
      some 0
def g_Row_clear_18 (D : zx_D) : Option (zx_D) :=
  some (zp_i (zp_i D 18 1 0) 18 2 0)
def g_Row_append_18 (x1 : Int32) (D : zx_D) : Option (zx_D) :=
  if zg_i D 18 1 < 640 then
    if zk_in (zg_i D 18 1) 640 = true then
    some (zp_i (zp_i D 19 (zn (zg_i D 18 1)) x1) 18 1 ((zg_i D 18 1) + 1))
    else none
  else
    some (zp_i D 18 2 1)
def g_Row_appendAll_18_23_3 (x2 : Int32) (x3 : Int32) : Nat → Int32 → zx_D → Option (zx_D)
  | 0, _, _ => none
  | k + 1, x4, D =>
    if x2 + x3 ≤ x4 then
      some D
    else
      if zk_in x4 6 = true then
      (g_Row_append_18 (ro_f (zn x4)) D).bind fun q1 =>
      g_Row_appendAll_18_23_3 x2 x3 k (x4 + 1) q1
      else none
def g_Row_appendAll_18_23 (x2 : Int32) (x3 : Int32) (D : zx_D) : Option (zx_D) :=
  (g_Row_appendAll_18_23_3 x2 x3 10000 x2 D).bind fun q2 =>
  some q2
def g_P_sumBy_19_25 (x2 : Int32) (x3 : Int64) (x5 : Int64) (x9 : Int32) (D : zx_D) : Nat → Int64 → Int32 → Option (Int64)
  | 0, _, _ => none
  | k + 1, x7, x10 =>
    if 8 ≤ x10 then
      some x7
    else
      if ¬ x7 &&& 1 = 1 then
        g_P_sumBy_19_25 x2 x3 x5 x9 D k (zo_lushr x7 1) (x10 + 1)
      else
        g_P_sumBy_19_25 x2 x3 x5 x9 D k ((zo_lushr x7 1) ^^^ x5) (x10 + 1)
def g_P_sumBy_19_6 (x2 : Int32) (x3 : Int64) (x5 : Int64) (D : zx_D) : Nat → Int64 → Int32 → Option (Int64)
  | 0, _, _ => none
  | k + 1, x7, x9 =>
    if x2 ≤ x9 then
      some x7
    else
      if zk_in x9 640 = true then
      (g_P_sumBy_19_25 x2 x3 x5 x9 D 10000 (x7 ^^^ (((zg_i D 19 (zn x9))).toInt64)) 0).bind fun q1 =>
      g_P_sumBy_19_6 x2 x3 x5 D k q1 (x9 + 1)
      else none
def g_P_sumBy_19 (x1 : Int32) (x2 : Int32) (x3 : Int64) (x5 : Int64) (D : zx_D) : Option (Int64) :=
  (g_P_sumBy_19_6 x2 x3 x5 D 10000 x3 x1).bind fun q2 =>
  some (q2 ^^^ x3)
def g_P_sumFour_19 (x1 : Int32) (x2 : Int32) (D : zx_D) : Option (Int64) :=
  (g_P_sumBy_19 x1 x2 4294967295 3988292384 D).bind fun q1 =>
  some q1
def g_Row_appendLowFirst_18_3 (x1 : Int64) (x3 : Int32) : Nat → Int32 → zx_D → Option (zx_D)
  | 0, _, _ => none
  | k + 1, x4, D =>
    if x3 ≤ x4 then
      some D
    else
      (g_Row_append_18 ((((zo_lushr x1 (8 * x4))).toInt32) &&& 255) D).bind fun q1 =>
      g_Row_appendLowFirst_18_3 x1 x3 k (x4 + 1) q1
def g_Row_appendLowFirst_18 (x1 : Int64) (x3 : Int32) (D : zx_D) : Option (zx_D) :=
  (g_Row_appendLowFirst_18_3 x1 x3 10000 0 D).bind fun q2 =>
  some q2
def g_Pkg_begin_1 (x2 : Int32) (x3 : Int32) (D : zx_D) : Option (zx_D) :=
  (g_Row_clear_18 (zp_i (zp_i D 17 5 x2) 17 6 x3)).bind fun q1 =>
  (g_Row_appendAll_18_23 0 6 q1).bind fun q2 =>
  (g_Row_append_18 0 q2).bind fun q3 =>
  (g_Row_append_18 (zg_i q3 17 5) q3).bind fun q4 =>
  (g_P_sumFour_19 6 8 q4).bind fun q5 =>
  (g_Row_appendLowFirst_18 q5 4 q4).bind fun q6 =>
  some q6
def g_Pkg_writeHead (D : zx_D) : Option (zx_D) :=
  (g_Row_append_18 2 (zp_i (zp_i (zp_i (zp_i D 17 7 (zg_i D 18 1)) 17 10 1) 17 11 1) 17 12 1)).bind fun q1 =>
  (g_Row_append_18 0 q1).bind fun q2 =>
  (g_Row_append_18 33 q2).bind fun q3 =>
  (g_Row_append_18 1 q3).bind fun q4 =>
  (g_Row_appendLowFirst_18 0 4 q4).bind fun q5 =>
  (g_P_sumFour_19 (zg_i q5 17 7) (zg_i q5 18 1) q5).bind fun q6 =>
  (g_Row_appendLowFirst_18 q6 4 q5).bind fun q7 =>
  some q7
def g_Arr_fill2_21_5 (x1 : Int32) (x3 : Int32) : Nat → Int32 → zx_D → Option (zx_D)
  | 0, _, _ => none
  | k + 1, x2, D =>
    if x3 ≤ x2 then
      some D
    else
      if zk_in x2 400 = true then
      g_Arr_fill2_21_5 x1 x3 k (x2 + 1) (zp_i D 21 (zn x2) x1)
      else none
def g_Arr_fill2_21 (x1 : Int32) (D : zx_D) : Option (zx_D) :=
  (g_Arr_fill2_21_5 x1 400 10000 0 D).bind fun q1 =>
  some q1
def g_Snk_begin (x1 : Int32) (D : zx_D) : Option (zx_D) :=
  ((
    if 5 ≤ (if 400 < x1 then 400 else x1) then
      some 0
    else
      some 1
  ) : Option (Int32)).bind fun q1 =>
  if q1 = 0 ∨ q1 = 1 then
  (g_Arr_fill2_21 0 (zp_l (zp_i (zp_i (zp_i D 20 5 (if 400 < x1 then 400 else x1)) 20 2 q1) 20 4 5) 20 1 4294967295)).bind fun q2 =>
  some q2
  else none
def g_Mdl_setProperties (x1 : Int32) (D : zx_D) : Option (zx_D) :=
  some (zp_i (zp_i (zp_i D 7 3 (zo_rem x1 9)) 7 4 (zo_rem (x1 / 9) 5)) 7 5 (x1 / 45))
def g_Arr_rangeCheck (x0 : Int32) (x1 : Int32) (x2 : Int32) (D : zx_D) : Option (Unit) :=
  if x1 ≤ x2 then
    if 0 ≤ x1 then
      if x2 ≤ x0 then
        some ()
      else
        none
    else
      none
  else
    none
def g_Arr_fill3_6_10 (x2 : Int32) (x3 : Int32) : Nat → Int32 → zx_D → Option (zx_D)
  | 0, _, _ => none
  | k + 1, x4, D =>
    if x2 ≤ x4 then
      some D
    else
      if zk_in x4 8196 = true then
      g_Arr_fill3_6_10 x2 x3 k (x4 + 1) (zp_i D 6 (zn x4) x3)
      else none
def g_Arr_fill3_6 (x1 : Int32) (x2 : Int32) (x3 : Int32) (D : zx_D) : Option (zx_D) :=
  (g_Arr_rangeCheck 8196 x1 x2 D).bind fun q1 =>
  (g_Arr_fill3_6_10 x2 x3 10000 x1 D).bind fun q2 =>
  some q2
def g_Arr_fill_8_6 (x1 : Int64) (x4 : Int32) : Nat → Int32 → zx_D → Option (zx_D)
  | 0, _, _ => none
  | k + 1, x3, D =>
    if x4 ≤ x3 then
      some D
    else
      if zk_in x3 4 = true then
      g_Arr_fill_8_6 x1 x4 k (x3 + 1) (zp_l D 8 (zn x3) x1)
      else none
def g_Arr_fill_8 (x1 : Int64) (D : zx_D) : Option (zx_D) :=
  (g_Arr_fill_8_6 x1 4 10000 0 D).bind fun q1 =>
  some q1
def g_Mdl_beginAnew (D : zx_D) : Option (zx_D) :=
  (g_Arr_fill3_6 0 (2052 + (zo_shl 768 ((zg_i D 7 3) + (zg_i D 7 4)))) 1024 D).bind fun q1 =>
  (g_Arr_fill_8 1 q1).bind fun q2 =>
  some (zp_i q2 7 2 0)
def g_Mdl_useLine_20 (D : zx_D) : Option (Unit) :=
  some ()
def g_Pkg_sameBytes_21 (x1 : Int32) (x4 : Int32) (x5 : Int32) (D : zx_D) : Nat → Int32 → Int32 → Option (Int32)
  | 0, _, _ => none
  | k + 1, x6, x7 =>
    if x4 ≤ x7 then
      some x6
    else
      if zk_in (x5 + x7) 400 = true then
      if zk_in (x1 + x7) 400 = true then
      if ¬ zg_i D 2 (zn (x5 + x7)) = zg_i D 2 (zn (x1 + x7)) then
        some x6
      else
        g_Pkg_sameBytes_21 x1 x4 x5 D k (x6 + 1) (x7 + 1)
      else none
      else none
def g_Pkg_sameBytes (x1 : Int32) (x2 : Int64) (x4 : Int32) (D : zx_D) : Option (Int32) :=
  if x2 ≤ (x1).toInt64 then
    (g_Pkg_sameBytes_21 x1 x4 (x1 - ((x2).toInt32)) D 10000 0 0).bind fun q1 =>
    some q1
  else
    some 0
def g_Pkg_searchMatch_7 (x1 : Int32) (x2 : Int32) : Nat → Int32 → zx_D → Option (zx_D)
  | 0, _, _ => none
  | k + 1, x3, D =>
    if x1 < x3 then
      some D
    else
      if x2 ≤ zg_i D 17 13 then
        some D
      else
        (g_Pkg_sameBytes x1 ((x3).toInt64) x2 D).bind fun q1 =>
        if q1 ≤ zg_i D 17 13 then
          g_Pkg_searchMatch_7 x1 x2 k (x3 + 1) D
        else
          g_Pkg_searchMatch_7 x1 x2 k (x3 + 1) (zp_i (zp_i D 17 13 q1) 17 14 x3)
def g_Pkg_searchMatch (x1 : Int32) (x2 : Int32) (D : zx_D) : Option (zx_D) :=
  (g_Pkg_searchMatch_7 x1 x2 10000 1 (zp_i D 17 13 0)).bind fun q2 =>
  some q2
def g_Mdl_distanceOf (x1 : Int32) (D : zx_D) : Option (Int64) :=
  if zk_in x1 4 = true then
  some (zg_l D 8 (zn x1))
  else none
def g_Pkg_searchAgain_12 (x1 : Int32) (x2 : Int32) : Nat → Int32 → zx_D → Option (zx_D)
  | 0, _, _ => none
  | k + 1, x3, D =>
    if 4 ≤ x3 then
      some D
    else
      (g_Mdl_distanceOf x3 D).bind fun q1 =>
      (g_Pkg_sameBytes x1 q1 x2 D).bind fun q2 =>
      if q2 ≤ zg_i D 17 15 then
        g_Pkg_searchAgain_12 x1 x2 k (x3 + 1) D
      else
        g_Pkg_searchAgain_12 x1 x2 k (x3 + 1) (zp_i (zp_i D 17 15 q2) 17 16 x3)
def g_Pkg_searchAgain (x1 : Int32) (x2 : Int32) (D : zx_D) : Option (zx_D) :=
  (g_Pkg_searchAgain_12 x1 x2 10000 0 (zp_i (zp_i D 17 16 0) 17 15 0)).bind fun q3 =>
  some q3
def g_Pkg_choose_102 (D : zx_D) : Option (zx_D) :=
  some (zp_l (zp_i (zp_i D 7 7 2) 7 9 (zg_i D 17 13)) 7 10 (((zg_i D 17 14)).toInt64))
def g_Pkg_choose_136 (x1 : Int32) (x2 : Int32) (D : zx_D) : Option (zx_D) :=
  (g_Mdl_distanceOf 0 D).bind fun q3 =>
  (g_Pkg_sameBytes x1 q3 x2 D).bind fun q4 =>
  if ¬ q4 = 1 then
    some (zp_i D 7 7 1)
  else
    some (zp_i D 7 7 3)
def g_Pkg_choose_76 (x1 : Int32) (x2 : Int32) (D : zx_D) : Option (zx_D) :=
  if 3 ≤ zg_i D 17 13 then
    g_Pkg_choose_102 D
  else
    if ¬ zg_i D 17 13 = 2 then
      g_Pkg_choose_136 x1 x2 D
    else
      if 128 < zg_i D 17 14 then
        g_Pkg_choose_136 x1 x2 D
      else
        g_Pkg_choose_102 D
def g_Pkg_choose (x1 : Int32) (x2 : Int32) (D : zx_D) : Option (zx_D) :=
  (g_Pkg_searchMatch x1 x2 D).bind fun q1 =>
  (g_Pkg_searchAgain x1 x2 q1).bind fun q2 =>
  if zk_in x1 400 = true then
  if zg_i q2 17 15 < 2 then
    g_Pkg_choose_76 x1 x2 (zp_i q2 7 8 (zg_i q2 2 (zn x1)))
  else
    if (zg_i q2 17 15) + 1 < zg_i q2 17 13 then
      g_Pkg_choose_76 x1 x2 (zp_i q2 7 8 (zg_i q2 2 (zn x1)))
    else
      some (zp_i (zp_i (zp_i q2 7 8 (zg_i q2 2 (zn x1))) 7 7 (4 + (zg_i q2 17 16))) 7 9 (zg_i q2 17 15))
  else none
def g_Snk_shift (D : zx_D) : Option (zx_D) :=
  if ¬ zg_i D 20 2 = 0 then
    some D
  else
    if zg_l D 20 1 < 16777216 then
      if zg_i D 20 4 < zg_i D 20 5 then
        some (zp_i (zp_l D 20 1 (zo_lshl (zg_l D 20 1) 8)) 20 4 ((zg_i D 20 4) + 1))
      else
        some (zp_i D 20 2 1)
    else
      some D
def g_Snk_raise_10 : Nat → Int64 → Int32 → zx_D → Option (zx_D)
  | 0, _, _, _ => none
  | k + 1, x3, x5, D =>
    if x5 < 0 then
      some D
    else
      if x3 = 0 then
        some D
      else
        if zk_in x5 400 = true then
        if zk_in x5 400 = true then
        g_Snk_raise_10 k (zo_lushr (x3 + (((zg_i D 21 (zn x5))).toInt64)) 8) (x5 + (-1)) (zp_i D 21 (zn x5) ((((x3 + (((zg_i D 21 (zn x5))).toInt64))).toInt32) &&& 255))
        else none
        else none
def g_Snk_raise (x1 : Int64) (D : zx_D) : Option (zx_D) :=
  (g_Snk_raise_10 10000 x1 ((zg_i D 20 4) - 1) D).bind fun q1 =>
  some q1
def g_Lin_learn_20 (x1 : Int32) (x2 : Int32) (D : zx_D) : Option (zx_D) :=
  if zk_in x1 8196 = true then
  if ¬ x2 = 0 then
    if zk_in x1 8196 = true then
    some (zp_i D 6 (zn x1) ((zg_i D 6 (zn x1)) - (zo_shr (zg_i D 6 (zn x1)) 5)))
    else none
  else
    if zk_in x1 8196 = true then
    some (zp_i D 6 (zn x1) ((zg_i D 6 (zn x1)) + (zo_shr (2048 - (zg_i D 6 (zn x1))) 5)))
    else none
  else none
def g_Snk_codeBit (x1 : Int32) (x2 : Int32) (D : zx_D) : Option (Int32 × zx_D) :=
  (g_Snk_shift D).bind fun q1 =>
  if zg_i q1 20 2 = 0 then
    if zk_in x1 8196 = true then
    if ¬ x2 = 0 then
      (g_Snk_raise ((zo_lushr (zg_l q1 20 1) 11) * (((zg_i q1 6 (zn x1))).toInt64)) q1).bind fun q2 =>
      (g_Lin_learn_20 x1 x2 (zp_l q2 20 1 ((zg_l q2 20 1) - ((zo_lushr (zg_l q1 20 1) 11) * (((zg_i q1 6 (zn x1))).toInt64))))).bind fun q3 =>
      some (x2, q3)
    else
      (g_Lin_learn_20 x1 x2 (zp_l q1 20 1 ((zo_lushr (zg_l q1 20 1) 11) * (((zg_i q1 6 (zn x1))).toInt64)))).bind fun q4 =>
      some (x2, q4)
    else none
  else
    some (x2, q1)
def g_Mdl_codeKind_k (x1 : Int32) (D : zx_D) : Option (Int32 × zx_D) :=
  ((
    if ¬ zg_i D 7 7 = 1 then
      some 1
    else
      some 0
  ) : Option (Int32)).bind fun q1 =>
  (g_Snk_codeBit ((0 + ((zg_i D 7 2) * 16)) + x1) q1 D).bind fun q2 =>
  if ¬ q2.1 = 0 then
    ((
      if ¬ zg_i q2.2 7 7 = 2 then
        some 1
      else
        some 0
    ) : Option (Int32)).bind fun q3 =>
    (g_Snk_codeBit (384 + (zg_i q2.2 7 2)) q3 q2.2).bind fun q4 =>
    if ¬ q4.1 = 0 then
      ((
        if zg_i q4.2 7 7 ≤ 4 then
          some 0
        else
          some 1
      ) : Option (Int32)).bind fun q5 =>
      (g_Snk_codeBit (396 + (zg_i q4.2 7 2)) q5 q4.2).bind fun q6 =>
      if ¬ q6.1 = 0 then
        ((
          if zg_i q6.2 7 7 ≤ 5 then
            some 0
          else
            some 1
        ) : Option (Int32)).bind fun q7 =>
        (g_Snk_codeBit (408 + (zg_i q6.2 7 2)) q7 q6.2).bind fun q8 =>
        if ¬ q8.1 = 0 then
          if zg_i q8.2 7 7 ≤ 6 then
            (g_Snk_codeBit (420 + (zg_i q8.2 7 2)) 0 q8.2).bind fun q9 =>
            some (6 + q9.1, q9.2)
          else
            (g_Snk_codeBit (420 + (zg_i q8.2 7 2)) 1 q8.2).bind fun q10 =>
            some (6 + q10.1, q10.2)
        else
          some (5, q8.2)
      else
        if ¬ zg_i q6.2 7 7 = 4 then
          (g_Snk_codeBit ((192 + ((zg_i q6.2 7 2) * 16)) + x1) 0 q6.2).bind fun q11 =>
          if ¬ q11.1 = 0 then
            some (4, q11.2)
          else
            some (3, q11.2)
        else
          (g_Snk_codeBit ((192 + ((zg_i q6.2 7 2) * 16)) + x1) 1 q6.2).bind fun q12 =>
          if ¬ q12.1 = 0 then
            some (4, q12.2)
          else
            some (3, q12.2)
    else
      some (2, q4.2)
  else
    some (1, q2.2)
def g_Mdl_bringForward_3 (x2 : Int64) : Nat → Int32 → zx_D → Option (zx_D)
  | 0, _, _ => none
  | k + 1, x4, D =>
    if x4 ≤ 0 then
      some D
    else
      if zk_in (x4 - 1) 4 = true then
      if zk_in x4 4 = true then
      g_Mdl_bringForward_3 x2 k (x4 + (-1)) (zp_l D 8 (zn x4) (zg_l D 8 (zn (x4 - 1))))
      else none
      else none
def g_Mdl_bringForward (x1 : Int32) (x2 : Int64) (D : zx_D) : Option (zx_D) :=
  (g_Mdl_bringForward_3 x2 10000 x1 D).bind fun q1 =>
  some (zp_l q1 8 (zn 0) x2)
def g_Mdl_codeTree_k_8 (x1 : Int32) (x2 : Int32) (x3 : Int32) : Nat → Int32 → Int32 → zx_D → Option (Int32 × zx_D)
  | 0, _, _, _ => none
  | k + 1, x4, x5, D =>
    if x5 < 0 then
      some (x4, D)
    else
      (g_Snk_codeBit (x1 + x4) ((zo_ushr x3 x5) &&& 1) D).bind fun q1 =>
      g_Mdl_codeTree_k_8 x1 x2 x3 k ((2 * x4) + q1.1) (x5 + (-1)) q1.2
def g_Mdl_codeTree_k (x1 : Int32) (x2 : Int32) (x3 : Int32) (D : zx_D) : Option (Int32 × zx_D) :=
  (g_Mdl_codeTree_k_8 x1 x2 x3 10000 1 (x2 - 1) D).bind fun q2 =>
  some (q2.1 - (zo_shl 1 x2), q2.2)
def g_Mdl_codeLength_k (x1 : Int32) (x2 : Int32) (D : zx_D) : Option (Int32 × zx_D) :=
  ((
    if 10 ≤ zg_i D 7 9 then
      some 1
    else
      some 0
  ) : Option (Int32)).bind fun q1 =>
  (g_Snk_codeBit x1 q1 D).bind fun q2 =>
  if ¬ q2.1 = 0 then
    ((
      if 18 ≤ zg_i q2.2 7 9 then
        some 1
      else
        some 0
    ) : Option (Int32)).bind fun q3 =>
    (g_Snk_codeBit (x1 + 1) q3 q2.2).bind fun q4 =>
    if ¬ q4.1 = 0 then
      (g_Mdl_codeTree_k (x1 + 258) 8 ((zg_i q4.2 7 9) - 18) q4.2).bind fun q5 =>
      some (18 + q5.1, q5.2)
    else
      (g_Mdl_codeTree_k ((x1 + 130) + (8 * x2)) 3 ((zg_i q4.2 7 9) - 10) q4.2).bind fun q6 =>
      some (10 + q6.1, q6.2)
  else
    (g_Mdl_codeTree_k ((x1 + 2) + (8 * x2)) 3 ((zg_i q2.2 7 9) - 2) q2.2).bind fun q7 =>
    some (2 + q7.1, q7.2)
def g_Itg_numberOfLeadingZeros (x0 : Int32) (D : zx_D) : Option (Int32) :=
  if 0 < x0 then
    ((
      if x0 < 65536 then
        some (x0, 31)
      else
        some (zo_ushr x0 16, 31 + (-16))
    ) : Option (Int32 × Int32)).bind fun q1 =>
    ((
      if q1.1 < 256 then
        some (q1.1, q1.2)
      else
        some (zo_ushr q1.1 8, q1.2 + (-8))
    ) : Option (Int32 × Int32)).bind fun q2 =>
    ((
      if q2.1 < 16 then
        some (q2.1, q2.2)
      else
        some (zo_ushr q2.1 4, q2.2 + (-4))
    ) : Option (Int32 × Int32)).bind fun q3 =>
    if q3.1 < 4 then
      some (q3.2 - (zo_ushr q3.1 1))
    else
      some ((q3.2 + (-2)) - (zo_ushr (zo_ushr q3.1 2) 1))
  else
    if ¬ x0 = 0 then
      some 0
    else
      some 32
def g_Lng_numberOfLeadingZeros (x0 : Int64) (D : zx_D) : Option (Int32) :=
  if ¬ ((zo_lushr x0 32)).toInt32 = 0 then
    (g_Itg_numberOfLeadingZeros (((zo_lushr x0 32)).toInt32) D).bind fun q1 =>
    some q1
  else
    (g_Itg_numberOfLeadingZeros ((x0).toInt32) D).bind fun q2 =>
    some (32 + q2)
def g_Mdl_slotOf (x0 : Int64) (D : zx_D) : Option (Int32) :=
  if 4 ≤ x0 - 1 then
    (g_Lng_numberOfLeadingZeros (x0 - 1) D).bind fun q1 =>
    some ((2 * (63 - q1)) + ((((zo_lushr (x0 - 1) ((63 - q1) - 1))).toInt32) &&& 1))
  else
    some (((x0 - 1)).toInt32)
def g_Snk_codeEvenBit (x1 : Int32) (D : zx_D) : Option (Int32 × zx_D) :=
  (g_Snk_shift D).bind fun q1 =>
  if zg_i q1 20 2 = 0 then
    if ¬ x1 = 1 then
      some (x1, zp_l q1 20 1 (zo_lushr (zg_l q1 20 1) 1))
    else
      (g_Snk_raise (zo_lushr (zg_l q1 20 1) 1) (zp_l q1 20 1 (zo_lushr (zg_l q1 20 1) 1))).bind fun q2 =>
      some (x1, q2)
  else
    some (x1, q1)
def g_Mdl_codeTreeBackwards_k_9 (x1 : Int32) (x2 : Int32) (x3 : Int32) : Nat → Int32 → Int32 → Int32 → zx_D → Option (Int32 × zx_D)
  | 0, _, _, _, _ => none
  | k + 1, x4, x5, x6, D =>
    if x2 ≤ x6 then
      some (x5, D)
    else
      (g_Snk_codeBit (x1 + x4) ((zo_ushr x3 x6) &&& 1) D).bind fun q1 =>
      g_Mdl_codeTreeBackwards_k_9 x1 x2 x3 k ((2 * x4) + q1.1) (x5 + (zo_shl q1.1 x6)) (x6 + 1) q1.2
def g_Mdl_codeTreeBackwards_k (x1 : Int32) (x2 : Int32) (x3 : Int32) (D : zx_D) : Option (Int32 × zx_D) :=
  (g_Mdl_codeTreeBackwards_k_9 x1 x2 x3 10000 1 0 0 D).bind fun q2 =>
  some (q2.1, q2.2)
def g_Mdl_codeDistance_k_106 (x3 : Int64) (x5 : Int64) : Nat → Int64 → Int32 → zx_D → Option (Int64 × zx_D)
  | 0, _, _, _ => none
  | k + 1, x7, x9, D =>
    if x9 < 4 then
      some (x7, D)
    else
      (g_Snk_codeEvenBit ((((zo_lushr x5 x9)).toInt32) &&& 1) D).bind fun q3 =>
      g_Mdl_codeDistance_k_106 x3 x5 k ((2 * x7) + ((q3.1).toInt64)) (x9 + (-1)) q3.2
def g_Mdl_codeDistance_k (D : zx_D) : Option (Int64 × zx_D) :=
  (g_Mdl_slotOf (zg_l D 7 10) D).bind fun q1 =>
  (g_Mdl_codeTree_k (1460 + (64 * (if 3 < (zg_i D 7 9) - 2 then 3 else (zg_i D 7 9) - 2))) 6 q1 D).bind fun q2 =>
  if 4 ≤ q2.1 then
    if 14 ≤ q2.1 then
      (g_Mdl_codeDistance_k_106 (zo_lshl (2 + (((zo_rem q2.1 2)).toInt64)) ((q2.1 / 2) - 1)) (((zg_l q2.2 7 10) - 1) - (zo_lshl (2 + (((zo_rem q2.1 2)).toInt64)) ((q2.1 / 2) - 1))) 10000 0 (((q2.1 / 2) - 1) - 1) q2.2).bind fun q4 =>
      (g_Mdl_codeTreeBackwards_k 2036 4 (((((zg_l q2.2 7 10) - 1) - (zo_lshl (2 + (((zo_rem q2.1 2)).toInt64)) ((q2.1 / 2) - 1)))).toInt32) q4.2).bind fun q5 =>
      some ((((zo_lshl (2 + (((zo_rem q2.1 2)).toInt64)) ((q2.1 / 2) - 1)) + 1) + (16 * q4.1)) + ((q5.1).toInt64), q5.2)
    else
      (g_Mdl_codeTreeBackwards_k (1716 + (32 * (q2.1 - 4))) ((q2.1 / 2) - 1) (((((zg_l q2.2 7 10) - 1) - (zo_lshl (2 + (((zo_rem q2.1 2)).toInt64)) ((q2.1 / 2) - 1)))).toInt32) q2.2).bind fun q6 =>
      some (((zo_lshl (2 + (((zo_rem q2.1 2)).toInt64)) ((q2.1 / 2) - 1)) + 1) + ((q6.1).toInt64), q6.2)
  else
    some (((q2.1 + 1)).toInt64, q2.2)
def g_Mdl_codeLiteral_k_22 (x1 : Int32) (x2 : Int32) : Nat → Int32 → Int32 → Int32 → zx_D → Option (Int32 × zx_D)
  | 0, _, _, _, _ => none
  | k + 1, x3, x4, x5, D =>
    if x5 < 0 then
      some (x4, D)
    else
      ((
        if x3 = 0 then
          some 0
        else
          some (1 + ((zo_ushr x2 x5) &&& 1))
      ) : Option (Int32)).bind fun q2 =>
      (g_Snk_codeBit ((x1 + (q2 * 256)) + x4) ((zo_ushr (zg_i D 7 8) x5) &&& 1) D).bind fun q3 =>
      if x3 = 0 then
        g_Mdl_codeLiteral_k_22 x1 x2 k 0 ((2 * x4) + q3.1) (x5 + (-1)) q3.2
      else
        if ¬ q3.1 = (zo_ushr x2 x5) &&& 1 then
          g_Mdl_codeLiteral_k_22 x1 x2 k 0 ((2 * x4) + q3.1) (x5 + (-1)) q3.2
        else
          g_Mdl_codeLiteral_k_22 x1 x2 k 1 ((2 * x4) + q3.1) (x5 + (-1)) q3.2
def g_Mdl_codeLiteral_k (x1 : Int32) (x2 : Int32) (D : zx_D) : Option (Int32 × zx_D) :=
  ((
    if zg_i D 7 2 < 7 then
      some 0
    else
      some 1
  ) : Option (Int32)).bind fun q1 =>
  (g_Mdl_codeLiteral_k_22 x1 x2 10000 q1 1 7 D).bind fun q4 =>
  some (q4.1 - 256, q4.2)
def g_Mdl_step_k (x1 : Int32) (x2 : Int32) (x3 : Int32) (D : zx_D) : Option (zx_D) :=
  (g_Mdl_codeKind_k (x1 &&& ((zo_shl 1 (zg_i D 7 5)) - 1)) D).bind fun q1 =>
  if ¬ q1.1 = 1 then
    if ¬ q1.1 = 2 then
      if ¬ q1.1 = 3 then
        if zk_in (q1.1 - 4) 4 = true then
        (g_Mdl_bringForward (q1.1 - 4) (zg_l q1.2 8 (zn (q1.1 - 4))) (zp_i q1.2 7 7 q1.1)).bind fun q2 =>
        (g_Mdl_codeLength_k 946 (x1 &&& ((zo_shl 1 (zg_i D 7 5)) - 1)) q2).bind fun q3 =>
        if 7 ≤ zg_i q3.2 7 2 then
          some (zp_i (zp_i q3.2 7 9 q3.1) 7 2 11)
        else
          some (zp_i (zp_i q3.2 7 9 q3.1) 7 2 8)
        else none
      else
        if 7 ≤ zg_i q1.2 7 2 then
          some (zp_i (zp_i (zp_i q1.2 7 7 q1.1) 7 9 1) 7 2 11)
        else
          some (zp_i (zp_i (zp_i q1.2 7 7 q1.1) 7 9 1) 7 2 9)
    else
      (g_Mdl_codeLength_k 432 (x1 &&& ((zo_shl 1 (zg_i D 7 5)) - 1)) (zp_i q1.2 7 7 q1.1)).bind fun q4 =>
      (g_Mdl_codeDistance_k (zp_i q4.2 7 9 q4.1)).bind fun q5 =>
      (g_Mdl_bringForward 3 q5.1 (zp_l q5.2 7 10 q5.1)).bind fun q6 =>
      if 7 ≤ zg_i q6 7 2 then
        some (zp_i q6 7 2 10)
      else
        some (zp_i q6 7 2 7)
  else
    (g_Mdl_codeLiteral_k (2052 + (768 * ((zo_shl (x1 &&& ((zo_shl 1 (zg_i q1.2 7 4)) - 1)) (zg_i q1.2 7 3)) + (zo_ushr x2 (8 - (zg_i q1.2 7 3)))))) x3 (zp_i q1.2 7 7 q1.1)).bind fun q7 =>
    if 4 ≤ zg_i q7.2 7 2 then
      if 10 ≤ zg_i q7.2 7 2 then
        some (zp_i (zp_i (zp_i q7.2 7 8 q7.1) 7 9 1) 7 2 ((zg_i q7.2 7 2) - 6))
      else
        some (zp_i (zp_i (zp_i q7.2 7 8 q7.1) 7 9 1) 7 2 ((zg_i q7.2 7 2) - 3))
    else
      some (zp_i (zp_i (zp_i q7.2 7 8 q7.1) 7 9 1) 7 2 0)
def g_Snk_finish (D : zx_D) : Option (zx_D) :=
  (g_Snk_shift D).bind fun q1 =>
  some q1
def g_Pkg_encode_62 (x2 : Int32) : Nat → Int32 → zx_D → Option (zx_D)
  | 0, _, _ => none
  | k + 1, x3, D =>
    if x2 ≤ x3 then
      some D
    else
      if ¬ zg_i D 20 2 = 0 then
        some D
      else
        (g_Pkg_choose x3 (if 273 < x2 - x3 then 273 else x2 - x3) D).bind fun q6 =>
        (g_Mdl_distanceOf 0 q6).bind fun q7 =>
        (g_Row_byteBack_1 x3 q7 q6).bind fun q8 =>
        (g_Row_byteBack_1 x3 1 q6).bind fun q9 =>
        (g_Mdl_step_k x3 q9 q8 q6).bind fun q10 =>
        g_Pkg_encode_62 x2 k (x3 + (if 1 < zg_i q10 7 9 then zg_i q10 7 9 else 1)) q10
def g_Pkg_encode (ln : Nat) (x1 : Int32) (x2 : Int32) (D : zx_D) : Option (Int32 × Nat × zx_D) :=
  (g_Snk_begin ((x2 - x1) - 1) D).bind fun q1 =>
  if zg_i q1 20 2 = 0 then
    ((
      if zg_i q1 17 12 = 0 then
        some q1
      else
        (g_Mdl_setProperties (zg_i q1 17 6) q1).bind fun q2 =>
        (g_Mdl_beginAnew q2).bind fun q3 =>
        some q3
    ) : Option (zx_D)).bind fun q4 =>
    (g_Mdl_useLine_20 q4).bind fun q5 =>
    (g_Pkg_encode_62 x2 10000 x1 q4).bind fun q11 =>
    (g_Snk_finish q11).bind fun q12 =>
    if ¬ zg_i q12 20 2 = 0 then
      some (0, 20, q12)
    else
      some (1, 20, q12)
  else
    some (0, ln, q1)
def g_Pkg_appendTwo (x1 : Int32) (D : zx_D) : Option (zx_D) :=
  (g_Row_append_18 (zo_ushr x1 8) D).bind fun q1 =>
  (g_Row_append_18 (x1 &&& 255) q1).bind fun q2 =>
  some q2
def g_Row_appendAll_18_2_3 (x2 : Int32) (x3 : Int32) : Nat → Int32 → zx_D → Option (zx_D)
  | 0, _, _ => none
  | k + 1, x4, D =>
    if x2 + x3 ≤ x4 then
      some D
    else
      if zk_in x4 400 = true then
      (g_Row_append_18 (zg_i D 2 (zn x4)) D).bind fun q1 =>
      g_Row_appendAll_18_2_3 x2 x3 k (x4 + 1) q1
      else none
def g_Row_appendAll_18_2 (x2 : Int32) (x3 : Int32) (D : zx_D) : Option (zx_D) :=
  (g_Row_appendAll_18_2_3 x2 x3 10000 x2 D).bind fun q2 =>
  some q2
def g_Pkg_writePlain (x1 : Int32) (x2 : Int32) (D : zx_D) : Option (zx_D) :=
  ((
    if zg_i D 17 10 = 0 then
      some 2
    else
      some 1
  ) : Option (Int32)).bind fun q1 =>
  (g_Row_append_18 q1 D).bind fun q2 =>
  (g_Pkg_appendTwo (x2 - 1) q2).bind fun q3 =>
  (g_Row_appendAll_18_2 x1 x2 q3).bind fun q4 =>
  some (zp_i q4 17 12 1)
def g_Row_appendAll_18_21_3 (x2 : Int32) (x3 : Int32) : Nat → Int32 → zx_D → Option (zx_D)
  | 0, _, _ => none
  | k + 1, x4, D =>
    if x2 + x3 ≤ x4 then
      some D
    else
      if zk_in x4 400 = true then
      (g_Row_append_18 (zg_i D 21 (zn x4)) D).bind fun q1 =>
      g_Row_appendAll_18_21_3 x2 x3 k (x4 + 1) q1
      else none
def g_Row_appendAll_18_21 (x2 : Int32) (x3 : Int32) (D : zx_D) : Option (zx_D) :=
  (g_Row_appendAll_18_21_3 x2 x3 10000 x2 D).bind fun q2 =>
  some q2
def g_Pkg_writeCoded (x1 : Int32) (D : zx_D) : Option (zx_D) :=
  ((
    if zg_i D 17 10 = 0 then
      if zg_i D 17 11 = 0 then
        if zg_i D 17 12 = 0 then
          some 128
        else
          some 160
      else
        some 192
    else
      some 224
  ) : Option (Int32)).bind fun q1 =>
  (g_Row_append_18 q1 D).bind fun q2 =>
  (g_Pkg_appendTwo (x1 - 1) q2).bind fun q3 =>
  (g_Pkg_appendTwo ((zg_i q3 20 4) - 1) q3).bind fun q4 =>
  ((
    if q1 < 192 then
      some q4
    else
      (g_Row_append_18 (zg_i q4 17 6) q4).bind fun q5 =>
      some q5
  ) : Option (zx_D)).bind fun q6 =>
  (g_Row_appendAll_18_21 0 (zg_i q6 20 4) q6).bind fun q7 =>
  some (zp_i (zp_i q7 17 11 0) 17 12 0)
def g_Pkg_writePiece (ln : Nat) (x1 : Int32) (x2 : Int32) (D : zx_D) : Option (Nat × zx_D) :=
  if zg_i D 18 2 = 0 then
    (g_Pkg_encode ln x1 x2 D).bind fun q1 =>
    if q1.1 = 0 then
      (g_Pkg_writePlain x1 (x2 - x1) q1.2.2).bind fun q2 =>
      some (q1.2.1, zp_i q2 17 10 0)
    else
      (g_Pkg_writeCoded (x2 - x1) q1.2.2).bind fun q3 =>
      some (q1.2.1, zp_i q3 17 10 0)
  else
    some (ln, D)
def g_P_checkSize (x0 : Int32) (D : zx_D) : Option (Int32) :=
  if ¬ x0 = 4 then
    if ¬ x0 = 1 then
      some 0
    else
      some 4
  else
    some 8
def g_Pkg_fillUp_2 (x1 : Int32) : Nat → Int32 → zx_D → Option (zx_D)
  | 0, _, _ => none
  | k + 1, x2, D =>
    if 3 ≤ x2 then
      some D
    else
      if zo_rem ((zg_i D 18 1) - x1) 4 = 0 then
        some D
      else
        (g_Row_append_18 0 D).bind fun q1 =>
        g_Pkg_fillUp_2 x1 k (x2 + 1) q1
def g_Pkg_fillUp (x1 : Int32) (D : zx_D) : Option (zx_D) :=
  (g_Pkg_fillUp_2 x1 10000 0 D).bind fun q2 =>
  some q2
def g_Pkg_closeBlock (D : zx_D) : Option (zx_D) :=
  (g_Row_append_18 0 D).bind fun q1 =>
  (g_P_checkSize (zg_i q1 17 5) q1).bind fun q2 =>
  (g_Pkg_fillUp (zg_i q1 17 7) (zp_l q1 17 8 (((((zg_i q1 18 1) - (zg_i q1 17 7)) + q2)).toInt64))).bind fun q3 =>
  if ¬ zg_i q3 17 5 = 1 then
    if ¬ zg_i q3 17 5 = 4 then
      some q3
    else
      (g_P_sumEight_2 0 (zg_i q3 1 1) q3).bind fun q4 =>
      (g_Row_appendLowFirst_18 q4 8 q3).bind fun q5 =>
      some q5
  else
    (g_P_sumFour_2 0 (zg_i q3 1 1) q3).bind fun q6 =>
    (g_Row_appendLowFirst_18 q6 4 q3).bind fun q7 =>
    some q7
def g_Pkg_appendNumber_5 : Nat → Int64 → Int32 → zx_D → Option (Int64 × zx_D)
  | 0, _, _, _ => none
  | k + 1, x3, x5, D =>
    if 8 ≤ x5 then
      some (x3, D)
    else
      if x3 < 128 then
        some (x3, D)
      else
        (g_Row_append_18 ((((x3 &&& 127)).toInt32) + 128) D).bind fun q1 =>
        g_Pkg_appendNumber_5 k (zo_lushr x3 7) (x5 + 1) q1
def g_Pkg_appendNumber (x1 : Int64) (D : zx_D) : Option (zx_D) :=
  (g_Pkg_appendNumber_5 10000 x1 0 D).bind fun q2 =>
  (g_Row_append_18 ((q2.1).toInt32) q2.2).bind fun q3 =>
  some q3
def g_Pkg_writeIndex (D : zx_D) : Option (zx_D) :=
  (g_Row_append_18 0 D).bind fun q1 =>
  ((
    if zg_i q1 1 1 ≤ 0 then
      (g_Pkg_appendNumber 0 q1).bind fun q2 =>
      some q2
    else
      (g_Pkg_appendNumber 1 q1).bind fun q3 =>
      (g_Pkg_appendNumber (zg_l q3 17 8) q3).bind fun q4 =>
      (g_Pkg_appendNumber (((zg_i q4 1 1)).toInt64) q4).bind fun q5 =>
      some q5
  ) : Option (zx_D)).bind fun q6 =>
  (g_Pkg_fillUp (zg_i D 18 1) q6).bind fun q7 =>
  (g_P_sumFour_19 (zg_i D 18 1) (zg_i q7 18 1) q7).bind fun q8 =>
  (g_Row_appendLowFirst_18 q8 4 q7).bind fun q9 =>
  some (zp_i q9 17 9 ((zg_i q9 18 1) - (zg_i D 18 1)))
def g_P_sumBy_22_25 (x2 : Int32) (x3 : Int64) (x5 : Int64) (x9 : Int32) (D : zx_D) : Nat → Int64 → Int32 → Option (Int64)
  | 0, _, _ => none
  | k + 1, x7, x10 =>
    if 8 ≤ x10 then
      some x7
    else
      if ¬ x7 &&& 1 = 1 then
        g_P_sumBy_22_25 x2 x3 x5 x9 D k (zo_lushr x7 1) (x10 + 1)
      else
        g_P_sumBy_22_25 x2 x3 x5 x9 D k ((zo_lushr x7 1) ^^^ x5) (x10 + 1)
def g_P_sumBy_22_6 (x2 : Int32) (x3 : Int64) (x5 : Int64) (D : zx_D) : Nat → Int64 → Int32 → Option (Int64)
  | 0, _, _ => none
  | k + 1, x7, x9 =>
    if x2 ≤ x9 then
      some x7
    else
      if zk_in x9 6 = true then
      (g_P_sumBy_22_25 x2 x3 x5 x9 D 10000 (x7 ^^^ (((zg_i D 22 (zn x9))).toInt64)) 0).bind fun q1 =>
      g_P_sumBy_22_6 x2 x3 x5 D k q1 (x9 + 1)
      else none
def g_P_sumBy_22 (x1 : Int32) (x2 : Int32) (x3 : Int64) (x5 : Int64) (D : zx_D) : Option (Int64) :=
  (g_P_sumBy_22_6 x2 x3 x5 D 10000 x3 x1).bind fun q2 =>
  some (q2 ^^^ x3)
def g_P_sumFour_22 (x1 : Int32) (x2 : Int32) (D : zx_D) : Option (Int64) :=
  (g_P_sumBy_22 x1 x2 4294967295 3988292384 D).bind fun q1 =>
  some q1
def g_Row_appendAll_18_22_3 (x2 : Int32) (x3 : Int32) : Nat → Int32 → zx_D → Option (zx_D)
  | 0, _, _ => none
  | k + 1, x4, D =>
    if x2 + x3 ≤ x4 then
      some D
    else
      if zk_in x4 6 = true then
      (g_Row_append_18 (zg_i D 22 (zn x4)) D).bind fun q1 =>
      g_Row_appendAll_18_22_3 x2 x3 k (x4 + 1) q1
      else none
def g_Row_appendAll_18_22 (x2 : Int32) (x3 : Int32) (D : zx_D) : Option (zx_D) :=
  (g_Row_appendAll_18_22_3 x2 x3 10000 x2 D).bind fun q2 =>
  some q2
def g_Pkg_writeEnd (D : zx_D) : Option (zx_D) :=
  (g_P_sumFour_22 0 6 (zp_i (zp_i D 22 (zn 0) (((zg_i D 17 9) / 4) - 1)) 22 (zn 5) (zg_i D 17 5))).bind fun q1 =>
  (g_Row_appendLowFirst_18 q1 4 (zp_i (zp_i D 22 (zn 0) (((zg_i D 17 9) / 4) - 1)) 22 (zn 5) (zg_i D 17 5))).bind fun q2 =>
  (g_Row_appendAll_18_22 0 6 q2).bind fun q3 =>
  (g_Row_append_18 89 q3).bind fun q4 =>
  (g_Row_append_18 90 q4).bind fun q5 =>
  some q5
def g_Row_become_3_18 (D : zx_D) : Option (zx_D) :=
  if ¬ 0 < (0 : Int32) ∧ ¬ 0 < (0 : Int32) ∧ ¬ (if 640 < zg_i D 18 1 then 640 else zg_i D 18 1) < (0 : Int32) ∧ zn 0 + zn (if 640 < zg_i D 18 1 then 640 else zg_i D 18 1) ≤ 640 ∧ zn 0 + zn (if 640 < zg_i D 18 1 then 640 else zg_i D 18 1) ≤ 640 then
  some (zp_a (zp_i D 3 1 (if 640 < zg_i D 18 1 then 640 else zg_i D 18 1)) 4 (va_cpy (((zp_i D 3 1 (if 640 < zg_i D 18 1 then 640 else zg_i D 18 1))).1 19) (((zp_i D 3 1 (if 640 < zg_i D 18 1 then 640 else zg_i D 18 1))).1 4) (zn 0) (zn 0) (zn (if 640 < zg_i D 18 1 then 640 else zg_i D 18 1))))
  else none
def g_P_pack_62 (x3 : Int32) : Nat → Int32 → Nat → zx_D → Option (Nat × zx_D)
  | 0, _, _, _ => none
  | k + 1, x4, r2, D =>
    if zg_i D 1 1 ≤ x4 then
      some (r2, D)
    else
      (g_Pkg_writePiece r2 x4 (if zg_i D 1 1 < x4 + x3 then zg_i D 1 1 else x4 + x3) D).bind fun q5 =>
      g_P_pack_62 x3 k (x4 + x3) q5.1 q5.2
def g_P_pack (ln : Nat) (pp : Nat) (x1 : Int32) (x2 : Int32) (x3 : Int32) (D : zx_D) : Option (Int32 × Nat × Nat × zx_D) :=
  (g_P_isSort x1 D).bind fun q1 =>
  if q1 = 0 then
    some (-3, ln, pp, D)
  else
    (g_P_areProperties x2 D).bind fun q2 =>
    if q2 = 0 then
      some (-3, ln, pp, D)
    else
      if x3 < 1 then
        some (-3, ln, pp, D)
      else
        if x3 ≤ 400 then
          (g_Pkg_begin_1 x1 x2 D).bind fun q3 =>
          ((
            if zg_i q3 1 1 ≤ 0 then
              some (ln, q3)
            else
              (g_Pkg_writeHead q3).bind fun q4 =>
              (g_P_pack_62 x3 10000 0 ln q4).bind fun q6 =>
              (g_Pkg_closeBlock q6.2).bind fun q7 =>
              some (q6.1, q7)
          ) : Option (Nat × zx_D)).bind fun q8 =>
          (g_Pkg_writeIndex q8.2).bind fun q9 =>
          (g_Pkg_writeEnd q9).bind fun q10 =>
          if zg_i q10 18 2 = 0 then
            (g_Row_become_3_18 q10).bind fun q11 =>
            some (zg_i q11 3 1, q8.1, 1, q11)
          else
            some (-5, q8.1, 1, q10)
        else
          some (-3, ln, pp, D)
def g_Cur_begin_3 (D : zx_D) : Option (zx_D) :=
  some (zp_i (zp_i (zp_i (zp_i (zp_i D 12 1 (zg_i D 3 1)) 12 2 (zg_i D 3 1)) 12 3 0) 12 4 0) 12 5 (-1))
def g_Row_clear_10 (D : zx_D) : Option (zx_D) :=
  some (zp_i (zp_i D 10 1 0) 10 2 0)
def g_Arr_fill2_14_5 (x1 : Int32) (x3 : Int32) : Nat → Int32 → zx_D → Option (zx_D)
  | 0, _, _ => none
  | k + 1, x2, D =>
    if x3 ≤ x2 then
      some D
    else
      if zk_in x2 11 = true then
      g_Arr_fill2_14_5 x1 x3 k (x2 + 1) (zp_i D 14 (zn x2) x1)
      else none
def g_Arr_fill2_14 (x1 : Int32) (D : zx_D) : Option (zx_D) :=
  (g_Arr_fill2_14_5 x1 11 10000 0 D).bind fun q1 =>
  some q1
def g_Src_forget (D : zx_D) : Option (zx_D) :=
  some (zp_l (zp_l (zp_i D 5 8 0) 5 10 (-1)) 5 11 (-1))
def g_Unp_begin_3 (D : zx_D) : Option (zx_D) :=
  (g_Cur_begin_3 D).bind fun q1 =>
  (g_Row_clear_10 q1).bind fun q2 =>
  (g_Arr_fill2_14 0 q2).bind fun q3 =>
  (g_Src_forget q3).bind fun q4 =>
  some q4
def g_Cur_fail (x1 : Int32) (x2 : Int32) (D : zx_D) : Option (zx_D) :=
  if ¬ zg_i D 12 4 = 0 then
    some D
  else
    some (zp_i (zp_i D 12 4 x1) 12 5 x2)
def g_Cur_has (x1 : Int32) (D : zx_D) : Option (Int32 × zx_D) :=
  if ¬ zg_i D 12 4 = 0 then
    some (0, D)
  else
    if x1 ≤ (zg_i D 12 2) - (zg_i D 12 3) then
      some (1, D)
    else
      ((
        if ¬ zg_i D 12 2 = zg_i D 12 1 then
          some (-3)
        else
          some (-2)
      ) : Option (Int32)).bind fun q1 =>
      (g_Cur_fail q1 (zg_i D 12 3) D).bind fun q2 =>
      if ¬ zg_i q2 12 4 = 0 then
        some (0, q2)
      else
        some (1, q2)
def g_P_sumBy_4_25 (x2 : Int32) (x3 : Int64) (x5 : Int64) (x9 : Int32) (D : zx_D) : Nat → Int64 → Int32 → Option (Int64)
  | 0, _, _ => none
  | k + 1, x7, x10 =>
    if 8 ≤ x10 then
      some x7
    else
      if ¬ x7 &&& 1 = 1 then
        g_P_sumBy_4_25 x2 x3 x5 x9 D k (zo_lushr x7 1) (x10 + 1)
      else
        g_P_sumBy_4_25 x2 x3 x5 x9 D k ((zo_lushr x7 1) ^^^ x5) (x10 + 1)
def g_P_sumBy_4_6 (x2 : Int32) (x3 : Int64) (x5 : Int64) (D : zx_D) : Nat → Int64 → Int32 → Option (Int64)
  | 0, _, _ => none
  | k + 1, x7, x9 =>
    if x2 ≤ x9 then
      some x7
    else
      if zk_in x9 640 = true then
      (g_P_sumBy_4_25 x2 x3 x5 x9 D 10000 (x7 ^^^ (((zg_i D 4 (zn x9))).toInt64)) 0).bind fun q1 =>
      g_P_sumBy_4_6 x2 x3 x5 D k q1 (x9 + 1)
      else none
def g_P_sumBy_4 (x1 : Int32) (x2 : Int32) (x3 : Int64) (x5 : Int64) (D : zx_D) : Option (Int64) :=
  (g_P_sumBy_4_6 x2 x3 x5 D 10000 x3 x1).bind fun q2 =>
  some (q2 ^^^ x3)
def g_P_sumFour_4 (x1 : Int32) (x2 : Int32) (D : zx_D) : Option (Int64) :=
  (g_P_sumBy_4 x1 x2 4294967295 3988292384 D).bind fun q1 =>
  some q1
def g_Cur_lowFirst_7 (x1 : Int32) (D : zx_D) : Nat → Int64 → Int32 → Option (Int64)
  | 0, _, _ => none
  | k + 1, x3, x5 =>
    if x5 < 0 then
      some x3
    else
      if zk_in (x1 + x5) 640 = true then
      g_Cur_lowFirst_7 x1 D k ((zo_lshl x3 8) + (((zg_i D 4 (zn (x1 + x5)))).toInt64)) (x5 + (-1))
      else none
def g_Cur_lowFirst (x1 : Int32) (x2 : Int32) (D : zx_D) : Option (Int64) :=
  (g_Cur_lowFirst_7 x1 D 10000 0 (x2 - 1)).bind fun q1 =>
  some q1
def g_Cur_expectSum (x1 : Int32) (x2 : Int64) (D : zx_D) : Option (zx_D) :=
  (g_Cur_has x1 D).bind fun q1 =>
  if ¬ q1.1 = 0 then
    (g_Cur_lowFirst (zg_i q1.2 12 3) x1 q1.2).bind fun q2 =>
    if q2 = x2 then
      some (zp_i q1.2 12 3 ((zg_i q1.2 12 3) + x1))
    else
      (g_Cur_fail (-4) (zg_i q1.2 12 3) q1.2).bind fun q3 =>
      some q3
  else
    some q1.2
def g_Unp_readStart_17 : Nat → Int32 → zx_D → Option (zx_D)
  | 0, _, _ => none
  | k + 1, x1, D =>
    if 6 ≤ x1 then
      (g_Cur_has 2 (zp_i D 12 3 6)).bind fun q2 =>
      if ¬ q2.1 = 0 then
        if ¬ zg_i q2.2 4 (zn 6) = 0 then
          (g_Cur_fail (-3) 6 (zp_i q2.2 9 7 (zg_i q2.2 4 (zn 7)))).bind fun q3 =>
          some q3
        else
          (g_P_isSort (zg_i q2.2 4 (zn 7)) (zp_i q2.2 9 7 (zg_i q2.2 4 (zn 7)))).bind fun q4 =>
          if ¬ q4 = 0 then
            (g_P_sumFour_4 6 8 (zp_i (zp_i q2.2 9 7 (zg_i q2.2 4 (zn 7))) 12 3 ((zg_i q2.2 12 3) + 2))).bind fun q5 =>
            (g_Cur_expectSum 4 q5 (zp_i (zp_i q2.2 9 7 (zg_i q2.2 4 (zn 7))) 12 3 ((zg_i q2.2 12 3) + 2))).bind fun q6 =>
            some q6
          else
            (g_Cur_fail (-3) 6 (zp_i q2.2 9 7 (zg_i q2.2 4 (zn 7)))).bind fun q7 =>
            some q7
      else
        some q2.2
    else
      if zk_in x1 640 = true then
      if zk_in x1 6 = true then
      if zg_i D 4 (zn x1) = ro_f (zn x1) then
        g_Unp_readStart_17 k (x1 + 1) D
      else
        (g_Cur_fail (-3) 0 D).bind fun q8 =>
        some q8
      else none
      else none
def g_Unp_readStart (D : zx_D) : Option (zx_D) :=
  (g_Cur_has 6 D).bind fun q1 =>
  if ¬ q1.1 = 0 then
    g_Unp_readStart_17 10000 0 q1.2
  else
    some q1.2
def g_Unp_comesBlock (D : zx_D) : Option (Int32 × zx_D) :=
  (g_Cur_has 1 D).bind fun q1 =>
  if q1.1 = 0 then
    some (0, q1.2)
  else
    if zk_in (zg_i q1.2 12 3) 640 = true then
    if zg_i q1.2 4 (zn (zg_i q1.2 12 3)) = 0 then
      some (0, q1.2)
    else
      some (1, q1.2)
    else none
def g_Cur_narrow (x1 : Int32) (D : zx_D) : Option (zx_D) :=
  some (zp_i D 12 2 (if zg_i D 12 1 < x1 then zg_i D 12 1 else x1))
def g_Cur_readNumber_4 : Nat → Int64 → Int32 → zx_D → Option (Int64 × zx_D)
  | 0, _, _, _ => none
  | k + 1, x1, x3, D =>
    if 9 ≤ x3 then
      (g_Cur_fail (-3) (zg_i D 12 3) D).bind fun q1 =>
      some (-1, q1)
    else
      (g_Cur_has (x3 + 1) D).bind fun q2 =>
      if q2.1 = 0 then
        (g_Cur_fail (-3) (zg_i q2.2 12 3) q2.2).bind fun q3 =>
        some (-1, q3)
      else
        if zk_in ((zg_i q2.2 12 3) + x3) 640 = true then
        if ¬ zg_i q2.2 4 (zn ((zg_i q2.2 12 3) + x3)) = 0 then
          if 128 ≤ zg_i q2.2 4 (zn ((zg_i q2.2 12 3) + x3)) then
            g_Cur_readNumber_4 k (x1 ||| (zo_lshl ((((zg_i q2.2 4 (zn ((zg_i q2.2 12 3) + x3))) &&& 127)).toInt64) (7 * x3))) (x3 + 1) q2.2
          else
            some (x1 ||| (zo_lshl ((((zg_i q2.2 4 (zn ((zg_i q2.2 12 3) + x3))) &&& 127)).toInt64) (7 * x3)), zp_i q2.2 12 3 ((zg_i q2.2 12 3) + (x3 + 1)))
        else
          if x3 ≤ 0 then
            if 128 ≤ zg_i q2.2 4 (zn ((zg_i q2.2 12 3) + x3)) then
              g_Cur_readNumber_4 k (x1 ||| (zo_lshl ((((zg_i q2.2 4 (zn ((zg_i q2.2 12 3) + x3))) &&& 127)).toInt64) (7 * x3))) (x3 + 1) q2.2
            else
              some (x1 ||| (zo_lshl ((((zg_i q2.2 4 (zn ((zg_i q2.2 12 3) + x3))) &&& 127)).toInt64) (7 * x3)), zp_i q2.2 12 3 ((zg_i q2.2 12 3) + (x3 + 1)))
          else
            (g_Cur_fail (-3) (zg_i q2.2 12 3) q2.2).bind fun q4 =>
            some (-1, q4)
        else none
def g_Cur_readNumber (D : zx_D) : Option (Int64 × zx_D) :=
  g_Cur_readNumber_4 10000 0 0 D
def g_Unp_readHeadNumbers (D : zx_D) : Option (zx_D) :=
  (g_Cur_has 1 (zp_l (zp_l D 9 10 (-1)) 9 11 (-1))).bind fun q1 =>
  ((
    if q1.1 = 0 then
      some 0
    else
      if zk_in (zg_i q1.2 12 3) 640 = true then
      some (zg_i q1.2 4 (zn (zg_i q1.2 12 3)))
      else none
  ) : Option (Int32)).bind fun q2 =>
  if zo_rem q2 64 = 0 then
    ((
      if q2 &&& 64 = 0 then
        some (zp_i q1.2 12 3 ((zg_i q1.2 12 3) + 1))
      else
        (g_Cur_readNumber (zp_i q1.2 12 3 ((zg_i q1.2 12 3) + 1))).bind fun q3 =>
        some (zp_l q3.2 9 10 q3.1)
    ) : Option (zx_D)).bind fun q4 =>
    ((
      if ¬ zg_l q4 9 10 = 0 then
        some q4
      else
        (g_Cur_fail (-3) ((zg_i q1.2 12 3) + 1) q4).bind fun q5 =>
        some q5
    ) : Option (zx_D)).bind fun q6 =>
    if q2 &&& 128 = 0 then
      some q6
    else
      (g_Cur_readNumber q6).bind fun q7 =>
      some (zp_l q7.2 9 11 q7.1)
  else
    (g_Cur_fail (-3) (zg_i q1.2 12 3) q1.2).bind fun q8 =>
    some q8
def g_Cur_expectWithin (x1 : Int32) (x2 : Int32) (D : zx_D) : Option (zx_D) :=
  (g_Cur_has 1 D).bind fun q1 =>
  if ¬ q1.1 = 0 then
    if zk_in (zg_i q1.2 12 3) 640 = true then
    if zg_i q1.2 4 (zn (zg_i q1.2 12 3)) < x1 then
      (g_Cur_fail (-3) (zg_i q1.2 12 3) q1.2).bind fun q2 =>
      some q2
    else
      if zk_in (zg_i q1.2 12 3) 640 = true then
      if zg_i q1.2 4 (zn (zg_i q1.2 12 3)) ≤ x2 then
        some (zp_i q1.2 12 3 ((zg_i q1.2 12 3) + 1))
      else
        (g_Cur_fail (-3) (zg_i q1.2 12 3) q1.2).bind fun q3 =>
        some q3
      else none
    else none
  else
    some q1.2
def g_Cur_expectByte (x1 : Int32) (D : zx_D) : Option (zx_D) :=
  (g_Cur_expectWithin x1 x1 D).bind fun q1 =>
  some q1
def g_Cur_widen (D : zx_D) : Option (zx_D) :=
  some (zp_i D 12 2 (zg_i D 12 1))
def g_Unp_readHead_137 (x2 : Int32) : Nat → Int32 → zx_D → Option (zx_D)
  | 0, _, _ => none
  | k + 1, x3, D =>
    if x2 ≤ x3 then
      some D
    else
      (g_Cur_expectByte 0 D).bind fun q9 =>
      g_Unp_readHead_137 x2 k (x3 + 1) q9
def g_Unp_readHead (D : zx_D) : Option (zx_D) :=
  if zk_in (zg_i D 9 8) 640 = true then
  (g_Cur_has (4 * ((zg_i D 4 (zn (zg_i D 9 8))) + 1)) D).bind fun q1 =>
  if ¬ q1.1 = 0 then
    (g_Cur_lowFirst (((zg_i q1.2 9 8) + (4 * ((zg_i D 4 (zn (zg_i D 9 8))) + 1))) - 4) 4 q1.2).bind fun q2 =>
    (g_P_sumFour_4 (zg_i q1.2 9 8) (((zg_i q1.2 9 8) + (4 * ((zg_i D 4 (zn (zg_i D 9 8))) + 1))) - 4) q1.2).bind fun q3 =>
    if q2 = q3 then
      (g_Cur_narrow (((zg_i q1.2 9 8) + (4 * ((zg_i D 4 (zn (zg_i D 9 8))) + 1))) - 4) q1.2).bind fun q4 =>
      (g_Unp_readHeadNumbers (zp_i q4 12 3 ((zg_i q4 12 3) + 1))).bind fun q5 =>
      (g_Cur_expectByte 33 q5).bind fun q6 =>
      (g_Cur_expectByte 1 q6).bind fun q7 =>
      (g_Cur_expectWithin 0 40 q7).bind fun q8 =>
      (g_Unp_readHead_137 (((zg_i q1.2 9 8) + (4 * ((zg_i D 4 (zn (zg_i D 9 8))) + 1))) - 4) 10000 (zg_i q8 12 3) q8).bind fun q10 =>
      (g_Cur_widen q10).bind fun q11 =>
      some (zp_i q11 12 3 ((((zg_i q1.2 9 8) + (4 * ((zg_i D 4 (zn (zg_i D 9 8))) + 1))) - 4) + 4))
    else
      (g_Cur_fail (-4) (((zg_i q1.2 9 8) + (4 * ((zg_i D 4 (zn (zg_i D 9 8))) + 1))) - 4) q1.2).bind fun q12 =>
      some q12
  else
    some q1.2
  else none
def g_Cur_isSound (D : zx_D) : Option (Int32) :=
  if ¬ zg_i D 12 4 = 0 then
    some 0
  else
    some 1
def g_Cur_expectFilling_2 (x1 : Int32) : Nat → Int32 → zx_D → Option (zx_D)
  | 0, _, _ => none
  | k + 1, x2, D =>
    if 3 ≤ x2 then
      some D
    else
      if zo_rem ((zg_i D 12 3) - x1) 4 = 0 then
        some D
      else
        (g_Cur_expectByte 0 D).bind fun q1 =>
        g_Cur_expectFilling_2 x1 k (x2 + 1) q1
def g_Cur_expectFilling (x1 : Int32) (D : zx_D) : Option (zx_D) :=
  (g_Cur_expectFilling_2 x1 10000 0 D).bind fun q2 =>
  some q2
def g_P_sumBy_11_25 (x2 : Int32) (x3 : Int64) (x5 : Int64) (x9 : Int32) (D : zx_D) : Nat → Int64 → Int32 → Option (Int64)
  | 0, _, _ => none
  | k + 1, x7, x10 =>
    if 8 ≤ x10 then
      some x7
    else
      if ¬ x7 &&& 1 = 1 then
        g_P_sumBy_11_25 x2 x3 x5 x9 D k (zo_lushr x7 1) (x10 + 1)
      else
        g_P_sumBy_11_25 x2 x3 x5 x9 D k ((zo_lushr x7 1) ^^^ x5) (x10 + 1)
def g_P_sumBy_11_6 (x2 : Int32) (x3 : Int64) (x5 : Int64) (D : zx_D) : Nat → Int64 → Int32 → Option (Int64)
  | 0, _, _ => none
  | k + 1, x7, x9 =>
    if x2 ≤ x9 then
      some x7
    else
      if zk_in x9 400 = true then
      (g_P_sumBy_11_25 x2 x3 x5 x9 D 10000 (x7 ^^^ (((zg_i D 11 (zn x9))).toInt64)) 0).bind fun q1 =>
      g_P_sumBy_11_6 x2 x3 x5 D k q1 (x9 + 1)
      else none
def g_P_sumBy_11 (x1 : Int32) (x2 : Int32) (x3 : Int64) (x5 : Int64) (D : zx_D) : Option (Int64) :=
  (g_P_sumBy_11_6 x2 x3 x5 D 10000 x3 x1).bind fun q2 =>
  some (q2 ^^^ x3)
def g_P_sumEight_11 (x1 : Int32) (x2 : Int32) (D : zx_D) : Option (Int64) :=
  (g_P_sumBy_11 x1 x2 (-1) (-3932672073523589310) D).bind fun q1 =>
  some q1
def g_P_sumFour_11 (x1 : Int32) (x2 : Int32) (D : zx_D) : Option (Int64) :=
  (g_P_sumBy_11 x1 x2 4294967295 3988292384 D).bind fun q1 =>
  some q1
def g_Unp_closeBlock_90 (x3 : Int32) (D : zx_D) : Option (zx_D) :=
  (g_P_checkSize (zg_i D 9 7) D).bind fun q2 =>
  (g_Cur_expectFilling (zg_i D 9 8) D).bind fun q3 =>
  ((
    if ¬ zg_i q3 9 7 = 1 then
      if ¬ zg_i q3 9 7 = 4 then
        some q3
      else
        (g_P_sumEight_11 (zg_i q3 9 9) (zg_i q3 10 1) q3).bind fun q4 =>
        (g_Cur_expectSum 8 q4 q3).bind fun q5 =>
        some q5
    else
      (g_P_sumFour_11 (zg_i q3 9 9) (zg_i q3 10 1) q3).bind fun q6 =>
      (g_Cur_expectSum 4 q6 q3).bind fun q7 =>
      some q7
  ) : Option (zx_D)).bind fun q8 =>
  (g_Cur_isSound q8).bind fun q9 =>
  if q9 = 0 then
    some q8
  else
    if 40 ≤ zg_i q8 14 (zn 10) then
      some q8
    else
      if zk_in (zg_i q8 14 (zn 10)) 40 = true then
      if zk_in (zg_i q8 14 (zn 10)) 40 = true then
      some (zp_i (zp_l (zp_l q8 15 (zn (zg_i q8 14 (zn 10))) (((((zg_i D 12 3) - (zg_i D 9 8)) + q2)).toInt64)) 16 (zn (zg_i q8 14 (zn 10))) ((x3).toInt64)) 14 (zn 10) ((zg_i q8 14 (zn 10)) + 1))
      else none
      else none
def g_Unp_closeBlock_55 (x3 : Int32) (D : zx_D) : Option (zx_D) :=
  if zg_l D 9 11 = -1 then
    g_Unp_closeBlock_90 x3 D
  else
    if zg_l D 9 11 = (x3).toInt64 then
      g_Unp_closeBlock_90 x3 D
    else
      (g_Cur_fail (-6) (zg_i D 9 8) D).bind fun q10 =>
      some q10
def g_Unp_closeBlock (x1 : Int32) (D : zx_D) : Option (zx_D) :=
  (g_Cur_isSound D).bind fun q1 =>
  if ¬ q1 = 0 then
    if zg_l D 9 10 = -1 then
      g_Unp_closeBlock_55 ((zg_i D 10 1) - (zg_i D 9 9)) D
    else
      if ¬ zg_l D 9 10 = (((zg_i D 12 3) - x1)).toInt64 then
        (g_Cur_fail (-6) (zg_i D 9 8) D).bind fun q11 =>
        some q11
      else
        g_Unp_closeBlock_55 ((zg_i D 10 1) - (zg_i D 9 9)) D
  else
    some D
def g_Unp_empties (D : zx_D) : Option (Int32) :=
  if zg_i D 9 15 = 1 then
    some 1
  else
    if zg_i D 9 15 < 224 then
      some 0
    else
      some 1
def g_Unp_isAllowed_43 (D : zx_D) : Option (Int32) :=
  if zg_i D 9 15 < 128 then
    some 1
  else
    if 192 ≤ zg_i D 9 15 then
      some 1
    else
      if ¬ zg_i D 9 14 = 0 then
        some 0
      else
        some 1
def g_Unp_isAllowed_27 (D : zx_D) : Option (Int32) :=
  if zg_i D 9 13 = 0 then
    g_Unp_isAllowed_43 D
  else
    (g_Unp_empties D).bind fun q1 =>
    if ¬ q1 = 0 then
      g_Unp_isAllowed_43 D
    else
      some 0
def g_Unp_isAllowed (D : zx_D) : Option (Int32) :=
  if ¬ zg_i D 9 15 = 0 then
    if zg_i D 9 15 ≤ 2 then
      g_Unp_isAllowed_27 D
    else
      if zg_i D 9 15 < 128 then
        some 0
      else
        g_Unp_isAllowed_27 D
  else
    some 1
def g_Cur_readTwo (D : zx_D) : Option (Int32 × zx_D) :=
  (g_Cur_has 2 D).bind fun q1 =>
  if ¬ q1.1 = 0 then
    if zk_in (((zg_i q1.2 12 3) + 2) - 2) 640 = true then
    if zk_in (((zg_i q1.2 12 3) + 2) - 1) 640 = true then
    some (((zg_i q1.2 4 (zn (((zg_i q1.2 12 3) + 2) - 2))) * 256) + (zg_i q1.2 4 (zn (((zg_i q1.2 12 3) + 2) - 1))), zp_i q1.2 12 3 ((zg_i q1.2 12 3) + 2))
    else none
    else none
  else
    some (0, q1.2)
def g_Unp_readProperties_87 (D : zx_D) : Option (zx_D) :=
  if zg_i D 9 15 < 160 then
    some D
  else
    (g_Cur_isSound D).bind fun q1 =>
    if q1 = 0 then
      some D
    else
      (g_Mdl_beginAnew D).bind fun q2 =>
      some q2
def g_Unp_readProperties (D : zx_D) : Option (zx_D) :=
  if zg_i D 9 15 < 192 then
    g_Unp_readProperties_87 D
  else
    (g_Cur_has 1 D).bind fun q3 =>
    if q3.1 = 0 then
      g_Unp_readProperties_87 q3.2
    else
      if zk_in (zg_i q3.2 12 3) 640 = true then
      (g_P_areProperties (zg_i q3.2 4 (zn (zg_i q3.2 12 3))) q3.2).bind fun q4 =>
      if ¬ q4 = 0 then
        (g_Mdl_setProperties (zg_i q3.2 4 (zn (zg_i q3.2 12 3))) (zp_i (zp_i q3.2 12 3 ((zg_i q3.2 12 3) + 1)) 9 14 0)).bind fun q5 =>
        g_Unp_readProperties_87 q5
      else
        (g_Cur_fail (-3) (zg_i q3.2 12 3) q3.2).bind fun q6 =>
        some q6
      else none
def g_Unp_readChunkHead (D : zx_D) : Option (zx_D) :=
  (g_Cur_has 1 D).bind fun q1 =>
  if ¬ q1.1 = 0 then
    if zk_in (zg_i q1.2 12 3) 640 = true then
    (g_Unp_isAllowed (zp_i q1.2 9 15 (zg_i q1.2 4 (zn (zg_i q1.2 12 3))))).bind fun q2 =>
    if ¬ q2 = 0 then
      if ¬ zg_i q1.2 4 (zn (zg_i q1.2 12 3)) = 0 then
        (g_Unp_empties (zp_i (zp_i (zp_i q1.2 9 15 (zg_i q1.2 4 (zn (zg_i q1.2 12 3)))) 12 3 ((zg_i q1.2 12 3) + 1)) 9 13 0)).bind fun q3 =>
        ((
          if q3 = 0 then
            some (zp_i (zp_i (zp_i q1.2 9 15 (zg_i q1.2 4 (zn (zg_i q1.2 12 3)))) 12 3 ((zg_i q1.2 12 3) + 1)) 9 13 0)
          else
            some (zp_i (zp_i (zp_i (zp_i (zp_i q1.2 9 15 (zg_i q1.2 4 (zn (zg_i q1.2 12 3)))) 12 3 ((zg_i q1.2 12 3) + 1)) 9 13 0) 9 12 (zg_i q1.2 10 1)) 9 14 1)
        ) : Option (zx_D)).bind fun q4 =>
        (g_Cur_readTwo q4).bind fun q5 =>
        if zg_i q5.2 9 15 < 128 then
          some (zp_i q5.2 9 16 (q5.1 + 1))
        else
          (g_Cur_readTwo (zp_i (zp_i q5.2 9 16 (q5.1 + 1)) 9 16 ((q5.1 + 1) + (zo_shl ((zg_i q5.2 9 15) &&& 31) 16)))).bind fun q6 =>
          (g_Unp_readProperties (zp_i q6.2 9 17 (q6.1 + 1))).bind fun q7 =>
          some q7
      else
        some (zp_i (zp_i q1.2 9 15 (zg_i q1.2 4 (zn (zg_i q1.2 12 3)))) 12 3 ((zg_i q1.2 12 3) + 1))
    else
      (g_Cur_fail (-3) (zg_i q1.2 12 3) (zp_i q1.2 9 15 (zg_i q1.2 4 (zn (zg_i q1.2 12 3))))).bind fun q8 =>
      some q8
    else none
  else
    some q1.2
def g_Row_hasRoom_10 (x1 : Int32) (D : zx_D) : Option (Int32) :=
  if 400 - (zg_i D 10 1) < x1 then
    some 0
  else
    some 1
def g_Unp_hasBytesAndRoom (x1 : Int32) (D : zx_D) : Option (Int32 × zx_D) :=
  (g_Cur_has x1 D).bind fun q1 =>
  if q1.1 = 0 then
    (g_Cur_isSound q1.2).bind fun q2 =>
    if q2 = 0 ∨ q2 = 1 then some (q2, q1.2) else none
  else
    (g_Row_hasRoom_10 (zg_i q1.2 9 16) q1.2).bind fun q3 =>
    if ¬ q3 = 0 then
      (g_Cur_isSound q1.2).bind fun q4 =>
      if q4 = 0 ∨ q4 = 1 then some (q4, q1.2) else none
    else
      (g_Cur_fail (-5) (zg_i q1.2 12 3) q1.2).bind fun q5 =>
      (g_Cur_isSound q5).bind fun q6 =>
      if q6 = 0 ∨ q6 = 1 then some (q6, q5) else none
def g_Row_append_10 (x1 : Int32) (D : zx_D) : Option (zx_D) :=
  if zg_i D 10 1 < 400 then
    if zk_in (zg_i D 10 1) 400 = true then
    some (zp_i (zp_i D 11 (zn (zg_i D 10 1)) x1) 10 1 ((zg_i D 10 1) + 1))
    else none
  else
    some (zp_i D 10 2 1)
def g_Row_appendAll_10_4_3 (x2 : Int32) (x3 : Int32) : Nat → Int32 → zx_D → Option (zx_D)
  | 0, _, _ => none
  | k + 1, x4, D =>
    if x2 + x3 ≤ x4 then
      some D
    else
      if zk_in x4 640 = true then
      (g_Row_append_10 (zg_i D 4 (zn x4)) D).bind fun q1 =>
      g_Row_appendAll_10_4_3 x2 x3 k (x4 + 1) q1
      else none
def g_Row_appendAll_10_4 (x2 : Int32) (x3 : Int32) (D : zx_D) : Option (zx_D) :=
  (g_Row_appendAll_10_4_3 x2 x3 10000 x2 D).bind fun q2 =>
  some q2
def g_Unp_givePlain (D : zx_D) : Option (zx_D) :=
  (g_Unp_hasBytesAndRoom (zg_i D 9 16) D).bind fun q1 =>
  if ¬ q1.1 = 0 then
    (g_Row_appendAll_10_4 (zg_i q1.2 12 3) (zg_i q1.2 9 16) q1.2).bind fun q2 =>
    some (zp_i (zp_i q2 12 3 ((zg_i q2 12 3) + (zg_i q2 9 16))) 14 (zn 9) ((zg_i q2 14 (zn 9)) + 1))
  else
    some q1.2
def g_Src_begin_4_54 (x2 : Int32) : Nat → Int32 → zx_D → Option (zx_D)
  | 0, _, _ => none
  | k + 1, x4, D =>
    if 5 ≤ x4 then
      some D
    else
      if ¬ zg_i D 5 2 = 0 then
        some D
      else
        if zk_in (x2 + x4) 640 = true then
        g_Src_begin_4_54 x2 k (x4 + 1) (zp_l D 5 6 ((zo_lshl (zg_l D 5 6) 8) + (((zg_i D 4 (zn (x2 + x4)))).toInt64)))
        else none
def g_Src_begin_4 (x2 : Int32) (x3 : Int32) (D : zx_D) : Option (zx_D) :=
  ((
    if x3 - x2 < 5 then
      some 1
    else
      if zk_in x2 640 = true then
      if zg_i D 4 (zn x2) = 0 then
        some 0
      else
        some 1
      else none
  ) : Option (Int32)).bind fun q1 =>
  if q1 = 0 ∨ q1 = 1 then
  (g_Src_begin_4_54 x2 10000 1 (zp_i (zp_l (zp_l (zp_i (zp_i D 5 4 (x2 + 5)) 5 5 x3) 5 1 4294967295) 5 6 0) 5 2 q1)).bind fun q2 =>
  if zg_l q2 5 6 < zg_l q2 5 1 then
    some (zp_i q2 5 7 0)
  else
    some (zp_i q2 5 7 1)
  else none
def g_Mdl_useLine_5 (D : zx_D) : Option (Unit) :=
  some ()
def g_Src_shift (D : zx_D) : Option (zx_D) :=
  if ¬ zg_i D 5 2 = 0 then
    some D
  else
    if zg_l D 5 1 < 16777216 then
      if zg_i D 5 4 < zg_i D 5 5 then
        if zk_in (zg_i D 5 4) 640 = true then
        some (zp_i (zp_l (zp_l D 5 1 (zo_lshl (zg_l D 5 1) 8)) 5 6 ((zo_lshl (zg_l D 5 6) 8) + (((zg_i D 4 (zn (zg_i D 5 4)))).toInt64))) 5 4 ((zg_i D 5 4) + 1))
        else none
      else
        some (zp_i D 5 2 1)
    else
      some D
def g_Src_endsWell (D : zx_D) : Option (Int32 × zx_D) :=
  (g_Src_shift D).bind fun q1 =>
  if ¬ zg_i q1 5 2 = 0 then
    some (0, q1)
  else
    if ¬ zg_i q1 5 7 = 0 then
      some (0, q1)
    else
      if ¬ zg_l q1 5 6 = 0 then
        some (0, q1)
      else
        if ¬ zg_i q1 5 4 = zg_i q1 5 5 then
          some (0, q1)
        else
          some (1, q1)
def g_Row_byteBack_10 (x1 : Int32) (x2 : Int64) (D : zx_D) : Option (Int32) :=
  if x2 < 1 then
    some 0
  else
    if (x1).toInt64 < x2 then
      some 0
    else
      if x1 ≤ 400 then
        if zk_in (x1 - ((x2).toInt32)) 400 = true then
        some (zg_i D 11 (zn (x1 - ((x2).toInt32))))
        else none
      else
        some 0
def g_Lin_learn_5 (x1 : Int32) (x2 : Int32) (D : zx_D) : Option (zx_D) :=
  if zk_in x1 8196 = true then
  if ¬ x2 = 0 then
    if zk_in x1 8196 = true then
    some (zp_i D 6 (zn x1) ((zg_i D 6 (zn x1)) - (zo_shr (zg_i D 6 (zn x1)) 5)))
    else none
  else
    if zk_in x1 8196 = true then
    some (zp_i D 6 (zn x1) ((zg_i D 6 (zn x1)) + (zo_shr (2048 - (zg_i D 6 (zn x1))) 5)))
    else none
  else none
def g_Src_keep (D : zx_D) : Option (zx_D) :=
  if ¬ (zg_i D 5 8) + 1 = zg_i D 5 9 then
    some (zp_i D 5 8 ((zg_i D 5 8) + 1))
  else
    some (zp_l (zp_l (zp_i D 5 8 ((zg_i D 5 8) + 1)) 5 10 (zg_l D 5 1)) 5 11 (zg_l D 5 6))
def g_Src_codeBit (x1 : Int32) (x2 : Int32) (D : zx_D) : Option (Int32 × zx_D) :=
  (g_Src_shift D).bind fun q1 =>
  if zg_i q1 5 2 = 0 then
    if zk_in x1 8196 = true then
    ((
      if ¬ zg_i q1 5 7 = 0 then
        some 1
      else
        if zg_l q1 5 6 < (zo_lushr (zg_l q1 5 1) 11) * (((zg_i q1 6 (zn x1))).toInt64) then
          some 0
        else
          some 1
    ) : Option (Int32)).bind fun q2 =>
    ((
      if ¬ q2 = 0 then
        some (zp_l (zp_l q1 5 1 ((zg_l q1 5 1) - ((zo_lushr (zg_l q1 5 1) 11) * (((zg_i q1 6 (zn x1))).toInt64)))) 5 6 ((zg_l q1 5 6) - ((zo_lushr (zg_l q1 5 1) 11) * (((zg_i q1 6 (zn x1))).toInt64))))
      else
        some (zp_l q1 5 1 ((zo_lushr (zg_l q1 5 1) 11) * (((zg_i q1 6 (zn x1))).toInt64)))
    ) : Option (zx_D)).bind fun q3 =>
    (g_Lin_learn_5 x1 q2 q3).bind fun q4 =>
    (g_Src_keep q4).bind fun q5 =>
    some (q2, q5)
    else none
  else
    some (0, q1)
def g_Mdl_codeKind_s (x1 : Int32) (D : zx_D) : Option (Int32 × zx_D) :=
  ((
    if ¬ zg_i D 7 7 = 1 then
      some 1
    else
      some 0
  ) : Option (Int32)).bind fun q1 =>
  (g_Src_codeBit ((0 + ((zg_i D 7 2) * 16)) + x1) q1 D).bind fun q2 =>
  if ¬ q2.1 = 0 then
    ((
      if ¬ zg_i q2.2 7 7 = 2 then
        some 1
      else
        some 0
    ) : Option (Int32)).bind fun q3 =>
    (g_Src_codeBit (384 + (zg_i q2.2 7 2)) q3 q2.2).bind fun q4 =>
    if ¬ q4.1 = 0 then
      ((
        if zg_i q4.2 7 7 ≤ 4 then
          some 0
        else
          some 1
      ) : Option (Int32)).bind fun q5 =>
      (g_Src_codeBit (396 + (zg_i q4.2 7 2)) q5 q4.2).bind fun q6 =>
      if ¬ q6.1 = 0 then
        ((
          if zg_i q6.2 7 7 ≤ 5 then
            some 0
          else
            some 1
        ) : Option (Int32)).bind fun q7 =>
        (g_Src_codeBit (408 + (zg_i q6.2 7 2)) q7 q6.2).bind fun q8 =>
        if ¬ q8.1 = 0 then
          if zg_i q8.2 7 7 ≤ 6 then
            (g_Src_codeBit (420 + (zg_i q8.2 7 2)) 0 q8.2).bind fun q9 =>
            some (6 + q9.1, q9.2)
          else
            (g_Src_codeBit (420 + (zg_i q8.2 7 2)) 1 q8.2).bind fun q10 =>
            some (6 + q10.1, q10.2)
        else
          some (5, q8.2)
      else
        if ¬ zg_i q6.2 7 7 = 4 then
          (g_Src_codeBit ((192 + ((zg_i q6.2 7 2) * 16)) + x1) 0 q6.2).bind fun q11 =>
          if ¬ q11.1 = 0 then
            some (4, q11.2)
          else
            some (3, q11.2)
        else
          (g_Src_codeBit ((192 + ((zg_i q6.2 7 2) * 16)) + x1) 1 q6.2).bind fun q12 =>
          if ¬ q12.1 = 0 then
            some (4, q12.2)
          else
            some (3, q12.2)
    else
      some (2, q4.2)
  else
    some (1, q2.2)
def g_Mdl_codeTree_s_8 (x1 : Int32) (x2 : Int32) (x3 : Int32) : Nat → Int32 → Int32 → zx_D → Option (Int32 × zx_D)
  | 0, _, _, _ => none
  | k + 1, x4, x5, D =>
    if x5 < 0 then
      some (x4, D)
    else
      (g_Src_codeBit (x1 + x4) ((zo_ushr x3 x5) &&& 1) D).bind fun q1 =>
      g_Mdl_codeTree_s_8 x1 x2 x3 k ((2 * x4) + q1.1) (x5 + (-1)) q1.2
def g_Mdl_codeTree_s (x1 : Int32) (x2 : Int32) (x3 : Int32) (D : zx_D) : Option (Int32 × zx_D) :=
  (g_Mdl_codeTree_s_8 x1 x2 x3 10000 1 (x2 - 1) D).bind fun q2 =>
  some (q2.1 - (zo_shl 1 x2), q2.2)
def g_Mdl_codeLength_s (x1 : Int32) (x2 : Int32) (D : zx_D) : Option (Int32 × zx_D) :=
  ((
    if 10 ≤ zg_i D 7 9 then
      some 1
    else
      some 0
  ) : Option (Int32)).bind fun q1 =>
  (g_Src_codeBit x1 q1 D).bind fun q2 =>
  if ¬ q2.1 = 0 then
    ((
      if 18 ≤ zg_i q2.2 7 9 then
        some 1
      else
        some 0
    ) : Option (Int32)).bind fun q3 =>
    (g_Src_codeBit (x1 + 1) q3 q2.2).bind fun q4 =>
    if ¬ q4.1 = 0 then
      (g_Mdl_codeTree_s (x1 + 258) 8 ((zg_i q4.2 7 9) - 18) q4.2).bind fun q5 =>
      some (18 + q5.1, q5.2)
    else
      (g_Mdl_codeTree_s ((x1 + 130) + (8 * x2)) 3 ((zg_i q4.2 7 9) - 10) q4.2).bind fun q6 =>
      some (10 + q6.1, q6.2)
  else
    (g_Mdl_codeTree_s ((x1 + 2) + (8 * x2)) 3 ((zg_i q2.2 7 9) - 2) q2.2).bind fun q7 =>
    some (2 + q7.1, q7.2)
def g_Src_codeEvenBit (x1 : Int32) (D : zx_D) : Option (Int32 × zx_D) :=
  (g_Src_shift D).bind fun q1 =>
  if zg_i q1 5 2 = 0 then
    ((
      if ¬ zg_i q1 5 7 = 0 then
        some 1
      else
        if zg_l q1 5 6 < zo_lushr (zg_l q1 5 1) 1 then
          some 0
        else
          some 1
    ) : Option (Int32)).bind fun q2 =>
    ((
      if ¬ q2 = 1 then
        some (zp_l q1 5 1 (zo_lushr (zg_l q1 5 1) 1))
      else
        some (zp_l (zp_l q1 5 1 (zo_lushr (zg_l q1 5 1) 1)) 5 6 ((zg_l q1 5 6) - (zo_lushr (zg_l q1 5 1) 1)))
    ) : Option (zx_D)).bind fun q3 =>
    if ¬ zg_i q3 5 7 = 0 then
      (g_Src_keep (zp_i q3 5 7 1)).bind fun q4 =>
      some (q2, q4)
    else
      if zg_l q3 5 6 < zg_l q3 5 1 then
        (g_Src_keep (zp_i q3 5 7 0)).bind fun q5 =>
        some (q2, q5)
      else
        (g_Src_keep (zp_i q3 5 7 1)).bind fun q6 =>
        some (q2, q6)
  else
    some (0, q1)
def g_Mdl_codeTreeBackwards_s_9 (x1 : Int32) (x2 : Int32) (x3 : Int32) : Nat → Int32 → Int32 → Int32 → zx_D → Option (Int32 × zx_D)
  | 0, _, _, _, _ => none
  | k + 1, x4, x5, x6, D =>
    if x2 ≤ x6 then
      some (x5, D)
    else
      (g_Src_codeBit (x1 + x4) ((zo_ushr x3 x6) &&& 1) D).bind fun q1 =>
      g_Mdl_codeTreeBackwards_s_9 x1 x2 x3 k ((2 * x4) + q1.1) (x5 + (zo_shl q1.1 x6)) (x6 + 1) q1.2
def g_Mdl_codeTreeBackwards_s (x1 : Int32) (x2 : Int32) (x3 : Int32) (D : zx_D) : Option (Int32 × zx_D) :=
  (g_Mdl_codeTreeBackwards_s_9 x1 x2 x3 10000 1 0 0 D).bind fun q2 =>
  some (q2.1, q2.2)
def g_Mdl_codeDistance_s_106 (x3 : Int64) (x5 : Int64) : Nat → Int64 → Int32 → zx_D → Option (Int64 × zx_D)
  | 0, _, _, _ => none
  | k + 1, x7, x9, D =>
    if x9 < 4 then
      some (x7, D)
    else
      (g_Src_codeEvenBit ((((zo_lushr x5 x9)).toInt32) &&& 1) D).bind fun q3 =>
      g_Mdl_codeDistance_s_106 x3 x5 k ((2 * x7) + ((q3.1).toInt64)) (x9 + (-1)) q3.2
def g_Mdl_codeDistance_s (D : zx_D) : Option (Int64 × zx_D) :=
  (g_Mdl_slotOf (zg_l D 7 10) D).bind fun q1 =>
  (g_Mdl_codeTree_s (1460 + (64 * (if 3 < (zg_i D 7 9) - 2 then 3 else (zg_i D 7 9) - 2))) 6 q1 D).bind fun q2 =>
  if 4 ≤ q2.1 then
    if 14 ≤ q2.1 then
      (g_Mdl_codeDistance_s_106 (zo_lshl (2 + (((zo_rem q2.1 2)).toInt64)) ((q2.1 / 2) - 1)) (((zg_l q2.2 7 10) - 1) - (zo_lshl (2 + (((zo_rem q2.1 2)).toInt64)) ((q2.1 / 2) - 1))) 10000 0 (((q2.1 / 2) - 1) - 1) q2.2).bind fun q4 =>
      (g_Mdl_codeTreeBackwards_s 2036 4 (((((zg_l q2.2 7 10) - 1) - (zo_lshl (2 + (((zo_rem q2.1 2)).toInt64)) ((q2.1 / 2) - 1)))).toInt32) q4.2).bind fun q5 =>
      some ((((zo_lshl (2 + (((zo_rem q2.1 2)).toInt64)) ((q2.1 / 2) - 1)) + 1) + (16 * q4.1)) + ((q5.1).toInt64), q5.2)
    else
      (g_Mdl_codeTreeBackwards_s (1716 + (32 * (q2.1 - 4))) ((q2.1 / 2) - 1) (((((zg_l q2.2 7 10) - 1) - (zo_lshl (2 + (((zo_rem q2.1 2)).toInt64)) ((q2.1 / 2) - 1)))).toInt32) q2.2).bind fun q6 =>
      some (((zo_lshl (2 + (((zo_rem q2.1 2)).toInt64)) ((q2.1 / 2) - 1)) + 1) + ((q6.1).toInt64), q6.2)
  else
    some (((q2.1 + 1)).toInt64, q2.2)
def g_Mdl_codeLiteral_s_22 (x1 : Int32) (x2 : Int32) : Nat → Int32 → Int32 → Int32 → zx_D → Option (Int32 × zx_D)
  | 0, _, _, _, _ => none
  | k + 1, x3, x4, x5, D =>
    if x5 < 0 then
      some (x4, D)
    else
      ((
        if x3 = 0 then
          some 0
        else
          some (1 + ((zo_ushr x2 x5) &&& 1))
      ) : Option (Int32)).bind fun q2 =>
      (g_Src_codeBit ((x1 + (q2 * 256)) + x4) ((zo_ushr (zg_i D 7 8) x5) &&& 1) D).bind fun q3 =>
      if x3 = 0 then
        g_Mdl_codeLiteral_s_22 x1 x2 k 0 ((2 * x4) + q3.1) (x5 + (-1)) q3.2
      else
        if ¬ q3.1 = (zo_ushr x2 x5) &&& 1 then
          g_Mdl_codeLiteral_s_22 x1 x2 k 0 ((2 * x4) + q3.1) (x5 + (-1)) q3.2
        else
          g_Mdl_codeLiteral_s_22 x1 x2 k 1 ((2 * x4) + q3.1) (x5 + (-1)) q3.2
def g_Mdl_codeLiteral_s (x1 : Int32) (x2 : Int32) (D : zx_D) : Option (Int32 × zx_D) :=
  ((
    if zg_i D 7 2 < 7 then
      some 0
    else
      some 1
  ) : Option (Int32)).bind fun q1 =>
  (g_Mdl_codeLiteral_s_22 x1 x2 10000 q1 1 7 D).bind fun q4 =>
  some (q4.1 - 256, q4.2)
def g_Mdl_step_s (x1 : Int32) (x2 : Int32) (x3 : Int32) (D : zx_D) : Option (zx_D) :=
  (g_Mdl_codeKind_s (x1 &&& ((zo_shl 1 (zg_i D 7 5)) - 1)) D).bind fun q1 =>
  if ¬ q1.1 = 1 then
    if ¬ q1.1 = 2 then
      if ¬ q1.1 = 3 then
        if zk_in (q1.1 - 4) 4 = true then
        (g_Mdl_bringForward (q1.1 - 4) (zg_l q1.2 8 (zn (q1.1 - 4))) (zp_i q1.2 7 7 q1.1)).bind fun q2 =>
        (g_Mdl_codeLength_s 946 (x1 &&& ((zo_shl 1 (zg_i D 7 5)) - 1)) q2).bind fun q3 =>
        if 7 ≤ zg_i q3.2 7 2 then
          some (zp_i (zp_i q3.2 7 9 q3.1) 7 2 11)
        else
          some (zp_i (zp_i q3.2 7 9 q3.1) 7 2 8)
        else none
      else
        if 7 ≤ zg_i q1.2 7 2 then
          some (zp_i (zp_i (zp_i q1.2 7 7 q1.1) 7 9 1) 7 2 11)
        else
          some (zp_i (zp_i (zp_i q1.2 7 7 q1.1) 7 9 1) 7 2 9)
    else
      (g_Mdl_codeLength_s 432 (x1 &&& ((zo_shl 1 (zg_i D 7 5)) - 1)) (zp_i q1.2 7 7 q1.1)).bind fun q4 =>
      (g_Mdl_codeDistance_s (zp_i q4.2 7 9 q4.1)).bind fun q5 =>
      (g_Mdl_bringForward 3 q5.1 (zp_l q5.2 7 10 q5.1)).bind fun q6 =>
      if 7 ≤ zg_i q6 7 2 then
        some (zp_i q6 7 2 10)
      else
        some (zp_i q6 7 2 7)
  else
    (g_Mdl_codeLiteral_s (2052 + (768 * ((zo_shl (x1 &&& ((zo_shl 1 (zg_i q1.2 7 4)) - 1)) (zg_i q1.2 7 3)) + (zo_ushr x2 (8 - (zg_i q1.2 7 3)))))) x3 (zp_i q1.2 7 7 q1.1)).bind fun q7 =>
    if 4 ≤ zg_i q7.2 7 2 then
      if 10 ≤ zg_i q7.2 7 2 then
        some (zp_i (zp_i (zp_i q7.2 7 8 q7.1) 7 9 1) 7 2 ((zg_i q7.2 7 2) - 6))
      else
        some (zp_i (zp_i (zp_i q7.2 7 8 q7.1) 7 9 1) 7 2 ((zg_i q7.2 7 2) - 3))
    else
      some (zp_i (zp_i (zp_i q7.2 7 8 q7.1) 7 9 1) 7 2 0)
def g_Row_repeat_10_3 (x1 : Int64) (x3 : Int32) : Nat → Int32 → zx_D → Option (zx_D)
  | 0, _, _ => none
  | k + 1, x4, D =>
    if x3 ≤ x4 then
      some D
    else
      (g_Row_byteBack_10 (zg_i D 10 1) x1 D).bind fun q1 =>
      (g_Row_append_10 q1 D).bind fun q2 =>
      g_Row_repeat_10_3 x1 x3 k (x4 + 1) q2
def g_Row_repeat_10 (x1 : Int64) (x3 : Int32) (D : zx_D) : Option (zx_D) :=
  (g_Row_repeat_10_3 x1 x3 10000 0 D).bind fun q3 =>
  some q3
def g_Unp_giveStep (x1 : Int32) (x2 : Int32) (D : zx_D) : Option (Int32 × zx_D) :=
  if ¬ zg_i D 7 7 = 1 then
    (g_Mdl_distanceOf 0 D).bind fun q1 =>
    if (x1).toInt64 < q1 then
      some (0, D)
    else
      if zg_i D 7 9 ≤ x2 - (zg_i D 10 1) then
        (g_Mdl_distanceOf 0 D).bind fun q2 =>
        (g_Row_repeat_10 q2 (zg_i D 7 9) D).bind fun q3 =>
        some (1, q3)
      else
        some (0, D)
  else
    (g_Row_append_10 (zg_i D 7 8) D).bind fun q4 =>
    some (1, q4)
def g_Unp_giveCoded_71 (x1 : Int32) : Nat → Int32 → zx_D → Option (Nat × Nat × zx_D)
  | 0, _, _ => none
  | k + 1, x2, D =>
    if zg_i D 9 16 ≤ x2 then
      (g_Src_endsWell D).bind fun q4 =>
      if ¬ q4.1 = 0 then
        some (4, 5, zp_i (zp_i q4.2 12 3 ((zg_i q4.2 12 3) + (zg_i q4.2 9 17))) 14 (zn 8) ((zg_i q4.2 14 (zn 8)) + 1))
      else
        (g_Cur_fail (-6) (zg_i q4.2 12 3) q4.2).bind fun q5 =>
        some (4, 5, q5)
    else
      if x1 ≤ zg_i D 10 1 then
        (g_Src_endsWell D).bind fun q6 =>
        if ¬ q6.1 = 0 then
          some (4, 5, zp_i (zp_i q6.2 12 3 ((zg_i q6.2 12 3) + (zg_i q6.2 9 17))) 14 (zn 8) ((zg_i q6.2 14 (zn 8)) + 1))
        else
          (g_Cur_fail (-6) (zg_i q6.2 12 3) q6.2).bind fun q7 =>
          some (4, 5, q7)
      else
        ((
          if (zg_i D 10 1) - (zg_i D 9 12) ≤ 0 then
            some 0
          else
            (g_Row_byteBack_10 (zg_i D 10 1) 1 D).bind fun q8 =>
            some q8
        ) : Option (Int32)).bind fun q9 =>
        (g_Mdl_distanceOf 0 D).bind fun q10 =>
        (g_Row_byteBack_10 (zg_i D 10 1) q10 D).bind fun q11 =>
        (g_Mdl_step_s ((zg_i D 10 1) - (zg_i D 9 12)) q9 q11 D).bind fun q12 =>
        if ¬ zg_i q12 5 2 = 0 then
          (g_Cur_fail (-6) (zg_i q12 12 3) q12).bind fun q13 =>
          some (4, 5, q13)
        else
          (g_Unp_giveStep ((zg_i D 10 1) - (zg_i D 9 12)) x1 q12).bind fun q14 =>
          if ¬ q14.1 = 0 then
            if zk_in (zg_i q14.2 7 7) 11 = true then
            if zk_in (zg_i q14.2 7 7) 11 = true then
            g_Unp_giveCoded_71 x1 k (x2 + 1) (zp_i q14.2 14 (zn (zg_i q14.2 7 7)) ((zg_i q14.2 14 (zn (zg_i q14.2 7 7))) + 1))
            else none
            else none
          else
            (g_Cur_fail (-6) (zg_i q14.2 12 3) q14.2).bind fun q15 =>
            some (4, 5, q15)
def g_Unp_giveCoded (sd : Nat) (ln : Nat) (D : zx_D) : Option (Nat × Nat × zx_D) :=
  (g_Unp_hasBytesAndRoom (zg_i D 9 17) D).bind fun q1 =>
  if ¬ q1.1 = 0 then
    (g_Src_begin_4 (zg_i q1.2 12 3) ((zg_i q1.2 12 3) + (zg_i q1.2 9 17)) q1.2).bind fun q2 =>
    (g_Mdl_useLine_5 q2).bind fun q3 =>
    g_Unp_giveCoded_71 ((zg_i q1.2 10 1) + (zg_i q1.2 9 16)) 10000 0 q2
  else
    some (sd, ln, q1.2)
def g_Unp_readBlock_46 (x1 : Int32) : Nat → Int32 → Nat → Nat → zx_D → Option (Nat × Nat × zx_D)
  | 0, _, _, _, _ => none
  | k + 1, x2, r1, r2, D =>
    if 640 ≤ x2 then
      (g_Unp_closeBlock x1 D).bind fun q2 =>
      some (r1, r2, q2)
    else
      (g_Cur_isSound D).bind fun q3 =>
      if q3 = 0 then
        (g_Unp_closeBlock x1 D).bind fun q4 =>
        some (r1, r2, q4)
      else
        (g_Unp_readChunkHead D).bind fun q5 =>
        if zg_i q5 9 15 = 0 then
          (g_Unp_closeBlock x1 q5).bind fun q6 =>
          some (r1, r2, q6)
        else
          (g_Cur_isSound q5).bind fun q7 =>
          if ¬ q7 = 0 then
            if zg_i q5 9 15 < 128 then
              (g_Unp_givePlain q5).bind fun q8 =>
              g_Unp_readBlock_46 x1 k (x2 + 1) r1 r2 q8
            else
              (g_Unp_giveCoded r1 r2 q5).bind fun q9 =>
              g_Unp_readBlock_46 x1 k (x2 + 1) q9.1 q9.2.1 q9.2.2
          else
            (g_Unp_closeBlock x1 q5).bind fun q10 =>
            some (r1, r2, q10)
def g_Unp_readBlock (sd : Nat) (ln : Nat) (D : zx_D) : Option (Nat × Nat × zx_D) :=
  (g_Unp_readHead (zp_i (zp_i (zp_i (zp_i D 9 8 (zg_i D 12 3)) 9 9 (zg_i D 10 1)) 9 13 1) 9 14 1)).bind fun q1 =>
  g_Unp_readBlock_46 (zg_i q1 12 3) 10000 0 sd ln q1
def g_Cur_expectNumber (x1 : Int64) (D : zx_D) : Option (zx_D) :=
  (g_Cur_readNumber D).bind fun q1 =>
  if q1.1 = x1 then
    some q1.2
  else
    (g_Cur_fail (-3) (zg_i D 12 3) q1.2).bind fun q2 =>
    some q2
def g_Unp_readIndex_44 (x1 : Int32) : Nat → Int32 → zx_D → Option (zx_D)
  | 0, _, _ => none
  | k + 1, x2, D =>
    if zg_i D 14 (zn 10) ≤ x2 then
      some D
    else
      (g_Cur_isSound D).bind fun q4 =>
      if q4 = 0 then
        some D
      else
        if zk_in x2 40 = true then
        (g_Cur_expectNumber (zg_l D 15 (zn x2)) D).bind fun q5 =>
        if zk_in x2 40 = true then
        (g_Cur_expectNumber (zg_l q5 16 (zn x2)) q5).bind fun q6 =>
        g_Unp_readIndex_44 x1 k (x2 + 1) q6
        else none
        else none
def g_Unp_readIndex (D : zx_D) : Option (zx_D) :=
  (g_Cur_isSound D).bind fun q1 =>
  if ¬ q1 = 0 then
    (g_Cur_expectByte 0 D).bind fun q2 =>
    (g_Cur_expectNumber (((zg_i q2 14 (zn 10))).toInt64) q2).bind fun q3 =>
    (g_Unp_readIndex_44 (zg_i D 12 3) 10000 0 q3).bind fun q7 =>
    (g_Cur_expectFilling (zg_i D 12 3) q7).bind fun q8 =>
    (g_P_sumFour_4 (zg_i D 12 3) (zg_i q8 12 3) q8).bind fun q9 =>
    (g_Cur_expectSum 4 q9 q8).bind fun q10 =>
    some (zp_i q10 9 18 ((zg_i q10 12 3) - (zg_i D 12 3)))
  else
    some D
def g_Unp_readEnd (D : zx_D) : Option (zx_D) :=
  (g_Cur_has 12 D).bind fun q1 =>
  if ¬ q1.1 = 0 then
    (g_Cur_lowFirst (zg_i q1.2 12 3) 4 q1.2).bind fun q2 =>
    (g_P_sumFour_4 ((zg_i q1.2 12 3) + 4) ((zg_i q1.2 12 3) + 10) q1.2).bind fun q3 =>
    if q2 = q3 then
      (g_Cur_lowFirst ((zg_i q1.2 12 3) + 4) 4 q1.2).bind fun q4 =>
      ((
        if ¬ q4 = ((((zg_i q1.2 9 18) / 4) - 1)).toInt64 then
          some 0
        else
          if zk_in ((zg_i q1.2 12 3) + 8) 640 = true then
          if ¬ zg_i q1.2 4 (zn ((zg_i q1.2 12 3) + 8)) = 0 then
            some 0
          else
            if zk_in ((zg_i q1.2 12 3) + 9) 640 = true then
            if ¬ zg_i q1.2 4 (zn ((zg_i q1.2 12 3) + 9)) = zg_i q1.2 9 7 then
              some 0
            else
              some 1
            else none
          else none
      ) : Option (Int32)).bind fun q5 =>
      if q5 = 0 then
        (g_Cur_fail (-3) (zg_i q1.2 12 3) q1.2).bind fun q6 =>
        some q6
      else
        if zk_in ((zg_i q1.2 12 3) + 10) 640 = true then
        if ¬ zg_i q1.2 4 (zn ((zg_i q1.2 12 3) + 10)) = 89 then
          (g_Cur_fail (-3) (zg_i q1.2 12 3) q1.2).bind fun q7 =>
          some q7
        else
          if zk_in ((zg_i q1.2 12 3) + 11) 640 = true then
          if zg_i q1.2 4 (zn ((zg_i q1.2 12 3) + 11)) = 90 then
            if zg_i q1.2 12 1 ≤ (zg_i q1.2 12 3) + 12 then
              some (zp_i q1.2 12 3 ((zg_i q1.2 12 3) + 12))
            else
              (g_Cur_fail (-3) ((zg_i q1.2 12 3) + 12) (zp_i q1.2 12 3 ((zg_i q1.2 12 3) + 12))).bind fun q8 =>
              some q8
          else
            (g_Cur_fail (-3) (zg_i q1.2 12 3) q1.2).bind fun q9 =>
            some q9
          else none
        else none
    else
      (g_Cur_fail (-4) (zg_i q1.2 12 3) q1.2).bind fun q10 =>
      some q10
  else
    some q1.2
def g_Row_become_1_10 (D : zx_D) : Option (zx_D) :=
  if ¬ 0 < (0 : Int32) ∧ ¬ 0 < (0 : Int32) ∧ ¬ (if 400 < zg_i D 10 1 then 400 else zg_i D 10 1) < (0 : Int32) ∧ zn 0 + zn (if 400 < zg_i D 10 1 then 400 else zg_i D 10 1) ≤ 400 ∧ zn 0 + zn (if 400 < zg_i D 10 1 then 400 else zg_i D 10 1) ≤ 400 then
  some (zp_a (zp_i D 1 1 (if 400 < zg_i D 10 1 then 400 else zg_i D 10 1)) 2 (va_cpy (((zp_i D 1 1 (if 400 < zg_i D 10 1 then 400 else zg_i D 10 1))).1 11) (((zp_i D 1 1 (if 400 < zg_i D 10 1 then 400 else zg_i D 10 1))).1 2) (zn 0) (zn 0) (zn (if 400 < zg_i D 10 1 then 400 else zg_i D 10 1))))
  else none
def g_P_unpack_20 : Nat → Int32 → Nat → Nat → zx_D → Option (Nat × Nat × zx_D)
  | 0, _, _, _, _ => none
  | k + 1, x1, r1, r2, D =>
    if 640 ≤ x1 then
      some (r1, r2, D)
    else
      (g_Unp_comesBlock D).bind fun q3 =>
      if q3.1 = 0 then
        some (r1, r2, q3.2)
      else
        (g_Unp_readBlock r1 r2 q3.2).bind fun q4 =>
        g_P_unpack_20 k (x1 + 1) q4.1 q4.2.1 q4.2.2
def g_P_unpack (sd : Nat) (ln : Nat) (D : zx_D) : Option (Int32 × Nat × Nat × zx_D) :=
  (g_Unp_begin_3 D).bind fun q1 =>
  (g_Unp_readStart q1).bind fun q2 =>
  (g_P_unpack_20 10000 0 sd ln q2).bind fun q5 =>
  (g_Unp_readIndex q5.2.2).bind fun q6 =>
  (g_Unp_readEnd q6).bind fun q7 =>
  (g_Cur_isSound q7).bind fun q8 =>
  if ¬ q8 = 0 then
    (g_Row_become_1_10 q7).bind fun q9 =>
    some (zg_i q9 1 1, q5.1, q5.2.1, q9)
  else
    some (zg_i q7 12 4, q5.1, q5.2.1, q7)
def g_R_feed_b0_57 (x1 : Int64) (x3 : Int32) (x5 : Int32) : Nat → Int32 → zx_D → Option (zx_D)
  | 0, _, _ => none
  | k + 1, x6, D =>
    if x6 < 0 then
      some D
    else
      if zk_in (zg_i D 0 1) 400 = true then
      g_R_feed_b0_57 x1 x3 x5 k (x6 + (-1)) (zp_i (zp_i D 1 (zn (zg_i D 0 1)) ((((zo_lshr x1 (8 * x6)) &&& 255)).toInt32)) 0 1 ((zg_i D 0 1) + 1))
      else none
def g_R_feed_b0_47 (x1 : Int64) (x3 : Int32) (x5 : Int32) (s0 : Int32) (s1 : Int32) (D : zx_D) : Option (Int32 × zx_D) :=
  if s1 ≤ s0 then
    (g_R_feed_b0_57 x1 x3 x5 10000 (x3 - 1) D).bind fun q1 =>
    some (x5 + x3, q1)
  else
    some (-1, D)
def g_R_feed_b0_16 (x1 : Int64) (x3 : Int32) (s0 : Int32) (D : zx_D) : Option (Int32 × zx_D) :=
  if x3 < 1 then
    some (-1, D)
  else
    if 8 < x3 then
      some (-1, D)
    else
      g_R_feed_b0_47 x1 x3 s0 400 (s0 + x3) D
def g_R_feed_b0 (x1 : Int64) (x3 : Int32) (D : zx_D) : Option (Int32 × zx_D) :=
  g_R_feed_b0_16 x1 x3 (zg_i D 0 1) D
def g_R_cut_b0_40 (x1 : Int32) (x3 : Int32) (s0 : Int32) (D : zx_D) : Option (Int32 × zx_D) :=
  some (x3 - x1, zp_i (zp_i D 0 3 s0) 0 1 x1)
def g_R_cut_b0_15 (x1 : Int32) (s0 : Int32) (D : zx_D) : Option (Int32 × zx_D) :=
  if x1 < 0 then
    some (-1, D)
  else
    if x1 ≤ s0 then
      g_R_cut_b0_40 x1 s0 (zg_i D 0 3) D
    else
      some (-1, D)
def g_R_cut_b0 (x1 : Int32) (D : zx_D) : Option (Int32 × zx_D) :=
  g_R_cut_b0_15 x1 (zg_i D 0 1) D
def g_R_at_b0_20 (x1 : Int32) (s0 : Int32) (s1 : Int32) (D : zx_D) : Option (Int32) :=
  if s1 < s0 then
    if zk_in x1 400 = true then
    some (zg_i D 1 (zn x1))
    else none
  else
    some (-1)
def g_R_at_b0 (x1 : Int32) (D : zx_D) : Option (Int32) :=
  if x1 < 0 then
    some (-1)
  else
    g_R_at_b0_20 x1 (zg_i D 0 1) x1 D
def g_R_four_8 (D : zx_D) : Nat → Int64 → Int32 → Option (Int64)
  | 0, _, _ => none
  | k + 1, x3, x5 =>
    if 8 ≤ x5 then
      some x3
    else
      if ¬ x3 &&& 1 = 1 then
        g_R_four_8 D k (zo_lshr x3 1) (x5 + 1)
      else
        g_R_four_8 D k ((zo_lshr x3 1) ^^^ 3988292384) (x5 + 1)
def g_R_four (x0 : Int64) (x2 : Int32) (D : zx_D) : Option (Int64) :=
  (g_R_four_8 D 10000 (x0 ^^^ ((x2).toInt64)) 0).bind fun q1 =>
  some q1
def g_R_sum_b0_17 (D : zx_D) : Nat → Int64 → Int32 → Option (Int64)
  | 0, _, _ => none
  | k + 1, x2, x4 =>
    if zg_i D 0 1 ≤ x4 then
      some x2
    else
      if zk_in x4 400 = true then
      (g_R_four x2 (zg_i D 1 (zn x4)) D).bind fun q1 =>
      g_R_sum_b0_17 D k q1 (x4 + 1)
      else none
def g_R_sum_b0_13 (s0 : Int64) (D : zx_D) : Option (Int64) :=
  (g_R_sum_b0_17 D 10000 s0 0).bind fun q2 =>
  some (q2 ^^^ 4294967295)
def g_R_sum_b0 (D : zx_D) : Option (Int64) :=
  g_R_sum_b0_13 4294967295 D
def g_R_feed_b1_57 (x1 : Int64) (x3 : Int32) (x5 : Int32) : Nat → Int32 → zx_D → Option (zx_D)
  | 0, _, _ => none
  | k + 1, x6, D =>
    if x6 < 0 then
      some D
    else
      if zk_in (zg_i D 0 3) 640 = true then
      g_R_feed_b1_57 x1 x3 x5 k (x6 + (-1)) (zp_i (zp_i D 2 (zn (zg_i D 0 3)) ((((zo_lshr x1 (8 * x6)) &&& 255)).toInt32)) 0 3 ((zg_i D 0 3) + 1))
      else none
def g_R_feed_b1_47 (x1 : Int64) (x3 : Int32) (x5 : Int32) (s0 : Int32) (s1 : Int32) (D : zx_D) : Option (Int32 × zx_D) :=
  if s1 ≤ s0 then
    (g_R_feed_b1_57 x1 x3 x5 10000 (x3 - 1) D).bind fun q1 =>
    some (x5 + x3, q1)
  else
    some (-1, D)
def g_R_feed_b1_16 (x1 : Int64) (x3 : Int32) (s0 : Int32) (D : zx_D) : Option (Int32 × zx_D) :=
  if x3 < 1 then
    some (-1, D)
  else
    if 8 < x3 then
      some (-1, D)
    else
      g_R_feed_b1_47 x1 x3 s0 640 (s0 + x3) D
def g_R_feed_b1 (x1 : Int64) (x3 : Int32) (D : zx_D) : Option (Int32 × zx_D) :=
  g_R_feed_b1_16 x1 x3 (zg_i D 0 3) D
def g_R_cut_b1_40 (x1 : Int32) (x3 : Int32) (s0 : Int32) (D : zx_D) : Option (Int32 × zx_D) :=
  some (x3 - x1, zp_i (zp_i D 0 3 s0) 0 1 (zg_i D 0 1))
def g_R_cut_b1_15 (x1 : Int32) (s0 : Int32) (D : zx_D) : Option (Int32 × zx_D) :=
  if x1 < 0 then
    some (-1, D)
  else
    if x1 ≤ s0 then
      g_R_cut_b1_40 x1 s0 x1 D
    else
      some (-1, D)
def g_R_cut_b1 (x1 : Int32) (D : zx_D) : Option (Int32 × zx_D) :=
  g_R_cut_b1_15 x1 (zg_i D 0 3) D
def g_R_at_b1_20 (x1 : Int32) (s0 : Int32) (s1 : Int32) (D : zx_D) : Option (Int32) :=
  if s1 < s0 then
    if zk_in x1 640 = true then
    some (zg_i D 2 (zn x1))
    else none
  else
    some (-1)
def g_R_at_b1 (x1 : Int32) (D : zx_D) : Option (Int32) :=
  if x1 < 0 then
    some (-1)
  else
    g_R_at_b1_20 x1 (zg_i D 0 3) x1 D
def g_R_eight_8 (D : zx_D) : Nat → Int64 → Int32 → Option (Int64)
  | 0, _, _ => none
  | k + 1, x3, x5 =>
    if 8 ≤ x5 then
      some x3
    else
      if ¬ x3 &&& 1 = 1 then
        g_R_eight_8 D k (zo_lushr x3 1) (x5 + 1)
      else
        g_R_eight_8 D k ((zo_lushr x3 1) ^^^ (-3932672073523589310)) (x5 + 1)
def g_R_eight (x0 : Int64) (x2 : Int32) (D : zx_D) : Option (Int64) :=
  (g_R_eight_8 D 10000 (x0 ^^^ ((x2).toInt64)) 0).bind fun q1 =>
  some q1
def g_R_sum_b1_17 (D : zx_D) : Nat → Int64 → Int32 → Option (Int64)
  | 0, _, _ => none
  | k + 1, x2, x4 =>
    if zg_i D 0 1 ≤ x4 then
      some x2
    else
      if zk_in x4 400 = true then
      (g_R_eight x2 (zg_i D 1 (zn x4)) D).bind fun q1 =>
      g_R_sum_b1_17 D k q1 (x4 + 1)
      else none
def g_R_sum_b1_13 (s0 : Int64) (D : zx_D) : Option (Int64) :=
  (g_R_sum_b1_17 D 10000 s0 0).bind fun q2 =>
  some (q2 ^^^ (-1))
def g_R_sum_b1 (D : zx_D) : Option (Int64) :=
  g_R_sum_b1_13 (-1) D
def g_R_copy_41 (x1 : Int32) (x2 : Int32) : Nat → Int32 → zx_D → Option (zx_D)
  | 0, _, _ => none
  | k + 1, x3, D =>
    if x2 ≤ x3 then
      some D
    else
      if zk_in ((zg_i D 0 1) - x1) 400 = true then
      if zk_in (zg_i D 0 1) 400 = true then
      g_R_copy_41 x1 x2 k (x3 + 1) (zp_i (zp_i D 1 (zn (zg_i D 0 1)) (zg_i D 1 (zn ((zg_i D 0 1) - x1)))) 0 1 ((zg_i D 0 1) + 1))
      else none
      else none
def g_R_copy (x1 : Int32) (x2 : Int32) (D : zx_D) : Option (Int32 × zx_D) :=
  if x2 < 1 then
    some (-1, D)
  else
    if 300 < x2 then
      some (-1, D)
    else
      if x1 < 1 then
        some (-1, D)
      else
        if zg_i D 0 1 < x1 then
          some (-1, D)
        else
          if (zg_i D 0 1) + x2 ≤ 400 then
            (g_R_copy_41 x1 x2 10000 0 D).bind fun q1 =>
            some (zg_i q1 0 1, q1)
          else
            some (-1, D)
def g_R_change (x1 : Int32) (x2 : Int32) (D : zx_D) : Option (Int32 × zx_D) :=
  if x1 < 0 then
    some (-1, D)
  else
    if zg_i D 0 3 ≤ x1 then
      some (-1, D)
    else
      if x2 < 0 then
        some (-1, D)
      else
        if x2 ≤ 255 then
          if zk_in x1 640 = true then
          if zk_in x1 640 = true then
          some (zg_i D 2 (zn x1), zp_i D 2 (zn x1) x2)
          else none
          else none
        else
          some (-1, D)
def g_R_where (D : zx_D) : Option (Int32) :=
  some (zg_i D 0 30)
def g_R_watch (x1 : Int32) (D : zx_D) : Option (Int32 × zx_D) :=
  if 1 ≤ x1 then
    if x1 < 1 then
      some (0, zp_i D 0 37 x1)
    else
      some (1, zp_i D 0 37 x1)
  else
    if x1 < 1 then
      some (0, zp_i D 0 37 (zg_i D 0 37))
    else
      some (1, zp_i D 0 37 (zg_i D 0 37))
def g_R_range (D : zx_D) : Option (Int64) :=
  some (zg_l D 0 39)
def g_R_code (D : zx_D) : Option (Int64) :=
  some (zg_l D 0 40)
def g_R_count (x1 : Int32) (D : zx_D) : Option (Int32) :=
  if x1 < 0 then
    some (-1)
  else
    if x1 ≤ 10 then
      if zk_in x1 11 = true then
      some (zg_i D 9 (zn x1))
      else none
    else
      some (-1)
def g_R_isSort (x0 : Int32) (D : zx_D) : Option (Int32) :=
  if x0 = 0 then
    some 1
  else
    if x0 = 1 then
      some 1
    else
      if ¬ x0 = 4 then
        some 0
      else
        some 1
def g_R_isProperties (x0 : Int32) (D : zx_D) : Option (Int32) :=
  if x0 < 0 then
    some 0
  else
    if 225 ≤ x0 then
      some 0
    else
      if 4 ≤ (zo_rem x0 9) + (zo_rem (x0 / 9) 5) then
        some 0
      else
        some 1
def g_R_magic (x0 : Int32) (D : zx_D) : Option (Int32) :=
  if ¬ x0 = 0 then
    if ¬ x0 = 1 then
      if ¬ x0 = 2 then
        if ¬ x0 = 3 then
          if ¬ x0 = 4 then
            some 0
          else
            some 90
        else
          some 88
      else
        some 122
    else
      some 55
  else
    some 253
def g_R_write (x1 : Int32) (D : zx_D) : Option (zx_D) :=
  if 640 ≤ zg_i D 0 7 then
    some (zp_i D 0 7 ((zg_i D 0 7) + 1))
  else
    if zk_in (zg_i D 0 7) 640 = true then
    some (zp_i (zp_i D 4 (zn (zg_i D 0 7)) x1) 0 7 ((zg_i D 0 7) + 1))
    else none
def g_R_writeNumber_3 (x1 : Int64) (x3 : Int32) : Nat → Int32 → zx_D → Option (zx_D)
  | 0, _, _ => none
  | k + 1, x4, D =>
    if x3 ≤ x4 then
      some D
    else
      (g_R_write ((((zo_lshr x1 (8 * x4)) &&& 255)).toInt32) D).bind fun q1 =>
      g_R_writeNumber_3 x1 x3 k (x4 + 1) q1
def g_R_writeNumber (x1 : Int64) (x3 : Int32) (D : zx_D) : Option (zx_D) :=
  (g_R_writeNumber_3 x1 x3 10000 0 D).bind fun q2 =>
  some q2
def g_R_writeSum_7 (D : zx_D) : Nat → Int64 → Int32 → Option (Int64)
  | 0, _, _ => none
  | k + 1, x2, x4 =>
    if zg_i D 0 7 ≤ x4 then
      some x2
    else
      if 640 ≤ x4 then
        some x2
      else
        if zk_in x4 640 = true then
        (g_R_four x2 (zg_i D 4 (zn x4)) D).bind fun q1 =>
        g_R_writeSum_7 D k q1 (x4 + 1)
        else none
def g_R_writeSum (x1 : Int32) (D : zx_D) : Option (zx_D) :=
  (g_R_writeSum_7 D 10000 4294967295 x1).bind fun q2 =>
  (g_R_writeNumber (q2 ^^^ 4294967295) 4 D).bind fun q3 =>
  some q3
def g_R_anew_2 : Nat → Int32 → zx_D → Option (zx_D)
  | 0, _, _ => none
  | k + 1, x1, D =>
    if 8328 ≤ x1 then
      some D
    else
      if zk_in x1 8328 = true then
      g_R_anew_2 k (x1 + 1) (zp_i D 5 (zn x1) 1024)
      else none
def g_R_anew (D : zx_D) : Option (zx_D) :=
  (g_R_anew_2 10000 0 D).bind fun q1 =>
  some (zp_l (zp_l (zp_l (zp_l (zp_i q1 0 12 0) 0 13 1) 0 14 1) 0 15 1) 0 16 1)
def g_R_alike_3 (x1 : Int32) (x2 : Int64) (x4 : Int32) (D : zx_D) : Nat → Int32 → Option (Int32)
  | 0, _ => none
  | k + 1, x5 =>
    if (x1).toInt64 < x2 then
      some x5
    else
      if x4 ≤ x5 then
        some x5
      else
        if zk_in (x1 + x5) 400 = true then
        if zk_in ((x1 + x5) - ((x2).toInt32)) 400 = true then
        if ¬ zg_i D 1 (zn (x1 + x5)) = zg_i D 1 (zn ((x1 + x5) - ((x2).toInt32))) then
          some x5
        else
          g_R_alike_3 x1 x2 x4 D k (x5 + 1)
        else none
        else none
def g_R_alike (x1 : Int32) (x2 : Int64) (x4 : Int32) (D : zx_D) : Option (Int32) :=
  (g_R_alike_3 x1 x2 x4 D 10000 0).bind fun q1 =>
  some q1
def g_R_distanceOf (x1 : Int32) (D : zx_D) : Option (Int64) :=
  if ¬ x1 = 0 then
    if ¬ x1 = 1 then
      if ¬ x1 = 2 then
        some (zg_l D 0 16)
      else
        some (zg_l D 0 15)
    else
      some (zg_l D 0 14)
  else
    some (zg_l D 0 13)
def g_R_low4 (x1 : Int32) (D : zx_D) : Option (Int32) :=
  some (x1 &&& ((zo_shl 1 (zg_i D 0 11)) - 1))
def g_R_shiftOut (D : zx_D) : Option (zx_D) :=
  if zg_l D 0 17 < 16777216 then
    ((
      if ¬ zg_i D 0 27 = 0 then
        some 1
      else
        if (zg_i D 0 25) + 1 < zg_i D 0 26 then
          some 0
        else
          some 1
    ) : Option (Int32)).bind fun q1 =>
    if q1 = 0 ∨ q1 = 1 then
    if ¬ q1 = 0 then
      some (zp_i (zp_l D 0 17 ((zg_l D 0 17) * 256)) 0 27 q1)
    else
      if zk_in (zg_i D 0 25) 400 = true then
      some (zp_i (zp_i (zp_i (zp_l D 0 17 ((zg_l D 0 17) * 256)) 0 27 q1) 6 (zn (zg_i D 0 25)) 0) 0 25 ((zg_i D 0 25) + 1))
      else none
    else none
  else
    some D
def g_R_learn (x1 : Int32) (x2 : Int32) (D : zx_D) : Option (zx_D) :=
  if zk_in x1 8328 = true then
  if x2 = 0 then
    if zk_in x1 8328 = true then
    some (zp_i D 5 (zn x1) ((zg_i D 5 (zn x1)) + ((2048 - (zg_i D 5 (zn x1))) / 32)))
    else none
  else
    if zk_in x1 8328 = true then
    some (zp_i D 5 (zn x1) ((zg_i D 5 (zn x1)) - ((zg_i D 5 (zn x1)) / 32)))
    else none
  else none
def g_R_grow_10 : Nat → Int64 → Int32 → zx_D → Option (zx_D)
  | 0, _, _, _ => none
  | k + 1, x3, x5, D =>
    if x5 < 0 then
      some D
    else
      if x3 ≤ 0 then
        some D
      else
        if ¬ zg_i D 0 27 = 0 then
          some D
        else
          if zk_in x5 400 = true then
          if zk_in x5 400 = true then
          g_R_grow_10 k (zo_lshr (x3 + (((zg_i D 6 (zn x5))).toInt64)) 8) (x5 + (-1)) (zp_i D 6 (zn x5) ((((x3 + (((zg_i D 6 (zn x5))).toInt64)) &&& 255)).toInt32))
          else none
          else none
def g_R_grow (x1 : Int64) (D : zx_D) : Option (zx_D) :=
  (g_R_grow_10 10000 x1 ((zg_i D 0 25) - 1) D).bind fun q1 =>
  some q1
def g_R_put (x1 : Int32) (x2 : Int32) (D : zx_D) : Option (zx_D) :=
  (g_R_shiftOut D).bind fun q1 =>
  if zk_in x1 8328 = true then
  ((
    if ¬ x2 = 1 then
      some 0
    else
      some 1
  ) : Option (Int32)).bind fun q2 =>
  (g_R_learn x1 q2 q1).bind fun q3 =>
  ((
    if ¬ x2 = 1 then
      some q3
    else
      (g_R_grow (((zg_l q1 0 17) / 2048) * (((zg_i q1 5 (zn x1))).toInt64)) q3).bind fun q4 =>
      some q4
  ) : Option (zx_D)).bind fun q5 =>
  if ¬ x2 = 1 then
    some (zp_l q5 0 17 (((zg_l q1 0 17) / 2048) * (((zg_i q1 5 (zn x1))).toInt64)))
  else
    some (zp_l q5 0 17 ((zg_l q5 0 17) - (((zg_l q1 0 17) / 2048) * (((zg_i q1 5 (zn x1))).toInt64))))
  else none
def g_R_putTree_8 (x1 : Int32) (x3 : Int32) : Nat → Int32 → Int32 → zx_D → Option (zx_D)
  | 0, _, _, _ => none
  | k + 1, x4, x5, D =>
    if x5 < 0 then
      some D
    else
      (g_R_put (x1 + x4) ((zo_shr x3 x5) &&& 1) D).bind fun q1 =>
      g_R_putTree_8 x1 x3 k ((2 * x4) + ((zo_shr x3 x5) &&& 1)) (x5 + (-1)) q1
def g_R_putTree (x1 : Int32) (x2 : Int32) (x3 : Int32) (D : zx_D) : Option (zx_D) :=
  (g_R_putTree_8 x1 x3 10000 1 (x2 - 1) D).bind fun q2 =>
  some q2
def g_R_putLength (x1 : Int32) (x2 : Int32) (x3 : Int32) (D : zx_D) : Option (zx_D) :=
  ((
    if 10 ≤ x2 then
      some 1
    else
      some 0
  ) : Option (Int32)).bind fun q1 =>
  (g_R_put x1 q1 D).bind fun q2 =>
  if 10 ≤ x2 then
    ((
      if 18 ≤ x2 then
        some 1
      else
        some 0
    ) : Option (Int32)).bind fun q3 =>
    (g_R_put (x1 + 1) q3 q2).bind fun q4 =>
    if 18 ≤ x2 then
      (g_R_putTree (x1 + 258) 8 (x2 - 18) q4).bind fun q5 =>
      some q5
    else
      (g_R_putTree ((x1 + 130) + (8 * x3)) 3 (x2 - 10) q4).bind fun q6 =>
      some q6
  else
    (g_R_putTree ((x1 + 2) + (8 * x3)) 3 (x2 - 2) q2).bind fun q7 =>
    some q7
def g_R_putBackwards_6 (x1 : Int32) (x2 : Int32) (x3 : Int32) : Nat → Int32 → Int32 → zx_D → Option (zx_D)
  | 0, _, _, _ => none
  | k + 1, x4, x5, D =>
    if x2 ≤ x5 then
      some D
    else
      (g_R_put (x1 + x4) ((zo_shr x3 x5) &&& 1) D).bind fun q1 =>
      g_R_putBackwards_6 x1 x2 x3 k ((2 * x4) + ((zo_shr x3 x5) &&& 1)) (x5 + 1) q1
def g_R_putBackwards (x1 : Int32) (x2 : Int32) (x3 : Int32) (D : zx_D) : Option (zx_D) :=
  (g_R_putBackwards_6 x1 x2 x3 10000 1 0 D).bind fun q2 =>
  some q2
def g_R_putEven (x1 : Int32) (D : zx_D) : Option (zx_D) :=
  (g_R_shiftOut D).bind fun q1 =>
  if ¬ x1 = 1 then
    some (zp_l q1 0 17 ((zg_l q1 0 17) / 2))
  else
    (g_R_grow ((zg_l q1 0 17) / 2) (zp_l q1 0 17 ((zg_l q1 0 17) / 2))).bind fun q2 =>
    some q2
def g_R_putCopy_78 (x2 : Int32) (x4 : Int32) (D : zx_D) : Nat → Int32 → Option (Int32)
  | 0, _ => none
  | k + 1, x5 =>
    if zo_shr x4 x5 ≤ 1 then
      some x5
    else
      g_R_putCopy_78 x2 x4 D k (x5 + 1)
def g_R_putCopy_219 (x7 : Int32) : Nat → Int32 → zx_D → Option (zx_D)
  | 0, _, _ => none
  | k + 1, x8, D =>
    if x8 ≤ 3 then
      some D
    else
      (g_R_putEven ((zo_shr x7 x8) &&& 1) D).bind fun q11 =>
      g_R_putCopy_219 x7 k (x8 + (-1)) q11
def g_R_putCopy (x1 : Int32) (x2 : Int32) (x3 : Int32) (D : zx_D) : Option (zx_D) :=
  (g_R_put ((6144 + (16 * (zg_i D 0 12))) + x3) 1 D).bind fun q1 =>
  (g_R_put (6528 + (zg_i q1 0 12)) 0 q1).bind fun q2 =>
  (g_R_putLength 6576 x2 x3 (zp_l (zp_l (zp_l (zp_l q2 0 16 (zg_l q2 0 15)) 0 15 (zg_l q2 0 14)) 0 14 (zg_l q2 0 13)) 0 13 ((x1).toInt64))).bind fun q3 =>
  (g_R_putCopy_78 x2 (x1 - 1) q3 10000 0).bind fun q4 =>
  ((
    if 4 ≤ x1 - 1 then
      some ((2 * q4) + ((zo_shr (x1 - 1) (q4 - 1)) &&& 1))
    else
      some (x1 - 1)
  ) : Option (Int32)).bind fun q5 =>
  ((
    if 5 ≤ x2 then
      some 3
    else
      some (x2 - 2)
  ) : Option (Int32)).bind fun q6 =>
  (g_R_putTree (7608 + (64 * q6)) 6 q5 q3).bind fun q7 =>
  ((
    if 4 ≤ x1 - 1 then
      some ((x1 - 1) &&& ((zo_shl 1 (q4 - 1)) - 1))
    else
      some 0
  ) : Option (Int32)).bind fun q8 =>
  ((
    if q5 ≤ 3 then
      some q7
    else
      if 14 ≤ q5 then
        some q7
      else
        (g_R_putBackwards ((7864 + (32 * q5)) - 128) (q4 - 1) q8 q7).bind fun q9 =>
        some q9
  ) : Option (zx_D)).bind fun q10 =>
  if q5 ≤ 13 then
    if 7 ≤ zg_i q10 0 12 then
      some (zp_i q10 0 12 10)
    else
      some (zp_i q10 0 12 7)
  else
    (g_R_putCopy_219 q8 10000 (q4 - 2) q10).bind fun q12 =>
    (g_R_putBackwards 8312 4 (q8 &&& 15) q12).bind fun q13 =>
    if 7 ≤ zg_i q13 0 12 then
      some (zp_i q13 0 12 10)
    else
      some (zp_i q13 0 12 7)
def g_R_context (x1 : Int32) (x2 : Int32) (D : zx_D) : Option (Int32) :=
  some (0 + (768 * ((zo_shl (x1 &&& ((zo_shl 1 (zg_i D 0 10)) - 1)) (zg_i D 0 9)) + (zo_shr x2 (8 - (zg_i D 0 9))))))
def g_R_after (x0 : Int32) (D : zx_D) : Option (Int32) :=
  if 4 ≤ x0 then
    if 10 ≤ x0 then
      some (x0 - 6)
    else
      some (x0 - 3)
  else
    some 0
def g_R_putLiteral_94 (x3 : Int32) (x5 : Int32) (x6 : Int32) : Nat → Int32 → Int32 → Int32 → zx_D → Option (zx_D)
  | 0, _, _, _, _ => none
  | k + 1, x4, x7, x8, D =>
    if x8 < 0 then
      some D
    else
      ((
        if x4 = 0 then
          some (x3 + x7)
        else
          some (((x3 + 256) + (256 * ((zo_shr x5 x8) &&& 1))) + x7)
      ) : Option (Int32)).bind fun q6 =>
      (g_R_put q6 ((zo_shr x6 x8) &&& 1) D).bind fun q7 =>
      if x4 = 0 then
        g_R_putLiteral_94 x3 x5 x6 k 0 ((2 * x7) + ((zo_shr x6 x8) &&& 1)) (x8 + (-1)) q7
      else
        if ¬ (zo_shr x6 x8) &&& 1 = (zo_shr x5 x8) &&& 1 then
          g_R_putLiteral_94 x3 x5 x6 k 0 ((2 * x7) + ((zo_shr x6 x8) &&& 1)) (x8 + (-1)) q7
        else
          g_R_putLiteral_94 x3 x5 x6 k 1 ((2 * x7) + ((zo_shr x6 x8) &&& 1)) (x8 + (-1)) q7
def g_R_putLiteral (x1 : Int32) (x2 : Int32) (D : zx_D) : Option (zx_D) :=
  (g_R_put ((6144 + (16 * (zg_i D 0 12))) + x2) 0 D).bind fun q1 =>
  ((
    if ¬ x1 = 0 then
      if zk_in (x1 - 1) 400 = true then
      some (zg_i q1 1 (zn (x1 - 1)))
      else none
    else
      some 0
  ) : Option (Int32)).bind fun q2 =>
  (g_R_context x1 q2 q1).bind fun q3 =>
  ((
    if zg_i q1 0 12 ≤ 6 then
      some 0
    else
      some 1
  ) : Option (Int32)).bind fun q4 =>
  ((
    if q4 = 0 then
      some 0
    else
      if zk_in (x1 - (((zg_l q1 0 13)).toInt32)) 400 = true then
      some (zg_i q1 1 (zn (x1 - (((zg_l q1 0 13)).toInt32))))
      else none
  ) : Option (Int32)).bind fun q5 =>
  if zk_in x1 400 = true then
  (g_R_putLiteral_94 q3 q5 (zg_i q1 1 (zn x1)) 10000 q4 1 7 q1).bind fun q8 =>
  (g_R_after (zg_i q8 0 12) q8).bind fun q9 =>
  some (zp_i q8 0 12 q9)
  else none
def g_R_turn (x1 : Int32) (D : zx_D) : Option (zx_D) :=
  ((
    if ¬ x1 = 0 then
      if ¬ x1 = 1 then
        if ¬ x1 = 2 then
          some (zg_l D 0 16)
        else
          some (zg_l D 0 15)
      else
        some (zg_l D 0 14)
    else
      some (zg_l D 0 13)
  ) : Option (Int64)).bind fun q1 =>
  ((
    if x1 ≤ 2 then
      some (zg_l D 0 16)
    else
      some (zg_l D 0 15)
  ) : Option (Int64)).bind fun q2 =>
  ((
    if x1 ≤ 1 then
      some (zg_l D 0 15)
    else
      some (zg_l D 0 14)
  ) : Option (Int64)).bind fun q3 =>
  if x1 ≤ 0 then
    some (zp_l (zp_l (zp_l (zp_l D 0 16 q2) 0 15 q3) 0 14 (zg_l D 0 14)) 0 13 q1)
  else
    some (zp_l (zp_l (zp_l (zp_l D 0 16 q2) 0 15 q3) 0 14 (zg_l D 0 13)) 0 13 q1)
def g_R_putRepeated (x1 : Int32) (x2 : Int32) (x3 : Int32) (D : zx_D) : Option (zx_D) :=
  (g_R_put ((6144 + (16 * (zg_i D 0 12))) + x3) 1 D).bind fun q1 =>
  (g_R_put (6528 + (zg_i q1 0 12)) 1 q1).bind fun q2 =>
  ((
    if ¬ x1 = 0 then
      some 1
    else
      some 0
  ) : Option (Int32)).bind fun q3 =>
  (g_R_put (6540 + (zg_i q2 0 12)) q3 q2).bind fun q4 =>
  ((
    if ¬ x1 = 0 then
      ((
        if ¬ x1 = 1 then
          some 1
        else
          some 0
      ) : Option (Int32)).bind fun q5 =>
      (g_R_put (6552 + (zg_i q4 0 12)) q5 q4).bind fun q6 =>
      if x1 ≤ 1 then
        some q6
      else
        (g_R_put (6564 + (zg_i q6 0 12)) (x1 - 2) q6).bind fun q7 =>
        some q7
    else
      (g_R_put ((6336 + (16 * (zg_i q4 0 12))) + x3) 1 q4).bind fun q8 =>
      some q8
  ) : Option (zx_D)).bind fun q9 =>
  (g_R_turn x1 q9).bind fun q10 =>
  (g_R_putLength 7092 x2 x3 q10).bind fun q11 =>
  if 7 ≤ zg_i q11 0 12 then
    some (zp_i q11 0 12 11)
  else
    some (zp_i q11 0 12 8)
def g_R_putToken_24 (x1 : Int32) (x3 : Int32) (D : zx_D) : Nat → Int32 → Int32 → Int32 → Option (Int32 × Int32)
  | 0, _, _, _ => none
  | k + 1, x4, x5, x6 =>
    if x1 < x6 then
      some (x4, x5)
    else
      (g_R_alike x1 ((x6).toInt64) x3 D).bind fun q2 =>
      if q2 ≤ x4 then
        g_R_putToken_24 x1 x3 D k x4 x5 (x6 + 1)
      else
        g_R_putToken_24 x1 x3 D k q2 x6 (x6 + 1)
def g_R_putToken_85 (x1 : Int32) (x3 : Int32) (x4 : Int32) (x5 : Int32) (D : zx_D) : Nat → Int32 → Int32 → Option (Int32)
  | 0, _, _ => none
  | k + 1, x6, x7 =>
    if 4 ≤ x7 then
      some x6
    else
      (g_R_distanceOf x7 D).bind fun q4 =>
      (g_R_alike x1 q4 x3 D).bind fun q5 =>
      (g_R_distanceOf x6 D).bind fun q6 =>
      (g_R_alike x1 q6 x3 D).bind fun q7 =>
      if q5 ≤ q7 then
        g_R_putToken_85 x1 x3 x4 x5 D k x6 (x7 + 1)
      else
        g_R_putToken_85 x1 x3 x4 x5 D k x7 (x7 + 1)
def g_R_putToken_215 (x1 : Int32) (x3 : Int32) (x8 : Int32) (D : zx_D) : Option (Int32 × zx_D) :=
  (g_R_alike x1 (zg_l D 0 13) x3 D).bind fun q13 =>
  if ¬ q13 = 1 then
    (g_R_putLiteral x1 x8 D).bind fun q14 =>
    some (1, q14)
  else
    (g_R_put ((6144 + (16 * (zg_i D 0 12))) + x8) 1 D).bind fun q15 =>
    (g_R_put (6528 + (zg_i q15 0 12)) 1 q15).bind fun q16 =>
    (g_R_put (6540 + (zg_i q16 0 12)) 0 q16).bind fun q17 =>
    (g_R_put ((6336 + (16 * (zg_i q17 0 12))) + x8) 0 q17).bind fun q18 =>
    if 7 ≤ zg_i q18 0 12 then
      some (1, zp_i q18 0 12 11)
    else
      some (1, zp_i q18 0 12 9)
def g_R_putToken_182 (x1 : Int32) (x3 : Int32) (x4 : Int32) (x5 : Int32) (x8 : Int32) (D : zx_D) : Option (Int32 × zx_D) :=
  if 2 < x4 then
    (g_R_putCopy x5 x4 x8 D).bind fun q12 =>
    some (x4, q12)
  else
    if ¬ x4 = 2 then
      g_R_putToken_215 x1 x3 x8 D
    else
      if 128 < x5 then
        g_R_putToken_215 x1 x3 x8 D
      else
        (g_R_putCopy x5 x4 x8 D).bind fun q19 =>
        some (x4, q19)
def g_R_putToken (x1 : Int32) (x2 : Int32) (D : zx_D) : Option (Int32 × zx_D) :=
  ((
    if 273 ≤ x2 then
      some 273
    else
      some x2
  ) : Option (Int32)).bind fun q1 =>
  (g_R_putToken_24 x1 q1 D 10000 0 0 1).bind fun q3 =>
  (g_R_putToken_85 x1 q1 q3.1 q3.2 D 10000 0 1).bind fun q8 =>
  (g_R_distanceOf q8 D).bind fun q9 =>
  (g_R_alike x1 q9 q1 D).bind fun q10 =>
  (g_R_low4 x1 D).bind fun q11 =>
  if q10 ≤ 1 then
    g_R_putToken_182 x1 q1 q3.1 q3.2 q11 D
  else
    if q10 + 1 < q3.1 then
      g_R_putToken_182 x1 q1 q3.1 q3.2 q11 D
    else
      (g_R_putRepeated q8 q10 q11 D).bind fun q20 =>
      some (q10, q20)
def g_R_squeeze_34 (x1 : Int32) (x2 : Int32) : Nat → Int32 → zx_D → Option (zx_D)
  | 0, _, _ => none
  | k + 1, x3, D =>
    if 5 ≤ x3 then
      some D
    else
      if ¬ zg_i D 0 27 = 0 then
        some D
      else
        if zk_in x3 400 = true then
        g_R_squeeze_34 x1 x2 k (x3 + 1) (zp_i (zp_i D 6 (zn x3) 0) 0 25 ((zg_i D 0 25) + 1))
        else none
def g_R_squeeze_71 (x1 : Int32) (x2 : Int32) : Nat → Int32 → zx_D → Option (zx_D)
  | 0, _, _ => none
  | k + 1, x3, D =>
    if x2 ≤ x3 then
      some D
    else
      if ¬ zg_i D 0 27 = 0 then
        some D
      else
        (g_R_putToken (x1 + x3) (x2 - x3) D).bind fun q3 =>
        g_R_squeeze_71 x1 x2 k (x3 + q3.1) q3.2
def g_R_squeeze (x1 : Int32) (x2 : Int32) (D : zx_D) : Option (Int32 × zx_D) :=
  ((
    if 6 ≤ x2 then
      some 0
    else
      some 1
  ) : Option (Int32)).bind fun q1 =>
  if q1 = 0 ∨ q1 = 1 then
  (g_R_squeeze_34 x1 x2 10000 0 (zp_i (zp_i (zp_i (zp_l D 0 17 4294967295) 0 25 0) 0 26 x2) 0 27 q1)).bind fun q2 =>
  (g_R_squeeze_71 x1 x2 10000 0 q2).bind fun q4 =>
  if ¬ zg_i q4 0 27 = 0 then
    some (0, q4)
  else
    (g_R_shiftOut q4).bind fun q5 =>
    if ¬ zg_i q5 0 27 = 0 then
      some (0, q5)
    else
      some (1, q5)
  else none
def g_R_writeChunks_256 (x1 : Int32) (x2 : Int32) (x3 : Int32) (x4 : Int32) (x5 : Int32) : Nat → Int32 → zx_D → Option (zx_D)
  | 0, _, _ => none
  | k + 1, x6, D =>
    if x5 ≤ x6 then
      some D
    else
      if zk_in (x4 + x6) 400 = true then
      (g_R_write (zg_i D 1 (zn (x4 + x6))) D).bind fun q9 =>
      g_R_writeChunks_256 x1 x2 x3 x4 x5 k (x6 + 1) q9
      else none
def g_R_writeChunks_185 (x1 : Int32) (x2 : Int32) (x4 : Int32) : Nat → Int32 → zx_D → Option (zx_D)
  | 0, _, _ => none
  | k + 1, x6, D =>
    if zg_i D 0 25 ≤ x6 then
      some D
    else
      if zk_in x6 400 = true then
      (g_R_write (zg_i D 6 (zn x6)) D).bind fun q19 =>
      g_R_writeChunks_185 x1 x2 x4 k (x6 + 1) q19
      else none
def g_R_writeChunks_31 (x1 : Int32) (x2 : Int32) : Nat → Int32 → Int32 → zx_D → Option (zx_D)
  | 0, _, _, _ => none
  | k + 1, x3, x4, D =>
    if zg_i D 0 1 ≤ x4 then
      some D
    else
      ((
        if x2 ≤ (zg_i D 0 1) - x4 then
          some x2
        else
          some ((zg_i D 0 1) - x4)
      ) : Option (Int32)).bind fun q1 =>
      ((
        if x3 = 1 then
          some D
        else
          (g_R_anew D).bind fun q2 =>
          some q2
      ) : Option (zx_D)).bind fun q3 =>
      (g_R_squeeze x4 q1 q3).bind fun q4 =>
      if q4.1 = 0 then
        ((
          if ¬ x4 = 0 then
            some 2
          else
            some 1
        ) : Option (Int32)).bind fun q5 =>
        (g_R_write q5 q4.2).bind fun q6 =>
        (g_R_write (zo_shr (q1 - 1) 8) q6).bind fun q7 =>
        (g_R_write ((q1 - 1) &&& 255) q7).bind fun q8 =>
        (g_R_writeChunks_256 x1 x2 x3 x4 q1 10000 0 q8).bind fun q10 =>
        if ¬ x3 = 0 then
          g_R_writeChunks_31 x1 x2 k 2 (x4 + x2) q10
        else
          g_R_writeChunks_31 x1 x2 k 0 (x4 + x2) q10
      else
        ((
          if ¬ x4 = 0 then
            if ¬ x3 = 0 then
              if ¬ x3 = 1 then
                some 160
              else
                some 128
            else
              some 192
          else
            some 224
        ) : Option (Int32)).bind fun q11 =>
        (g_R_write q11 q4.2).bind fun q12 =>
        (g_R_write (zo_shr (q1 - 1) 8) q12).bind fun q13 =>
        (g_R_write ((q1 - 1) &&& 255) q13).bind fun q14 =>
        (g_R_write (zo_shr ((zg_i q14 0 25) - 1) 8) q14).bind fun q15 =>
        (g_R_write (((zg_i q15 0 25) - 1) &&& 255) q15).bind fun q16 =>
        ((
          if ¬ x3 = 0 then
            some q16
          else
            (g_R_write x1 q16).bind fun q17 =>
            some q17
        ) : Option (zx_D)).bind fun q18 =>
        (g_R_writeChunks_185 x1 x2 x4 10000 0 q18).bind fun q20 =>
        g_R_writeChunks_31 x1 x2 k 1 (x4 + x2) q20
def g_R_writeChunks (x1 : Int32) (x2 : Int32) (D : zx_D) : Option (zx_D) :=
  (g_R_writeChunks_31 x1 x2 10000 0 0 (zp_i (zp_i (zp_i D 0 9 (zo_rem x1 9)) 0 10 (zo_rem (x1 / 9) 5)) 0 11 (x1 / 45))).bind fun q21 =>
  (g_R_write 0 q21).bind fun q22 =>
  some q22
def g_R_writeZeros_0 (x1 : Int32) : Nat → zx_D → Option (zx_D)
  | 0, _ => none
  | k + 1, D =>
    if zo_rem ((zg_i D 0 7) - x1) 4 = 0 then
      some D
    else
      (g_R_write 0 D).bind fun q2 =>
      g_R_writeZeros_0 x1 k q2
def g_R_writeZeros (x1 : Int32) (D : zx_D) : Option (zx_D) :=
  if zo_rem ((zg_i D 0 7) - x1) 4 = 0 then
    some D
  else
    (g_R_write 0 D).bind fun q1 =>
    (g_R_writeZeros_0 x1 10000 q1).bind fun q3 =>
    some q3
def g_R_writeBlock_30 (x1 : Int32) (x2 : Int32) (x3 : Int32) (x4 : Int32) : Nat → Int32 → zx_D → Option (zx_D)
  | 0, _, _ => none
  | k + 1, x5, D =>
    if 4 ≤ x5 then
      some D
    else
      (g_R_write 0 D).bind fun q5 =>
      g_R_writeBlock_30 x1 x2 x3 x4 k (x5 + 1) q5
def g_R_writeBlock (x1 : Int32) (x2 : Int32) (x3 : Int32) (D : zx_D) : Option (Int32 × zx_D) :=
  (g_R_write 2 D).bind fun q1 =>
  (g_R_write 0 q1).bind fun q2 =>
  (g_R_write 33 q2).bind fun q3 =>
  (g_R_write 1 q3).bind fun q4 =>
  (g_R_writeBlock_30 x1 x2 x3 (zg_i D 0 7) 10000 0 q4).bind fun q6 =>
  (g_R_writeSum (zg_i D 0 7) q6).bind fun q7 =>
  (g_R_writeChunks x2 x3 q7).bind fun q8 =>
  (g_R_writeZeros (zg_i D 0 7) q8).bind fun q9 =>
  ((
    if ¬ x1 = 0 then
      if ¬ x1 = 1 then
        some 8
      else
        some 4
    else
      some 0
  ) : Option (Int32)).bind fun q10 =>
  if ¬ x1 = 0 then
    if ¬ x1 = 4 then
      (g_R_sum_b0 q9).bind fun q11 =>
      (g_R_writeNumber q11 q10 q9).bind fun q12 =>
      some (((zg_i q8 0 7) - (zg_i D 0 7)) + q10, q12)
    else
      (g_R_sum_b1 q9).bind fun q13 =>
      (g_R_writeNumber q13 q10 q9).bind fun q14 =>
      some (((zg_i q8 0 7) - (zg_i D 0 7)) + q10, q14)
  else
    (g_R_writeNumber 0 q10 q9).bind fun q15 =>
    some (((zg_i q8 0 7) - (zg_i D 0 7)) + q10, q15)
def g_R_writeVli_2 : Nat → Int32 → zx_D → Option (Int32 × zx_D)
  | 0, _, _ => none
  | k + 1, x2, D =>
    if x2 ≤ 127 then
      some (x2, D)
    else
      (g_R_write ((x2 &&& 127) ||| 128) D).bind fun q1 =>
      g_R_writeVli_2 k (zo_shr x2 7) q1
def g_R_writeVli (x1 : Int32) (D : zx_D) : Option (zx_D) :=
  (g_R_writeVli_2 10000 x1 D).bind fun q2 =>
  (g_R_write q2.1 q2.2).bind fun q3 =>
  some q3
def g_R_pack_37 (x1 : Int32) (x2 : Int32) (x3 : Int32) : Nat → Int32 → zx_D → Option (zx_D)
  | 0, _, _ => none
  | k + 1, x4, D =>
    if 6 ≤ x4 then
      some D
    else
      (g_R_magic x4 D).bind fun q3 =>
      (g_R_write q3 D).bind fun q4 =>
      g_R_pack_37 x1 x2 x3 k (x4 + 1) q4
def g_R_pack_176 (x1 : Int32) (x6 : Int32) (D : zx_D) : Nat → Int64 → Int32 → Option (Int64)
  | 0, _, _ => none
  | k + 1, x7, x9 =>
    if 6 ≤ x9 then
      some x7
    else
      if 4 ≤ x9 then
        if ¬ x9 = 4 then
          (g_R_four x7 x1 D).bind fun q19 =>
          g_R_pack_176 x1 x6 D k q19 (x9 + 1)
        else
          (g_R_four x7 0 D).bind fun q20 =>
          g_R_pack_176 x1 x6 D k q20 (x9 + 1)
      else
        (g_R_four x7 ((zo_shr x6 (8 * x9)) &&& 255) D).bind fun q21 =>
        g_R_pack_176 x1 x6 D k q21 (x9 + 1)
def g_R_pack_293 : Nat → Int32 → zx_D → Option (zx_D)
  | 0, _, _ => none
  | k + 1, x9, D =>
    if zg_i D 0 7 ≤ x9 then
      some D
    else
      if zk_in x9 640 = true then
      if zk_in x9 640 = true then
      g_R_pack_293 k (x9 + 1) (zp_i D 2 (zn x9) (zg_i D 4 (zn x9)))
      else none
      else none
def g_R_pack (x1 : Int32) (x2 : Int32) (x3 : Int32) (D : zx_D) : Option (Int32 × zx_D) :=
  (g_R_isSort x1 D).bind fun q1 =>
  if q1 = 0 then
    some (-3, D)
  else
    (g_R_isProperties x2 D).bind fun q2 =>
    if q2 = 0 then
      some (-3, D)
    else
      if x3 < 1 then
        some (-3, D)
      else
        if x3 ≤ 400 then
          (g_R_pack_37 x1 x2 x3 10000 0 (zp_i D 0 7 0)).bind fun q5 =>
          (g_R_write 0 q5).bind fun q6 =>
          (g_R_write x1 q6).bind fun q7 =>
          (g_R_writeSum 6 q7).bind fun q8 =>
          ((
            if zg_i q8 0 1 ≤ 0 then
              some (0, q8)
            else
              (g_R_writeBlock x1 x2 x3 q8).bind fun q9 =>
              some (q9.1, q9.2)
          ) : Option (Int32 × zx_D)).bind fun q10 =>
          (g_R_write 0 q10.2).bind fun q11 =>
          ((
            if zg_i q11 0 1 ≤ 0 then
              some 0
            else
              some 1
          ) : Option (Int32)).bind fun q12 =>
          (g_R_writeVli q12 q11).bind fun q13 =>
          ((
            if zg_i q13 0 1 ≤ 0 then
              some q13
            else
              (g_R_writeVli q10.1 q13).bind fun q14 =>
              (g_R_writeVli (zg_i q14 0 1) q14).bind fun q15 =>
              some q15
          ) : Option (zx_D)).bind fun q16 =>
          (g_R_writeZeros (zg_i q10.2 0 7) q16).bind fun q17 =>
          (g_R_writeSum (zg_i q10.2 0 7) q17).bind fun q18 =>
          (g_R_pack_176 x1 ((((zg_i q18 0 7) - (zg_i q10.2 0 7)) / 4) - 1) q18 10000 4294967295 0).bind fun q22 =>
          (g_R_writeNumber (q22 ^^^ 4294967295) 4 q18).bind fun q23 =>
          (g_R_writeNumber ((((((zg_i q18 0 7) - (zg_i q10.2 0 7)) / 4) - 1)).toInt64) 4 q23).bind fun q24 =>
          (g_R_write 0 q24).bind fun q25 =>
          (g_R_write x1 q25).bind fun q26 =>
          (g_R_write 89 q26).bind fun q27 =>
          (g_R_write 90 q27).bind fun q28 =>
          if zg_i q28 0 7 ≤ 640 then
            (g_R_pack_293 10000 0 (zp_i q28 0 3 (zg_i q28 0 7))).bind fun q29 =>
            some (zg_i q29 0 3, q29)
          else
            some (-5, q28)
        else
          some (-3, D)
def g_R_fail (x1 : Int32) (x2 : Int32) (D : zx_D) : Option (zx_D) :=
  if ¬ zg_i D 0 29 = 0 then
    some (zp_i (zp_i D 0 30 (zg_i D 0 30)) 0 29 (zg_i D 0 29))
  else
    some (zp_i (zp_i D 0 30 x2) 0 29 x1)
def g_R_has (x1 : Int32) (D : zx_D) : Option (Int32 × zx_D) :=
  if x1 ≤ (zg_i D 0 3) - (zg_i D 0 28) then
    if ¬ zg_i D 0 29 = 0 then
      some (0, D)
    else
      some (1, D)
  else
    (g_R_fail (-2) (zg_i D 0 28) D).bind fun q1 =>
    if ¬ zg_i q1 0 29 = 0 then
      some (0, q1)
    else
      some (1, q1)
def g_R_number_7 (x1 : Int32) (D : zx_D) : Nat → Int64 → Int32 → Option (Int64)
  | 0, _, _ => none
  | k + 1, x3, x5 =>
    if x5 < 0 then
      some x3
    else
      if zk_in (x1 + x5) 640 = true then
      g_R_number_7 x1 D k ((zo_lshl x3 8) ||| (((zg_i D 2 (zn (x1 + x5)))).toInt64)) (x5 + (-1))
      else none
def g_R_number (x1 : Int32) (x2 : Int32) (D : zx_D) : Option (Int64) :=
  (g_R_number_7 x1 D 10000 0 (x2 - 1)).bind fun q1 =>
  some q1
def g_R_fourOfPacked_7 (x2 : Int32) (D : zx_D) : Nat → Int64 → Int32 → Option (Int64)
  | 0, _, _ => none
  | k + 1, x3, x5 =>
    if x2 ≤ x5 then
      some x3
    else
      if zk_in x5 640 = true then
      (g_R_four x3 (zg_i D 2 (zn x5)) D).bind fun q1 =>
      g_R_fourOfPacked_7 x2 D k q1 (x5 + 1)
      else none
def g_R_fourOfPacked (x1 : Int32) (x2 : Int32) (D : zx_D) : Option (Int64) :=
  (g_R_fourOfPacked_7 x2 D 10000 4294967295 x1).bind fun q2 =>
  some (q2 ^^^ 4294967295)
def g_R_sumOf (x1 : Int32) (D : zx_D) : Option (zx_D) :=
  (g_R_has 4 D).bind fun q1 =>
  if q1.1 = 0 then
    some q1.2
  else
    (g_R_number (zg_i q1.2 0 28) 4 q1.2).bind fun q2 =>
    (g_R_fourOfPacked x1 (zg_i q1.2 0 28) q1.2).bind fun q3 =>
    if q2 = q3 then
      some (zp_i q1.2 0 28 ((zg_i q1.2 0 28) + 4))
    else
      (g_R_fail (-4) (zg_i q1.2 0 28) q1.2).bind fun q4 =>
      some (zp_i q4 0 28 ((zg_i q4 0 28) + 4))
def g_R_begin_17 : Nat → Int32 → zx_D → Option (zx_D)
  | 0, _, _ => none
  | k + 1, x1, D =>
    if 6 ≤ x1 then
      some D
    else
      if zk_in x1 640 = true then
      (g_R_magic x1 D).bind fun q2 =>
      if zg_i D 2 (zn x1) = q2 then
        g_R_begin_17 k (x1 + 1) D
      else
        (g_R_fail (-3) 0 D).bind fun q3 =>
        g_R_begin_17 k (x1 + 1) q3
      else none
def g_R_begin (D : zx_D) : Option (zx_D) :=
  (g_R_has 6 (zp_i D 0 28 0)).bind fun q1 =>
  if ¬ q1.1 = 0 then
    (g_R_begin_17 10000 0 q1.2).bind fun q4 =>
    (g_R_has 2 (zp_i q4 0 28 6)).bind fun q5 =>
    if ¬ q5.1 = 0 then
      ((
        if ¬ zg_i q5.2 2 (zn 6) = 0 then
          (g_R_fail (-3) 6 (zp_i q5.2 0 31 (zg_i q5.2 2 (zn 7)))).bind fun q6 =>
          some q6
        else
          (g_R_isSort (zg_i q5.2 2 (zn 7)) (zp_i q5.2 0 31 (zg_i q5.2 2 (zn 7)))).bind fun q7 =>
          if ¬ q7 = 0 then
            some (zp_i q5.2 0 31 (zg_i q5.2 2 (zn 7)))
          else
            (g_R_fail (-3) 6 (zp_i q5.2 0 31 (zg_i q5.2 2 (zn 7)))).bind fun q8 =>
            some q8
      ) : Option (zx_D)).bind fun q9 =>
      if ¬ zg_i q9 0 29 = 0 then
        some (zp_i q9 0 28 8)
      else
        (g_R_sumOf 6 (zp_i q9 0 28 8)).bind fun q10 =>
        some q10
    else
      some q5.2
  else
    some q1.2
def g_R_vli_11 (x1 : Int32) (x2 : Int32) (x3 : Int32) : Nat → Int64 → Int32 → zx_D → Option (Int64 × zx_D)
  | 0, _, _, _ => none
  | k + 1, x4, x6, D =>
    if 9 ≤ x6 then
      (g_R_fail (-3) x3 D).bind fun q1 =>
      some (0, q1)
    else
      if ¬ zg_i D 0 29 = 0 then
        (g_R_fail (-3) x3 D).bind fun q2 =>
        some (0, q2)
      else
        if zg_i D 0 28 < x1 then
          if zk_in (zg_i D 0 28) 640 = true then
          if 128 ≤ zg_i D 2 (zn (zg_i D 0 28)) then
            g_R_vli_11 x1 x2 x3 k (x4 ||| (zo_lshl ((((zg_i D 2 (zn (zg_i D 0 28))) &&& 127)).toInt64) (7 * x6))) (x6 + 1) (zp_i D 0 28 ((zg_i D 0 28) + 1))
          else
            if ¬ zg_i D 2 (zn (zg_i D 0 28)) = 0 then
              some (x4 ||| (zo_lshl ((((zg_i D 2 (zn (zg_i D 0 28))) &&& 127)).toInt64) (7 * x6)), zp_i D 0 28 ((zg_i D 0 28) + 1))
            else
              if x6 ≤ 0 then
                some (x4 ||| (zo_lshl ((((zg_i D 2 (zn (zg_i D 0 28))) &&& 127)).toInt64) (7 * x6)), zp_i D 0 28 ((zg_i D 0 28) + 1))
              else
                (g_R_fail (-3) x3 (zp_i D 0 28 ((zg_i D 0 28) + 1))).bind fun q3 =>
                some (x4 ||| (zo_lshl ((((zg_i D 2 (zn (zg_i D 0 28))) &&& 127)).toInt64) (7 * x6)), q3)
          else none
        else
          (g_R_fail x2 x3 D).bind fun q4 =>
          some (0, q4)
def g_R_vli (x1 : Int32) (x2 : Int32) (D : zx_D) : Option (Int64 × zx_D) :=
  g_R_vli_11 x1 x2 (zg_i D 0 28) 10000 0 0 D
def g_R_headByte (x1 : Int32) (D : zx_D) : Option (Int32 × zx_D) :=
  if zg_i D 0 29 = 0 then
    if zg_i D 0 28 < x1 then
      if zk_in (((zg_i D 0 28) + 1) - 1) 640 = true then
      some (zg_i D 2 (zn (((zg_i D 0 28) + 1) - 1)), zp_i D 0 28 ((zg_i D 0 28) + 1))
      else none
    else
      (g_R_fail (-3) (zg_i D 0 28) D).bind fun q1 =>
      some (0, q1)
  else
    some (0, D)
def g_R_length (x1 : Int32) (D : zx_D) : Option (Int32 × zx_D) :=
  if ¬ zg_i D 0 29 = 0 then
    some (0, D)
  else
    (g_R_has 2 D).bind fun q1 =>
    if ¬ q1.1 = 0 then
      if zk_in (((zg_i q1.2 0 28) + 2) - 2) 640 = true then
      if zk_in (((zg_i q1.2 0 28) + 2) - 1) 640 = true then
      some ((((zo_shl x1 16) ||| (zo_shl (zg_i q1.2 2 (zn (((zg_i q1.2 0 28) + 2) - 2))) 8)) ||| (zg_i q1.2 2 (zn (((zg_i q1.2 0 28) + 2) - 1)))) + 1, zp_i q1.2 0 28 ((zg_i q1.2 0 28) + 2))
      else none
      else none
    else
      some (0, q1.2)
def g_R_properties (x1 : Int32) (D : zx_D) : Option (zx_D) :=
  (g_R_isProperties x1 D).bind fun q1 =>
  ((
    if ¬ q1 = 0 then
      some D
    else
      (g_R_fail (-3) (zg_i D 0 28) D).bind fun q2 =>
      some q2
  ) : Option (zx_D)).bind fun q3 =>
  some (zp_i (zp_i (zp_i q3 0 9 (zo_rem x1 9)) 0 10 (zo_rem (x1 / 9) 5)) 0 11 (x1 / 45))
def g_R_bytes (D : zx_D) : Option (Int32) :=
  some ((zg_i D 0 5) - (zg_i D 0 23))
def g_R_shift (D : zx_D) : Option (zx_D) :=
  if ¬ zg_i D 0 22 = 0 then
    some D
  else
    if zg_l D 0 17 < 16777216 then
      if zg_i D 0 19 < zg_i D 0 20 then
        if zk_in (zg_i D 0 19) 640 = true then
        some (zp_i (zp_l (zp_l D 0 17 ((zg_l D 0 17) * 256)) 0 18 (((zg_l D 0 18) * 256) + (((zg_i D 2 (zn (zg_i D 0 19)))).toInt64))) 0 19 ((zg_i D 0 19) + 1))
        else none
      else
        some (zp_i D 0 22 1)
    else
      some D
def g_R_told (D : zx_D) : Option (zx_D) :=
  if ¬ (zg_i D 9 (zn 0)) + 1 = zg_i D 0 38 then
    some (zp_i D 9 (zn 0) ((zg_i D 9 (zn 0)) + 1))
  else
    some (zp_l (zp_l (zp_i D 9 (zn 0) ((zg_i D 9 (zn 0)) + 1)) 0 39 (zg_l D 0 17)) 0 40 (zg_l D 0 18))
def g_R_bit (x1 : Int32) (D : zx_D) : Option (Int32 × zx_D) :=
  (g_R_shift D).bind fun q1 =>
  if zg_i q1 0 22 = 0 then
    if zk_in x1 8328 = true then
    ((
      if zg_l q1 0 18 < ((zg_l q1 0 17) / 2048) * (((zg_i q1 5 (zn x1))).toInt64) then
        some 0
      else
        some 1
    ) : Option (Int32)).bind fun q2 =>
    (g_R_learn x1 q2 q1).bind fun q3 =>
    ((
      if q2 = 0 then
        some (((zg_l q1 0 17) / 2048) * (((zg_i q1 5 (zn x1))).toInt64))
      else
        some ((zg_l q3 0 17) - (((zg_l q1 0 17) / 2048) * (((zg_i q1 5 (zn x1))).toInt64)))
    ) : Option (Int64)).bind fun q4 =>
    ((
      if q2 = 0 then
        some (zg_l q3 0 18)
      else
        some ((zg_l q3 0 18) - (((zg_l q1 0 17) / 2048) * (((zg_i q1 5 (zn x1))).toInt64)))
    ) : Option (Int64)).bind fun q5 =>
    (g_R_told (zp_l (zp_l q3 0 17 q4) 0 18 q5)).bind fun q6 =>
    if q2 = 0 then
      some (0, q6)
    else
      some (1, q6)
    else none
  else
    some (0, q1)
def g_R_tree_5 (x1 : Int32) (x2 : Int32) : Nat → Int32 → Int32 → zx_D → Option (Int32 × zx_D)
  | 0, _, _, _ => none
  | k + 1, x3, x4, D =>
    if x2 ≤ x4 then
      some (x3, D)
    else
      (g_R_bit (x1 + x3) D).bind fun q1 =>
      g_R_tree_5 x1 x2 k ((2 * x3) + q1.1) (x4 + 1) q1.2
def g_R_tree (x1 : Int32) (x2 : Int32) (D : zx_D) : Option (Int32 × zx_D) :=
  (g_R_tree_5 x1 x2 10000 1 0 D).bind fun q2 =>
  some (q2.1 - (zo_shl 1 x2), q2.2)
def g_R_lengthTaken (x1 : Int32) (x2 : Int32) (D : zx_D) : Option (Int32 × zx_D) :=
  (g_R_bit x1 D).bind fun q1 =>
  if ¬ q1.1 = 0 then
    (g_R_bit (x1 + 1) q1.2).bind fun q2 =>
    if ¬ q2.1 = 0 then
      (g_R_tree (x1 + 258) 8 q2.2).bind fun q3 =>
      some (18 + q3.1, q3.2)
    else
      (g_R_tree ((x1 + 130) + (8 * x2)) 3 q2.2).bind fun q4 =>
      some (10 + q4.1, q4.2)
  else
    (g_R_tree ((x1 + 2) + (8 * x2)) 3 q1.2).bind fun q5 =>
    some (2 + q5.1, q5.2)
def g_R_give (x1 : Int32) (D : zx_D) : Option (zx_D) :=
  if zk_in (zg_i D 0 5) 400 = true then
  some (zp_i (zp_i (zp_i D 3 (zn (zg_i D 0 5)) x1) 0 5 ((zg_i D 0 5) + 1)) 0 21 ((zg_i D 0 21) - 1))
  else none
def g_R_back_39 (x1 : Int32) (x2 : Int32) : Nat → Int32 → zx_D → Option (zx_D)
  | 0, _, _ => none
  | k + 1, x3, D =>
    if x1 ≤ x3 then
      some D
    else
      if ¬ zg_i D 0 22 = 0 then
        some D
      else
        if zk_in ((zg_i D 0 5) - (((zg_l D 0 13)).toInt32)) 400 = true then
        (g_R_give (zg_i D 3 (zn ((zg_i D 0 5) - (((zg_l D 0 13)).toInt32)))) D).bind fun q3 =>
        g_R_back_39 x1 x2 k (x3 + 1) q3
        else none
def g_R_back (x1 : Int32) (x2 : Int32) (D : zx_D) : Option (zx_D) :=
  ((
    if ¬ zg_i D 0 22 = 0 then
      some 1
    else
      (g_R_bytes D).bind fun q1 =>
      if (q1).toInt64 < zg_l D 0 13 then
        some 1
      else
        if x1 ≤ zg_i D 0 21 then
          some 0
        else
          some 1
  ) : Option (Int32)).bind fun q2 =>
  if q2 = 0 ∨ q2 = 1 then
  (g_R_back_39 x1 x2 10000 0 (zp_i D 0 22 q2)).bind fun q4 =>
  if zg_i q4 0 22 = 0 then
    if zk_in x2 11 = true then
    if zk_in x2 11 = true then
    some (zp_i q4 9 (zn x2) ((zg_i q4 9 (zn x2)) + 1))
    else none
    else none
  else
    if zk_in x2 11 = true then
    if zk_in x2 11 = true then
    some (zp_i q4 9 (zn x2) (zg_i q4 9 (zn x2)))
    else none
    else none
  else none
def g_R_repeated (x1 : Int32) (x2 : Int32) (D : zx_D) : Option (zx_D) :=
  (g_R_turn x1 D).bind fun q1 =>
  (g_R_lengthTaken 7092 x2 q1).bind fun q2 =>
  if 7 ≤ zg_i q2.2 0 12 then
    (g_R_back q2.1 (4 + x1) (zp_i q2.2 0 12 11)).bind fun q3 =>
    some q3
  else
    (g_R_back q2.1 (4 + x1) (zp_i q2.2 0 12 8)).bind fun q4 =>
    some q4
def g_R_even (D : zx_D) : Option (Int32 × zx_D) :=
  (g_R_shift D).bind fun q1 =>
  if zg_i q1 0 22 = 0 then
    ((
      if zg_l q1 0 18 < (zg_l q1 0 17) / 2 then
        some 0
      else
        some 1
    ) : Option (Int32)).bind fun q2 =>
    ((
      if q2 = 0 then
        some (zg_l q1 0 18)
      else
        some ((zg_l q1 0 18) - ((zg_l q1 0 17) / 2))
    ) : Option (Int64)).bind fun q3 =>
    (g_R_told (zp_l (zp_l q1 0 17 ((zg_l q1 0 17) / 2)) 0 18 q3)).bind fun q4 =>
    if q2 = 0 then
      some (0, q4)
    else
      some (1, q4)
  else
    some (0, q1)
def g_R_backwards_8 (x1 : Int32) (x2 : Int32) : Nat → Int32 → Int32 → Int32 → zx_D → Option (Int32 × zx_D)
  | 0, _, _, _, _ => none
  | k + 1, x3, x4, x5, D =>
    if x2 ≤ x5 then
      some (x4, D)
    else
      (g_R_bit (x1 + x3) D).bind fun q1 =>
      g_R_backwards_8 x1 x2 k ((2 * x3) + q1.1) (x4 ||| (zo_shl q1.1 x5)) (x5 + 1) q1.2
def g_R_backwards (x1 : Int32) (x2 : Int32) (D : zx_D) : Option (Int32 × zx_D) :=
  (g_R_backwards_8 x1 x2 10000 1 0 0 D).bind fun q2 =>
  some (q2.1, q2.2)
def g_R_distance_97 (x3 : Int32) (x4 : Int64) : Nat → Int64 → Int32 → zx_D → Option (Int64 × zx_D)
  | 0, _, _, _ => none
  | k + 1, x6, x8, D =>
    if x3 ≤ x8 then
      some (x6, D)
    else
      (g_R_even D).bind fun q4 =>
      g_R_distance_97 x3 x4 k ((2 * x6) + ((q4.1).toInt64)) (x8 + 1) q4.2
def g_R_distance (x1 : Int32) (D : zx_D) : Option (Int64 × zx_D) :=
  ((
    if 5 ≤ x1 then
      some 3
    else
      some (x1 - 2)
  ) : Option (Int32)).bind fun q1 =>
  (g_R_tree (7608 + (64 * q1)) 6 D).bind fun q2 =>
  if 4 ≤ q2.1 then
    ((
      if ¬ zo_rem q2.1 2 = 0 then
        some 3
      else
        some 2
    ) : Option (Int64)).bind fun q3 =>
    if 14 ≤ q2.1 then
      (g_R_distance_97 ((q2.1 / 2) - 1) (zo_lshl q3 ((q2.1 / 2) - 1)) 10000 0 4 q2.2).bind fun q5 =>
      (g_R_backwards 8312 4 q5.2).bind fun q6 =>
      some ((((zo_lshl q3 ((q2.1 / 2) - 1)) + 1) + (16 * q5.1)) + ((q6.1).toInt64), q6.2)
    else
      (g_R_backwards ((7864 + (32 * q2.1)) - 128) ((q2.1 / 2) - 1) q2.2).bind fun q7 =>
      some (((zo_lshl q3 ((q2.1 / 2) - 1)) + 1) + ((q7.1).toInt64), q7.2)
  else
    some (((q2.1).toInt64) + 1, q2.2)
def g_R_literal_84 (x2 : Int32) (x4 : Int32) : Nat → Int32 → Int32 → Int32 → zx_D → Option (Int32 × zx_D)
  | 0, _, _, _, _ => none
  | k + 1, x3, x5, x6, D =>
    if x6 < 0 then
      some (x5, D)
    else
      ((
        if x3 = 0 then
          some (x2 + x5)
        else
          some (((x2 + 256) + (256 * ((zo_shr x4 x6) &&& 1))) + x5)
      ) : Option (Int32)).bind fun q6 =>
      (g_R_bit q6 D).bind fun q7 =>
      if x3 = 0 then
        g_R_literal_84 x2 x4 k 0 ((2 * x5) + q7.1) (x6 + (-1)) q7.2
      else
        if ¬ q7.1 = (zo_shr x4 x6) &&& 1 then
          g_R_literal_84 x2 x4 k 0 ((2 * x5) + q7.1) (x6 + (-1)) q7.2
        else
          g_R_literal_84 x2 x4 k 1 ((2 * x5) + q7.1) (x6 + (-1)) q7.2
def g_R_literal (D : zx_D) : Option (zx_D) :=
  (g_R_bytes D).bind fun q1 =>
  ((
    if ¬ q1 = 0 then
      if zk_in ((zg_i D 0 5) - 1) 400 = true then
      some (zg_i D 3 (zn ((zg_i D 0 5) - 1)))
      else none
    else
      some 0
  ) : Option (Int32)).bind fun q2 =>
  (g_R_context q1 q2 D).bind fun q3 =>
  ((
    if zg_i D 0 12 ≤ 6 then
      some 0
    else
      if ¬ zg_i D 0 22 = 0 then
        some 0
      else
        some 1
  ) : Option (Int32)).bind fun q4 =>
  ((
    if q4 = 0 then
      some 0
    else
      if zk_in ((zg_i D 0 5) - (((zg_l D 0 13)).toInt32)) 400 = true then
      some (zg_i D 3 (zn ((zg_i D 0 5) - (((zg_l D 0 13)).toInt32))))
      else none
  ) : Option (Int32)).bind fun q5 =>
  (g_R_literal_84 q3 q5 10000 q4 1 7 D).bind fun q8 =>
  if ¬ zg_i q8.2 0 22 = 0 then
    some q8.2
  else
    (g_R_give (q8.1 &&& 255) q8.2).bind fun q9 =>
    (g_R_after (zg_i q9 0 12) q9).bind fun q10 =>
    some (zp_i (zp_i q9 0 12 q10) 9 (zn 1) ((zg_i q9 9 (zn 1)) + 1))
def g_R_token (D : zx_D) : Option (zx_D) :=
  (g_R_bytes D).bind fun q1 =>
  (g_R_low4 q1 D).bind fun q2 =>
  (g_R_bit ((6144 + (16 * (zg_i D 0 12))) + q2) D).bind fun q3 =>
  if ¬ q3.1 = 0 then
    (g_R_bit (6528 + (zg_i q3.2 0 12)) q3.2).bind fun q4 =>
    if ¬ q4.1 = 0 then
      (g_R_bit (6540 + (zg_i q4.2 0 12)) q4.2).bind fun q5 =>
      if ¬ q5.1 = 0 then
        (g_R_bit (6552 + (zg_i q5.2 0 12)) q5.2).bind fun q6 =>
        if ¬ q6.1 = 0 then
          (g_R_bit (6564 + (zg_i q6.2 0 12)) q6.2).bind fun q7 =>
          if ¬ q7.1 = 0 then
            (g_R_repeated 3 q2 q7.2).bind fun q8 =>
            some q8
          else
            (g_R_repeated 2 q2 q7.2).bind fun q9 =>
            some q9
        else
          (g_R_repeated 1 q2 q6.2).bind fun q10 =>
          some q10
      else
        (g_R_bit ((6336 + (16 * (zg_i q5.2 0 12))) + q2) q5.2).bind fun q11 =>
        if ¬ q11.1 = 0 then
          (g_R_repeated 0 q2 q11.2).bind fun q12 =>
          some q12
        else
          if 7 ≤ zg_i q11.2 0 12 then
            (g_R_back 1 3 (zp_i q11.2 0 12 11)).bind fun q13 =>
            some q13
          else
            (g_R_back 1 3 (zp_i q11.2 0 12 9)).bind fun q14 =>
            some q14
    else
      (g_R_lengthTaken 6576 q2 (zp_l (zp_l (zp_l q4.2 0 16 (zg_l q4.2 0 15)) 0 15 (zg_l q4.2 0 14)) 0 14 (zg_l q4.2 0 13))).bind fun q15 =>
      (g_R_distance q15.1 q15.2).bind fun q16 =>
      if 7 ≤ zg_i q16.2 0 12 then
        (g_R_back q15.1 2 (zp_i (zp_l q16.2 0 13 q16.1) 0 12 10)).bind fun q17 =>
        some q17
      else
        (g_R_back q15.1 2 (zp_i (zp_l q16.2 0 13 q16.1) 0 12 7)).bind fun q18 =>
        some q18
  else
    (g_R_literal q3.2).bind fun q19 =>
    some q19
def g_R_coded_206 : Nat → zx_D → Option (zx_D)
  | 0, _ => none
  | k + 1, D =>
    if zg_i D 0 21 ≤ 0 then
      some D
    else
      if ¬ zg_i D 0 22 = 0 then
        some D
      else
        (g_R_token D).bind fun q6 =>
        g_R_coded_206 k q6
def g_R_coded (x1 : Int32) (x2 : Int32) (x3 : Int32) (D : zx_D) : Option (zx_D) :=
  if (zg_i D 0 5) + x1 ≤ 400 then
    ((
      if x3 < 224 then
        some D
      else
        some (zp_i (zp_i D 0 35 1) 0 23 (zg_i D 0 5))
    ) : Option (zx_D)).bind fun q1 =>
    ((
      if zg_i q1 0 36 = 0 then
        some 0
      else
        if 192 ≤ x3 then
          some 0
        else
          some 1
    ) : Option (Int32)).bind fun q2 =>
    if q2 = 0 ∨ q2 = 1 then
    ((
      if x3 < 160 then
        some (zp_i q1 0 36 q2)
      else
        (g_R_anew (zp_i q1 0 36 q2)).bind fun q3 =>
        some q3
    ) : Option (zx_D)).bind fun q4 =>
    if x2 < 5 then
      (g_R_fail (-6) (zg_i q4 0 28) q4).bind fun q5 =>
      some q5
    else
      if zk_in (zg_i q4 0 28) 640 = true then
      if zg_i q4 2 (zn (zg_i q4 0 28)) = 0 then
        if zk_in ((zg_i q4 0 28) + 1) 640 = true then
        if zk_in ((zg_i q4 0 28) + 2) 640 = true then
        if zk_in ((zg_i q4 0 28) + 3) 640 = true then
        if zk_in ((zg_i q4 0 28) + 4) 640 = true then
        (g_R_coded_206 10000 (zp_i (zp_i (zp_i (zp_i (zp_l (zp_l q4 0 17 4294967295) 0 18 ((((zo_lshl (((zg_i q4 2 (zn ((zg_i q4 0 28) + 1)))).toInt64) 24) ||| (((zo_shl (zg_i q4 2 (zn ((zg_i q4 0 28) + 2))) 16)).toInt64)) ||| (((zo_shl (zg_i q4 2 (zn ((zg_i q4 0 28) + 3))) 8)).toInt64)) ||| (((zg_i q4 2 (zn ((zg_i q4 0 28) + 4)))).toInt64))) 0 19 ((zg_i q4 0 28) + 5)) 0 20 ((zg_i q4 0 28) + x2)) 0 21 x1) 0 22 0)).bind fun q7 =>
        ((
          if ¬ zg_i q7 0 22 = 0 then
            some q7
          else
            (g_R_shift q7).bind fun q8 =>
            some q8
        ) : Option (zx_D)).bind fun q9 =>
        if ¬ zg_i q9 0 22 = 0 then
          (g_R_fail (-6) (zg_i q9 0 28) q9).bind fun q10 =>
          some q10
        else
          if ¬ zg_l q9 0 18 = 0 then
            (g_R_fail (-6) (zg_i q9 0 28) q9).bind fun q11 =>
            some q11
          else
            if zg_i q9 0 19 = zg_i q9 0 20 then
              some (zp_i (zp_i q9 0 28 (zg_i q9 0 20)) 9 (zn 8) ((zg_i q9 9 (zn 8)) + 1))
            else
              (g_R_fail (-6) (zg_i q9 0 28) q9).bind fun q12 =>
              some q12
        else none
        else none
        else none
        else none
      else
        (g_R_fail (-6) (zg_i q4 0 28) q4).bind fun q13 =>
        some q13
      else none
    else none
  else
    (g_R_fail (-5) (zg_i D 0 28) D).bind fun q14 =>
    some q14
def g_R_plainChunk_47 (x1 : Int32) : Nat → Int32 → zx_D → Option (zx_D)
  | 0, _, _ => none
  | k + 1, x3, D =>
    if x1 ≤ x3 then
      some D
    else
      if zk_in (zg_i D 0 28) 640 = true then
      if zk_in (zg_i D 0 5) 400 = true then
      g_R_plainChunk_47 x1 k (x3 + 1) (zp_i (zp_i (zp_i D 3 (zn (zg_i D 0 5)) (zg_i D 2 (zn (zg_i D 0 28)))) 0 5 ((zg_i D 0 5) + 1)) 0 28 ((zg_i D 0 28) + 1))
      else none
      else none
def g_R_plainChunk (x1 : Int32) (x2 : Int32) (D : zx_D) : Option (zx_D) :=
  if (zg_i D 0 5) + x1 ≤ 400 then
    ((
      if x2 = 0 then
        some D
      else
        some (zp_i (zp_i (zp_i D 0 35 1) 0 36 1) 0 23 (zg_i D 0 5))
    ) : Option (zx_D)).bind fun q1 =>
    (g_R_plainChunk_47 x1 10000 0 q1).bind fun q2 =>
    some (zp_i q2 9 (zn 9) ((zg_i q2 9 (zn 9)) + 1))
  else
    (g_R_fail (-5) (zg_i D 0 28) D).bind fun q3 =>
    some q3
def g_R_chunk_98 (x1 : Int32) (x2 : Int32) (D : zx_D) : Option (Int32 × zx_D) :=
  if ¬ x1 = 0 then
    ((
      if 128 ≤ x1 then
        some (x1 &&& 31)
      else
        some 0
    ) : Option (Int32)).bind fun q3 =>
    (g_R_length q3 (zp_i D 0 28 ((zg_i D 0 28) + 1))).bind fun q4 =>
    if 128 ≤ x1 then
      (g_R_length 0 q4.2).bind fun q5 =>
      ((
        if x1 < 192 then
          some q5.2
        else
          if ¬ zg_i q5.2 0 29 = 0 then
            some q5.2
          else
            (g_R_has 1 q5.2).bind fun q6 =>
            if q6.1 = 0 then
              some q6.2
            else
              if zk_in (zg_i q6.2 0 28) 640 = true then
              (g_R_properties (zg_i q6.2 2 (zn (zg_i q6.2 0 28))) q6.2).bind fun q7 =>
              some (zp_i q7 0 28 ((zg_i q7 0 28) + 1))
              else none
      ) : Option (zx_D)).bind fun q8 =>
      if ¬ zg_i q8 0 29 = 0 then
        some (1, q8)
      else
        (g_R_has q5.1 q8).bind fun q9 =>
        if q9.1 = 0 then
          some (1, q9.2)
        else
          (g_R_coded q4.1 q5.1 x1 q9.2).bind fun q10 =>
          some (1, q10)
    else
      if ¬ zg_i q4.2 0 29 = 0 then
        some (1, q4.2)
      else
        (g_R_has q4.1 q4.2).bind fun q11 =>
        if q11.1 = 0 then
          some (1, q11.2)
        else
          (g_R_plainChunk q4.1 x2 q11.2).bind fun q12 =>
          some (1, q12)
  else
    some (0, zp_i D 0 28 ((zg_i D 0 28) + 1))
def g_R_chunk_65 (x1 : Int32) (x2 : Int32) (D : zx_D) : Option (Int32 × zx_D) :=
  if x1 < 128 then
    g_R_chunk_98 x1 x2 D
  else
    if 192 ≤ x1 then
      g_R_chunk_98 x1 x2 D
    else
      if zg_i D 0 36 = 0 then
        g_R_chunk_98 x1 x2 D
      else
        (g_R_fail (-3) (zg_i D 0 28) D).bind fun q13 =>
        some (0, q13)
def g_R_chunk_50 (x1 : Int32) (x2 : Int32) (D : zx_D) : Option (Int32 × zx_D) :=
  if x1 ≤ 0 then
    g_R_chunk_65 x1 x2 D
  else
    if ¬ zg_i D 0 35 = 0 then
      g_R_chunk_65 x1 x2 D
    else
      if x2 = 0 then
        (g_R_fail (-3) (zg_i D 0 28) D).bind fun q14 =>
        some (0, q14)
      else
        g_R_chunk_65 x1 x2 D
def g_R_chunk (D : zx_D) : Option (Int32 × zx_D) :=
  (g_R_has 1 D).bind fun q1 =>
  if ¬ q1.1 = 0 then
    if zk_in (zg_i q1.2 0 28) 640 = true then
    ((
      if zg_i q1.2 2 (zn (zg_i q1.2 0 28)) = 1 then
        some 1
      else
        if zg_i q1.2 2 (zn (zg_i q1.2 0 28)) < 224 then
          some 0
        else
          some 1
    ) : Option (Int32)).bind fun q2 =>
    if zg_i q1.2 2 (zn (zg_i q1.2 0 28)) ≤ 2 then
      g_R_chunk_50 (zg_i q1.2 2 (zn (zg_i q1.2 0 28))) q2 q1.2
    else
      if zg_i q1.2 2 (zn (zg_i q1.2 0 28)) < 128 then
        (g_R_fail (-3) (zg_i q1.2 0 28) q1.2).bind fun q15 =>
        some (0, q15)
      else
        g_R_chunk_50 (zg_i q1.2 2 (zn (zg_i q1.2 0 28))) q2 q1.2
    else none
  else
    some (0, q1.2)
def g_R_zeros_0 (x1 : Int32) : Nat → zx_D → Option (zx_D)
  | 0, _ => none
  | k + 1, D =>
    if ¬ zg_i D 0 29 = 0 then
      some D
    else
      if zo_rem ((zg_i D 0 28) - x1) 4 = 0 then
        some D
      else
        (g_R_has 1 D).bind fun q2 =>
        if q2.1 = 0 then
          some q2.2
        else
          if zk_in (zg_i q2.2 0 28) 640 = true then
          if zg_i q2.2 2 (zn (zg_i q2.2 0 28)) = 0 then
            g_R_zeros_0 x1 k (zp_i q2.2 0 28 ((zg_i q2.2 0 28) + 1))
          else
            (g_R_fail (-3) (zg_i q2.2 0 28) q2.2).bind fun q3 =>
            g_R_zeros_0 x1 k (zp_i q3 0 28 ((zg_i q3 0 28) + 1))
          else none
def g_R_zeros (x1 : Int32) (D : zx_D) : Option (zx_D) :=
  if ¬ zg_i D 0 29 = 0 then
    some D
  else
    if zo_rem ((zg_i D 0 28) - x1) 4 = 0 then
      some D
    else
      (g_R_has 1 D).bind fun q1 =>
      if q1.1 = 0 then
        some q1.2
      else
        if zk_in (zg_i q1.2 0 28) 640 = true then
        if zg_i q1.2 2 (zn (zg_i q1.2 0 28)) = 0 then
          (g_R_zeros_0 x1 10000 (zp_i q1.2 0 28 ((zg_i q1.2 0 28) + 1))).bind fun q4 =>
          some q4
        else
          (g_R_fail (-3) (zg_i q1.2 0 28) q1.2).bind fun q5 =>
          (g_R_zeros_0 x1 10000 (zp_i q5 0 28 ((zg_i q5 0 28) + 1))).bind fun q6 =>
          some q6
        else none
def g_R_eightOfMade_7 (D : zx_D) : Nat → Int64 → Int32 → Option (Int64)
  | 0, _, _ => none
  | k + 1, x2, x4 =>
    if zg_i D 0 5 ≤ x4 then
      some x2
    else
      if zk_in x4 400 = true then
      (g_R_eight x2 (zg_i D 3 (zn x4)) D).bind fun q1 =>
      g_R_eightOfMade_7 D k q1 (x4 + 1)
      else none
def g_R_eightOfMade (x1 : Int32) (D : zx_D) : Option (Int64) :=
  (g_R_eightOfMade_7 D 10000 (-1) x1).bind fun q2 =>
  some (q2 ^^^ (-1))
def g_R_fourOfMade_7 (D : zx_D) : Nat → Int64 → Int32 → Option (Int64)
  | 0, _, _ => none
  | k + 1, x2, x4 =>
    if zg_i D 0 5 ≤ x4 then
      some x2
    else
      if zk_in x4 400 = true then
      (g_R_four x2 (zg_i D 3 (zn x4)) D).bind fun q1 =>
      g_R_fourOfMade_7 D k q1 (x4 + 1)
      else none
def g_R_fourOfMade (x1 : Int32) (D : zx_D) : Option (Int64) :=
  (g_R_fourOfMade_7 D 10000 4294967295 x1).bind fun q2 =>
  some (q2 ^^^ 4294967295)
def g_R_block_243 (x1 : Int32) (x3 : Int32) (x5 : Int64) (x7 : Int64) : Nat → zx_D → Option (zx_D)
  | 0, _ => none
  | k + 1, D =>
    if ¬ zg_i D 0 29 = 0 then
      some D
    else
      if x3 ≤ zg_i D 0 28 then
        some D
      else
        (g_R_headByte x3 D).bind fun q18 =>
        if q18.1 = 0 then
          g_R_block_243 x1 x3 x5 x7 k q18.2
        else
          (g_R_fail (-3) ((zg_i q18.2 0 28) - 1) q18.2).bind fun q19 =>
          g_R_block_243 x1 x3 x5 x7 k q19
def g_R_block_324 (x1 : Int32) (x5 : Int64) (x7 : Int64) (x9 : Int32) (x10 : Int32) : Nat → Int32 → zx_D → Option (zx_D)
  | 0, _, _ => none
  | k + 1, x11, D =>
    if x11 = 0 then
      some D
    else
      (g_R_chunk D).bind fun q22 =>
      if q22.1 = 0 then
        g_R_block_324 x1 x5 x7 x9 x10 k 0 q22.2
      else
        if ¬ zg_i q22.2 0 29 = 0 then
          g_R_block_324 x1 x5 x7 x9 x10 k 0 q22.2
        else
          g_R_block_324 x1 x5 x7 x9 x10 k 1 q22.2
def g_R_block_532 (x10 : Int32) (x12 : Int32) (x13 : Int32) (D : zx_D) : Option (zx_D) :=
  if zk_in (zg_i D 0 32) 48 = true then
  if zk_in (zg_i D 0 32) 48 = true then
  some (zp_i (zp_i (zp_i (zp_i (zp_i D 0 28 ((zg_i D 0 28) + x13)) 7 (zn (zg_i D 0 32)) (x12 + x13)) 8 (zn (zg_i D 0 32)) ((zg_i D 0 5) - x10)) 0 32 ((zg_i D 0 32) + 1)) 9 (zn 10) ((zg_i D 9 (zn 10)) + 1))
  else none
  else none
def g_R_block_493 (x10 : Int32) (x12 : Int32) (x13 : Int32) (D : zx_D) : Option (zx_D) :=
  if ¬ zg_i D 0 31 = 4 then
    g_R_block_532 x10 x12 x13 D
  else
    (g_R_number (zg_i D 0 28) 8 D).bind fun q32 =>
    (g_R_eightOfMade x10 D).bind fun q33 =>
    if q32 = q33 then
      g_R_block_532 x10 x12 x13 D
    else
      (g_R_fail (-4) (zg_i D 0 28) D).bind fun q34 =>
      some q34
def g_R_block (D : zx_D) : Option (zx_D) :=
  if zk_in (zg_i D 0 28) 640 = true then
  (g_R_has (4 * ((zg_i D 2 (zn (zg_i D 0 28))) + 1)) D).bind fun q1 =>
  if ¬ q1.1 = 0 then
    (g_R_number ((zg_i D 0 28) + (4 * (zg_i D 2 (zn (zg_i D 0 28))))) 4 q1.2).bind fun q2 =>
    (g_R_fourOfPacked (zg_i D 0 28) ((zg_i D 0 28) + (4 * (zg_i D 2 (zn (zg_i D 0 28))))) q1.2).bind fun q3 =>
    if q2 = q3 then
      if zk_in ((zg_i D 0 28) + 1) 640 = true then
      if (zg_i q1.2 2 (zn ((zg_i D 0 28) + 1))) &&& 63 = 0 then
        ((
          if (zg_i q1.2 2 (zn ((zg_i D 0 28) + 1))) &&& 64 = 0 then
            some (-1, zp_i (zp_i q1.2 0 28 ((zg_i D 0 28) + 1)) 0 28 (((zg_i D 0 28) + 1) + 1))
          else
            (g_R_vli ((zg_i D 0 28) + (4 * (zg_i D 2 (zn (zg_i D 0 28))))) (-3) (zp_i (zp_i q1.2 0 28 ((zg_i D 0 28) + 1)) 0 28 (((zg_i D 0 28) + 1) + 1))).bind fun q4 =>
            if ¬ q4.1 = 0 then
              some (q4.1, q4.2)
            else
              (g_R_fail (-3) (((zg_i D 0 28) + 1) + 1) q4.2).bind fun q5 =>
              some (q4.1, q5)
        ) : Option (Int64 × zx_D)).bind fun q6 =>
        ((
          if (zg_i q1.2 2 (zn ((zg_i D 0 28) + 1))) &&& 128 = 0 then
            some (-1, q6.2)
          else
            if ¬ zg_i q6.2 0 29 = 0 then
              some (-1, q6.2)
            else
              (g_R_vli ((zg_i D 0 28) + (4 * (zg_i D 2 (zn (zg_i D 0 28))))) (-3) q6.2).bind fun q7 =>
              some (q7.1, q7.2)
        ) : Option (Int64 × zx_D)).bind fun q8 =>
        (g_R_headByte ((zg_i D 0 28) + (4 * (zg_i D 2 (zn (zg_i D 0 28))))) q8.2).bind fun q9 =>
        ((
          if q9.1 = 33 then
            some q9.2
          else
            (g_R_fail (-3) ((zg_i q9.2 0 28) - 1) q9.2).bind fun q10 =>
            some q10
        ) : Option (zx_D)).bind fun q11 =>
        (g_R_headByte ((zg_i D 0 28) + (4 * (zg_i D 2 (zn (zg_i D 0 28))))) q11).bind fun q12 =>
        ((
          if q12.1 = 1 then
            some q12.2
          else
            (g_R_fail (-3) ((zg_i q12.2 0 28) - 1) q12.2).bind fun q13 =>
            some q13
        ) : Option (zx_D)).bind fun q14 =>
        (g_R_headByte ((zg_i D 0 28) + (4 * (zg_i D 2 (zn (zg_i D 0 28))))) q14).bind fun q15 =>
        ((
          if q15.1 ≤ 40 then
            some q15.2
          else
            (g_R_fail (-3) ((zg_i q15.2 0 28) - 1) q15.2).bind fun q16 =>
            some q16
        ) : Option (zx_D)).bind fun q17 =>
        (g_R_block_243 (zg_i D 0 28) ((zg_i D 0 28) + (4 * (zg_i D 2 (zn (zg_i D 0 28))))) q6.1 q8.1 10000 q17).bind fun q20 =>
        ((
          if ¬ zg_i q20 0 29 = 0 then
            some 0
          else
            some 1
        ) : Option (Int32)).bind fun q21 =>
        (g_R_block_324 (zg_i D 0 28) q6.1 q8.1 (((zg_i D 0 28) + (4 * (zg_i D 2 (zn (zg_i D 0 28))))) + 4) (zg_i q20 0 5) 10000 q21 (zp_i (zp_i (zp_i q20 0 28 (((zg_i D 0 28) + (4 * (zg_i D 2 (zn (zg_i D 0 28))))) + 4)) 0 35 0) 0 36 1)).bind fun q23 =>
        ((
          if q6.1 < 0 then
            if q8.1 < 0 then
              some q23
            else
              if q8.1 = (((zg_i q23 0 5) - (zg_i q20 0 5))).toInt64 then
                some q23
              else
                (g_R_fail (-6) (zg_i D 0 28) q23).bind fun q24 =>
                some q24
          else
            if ¬ q6.1 = (((zg_i q23 0 28) - (((zg_i D 0 28) + (4 * (zg_i D 2 (zn (zg_i D 0 28))))) + 4))).toInt64 then
              (g_R_fail (-6) (zg_i D 0 28) q23).bind fun q25 =>
              some q25
            else
              if q8.1 < 0 then
                some q23
              else
                if q8.1 = (((zg_i q23 0 5) - (zg_i q20 0 5))).toInt64 then
                  some q23
                else
                  (g_R_fail (-6) (zg_i D 0 28) q23).bind fun q26 =>
                  some q26
        ) : Option (zx_D)).bind fun q27 =>
        ((
          if ¬ zg_i q27 0 29 = 0 then
            some q27
          else
            (g_R_zeros (zg_i D 0 28) q27).bind fun q28 =>
            some q28
        ) : Option (zx_D)).bind fun q29 =>
        ((
          if ¬ zg_i q29 0 31 = 0 then
            if ¬ zg_i q29 0 31 = 1 then
              some 8
            else
              some 4
          else
            some 0
        ) : Option (Int32)).bind fun q30 =>
        if ¬ zg_i q29 0 29 = 0 then
          some q29
        else
          (g_R_has q30 q29).bind fun q31 =>
          if ¬ q31.1 = 0 then
            if ¬ zg_i q31.2 0 31 = 1 then
              g_R_block_493 (zg_i q20 0 5) ((zg_i q27 0 28) - (zg_i D 0 28)) q30 q31.2
            else
              (g_R_number (zg_i q31.2 0 28) 4 q31.2).bind fun q35 =>
              (g_R_fourOfMade (zg_i q20 0 5) q31.2).bind fun q36 =>
              if ¬ q35 = q36 then
                (g_R_fail (-4) (zg_i q31.2 0 28) q31.2).bind fun q37 =>
                some q37
              else
                g_R_block_493 (zg_i q20 0 5) ((zg_i q27 0 28) - (zg_i D 0 28)) q30 q31.2
          else
            some q31.2
      else
        (g_R_fail (-3) ((zg_i D 0 28) + 1) (zp_i q1.2 0 28 ((zg_i D 0 28) + 1))).bind fun q38 =>
        some q38
      else none
    else
      (g_R_fail (-4) ((zg_i D 0 28) + (4 * (zg_i D 2 (zn (zg_i D 0 28))))) q1.2).bind fun q39 =>
      some q39
  else
    some q1.2
  else none
def g_R_expect (x1 : Int32) (D : zx_D) : Option (zx_D) :=
  if ¬ zg_i D 0 29 = 0 then
    some D
  else
    (g_R_vli (zg_i D 0 3) (-2) D).bind fun q1 =>
    if q1.1 = (x1).toInt64 then
      some q1.2
    else
      (g_R_fail (-3) (zg_i D 0 28) q1.2).bind fun q2 =>
      some q2
def g_R_index_34 (x1 : Int32) : Nat → Int32 → zx_D → Option (zx_D)
  | 0, _, _ => none
  | k + 1, x2, D =>
    if zg_i D 0 32 ≤ x2 then
      some D
    else
      if ¬ zg_i D 0 29 = 0 then
        some D
      else
        if zk_in x2 48 = true then
        (g_R_expect (zg_i D 7 (zn x2)) D).bind fun q3 =>
        if zk_in x2 48 = true then
        (g_R_expect (zg_i q3 8 (zn x2)) q3).bind fun q4 =>
        g_R_index_34 x1 k (x2 + 1) q4
        else none
        else none
def g_R_index (D : zx_D) : Option (zx_D) :=
  (g_R_has 1 D).bind fun q1 =>
  if ¬ q1.1 = 0 then
    (g_R_expect (zg_i q1.2 0 32) (zp_i q1.2 0 28 ((zg_i q1.2 0 28) + 1))).bind fun q2 =>
    (g_R_index_34 (zg_i D 0 28) 10000 0 q2).bind fun q5 =>
    ((
      if ¬ zg_i q5 0 29 = 0 then
        some q5
      else
        (g_R_zeros (zg_i D 0 28) q5).bind fun q6 =>
        some q6
    ) : Option (zx_D)).bind fun q7 =>
    ((
      if ¬ zg_i q7 0 29 = 0 then
        some q7
      else
        (g_R_sumOf (zg_i D 0 28) q7).bind fun q8 =>
        some q8
    ) : Option (zx_D)).bind fun q9 =>
    if ¬ zg_i q9 0 29 = 0 then
      some q9
    else
      (g_R_has 12 q9).bind fun q10 =>
      if ¬ q10.1 = 0 then
        (g_R_number (zg_i q10.2 0 28) 4 q10.2).bind fun q11 =>
        (g_R_fourOfPacked ((zg_i q10.2 0 28) + 4) ((zg_i q10.2 0 28) + 10) q10.2).bind fun q12 =>
        ((
          if q11 = q12 then
            (g_R_number ((zg_i q10.2 0 28) + 4) 4 q10.2).bind fun q13 =>
            if ¬ q13 = (((((zg_i q9 0 28) - (zg_i D 0 28)) / 4) - 1)).toInt64 then
              (g_R_fail (-3) (zg_i q10.2 0 28) q10.2).bind fun q14 =>
              some q14
            else
              if zk_in ((zg_i q10.2 0 28) + 8) 640 = true then
              if ¬ zg_i q10.2 2 (zn ((zg_i q10.2 0 28) + 8)) = 0 then
                (g_R_fail (-3) (zg_i q10.2 0 28) q10.2).bind fun q15 =>
                some q15
              else
                if zk_in ((zg_i q10.2 0 28) + 9) 640 = true then
                if ¬ zg_i q10.2 2 (zn ((zg_i q10.2 0 28) + 9)) = zg_i q10.2 0 31 then
                  (g_R_fail (-3) (zg_i q10.2 0 28) q10.2).bind fun q16 =>
                  some q16
                else
                  if zk_in ((zg_i q10.2 0 28) + 10) 640 = true then
                  if ¬ zg_i q10.2 2 (zn ((zg_i q10.2 0 28) + 10)) = 89 then
                    (g_R_fail (-3) (zg_i q10.2 0 28) q10.2).bind fun q17 =>
                    some q17
                  else
                    if zk_in ((zg_i q10.2 0 28) + 11) 640 = true then
                    if zg_i q10.2 2 (zn ((zg_i q10.2 0 28) + 11)) = 90 then
                      some q10.2
                    else
                      (g_R_fail (-3) (zg_i q10.2 0 28) q10.2).bind fun q18 =>
                      some q18
                    else none
                  else none
                else none
              else none
          else
            (g_R_fail (-4) (zg_i q10.2 0 28) q10.2).bind fun q19 =>
            some q19
        ) : Option (zx_D)).bind fun q20 =>
        if zg_i q20 0 3 ≤ (zg_i q20 0 28) + 12 then
          some (zp_i q20 0 28 ((zg_i q20 0 28) + 12))
        else
          (g_R_fail (-3) ((zg_i q20 0 28) + 12) (zp_i q20 0 28 ((zg_i q20 0 28) + 12))).bind fun q21 =>
          some q21
      else
        some q10.2
  else
    some q1.2
def g_R_unpack_2 : Nat → Int32 → zx_D → Option (zx_D)
  | 0, _, _ => none
  | k + 1, x1, D =>
    if 11 ≤ x1 then
      some D
    else
      if zk_in x1 11 = true then
      g_R_unpack_2 k (x1 + 1) (zp_i D 9 (zn x1) 0)
      else none
def g_R_unpack_67 : Nat → zx_D → Option (zx_D)
  | 0, _ => none
  | k + 1, D =>
    if ¬ zg_i D 0 29 = 0 then
      some D
    else
      if zg_i D 0 3 ≤ zg_i D 0 28 then
        some D
      else
        if zk_in (zg_i D 0 28) 640 = true then
        if zg_i D 2 (zn (zg_i D 0 28)) = 0 then
          some D
        else
          (g_R_block D).bind fun q3 =>
          g_R_unpack_67 k q3
        else none
def g_R_unpack_137 : Nat → Int32 → zx_D → Option (zx_D)
  | 0, _, _ => none
  | k + 1, x1, D =>
    if zg_i D 0 5 ≤ x1 then
      some D
    else
      if zk_in x1 400 = true then
      if zk_in x1 400 = true then
      g_R_unpack_137 k (x1 + 1) (zp_i D 1 (zn x1) (zg_i D 3 (zn x1)))
      else none
      else none
def g_R_unpack (D : zx_D) : Option (Int32 × zx_D) :=
  (g_R_unpack_2 10000 0 D).bind fun q1 =>
  (g_R_begin (zp_i (zp_i (zp_i (zp_i (zp_l (zp_l (zp_i q1 0 38 (zg_i q1 0 37)) 0 39 (-1)) 0 40 (-1)) 0 5 0) 0 29 0) 0 30 (-1)) 0 32 0)).bind fun q2 =>
  (g_R_unpack_67 10000 q2).bind fun q4 =>
  ((
    if ¬ zg_i q4 0 29 = 0 then
      some q4
    else
      (g_R_index q4).bind fun q5 =>
      some q5
  ) : Option (zx_D)).bind fun q6 =>
  if zg_i q6 0 29 = 0 then
    (g_R_unpack_137 10000 0 (zp_i q6 0 1 (zg_i q6 0 5))).bind fun q7 =>
    some (zg_i q7 0 1, q7)
  else
    some (zg_i q6 0 29, q6)
