/-! Contracts (written by a program) -/
set_option maxRecDepth 100000 in
set_option maxHeartbeats 4000000 in
theorem c_g_P_sumFour_22 {l : Launch} {E : zx_E} {d : Nat} {cb sd ln pp : Nat} {x1 : Int32} {x2 : Int32} {D : zx_D} {q : Int64} (h : g_P_sumFour_22 x1 x2 D = some q) : zx_MC l E 17 (d + 1) [.ref 22, .int x1, .int x2] ([cb, sd, ln, pp], D) (fun v S => v = some (.long q) ∧ S = ([cb, sd, ln, pp], D)) := by
  refine zx_ofC (K := ck_P_sumFour) rfl (by decide +kernel) rfl ok_P_sumFour (Nat.le_of_ble_eq_true rfl) (fun Zp hr => ?_)
  show Zp (0, [some (.ref 22), some (.int x1), some (.int x2)], [], [cb, sd, ln, pp], D)
  rw [g_P_sumFour_22] at h
  refine hr.1 5 True _ _ (9, [some (.ref 22), some (.int x1), some (.int x2)], [.long 3988292384, .long 4294967295, .int x2, .int x1, .ref 22], [cb, sd, ln, pp], D) rfl trivial ?_
  obtain ⟨q1, hc, h⟩ := zk_bind h
  refine hr.2.2.1 _ _ _ _ _ (d) rfl (by omega) (c_g_P_sumBy_22 (l := l) (E := E) (d := d) (cb := cb) (sd := sd) (ln := ln) (pp := pp) hc) (fun v S hq => ?_)
  obtain ⟨rfl, rfl⟩ := hq
  clear hc
  exact hr.2.2.2 _ _ _ rfl trivial ⟨(congrArg (fun x => some (Value.long x)) (Option.some.inj h)), rfl⟩
set_option maxRecDepth 100000 in
set_option maxHeartbeats 4000000 in
theorem c_g_Row_appendAll_18_22 {l : Launch} {E : zx_E} {d : Nat} {cb sd ln pp : Nat} {x2 : Int32} {x3 : Int32} {D : zx_D} {q : zx_D} (h : g_Row_appendAll_18_22 x2 x3 D = some q) : zx_MC l E 23 (d + 1) [.ref 18, .ref 22, .int x2, .int x3] ([cb, sd, ln, pp], D) (fun v S => v = none ∧ S = ([cb, sd, ln, pp], q)) := by
  refine zx_ofC (K := ck_Row_appendAll) rfl (by decide +kernel) rfl ok_Row_appendAll (Nat.le_of_ble_eq_true rfl) (fun Zp hr => ?_)
  show Zp (0, [some (.ref 18), some (.ref 22), some (.int x2), some (.int x3), none], [], [cb, sd, ln, pp], D)
  have loop3 : ∀ (x2 : Int32) (x3 : Int32) (k : Nat) (x4 : Int32) (D : zx_D) (q : zx_D), g_Row_appendAll_18_22_3 x2 x3 k x4 D = some q → (∀ (e4 : Int32), Zp (25, [some (.ref 18), some (.ref 22), some (.int x2), some (.int x3), some (.int e4)], [], [cb, sd, ln, pp], q)) → Zp (3, [some (.ref 18), some (.ref 22), some (.int x2), some (.int x3), some (.int x4)], [], [cb, sd, ln, pp], D) := by
    intro x2 x3 k
    induction k with
    | zero => intro x4 D q h hx; exact (zk_no h).elim
    | succ k ih =>
      intro x4 D q h hx
      rw [g_Row_appendAll_18_22_3] at h
      refine hr.1 4 True _ _ (8, [some (.ref 18), some (.ref 22), some (.int x2), some (.int x3), some (.int x4)], [.int (x2 + x3), .int x4], [cb, sd, ln, pp], D) rfl trivial ?_
      refine hr.2.1 _ (x2 + x3 ≤ x4) _ _ rfl (fun c8 => ?_) (fun c8 => ?_)
      · replace h := zk_t h c8
        replace h := Option.some.inj h
        subst h
        exact hx x4
      · replace h := zk_f h c8
        obtain ⟨w2, h⟩ := zk_ck h
        refine hr.1 4 True _ _ (16, [some (.ref 18), some (.ref 22), some (.int x2), some (.int x3), some (.int x4)], [.int (zg_i D 22 (zn x4)), .ref 18], [cb, sd, ln, pp], D) rfl ⟨trivial, (zk_vp w2)⟩ ?_
        obtain ⟨q1, hc, h⟩ := zk_bind h
        refine hr.2.2.1 _ _ _ _ _ (d) rfl (by omega) (c_g_Row_append_18 (l := l) (E := E) (d := d) (cb := cb) (sd := sd) (ln := ln) (pp := pp) hc) (fun v S hq => ?_)
        obtain ⟨rfl, rfl⟩ := hq
        clear hc
        refine hr.1 2 True _ _ (3, [some (.ref 18), some (.ref 22), some (.int x2), some (.int x3), some (.int (x4 + 1))], [], [cb, sd, ln, pp], q1) rfl trivial ?_
        exact ih (x4 + 1) q1 _ h hx
  rw [g_Row_appendAll_18_22] at h
  refine hr.1 2 True _ _ (3, [some (.ref 18), some (.ref 22), some (.int x2), some (.int x3), some (.int x2)], [], [cb, sd, ln, pp], D) rfl trivial ?_
  obtain ⟨q2, hc, h⟩ := zk_bind h
  refine loop3 x2 x3 10000 x2 D q2 hc (fun e4 => ?_)
  clear hc
  exact hr.2.2.2 _ _ _ rfl trivial ⟨rfl, (congrArg (fun x => (([cb, sd, ln, pp], x) : zx_S)) (Option.some.inj h))⟩
set_option maxRecDepth 100000 in
set_option maxHeartbeats 4000000 in
theorem c_g_Pkg_writeEnd {l : Launch} {E : zx_E} {d : Nat} {cb sd ln pp : Nat} {D : zx_D} {q : zx_D} (h : g_Pkg_writeEnd D = some q) : zx_MC l E 101 (d + 2) [.ref 17] ([cb, sd, ln, pp], D) (fun v S => v = none ∧ S = ([cb, sd, ln, pp], q)) := by
  refine zx_ofC (K := ck_Pkg_writeEnd) rfl (by decide +kernel) rfl ok_Pkg_writeEnd (Nat.le_of_ble_eq_true rfl) (fun Zp hr => ?_)
  show Zp (0, [some (.ref 17)], [], [cb, sd, ln, pp], D)
  rw [g_Pkg_writeEnd] at h
  refine hr.1 24 True _ _ (38, [some (.ref 17)], [.int 6, .int 0, .ref 22, .ref 18], [cb, sd, ln, pp], zp_i (zp_i D 22 (zn 0) (((zg_i D 17 9) / 4) - 1)) 22 (zn 5) (zg_i D 17 5)) rfl ⟨⟨trivial, (zk_vp rfl)⟩, (zk_vp rfl)⟩ ?_
  obtain ⟨q1, hc, h⟩ := zk_bind h
  refine hr.2.2.1 _ _ _ _ _ (d + 1) rfl (by omega) (c_g_P_sumFour_22 (l := l) (E := E) (d := d) (cb := cb) (sd := sd) (ln := ln) (pp := pp) hc) (fun v S hq => ?_)
  obtain ⟨rfl, rfl⟩ := hq
  clear hc
  refine hr.1 1 True _ _ (42, [some (.ref 17)], [.int 4, .long q1, .ref 18], [cb, sd, ln, pp], zp_i (zp_i D 22 (zn 0) (((zg_i D 17 9) / 4) - 1)) 22 (zn 5) (zg_i D 17 5)) rfl trivial ?_
  obtain ⟨q2, hc, h⟩ := zk_bind h
  refine hr.2.2.1 _ _ _ _ _ (d + 1) rfl (by omega) (c_g_Row_appendLowFirst_18 (l := l) (E := E) (d := d) (cb := cb) (sd := sd) (ln := ln) (pp := pp) hc) (fun v S hq => ?_)
  obtain ⟨rfl, rfl⟩ := hq
  clear hc
  refine hr.1 8 True _ _ (59, [some (.ref 17)], [.int 6, .int 0, .ref 22, .ref 18], [cb, sd, ln, pp], q2) rfl trivial ?_
  obtain ⟨q3, hc, h⟩ := zk_bind h
  refine hr.2.2.1 _ _ _ _ _ (d + 1) rfl (by omega) (c_g_Row_appendAll_18_22 (l := l) (E := E) (d := d) (cb := cb) (sd := sd) (ln := ln) (pp := pp) hc) (fun v S hq => ?_)
  obtain ⟨rfl, rfl⟩ := hq
  clear hc
  refine hr.1 3 True _ _ (68, [some (.ref 17)], [.int 89, .ref 18], [cb, sd, ln, pp], q3) rfl trivial ?_
  obtain ⟨q4, hc, h⟩ := zk_bind h
  refine hr.2.2.1 _ _ _ _ _ (d + 1) rfl (by omega) (c_g_Row_append_18 (l := l) (E := E) (d := d + 1) (cb := cb) (sd := sd) (ln := ln) (pp := pp) hc) (fun v S hq => ?_)
  obtain ⟨rfl, rfl⟩ := hq
  clear hc
  refine hr.1 3 True _ _ (77, [some (.ref 17)], [.int 90, .ref 18], [cb, sd, ln, pp], q4) rfl trivial ?_
  obtain ⟨q5, hc, h⟩ := zk_bind h
  refine hr.2.2.1 _ _ _ _ _ (d + 1) rfl (by omega) (c_g_Row_append_18 (l := l) (E := E) (d := d + 1) (cb := cb) (sd := sd) (ln := ln) (pp := pp) hc) (fun v S hq => ?_)
  obtain ⟨rfl, rfl⟩ := hq
  clear hc
  exact hr.2.2.2 _ _ _ rfl trivial ⟨rfl, (congrArg (fun x => (([cb, sd, ln, pp], x) : zx_S)) (Option.some.inj h))⟩
set_option maxRecDepth 100000 in
set_option maxHeartbeats 4000000 in
theorem c_g_Row_become_3_18 {l : Launch} {E : zx_E} {d : Nat} {cb sd ln pp : Nat} {D : zx_D} {q : zx_D} (h : g_Row_become_3_18 D = some q) : zx_MC l E 28 d [.ref 3, .ref 18] ([cb, sd, ln, pp], D) (fun v S => v = none ∧ S = ([cb, sd, ln, pp], q)) := by
  refine zx_ofC (K := ck_Row_become) rfl (by decide +kernel) rfl ok_Row_become (Nat.le_of_ble_eq_true rfl) (fun Zp hr => ?_)
  show Zp (0, [some (.ref 3), some (.ref 18)], [], [cb, sd, ln, pp], D)
  rw [g_Row_become_3_18] at h
  obtain ⟨w2, h⟩ := zk_ck h
  refine hr.1 17 True _ _ (33, [some (.ref 3), some (.ref 18)], [], [cb, sd, ln, pp], zp_a (zp_i D 3 1 (if 640 < zg_i D 18 1 then 640 else zg_i D 18 1)) 4 (va_cpy (((zp_i D 3 1 (if 640 < zg_i D 18 1 then 640 else zg_i D 18 1))).1 19) (((zp_i D 3 1 (if 640 < zg_i D 18 1 then 640 else zg_i D 18 1))).1 4) (zn 0) (zn 0) (zn (if 640 < zg_i D 18 1 then 640 else zg_i D 18 1)))) rfl ⟨trivial, w2⟩ ?_
  exact hr.2.2.2 _ _ _ rfl trivial ⟨rfl, (congrArg (fun x => (([cb, sd, ln, pp], x) : zx_S)) (Option.some.inj h))⟩
set_option maxRecDepth 100000 in
set_option maxHeartbeats 4000000 in
theorem c_g_P_pack {l : Launch} {E : zx_E} {d : Nat} {cb sd ln pp : Nat} {x1 : Int32} {x2 : Int32} {x3 : Int32} {D : zx_D} {q : Int32 × Nat × Nat × zx_D} (h : g_P_pack ln pp x1 x2 x3 D = some q) : zx_MC l E 5 (d + 7) [.ref 0, .int x1, .int x2, .int x3] ([cb, sd, ln, pp], D) (fun v S => v = some (.int q.1) ∧ S = ([cb, sd, q.2.1, q.2.2.1], q.2.2.2)) := by
  refine zx_ofC (K := ck_P_pack) rfl (by decide +kernel) rfl ok_P_pack (Nat.le_of_ble_eq_true rfl) (fun Zp hr => ?_)
  show Zp (0, [some (.ref 0), some (.int x1), some (.int x2), some (.int x3), none], [], [cb, sd, ln, pp], D)
  have loop62 : ∀ (x3 : Int32) (k : Nat) (x4 : Int32) (r2 : Nat) (D : zx_D) (x1 : Int32) (x2 : Int32) (q : Nat × zx_D), g_P_pack_62 x3 k x4 r2 D = some q → (∀ (e4 : Int32), Zp (106, [some (.ref 0), some (.int x1), some (.int x2), some (.int x3), some (.int e4)], [], [cb, sd, q.1, 1], q.2)) → Zp (62, [some (.ref 0), some (.int x1), some (.int x2), some (.int x3), some (.int x4)], [], [cb, sd, r2, 1], D) := by
    intro x3 k
    induction k with
    | zero => intro x4 r2 D x1 x2 q h hx; exact (zk_no h).elim
    | succ k ih =>
      intro x4 r2 D x1 x2 q h hx
      rw [g_P_pack_62] at h
      refine hr.1 4 True _ _ (71, [some (.ref 0), some (.int x1), some (.int x2), some (.int x3), some (.int x4)], [.int (zg_i D 1 1), .int x4], [cb, sd, r2, 1], D) rfl trivial ?_
      refine hr.2.1 _ (zg_i D 1 1 ≤ x4) _ _ rfl (fun c71 => ?_) (fun c71 => ?_)
      · replace h := zk_t h c71
        replace h := Option.some.inj h
        subst h
        exact hx x4
      · replace h := zk_f h c71
        refine hr.1 10 True _ _ (94, [some (.ref 0), some (.int x1), some (.int x2), some (.int x3), some (.int x4)], [.int (if zg_i D 1 1 < x4 + x3 then zg_i D 1 1 else x4 + x3), .int x4, .ref 17], [cb, sd, r2, 1], D) rfl trivial ?_
        obtain ⟨q5, hc, h⟩ := zk_bind h
        refine hr.2.2.1 _ _ _ _ _ (d + 6) rfl (by omega) (c_g_Pkg_writePiece (l := l) (E := E) (d := d) (cb := cb) (sd := sd) (ln := r2) hc) (fun v S hq => ?_)
        obtain ⟨rfl, rfl⟩ := hq
        clear hc
        refine hr.1 5 True _ _ (62, [some (.ref 0), some (.int x1), some (.int x2), some (.int x3), some (.int (x4 + x3))], [], [cb, sd, q5.1, 1], q5.2) rfl trivial ?_
        exact ih (x4 + x3) q5.1 q5.2 _ _ _ h hx
  rw [g_P_pack] at h
  refine hr.1 1 True _ _ (1, [some (.ref 0), some (.int x1), some (.int x2), some (.int x3), none], [.int x1], [cb, sd, ln, pp], D) rfl trivial ?_
  obtain ⟨q1, hc, h⟩ := zk_bind h
  refine hr.2.2.1 _ _ _ _ _ (d + 6) rfl (by omega) (c_g_P_isSort (l := l) (E := E) (d := d + 6) (cb := cb) (sd := sd) (ln := ln) (pp := pp) hc) (fun v S hq => ?_)
  obtain ⟨rfl, rfl⟩ := hq
  clear hc
  refine hr.2.1 _ (q1 = 0) _ _ rfl (fun c4 => ?_) (fun c4 => ?_)
  · replace h := zk_t h c4
    refine hr.1 1 True _ _ (28, [some (.ref 0), some (.int x1), some (.int x2), some (.int x3), none], [.int (-3)], [cb, sd, ln, pp], D) rfl trivial ?_
    exact hr.2.2.2 _ _ _ rfl trivial ⟨(congrArg (fun x => some (Value.int x.1)) (Option.some.inj h)), (congrArg (fun x => (([cb, sd, x.2.1, x.2.2.1], x.2.2.2) : zx_S)) (Option.some.inj h))⟩
  · replace h := zk_f h c4
    refine hr.1 1 True _ _ (8, [some (.ref 0), some (.int x1), some (.int x2), some (.int x3), none], [.int x2], [cb, sd, ln, pp], D) rfl trivial ?_
    obtain ⟨q2, hc, h⟩ := zk_bind h
    refine hr.2.2.1 _ _ _ _ _ (d + 6) rfl (by omega) (c_g_P_areProperties (l := l) (E := E) (d := d + 6) (cb := cb) (sd := sd) (ln := ln) (pp := pp) hc) (fun v S hq => ?_)
    obtain ⟨rfl, rfl⟩ := hq
    clear hc
    refine hr.2.1 _ (q2 = 0) _ _ rfl (fun c11 => ?_) (fun c11 => ?_)
    · replace h := zk_t h c11
      refine hr.1 1 True _ _ (28, [some (.ref 0), some (.int x1), some (.int x2), some (.int x3), none], [.int (-3)], [cb, sd, ln, pp], D) rfl trivial ?_
      exact hr.2.2.2 _ _ _ rfl trivial ⟨(congrArg (fun x => some (Value.int x.1)) (Option.some.inj h)), (congrArg (fun x => (([cb, sd, x.2.1, x.2.2.1], x.2.2.2) : zx_S)) (Option.some.inj h))⟩
    · replace h := zk_f h c11
      refine hr.1 2 True _ _ (16, [some (.ref 0), some (.int x1), some (.int x2), some (.int x3), none], [.int 1, .int x3], [cb, sd, ln, pp], D) rfl trivial ?_
      refine hr.2.1 _ (x3 < 1) _ _ rfl (fun c16 => ?_) (fun c16 => ?_)
      · replace h := zk_t h c16
        refine hr.1 1 True _ _ (28, [some (.ref 0), some (.int x1), some (.int x2), some (.int x3), none], [.int (-3)], [cb, sd, ln, pp], D) rfl trivial ?_
        exact hr.2.2.2 _ _ _ rfl trivial ⟨(congrArg (fun x => some (Value.int x.1)) (Option.some.inj h)), (congrArg (fun x => (([cb, sd, x.2.1, x.2.2.1], x.2.2.2) : zx_S)) (Option.some.inj h))⟩
      · replace h := zk_f h c16
        refine hr.1 2 True _ _ (23, [some (.ref 0), some (.int x1), some (.int x2), some (.int x3), none], [.int 400, .int x3], [cb, sd, ln, pp], D) rfl trivial ?_
        refine hr.2.1 _ (x3 ≤ 400) _ _ rfl (fun c23 => ?_) (fun c23 => ?_)
        · replace h := zk_t h c23
          refine hr.1 6 True _ _ (39, [some (.ref 0), some (.int x1), some (.int x2), some (.int x3), none], [.int x2, .int x1, .ref 1, .ref 17], [cb, sd, ln, pp], D) rfl trivial ?_
          obtain ⟨q3, hc, h⟩ := zk_bind h
          refine hr.2.2.1 _ _ _ _ _ (d + 6) rfl (by omega) (c_g_Pkg_begin_1 (l := l) (E := E) (d := d + 4) (cb := cb) (sd := sd) (ln := ln) (pp := pp) hc) (fun v S hq => ?_)
          obtain ⟨rfl, rfl⟩ := hq
          clear hc
          refine hr.1 3 True _ _ (49, [some (.ref 0), some (.int x1), some (.int x2), some (.int x3), none], [.int (zg_i q3 1 1)], [cb, sd, ln, 1], q3) rfl trivial ?_
          obtain ⟨q8, hj, h⟩ := zk_bind h
          have J113 : ∀ (o4 : Option Value), Zp (113, [some (.ref 0), some (.int x1), some (.int x2), some (.int x3), o4], [], [cb, sd, q8.1, 1], q8.2) := by
            intro o4
            refine hr.1 2 True _ _ (117, [some (.ref 0), some (.int x1), some (.int x2), some (.int x3), o4], [.ref 17], [cb, sd, q8.1, 1], q8.2) rfl trivial ?_
            obtain ⟨q9, hc, h⟩ := zk_bind h
            refine hr.2.2.1 _ _ _ _ _ (d + 6) rfl (by omega) (c_g_Pkg_writeIndex (l := l) (E := E) (d := d + 4) (cb := cb) (sd := sd) (ln := q8.1) hc) (fun v S hq => ?_)
            obtain ⟨rfl, rfl⟩ := hq
            clear hc
            refine hr.1 2 True _ _ (124, [some (.ref 0), some (.int x1), some (.int x2), some (.int x3), o4], [.ref 17], [cb, sd, q8.1, 1], q9) rfl trivial ?_
            obtain ⟨q10, hc, h⟩ := zk_bind h
            refine hr.2.2.1 _ _ _ _ _ (d + 6) rfl (by omega) (c_g_Pkg_writeEnd (l := l) (E := E) (d := d + 4) (cb := cb) (sd := sd) (ln := q8.1) (pp := 1) hc) (fun v S hq => ?_)
            obtain ⟨rfl, rfl⟩ := hq
            clear hc
            refine hr.1 4 True _ _ (137, [some (.ref 0), some (.int x1), some (.int x2), some (.int x3), o4], [.int (zg_i q10 18 2)], [cb, sd, q8.1, 1], q10) rfl trivial ?_
            refine hr.2.1 _ (zg_i q10 18 2 = 0) _ _ rfl (fun c137 => ?_) (fun c137 => ?_)
            · replace h := zk_t h c137
              refine hr.1 5 True _ _ (154, [some (.ref 0), some (.int x1), some (.int x2), some (.int x3), o4], [.ref 18, .ref 3], [cb, sd, q8.1, 1], q10) rfl trivial ?_
              obtain ⟨q11, hc, h⟩ := zk_bind h
              refine hr.2.2.1 _ _ _ _ _ (d + 6) rfl (by omega) (c_g_Row_become_3_18 (l := l) (E := E) (d := d + 6) (cb := cb) (sd := sd) (ln := q8.1) (pp := 1) hc) (fun v S hq => ?_)
              obtain ⟨rfl, rfl⟩ := hq
              clear hc
              refine hr.1 3 True _ _ (164, [some (.ref 0), some (.int x1), some (.int x2), some (.int x3), o4], [.int (zg_i q11 3 1)], [cb, sd, q8.1, 1], q11) rfl trivial ?_
              exact hr.2.2.2 _ _ _ rfl trivial ⟨(congrArg (fun x => some (Value.int x.1)) (Option.some.inj h)), (congrArg (fun x => (([cb, sd, x.2.1, x.2.2.1], x.2.2.2) : zx_S)) (Option.some.inj h))⟩
            · replace h := zk_f h c137
              refine hr.1 1 True _ _ (142, [some (.ref 0), some (.int x1), some (.int x2), some (.int x3), o4], [.int (-5)], [cb, sd, q8.1, 1], q10) rfl trivial ?_
              exact hr.2.2.2 _ _ _ rfl trivial ⟨(congrArg (fun x => some (Value.int x.1)) (Option.some.inj h)), (congrArg (fun x => (([cb, sd, x.2.1, x.2.2.1], x.2.2.2) : zx_S)) (Option.some.inj h))⟩
          clear h
          have h := hj
          clear hj
          refine hr.2.1 _ (zg_i q3 1 1 ≤ 0) _ _ rfl (fun c49 => ?_) (fun c49 => ?_)
          · replace h := zk_t h c49
            replace h := Option.some.inj h
            subst h
            exact J113 none
          · replace h := zk_f h c49
            refine hr.1 2 True _ _ (56, [some (.ref 0), some (.int x1), some (.int x2), some (.int x3), none], [.ref 17], [cb, sd, ln, 1], q3) rfl trivial ?_
            obtain ⟨q4, hc, h⟩ := zk_bind h
            refine hr.2.2.1 _ _ _ _ _ (d + 6) rfl (by omega) (c_g_Pkg_writeHead (l := l) (E := E) (d := d + 4) (cb := cb) (sd := sd) (ln := ln) (pp := 1) hc) (fun v S hq => ?_)
            obtain ⟨rfl, rfl⟩ := hq
            clear hc
            refine hr.1 2 True _ _ (62, [some (.ref 0), some (.int x1), some (.int x2), some (.int x3), some (.int 0)], [], [cb, sd, ln, 1], q4) rfl trivial ?_
            obtain ⟨q6, hc, h⟩ := zk_bind h
            refine loop62 x3 10000 0 ln q4 x1 x2 q6 hc (fun e4 => ?_)
            clear hc
            refine hr.1 2 True _ _ (110, [some (.ref 0), some (.int x1), some (.int x2), some (.int x3), some (.int e4)], [.ref 17], [cb, sd, q6.1, 1], q6.2) rfl trivial ?_
            obtain ⟨q7, hc, h⟩ := zk_bind h
            refine hr.2.2.1 _ _ _ _ _ (d + 6) rfl (by omega) (c_g_Pkg_closeBlock (l := l) (E := E) (d := d + 4) (cb := cb) (sd := sd) (ln := q6.1) hc) (fun v S hq => ?_)
            obtain ⟨rfl, rfl⟩ := hq
            clear hc
            replace h := Option.some.inj h
            subst h
            exact J113 (some (.int e4))
        · replace h := zk_f h c23
          refine hr.1 1 True _ _ (28, [some (.ref 0), some (.int x1), some (.int x2), some (.int x3), none], [.int (-3)], [cb, sd, ln, pp], D) rfl trivial ?_
          exact hr.2.2.2 _ _ _ rfl trivial ⟨(congrArg (fun x => some (Value.int x.1)) (Option.some.inj h)), (congrArg (fun x => (([cb, sd, x.2.1, x.2.2.1], x.2.2.2) : zx_S)) (Option.some.inj h))⟩
set_option maxRecDepth 100000 in
set_option maxHeartbeats 4000000 in
theorem c_g_Cur_begin_3 {l : Launch} {E : zx_E} {d : Nat} {cb sd ln pp : Nat} {D : zx_D} {q : zx_D} (h : g_Cur_begin_3 D = some q) : zx_MC l E 29 d [.ref 12, .ref 3] ([cb, sd, ln, pp], D) (fun v S => v = none ∧ S = ([4, sd, ln, pp], q)) := by
  refine zx_ofC (K := ck_Cur_begin) rfl (by decide +kernel) rfl ok_Cur_begin (Nat.le_of_ble_eq_true rfl) (fun Zp hr => ?_)
  show Zp (0, [some (.ref 12), some (.ref 3)], [], [cb, sd, ln, pp], D)
  rw [g_Cur_begin_3] at h
  refine hr.1 21 True _ _ (39, [some (.ref 12), some (.ref 3)], [], [4, sd, ln, pp], zp_i (zp_i (zp_i (zp_i (zp_i D 12 1 (zg_i D 3 1)) 12 2 (zg_i D 3 1)) 12 3 0) 12 4 0) 12 5 (-1)) rfl trivial ?_
  exact hr.2.2.2 _ _ _ rfl trivial ⟨rfl, (congrArg (fun x => (([4, sd, ln, pp], x) : zx_S)) (Option.some.inj h))⟩
set_option maxRecDepth 100000 in
set_option maxHeartbeats 4000000 in
theorem c_g_Row_clear_10 {l : Launch} {E : zx_E} {d : Nat} {cb sd ln pp : Nat} {D : zx_D} {q : zx_D} (h : g_Row_clear_10 D = some q) : zx_MC l E 20 d [.ref 10] ([cb, sd, ln, pp], D) (fun v S => v = none ∧ S = ([cb, sd, ln, pp], q)) := by
  refine zx_ofC (K := ck_Row_clear) rfl (by decide +kernel) rfl ok_Row_clear (Nat.le_of_ble_eq_true rfl) (fun Zp hr => ?_)
  show Zp (0, [some (.ref 10)], [], [cb, sd, ln, pp], D)
  rw [g_Row_clear_10] at h
  refine hr.1 6 True _ _ (10, [some (.ref 10)], [], [cb, sd, ln, pp], zp_i (zp_i D 10 1 0) 10 2 0) rfl ⟨trivial, (Or.inl rfl)⟩ ?_
  exact hr.2.2.2 _ _ _ rfl trivial ⟨rfl, (congrArg (fun x => (([cb, sd, ln, pp], x) : zx_S)) (Option.some.inj h))⟩
set_option maxRecDepth 100000 in
set_option maxHeartbeats 4000000 in
theorem c_g_Arr_fill2_14 {l : Launch} {E : zx_E} {d : Nat} {cb sd ln pp : Nat} {x1 : Int32} {D : zx_D} {q : zx_D} (h : g_Arr_fill2_14 x1 D = some q) : zx_MC l E 183 d [.ref 14, .int x1] ([cb, sd, ln, pp], D) (fun v S => v = none ∧ S = ([cb, sd, ln, pp], q)) := by
  refine zx_ofC (K := ck_Arr_fill2) rfl (by decide +kernel) rfl ok_Arr_fill2 (Nat.le_of_ble_eq_true rfl) (fun Zp hr => ?_)
  show Zp (0, [some (.ref 14), some (.int x1), none, none], [], [cb, sd, ln, pp], D)
  have loop5 : ∀ (x1 : Int32) (x3 : Int32) (k : Nat) (x2 : Int32) (D : zx_D) (q : zx_D), g_Arr_fill2_14_5 x1 x3 k x2 D = some q → (∀ (e2 : Int32), Zp (20, [some (.ref 14), some (.int x1), some (.int e2), some (.int x3)], [], [cb, sd, ln, pp], q)) → Zp (5, [some (.ref 14), some (.int x1), some (.int x2), some (.int x3)], [], [cb, sd, ln, pp], D) := by
    intro x1 x3 k
    induction k with
    | zero => intro x2 D q h hx; exact (zk_no h).elim
    | succ k ih =>
      intro x2 D q h hx
      rw [g_Arr_fill2_14_5] at h
      refine hr.1 2 True _ _ (7, [some (.ref 14), some (.int x1), some (.int x2), some (.int x3)], [.int x3, .int x2], [cb, sd, ln, pp], D) rfl trivial ?_
      refine hr.2.1 _ (x3 ≤ x2) _ _ rfl (fun c7 => ?_) (fun c7 => ?_)
      · replace h := zk_t h c7
        replace h := Option.some.inj h
        subst h
        exact hx x2
      · replace h := zk_f h c7
        obtain ⟨w2, h⟩ := zk_ck h
        refine hr.1 6 True _ _ (5, [some (.ref 14), some (.int x1), some (.int (x2 + 1)), some (.int x3)], [], [cb, sd, ln, pp], zp_i D 14 (zn x2) x1) rfl ⟨trivial, (zk_vp w2)⟩ ?_
        exact ih (x2 + 1) (zp_i D 14 (zn x2) x1) _ h hx
  rw [g_Arr_fill2_14] at h
  refine hr.1 5 True _ _ (5, [some (.ref 14), some (.int x1), some (.int 0), some (.int 11)], [], [cb, sd, ln, pp], D) rfl trivial ?_
  obtain ⟨q1, hc, h⟩ := zk_bind h
  refine loop5 x1 11 10000 0 D q1 hc (fun e2 => ?_)
  clear hc
  exact hr.2.2.2 _ _ _ rfl trivial ⟨rfl, (congrArg (fun x => (([cb, sd, ln, pp], x) : zx_S)) (Option.some.inj h))⟩
set_option maxRecDepth 100000 in
set_option maxHeartbeats 4000000 in
theorem c_g_Src_forget {l : Launch} {E : zx_E} {d : Nat} {cb sd ln pp : Nat} {D : zx_D} {q : zx_D} (h : g_Src_forget D = some q) : zx_MC l E 43 d [.ref 5] ([cb, sd, ln, pp], D) (fun v S => v = none ∧ S = ([cb, sd, ln, pp], q)) := by
  refine zx_ofC (K := ck_Src_forget) rfl (by decide +kernel) rfl ok_Src_forget (Nat.le_of_ble_eq_true rfl) (fun Zp hr => ?_)
  show Zp (0, [some (.ref 5)], [], [cb, sd, ln, pp], D)
  rw [g_Src_forget] at h
  refine hr.1 9 True _ _ (19, [some (.ref 5)], [], [cb, sd, ln, pp], zp_l (zp_l (zp_i D 5 8 0) 5 10 (-1)) 5 11 (-1)) rfl trivial ?_
  exact hr.2.2.2 _ _ _ rfl trivial ⟨rfl, (congrArg (fun x => (([cb, sd, ln, pp], x) : zx_S)) (Option.some.inj h))⟩
set_option maxRecDepth 100000 in
set_option maxHeartbeats 4000000 in
theorem c_g_Unp_begin_3 {l : Launch} {E : zx_E} {d : Nat} {cb sd ln pp : Nat} {D : zx_D} {q : zx_D} (h : g_Unp_begin_3 D = some q) : zx_MC l E 69 (d + 1) [.ref 9, .ref 3] ([cb, sd, ln, pp], D) (fun v S => v = none ∧ S = ([4, sd, ln, pp], q)) := by
  refine zx_ofC (K := ck_Unp_begin) rfl (by decide +kernel) rfl ok_Unp_begin (Nat.le_of_ble_eq_true rfl) (fun Zp hr => ?_)
  show Zp (0, [some (.ref 9), some (.ref 3)], [], [cb, sd, ln, pp], D)
  rw [g_Unp_begin_3] at h
  refine hr.1 3 True _ _ (5, [some (.ref 9), some (.ref 3)], [.ref 3, .ref 12], [cb, sd, ln, pp], D) rfl trivial ?_
  obtain ⟨q1, hc, h⟩ := zk_bind h
  refine hr.2.2.1 _ _ _ _ _ (d) rfl (by omega) (c_g_Cur_begin_3 (l := l) (E := E) (d := d) (cb := cb) (sd := sd) (ln := ln) (pp := pp) hc) (fun v S hq => ?_)
  obtain ⟨rfl, rfl⟩ := hq
  clear hc
  refine hr.1 2 True _ _ (12, [some (.ref 9), some (.ref 3)], [.ref 10], [4, sd, ln, pp], q1) rfl trivial ?_
  obtain ⟨q2, hc, h⟩ := zk_bind h
  refine hr.2.2.1 _ _ _ _ _ (d) rfl (by omega) (c_g_Row_clear_10 (l := l) (E := E) (d := d) (cb := 4) (sd := sd) (ln := ln) (pp := pp) hc) (fun v S hq => ?_)
  obtain ⟨rfl, rfl⟩ := hq
  clear hc
  refine hr.1 3 True _ _ (20, [some (.ref 9), some (.ref 3)], [.int 0, .ref 14], [4, sd, ln, pp], q2) rfl trivial ?_
  obtain ⟨q3, hc, h⟩ := zk_bind h
  refine hr.2.2.1 _ _ _ _ _ (d) rfl (by omega) (c_g_Arr_fill2_14 (l := l) (E := E) (d := d) (cb := 4) (sd := sd) (ln := ln) (pp := pp) hc) (fun v S hq => ?_)
  obtain ⟨rfl, rfl⟩ := hq
  clear hc
  refine hr.1 2 True _ _ (27, [some (.ref 9), some (.ref 3)], [.ref 5], [4, sd, ln, pp], q3) rfl trivial ?_
  obtain ⟨q4, hc, h⟩ := zk_bind h
  refine hr.2.2.1 _ _ _ _ _ (d) rfl (by omega) (c_g_Src_forget (l := l) (E := E) (d := d) (cb := 4) (sd := sd) (ln := ln) (pp := pp) hc) (fun v S hq => ?_)
  obtain ⟨rfl, rfl⟩ := hq
  clear hc
  exact hr.2.2.2 _ _ _ rfl trivial ⟨rfl, (congrArg (fun x => (([4, sd, ln, pp], x) : zx_S)) (Option.some.inj h))⟩
set_option maxRecDepth 100000 in
set_option maxHeartbeats 4000000 in
theorem c_g_Cur_fail {l : Launch} {E : zx_E} {d : Nat} {cb sd ln pp : Nat} {x1 : Int32} {x2 : Int32} {D : zx_D} {q : zx_D} (h : g_Cur_fail x1 x2 D = some q) : zx_MC l E 31 d [.ref 12, .int x1, .int x2] ([cb, sd, ln, pp], D) (fun v S => v = none ∧ S = ([cb, sd, ln, pp], q)) := by
  refine zx_ofC (K := ck_Cur_fail) rfl (by decide +kernel) rfl ok_Cur_fail (Nat.le_of_ble_eq_true rfl) (fun Zp hr => ?_)
  show Zp (0, [some (.ref 12), some (.int x1), some (.int x2)], [], [cb, sd, ln, pp], D)
  rw [g_Cur_fail] at h
  refine hr.1 2 True _ _ (4, [some (.ref 12), some (.int x1), some (.int x2)], [.int (zg_i D 12 4)], [cb, sd, ln, pp], D) rfl trivial ?_
  refine hr.2.1 _ (¬ zg_i D 12 4 = 0) _ _ rfl (fun c4 => ?_) (fun c4 => ?_)
  · replace h := zk_t h c4
    exact hr.2.2.2 _ _ _ rfl trivial ⟨rfl, (congrArg (fun x => (([cb, sd, ln, pp], x) : zx_S)) (Option.some.inj h))⟩
  · replace h := zk_f h c4
    refine hr.1 6 True _ _ (17, [some (.ref 12), some (.int x1), some (.int x2)], [], [cb, sd, ln, pp], zp_i (zp_i D 12 4 x1) 12 5 x2) rfl trivial ?_
    exact hr.2.2.2 _ _ _ rfl trivial ⟨rfl, (congrArg (fun x => (([cb, sd, ln, pp], x) : zx_S)) (Option.some.inj h))⟩
set_option maxRecDepth 100000 in
set_option maxHeartbeats 4000000 in
theorem c_g_Cur_has {l : Launch} {E : zx_E} {d : Nat} {cb sd ln pp : Nat} {x1 : Int32} {D : zx_D} {q : Int32 × zx_D} (h : g_Cur_has x1 D = some q) : zx_MC l E 34 (d + 1) [.ref 12, .int x1] ([cb, sd, ln, pp], D) (fun v S => v = some (.int q.1) ∧ S = ([cb, sd, ln, pp], q.2)) := by
  refine zx_ofC (K := ck_Cur_has) rfl (by decide +kernel) rfl ok_Cur_has (Nat.le_of_ble_eq_true rfl) (fun Zp hr => ?_)
  show Zp (0, [some (.ref 12), some (.int x1)], [], [cb, sd, ln, pp], D)
  rw [g_Cur_has] at h
  refine hr.1 2 True _ _ (4, [some (.ref 12), some (.int x1)], [.int (zg_i D 12 4)], [cb, sd, ln, pp], D) rfl trivial ?_
  refine hr.2.1 _ (¬ zg_i D 12 4 = 0) _ _ rfl (fun c4 => ?_) (fun c4 => ?_)
  · replace h := zk_t h c4
    refine hr.1 2 True _ _ (50, [some (.ref 12), some (.int x1)], [.int (zg_i D 12 4)], [cb, sd, ln, pp], D) rfl trivial ?_
    refine hr.2.1 _ (¬ zg_i D 12 4 = 0) _ _ rfl (fun _ => ?_) (fun z => absurd c4 z)
    refine hr.1 1 True _ _ (58, [some (.ref 12), some (.int x1)], [.int 0], [cb, sd, ln, pp], D) rfl trivial ?_
    exact hr.2.2.2 _ _ _ rfl (Or.inl rfl) ⟨(congrArg (fun x => some (Value.int x.1)) (Option.some.inj h)), (congrArg (fun x => (([cb, sd, ln, pp], x.2) : zx_S)) (Option.some.inj h))⟩
  · replace h := zk_f h c4
    refine hr.1 6 True _ _ (17, [some (.ref 12), some (.int x1)], [.int x1, .int ((zg_i D 12 2) - (zg_i D 12 3))], [cb, sd, ln, pp], D) rfl trivial ?_
    refine hr.2.1 _ (x1 ≤ (zg_i D 12 2) - (zg_i D 12 3)) _ _ rfl (fun c17 => ?_) (fun c17 => ?_)
    · replace h := zk_t h c17
      refine hr.1 2 True _ _ (50, [some (.ref 12), some (.int x1)], [.int (zg_i D 12 4)], [cb, sd, ln, pp], D) rfl trivial ?_
      refine hr.2.1 _ (¬ zg_i D 12 4 = 0) _ _ rfl (fun z => absurd z c4) (fun _ => ?_)
      refine hr.1 2 True _ _ (58, [some (.ref 12), some (.int x1)], [.int 1], [cb, sd, ln, pp], D) rfl trivial ?_
      exact hr.2.2.2 _ _ _ rfl (Or.inr rfl) ⟨(congrArg (fun x => some (Value.int x.1)) (Option.some.inj h)), (congrArg (fun x => (([cb, sd, ln, pp], x.2) : zx_S)) (Option.some.inj h))⟩
    · replace h := zk_f h c17
      refine hr.1 5 True _ _ (29, [some (.ref 12), some (.int x1)], [.int (zg_i D 12 1), .int (zg_i D 12 2), .ref 12], [cb, sd, ln, pp], D) rfl trivial ?_
      obtain ⟨q1, hj, h⟩ := zk_bind h
      have J39 : ∀ (_ : True), Zp (39, [some (.ref 12), some (.int x1)], [.int q1, .ref 12], [cb, sd, ln, pp], D) := by
        intro _
        refine hr.1 2 True _ _ (43, [some (.ref 12), some (.int x1)], [.int (zg_i D 12 3), .int q1, .ref 12], [cb, sd, ln, pp], D) rfl trivial ?_
        obtain ⟨q2, hc, h⟩ := zk_bind h
        refine hr.2.2.1 _ _ _ _ _ (d) rfl (by omega) (c_g_Cur_fail (l := l) (E := E) (d := d) (cb := cb) (sd := sd) (ln := ln) (pp := pp) hc) (fun v S hq => ?_)
        obtain ⟨rfl, rfl⟩ := hq
        clear hc
        refine hr.1 2 True _ _ (50, [some (.ref 12), some (.int x1)], [.int (zg_i q2 12 4)], [cb, sd, ln, pp], q2) rfl trivial ?_
        refine hr.2.1 _ (¬ zg_i q2 12 4 = 0) _ _ rfl (fun c50 => ?_) (fun c50 => ?_)
        · replace h := zk_t h c50
          refine hr.1 1 True _ _ (58, [some (.ref 12), some (.int x1)], [.int 0], [cb, sd, ln, pp], q2) rfl trivial ?_
          exact hr.2.2.2 _ _ _ rfl (Or.inl rfl) ⟨(congrArg (fun x => some (Value.int x.1)) (Option.some.inj h)), (congrArg (fun x => (([cb, sd, ln, pp], x.2) : zx_S)) (Option.some.inj h))⟩
        · replace h := zk_f h c50
          refine hr.1 2 True _ _ (58, [some (.ref 12), some (.int x1)], [.int 1], [cb, sd, ln, pp], q2) rfl trivial ?_
          exact hr.2.2.2 _ _ _ rfl (Or.inr rfl) ⟨(congrArg (fun x => some (Value.int x.1)) (Option.some.inj h)), (congrArg (fun x => (([cb, sd, ln, pp], x.2) : zx_S)) (Option.some.inj h))⟩
      clear h
      have h := hj
      clear hj
      refine hr.2.1 _ (¬ zg_i D 12 2 = zg_i D 12 1) _ _ rfl (fun c29 => ?_) (fun c29 => ?_)
      · replace h := zk_t h c29
        refine hr.1 1 True _ _ (39, [some (.ref 12), some (.int x1)], [.int (-3), .ref 12], [cb, sd, ln, pp], D) rfl trivial ?_
        replace h := Option.some.inj h
        subst h
        exact J39 trivial
      · replace h := zk_f h c29
        refine hr.1 2 True _ _ (39, [some (.ref 12), some (.int x1)], [.int (-2), .ref 12], [cb, sd, ln, pp], D) rfl trivial ?_
        replace h := Option.some.inj h
        subst h
        exact J39 trivial
set_option maxRecDepth 100000 in
set_option maxHeartbeats 4000000 in
theorem c_g_P_sumBy_4 {l : Launch} {E : zx_E} {d : Nat} {cb sd ln pp : Nat} {x1 : Int32} {x2 : Int32} {x3 : Int64} {x5 : Int64} {D : zx_D} {q : Int64} (h : g_P_sumBy_4 x1 x2 x3 x5 D = some q) : zx_MC l E 19 d [.ref 4, .int x1, .int x2, .long x3, .long x5] ([cb, sd, ln, pp], D) (fun v S => v = some (.long q) ∧ S = ([cb, sd, ln, pp], D)) := by
  refine zx_ofC (K := ck_P_sumBy) rfl (by decide +kernel) rfl ok_P_sumBy (Nat.le_of_ble_eq_true rfl) (fun Zp hr => ?_)
  show Zp (0, [some (.ref 4), some (.int x1), some (.int x2), some (.long x3), none, some (.long x5), none, none, none, none, none], [], [cb, sd, ln, pp], D)
  have loop25 : ∀ (x2 : Int32) (x3 : Int64) (x5 : Int64) (x9 : Int32) (D : zx_D) (k : Nat) (x7 : Int64) (x10 : Int32) (x1 : Int32) (q : Int64), g_P_sumBy_4_25 x2 x3 x5 x9 D k x7 x10 = some q → (∀ (e10 : Int32), Zp (63, [some (.ref 4), some (.int x1), some (.int x2), some (.long x3), none, some (.long x5), none, some (.long q), none, some (.int x9), some (.int e10)], [], [cb, sd, ln, pp], D)) → Zp (25, [some (.ref 4), some (.int x1), some (.int x2), some (.long x3), none, some (.long x5), none, some (.long x7), none, some (.int x9), some (.int x10)], [], [cb, sd, ln, pp], D) := by
    intro x2 x3 x5 x9 D k
    induction k with
    | zero => intro x7 x10 x1 q h hx; exact (zk_no h).elim
    | succ k ih =>
      intro x7 x10 x1 q h hx
      rw [g_P_sumBy_4_25] at h
      refine hr.1 2 True _ _ (29, [some (.ref 4), some (.int x1), some (.int x2), some (.long x3), none, some (.long x5), none, some (.long x7), none, some (.int x9), some (.int x10)], [.int 8, .int x10], [cb, sd, ln, pp], D) rfl trivial ?_
      refine hr.2.1 _ (8 ≤ x10) _ _ rfl (fun c29 => ?_) (fun c29 => ?_)
      · replace h := zk_t h c29
        replace h := Option.some.inj h
        subst h
        exact hx x10
      · replace h := zk_f h c29
        refine hr.1 4 True _ _ (37, [some (.ref 4), some (.int x1), some (.int x2), some (.long x3), none, some (.long x5), none, some (.long x7), none, some (.int x9), some (.int x10)], [.long 1, .long (x7 &&& 1)], [cb, sd, ln, pp], D) rfl trivial ?_
        refine hr.2.1 _ (¬ x7 &&& 1 = 1) _ _ rfl (fun c37 => ?_) (fun c37 => ?_)
        · replace h := zk_t h c37
          refine hr.1 6 True _ _ (25, [some (.ref 4), some (.int x1), some (.int x2), some (.long x3), none, some (.long x5), none, some (.long (zo_lushr x7 1)), none, some (.int x9), some (.int (x10 + 1))], [], [cb, sd, ln, pp], D) rfl trivial ?_
          exact ih (zo_lushr x7 1) (x10 + 1)  _ _ h hx
        · replace h := zk_f h c37
          refine hr.1 9 True _ _ (25, [some (.ref 4), some (.int x1), some (.int x2), some (.long x3), none, some (.long x5), none, some (.long ((zo_lushr x7 1) ^^^ x5)), none, some (.int x9), some (.int (x10 + 1))], [], [cb, sd, ln, pp], D) rfl trivial ?_
          exact ih ((zo_lushr x7 1) ^^^ x5) (x10 + 1)  _ _ h hx
  have loop6 : ∀ (x2 : Int32) (x3 : Int64) (x5 : Int64) (D : zx_D) (k : Nat) (x7 : Int64) (x9 : Int32) (o10 : Option Value) (x1 : Int32) (q : Int64), g_P_sumBy_4_6 x2 x3 x5 D k x7 x9 = some q → (∀ (e9 : Int32) (o10 : Option Value), Zp (69, [some (.ref 4), some (.int x1), some (.int x2), some (.long x3), none, some (.long x5), none, some (.long q), none, some (.int e9), o10], [], [cb, sd, ln, pp], D)) → Zp (6, [some (.ref 4), some (.int x1), some (.int x2), some (.long x3), none, some (.long x5), none, some (.long x7), none, some (.int x9), o10], [], [cb, sd, ln, pp], D) := by
    intro x2 x3 x5 D k
    induction k with
    | zero => intro x7 x9 o10 x1 q h hx; exact (zk_no h).elim
    | succ k ih =>
      intro x7 x9 o10 x1 q h hx
      rw [g_P_sumBy_4_6] at h
      refine hr.1 2 True _ _ (9, [some (.ref 4), some (.int x1), some (.int x2), some (.long x3), none, some (.long x5), none, some (.long x7), none, some (.int x9), o10], [.int x2, .int x9], [cb, sd, ln, pp], D) rfl trivial ?_
      refine hr.2.1 _ (x2 ≤ x9) _ _ rfl (fun c9 => ?_) (fun c9 => ?_)
      · replace h := zk_t h c9
        replace h := Option.some.inj h
        subst h
        exact hx x9 o10
      · replace h := zk_f h c9
        obtain ⟨w2, h⟩ := zk_ck h
        refine hr.1 9 True _ _ (25, [some (.ref 4), some (.int x1), some (.int x2), some (.long x3), none, some (.long x5), none, some (.long (x7 ^^^ (((zg_i D 4 (zn x9))).toInt64))), none, some (.int x9), some (.int 0)], [], [cb, sd, ln, pp], D) rfl ⟨trivial, (zk_vp w2)⟩ ?_
        obtain ⟨q1, hc, h⟩ := zk_bind h
        refine loop25 x2 x3 x5 x9 D 10000 (x7 ^^^ (((zg_i D 4 (zn x9))).toInt64)) 0 x1 q1 hc (fun e10 => ?_)
        clear hc
        refine hr.1 2 True _ _ (6, [some (.ref 4), some (.int x1), some (.int x2), some (.long x3), none, some (.long x5), none, some (.long q1), none, some (.int (x9 + 1)), some (.int e10)], [], [cb, sd, ln, pp], D) rfl trivial ?_
        exact ih q1 (x9 + 1)  _ _ _ h hx
  rw [g_P_sumBy_4] at h
  refine hr.1 4 True _ _ (6, [some (.ref 4), some (.int x1), some (.int x2), some (.long x3), none, some (.long x5), none, some (.long x3), none, some (.int x1), none], [], [cb, sd, ln, pp], D) rfl trivial ?_
  obtain ⟨q2, hc, h⟩ := zk_bind h
  refine loop6 x2 x3 x5 D 10000 x3 x1 none x1 q2 hc (fun e9 o10 => ?_)
  clear hc
  refine hr.1 3 True _ _ (73, [some (.ref 4), some (.int x1), some (.int x2), some (.long x3), none, some (.long x5), none, some (.long q2), none, some (.int e9), o10], [.long (q2 ^^^ x3)], [cb, sd, ln, pp], D) rfl trivial ?_
  exact hr.2.2.2 _ _ _ rfl trivial ⟨(congrArg (fun x => some (Value.long x)) (Option.some.inj h)), rfl⟩
set_option maxRecDepth 100000 in
set_option maxHeartbeats 4000000 in
theorem c_g_P_sumFour_4 {l : Launch} {E : zx_E} {d : Nat} {cb sd ln pp : Nat} {x1 : Int32} {x2 : Int32} {D : zx_D} {q : Int64} (h : g_P_sumFour_4 x1 x2 D = some q) : zx_MC l E 17 (d + 1) [.ref 4, .int x1, .int x2] ([cb, sd, ln, pp], D) (fun v S => v = some (.long q) ∧ S = ([cb, sd, ln, pp], D)) := by
  refine zx_ofC (K := ck_P_sumFour) rfl (by decide +kernel) rfl ok_P_sumFour (Nat.le_of_ble_eq_true rfl) (fun Zp hr => ?_)
  show Zp (0, [some (.ref 4), some (.int x1), some (.int x2)], [], [cb, sd, ln, pp], D)
  rw [g_P_sumFour_4] at h
  refine hr.1 5 True _ _ (9, [some (.ref 4), some (.int x1), some (.int x2)], [.long 3988292384, .long 4294967295, .int x2, .int x1, .ref 4], [cb, sd, ln, pp], D) rfl trivial ?_
  obtain ⟨q1, hc, h⟩ := zk_bind h
  refine hr.2.2.1 _ _ _ _ _ (d) rfl (by omega) (c_g_P_sumBy_4 (l := l) (E := E) (d := d) (cb := cb) (sd := sd) (ln := ln) (pp := pp) hc) (fun v S hq => ?_)
  obtain ⟨rfl, rfl⟩ := hq
  clear hc
  exact hr.2.2.2 _ _ _ rfl trivial ⟨(congrArg (fun x => some (Value.long x)) (Option.some.inj h)), rfl⟩
set_option maxRecDepth 100000 in
set_option maxHeartbeats 4000000 in
theorem c_g_Cur_lowFirst {l : Launch} {E : zx_E} {d : Nat} {sd ln pp : Nat} {x1 : Int32} {x2 : Int32} {D : zx_D} {q : Int64} (h : g_Cur_lowFirst x1 x2 D = some q) : zx_MC l E 38 d [.ref 12, .int x1, .int x2] ([4, sd, ln, pp], D) (fun v S => v = some (.long q) ∧ S = ([4, sd, ln, pp], D)) := by
  refine zx_ofC (K := ck_Cur_lowFirst) rfl (by decide +kernel) rfl ok_Cur_lowFirst (Nat.le_of_ble_eq_true rfl) (fun Zp hr => ?_)
  show Zp (0, [some (.ref 12), some (.int x1), some (.int x2), none, none, none], [], [4, sd, ln, pp], D)
  have loop7 : ∀ (x1 : Int32) (D : zx_D) (k : Nat) (x3 : Int64) (x5 : Int32) (x2 : Int32) (q : Int64), g_Cur_lowFirst_7 x1 D k x3 x5 = some q → (∀ (e5 : Int32), Zp (34, [some (.ref 12), some (.int x1), some (.int x2), some (.long q), none, some (.int e5)], [], [4, sd, ln, pp], D)) → Zp (7, [some (.ref 12), some (.int x1), some (.int x2), some (.long x3), none, some (.int x5)], [], [4, sd, ln, pp], D) := by
    intro x1 D k
    induction k with
    | zero => intro x3 x5 x2 q h hx; exact (zk_no h).elim
    | succ k ih =>
      intro x3 x5 x2 q h hx
      rw [g_Cur_lowFirst_7] at h
      refine hr.1 1 True _ _ (9, [some (.ref 12), some (.int x1), some (.int x2), some (.long x3), none, some (.int x5)], [.int x5], [4, sd, ln, pp], D) rfl trivial ?_
      refine hr.2.1 _ (x5 < 0) _ _ rfl (fun c9 => ?_) (fun c9 => ?_)
      · replace h := zk_t h c9
        replace h := Option.some.inj h
        subst h
        exact hx x5
      · replace h := zk_f h c9
        obtain ⟨w2, h⟩ := zk_ck h
        refine hr.1 14 True _ _ (7, [some (.ref 12), some (.int x1), some (.int x2), some (.long ((zo_lshl x3 8) + (((zg_i D 4 (zn (x1 + x5)))).toInt64))), none, some (.int (x5 + (-1)))], [], [4, sd, ln, pp], D) rfl ⟨trivial, (zk_vp w2)⟩ ?_
        exact ih ((zo_lshl x3 8) + (((zg_i D 4 (zn (x1 + x5)))).toInt64)) (x5 + (-1))  _ _ h hx
  rw [g_Cur_lowFirst] at h
  refine hr.1 6 True _ _ (7, [some (.ref 12), some (.int x1), some (.int x2), some (.long 0), none, some (.int (x2 - 1))], [], [4, sd, ln, pp], D) rfl trivial ?_
  obtain ⟨q1, hc, h⟩ := zk_bind h
  refine loop7 x1 D 10000 0 (x2 - 1) x2 q1 hc (fun e5 => ?_)
  clear hc
  refine hr.1 1 True _ _ (35, [some (.ref 12), some (.int x1), some (.int x2), some (.long q1), none, some (.int e5)], [.long q1], [4, sd, ln, pp], D) rfl trivial ?_
  exact hr.2.2.2 _ _ _ rfl trivial ⟨(congrArg (fun x => some (Value.long x)) (Option.some.inj h)), rfl⟩
set_option maxRecDepth 100000 in
set_option maxHeartbeats 4000000 in
theorem c_g_Cur_expectSum {l : Launch} {E : zx_E} {d : Nat} {sd ln pp : Nat} {x1 : Int32} {x2 : Int64} {D : zx_D} {q : zx_D} (h : g_Cur_expectSum x1 x2 D = some q) : zx_MC l E 39 (d + 2) [.ref 12, .int x1, .long x2] ([4, sd, ln, pp], D) (fun v S => v = none ∧ S = ([4, sd, ln, pp], q)) := by
  refine zx_ofC (K := ck_Cur_expectSum) rfl (by decide +kernel) rfl ok_Cur_expectSum (Nat.le_of_ble_eq_true rfl) (fun Zp hr => ?_)
  show Zp (0, [some (.ref 12), some (.int x1), some (.long x2), none], [], [4, sd, ln, pp], D)
  rw [g_Cur_expectSum] at h
  refine hr.1 2 True _ _ (2, [some (.ref 12), some (.int x1), some (.long x2), none], [.int x1, .ref 12], [4, sd, ln, pp], D) rfl trivial ?_
  obtain ⟨q1, hc, h⟩ := zk_bind h
  refine hr.2.2.1 _ _ _ _ _ (d + 1) rfl (by omega) (c_g_Cur_has (l := l) (E := E) (d := d) (cb := 4) (sd := sd) (ln := ln) (pp := pp) hc) (fun v S hq => ?_)
  obtain ⟨rfl, rfl⟩ := hq
  clear hc
  refine hr.2.1 _ (¬ q1.1 = 0) _ _ rfl (fun c5 => ?_) (fun c5 => ?_)
  · replace h := zk_t h c5
    refine hr.1 4 True _ _ (15, [some (.ref 12), some (.int x1), some (.long x2), none], [.int x1, .int (zg_i q1.2 12 3), .ref 12], [4, sd, ln, pp], q1.2) rfl trivial ?_
    obtain ⟨q2, hc, h⟩ := zk_bind h
    refine hr.2.2.1 _ _ _ _ _ (d + 1) rfl (by omega) (c_g_Cur_lowFirst (l := l) (E := E) (d := d + 1) (sd := sd) (ln := ln) (pp := pp) hc) (fun v S hq => ?_)
    obtain ⟨rfl, rfl⟩ := hq
    clear hc
    refine hr.1 1 True _ _ (19, [some (.ref 12), some (.int x1), some (.long x2), none], [.long x2, .long q2], [4, sd, ln, pp], q1.2) rfl trivial ?_
    refine hr.2.1 _ (q2 = x2) _ _ rfl (fun c19 => ?_) (fun c19 => ?_)
    · replace h := zk_t h c19
      refine hr.1 6 True _ _ (44, [some (.ref 12), some (.int x1), some (.long x2), none], [], [4, sd, ln, pp], zp_i q1.2 12 3 ((zg_i q1.2 12 3) + x1)) rfl trivial ?_
      exact hr.2.2.2 _ _ _ rfl trivial ⟨rfl, (congrArg (fun x => (([4, sd, ln, pp], x) : zx_S)) (Option.some.inj h))⟩
    · replace h := zk_f h c19
      refine hr.1 4 True _ _ (30, [some (.ref 12), some (.int x1), some (.long x2), none], [.int (zg_i q1.2 12 3), .int (-4), .ref 12], [4, sd, ln, pp], q1.2) rfl trivial ?_
      obtain ⟨q3, hc, h⟩ := zk_bind h
      refine hr.2.2.1 _ _ _ _ _ (d + 1) rfl (by omega) (c_g_Cur_fail (l := l) (E := E) (d := d + 1) (cb := 4) (sd := sd) (ln := ln) (pp := pp) hc) (fun v S hq => ?_)
      obtain ⟨rfl, rfl⟩ := hq
      clear hc
      exact hr.2.2.2 _ _ _ rfl trivial ⟨rfl, (congrArg (fun x => (([4, sd, ln, pp], x) : zx_S)) (Option.some.inj h))⟩
  · replace h := zk_f h c5
    exact hr.2.2.2 _ _ _ rfl trivial ⟨rfl, (congrArg (fun x => (([4, sd, ln, pp], x) : zx_S)) (Option.some.inj h))⟩
set_option maxRecDepth 100000 in
set_option maxHeartbeats 4000000 in
theorem c_g_Unp_readStart {l : Launch} {E : zx_E} {d : Nat} {sd ln pp : Nat} {D : zx_D} {q : zx_D} (h : g_Unp_readStart D = some q) : zx_MC l E 70 (d + 3) [.ref 9] ([4, sd, ln, pp], D) (fun v S => v = none ∧ S = ([4, sd, ln, pp], q)) := by
  refine zx_ofC (K := ck_Unp_readStart) rfl (by decide +kernel) rfl ok_Unp_readStart (Nat.le_of_ble_eq_true rfl) (fun Zp hr => ?_)
  show Zp (0, [some (.ref 9), none], [], [4, sd, ln, pp], D)
  have loop17 : ∀ (k : Nat) (x1 : Int32) (D : zx_D), g_Unp_readStart_17 k x1 D = some q → Zp (17, [some (.ref 9), some (.int x1)], [], [4, sd, ln, pp], D) := by
    intro k
    induction k with
    | zero => intro x1 D h; exact (zk_no h).elim
    | succ k ih =>
      intro x1 D h
      rw [g_Unp_readStart_17] at h
      refine hr.1 3 True _ _ (22, [some (.ref 9), some (.int x1)], [.int 6, .int x1], [4, sd, ln, pp], D) rfl trivial ?_
      refine hr.2.1 _ (6 ≤ x1) _ _ rfl (fun c22 => ?_) (fun c22 => ?_)
      · replace h := zk_t h c22
        refine hr.1 7 True _ _ (73, [some (.ref 9), some (.int x1)], [.int 2, .ref 12], [4, sd, ln, pp], zp_i D 12 3 6) rfl trivial ?_
        obtain ⟨q2, hc, h⟩ := zk_bind h
        refine hr.2.2.1 _ _ _ _ _ (d + 2) rfl (by omega) (c_g_Cur_has (l := l) (E := E) (d := d + 1) (cb := 4) (sd := sd) (ln := ln) (pp := pp) hc) (fun v S hq => ?_)
        obtain ⟨rfl, rfl⟩ := hq
        clear hc
        refine hr.2.1 _ (¬ q2.1 = 0) _ _ rfl (fun c76 => ?_) (fun c76 => ?_)
        · replace h := zk_t h c76
          refine hr.1 12 True _ _ (104, [some (.ref 9), some (.int x1)], [.int (zg_i q2.2 4 (zn 6))], [4, sd, ln, pp], zp_i q2.2 9 7 (zg_i q2.2 4 (zn 7))) rfl ⟨⟨trivial, (zk_vp rfl)⟩, (zk_vp rfl)⟩ ?_
          refine hr.2.1 _ (¬ zg_i q2.2 4 (zn 6) = 0) _ _ rfl (fun c104 => ?_) (fun c104 => ?_)
          · replace h := zk_t h c104
            refine hr.1 4 True _ _ (125, [some (.ref 9), some (.int x1)], [.int 6, .int (-3), .ref 12], [4, sd, ln, pp], zp_i q2.2 9 7 (zg_i q2.2 4 (zn 7))) rfl trivial ?_
            obtain ⟨q3, hc, h⟩ := zk_bind h
            refine hr.2.2.1 _ _ _ _ _ (d + 2) rfl (by omega) (c_g_Cur_fail (l := l) (E := E) (d := d + 2) (cb := 4) (sd := sd) (ln := ln) (pp := pp) hc) (fun v S hq => ?_)
            obtain ⟨rfl, rfl⟩ := hq
            clear hc
            exact hr.2.2.2 _ _ _ rfl trivial ⟨rfl, (congrArg (fun x => (([4, sd, ln, pp], x) : zx_S)) (Option.some.inj h))⟩
          · replace h := zk_f h c104
            refine hr.1 2 True _ _ (111, [some (.ref 9), some (.int x1)], [.int (zg_i q2.2 4 (zn 7))], [4, sd, ln, pp], zp_i q2.2 9 7 (zg_i q2.2 4 (zn 7))) rfl trivial ?_
            obtain ⟨q4, hc, h⟩ := zk_bind h
            refine hr.2.2.1 _ _ _ _ _ (d + 2) rfl (by omega) (c_g_P_isSort (l := l) (E := E) (d := d + 2) (cb := 4) (sd := sd) (ln := ln) (pp := pp) hc) (fun v S hq => ?_)
            obtain ⟨rfl, rfl⟩ := hq
            clear hc
            refine hr.2.1 _ (¬ q4 = 0) _ _ rfl (fun c114 => ?_) (fun c114 => ?_)
            · replace h := zk_t h c114
              refine hr.1 15 True _ _ (158, [some (.ref 9), some (.int x1)], [.int 8, .int 6, .ref 4, .int 4, .ref 12], [4, sd, ln, pp], zp_i (zp_i q2.2 9 7 (zg_i q2.2 4 (zn 7))) 12 3 ((zg_i q2.2 12 3) + 2)) rfl trivial ?_
              obtain ⟨q5, hc, h⟩ := zk_bind h
              refine hr.2.2.1 _ _ _ _ _ (d + 2) rfl (by omega) (c_g_P_sumFour_4 (l := l) (E := E) (d := d + 1) (cb := 4) (sd := sd) (ln := ln) (pp := pp) hc) (fun v S hq => ?_)
              obtain ⟨rfl, rfl⟩ := hq
              clear hc
              obtain ⟨q6, hc, h⟩ := zk_bind h
              refine hr.2.2.1 _ _ _ _ _ (d + 2) rfl (by omega) (c_g_Cur_expectSum (l := l) (E := E) (d := d) (sd := sd) (ln := ln) (pp := pp) hc) (fun v S hq => ?_)
              obtain ⟨rfl, rfl⟩ := hq
              clear hc
              exact hr.2.2.2 _ _ _ rfl trivial ⟨rfl, (congrArg (fun x => (([4, sd, ln, pp], x) : zx_S)) (Option.some.inj h))⟩
            · replace h := zk_f h c114
              refine hr.1 4 True _ _ (125, [some (.ref 9), some (.int x1)], [.int 6, .int (-3), .ref 12], [4, sd, ln, pp], zp_i q2.2 9 7 (zg_i q2.2 4 (zn 7))) rfl trivial ?_
              obtain ⟨q7, hc, h⟩ := zk_bind h
              refine hr.2.2.1 _ _ _ _ _ (d + 2) rfl (by omega) (c_g_Cur_fail (l := l) (E := E) (d := d + 2) (cb := 4) (sd := sd) (ln := ln) (pp := pp) hc) (fun v S hq => ?_)
              obtain ⟨rfl, rfl⟩ := hq
              clear hc
              exact hr.2.2.2 _ _ _ rfl trivial ⟨rfl, (congrArg (fun x => (([4, sd, ln, pp], x) : zx_S)) (Option.some.inj h))⟩
        · replace h := zk_f h c76
          exact hr.2.2.2 _ _ _ rfl trivial ⟨rfl, (congrArg (fun x => (([4, sd, ln, pp], x) : zx_S)) (Option.some.inj h))⟩
      · replace h := zk_f h c22
        obtain ⟨w3, h⟩ := zk_ck h
        obtain ⟨w4, h⟩ := zk_ck h
        refine hr.1 8 True _ _ (39, [some (.ref 9), some (.int x1)], [.int (ro_f (zn x1)), .int (zg_i D 4 (zn x1))], [4, sd, ln, pp], D) rfl ⟨⟨trivial, (zk_vp w3)⟩, (zk_vp w4)⟩ ?_
        refine hr.2.1 _ (zg_i D 4 (zn x1) = ro_f (zn x1)) _ _ rfl (fun c39 => ?_) (fun c39 => ?_)
        · replace h := zk_t h c39
          refine hr.1 2 True _ _ (17, [some (.ref 9), some (.int (x1 + 1))], [], [4, sd, ln, pp], D) rfl trivial ?_
          exact ih (x1 + 1) D h
        · replace h := zk_f h c39
          refine hr.1 4 True _ _ (49, [some (.ref 9), some (.int x1)], [.int 0, .int (-3), .ref 12], [4, sd, ln, pp], D) rfl trivial ?_
          obtain ⟨q8, hc, h⟩ := zk_bind h
          refine hr.2.2.1 _ _ _ _ _ (d + 2) rfl (by omega) (c_g_Cur_fail (l := l) (E := E) (d := d + 2) (cb := 4) (sd := sd) (ln := ln) (pp := pp) hc) (fun v S hq => ?_)
          obtain ⟨rfl, rfl⟩ := hq
          clear hc
          exact hr.2.2.2 _ _ _ rfl trivial ⟨rfl, (congrArg (fun x => (([4, sd, ln, pp], x) : zx_S)) (Option.some.inj h))⟩
  rw [g_Unp_readStart] at h
  refine hr.1 4 True _ _ (8, [some (.ref 9), none], [.int 6, .ref 12], [4, sd, ln, pp], D) rfl trivial ?_
  obtain ⟨q1, hc, h⟩ := zk_bind h
  refine hr.2.2.1 _ _ _ _ _ (d + 2) rfl (by omega) (c_g_Cur_has (l := l) (E := E) (d := d + 1) (cb := 4) (sd := sd) (ln := ln) (pp := pp) hc) (fun v S hq => ?_)
  obtain ⟨rfl, rfl⟩ := hq
  clear hc
  refine hr.2.1 _ (¬ q1.1 = 0) _ _ rfl (fun c11 => ?_) (fun c11 => ?_)
  · replace h := zk_t h c11
    refine hr.1 2 True _ _ (17, [some (.ref 9), some (.int 0)], [], [4, sd, ln, pp], q1.2) rfl trivial ?_
    exact loop17 10000 0 q1.2 h
  · replace h := zk_f h c11
    exact hr.2.2.2 _ _ _ rfl trivial ⟨rfl, (congrArg (fun x => (([4, sd, ln, pp], x) : zx_S)) (Option.some.inj h))⟩
set_option maxRecDepth 100000 in
set_option maxHeartbeats 4000000 in
theorem c_g_Unp_comesBlock {l : Launch} {E : zx_E} {d : Nat} {sd ln pp : Nat} {D : zx_D} {q : Int32 × zx_D} (h : g_Unp_comesBlock D = some q) : zx_MC l E 71 (d + 2) [.ref 9] ([4, sd, ln, pp], D) (fun v S => v = some (.int q.1) ∧ S = ([4, sd, ln, pp], q.2)) := by
  refine zx_ofC (K := ck_Unp_comesBlock) rfl (by decide +kernel) rfl ok_Unp_comesBlock (Nat.le_of_ble_eq_true rfl) (fun Zp hr => ?_)
  show Zp (0, [some (.ref 9)], [], [4, sd, ln, pp], D)
  rw [g_Unp_comesBlock] at h
  refine hr.1 3 True _ _ (5, [some (.ref 9)], [.int 1, .ref 12], [4, sd, ln, pp], D) rfl trivial ?_
  obtain ⟨q1, hc, h⟩ := zk_bind h
  refine hr.2.2.1 _ _ _ _ _ (d + 1) rfl (by omega) (c_g_Cur_has (l := l) (E := E) (d := d) (cb := 4) (sd := sd) (ln := ln) (pp := pp) hc) (fun v S hq => ?_)
  obtain ⟨rfl, rfl⟩ := hq
  clear hc
  refine hr.2.1 _ (q1.1 = 0) _ _ rfl (fun c8 => ?_) (fun c8 => ?_)
  · replace h := zk_t h c8
    refine hr.1 1 True _ _ (34, [some (.ref 9)], [.int 0], [4, sd, ln, pp], q1.2) rfl trivial ?_
    exact hr.2.2.2 _ _ _ rfl (Or.inl rfl) ⟨(congrArg (fun x => some (Value.int x.1)) (Option.some.inj h)), (congrArg (fun x => (([4, sd, ln, pp], x.2) : zx_S)) (Option.some.inj h))⟩
  · replace h := zk_f h c8
    obtain ⟨w2, h⟩ := zk_ck h
    refine hr.1 7 True _ _ (26, [some (.ref 9)], [.int (zg_i q1.2 4 (zn (zg_i q1.2 12 3)))], [4, sd, ln, pp], q1.2) rfl ⟨trivial, (zk_vp w2)⟩ ?_
    refine hr.2.1 _ (zg_i q1.2 4 (zn (zg_i q1.2 12 3)) = 0) _ _ rfl (fun c26 => ?_) (fun c26 => ?_)
    · replace h := zk_t h c26
      refine hr.1 1 True _ _ (34, [some (.ref 9)], [.int 0], [4, sd, ln, pp], q1.2) rfl trivial ?_
      exact hr.2.2.2 _ _ _ rfl (Or.inl rfl) ⟨(congrArg (fun x => some (Value.int x.1)) (Option.some.inj h)), (congrArg (fun x => (([4, sd, ln, pp], x.2) : zx_S)) (Option.some.inj h))⟩
    · replace h := zk_f h c26
      refine hr.1 2 True _ _ (34, [some (.ref 9)], [.int 1], [4, sd, ln, pp], q1.2) rfl trivial ?_
      exact hr.2.2.2 _ _ _ rfl (Or.inr rfl) ⟨(congrArg (fun x => some (Value.int x.1)) (Option.some.inj h)), (congrArg (fun x => (([4, sd, ln, pp], x.2) : zx_S)) (Option.some.inj h))⟩
set_option maxRecDepth 100000 in
set_option maxHeartbeats 4000000 in
theorem c_g_Cur_narrow {l : Launch} {E : zx_E} {d : Nat} {cb sd ln pp : Nat} {x1 : Int32} {D : zx_D} {q : zx_D} (h : g_Cur_narrow x1 D = some q) : zx_MC l E 32 d [.ref 12, .int x1] ([cb, sd, ln, pp], D) (fun v S => v = none ∧ S = ([cb, sd, ln, pp], q)) := by
  refine zx_ofC (K := ck_Cur_narrow) rfl (by decide +kernel) rfl ok_Cur_narrow (Nat.le_of_ble_eq_true rfl) (fun Zp hr => ?_)
  show Zp (0, [some (.ref 12), some (.int x1)], [], [cb, sd, ln, pp], D)
  rw [g_Cur_narrow] at h
  refine hr.1 6 True _ _ (12, [some (.ref 12), some (.int x1)], [], [cb, sd, ln, pp], zp_i D 12 2 (if zg_i D 12 1 < x1 then zg_i D 12 1 else x1)) rfl trivial ?_
  exact hr.2.2.2 _ _ _ rfl trivial ⟨rfl, (congrArg (fun x => (([cb, sd, ln, pp], x) : zx_S)) (Option.some.inj h))⟩
set_option maxRecDepth 100000 in
set_option maxHeartbeats 4000000 in
theorem c_g_Cur_readNumber {l : Launch} {E : zx_E} {d : Nat} {sd ln pp : Nat} {D : zx_D} {q : Int64 × zx_D} (h : g_Cur_readNumber D = some q) : zx_MC l E 41 (d + 2) [.ref 12] ([4, sd, ln, pp], D) (fun v S => v = some (.long q.1) ∧ S = ([4, sd, ln, pp], q.2)) := by
  refine zx_ofC (K := ck_Cur_readNumber) rfl (by decide +kernel) rfl ok_Cur_readNumber (Nat.le_of_ble_eq_true rfl) (fun Zp hr => ?_)
  show Zp (0, [some (.ref 12), none, none, none, none], [], [4, sd, ln, pp], D)
  have loop4 : ∀ (k : Nat) (x1 : Int64) (x3 : Int32) (D : zx_D) (o4 : Option Value), g_Cur_readNumber_4 k x1 x3 D = some q → Zp (4, [some (.ref 12), some (.long x1), none, some (.int x3), o4], [], [4, sd, ln, pp], D) := by
    intro k
    induction k with
    | zero => intro x1 x3 D o4 h; exact (zk_no h).elim
    | succ k ih =>
      intro x1 x3 D o4 h
      rw [g_Cur_readNumber_4] at h
      refine hr.1 2 True _ _ (7, [some (.ref 12), some (.long x1), none, some (.int x3), o4], [.int 9, .int x3], [4, sd, ln, pp], D) rfl trivial ?_
      refine hr.2.1 _ (9 ≤ x3) _ _ rfl (fun c7 => ?_) (fun c7 => ?_)
      · replace h := zk_t h c7
        refine hr.1 4 True _ _ (94, [some (.ref 12), some (.long x1), none, some (.int x3), o4], [.int (zg_i D 12 3), .int (-3), .ref 12], [4, sd, ln, pp], D) rfl trivial ?_
        obtain ⟨q1, hc, h⟩ := zk_bind h
        refine hr.2.2.1 _ _ _ _ _ (d + 1) rfl (by omega) (c_g_Cur_fail (l := l) (E := E) (d := d + 1) (cb := 4) (sd := sd) (ln := ln) (pp := pp) hc) (fun v S hq => ?_)
        obtain ⟨rfl, rfl⟩ := hq
        clear hc
        refine hr.1 1 True _ _ (100, [some (.ref 12), some (.long x1), none, some (.int x3), o4], [.long (-1)], [4, sd, ln, pp], q1) rfl trivial ?_
        exact hr.2.2.2 _ _ _ rfl trivial ⟨(congrArg (fun x => some (Value.long x.1)) (Option.some.inj h)), (congrArg (fun x => (([4, sd, ln, pp], x.2) : zx_S)) (Option.some.inj h))⟩
      · replace h := zk_f h c7
        refine hr.1 4 True _ _ (14, [some (.ref 12), some (.long x1), none, some (.int x3), o4], [.int (x3 + 1), .ref 12], [4, sd, ln, pp], D) rfl trivial ?_
        obtain ⟨q2, hc, h⟩ := zk_bind h
        refine hr.2.2.1 _ _ _ _ _ (d + 1) rfl (by omega) (c_g_Cur_has (l := l) (E := E) (d := d) (cb := 4) (sd := sd) (ln := ln) (pp := pp) hc) (fun v S hq => ?_)
        obtain ⟨rfl, rfl⟩ := hq
        clear hc
        refine hr.2.1 _ (q2.1 = 0) _ _ rfl (fun c17 => ?_) (fun c17 => ?_)
        · replace h := zk_t h c17
          refine hr.1 4 True _ _ (94, [some (.ref 12), some (.long x1), none, some (.int x3), o4], [.int (zg_i q2.2 12 3), .int (-3), .ref 12], [4, sd, ln, pp], q2.2) rfl trivial ?_
          obtain ⟨q3, hc, h⟩ := zk_bind h
          refine hr.2.2.1 _ _ _ _ _ (d + 1) rfl (by omega) (c_g_Cur_fail (l := l) (E := E) (d := d + 1) (cb := 4) (sd := sd) (ln := ln) (pp := pp) hc) (fun v S hq => ?_)
          obtain ⟨rfl, rfl⟩ := hq
          clear hc
          refine hr.1 1 True _ _ (100, [some (.ref 12), some (.long x1), none, some (.int x3), o4], [.long (-1)], [4, sd, ln, pp], q3) rfl trivial ?_
          exact hr.2.2.2 _ _ _ rfl trivial ⟨(congrArg (fun x => some (Value.long x.1)) (Option.some.inj h)), (congrArg (fun x => (([4, sd, ln, pp], x.2) : zx_S)) (Option.some.inj h))⟩
        · replace h := zk_f h c17
          obtain ⟨w2, h⟩ := zk_ck h
          refine hr.1 20 True _ _ (49, [some (.ref 12), some (.long (x1 ||| (zo_lshl ((((zg_i q2.2 4 (zn ((zg_i q2.2 12 3) + x3))) &&& 127)).toInt64) (7 * x3)))), none, some (.int x3), some (.int (zg_i q2.2 4 (zn ((zg_i q2.2 12 3) + x3))))], [.int (zg_i q2.2 4 (zn ((zg_i q2.2 12 3) + x3)))], [4, sd, ln, pp], q2.2) rfl ⟨trivial, (zk_vp w2)⟩ ?_
          refine hr.2.1 _ (¬ zg_i q2.2 4 (zn ((zg_i q2.2 12 3) + x3)) = 0) _ _ rfl (fun c49 => ?_) (fun c49 => ?_)
          · replace h := zk_t h c49
            refine hr.1 2 True _ _ (64, [some (.ref 12), some (.long (x1 ||| (zo_lshl ((((zg_i q2.2 4 (zn ((zg_i q2.2 12 3) + x3))) &&& 127)).toInt64) (7 * x3)))), none, some (.int x3), some (.int (zg_i q2.2 4 (zn ((zg_i q2.2 12 3) + x3))))], [.int 128, .int (zg_i q2.2 4 (zn ((zg_i q2.2 12 3) + x3)))], [4, sd, ln, pp], q2.2) rfl trivial ?_
            refine hr.2.1 _ (128 ≤ zg_i q2.2 4 (zn ((zg_i q2.2 12 3) + x3))) _ _ rfl (fun c64 => ?_) (fun c64 => ?_)
            · replace h := zk_t h c64
              refine hr.1 2 True _ _ (4, [some (.ref 12), some (.long (x1 ||| (zo_lshl ((((zg_i q2.2 4 (zn ((zg_i q2.2 12 3) + x3))) &&& 127)).toInt64) (7 * x3)))), none, some (.int (x3 + 1)), some (.int (zg_i q2.2 4 (zn ((zg_i q2.2 12 3) + x3))))], [], [4, sd, ln, pp], q2.2) rfl trivial ?_
              exact ih (x1 ||| (zo_lshl ((((zg_i q2.2 4 (zn ((zg_i q2.2 12 3) + x3))) &&& 127)).toInt64) (7 * x3))) (x3 + 1) q2.2 _ h
            · replace h := zk_f h c64
              refine hr.1 9 True _ _ (80, [some (.ref 12), some (.long (x1 ||| (zo_lshl ((((zg_i q2.2 4 (zn ((zg_i q2.2 12 3) + x3))) &&& 127)).toInt64) (7 * x3)))), none, some (.int x3), some (.int (zg_i q2.2 4 (zn ((zg_i q2.2 12 3) + x3))))], [.long (x1 ||| (zo_lshl ((((zg_i q2.2 4 (zn ((zg_i q2.2 12 3) + x3))) &&& 127)).toInt64) (7 * x3)))], [4, sd, ln, pp], zp_i q2.2 12 3 ((zg_i q2.2 12 3) + (x3 + 1))) rfl trivial ?_
              exact hr.2.2.2 _ _ _ rfl trivial ⟨(congrArg (fun x => some (Value.long x.1)) (Option.some.inj h)), (congrArg (fun x => (([4, sd, ln, pp], x.2) : zx_S)) (Option.some.inj h))⟩
          · replace h := zk_f h c49
            refine hr.1 1 True _ _ (53, [some (.ref 12), some (.long (x1 ||| (zo_lshl ((((zg_i q2.2 4 (zn ((zg_i q2.2 12 3) + x3))) &&& 127)).toInt64) (7 * x3)))), none, some (.int x3), some (.int (zg_i q2.2 4 (zn ((zg_i q2.2 12 3) + x3))))], [.int x3], [4, sd, ln, pp], q2.2) rfl trivial ?_
            refine hr.2.1 _ (x3 ≤ 0) _ _ rfl (fun c53 => ?_) (fun c53 => ?_)
            · replace h := zk_t h c53
              refine hr.1 2 True _ _ (64, [some (.ref 12), some (.long (x1 ||| (zo_lshl ((((zg_i q2.2 4 (zn ((zg_i q2.2 12 3) + x3))) &&& 127)).toInt64) (7 * x3)))), none, some (.int x3), some (.int (zg_i q2.2 4 (zn ((zg_i q2.2 12 3) + x3))))], [.int 128, .int (zg_i q2.2 4 (zn ((zg_i q2.2 12 3) + x3)))], [4, sd, ln, pp], q2.2) rfl trivial ?_
              refine hr.2.1 _ (128 ≤ zg_i q2.2 4 (zn ((zg_i q2.2 12 3) + x3))) _ _ rfl (fun c64 => ?_) (fun c64 => ?_)
              · replace h := zk_t h c64
                refine hr.1 2 True _ _ (4, [some (.ref 12), some (.long (x1 ||| (zo_lshl ((((zg_i q2.2 4 (zn ((zg_i q2.2 12 3) + x3))) &&& 127)).toInt64) (7 * x3)))), none, some (.int (x3 + 1)), some (.int (zg_i q2.2 4 (zn ((zg_i q2.2 12 3) + x3))))], [], [4, sd, ln, pp], q2.2) rfl trivial ?_
                exact ih (x1 ||| (zo_lshl ((((zg_i q2.2 4 (zn ((zg_i q2.2 12 3) + x3))) &&& 127)).toInt64) (7 * x3))) (x3 + 1) q2.2 _ h
              · replace h := zk_f h c64
                refine hr.1 9 True _ _ (80, [some (.ref 12), some (.long (x1 ||| (zo_lshl ((((zg_i q2.2 4 (zn ((zg_i q2.2 12 3) + x3))) &&& 127)).toInt64) (7 * x3)))), none, some (.int x3), some (.int (zg_i q2.2 4 (zn ((zg_i q2.2 12 3) + x3))))], [.long (x1 ||| (zo_lshl ((((zg_i q2.2 4 (zn ((zg_i q2.2 12 3) + x3))) &&& 127)).toInt64) (7 * x3)))], [4, sd, ln, pp], zp_i q2.2 12 3 ((zg_i q2.2 12 3) + (x3 + 1))) rfl trivial ?_
                exact hr.2.2.2 _ _ _ rfl trivial ⟨(congrArg (fun x => some (Value.long x.1)) (Option.some.inj h)), (congrArg (fun x => (([4, sd, ln, pp], x.2) : zx_S)) (Option.some.inj h))⟩
            · replace h := zk_f h c53
              refine hr.1 5 True _ _ (94, [some (.ref 12), some (.long (x1 ||| (zo_lshl ((((zg_i q2.2 4 (zn ((zg_i q2.2 12 3) + x3))) &&& 127)).toInt64) (7 * x3)))), none, some (.int x3), some (.int (zg_i q2.2 4 (zn ((zg_i q2.2 12 3) + x3))))], [.int (zg_i q2.2 12 3), .int (-3), .ref 12], [4, sd, ln, pp], q2.2) rfl trivial ?_
              obtain ⟨q4, hc, h⟩ := zk_bind h
              refine hr.2.2.1 _ _ _ _ _ (d + 1) rfl (by omega) (c_g_Cur_fail (l := l) (E := E) (d := d + 1) (cb := 4) (sd := sd) (ln := ln) (pp := pp) hc) (fun v S hq => ?_)
              obtain ⟨rfl, rfl⟩ := hq
              clear hc
              refine hr.1 1 True _ _ (100, [some (.ref 12), some (.long (x1 ||| (zo_lshl ((((zg_i q2.2 4 (zn ((zg_i q2.2 12 3) + x3))) &&& 127)).toInt64) (7 * x3)))), none, some (.int x3), some (.int (zg_i q2.2 4 (zn ((zg_i q2.2 12 3) + x3))))], [.long (-1)], [4, sd, ln, pp], q4) rfl trivial ?_
              exact hr.2.2.2 _ _ _ rfl trivial ⟨(congrArg (fun x => some (Value.long x.1)) (Option.some.inj h)), (congrArg (fun x => (([4, sd, ln, pp], x.2) : zx_S)) (Option.some.inj h))⟩
  rw [g_Cur_readNumber] at h
  refine hr.1 4 True _ _ (4, [some (.ref 12), some (.long 0), none, some (.int 0), none], [], [4, sd, ln, pp], D) rfl trivial ?_
  exact loop4 10000 0 0 D none h
set_option maxRecDepth 100000 in
set_option maxHeartbeats 4000000 in
theorem c_g_Unp_readHeadNumbers {l : Launch} {E : zx_E} {d : Nat} {sd ln pp : Nat} {D : zx_D} {q : zx_D} (h : g_Unp_readHeadNumbers D = some q) : zx_MC l E 74 (d + 3) [.ref 9] ([4, sd, ln, pp], D) (fun v S => v = none ∧ S = ([4, sd, ln, pp], q)) := by
  refine zx_ofC (K := ck_Unp_readHeadNumbers) rfl (by decide +kernel) rfl ok_Unp_readHeadNumbers (Nat.le_of_ble_eq_true rfl) (fun Zp hr => ?_)
  show Zp (0, [some (.ref 9), none, none], [], [4, sd, ln, pp], D)
  rw [g_Unp_readHeadNumbers] at h
  refine hr.1 9 True _ _ (19, [some (.ref 9), none, none], [.int 1, .ref 12], [4, sd, ln, pp], zp_l (zp_l D 9 10 (-1)) 9 11 (-1)) rfl trivial ?_
  obtain ⟨q1, hc, h⟩ := zk_bind h
  refine hr.2.2.1 _ _ _ _ _ (d + 2) rfl (by omega) (c_g_Cur_has (l := l) (E := E) (d := d + 1) (cb := 4) (sd := sd) (ln := ln) (pp := pp) hc) (fun v S hq => ?_)
  obtain ⟨rfl, rfl⟩ := hq
  clear hc
  obtain ⟨q2, hj, h⟩ := zk_bind h
  have J44 : ∀ (_ : True), Zp (44, [some (.ref 9), none, none], [.int q2], [4, sd, ln, pp], q1.2) := by
    intro _
    refine hr.1 4 True _ _ (49, [some (.ref 9), some (.int q2), none], [.int (zo_rem q2 64)], [4, sd, ln, pp], q1.2) rfl trivial ?_
    refine hr.2.1 _ (zo_rem q2 64 = 0) _ _ rfl (fun c49 => ?_) (fun c49 => ?_)
    · replace h := zk_t h c49
      refine hr.1 14 True _ _ (94, [some (.ref 9), some (.int q2), some (.int ((zg_i q1.2 12 3) + 1))], [.int (q2 &&& 64)], [4, sd, ln, pp], zp_i q1.2 12 3 ((zg_i q1.2 12 3) + 1)) rfl trivial ?_
      obtain ⟨q4, hj, h⟩ := zk_bind h
      have J108 : ∀ (_ : True), Zp (108, [some (.ref 9), some (.int q2), some (.int ((zg_i q1.2 12 3) + 1))], [], [4, sd, ln, pp], q4) := by
        intro _
        refine hr.1 3 True _ _ (113, [some (.ref 9), some (.int q2), some (.int ((zg_i q1.2 12 3) + 1))], [.long 0, .long (zg_l q4 9 10)], [4, sd, ln, pp], q4) rfl trivial ?_
        obtain ⟨q6, hj, h⟩ := zk_bind h
        have J127 : ∀ (_ : True), Zp (127, [some (.ref 9), some (.int q2), some (.int ((zg_i q1.2 12 3) + 1))], [], [4, sd, ln, pp], q6) := by
          intro _
          refine hr.1 3 True _ _ (132, [some (.ref 9), some (.int q2), some (.int ((zg_i q1.2 12 3) + 1))], [.int (q2 &&& 128)], [4, sd, ln, pp], q6) rfl trivial ?_
          refine hr.2.1 _ (q2 &&& 128 = 0) _ _ rfl (fun c132 => ?_) (fun c132 => ?_)
          · replace h := zk_t h c132
            exact hr.2.2.2 _ _ _ rfl trivial ⟨rfl, (congrArg (fun x => (([4, sd, ln, pp], x) : zx_S)) (Option.some.inj h))⟩
          · replace h := zk_f h c132
            refine hr.1 3 True _ _ (140, [some (.ref 9), some (.int q2), some (.int ((zg_i q1.2 12 3) + 1))], [.ref 12, .ref 9], [4, sd, ln, pp], q6) rfl trivial ?_
            obtain ⟨q7, hc, h⟩ := zk_bind h
            refine hr.2.2.1 _ _ _ _ _ (d + 2) rfl (by omega) (c_g_Cur_readNumber (l := l) (E := E) (d := d) (sd := sd) (ln := ln) (pp := pp) hc) (fun v S hq => ?_)
            obtain ⟨rfl, rfl⟩ := hq
            clear hc
            refine hr.1 1 True _ _ (146, [some (.ref 9), some (.int q2), some (.int ((zg_i q1.2 12 3) + 1))], [], [4, sd, ln, pp], zp_l q7.2 9 11 q7.1) rfl trivial ?_
            exact hr.2.2.2 _ _ _ rfl trivial ⟨rfl, (congrArg (fun x => (([4, sd, ln, pp], x) : zx_S)) (Option.some.inj h))⟩
        clear h
        have h := hj
        clear hj
        refine hr.2.1 _ (¬ zg_l q4 9 10 = 0) _ _ rfl (fun c113 => ?_) (fun c113 => ?_)
        · replace h := zk_t h c113
          replace h := Option.some.inj h
          subst h
          exact J127 trivial
        · replace h := zk_f h c113
          refine hr.1 4 True _ _ (124, [some (.ref 9), some (.int q2), some (.int ((zg_i q1.2 12 3) + 1))], [.int ((zg_i q1.2 12 3) + 1), .int (-3), .ref 12], [4, sd, ln, pp], q4) rfl trivial ?_
          obtain ⟨q5, hc, h⟩ := zk_bind h
          refine hr.2.2.1 _ _ _ _ _ (d + 2) rfl (by omega) (c_g_Cur_fail (l := l) (E := E) (d := d + 2) (cb := 4) (sd := sd) (ln := ln) (pp := pp) hc) (fun v S hq => ?_)
          obtain ⟨rfl, rfl⟩ := hq
          clear hc
          replace h := Option.some.inj h
          subst h
          exact J127 trivial
      clear h
      have h := hj
      clear hj
      refine hr.2.1 _ (q2 &&& 64 = 0) _ _ rfl (fun c94 => ?_) (fun c94 => ?_)
      · replace h := zk_t h c94
        replace h := Option.some.inj h
        subst h
        exact J108 trivial
      · replace h := zk_f h c94
        refine hr.1 3 True _ _ (102, [some (.ref 9), some (.int q2), some (.int ((zg_i q1.2 12 3) + 1))], [.ref 12, .ref 9], [4, sd, ln, pp], zp_i q1.2 12 3 ((zg_i q1.2 12 3) + 1)) rfl trivial ?_
        obtain ⟨q3, hc, h⟩ := zk_bind h
        refine hr.2.2.1 _ _ _ _ _ (d + 2) rfl (by omega) (c_g_Cur_readNumber (l := l) (E := E) (d := d) (sd := sd) (ln := ln) (pp := pp) hc) (fun v S hq => ?_)
        obtain ⟨rfl, rfl⟩ := hq
        clear hc
        refine hr.1 1 True _ _ (108, [some (.ref 9), some (.int q2), some (.int ((zg_i q1.2 12 3) + 1))], [], [4, sd, ln, pp], zp_l q3.2 9 10 q3.1) rfl trivial ?_
        replace h := Option.some.inj h
        subst h
        exact J108 trivial
    · replace h := zk_f h c49
      refine hr.1 6 True _ _ (65, [some (.ref 9), some (.int q2), none], [.int (zg_i q1.2 12 3), .int (-3), .ref 12], [4, sd, ln, pp], q1.2) rfl trivial ?_
      obtain ⟨q8, hc, h⟩ := zk_bind h
      refine hr.2.2.1 _ _ _ _ _ (d + 2) rfl (by omega) (c_g_Cur_fail (l := l) (E := E) (d := d + 2) (cb := 4) (sd := sd) (ln := ln) (pp := pp) hc) (fun v S hq => ?_)
      obtain ⟨rfl, rfl⟩ := hq
      clear hc
      exact hr.2.2.2 _ _ _ rfl trivial ⟨rfl, (congrArg (fun x => (([4, sd, ln, pp], x) : zx_S)) (Option.some.inj h))⟩
  clear h
  have h := hj
  clear hj
  refine hr.2.1 _ (q1.1 = 0) _ _ rfl (fun c22 => ?_) (fun c22 => ?_)
  · replace h := zk_t h c22
    refine hr.1 1 True _ _ (44, [some (.ref 9), none, none], [.int 0], [4, sd, ln, pp], q1.2) rfl trivial ?_
    replace h := Option.some.inj h
    subst h
    exact J44 trivial
  · replace h := zk_f h c22
    obtain ⟨w2, h⟩ := zk_ck h
    refine hr.1 8 True _ _ (44, [some (.ref 9), none, none], [.int (zg_i q1.2 4 (zn (zg_i q1.2 12 3)))], [4, sd, ln, pp], q1.2) rfl ⟨trivial, (zk_vp w2)⟩ ?_
    replace h := Option.some.inj h
    subst h
    exact J44 trivial
set_option maxRecDepth 100000 in
set_option maxHeartbeats 4000000 in
theorem c_g_Cur_expectWithin {l : Launch} {E : zx_E} {d : Nat} {sd ln pp : Nat} {x1 : Int32} {x2 : Int32} {D : zx_D} {q : zx_D} (h : g_Cur_expectWithin x1 x2 D = some q) : zx_MC l E 36 (d + 2) [.ref 12, .int x1, .int x2] ([4, sd, ln, pp], D) (fun v S => v = none ∧ S = ([4, sd, ln, pp], q)) := by
  refine zx_ofC (K := ck_Cur_expectWithin) rfl (by decide +kernel) rfl ok_Cur_expectWithin (Nat.le_of_ble_eq_true rfl) (fun Zp hr => ?_)
  show Zp (0, [some (.ref 12), some (.int x1), some (.int x2)], [], [4, sd, ln, pp], D)
  rw [g_Cur_expectWithin] at h
  refine hr.1 2 True _ _ (2, [some (.ref 12), some (.int x1), some (.int x2)], [.int 1, .ref 12], [4, sd, ln, pp], D) rfl trivial ?_
  obtain ⟨q1, hc, h⟩ := zk_bind h
  refine hr.2.2.1 _ _ _ _ _ (d + 1) rfl (by omega) (c_g_Cur_has (l := l) (E := E) (d := d) (cb := 4) (sd := sd) (ln := ln) (pp := pp) hc) (fun v S hq => ?_)
  obtain ⟨rfl, rfl⟩ := hq
  clear hc
  refine hr.2.1 _ (¬ q1.1 = 0) _ _ rfl (fun c5 => ?_) (fun c5 => ?_)
  · replace h := zk_t h c5
    obtain ⟨w3, h⟩ := zk_ck h
    refine hr.1 6 True _ _ (19, [some (.ref 12), some (.int x1), some (.int x2)], [.int x1, .int (zg_i q1.2 4 (zn (zg_i q1.2 12 3)))], [4, sd, ln, pp], q1.2) rfl ⟨trivial, (zk_vp w3)⟩ ?_
    refine hr.2.1 _ (zg_i q1.2 4 (zn (zg_i q1.2 12 3)) < x1) _ _ rfl (fun c19 => ?_) (fun c19 => ?_)
    · replace h := zk_t h c19
      refine hr.1 4 True _ _ (42, [some (.ref 12), some (.int x1), some (.int x2)], [.int (zg_i q1.2 12 3), .int (-3), .ref 12], [4, sd, ln, pp], q1.2) rfl trivial ?_
      obtain ⟨q2, hc, h⟩ := zk_bind h
      refine hr.2.2.1 _ _ _ _ _ (d + 1) rfl (by omega) (c_g_Cur_fail (l := l) (E := E) (d := d + 1) (cb := 4) (sd := sd) (ln := ln) (pp := pp) hc) (fun v S hq => ?_)
      obtain ⟨rfl, rfl⟩ := hq
      clear hc
      exact hr.2.2.2 _ _ _ rfl trivial ⟨rfl, (congrArg (fun x => (([4, sd, ln, pp], x) : zx_S)) (Option.some.inj h))⟩
    · replace h := zk_f h c19
      obtain ⟨w4, h⟩ := zk_ck h
      refine hr.1 6 True _ _ (32, [some (.ref 12), some (.int x1), some (.int x2)], [.int x2, .int (zg_i q1.2 4 (zn (zg_i q1.2 12 3)))], [4, sd, ln, pp], q1.2) rfl ⟨trivial, (zk_vp w4)⟩ ?_
      refine hr.2.1 _ (zg_i q1.2 4 (zn (zg_i q1.2 12 3)) ≤ x2) _ _ rfl (fun c32 => ?_) (fun c32 => ?_)
      · replace h := zk_t h c32
        refine hr.1 6 True _ _ (56, [some (.ref 12), some (.int x1), some (.int x2)], [], [4, sd, ln, pp], zp_i q1.2 12 3 ((zg_i q1.2 12 3) + 1)) rfl trivial ?_
        exact hr.2.2.2 _ _ _ rfl trivial ⟨rfl, (congrArg (fun x => (([4, sd, ln, pp], x) : zx_S)) (Option.some.inj h))⟩
      · replace h := zk_f h c32
        refine hr.1 4 True _ _ (42, [some (.ref 12), some (.int x1), some (.int x2)], [.int (zg_i q1.2 12 3), .int (-3), .ref 12], [4, sd, ln, pp], q1.2) rfl trivial ?_
        obtain ⟨q3, hc, h⟩ := zk_bind h
        refine hr.2.2.1 _ _ _ _ _ (d + 1) rfl (by omega) (c_g_Cur_fail (l := l) (E := E) (d := d + 1) (cb := 4) (sd := sd) (ln := ln) (pp := pp) hc) (fun v S hq => ?_)
        obtain ⟨rfl, rfl⟩ := hq
        clear hc
        exact hr.2.2.2 _ _ _ rfl trivial ⟨rfl, (congrArg (fun x => (([4, sd, ln, pp], x) : zx_S)) (Option.some.inj h))⟩
  · replace h := zk_f h c5
    exact hr.2.2.2 _ _ _ rfl trivial ⟨rfl, (congrArg (fun x => (([4, sd, ln, pp], x) : zx_S)) (Option.some.inj h))⟩
set_option maxRecDepth 100000 in
set_option maxHeartbeats 4000000 in
theorem c_g_Cur_expectByte {l : Launch} {E : zx_E} {d : Nat} {sd ln pp : Nat} {x1 : Int32} {D : zx_D} {q : zx_D} (h : g_Cur_expectByte x1 D = some q) : zx_MC l E 35 (d + 3) [.ref 12, .int x1] ([4, sd, ln, pp], D) (fun v S => v = none ∧ S = ([4, sd, ln, pp], q)) := by
  refine zx_ofC (K := ck_Cur_expectByte) rfl (by decide +kernel) rfl ok_Cur_expectByte (Nat.le_of_ble_eq_true rfl) (fun Zp hr => ?_)
  show Zp (0, [some (.ref 12), some (.int x1)], [], [4, sd, ln, pp], D)
  rw [g_Cur_expectByte] at h
  refine hr.1 3 True _ _ (3, [some (.ref 12), some (.int x1)], [.int x1, .int x1, .ref 12], [4, sd, ln, pp], D) rfl trivial ?_
  obtain ⟨q1, hc, h⟩ := zk_bind h
  refine hr.2.2.1 _ _ _ _ _ (d + 2) rfl (by omega) (c_g_Cur_expectWithin (l := l) (E := E) (d := d) (sd := sd) (ln := ln) (pp := pp) hc) (fun v S hq => ?_)
  obtain ⟨rfl, rfl⟩ := hq
  clear hc
  exact hr.2.2.2 _ _ _ rfl trivial ⟨rfl, (congrArg (fun x => (([4, sd, ln, pp], x) : zx_S)) (Option.some.inj h))⟩
set_option maxRecDepth 100000 in
set_option maxHeartbeats 4000000 in
theorem c_g_Cur_widen {l : Launch} {E : zx_E} {d : Nat} {cb sd ln pp : Nat} {D : zx_D} {q : zx_D} (h : g_Cur_widen D = some q) : zx_MC l E 33 d [.ref 12] ([cb, sd, ln, pp], D) (fun v S => v = none ∧ S = ([cb, sd, ln, pp], q)) := by
  refine zx_ofC (K := ck_Cur_widen) rfl (by decide +kernel) rfl ok_Cur_widen (Nat.le_of_ble_eq_true rfl) (fun Zp hr => ?_)
  show Zp (0, [some (.ref 12)], [], [cb, sd, ln, pp], D)
  rw [g_Cur_widen] at h
  refine hr.1 4 True _ _ (8, [some (.ref 12)], [], [cb, sd, ln, pp], zp_i D 12 2 (zg_i D 12 1)) rfl trivial ?_
  exact hr.2.2.2 _ _ _ rfl trivial ⟨rfl, (congrArg (fun x => (([cb, sd, ln, pp], x) : zx_S)) (Option.some.inj h))⟩
set_option maxRecDepth 100000 in
set_option maxHeartbeats 4000000 in
theorem c_g_Unp_readHead {l : Launch} {E : zx_E} {d : Nat} {sd ln pp : Nat} {D : zx_D} {q : zx_D} (h : g_Unp_readHead D = some q) : zx_MC l E 73 (d + 4) [.ref 9] ([4, sd, ln, pp], D) (fun v S => v = none ∧ S = ([4, sd, ln, pp], q)) := by
  refine zx_ofC (K := ck_Unp_readHead) rfl (by decide +kernel) rfl ok_Unp_readHead (Nat.le_of_ble_eq_true rfl) (fun Zp hr => ?_)
  show Zp (0, [some (.ref 9), none, none, none], [], [4, sd, ln, pp], D)
  have loop137 : ∀ (x2 : Int32) (k : Nat) (x3 : Int32) (D : zx_D) (x1 : Int32) (q : zx_D), g_Unp_readHead_137 x2 k x3 D = some q → (∀ (e3 : Int32), Zp (156, [some (.ref 9), some (.int x1), some (.int x2), some (.int e3)], [], [4, sd, ln, pp], q)) → Zp (137, [some (.ref 9), some (.int x1), some (.int x2), some (.int x3)], [], [4, sd, ln, pp], D) := by
    intro x2 k
    induction k with
    | zero => intro x3 D x1 q h hx; exact (zk_no h).elim
    | succ k ih =>
      intro x3 D x1 q h hx
      rw [g_Unp_readHead_137] at h
      refine hr.1 2 True _ _ (139, [some (.ref 9), some (.int x1), some (.int x2), some (.int x3)], [.int x2, .int x3], [4, sd, ln, pp], D) rfl trivial ?_
      refine hr.2.1 _ (x2 ≤ x3) _ _ rfl (fun c139 => ?_) (fun c139 => ?_)
      · replace h := zk_t h c139
        replace h := Option.some.inj h
        subst h
        exact hx x3
      · replace h := zk_f h c139
        refine hr.1 3 True _ _ (147, [some (.ref 9), some (.int x1), some (.int x2), some (.int x3)], [.int 0, .ref 12], [4, sd, ln, pp], D) rfl trivial ?_
        obtain ⟨q9, hc, h⟩ := zk_bind h
        refine hr.2.2.1 _ _ _ _ _ (d + 3) rfl (by omega) (c_g_Cur_expectByte (l := l) (E := E) (d := d) (sd := sd) (ln := ln) (pp := pp) hc) (fun v S hq => ?_)
        obtain ⟨rfl, rfl⟩ := hq
        clear hc
        refine hr.1 2 True _ _ (137, [some (.ref 9), some (.int x1), some (.int x2), some (.int (x3 + 1))], [], [4, sd, ln, pp], q9) rfl trivial ?_
        exact ih (x3 + 1) q9 _ _ h hx
  rw [g_Unp_readHead] at h
  obtain ⟨w2, h⟩ := zk_ck h
  refine hr.1 14 True _ _ (22, [some (.ref 9), some (.int (4 * ((zg_i D 4 (zn (zg_i D 9 8))) + 1))), none, none], [.int (4 * ((zg_i D 4 (zn (zg_i D 9 8))) + 1)), .ref 12], [4, sd, ln, pp], D) rfl ⟨trivial, (zk_vp w2)⟩ ?_
  obtain ⟨q1, hc, h⟩ := zk_bind h
  refine hr.2.2.1 _ _ _ _ _ (d + 3) rfl (by omega) (c_g_Cur_has (l := l) (E := E) (d := d + 2) (cb := 4) (sd := sd) (ln := ln) (pp := pp) hc) (fun v S hq => ?_)
  obtain ⟨rfl, rfl⟩ := hq
  clear hc
  refine hr.2.1 _ (¬ q1.1 = 0) _ _ rfl (fun c25 => ?_) (fun c25 => ?_)
  · replace h := zk_t h c25
    refine hr.1 11 True _ _ (44, [some (.ref 9), some (.int (4 * ((zg_i D 4 (zn (zg_i D 9 8))) + 1))), some (.int (((zg_i q1.2 9 8) + (4 * ((zg_i D 4 (zn (zg_i D 9 8))) + 1))) - 4)), none], [.int 4, .int (((zg_i q1.2 9 8) + (4 * ((zg_i D 4 (zn (zg_i D 9 8))) + 1))) - 4), .ref 12], [4, sd, ln, pp], q1.2) rfl trivial ?_
    obtain ⟨q2, hc, h⟩ := zk_bind h
    refine hr.2.2.1 _ _ _ _ _ (d + 3) rfl (by omega) (c_g_Cur_lowFirst (l := l) (E := E) (d := d + 3) (sd := sd) (ln := ln) (pp := pp) hc) (fun v S hq => ?_)
    obtain ⟨rfl, rfl⟩ := hq
    clear hc
    refine hr.1 6 True _ _ (59, [some (.ref 9), some (.int (4 * ((zg_i D 4 (zn (zg_i D 9 8))) + 1))), some (.int (((zg_i q1.2 9 8) + (4 * ((zg_i D 4 (zn (zg_i D 9 8))) + 1))) - 4)), none], [.int (((zg_i q1.2 9 8) + (4 * ((zg_i D 4 (zn (zg_i D 9 8))) + 1))) - 4), .int (zg_i q1.2 9 8), .ref 4, .long q2], [4, sd, ln, pp], q1.2) rfl trivial ?_
    obtain ⟨q3, hc, h⟩ := zk_bind h
    refine hr.2.2.1 _ _ _ _ _ (d + 3) rfl (by omega) (c_g_P_sumFour_4 (l := l) (E := E) (d := d + 2) (cb := 4) (sd := sd) (ln := ln) (pp := pp) hc) (fun v S hq => ?_)
    obtain ⟨rfl, rfl⟩ := hq
    clear hc
    refine hr.2.1 _ (q2 = q3) _ _ rfl (fun c62 => ?_) (fun c62 => ?_)
    · replace h := zk_t h c62
      refine hr.1 3 True _ _ (82, [some (.ref 9), some (.int (4 * ((zg_i D 4 (zn (zg_i D 9 8))) + 1))), some (.int (((zg_i q1.2 9 8) + (4 * ((zg_i D 4 (zn (zg_i D 9 8))) + 1))) - 4)), none], [.int (((zg_i q1.2 9 8) + (4 * ((zg_i D 4 (zn (zg_i D 9 8))) + 1))) - 4), .ref 12], [4, sd, ln, pp], q1.2) rfl trivial ?_
      obtain ⟨q4, hc, h⟩ := zk_bind h
      refine hr.2.2.1 _ _ _ _ _ (d + 3) rfl (by omega) (c_g_Cur_narrow (l := l) (E := E) (d := d + 3) (cb := 4) (sd := sd) (ln := ln) (pp := pp) hc) (fun v S hq => ?_)
      obtain ⟨rfl, rfl⟩ := hq
      clear hc
      refine hr.1 8 True _ _ (99, [some (.ref 9), some (.int (4 * ((zg_i D 4 (zn (zg_i D 9 8))) + 1))), some (.int (((zg_i q1.2 9 8) + (4 * ((zg_i D 4 (zn (zg_i D 9 8))) + 1))) - 4)), none], [.ref 9], [4, sd, ln, pp], zp_i q4 12 3 ((zg_i q4 12 3) + 1)) rfl trivial ?_
      obtain ⟨q5, hc, h⟩ := zk_bind h
      refine hr.2.2.1 _ _ _ _ _ (d + 3) rfl (by omega) (c_g_Unp_readHeadNumbers (l := l) (E := E) (d := d) (sd := sd) (ln := ln) (pp := pp) hc) (fun v S hq => ?_)
      obtain ⟨rfl, rfl⟩ := hq
      clear hc
      refine hr.1 3 True _ _ (108, [some (.ref 9), some (.int (4 * ((zg_i D 4 (zn (zg_i D 9 8))) + 1))), some (.int (((zg_i q1.2 9 8) + (4 * ((zg_i D 4 (zn (zg_i D 9 8))) + 1))) - 4)), none], [.int 33, .ref 12], [4, sd, ln, pp], q5) rfl trivial ?_
      obtain ⟨q6, hc, h⟩ := zk_bind h
      refine hr.2.2.1 _ _ _ _ _ (d + 3) rfl (by omega) (c_g_Cur_expectByte (l := l) (E := E) (d := d) (sd := sd) (ln := ln) (pp := pp) hc) (fun v S hq => ?_)
      obtain ⟨rfl, rfl⟩ := hq
      clear hc
      refine hr.1 3 True _ _ (116, [some (.ref 9), some (.int (4 * ((zg_i D 4 (zn (zg_i D 9 8))) + 1))), some (.int (((zg_i q1.2 9 8) + (4 * ((zg_i D 4 (zn (zg_i D 9 8))) + 1))) - 4)), none], [.int 1, .ref 12], [4, sd, ln, pp], q6) rfl trivial ?_
      obtain ⟨q7, hc, h⟩ := zk_bind h
      refine hr.2.2.1 _ _ _ _ _ (d + 3) rfl (by omega) (c_g_Cur_expectByte (l := l) (E := E) (d := d) (sd := sd) (ln := ln) (pp := pp) hc) (fun v S hq => ?_)
      obtain ⟨rfl, rfl⟩ := hq
      clear hc
      refine hr.1 4 True _ _ (126, [some (.ref 9), some (.int (4 * ((zg_i D 4 (zn (zg_i D 9 8))) + 1))), some (.int (((zg_i q1.2 9 8) + (4 * ((zg_i D 4 (zn (zg_i D 9 8))) + 1))) - 4)), none], [.int 40, .int 0, .ref 12], [4, sd, ln, pp], q7) rfl trivial ?_
      obtain ⟨q8, hc, h⟩ := zk_bind h
      refine hr.2.2.1 _ _ _ _ _ (d + 3) rfl (by omega) (c_g_Cur_expectWithin (l := l) (E := E) (d := d + 1) (sd := sd) (ln := ln) (pp := pp) hc) (fun v S hq => ?_)
      obtain ⟨rfl, rfl⟩ := hq
      clear hc
      refine hr.1 4 True _ _ (137, [some (.ref 9), some (.int (4 * ((zg_i D 4 (zn (zg_i D 9 8))) + 1))), some (.int (((zg_i q1.2 9 8) + (4 * ((zg_i D 4 (zn (zg_i D 9 8))) + 1))) - 4)), some (.int (zg_i q8 12 3))], [], [4, sd, ln, pp], q8) rfl trivial ?_
      obtain ⟨q10, hc, h⟩ := zk_bind h
      refine loop137 (((zg_i q1.2 9 8) + (4 * ((zg_i D 4 (zn (zg_i D 9 8))) + 1))) - 4) 10000 (zg_i q8 12 3) q8 (4 * ((zg_i D 4 (zn (zg_i D 9 8))) + 1)) q10 hc (fun e3 => ?_)
      clear hc
      refine hr.1 2 True _ _ (160, [some (.ref 9), some (.int (4 * ((zg_i D 4 (zn (zg_i D 9 8))) + 1))), some (.int (((zg_i q1.2 9 8) + (4 * ((zg_i D 4 (zn (zg_i D 9 8))) + 1))) - 4)), some (.int e3)], [.ref 12], [4, sd, ln, pp], q10) rfl trivial ?_
      obtain ⟨q11, hc, h⟩ := zk_bind h
      refine hr.2.2.1 _ _ _ _ _ (d + 3) rfl (by omega) (c_g_Cur_widen (l := l) (E := E) (d := d + 3) (cb := 4) (sd := sd) (ln := ln) (pp := pp) hc) (fun v S hq => ?_)
      obtain ⟨rfl, rfl⟩ := hq
      clear hc
      refine hr.1 6 True _ _ (173, [some (.ref 9), some (.int (4 * ((zg_i D 4 (zn (zg_i D 9 8))) + 1))), some (.int (((zg_i q1.2 9 8) + (4 * ((zg_i D 4 (zn (zg_i D 9 8))) + 1))) - 4)), some (.int e3)], [], [4, sd, ln, pp], zp_i q11 12 3 ((((zg_i q1.2 9 8) + (4 * ((zg_i D 4 (zn (zg_i D 9 8))) + 1))) - 4) + 4)) rfl trivial ?_
      exact hr.2.2.2 _ _ _ rfl trivial ⟨rfl, (congrArg (fun x => (([4, sd, ln, pp], x) : zx_S)) (Option.some.inj h))⟩
    · replace h := zk_f h c62
      refine hr.1 4 True _ _ (73, [some (.ref 9), some (.int (4 * ((zg_i D 4 (zn (zg_i D 9 8))) + 1))), some (.int (((zg_i q1.2 9 8) + (4 * ((zg_i D 4 (zn (zg_i D 9 8))) + 1))) - 4)), none], [.int (((zg_i q1.2 9 8) + (4 * ((zg_i D 4 (zn (zg_i D 9 8))) + 1))) - 4), .int (-4), .ref 12], [4, sd, ln, pp], q1.2) rfl trivial ?_
      obtain ⟨q12, hc, h⟩ := zk_bind h
      refine hr.2.2.1 _ _ _ _ _ (d + 3) rfl (by omega) (c_g_Cur_fail (l := l) (E := E) (d := d + 3) (cb := 4) (sd := sd) (ln := ln) (pp := pp) hc) (fun v S hq => ?_)
      obtain ⟨rfl, rfl⟩ := hq
      clear hc
      exact hr.2.2.2 _ _ _ rfl trivial ⟨rfl, (congrArg (fun x => (([4, sd, ln, pp], x) : zx_S)) (Option.some.inj h))⟩
  · replace h := zk_f h c25
    exact hr.2.2.2 _ _ _ rfl trivial ⟨rfl, (congrArg (fun x => (([4, sd, ln, pp], x) : zx_S)) (Option.some.inj h))⟩
set_option maxRecDepth 100000 in
set_option maxHeartbeats 4000000 in
theorem c_g_Cur_isSound {l : Launch} {E : zx_E} {d : Nat} {cb sd ln pp : Nat} {D : zx_D} {q : Int32} (h : g_Cur_isSound D = some q) : zx_MC l E 30 d [.ref 12] ([cb, sd, ln, pp], D) (fun v S => v = some (.int q) ∧ S = ([cb, sd, ln, pp], D)) := by
  refine zx_ofC (K := ck_Cur_isSound) rfl (by decide +kernel) rfl ok_Cur_isSound (Nat.le_of_ble_eq_true rfl) (fun Zp hr => ?_)
  show Zp (0, [some (.ref 12)], [], [cb, sd, ln, pp], D)
  rw [g_Cur_isSound] at h
  refine hr.1 2 True _ _ (4, [some (.ref 12)], [.int (zg_i D 12 4)], [cb, sd, ln, pp], D) rfl trivial ?_
  refine hr.2.1 _ (¬ zg_i D 12 4 = 0) _ _ rfl (fun c4 => ?_) (fun c4 => ?_)
  · replace h := zk_t h c4
    refine hr.1 1 True _ _ (12, [some (.ref 12)], [.int 0], [cb, sd, ln, pp], D) rfl trivial ?_
    exact hr.2.2.2 _ _ _ rfl (Or.inl rfl) ⟨(congrArg (fun x => some (Value.int x)) (Option.some.inj h)), rfl⟩
  · replace h := zk_f h c4
    refine hr.1 2 True _ _ (12, [some (.ref 12)], [.int 1], [cb, sd, ln, pp], D) rfl trivial ?_
    exact hr.2.2.2 _ _ _ rfl (Or.inr rfl) ⟨(congrArg (fun x => some (Value.int x)) (Option.some.inj h)), rfl⟩
set_option maxRecDepth 100000 in
set_option maxHeartbeats 4000000 in
theorem c_g_Cur_expectFilling {l : Launch} {E : zx_E} {d : Nat} {sd ln pp : Nat} {x1 : Int32} {D : zx_D} {q : zx_D} (h : g_Cur_expectFilling x1 D = some q) : zx_MC l E 37 (d + 4) [.ref 12, .int x1] ([4, sd, ln, pp], D) (fun v S => v = none ∧ S = ([4, sd, ln, pp], q)) := by
  refine zx_ofC (K := ck_Cur_expectFilling) rfl (by decide +kernel) rfl ok_Cur_expectFilling (Nat.le_of_ble_eq_true rfl) (fun Zp hr => ?_)
  show Zp (0, [some (.ref 12), some (.int x1), none], [], [4, sd, ln, pp], D)
  have loop2 : ∀ (x1 : Int32) (k : Nat) (x2 : Int32) (D : zx_D) (q : zx_D), g_Cur_expectFilling_2 x1 k x2 D = some q → (∀ (e2 : Int32), Zp (29, [some (.ref 12), some (.int x1), some (.int e2)], [], [4, sd, ln, pp], q)) → Zp (2, [some (.ref 12), some (.int x1), some (.int x2)], [], [4, sd, ln, pp], D) := by
    intro x1 k
    induction k with
    | zero => intro x2 D q h hx; exact (zk_no h).elim
    | succ k ih =>
      intro x2 D q h hx
      rw [g_Cur_expectFilling_2] at h
      refine hr.1 2 True _ _ (4, [some (.ref 12), some (.int x1), some (.int x2)], [.int 3, .int x2], [4, sd, ln, pp], D) rfl trivial ?_
      refine hr.2.1 _ (3 ≤ x2) _ _ rfl (fun c4 => ?_) (fun c4 => ?_)
      · replace h := zk_t h c4
        replace h := Option.some.inj h
        subst h
        exact hx x2
      · replace h := zk_f h c4
        refine hr.1 6 True _ _ (15, [some (.ref 12), some (.int x1), some (.int x2)], [.int (zo_rem ((zg_i D 12 3) - x1) 4)], [4, sd, ln, pp], D) rfl trivial ?_
        refine hr.2.1 _ (zo_rem ((zg_i D 12 3) - x1) 4 = 0) _ _ rfl (fun c15 => ?_) (fun c15 => ?_)
        · replace h := zk_t h c15
          replace h := Option.some.inj h
          subst h
          exact hx x2
        · replace h := zk_f h c15
          refine hr.1 2 True _ _ (20, [some (.ref 12), some (.int x1), some (.int x2)], [.int 0, .ref 12], [4, sd, ln, pp], D) rfl trivial ?_
          obtain ⟨q1, hc, h⟩ := zk_bind h
          refine hr.2.2.1 _ _ _ _ _ (d + 3) rfl (by omega) (c_g_Cur_expectByte (l := l) (E := E) (d := d) (sd := sd) (ln := ln) (pp := pp) hc) (fun v S hq => ?_)
          obtain ⟨rfl, rfl⟩ := hq
          clear hc
          refine hr.1 2 True _ _ (2, [some (.ref 12), some (.int x1), some (.int (x2 + 1))], [], [4, sd, ln, pp], q1) rfl trivial ?_
          exact ih (x2 + 1) q1 _ h hx
  rw [g_Cur_expectFilling] at h
  refine hr.1 2 True _ _ (2, [some (.ref 12), some (.int x1), some (.int 0)], [], [4, sd, ln, pp], D) rfl trivial ?_
  obtain ⟨q2, hc, h⟩ := zk_bind h
  refine loop2 x1 10000 0 D q2 hc (fun e2 => ?_)
  clear hc
  exact hr.2.2.2 _ _ _ rfl trivial ⟨rfl, (congrArg (fun x => (([4, sd, ln, pp], x) : zx_S)) (Option.some.inj h))⟩
set_option maxRecDepth 100000 in
set_option maxHeartbeats 4000000 in
theorem c_g_P_sumBy_11 {l : Launch} {E : zx_E} {d : Nat} {cb sd ln pp : Nat} {x1 : Int32} {x2 : Int32} {x3 : Int64} {x5 : Int64} {D : zx_D} {q : Int64} (h : g_P_sumBy_11 x1 x2 x3 x5 D = some q) : zx_MC l E 19 d [.ref 11, .int x1, .int x2, .long x3, .long x5] ([cb, sd, ln, pp], D) (fun v S => v = some (.long q) ∧ S = ([cb, sd, ln, pp], D)) := by
  refine zx_ofC (K := ck_P_sumBy) rfl (by decide +kernel) rfl ok_P_sumBy (Nat.le_of_ble_eq_true rfl) (fun Zp hr => ?_)
  show Zp (0, [some (.ref 11), some (.int x1), some (.int x2), some (.long x3), none, some (.long x5), none, none, none, none, none], [], [cb, sd, ln, pp], D)
  have loop25 : ∀ (x2 : Int32) (x3 : Int64) (x5 : Int64) (x9 : Int32) (D : zx_D) (k : Nat) (x7 : Int64) (x10 : Int32) (x1 : Int32) (q : Int64), g_P_sumBy_11_25 x2 x3 x5 x9 D k x7 x10 = some q → (∀ (e10 : Int32), Zp (63, [some (.ref 11), some (.int x1), some (.int x2), some (.long x3), none, some (.long x5), none, some (.long q), none, some (.int x9), some (.int e10)], [], [cb, sd, ln, pp], D)) → Zp (25, [some (.ref 11), some (.int x1), some (.int x2), some (.long x3), none, some (.long x5), none, some (.long x7), none, some (.int x9), some (.int x10)], [], [cb, sd, ln, pp], D) := by
    intro x2 x3 x5 x9 D k
    induction k with
    | zero => intro x7 x10 x1 q h hx; exact (zk_no h).elim
    | succ k ih =>
      intro x7 x10 x1 q h hx
      rw [g_P_sumBy_11_25] at h
      refine hr.1 2 True _ _ (29, [some (.ref 11), some (.int x1), some (.int x2), some (.long x3), none, some (.long x5), none, some (.long x7), none, some (.int x9), some (.int x10)], [.int 8, .int x10], [cb, sd, ln, pp], D) rfl trivial ?_
      refine hr.2.1 _ (8 ≤ x10) _ _ rfl (fun c29 => ?_) (fun c29 => ?_)
      · replace h := zk_t h c29
        replace h := Option.some.inj h
        subst h
        exact hx x10
      · replace h := zk_f h c29
        refine hr.1 4 True _ _ (37, [some (.ref 11), some (.int x1), some (.int x2), some (.long x3), none, some (.long x5), none, some (.long x7), none, some (.int x9), some (.int x10)], [.long 1, .long (x7 &&& 1)], [cb, sd, ln, pp], D) rfl trivial ?_
        refine hr.2.1 _ (¬ x7 &&& 1 = 1) _ _ rfl (fun c37 => ?_) (fun c37 => ?_)
        · replace h := zk_t h c37
          refine hr.1 6 True _ _ (25, [some (.ref 11), some (.int x1), some (.int x2), some (.long x3), none, some (.long x5), none, some (.long (zo_lushr x7 1)), none, some (.int x9), some (.int (x10 + 1))], [], [cb, sd, ln, pp], D) rfl trivial ?_
          exact ih (zo_lushr x7 1) (x10 + 1)  _ _ h hx
        · replace h := zk_f h c37
          refine hr.1 9 True _ _ (25, [some (.ref 11), some (.int x1), some (.int x2), some (.long x3), none, some (.long x5), none, some (.long ((zo_lushr x7 1) ^^^ x5)), none, some (.int x9), some (.int (x10 + 1))], [], [cb, sd, ln, pp], D) rfl trivial ?_
          exact ih ((zo_lushr x7 1) ^^^ x5) (x10 + 1)  _ _ h hx
  have loop6 : ∀ (x2 : Int32) (x3 : Int64) (x5 : Int64) (D : zx_D) (k : Nat) (x7 : Int64) (x9 : Int32) (o10 : Option Value) (x1 : Int32) (q : Int64), g_P_sumBy_11_6 x2 x3 x5 D k x7 x9 = some q → (∀ (e9 : Int32) (o10 : Option Value), Zp (69, [some (.ref 11), some (.int x1), some (.int x2), some (.long x3), none, some (.long x5), none, some (.long q), none, some (.int e9), o10], [], [cb, sd, ln, pp], D)) → Zp (6, [some (.ref 11), some (.int x1), some (.int x2), some (.long x3), none, some (.long x5), none, some (.long x7), none, some (.int x9), o10], [], [cb, sd, ln, pp], D) := by
    intro x2 x3 x5 D k
    induction k with
    | zero => intro x7 x9 o10 x1 q h hx; exact (zk_no h).elim
    | succ k ih =>
      intro x7 x9 o10 x1 q h hx
      rw [g_P_sumBy_11_6] at h
      refine hr.1 2 True _ _ (9, [some (.ref 11), some (.int x1), some (.int x2), some (.long x3), none, some (.long x5), none, some (.long x7), none, some (.int x9), o10], [.int x2, .int x9], [cb, sd, ln, pp], D) rfl trivial ?_
      refine hr.2.1 _ (x2 ≤ x9) _ _ rfl (fun c9 => ?_) (fun c9 => ?_)
      · replace h := zk_t h c9
        replace h := Option.some.inj h
        subst h
        exact hx x9 o10
      · replace h := zk_f h c9
        obtain ⟨w2, h⟩ := zk_ck h
        refine hr.1 9 True _ _ (25, [some (.ref 11), some (.int x1), some (.int x2), some (.long x3), none, some (.long x5), none, some (.long (x7 ^^^ (((zg_i D 11 (zn x9))).toInt64))), none, some (.int x9), some (.int 0)], [], [cb, sd, ln, pp], D) rfl ⟨trivial, (zk_vp w2)⟩ ?_
        obtain ⟨q1, hc, h⟩ := zk_bind h
        refine loop25 x2 x3 x5 x9 D 10000 (x7 ^^^ (((zg_i D 11 (zn x9))).toInt64)) 0 x1 q1 hc (fun e10 => ?_)
        clear hc
        refine hr.1 2 True _ _ (6, [some (.ref 11), some (.int x1), some (.int x2), some (.long x3), none, some (.long x5), none, some (.long q1), none, some (.int (x9 + 1)), some (.int e10)], [], [cb, sd, ln, pp], D) rfl trivial ?_
        exact ih q1 (x9 + 1)  _ _ _ h hx
  rw [g_P_sumBy_11] at h
  refine hr.1 4 True _ _ (6, [some (.ref 11), some (.int x1), some (.int x2), some (.long x3), none, some (.long x5), none, some (.long x3), none, some (.int x1), none], [], [cb, sd, ln, pp], D) rfl trivial ?_
  obtain ⟨q2, hc, h⟩ := zk_bind h
  refine loop6 x2 x3 x5 D 10000 x3 x1 none x1 q2 hc (fun e9 o10 => ?_)
  clear hc
  refine hr.1 3 True _ _ (73, [some (.ref 11), some (.int x1), some (.int x2), some (.long x3), none, some (.long x5), none, some (.long q2), none, some (.int e9), o10], [.long (q2 ^^^ x3)], [cb, sd, ln, pp], D) rfl trivial ?_
  exact hr.2.2.2 _ _ _ rfl trivial ⟨(congrArg (fun x => some (Value.long x)) (Option.some.inj h)), rfl⟩
set_option maxRecDepth 100000 in
set_option maxHeartbeats 4000000 in
theorem c_g_P_sumEight_11 {l : Launch} {E : zx_E} {d : Nat} {cb sd ln pp : Nat} {x1 : Int32} {x2 : Int32} {D : zx_D} {q : Int64} (h : g_P_sumEight_11 x1 x2 D = some q) : zx_MC l E 18 (d + 1) [.ref 11, .int x1, .int x2] ([cb, sd, ln, pp], D) (fun v S => v = some (.long q) ∧ S = ([cb, sd, ln, pp], D)) := by
  refine zx_ofC (K := ck_P_sumEight) rfl (by decide +kernel) rfl ok_P_sumEight (Nat.le_of_ble_eq_true rfl) (fun Zp hr => ?_)
  show Zp (0, [some (.ref 11), some (.int x1), some (.int x2)], [], [cb, sd, ln, pp], D)
  rw [g_P_sumEight_11] at h
  refine hr.1 5 True _ _ (9, [some (.ref 11), some (.int x1), some (.int x2)], [.long (-3932672073523589310), .long (-1), .int x2, .int x1, .ref 11], [cb, sd, ln, pp], D) rfl trivial ?_
  obtain ⟨q1, hc, h⟩ := zk_bind h
  refine hr.2.2.1 _ _ _ _ _ (d) rfl (by omega) (c_g_P_sumBy_11 (l := l) (E := E) (d := d) (cb := cb) (sd := sd) (ln := ln) (pp := pp) hc) (fun v S hq => ?_)
  obtain ⟨rfl, rfl⟩ := hq
  clear hc
  exact hr.2.2.2 _ _ _ rfl trivial ⟨(congrArg (fun x => some (Value.long x)) (Option.some.inj h)), rfl⟩
set_option maxRecDepth 100000 in
set_option maxHeartbeats 4000000 in
theorem c_g_P_sumFour_11 {l : Launch} {E : zx_E} {d : Nat} {cb sd ln pp : Nat} {x1 : Int32} {x2 : Int32} {D : zx_D} {q : Int64} (h : g_P_sumFour_11 x1 x2 D = some q) : zx_MC l E 17 (d + 1) [.ref 11, .int x1, .int x2] ([cb, sd, ln, pp], D) (fun v S => v = some (.long q) ∧ S = ([cb, sd, ln, pp], D)) := by
  refine zx_ofC (K := ck_P_sumFour) rfl (by decide +kernel) rfl ok_P_sumFour (Nat.le_of_ble_eq_true rfl) (fun Zp hr => ?_)
  show Zp (0, [some (.ref 11), some (.int x1), some (.int x2)], [], [cb, sd, ln, pp], D)
  rw [g_P_sumFour_11] at h
  refine hr.1 5 True _ _ (9, [some (.ref 11), some (.int x1), some (.int x2)], [.long 3988292384, .long 4294967295, .int x2, .int x1, .ref 11], [cb, sd, ln, pp], D) rfl trivial ?_
  obtain ⟨q1, hc, h⟩ := zk_bind h
  refine hr.2.2.1 _ _ _ _ _ (d) rfl (by omega) (c_g_P_sumBy_11 (l := l) (E := E) (d := d) (cb := cb) (sd := sd) (ln := ln) (pp := pp) hc) (fun v S hq => ?_)
  obtain ⟨rfl, rfl⟩ := hq
  clear hc
  exact hr.2.2.2 _ _ _ rfl trivial ⟨(congrArg (fun x => some (Value.long x)) (Option.some.inj h)), rfl⟩
set_option maxRecDepth 100000 in
set_option maxHeartbeats 4000000 in
theorem c_g_Unp_closeBlock {l : Launch} {E : zx_E} {d : Nat} {sd ln pp : Nat} {x1 : Int32} {D : zx_D} {q : zx_D} (h : g_Unp_closeBlock x1 D = some q) : zx_MC l E 83 (d + 5) [.ref 9, .int x1] ([4, sd, ln, pp], D) (fun v S => v = none ∧ S = ([4, sd, ln, pp], q)) := by
  refine zx_ofC (K := ck_Unp_closeBlock) rfl (by decide +kernel) rfl ok_Unp_closeBlock (Nat.le_of_ble_eq_true rfl) (fun Zp hr => ?_)
  show Zp (0, [some (.ref 9), some (.int x1), none, none, none, none, none], [], [4, sd, ln, pp], D)
  have jump90 : ∀ (x3 : Int32) (D : zx_D) (x1 : Int32) (x2 : Int32), g_Unp_closeBlock_90 x3 D = some q → Zp (90, [some (.ref 9), some (.int x1), some (.int x2), some (.int x3), none, none, none], [], [4, sd, ln, pp], D) := by
    intro x3 D x1 x2 h
    rw [g_Unp_closeBlock_90] at h
    refine hr.1 8 True _ _ (106, [some (.ref 9), some (.int x1), some (.int x2), some (.int x3), none, none, none], [.int (zg_i D 9 7), .int ((zg_i D 12 3) - (zg_i D 9 8))], [4, sd, ln, pp], D) rfl trivial ?_
    obtain ⟨q2, hc, h⟩ := zk_bind h
    refine hr.2.2.1 _ _ _ _ _ (d + 4) rfl (by omega) (c_g_P_checkSize (l := l) (E := E) (d := d + 4) (cb := 4) (sd := sd) (ln := ln) (pp := pp) hc) (fun v S hq => ?_)
    obtain ⟨rfl, rfl⟩ := hq
    clear hc
    refine hr.1 7 True _ _ (121, [some (.ref 9), some (.int x1), some (.int x2), some (.int x3), some (.long (((((zg_i D 12 3) - (zg_i D 9 8)) + q2)).toInt64)), none, none], [.int (zg_i D 9 8), .ref 12], [4, sd, ln, pp], D) rfl trivial ?_
    obtain ⟨q3, hc, h⟩ := zk_bind h
    refine hr.2.2.1 _ _ _ _ _ (d + 4) rfl (by omega) (c_g_Cur_expectFilling (l := l) (E := E) (d := d) (sd := sd) (ln := ln) (pp := pp) hc) (fun v S hq => ?_)
    obtain ⟨rfl, rfl⟩ := hq
    clear hc
    refine hr.1 3 True _ _ (129, [some (.ref 9), some (.int x1), some (.int x2), some (.int x3), some (.long (((((zg_i D 12 3) - (zg_i D 9 8)) + q2)).toInt64)), none, none], [.int 1, .int (zg_i q3 9 7)], [4, sd, ln, pp], q3) rfl trivial ?_
    obtain ⟨q8, hj, h⟩ := zk_bind h
    have J202 : ∀ (_ : True), Zp (202, [some (.ref 9), some (.int x1), some (.int x2), some (.int x3), some (.long (((((zg_i D 12 3) - (zg_i D 9 8)) + q2)).toInt64)), none, none], [], [4, sd, ln, pp], q8) := by
      intro _
      refine hr.1 7 True _ _ (215, [some (.ref 9), some (.int x1), some (.int x2), some (.int x3), some (.long (((((zg_i D 12 3) - (zg_i D 9 8)) + q2)).toInt64)), none, some (.int (zg_i q8 14 (zn 10)))], [.ref 12], [4, sd, ln, pp], q8) rfl ⟨trivial, (zk_vp rfl)⟩ ?_
      obtain ⟨q9, hc, h⟩ := zk_bind h
      refine hr.2.2.1 _ _ _ _ _ (d + 4) rfl (by omega) (c_g_Cur_isSound (l := l) (E := E) (d := d + 4) (cb := 4) (sd := sd) (ln := ln) (pp := pp) hc) (fun v S hq => ?_)
      obtain ⟨rfl, rfl⟩ := hq
      clear hc
      refine hr.2.1 _ (q9 = 0) _ _ rfl (fun c218 => ?_) (fun c218 => ?_)
      · replace h := zk_t h c218
        exact hr.2.2.2 _ _ _ rfl trivial ⟨rfl, (congrArg (fun x => (([4, sd, ln, pp], x) : zx_S)) (Option.some.inj h))⟩
      · replace h := zk_f h c218
        refine hr.1 2 True _ _ (225, [some (.ref 9), some (.int x1), some (.int x2), some (.int x3), some (.long (((((zg_i D 12 3) - (zg_i D 9 8)) + q2)).toInt64)), none, some (.int (zg_i q8 14 (zn 10)))], [.int 40, .int (zg_i q8 14 (zn 10))], [4, sd, ln, pp], q8) rfl trivial ?_
        refine hr.2.1 _ (40 ≤ zg_i q8 14 (zn 10)) _ _ rfl (fun c225 => ?_) (fun c225 => ?_)
        · replace h := zk_t h c225
          exact hr.2.2.2 _ _ _ rfl trivial ⟨rfl, (congrArg (fun x => (([4, sd, ln, pp], x) : zx_S)) (Option.some.inj h))⟩
        · replace h := zk_f h c225
          obtain ⟨w3, h⟩ := zk_ck h
          obtain ⟨w4, h⟩ := zk_ck h
          refine hr.1 19 True _ _ (257, [some (.ref 9), some (.int x1), some (.int x2), some (.int x3), some (.long (((((zg_i D 12 3) - (zg_i D 9 8)) + q2)).toInt64)), none, some (.int (zg_i q8 14 (zn 10)))], [], [4, sd, ln, pp], zp_i (zp_l (zp_l q8 15 (zn (zg_i q8 14 (zn 10))) (((((zg_i D 12 3) - (zg_i D 9 8)) + q2)).toInt64)) 16 (zn (zg_i q8 14 (zn 10))) ((x3).toInt64)) 14 (zn 10) ((zg_i q8 14 (zn 10)) + 1)) rfl ⟨⟨⟨⟨trivial, (zk_vp w3)⟩, (zk_vp w4)⟩, (zk_vp rfl)⟩, (zk_vp rfl)⟩ ?_
          exact hr.2.2.2 _ _ _ rfl trivial ⟨rfl, (congrArg (fun x => (([4, sd, ln, pp], x) : zx_S)) (Option.some.inj h))⟩
    clear h
    have h := hj
    clear hj
    refine hr.2.1 _ (¬ zg_i q3 9 7 = 1) _ _ rfl (fun c129 => ?_) (fun c129 => ?_)
    · replace h := zk_t h c129
      refine hr.1 3 True _ _ (169, [some (.ref 9), some (.int x1), some (.int x2), some (.int x3), some (.long (((((zg_i D 12 3) - (zg_i D 9 8)) + q2)).toInt64)), none, none], [.int 4, .int (zg_i q3 9 7)], [4, sd, ln, pp], q3) rfl trivial ?_
      refine hr.2.1 _ (¬ zg_i q3 9 7 = 4) _ _ rfl (fun c169 => ?_) (fun c169 => ?_)
      · replace h := zk_t h c169
        replace h := Option.some.inj h
        subst h
        exact J202 trivial
      · replace h := zk_f h c169
        refine hr.1 11 True _ _ (196, [some (.ref 9), some (.int x1), some (.int x2), some (.int x3), some (.long (((((zg_i D 12 3) - (zg_i D 9 8)) + q2)).toInt64)), none, none], [.int (zg_i q3 10 1), .int (zg_i q3 9 9), .ref 11, .int 8, .ref 12], [4, sd, ln, pp], q3) rfl trivial ?_
        obtain ⟨q4, hc, h⟩ := zk_bind h
        refine hr.2.2.1 _ _ _ _ _ (d + 4) rfl (by omega) (c_g_P_sumEight_11 (l := l) (E := E) (d := d + 3) (cb := 4) (sd := sd) (ln := ln) (pp := pp) hc) (fun v S hq => ?_)
        obtain ⟨rfl, rfl⟩ := hq
        clear hc
        obtain ⟨q5, hc, h⟩ := zk_bind h
        refine hr.2.2.1 _ _ _ _ _ (d + 4) rfl (by omega) (c_g_Cur_expectSum (l := l) (E := E) (d := d + 2) (sd := sd) (ln := ln) (pp := pp) hc) (fun v S hq => ?_)
        obtain ⟨rfl, rfl⟩ := hq
        clear hc
        replace h := Option.some.inj h
        subst h
        exact J202 trivial
    · replace h := zk_f h c129
      refine hr.1 11 True _ _ (155, [some (.ref 9), some (.int x1), some (.int x2), some (.int x3), some (.long (((((zg_i D 12 3) - (zg_i D 9 8)) + q2)).toInt64)), none, none], [.int (zg_i q3 10 1), .int (zg_i q3 9 9), .ref 11, .int 4, .ref 12], [4, sd, ln, pp], q3) rfl trivial ?_
      obtain ⟨q6, hc, h⟩ := zk_bind h
      refine hr.2.2.1 _ _ _ _ _ (d + 4) rfl (by omega) (c_g_P_sumFour_11 (l := l) (E := E) (d := d + 3) (cb := 4) (sd := sd) (ln := ln) (pp := pp) hc) (fun v S hq => ?_)
      obtain ⟨rfl, rfl⟩ := hq
      clear hc
      obtain ⟨q7, hc, h⟩ := zk_bind h
      refine hr.2.2.1 _ _ _ _ _ (d + 4) rfl (by omega) (c_g_Cur_expectSum (l := l) (E := E) (d := d + 2) (sd := sd) (ln := ln) (pp := pp) hc) (fun v S hq => ?_)
      obtain ⟨rfl, rfl⟩ := hq
      clear hc
      refine hr.1 1 True _ _ (202, [some (.ref 9), some (.int x1), some (.int x2), some (.int x3), some (.long (((((zg_i D 12 3) - (zg_i D 9 8)) + q2)).toInt64)), none, none], [], [4, sd, ln, pp], q7) rfl trivial ?_
      replace h := Option.some.inj h
      subst h
      exact J202 trivial
  have jump55 : ∀ (x3 : Int32) (D : zx_D) (x1 : Int32) (x2 : Int32), g_Unp_closeBlock_55 x3 D = some q → Zp (55, [some (.ref 9), some (.int x1), some (.int x2), some (.int x3), none, none, none], [], [4, sd, ln, pp], D) := by
    intro x3 D x1 x2 h
    rw [g_Unp_closeBlock_55] at h
    refine hr.1 3 True _ _ (62, [some (.ref 9), some (.int x1), some (.int x2), some (.int x3), none, none, none], [.long (-1), .long (zg_l D 9 11)], [4, sd, ln, pp], D) rfl trivial ?_
    refine hr.2.1 _ (zg_l D 9 11 = -1) _ _ rfl (fun c62 => ?_) (fun c62 => ?_)
    · replace h := zk_t h c62
      exact jump90 x3 D x1 x2 h
    · replace h := zk_f h c62
      refine hr.1 4 True _ _ (72, [some (.ref 9), some (.int x1), some (.int x2), some (.int x3), none, none, none], [.long ((x3).toInt64), .long (zg_l D 9 11)], [4, sd, ln, pp], D) rfl trivial ?_
      refine hr.2.1 _ (zg_l D 9 11 = (x3).toInt64) _ _ rfl (fun c72 => ?_) (fun c72 => ?_)
      · replace h := zk_t h c72
        exact jump90 x3 D x1 x2 h
      · replace h := zk_f h c72
        refine hr.1 5 True _ _ (86, [some (.ref 9), some (.int x1), some (.int x2), some (.int x3), none, none, none], [.int (zg_i D 9 8), .int (-6), .ref 12], [4, sd, ln, pp], D) rfl trivial ?_
        obtain ⟨q10, hc, h⟩ := zk_bind h
        refine hr.2.2.1 _ _ _ _ _ (d + 4) rfl (by omega) (c_g_Cur_fail (l := l) (E := E) (d := d + 4) (cb := 4) (sd := sd) (ln := ln) (pp := pp) hc) (fun v S hq => ?_)
        obtain ⟨rfl, rfl⟩ := hq
        clear hc
        exact hr.2.2.2 _ _ _ rfl trivial ⟨rfl, (congrArg (fun x => (([4, sd, ln, pp], x) : zx_S)) (Option.some.inj h))⟩
  rw [g_Unp_closeBlock] at h
  refine hr.1 2 True _ _ (4, [some (.ref 9), some (.int x1), none, none, none, none, none], [.ref 12], [4, sd, ln, pp], D) rfl trivial ?_
  obtain ⟨q1, hc, h⟩ := zk_bind h
  refine hr.2.2.1 _ _ _ _ _ (d + 4) rfl (by omega) (c_g_Cur_isSound (l := l) (E := E) (d := d + 4) (cb := 4) (sd := sd) (ln := ln) (pp := pp) hc) (fun v S hq => ?_)
  obtain ⟨rfl, rfl⟩ := hq
  clear hc
  refine hr.2.1 _ (¬ q1 = 0) _ _ rfl (fun c7 => ?_) (fun c7 => ?_)
  · replace h := zk_t h c7
    refine hr.1 16 True _ _ (41, [some (.ref 9), some (.int x1), some (.int ((zg_i D 12 3) - x1)), some (.int ((zg_i D 10 1) - (zg_i D 9 9))), none, none, none], [.long (-1), .long (zg_l D 9 10)], [4, sd, ln, pp], D) rfl trivial ?_
    refine hr.2.1 _ (zg_l D 9 10 = -1) _ _ rfl (fun c41 => ?_) (fun c41 => ?_)
    · replace h := zk_t h c41
      exact jump55 ((zg_i D 10 1) - (zg_i D 9 9)) D x1 ((zg_i D 12 3) - x1) h
    · replace h := zk_f h c41
      refine hr.1 4 True _ _ (51, [some (.ref 9), some (.int x1), some (.int ((zg_i D 12 3) - x1)), some (.int ((zg_i D 10 1) - (zg_i D 9 9))), none, none, none], [.long ((((zg_i D 12 3) - x1)).toInt64), .long (zg_l D 9 10)], [4, sd, ln, pp], D) rfl trivial ?_
      refine hr.2.1 _ (¬ zg_l D 9 10 = (((zg_i D 12 3) - x1)).toInt64) _ _ rfl (fun c51 => ?_) (fun c51 => ?_)
      · replace h := zk_t h c51
        refine hr.1 5 True _ _ (86, [some (.ref 9), some (.int x1), some (.int ((zg_i D 12 3) - x1)), some (.int ((zg_i D 10 1) - (zg_i D 9 9))), none, none, none], [.int (zg_i D 9 8), .int (-6), .ref 12], [4, sd, ln, pp], D) rfl trivial ?_
        obtain ⟨q11, hc, h⟩ := zk_bind h
        refine hr.2.2.1 _ _ _ _ _ (d + 4) rfl (by omega) (c_g_Cur_fail (l := l) (E := E) (d := d + 4) (cb := 4) (sd := sd) (ln := ln) (pp := pp) hc) (fun v S hq => ?_)
        obtain ⟨rfl, rfl⟩ := hq
        clear hc
        exact hr.2.2.2 _ _ _ rfl trivial ⟨rfl, (congrArg (fun x => (([4, sd, ln, pp], x) : zx_S)) (Option.some.inj h))⟩
      · replace h := zk_f h c51
        exact jump55 ((zg_i D 10 1) - (zg_i D 9 9)) D x1 ((zg_i D 12 3) - x1) h
  · replace h := zk_f h c7
    exact hr.2.2.2 _ _ _ rfl trivial ⟨rfl, (congrArg (fun x => (([4, sd, ln, pp], x) : zx_S)) (Option.some.inj h))⟩
set_option maxRecDepth 100000 in
set_option maxHeartbeats 4000000 in
theorem c_g_Unp_empties {l : Launch} {E : zx_E} {d : Nat} {cb sd ln pp : Nat} {D : zx_D} {q : Int32} (h : g_Unp_empties D = some q) : zx_MC l E 76 d [.ref 9] ([cb, sd, ln, pp], D) (fun v S => v = some (.int q) ∧ S = ([cb, sd, ln, pp], D)) := by
  refine zx_ofC (K := ck_Unp_empties) rfl (by decide +kernel) rfl ok_Unp_empties (Nat.le_of_ble_eq_true rfl) (fun Zp hr => ?_)
  show Zp (0, [some (.ref 9)], [], [cb, sd, ln, pp], D)
  rw [g_Unp_empties] at h
  refine hr.1 3 True _ _ (5, [some (.ref 9)], [.int 1, .int (zg_i D 9 15)], [cb, sd, ln, pp], D) rfl trivial ?_
  refine hr.2.1 _ (zg_i D 9 15 = 1) _ _ rfl (fun c5 => ?_) (fun c5 => ?_)
  · replace h := zk_t h c5
    refine hr.1 2 True _ _ (23, [some (.ref 9)], [.int 1], [cb, sd, ln, pp], D) rfl trivial ?_
    exact hr.2.2.2 _ _ _ rfl (Or.inr rfl) ⟨(congrArg (fun x => some (Value.int x)) (Option.some.inj h)), rfl⟩
  · replace h := zk_f h c5
    refine hr.1 3 True _ _ (15, [some (.ref 9)], [.int 224, .int (zg_i D 9 15)], [cb, sd, ln, pp], D) rfl trivial ?_
    refine hr.2.1 _ (zg_i D 9 15 < 224) _ _ rfl (fun c15 => ?_) (fun c15 => ?_)
    · replace h := zk_t h c15
      refine hr.1 1 True _ _ (23, [some (.ref 9)], [.int 0], [cb, sd, ln, pp], D) rfl trivial ?_
      exact hr.2.2.2 _ _ _ rfl (Or.inl rfl) ⟨(congrArg (fun x => some (Value.int x)) (Option.some.inj h)), rfl⟩
    · replace h := zk_f h c15
      refine hr.1 2 True _ _ (23, [some (.ref 9)], [.int 1], [cb, sd, ln, pp], D) rfl trivial ?_
      exact hr.2.2.2 _ _ _ rfl (Or.inr rfl) ⟨(congrArg (fun x => some (Value.int x)) (Option.some.inj h)), rfl⟩
set_option maxRecDepth 100000 in
set_option maxHeartbeats 4000000 in
theorem c_g_Unp_isAllowed {l : Launch} {E : zx_E} {d : Nat} {cb sd ln pp : Nat} {D : zx_D} {q : Int32} (h : g_Unp_isAllowed D = some q) : zx_MC l E 77 (d + 1) [.ref 9] ([cb, sd, ln, pp], D) (fun v S => v = some (.int q) ∧ S = ([cb, sd, ln, pp], D)) := by
  refine zx_ofC (K := ck_Unp_isAllowed) rfl (by decide +kernel) rfl ok_Unp_isAllowed (Nat.le_of_ble_eq_true rfl) (fun Zp hr => ?_)
  show Zp (0, [some (.ref 9)], [], [cb, sd, ln, pp], D)
  have jump43 : g_Unp_isAllowed_43 D = some q → Zp (43, [some (.ref 9)], [], [cb, sd, ln, pp], D) := by
    intro h
    rw [g_Unp_isAllowed_43] at h
    refine hr.1 3 True _ _ (50, [some (.ref 9)], [.int 128, .int (zg_i D 9 15)], [cb, sd, ln, pp], D) rfl trivial ?_
    refine hr.2.1 _ (zg_i D 9 15 < 128) _ _ rfl (fun c50 => ?_) (fun c50 => ?_)
    · replace h := zk_t h c50
      refine hr.1 2 True _ _ (75, [some (.ref 9)], [.int 1], [cb, sd, ln, pp], D) rfl trivial ?_
      exact hr.2.2.2 _ _ _ rfl (Or.inr rfl) ⟨(congrArg (fun x => some (Value.int x)) (Option.some.inj h)), rfl⟩
    · replace h := zk_f h c50
      refine hr.1 3 True _ _ (60, [some (.ref 9)], [.int 192, .int (zg_i D 9 15)], [cb, sd, ln, pp], D) rfl trivial ?_
      refine hr.2.1 _ (192 ≤ zg_i D 9 15) _ _ rfl (fun c60 => ?_) (fun c60 => ?_)
      · replace h := zk_t h c60
        refine hr.1 2 True _ _ (75, [some (.ref 9)], [.int 1], [cb, sd, ln, pp], D) rfl trivial ?_
        exact hr.2.2.2 _ _ _ rfl (Or.inr rfl) ⟨(congrArg (fun x => some (Value.int x)) (Option.some.inj h)), rfl⟩
      · replace h := zk_f h c60
        refine hr.1 2 True _ _ (67, [some (.ref 9)], [.int (zg_i D 9 14)], [cb, sd, ln, pp], D) rfl trivial ?_
        refine hr.2.1 _ (¬ zg_i D 9 14 = 0) _ _ rfl (fun c67 => ?_) (fun c67 => ?_)
        · replace h := zk_t h c67
          refine hr.1 1 True _ _ (75, [some (.ref 9)], [.int 0], [cb, sd, ln, pp], D) rfl trivial ?_
          exact hr.2.2.2 _ _ _ rfl (Or.inl rfl) ⟨(congrArg (fun x => some (Value.int x)) (Option.some.inj h)), rfl⟩
        · replace h := zk_f h c67
          refine hr.1 2 True _ _ (75, [some (.ref 9)], [.int 1], [cb, sd, ln, pp], D) rfl trivial ?_
          exact hr.2.2.2 _ _ _ rfl (Or.inr rfl) ⟨(congrArg (fun x => some (Value.int x)) (Option.some.inj h)), rfl⟩
  have jump27 : g_Unp_isAllowed_27 D = some q → Zp (27, [some (.ref 9)], [], [cb, sd, ln, pp], D) := by
    intro h
    rw [g_Unp_isAllowed_27] at h
    refine hr.1 2 True _ _ (31, [some (.ref 9)], [.int (zg_i D 9 13)], [cb, sd, ln, pp], D) rfl trivial ?_
    refine hr.2.1 _ (zg_i D 9 13 = 0) _ _ rfl (fun c31 => ?_) (fun c31 => ?_)
    · replace h := zk_t h c31
      exact jump43 h
    · replace h := zk_f h c31
      refine hr.1 1 True _ _ (35, [some (.ref 9)], [.ref 9], [cb, sd, ln, pp], D) rfl trivial ?_
      obtain ⟨q1, hc, h⟩ := zk_bind h
      refine hr.2.2.1 _ _ _ _ _ (d) rfl (by omega) (c_g_Unp_empties (l := l) (E := E) (d := d) (cb := cb) (sd := sd) (ln := ln) (pp := pp) hc) (fun v S hq => ?_)
      obtain ⟨rfl, rfl⟩ := hq
      clear hc
      refine hr.2.1 _ (¬ q1 = 0) _ _ rfl (fun c38 => ?_) (fun c38 => ?_)
      · replace h := zk_t h c38
        exact jump43 h
      · replace h := zk_f h c38
        refine hr.1 1 True _ _ (42, [some (.ref 9)], [.int 0], [cb, sd, ln, pp], D) rfl trivial ?_
        exact hr.2.2.2 _ _ _ rfl (Or.inl rfl) ⟨(congrArg (fun x => some (Value.int x)) (Option.some.inj h)), rfl⟩
  rw [g_Unp_isAllowed] at h
  refine hr.1 2 True _ _ (4, [some (.ref 9)], [.int (zg_i D 9 15)], [cb, sd, ln, pp], D) rfl trivial ?_
  refine hr.2.1 _ (¬ zg_i D 9 15 = 0) _ _ rfl (fun c4 => ?_) (fun c4 => ?_)
  · replace h := zk_t h c4
    refine hr.1 3 True _ _ (14, [some (.ref 9)], [.int 2, .int (zg_i D 9 15)], [cb, sd, ln, pp], D) rfl trivial ?_
    refine hr.2.1 _ (zg_i D 9 15 ≤ 2) _ _ rfl (fun c14 => ?_) (fun c14 => ?_)
    · replace h := zk_t h c14
      exact jump27 h
    · replace h := zk_f h c14
      refine hr.1 3 True _ _ (24, [some (.ref 9)], [.int 128, .int (zg_i D 9 15)], [cb, sd, ln, pp], D) rfl trivial ?_
      refine hr.2.1 _ (zg_i D 9 15 < 128) _ _ rfl (fun c24 => ?_) (fun c24 => ?_)
      · replace h := zk_t h c24
        refine hr.1 1 True _ _ (42, [some (.ref 9)], [.int 0], [cb, sd, ln, pp], D) rfl trivial ?_
        exact hr.2.2.2 _ _ _ rfl (Or.inl rfl) ⟨(congrArg (fun x => some (Value.int x)) (Option.some.inj h)), rfl⟩
      · replace h := zk_f h c24
        exact jump27 h
  · replace h := zk_f h c4
    refine hr.1 1 True _ _ (8, [some (.ref 9)], [.int 1], [cb, sd, ln, pp], D) rfl trivial ?_
    exact hr.2.2.2 _ _ _ rfl (Or.inr rfl) ⟨(congrArg (fun x => some (Value.int x)) (Option.some.inj h)), rfl⟩
set_option maxRecDepth 100000 in
set_option maxHeartbeats 4000000 in
theorem c_g_Cur_readTwo {l : Launch} {E : zx_E} {d : Nat} {sd ln pp : Nat} {D : zx_D} {q : Int32 × zx_D} (h : g_Cur_readTwo D = some q) : zx_MC l E 40 (d + 2) [.ref 12] ([4, sd, ln, pp], D) (fun v S => v = some (.int q.1) ∧ S = ([4, sd, ln, pp], q.2)) := by
  refine zx_ofC (K := ck_Cur_readTwo) rfl (by decide +kernel) rfl ok_Cur_readTwo (Nat.le_of_ble_eq_true rfl) (fun Zp hr => ?_)
  show Zp (0, [some (.ref 12)], [], [4, sd, ln, pp], D)
  rw [g_Cur_readTwo] at h
  refine hr.1 2 True _ _ (2, [some (.ref 12)], [.int 2, .ref 12], [4, sd, ln, pp], D) rfl trivial ?_
  obtain ⟨q1, hc, h⟩ := zk_bind h
  refine hr.2.2.1 _ _ _ _ _ (d + 1) rfl (by omega) (c_g_Cur_has (l := l) (E := E) (d := d) (cb := 4) (sd := sd) (ln := ln) (pp := pp) hc) (fun v S hq => ?_)
  obtain ⟨rfl, rfl⟩ := hq
  clear hc
  refine hr.2.1 _ (¬ q1.1 = 0) _ _ rfl (fun c5 => ?_) (fun c5 => ?_)
  · replace h := zk_t h c5
    obtain ⟨w3, h⟩ := zk_ck h
    obtain ⟨w4, h⟩ := zk_ck h
    refine hr.1 23 True _ _ (47, [some (.ref 12)], [.int (((zg_i q1.2 4 (zn (((zg_i q1.2 12 3) + 2) - 2))) * 256) + (zg_i q1.2 4 (zn (((zg_i q1.2 12 3) + 2) - 1))))], [4, sd, ln, pp], zp_i q1.2 12 3 ((zg_i q1.2 12 3) + 2)) rfl ⟨⟨trivial, (zk_vp w3)⟩, (zk_vp w4)⟩ ?_
    exact hr.2.2.2 _ _ _ rfl trivial ⟨(congrArg (fun x => some (Value.int x.1)) (Option.some.inj h)), (congrArg (fun x => (([4, sd, ln, pp], x.2) : zx_S)) (Option.some.inj h))⟩
  · replace h := zk_f h c5
    refine hr.1 1 True _ _ (9, [some (.ref 12)], [.int 0], [4, sd, ln, pp], q1.2) rfl trivial ?_
    exact hr.2.2.2 _ _ _ rfl trivial ⟨(congrArg (fun x => some (Value.int x.1)) (Option.some.inj h)), (congrArg (fun x => (([4, sd, ln, pp], x.2) : zx_S)) (Option.some.inj h))⟩
set_option maxRecDepth 100000 in
set_option maxHeartbeats 4000000 in
theorem c_g_Unp_readProperties {l : Launch} {E : zx_E} {d : Nat} {sd ln pp : Nat} {D : zx_D} {q : zx_D} (h : g_Unp_readProperties D = some q) : zx_MC l E 78 (d + 3) [.ref 9] ([4, sd, ln, pp], D) (fun v S => v = none ∧ S = ([4, sd, ln, pp], q)) := by
  refine zx_ofC (K := ck_Unp_readProperties) rfl (by decide +kernel) rfl ok_Unp_readProperties (Nat.le_of_ble_eq_true rfl) (fun Zp hr => ?_)
  show Zp (0, [some (.ref 9), none], [], [4, sd, ln, pp], D)
  have jump87 : ∀ (D : zx_D) (o1 : Option Value), g_Unp_readProperties_87 D = some q → Zp (87, [some (.ref 9), o1], [], [4, sd, ln, pp], D) := by
    intro D o1 h
    rw [g_Unp_readProperties_87] at h
    refine hr.1 3 True _ _ (94, [some (.ref 9), o1], [.int 160, .int (zg_i D 9 15)], [4, sd, ln, pp], D) rfl trivial ?_
    refine hr.2.1 _ (zg_i D 9 15 < 160) _ _ rfl (fun c94 => ?_) (fun c94 => ?_)
    · replace h := zk_t h c94
      exact hr.2.2.2 _ _ _ rfl trivial ⟨rfl, (congrArg (fun x => (([4, sd, ln, pp], x) : zx_S)) (Option.some.inj h))⟩
    · replace h := zk_f h c94
      refine hr.1 2 True _ _ (101, [some (.ref 9), o1], [.ref 12], [4, sd, ln, pp], D) rfl trivial ?_
      obtain ⟨q1, hc, h⟩ := zk_bind h
      refine hr.2.2.1 _ _ _ _ _ (d + 2) rfl (by omega) (c_g_Cur_isSound (l := l) (E := E) (d := d + 2) (cb := 4) (sd := sd) (ln := ln) (pp := pp) hc) (fun v S hq => ?_)
      obtain ⟨rfl, rfl⟩ := hq
      clear hc
      refine hr.2.1 _ (q1 = 0) _ _ rfl (fun c104 => ?_) (fun c104 => ?_)
      · replace h := zk_t h c104
        exact hr.2.2.2 _ _ _ rfl trivial ⟨rfl, (congrArg (fun x => (([4, sd, ln, pp], x) : zx_S)) (Option.some.inj h))⟩
      · replace h := zk_f h c104
        refine hr.1 2 True _ _ (111, [some (.ref 9), o1], [.ref 7], [4, sd, ln, pp], D) rfl trivial ?_
        obtain ⟨q2, hc, h⟩ := zk_bind h
        refine hr.2.2.1 _ _ _ _ _ (d + 2) rfl (by omega) (c_g_Mdl_beginAnew (l := l) (E := E) (d := d) (cb := 4) (sd := sd) (ln := ln) (pp := pp) hc) (fun v S hq => ?_)
        obtain ⟨rfl, rfl⟩ := hq
        clear hc
        exact hr.2.2.2 _ _ _ rfl trivial ⟨rfl, (congrArg (fun x => (([4, sd, ln, pp], x) : zx_S)) (Option.some.inj h))⟩
  rw [g_Unp_readProperties] at h
  refine hr.1 3 True _ _ (7, [some (.ref 9), none], [.int 192, .int (zg_i D 9 15)], [4, sd, ln, pp], D) rfl trivial ?_
  refine hr.2.1 _ (zg_i D 9 15 < 192) _ _ rfl (fun c7 => ?_) (fun c7 => ?_)
  · replace h := zk_t h c7
    exact jump87 D none h
  · replace h := zk_f h c7
    refine hr.1 3 True _ _ (15, [some (.ref 9), none], [.int 1, .ref 12], [4, sd, ln, pp], D) rfl trivial ?_
    obtain ⟨q3, hc, h⟩ := zk_bind h
    refine hr.2.2.1 _ _ _ _ _ (d + 2) rfl (by omega) (c_g_Cur_has (l := l) (E := E) (d := d + 1) (cb := 4) (sd := sd) (ln := ln) (pp := pp) hc) (fun v S hq => ?_)
    obtain ⟨rfl, rfl⟩ := hq
    clear hc
    refine hr.2.1 _ (q3.1 = 0) _ _ rfl (fun c18 => ?_) (fun c18 => ?_)
    · replace h := zk_t h c18
      exact jump87 q3.2 none h
    · replace h := zk_f h c18
      obtain ⟨w2, h⟩ := zk_ck h
      refine hr.1 9 True _ _ (38, [some (.ref 9), some (.int (zg_i q3.2 4 (zn (zg_i q3.2 12 3))))], [.int (zg_i q3.2 4 (zn (zg_i q3.2 12 3)))], [4, sd, ln, pp], q3.2) rfl ⟨trivial, (zk_vp w2)⟩ ?_
      obtain ⟨q4, hc, h⟩ := zk_bind h
      refine hr.2.2.1 _ _ _ _ _ (d + 2) rfl (by omega) (c_g_P_areProperties (l := l) (E := E) (d := d + 2) (cb := 4) (sd := sd) (ln := ln) (pp := pp) hc) (fun v S hq => ?_)
      obtain ⟨rfl, rfl⟩ := hq
      clear hc
      refine hr.2.1 _ (¬ q4 = 0) _ _ rfl (fun c41 => ?_) (fun c41 => ?_)
      · replace h := zk_t h c41
        refine hr.1 13 True _ _ (84, [some (.ref 9), some (.int (zg_i q3.2 4 (zn (zg_i q3.2 12 3))))], [.int (zg_i q3.2 4 (zn (zg_i q3.2 12 3))), .ref 7], [4, sd, ln, pp], zp_i (zp_i q3.2 12 3 ((zg_i q3.2 12 3) + 1)) 9 14 0) rfl ⟨trivial, (Or.inl rfl)⟩ ?_
        obtain ⟨q5, hc, h⟩ := zk_bind h
        refine hr.2.2.1 _ _ _ _ _ (d + 2) rfl (by omega) (c_g_Mdl_setProperties (l := l) (E := E) (d := d + 2) (cb := 4) (sd := sd) (ln := ln) (pp := pp) hc) (fun v S hq => ?_)
        obtain ⟨rfl, rfl⟩ := hq
        clear hc
        exact jump87 q5 (some (.int (zg_i q3.2 4 (zn (zg_i q3.2 12 3))))) h
      · replace h := zk_f h c41
        refine hr.1 6 True _ _ (57, [some (.ref 9), some (.int (zg_i q3.2 4 (zn (zg_i q3.2 12 3))))], [.int (zg_i q3.2 12 3), .int (-3), .ref 12], [4, sd, ln, pp], q3.2) rfl trivial ?_
        obtain ⟨q6, hc, h⟩ := zk_bind h
        refine hr.2.2.1 _ _ _ _ _ (d + 2) rfl (by omega) (c_g_Cur_fail (l := l) (E := E) (d := d + 2) (cb := 4) (sd := sd) (ln := ln) (pp := pp) hc) (fun v S hq => ?_)
        obtain ⟨rfl, rfl⟩ := hq
        clear hc
        exact hr.2.2.2 _ _ _ rfl trivial ⟨rfl, (congrArg (fun x => (([4, sd, ln, pp], x) : zx_S)) (Option.some.inj h))⟩
set_option maxRecDepth 100000 in
set_option maxHeartbeats 4000000 in
theorem c_g_Unp_readChunkHead {l : Launch} {E : zx_E} {d : Nat} {sd ln pp : Nat} {D : zx_D} {q : zx_D} (h : g_Unp_readChunkHead D = some q) : zx_MC l E 75 (d + 4) [.ref 9] ([4, sd, ln, pp], D) (fun v S => v = none ∧ S = ([4, sd, ln, pp], q)) := by
  refine zx_ofC (K := ck_Unp_readChunkHead) rfl (by decide +kernel) rfl ok_Unp_readChunkHead (Nat.le_of_ble_eq_true rfl) (fun Zp hr => ?_)
  show Zp (0, [some (.ref 9)], [], [4, sd, ln, pp], D)
  rw [g_Unp_readChunkHead] at h
  refine hr.1 3 True _ _ (5, [some (.ref 9)], [.int 1, .ref 12], [4, sd, ln, pp], D) rfl trivial ?_
  obtain ⟨q1, hc, h⟩ := zk_bind h
  refine hr.2.2.1 _ _ _ _ _ (d + 3) rfl (by omega) (c_g_Cur_has (l := l) (E := E) (d := d + 2) (cb := 4) (sd := sd) (ln := ln) (pp := pp) hc) (fun v S hq => ?_)
  obtain ⟨rfl, rfl⟩ := hq
  clear hc
  refine hr.2.1 _ (¬ q1.1 = 0) _ _ rfl (fun c8 => ?_) (fun c8 => ?_)
  · replace h := zk_t h c8
    obtain ⟨w2, h⟩ := zk_ck h
    refine hr.1 10 True _ _ (32, [some (.ref 9)], [.ref 9], [4, sd, ln, pp], zp_i q1.2 9 15 (zg_i q1.2 4 (zn (zg_i q1.2 12 3)))) rfl ⟨trivial, (zk_vp w2)⟩ ?_
    obtain ⟨q2, hc, h⟩ := zk_bind h
    refine hr.2.2.1 _ _ _ _ _ (d + 3) rfl (by omega) (c_g_Unp_isAllowed (l := l) (E := E) (d := d + 2) (cb := 4) (sd := sd) (ln := ln) (pp := pp) hc) (fun v S hq => ?_)
    obtain ⟨rfl, rfl⟩ := hq
    clear hc
    refine hr.2.1 _ (¬ q2 = 0) _ _ rfl (fun c35 => ?_) (fun c35 => ?_)
    · replace h := zk_t h c35
      refine hr.1 9 True _ _ (72, [some (.ref 9)], [.int (zg_i q1.2 4 (zn (zg_i q1.2 12 3)))], [4, sd, ln, pp], zp_i (zp_i q1.2 9 15 (zg_i q1.2 4 (zn (zg_i q1.2 12 3)))) 12 3 ((zg_i q1.2 12 3) + 1)) rfl trivial ?_
      refine hr.2.1 _ (¬ zg_i q1.2 4 (zn (zg_i q1.2 12 3)) = 0) _ _ rfl (fun c72 => ?_) (fun c72 => ?_)
      · replace h := zk_t h c72
        refine hr.1 4 True _ _ (82, [some (.ref 9)], [.ref 9], [4, sd, ln, pp], zp_i (zp_i (zp_i q1.2 9 15 (zg_i q1.2 4 (zn (zg_i q1.2 12 3)))) 12 3 ((zg_i q1.2 12 3) + 1)) 9 13 0) rfl ⟨trivial, (Or.inl rfl)⟩ ?_
        obtain ⟨q3, hc, h⟩ := zk_bind h
        refine hr.2.2.1 _ _ _ _ _ (d + 3) rfl (by omega) (c_g_Unp_empties (l := l) (E := E) (d := d + 3) (cb := 4) (sd := sd) (ln := ln) (pp := pp) hc) (fun v S hq => ?_)
        obtain ⟨rfl, rfl⟩ := hq
        clear hc
        obtain ⟨q4, hj, h⟩ := zk_bind h
        have J104 : ∀ (_ : True), Zp (104, [some (.ref 9)], [], [4, sd, ln, pp], q4) := by
          intro _
          refine hr.1 3 True _ _ (109, [some (.ref 9)], [.ref 12, .ref 9], [4, sd, ln, pp], q4) rfl trivial ?_
          obtain ⟨q5, hc, h⟩ := zk_bind h
          refine hr.2.2.1 _ _ _ _ _ (d + 3) rfl (by omega) (c_g_Cur_readTwo (l := l) (E := E) (d := d + 1) (sd := sd) (ln := ln) (pp := pp) hc) (fun v S hq => ?_)
          obtain ⟨rfl, rfl⟩ := hq
          clear hc
          refine hr.1 6 True _ _ (124, [some (.ref 9)], [.int 128, .int (zg_i q5.2 9 15)], [4, sd, ln, pp], zp_i q5.2 9 16 (q5.1 + 1)) rfl trivial ?_
          refine hr.2.1 _ (zg_i q5.2 9 15 < 128) _ _ rfl (fun c124 => ?_) (fun c124 => ?_)
          · replace h := zk_t h c124
            exact hr.2.2.2 _ _ _ rfl trivial ⟨rfl, (congrArg (fun x => (([4, sd, ln, pp], x) : zx_S)) (Option.some.inj h))⟩
          · replace h := zk_f h c124
            refine hr.1 14 True _ _ (151, [some (.ref 9)], [.ref 12, .ref 9], [4, sd, ln, pp], zp_i (zp_i q5.2 9 16 (q5.1 + 1)) 9 16 ((q5.1 + 1) + (zo_shl ((zg_i q5.2 9 15) &&& 31) 16))) rfl trivial ?_
            obtain ⟨q6, hc, h⟩ := zk_bind h
            refine hr.2.2.1 _ _ _ _ _ (d + 3) rfl (by omega) (c_g_Cur_readTwo (l := l) (E := E) (d := d + 1) (sd := sd) (ln := ln) (pp := pp) hc) (fun v S hq => ?_)
            obtain ⟨rfl, rfl⟩ := hq
            clear hc
            refine hr.1 4 True _ _ (160, [some (.ref 9)], [.ref 9], [4, sd, ln, pp], zp_i q6.2 9 17 (q6.1 + 1)) rfl trivial ?_
            obtain ⟨q7, hc, h⟩ := zk_bind h
            refine hr.2.2.1 _ _ _ _ _ (d + 3) rfl (by omega) (c_g_Unp_readProperties (l := l) (E := E) (d := d) (sd := sd) (ln := ln) (pp := pp) hc) (fun v S hq => ?_)
            obtain ⟨rfl, rfl⟩ := hq
            clear hc
            exact hr.2.2.2 _ _ _ rfl trivial ⟨rfl, (congrArg (fun x => (([4, sd, ln, pp], x) : zx_S)) (Option.some.inj h))⟩
        clear h
        have h := hj
        clear hj
        refine hr.2.1 _ (q3 = 0) _ _ rfl (fun c85 => ?_) (fun c85 => ?_)
        · replace h := zk_t h c85
          replace h := Option.some.inj h
          subst h
          exact J104 trivial
        · replace h := zk_f h c85
          refine hr.1 8 True _ _ (104, [some (.ref 9)], [], [4, sd, ln, pp], zp_i (zp_i (zp_i (zp_i (zp_i q1.2 9 15 (zg_i q1.2 4 (zn (zg_i q1.2 12 3)))) 12 3 ((zg_i q1.2 12 3) + 1)) 9 13 0) 9 12 (zg_i q1.2 10 1)) 9 14 1) rfl ⟨trivial, (Or.inr rfl)⟩ ?_
          replace h := Option.some.inj h
          subst h
          exact J104 trivial
      · replace h := zk_f h c72
        exact hr.2.2.2 _ _ _ rfl trivial ⟨rfl, (congrArg (fun x => (([4, sd, ln, pp], x) : zx_S)) (Option.some.inj h))⟩
    · replace h := zk_f h c35
      refine hr.1 6 True _ _ (51, [some (.ref 9)], [.int (zg_i q1.2 12 3), .int (-3), .ref 12], [4, sd, ln, pp], zp_i q1.2 9 15 (zg_i q1.2 4 (zn (zg_i q1.2 12 3)))) rfl trivial ?_
      obtain ⟨q8, hc, h⟩ := zk_bind h
      refine hr.2.2.1 _ _ _ _ _ (d + 3) rfl (by omega) (c_g_Cur_fail (l := l) (E := E) (d := d + 3) (cb := 4) (sd := sd) (ln := ln) (pp := pp) hc) (fun v S hq => ?_)
      obtain ⟨rfl, rfl⟩ := hq
      clear hc
      exact hr.2.2.2 _ _ _ rfl trivial ⟨rfl, (congrArg (fun x => (([4, sd, ln, pp], x) : zx_S)) (Option.some.inj h))⟩
  · replace h := zk_f h c8
    exact hr.2.2.2 _ _ _ rfl trivial ⟨rfl, (congrArg (fun x => (([4, sd, ln, pp], x) : zx_S)) (Option.some.inj h))⟩
