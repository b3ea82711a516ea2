/-! Contracts (written by a program) -/
set_option maxRecDepth 100000 in
set_option maxHeartbeats 4000000 in
theorem c_g_Cur_expectNumber {l : Launch} {E : zx_E} {d : Nat} {sd ln pp : Nat} {x1 : Int64} {D : zx_D} {q : zx_D} (h : g_Cur_expectNumber x1 D = some q) : zx_MC l E 42 (d + 3) [.ref 12, .long x1] ([4, sd, ln, pp], D) (fun v S => v = none ∧ S = ([4, sd, ln, pp], q)) := by
  refine zx_ofC (K := ck_Cur_expectNumber) rfl (by decide +kernel) rfl ok_Cur_expectNumber (Nat.le_of_ble_eq_true rfl) (fun Zp hr => ?_)
  show Zp (0, [some (.ref 12), some (.long x1), none, none], [], [4, sd, ln, pp], D)
  rw [g_Cur_expectNumber] at h
  refine hr.1 4 True _ _ (6, [some (.ref 12), some (.long x1), none, some (.int (zg_i D 12 3))], [.ref 12], [4, sd, ln, pp], D) rfl trivial ?_
  obtain ⟨q1, hc, h⟩ := zk_bind h
  refine hr.2.2.1 _ _ _ _ _ (d + 2) rfl (by omega) (c_g_Cur_readNumber (l := l) (E := E) (d := d) (sd := sd) (ln := ln) (pp := pp) hc) (fun v S hq => ?_)
  obtain ⟨rfl, rfl⟩ := hq
  clear hc
  refine hr.1 1 True _ _ (10, [some (.ref 12), some (.long x1), none, some (.int (zg_i D 12 3))], [.long x1, .long q1.1], [4, sd, ln, pp], q1.2) rfl trivial ?_
  refine hr.2.1 _ (q1.1 = x1) _ _ rfl (fun c10 => ?_) (fun c10 => ?_)
  · replace h := zk_t h c10
    exact hr.2.2.2 _ _ _ rfl trivial ⟨rfl, (congrArg (fun x => (([4, sd, ln, pp], x) : zx_S)) (Option.some.inj h))⟩
  · replace h := zk_f h c10
    refine hr.1 3 True _ _ (18, [some (.ref 12), some (.long x1), none, some (.int (zg_i D 12 3))], [.int (zg_i D 12 3), .int (-3), .ref 12], [4, sd, ln, pp], q1.2) rfl trivial ?_
    obtain ⟨q2, hc, h⟩ := zk_bind h
    refine hr.2.2.1 _ _ _ _ _ (d + 2) rfl (by omega) (c_g_Cur_fail (l := l) (E := E) (d := d + 2) (cb := 4) (sd := sd) (ln := ln) (pp := pp) hc) (fun v S hq => ?_)
    obtain ⟨rfl, rfl⟩ := hq
    clear hc
    exact hr.2.2.2 _ _ _ rfl trivial ⟨rfl, (congrArg (fun x => (([4, sd, ln, pp], x) : zx_S)) (Option.some.inj h))⟩
set_option maxRecDepth 100000 in
set_option maxHeartbeats 4000000 in
theorem c_g_Unp_readIndex {l : Launch} {E : zx_E} {d : Nat} {sd ln pp : Nat} {D : zx_D} {q : zx_D} (h : g_Unp_readIndex D = some q) : zx_MC l E 84 (d + 5) [.ref 9] ([4, sd, ln, pp], D) (fun v S => v = none ∧ S = ([4, sd, ln, pp], q)) := by
  refine zx_ofC (K := ck_Unp_readIndex) rfl (by decide +kernel) rfl ok_Unp_readIndex (Nat.le_of_ble_eq_true rfl) (fun Zp hr => ?_)
  show Zp (0, [some (.ref 9), none, none], [], [4, sd, ln, pp], D)
  have loop44 : ∀ (x1 : Int32) (k : Nat) (x2 : Int32) (D : zx_D) (q : zx_D), g_Unp_readIndex_44 x1 k x2 D = some q → (∀ (e2 : Int32), Zp (97, [some (.ref 9), some (.int x1), some (.int e2)], [], [4, sd, ln, pp], q)) → Zp (44, [some (.ref 9), some (.int x1), some (.int x2)], [], [4, sd, ln, pp], D) := by
    intro x1 k
    induction k with
    | zero => intro x2 D q h hx; exact (zk_no h).elim
    | succ k ih =>
      intro x2 D q h hx
      rw [g_Unp_readIndex_44] at h
      refine hr.1 5 True _ _ (52, [some (.ref 9), some (.int x1), some (.int x2)], [.int (zg_i D 14 (zn 10)), .int x2], [4, sd, ln, pp], D) rfl ⟨trivial, (zk_vp rfl)⟩ ?_
      refine hr.2.1 _ (zg_i D 14 (zn 10) ≤ x2) _ _ rfl (fun c52 => ?_) (fun c52 => ?_)
      · replace h := zk_t h c52
        replace h := Option.some.inj h
        subst h
        exact hx x2
      · replace h := zk_f h c52
        refine hr.1 2 True _ _ (59, [some (.ref 9), some (.int x1), some (.int x2)], [.ref 12], [4, sd, ln, pp], D) rfl trivial ?_
        obtain ⟨q4, hc, h⟩ := zk_bind h
        refine hr.2.2.1 _ _ _ _ _ (d + 4) rfl (by omega) (c_g_Cur_isSound (l := l) (E := E) (d := d + 4) (cb := 4) (sd := sd) (ln := ln) (pp := pp) hc) (fun v S hq => ?_)
        obtain ⟨rfl, rfl⟩ := hq
        clear hc
        refine hr.2.1 _ (q4 = 0) _ _ rfl (fun c62 => ?_) (fun c62 => ?_)
        · replace h := zk_t h c62
          replace h := Option.some.inj h
          subst h
          exact hx x2
        · replace h := zk_f h c62
          obtain ⟨w3, h⟩ := zk_ck h
          refine hr.1 6 True _ _ (75, [some (.ref 9), some (.int x1), some (.int x2)], [.long (zg_l D 15 (zn x2)), .ref 12], [4, sd, ln, pp], D) rfl ⟨trivial, (zk_vp w3)⟩ ?_
          obtain ⟨q5, hc, h⟩ := zk_bind h
          refine hr.2.2.1 _ _ _ _ _ (d + 4) rfl (by omega) (c_g_Cur_expectNumber (l := l) (E := E) (d := d + 1) (sd := sd) (ln := ln) (pp := pp) hc) (fun v S hq => ?_)
          obtain ⟨rfl, rfl⟩ := hq
          clear hc
          obtain ⟨w4, h⟩ := zk_ck h
          refine hr.1 6 True _ _ (88, [some (.ref 9), some (.int x1), some (.int x2)], [.long (zg_l q5 16 (zn x2)), .ref 12], [4, sd, ln, pp], q5) rfl ⟨trivial, (zk_vp w4)⟩ ?_
          obtain ⟨q6, hc, h⟩ := zk_bind h
          refine hr.2.2.1 _ _ _ _ _ (d + 4) rfl (by omega) (c_g_Cur_expectNumber (l := l) (E := E) (d := d + 1) (sd := sd) (ln := ln) (pp := pp) hc) (fun v S hq => ?_)
          obtain ⟨rfl, rfl⟩ := hq
          clear hc
          refine hr.1 2 True _ _ (44, [some (.ref 9), some (.int x1), some (.int (x2 + 1))], [], [4, sd, ln, pp], q6) rfl trivial ?_
          exact ih (x2 + 1) q6 _ h hx
  rw [g_Unp_readIndex] at h
  refine hr.1 2 True _ _ (4, [some (.ref 9), none, none], [.ref 12], [4, sd, ln, pp], D) rfl trivial ?_
  obtain ⟨q1, hc, h⟩ := zk_bind h
  refine hr.2.2.1 _ _ _ _ _ (d + 4) rfl (by omega) (c_g_Cur_isSound (l := l) (E := E) (d := d + 4) (cb := 4) (sd := sd) (ln := ln) (pp := pp) hc) (fun v S hq => ?_)
  obtain ⟨rfl, rfl⟩ := hq
  clear hc
  refine hr.2.1 _ (¬ q1 = 0) _ _ rfl (fun c7 => ?_) (fun c7 => ?_)
  · replace h := zk_t h c7
    refine hr.1 7 True _ _ (24, [some (.ref 9), some (.int (zg_i D 12 3)), none], [.int 0, .ref 12], [4, sd, ln, pp], D) rfl trivial ?_
    obtain ⟨q2, hc, h⟩ := zk_bind h
    refine hr.2.2.1 _ _ _ _ _ (d + 4) rfl (by omega) (c_g_Cur_expectByte (l := l) (E := E) (d := d + 1) (sd := sd) (ln := ln) (pp := pp) hc) (fun v S hq => ?_)
    obtain ⟨rfl, rfl⟩ := hq
    clear hc
    refine hr.1 7 True _ _ (39, [some (.ref 9), some (.int (zg_i D 12 3)), none], [.long (((zg_i q2 14 (zn 10))).toInt64), .ref 12], [4, sd, ln, pp], q2) rfl ⟨trivial, (zk_vp rfl)⟩ ?_
    obtain ⟨q3, hc, h⟩ := zk_bind h
    refine hr.2.2.1 _ _ _ _ _ (d + 4) rfl (by omega) (c_g_Cur_expectNumber (l := l) (E := E) (d := d + 1) (sd := sd) (ln := ln) (pp := pp) hc) (fun v S hq => ?_)
    obtain ⟨rfl, rfl⟩ := hq
    clear hc
    refine hr.1 2 True _ _ (44, [some (.ref 9), some (.int (zg_i D 12 3)), some (.int 0)], [], [4, sd, ln, pp], q3) rfl trivial ?_
    obtain ⟨q7, hc, h⟩ := zk_bind h
    refine loop44 (zg_i D 12 3) 10000 0 q3 q7 hc (fun e2 => ?_)
    clear hc
    refine hr.1 3 True _ _ (102, [some (.ref 9), some (.int (zg_i D 12 3)), some (.int e2)], [.int (zg_i D 12 3), .ref 12], [4, sd, ln, pp], q7) rfl trivial ?_
    obtain ⟨q8, hc, h⟩ := zk_bind h
    refine hr.2.2.1 _ _ _ _ _ (d + 4) rfl (by omega) (c_g_Cur_expectFilling (l := l) (E := E) (d := d) (sd := sd) (ln := ln) (pp := pp) hc) (fun v S hq => ?_)
    obtain ⟨rfl, rfl⟩ := hq
    clear hc
    refine hr.1 10 True _ _ (125, [some (.ref 9), some (.int (zg_i D 12 3)), some (.int e2)], [.int (zg_i q8 12 3), .int (zg_i D 12 3), .ref 4, .int 4, .ref 12], [4, sd, ln, pp], q8) rfl trivial ?_
    obtain ⟨q9, hc, h⟩ := zk_bind h
    refine hr.2.2.1 _ _ _ _ _ (d + 4) rfl (by omega) (c_g_P_sumFour_4 (l := l) (E := E) (d := d + 3) (cb := 4) (sd := sd) (ln := ln) (pp := pp) hc) (fun v S hq => ?_)
    obtain ⟨rfl, rfl⟩ := hq
    clear hc
    obtain ⟨q10, hc, h⟩ := zk_bind h
    refine hr.2.2.1 _ _ _ _ _ (d + 4) rfl (by omega) (c_g_Cur_expectSum (l := l) (E := E) (d := d + 2) (sd := sd) (ln := ln) (pp := pp) hc) (fun v S hq => ?_)
    obtain ⟨rfl, rfl⟩ := hq
    clear hc
    refine hr.1 7 True _ _ (144, [some (.ref 9), some (.int (zg_i D 12 3)), some (.int e2)], [], [4, sd, ln, pp], zp_i q10 9 18 ((zg_i q10 12 3) - (zg_i D 12 3))) rfl trivial ?_
    exact hr.2.2.2 _ _ _ rfl trivial ⟨rfl, (congrArg (fun x => (([4, sd, ln, pp], x) : zx_S)) (Option.some.inj h))⟩
  · replace h := zk_f h c7
    exact hr.2.2.2 _ _ _ rfl trivial ⟨rfl, (congrArg (fun x => (([4, sd, ln, pp], x) : zx_S)) (Option.some.inj h))⟩
set_option maxRecDepth 100000 in
set_option maxHeartbeats 4000000 in
theorem c_g_Unp_readEnd {l : Launch} {E : zx_E} {d : Nat} {sd ln pp : Nat} {D : zx_D} {q : zx_D} (h : g_Unp_readEnd D = some q) : zx_MC l E 85 (d + 2) [.ref 9] ([4, sd, ln, pp], D) (fun v S => v = none ∧ S = ([4, sd, ln, pp], q)) := by
  refine zx_ofC (K := ck_Unp_readEnd) rfl (by decide +kernel) rfl ok_Unp_readEnd (Nat.le_of_ble_eq_true rfl) (fun Zp hr => ?_)
  show Zp (0, [some (.ref 9), none, none], [], [4, sd, ln, pp], D)
  rw [g_Unp_readEnd] at h
  refine hr.1 3 True _ _ (6, [some (.ref 9), none, none], [.int 12, .ref 12], [4, sd, ln, pp], D) rfl trivial ?_
  obtain ⟨q1, hc, h⟩ := zk_bind h
  refine hr.2.2.1 _ _ _ _ _ (d + 1) rfl (by omega) (c_g_Cur_has (l := l) (E := E) (d := d) (cb := 4) (sd := sd) (ln := ln) (pp := pp) hc) (fun v S hq => ?_)
  obtain ⟨rfl, rfl⟩ := hq
  clear hc
  refine hr.2.1 _ (¬ q1.1 = 0) _ _ rfl (fun c9 => ?_) (fun c9 => ?_)
  · replace h := zk_t h c9
    refine hr.1 8 True _ _ (27, [some (.ref 9), some (.int (zg_i q1.2 12 3)), none], [.int 4, .int (zg_i q1.2 12 3), .ref 12], [4, sd, ln, pp], q1.2) rfl trivial ?_
    obtain ⟨q2, hc, h⟩ := zk_bind h
    refine hr.2.2.1 _ _ _ _ _ (d + 1) rfl (by omega) (c_g_Cur_lowFirst (l := l) (E := E) (d := d + 1) (sd := sd) (ln := ln) (pp := pp) hc) (fun v S hq => ?_)
    obtain ⟨rfl, rfl⟩ := hq
    clear hc
    refine hr.1 9 True _ _ (44, [some (.ref 9), some (.int (zg_i q1.2 12 3)), none], [.int ((zg_i q1.2 12 3) + 10), .int ((zg_i q1.2 12 3) + 4), .ref 4, .long q2], [4, sd, ln, pp], q1.2) rfl trivial ?_
    obtain ⟨q3, hc, h⟩ := zk_bind h
    refine hr.2.2.1 _ _ _ _ _ (d + 1) rfl (by omega) (c_g_P_sumFour_4 (l := l) (E := E) (d := d) (cb := 4) (sd := sd) (ln := ln) (pp := pp) hc) (fun v S hq => ?_)
    obtain ⟨rfl, rfl⟩ := hq
    clear hc
    refine hr.2.1 _ (q2 = q3) _ _ rfl (fun c47 => ?_) (fun c47 => ?_)
    · replace h := zk_t h c47
      refine hr.1 6 True _ _ (70, [some (.ref 9), some (.int (zg_i q1.2 12 3)), none], [.int 4, .int ((zg_i q1.2 12 3) + 4), .ref 12], [4, sd, ln, pp], q1.2) rfl trivial ?_
      obtain ⟨q4, hc, h⟩ := zk_bind h
      refine hr.2.2.1 _ _ _ _ _ (d + 1) rfl (by omega) (c_g_Cur_lowFirst (l := l) (E := E) (d := d + 1) (sd := sd) (ln := ln) (pp := pp) hc) (fun v S hq => ?_)
      obtain ⟨rfl, rfl⟩ := hq
      clear hc
      refine hr.1 7 True _ _ (82, [some (.ref 9), some (.int (zg_i q1.2 12 3)), none], [.long (((((zg_i q1.2 9 18) / 4) - 1)).toInt64), .long q4], [4, sd, ln, pp], q1.2) rfl trivial ?_
      obtain ⟨q5, hj, h⟩ := zk_bind h
      have J125 : ∀ (_ : True), Zp (125, [some (.ref 9), some (.int (zg_i q1.2 12 3)), none], [.int q5], [4, sd, ln, pp], q1.2) := by
        intro _
        refine hr.1 2 True _ _ (127, [some (.ref 9), some (.int (zg_i q1.2 12 3)), some (.int q5)], [.int q5], [4, sd, ln, pp], q1.2) rfl trivial ?_
        refine hr.2.1 _ (q5 = 0) _ _ rfl (fun c127 => ?_) (fun c127 => ?_)
        · replace h := zk_t h c127
          refine hr.1 4 True _ _ (171, [some (.ref 9), some (.int (zg_i q1.2 12 3)), some (.int q5)], [.int (zg_i q1.2 12 3), .int (-3), .ref 12], [4, sd, ln, pp], q1.2) rfl trivial ?_
          obtain ⟨q6, hc, h⟩ := zk_bind h
          refine hr.2.2.1 _ _ _ _ _ (d + 1) rfl (by omega) (c_g_Cur_fail (l := l) (E := E) (d := d + 1) (cb := 4) (sd := sd) (ln := ln) (pp := pp) hc) (fun v S hq => ?_)
          obtain ⟨rfl, rfl⟩ := hq
          clear hc
          exact hr.2.2.2 _ _ _ rfl trivial ⟨rfl, (congrArg (fun x => (([4, sd, ln, pp], x) : zx_S)) (Option.some.inj h))⟩
        · replace h := zk_f h c127
          obtain ⟨w5, h⟩ := zk_ck h
          refine hr.1 8 True _ _ (144, [some (.ref 9), some (.int (zg_i q1.2 12 3)), some (.int q5)], [.int 89, .int (zg_i q1.2 4 (zn ((zg_i q1.2 12 3) + 10)))], [4, sd, ln, pp], q1.2) rfl ⟨trivial, (zk_vp w5)⟩ ?_
          refine hr.2.1 _ (¬ zg_i q1.2 4 (zn ((zg_i q1.2 12 3) + 10)) = 89) _ _ rfl (fun c144 => ?_) (fun c144 => ?_)
          · replace h := zk_t h c144
            refine hr.1 4 True _ _ (171, [some (.ref 9), some (.int (zg_i q1.2 12 3)), some (.int q5)], [.int (zg_i q1.2 12 3), .int (-3), .ref 12], [4, sd, ln, pp], q1.2) rfl trivial ?_
            obtain ⟨q7, hc, h⟩ := zk_bind h
            refine hr.2.2.1 _ _ _ _ _ (d + 1) rfl (by omega) (c_g_Cur_fail (l := l) (E := E) (d := d + 1) (cb := 4) (sd := sd) (ln := ln) (pp := pp) hc) (fun v S hq => ?_)
            obtain ⟨rfl, rfl⟩ := hq
            clear hc
            exact hr.2.2.2 _ _ _ rfl trivial ⟨rfl, (congrArg (fun x => (([4, sd, ln, pp], x) : zx_S)) (Option.some.inj h))⟩
          · replace h := zk_f h c144
            obtain ⟨w6, h⟩ := zk_ck h
            refine hr.1 8 True _ _ (161, [some (.ref 9), some (.int (zg_i q1.2 12 3)), some (.int q5)], [.int 90, .int (zg_i q1.2 4 (zn ((zg_i q1.2 12 3) + 11)))], [4, sd, ln, pp], q1.2) rfl ⟨trivial, (zk_vp w6)⟩ ?_
            refine hr.2.1 _ (zg_i q1.2 4 (zn ((zg_i q1.2 12 3) + 11)) = 90) _ _ rfl (fun c161 => ?_) (fun c161 => ?_)
            · replace h := zk_t h c161
              refine hr.1 13 True _ _ (203, [some (.ref 9), some (.int (zg_i q1.2 12 3)), some (.int q5)], [.int (zg_i q1.2 12 1), .int ((zg_i q1.2 12 3) + 12)], [4, sd, ln, pp], zp_i q1.2 12 3 ((zg_i q1.2 12 3) + 12)) rfl trivial ?_
              refine hr.2.1 _ (zg_i q1.2 12 1 ≤ (zg_i q1.2 12 3) + 12) _ _ rfl (fun c203 => ?_) (fun c203 => ?_)
              · replace h := zk_t h c203
                exact hr.2.2.2 _ _ _ rfl trivial ⟨rfl, (congrArg (fun x => (([4, sd, ln, pp], x) : zx_S)) (Option.some.inj h))⟩
              · replace h := zk_f h c203
                refine hr.1 6 True _ _ (219, [some (.ref 9), some (.int (zg_i q1.2 12 3)), some (.int q5)], [.int ((zg_i q1.2 12 3) + 12), .int (-3), .ref 12], [4, sd, ln, pp], zp_i q1.2 12 3 ((zg_i q1.2 12 3) + 12)) rfl trivial ?_
                obtain ⟨q8, hc, h⟩ := zk_bind h
                refine hr.2.2.1 _ _ _ _ _ (d + 1) rfl (by omega) (c_g_Cur_fail (l := l) (E := E) (d := d + 1) (cb := 4) (sd := sd) (ln := ln) (pp := pp) hc) (fun v S hq => ?_)
                obtain ⟨rfl, rfl⟩ := hq
                clear hc
                exact hr.2.2.2 _ _ _ rfl trivial ⟨rfl, (congrArg (fun x => (([4, sd, ln, pp], x) : zx_S)) (Option.some.inj h))⟩
            · replace h := zk_f h c161
              refine hr.1 4 True _ _ (171, [some (.ref 9), some (.int (zg_i q1.2 12 3)), some (.int q5)], [.int (zg_i q1.2 12 3), .int (-3), .ref 12], [4, sd, ln, pp], q1.2) rfl trivial ?_
              obtain ⟨q9, hc, h⟩ := zk_bind h
              refine hr.2.2.1 _ _ _ _ _ (d + 1) rfl (by omega) (c_g_Cur_fail (l := l) (E := E) (d := d + 1) (cb := 4) (sd := sd) (ln := ln) (pp := pp) hc) (fun v S hq => ?_)
              obtain ⟨rfl, rfl⟩ := hq
              clear hc
              exact hr.2.2.2 _ _ _ rfl trivial ⟨rfl, (congrArg (fun x => (([4, sd, ln, pp], x) : zx_S)) (Option.some.inj h))⟩
      clear h
      have h := hj
      clear hj
      refine hr.2.1 _ (¬ q4 = ((((zg_i q1.2 9 18) / 4) - 1)).toInt64) _ _ rfl (fun c82 => ?_) (fun c82 => ?_)
      · replace h := zk_t h c82
        refine hr.1 1 True _ _ (125, [some (.ref 9), some (.int (zg_i q1.2 12 3)), none], [.int 0], [4, sd, ln, pp], q1.2) rfl trivial ?_
        replace h := Option.some.inj h
        subst h
        exact J125 trivial
      · replace h := zk_f h c82
        obtain ⟨w7, h⟩ := zk_ck h
        refine hr.1 7 True _ _ (98, [some (.ref 9), some (.int (zg_i q1.2 12 3)), none], [.int (zg_i q1.2 4 (zn ((zg_i q1.2 12 3) + 8)))], [4, sd, ln, pp], q1.2) rfl ⟨trivial, (zk_vp w7)⟩ ?_
        refine hr.2.1 _ (¬ zg_i q1.2 4 (zn ((zg_i q1.2 12 3) + 8)) = 0) _ _ rfl (fun c98 => ?_) (fun c98 => ?_)
        · replace h := zk_t h c98
          refine hr.1 1 True _ _ (125, [some (.ref 9), some (.int (zg_i q1.2 12 3)), none], [.int 0], [4, sd, ln, pp], q1.2) rfl trivial ?_
          replace h := Option.some.inj h
          subst h
          exact J125 trivial
        · replace h := zk_f h c98
          obtain ⟨w8, h⟩ := zk_ck h
          refine hr.1 9 True _ _ (117, [some (.ref 9), some (.int (zg_i q1.2 12 3)), none], [.int (zg_i q1.2 9 7), .int (zg_i q1.2 4 (zn ((zg_i q1.2 12 3) + 9)))], [4, sd, ln, pp], q1.2) rfl ⟨trivial, (zk_vp w8)⟩ ?_
          refine hr.2.1 _ (¬ zg_i q1.2 4 (zn ((zg_i q1.2 12 3) + 9)) = zg_i q1.2 9 7) _ _ rfl (fun c117 => ?_) (fun c117 => ?_)
          · replace h := zk_t h c117
            refine hr.1 1 True _ _ (125, [some (.ref 9), some (.int (zg_i q1.2 12 3)), none], [.int 0], [4, sd, ln, pp], q1.2) rfl trivial ?_
            replace h := Option.some.inj h
            subst h
            exact J125 trivial
          · replace h := zk_f h c117
            refine hr.1 2 True _ _ (125, [some (.ref 9), some (.int (zg_i q1.2 12 3)), none], [.int 1], [4, sd, ln, pp], q1.2) rfl trivial ?_
            replace h := Option.some.inj h
            subst h
            exact J125 trivial
    · replace h := zk_f h c47
      refine hr.1 4 True _ _ (58, [some (.ref 9), some (.int (zg_i q1.2 12 3)), none], [.int (zg_i q1.2 12 3), .int (-4), .ref 12], [4, sd, ln, pp], q1.2) rfl trivial ?_
      obtain ⟨q10, hc, h⟩ := zk_bind h
      refine hr.2.2.1 _ _ _ _ _ (d + 1) rfl (by omega) (c_g_Cur_fail (l := l) (E := E) (d := d + 1) (cb := 4) (sd := sd) (ln := ln) (pp := pp) hc) (fun v S hq => ?_)
      obtain ⟨rfl, rfl⟩ := hq
      clear hc
      exact hr.2.2.2 _ _ _ rfl trivial ⟨rfl, (congrArg (fun x => (([4, sd, ln, pp], x) : zx_S)) (Option.some.inj h))⟩
  · replace h := zk_f h c9
    exact hr.2.2.2 _ _ _ rfl trivial ⟨rfl, (congrArg (fun x => (([4, sd, ln, pp], x) : zx_S)) (Option.some.inj h))⟩
set_option maxRecDepth 100000 in
set_option maxHeartbeats 4000000 in
theorem c_g_Row_become_1_10 {l : Launch} {E : zx_E} {d : Nat} {cb sd ln pp : Nat} {D : zx_D} {q : zx_D} (h : g_Row_become_1_10 D = some q) : zx_MC l E 28 d [.ref 1, .ref 10] ([cb, sd, ln, pp], D) (fun v S => v = none ∧ S = ([cb, sd, ln, pp], q)) := by
  refine zx_ofC (K := ck_Row_become) rfl (by decide +kernel) rfl ok_Row_become (Nat.le_of_ble_eq_true rfl) (fun Zp hr => ?_)
  show Zp (0, [some (.ref 1), some (.ref 10)], [], [cb, sd, ln, pp], D)
  rw [g_Row_become_1_10] at h
  obtain ⟨w2, h⟩ := zk_ck h
  refine hr.1 17 True _ _ (33, [some (.ref 1), some (.ref 10)], [], [cb, sd, ln, pp], zp_a (zp_i D 1 1 (if 400 < zg_i D 10 1 then 400 else zg_i D 10 1)) 2 (va_cpy (((zp_i D 1 1 (if 400 < zg_i D 10 1 then 400 else zg_i D 10 1))).1 11) (((zp_i D 1 1 (if 400 < zg_i D 10 1 then 400 else zg_i D 10 1))).1 2) (zn 0) (zn 0) (zn (if 400 < zg_i D 10 1 then 400 else zg_i D 10 1)))) rfl ⟨trivial, w2⟩ ?_
  exact hr.2.2.2 _ _ _ rfl trivial ⟨rfl, (congrArg (fun x => (([cb, sd, ln, pp], x) : zx_S)) (Option.some.inj h))⟩
set_option maxRecDepth 100000 in
set_option maxHeartbeats 4000000 in
theorem c_g_P_unpack {l : Launch} {E : zx_E} {d : Nat} {cb sd ln pp : Nat} {D : zx_D} {q : Int32 × Nat × Nat × zx_D} (h : g_P_unpack sd ln D = some q) : zx_MC l E 6 (d + 7) [.ref 0] ([cb, sd, ln, pp], D) (fun v S => v = some (.int q.1) ∧ S = ([4, q.2.1, q.2.2.1, pp], q.2.2.2)) := by
  refine zx_ofC (K := ck_P_unpack) rfl (by decide +kernel) rfl ok_P_unpack (Nat.le_of_ble_eq_true rfl) (fun Zp hr => ?_)
  show Zp (0, [some (.ref 0), none], [], [cb, sd, ln, pp], D)
  have loop20 : ∀ (k : Nat) (x1 : Int32) (r1 : Nat) (r2 : Nat) (D : zx_D) (q : Nat × Nat × zx_D), g_P_unpack_20 k x1 r1 r2 D = some q → (∀ (e1 : Int32), Zp (50, [some (.ref 0), some (.int e1)], [], [4, q.1, q.2.1, pp], q.2.2)) → Zp (20, [some (.ref 0), some (.int x1)], [], [4, r1, r2, pp], D) := by
    intro k
    induction k with
    | zero => intro x1 r1 r2 D q h hx; exact (zk_no h).elim
    | succ k ih =>
      intro x1 r1 r2 D q h hx
      rw [g_P_unpack_20] at h
      refine hr.1 2 True _ _ (24, [some (.ref 0), some (.int x1)], [.int 640, .int x1], [4, r1, r2, pp], D) rfl trivial ?_
      refine hr.2.1 _ (640 ≤ x1) _ _ rfl (fun c24 => ?_) (fun c24 => ?_)
      · replace h := zk_t h c24
        replace h := Option.some.inj h
        subst h
        exact hx x1
      · replace h := zk_f h c24
        refine hr.1 2 True _ _ (31, [some (.ref 0), some (.int x1)], [.ref 9], [4, r1, r2, pp], D) rfl trivial ?_
        obtain ⟨q3, hc, h⟩ := zk_bind h
        refine hr.2.2.1 _ _ _ _ _ (d + 6) rfl (by omega) (c_g_Unp_comesBlock (l := l) (E := E) (d := d + 4) (sd := r1) (ln := r2) (pp := pp) hc) (fun v S hq => ?_)
        obtain ⟨rfl, rfl⟩ := hq
        clear hc
        refine hr.2.1 _ (q3.1 = 0) _ _ rfl (fun c34 => ?_) (fun c34 => ?_)
        · replace h := zk_t h c34
          replace h := Option.some.inj h
          subst h
          exact hx x1
        · replace h := zk_f h c34
          refine hr.1 2 True _ _ (41, [some (.ref 0), some (.int x1)], [.ref 9], [4, r1, r2, pp], q3.2) rfl trivial ?_
          obtain ⟨q4, hc, h⟩ := zk_bind h
          refine hr.2.2.1 _ _ _ _ _ (d + 6) rfl (by omega) (c_g_Unp_readBlock (l := l) (E := E) (d := d) (sd := r1) (ln := r2) (pp := pp) hc) (fun v S hq => ?_)
          obtain ⟨rfl, rfl⟩ := hq
          clear hc
          refine hr.1 2 True _ _ (20, [some (.ref 0), some (.int (x1 + 1))], [], [4, q4.1, q4.2.1, pp], q4.2.2) rfl trivial ?_
          exact ih (x1 + 1) q4.1 q4.2.1 q4.2.2 _ h hx
  rw [g_P_unpack] at h
  refine hr.1 4 True _ _ (8, [some (.ref 0), none], [.ref 3, .ref 9], [cb, sd, ln, pp], D) rfl trivial ?_
  obtain ⟨q1, hc, h⟩ := zk_bind h
  refine hr.2.2.1 _ _ _ _ _ (d + 6) rfl (by omega) (c_g_Unp_begin_3 (l := l) (E := E) (d := d + 5) (cb := cb) (sd := sd) (ln := ln) (pp := pp) hc) (fun v S hq => ?_)
  obtain ⟨rfl, rfl⟩ := hq
  clear hc
  refine hr.1 2 True _ _ (15, [some (.ref 0), none], [.ref 9], [4, sd, ln, pp], q1) rfl trivial ?_
  obtain ⟨q2, hc, h⟩ := zk_bind h
  refine hr.2.2.1 _ _ _ _ _ (d + 6) rfl (by omega) (c_g_Unp_readStart (l := l) (E := E) (d := d + 3) (sd := sd) (ln := ln) (pp := pp) hc) (fun v S hq => ?_)
  obtain ⟨rfl, rfl⟩ := hq
  clear hc
  refine hr.1 2 True _ _ (20, [some (.ref 0), some (.int 0)], [], [4, sd, ln, pp], q2) rfl trivial ?_
  obtain ⟨q5, hc, h⟩ := zk_bind h
  refine loop20 10000 0 sd ln q2 q5 hc (fun e1 => ?_)
  clear hc
  refine hr.1 2 True _ _ (54, [some (.ref 0), some (.int e1)], [.ref 9], [4, q5.1, q5.2.1, pp], q5.2.2) rfl trivial ?_
  obtain ⟨q6, hc, h⟩ := zk_bind h
  refine hr.2.2.1 _ _ _ _ _ (d + 6) rfl (by omega) (c_g_Unp_readIndex (l := l) (E := E) (d := d + 1) (sd := q5.1) (ln := q5.2.1) (pp := pp) hc) (fun v S hq => ?_)
  obtain ⟨rfl, rfl⟩ := hq
  clear hc
  refine hr.1 2 True _ _ (61, [some (.ref 0), some (.int e1)], [.ref 9], [4, q5.1, q5.2.1, pp], q6) rfl trivial ?_
  obtain ⟨q7, hc, h⟩ := zk_bind h
  refine hr.2.2.1 _ _ _ _ _ (d + 6) rfl (by omega) (c_g_Unp_readEnd (l := l) (E := E) (d := d + 4) (sd := q5.1) (ln := q5.2.1) (pp := pp) hc) (fun v S hq => ?_)
  obtain ⟨rfl, rfl⟩ := hq
  clear hc
  refine hr.1 3 True _ _ (71, [some (.ref 0), some (.int e1)], [.ref 12], [4, q5.1, q5.2.1, pp], q7) rfl trivial ?_
  obtain ⟨q8, hc, h⟩ := zk_bind h
  refine hr.2.2.1 _ _ _ _ _ (d + 6) rfl (by omega) (c_g_Cur_isSound (l := l) (E := E) (d := d + 6) (cb := 4) (sd := q5.1) (ln := q5.2.1) (pp := pp) hc) (fun v S hq => ?_)
  obtain ⟨rfl, rfl⟩ := hq
  clear hc
  refine hr.2.1 _ (¬ q8 = 0) _ _ rfl (fun c74 => ?_) (fun c74 => ?_)
  · replace h := zk_t h c74
    refine hr.1 5 True _ _ (99, [some (.ref 0), some (.int e1)], [.ref 10, .ref 1], [4, q5.1, q5.2.1, pp], q7) rfl trivial ?_
    obtain ⟨q9, hc, h⟩ := zk_bind h
    refine hr.2.2.1 _ _ _ _ _ (d + 6) rfl (by omega) (c_g_Row_become_1_10 (l := l) (E := E) (d := d + 6) (cb := 4) (sd := q5.1) (ln := q5.2.1) (pp := pp) hc) (fun v S hq => ?_)
    obtain ⟨rfl, rfl⟩ := hq
    clear hc
    refine hr.1 3 True _ _ (109, [some (.ref 0), some (.int e1)], [.int (zg_i q9 1 1)], [4, q5.1, q5.2.1, pp], q9) rfl trivial ?_
    exact hr.2.2.2 _ _ _ rfl trivial ⟨(congrArg (fun x => some (Value.int x.1)) (Option.some.inj h)), (congrArg (fun x => (([4, x.2.1, x.2.2.1, pp], x.2.2.2) : zx_S)) (Option.some.inj h))⟩
  · replace h := zk_f h c74
    refine hr.1 4 True _ _ (87, [some (.ref 0), some (.int e1)], [.int (zg_i q7 12 4)], [4, q5.1, q5.2.1, pp], q7) rfl trivial ?_
    exact hr.2.2.2 _ _ _ rfl trivial ⟨(congrArg (fun x => some (Value.int x.1)) (Option.some.inj h)), (congrArg (fun x => (([4, x.2.1, x.2.2.1, pp], x.2.2.2) : zx_S)) (Option.some.inj h))⟩
set_option maxRecDepth 100000 in
set_option maxHeartbeats 4000000 in
theorem c_g_R_feed_b0 {l : Launch} {E : zx_E} {d : Nat} {x1 : Int64} {x3 : Int32} {D : zx_D} {q : Int32 × zx_D} (h : g_R_feed_b0 x1 x3 D = some q) : zx_MR l E 102 d [.ref 0, .long x1, .int x3, .int 0] ([], D) (fun v S => v = some (.int q.1) ∧ S = ([], q.2)) := by
  refine zx_ofR (K := ck_R_feed) rfl (by decide +kernel) rfl ok_R_feed (Nat.le_of_ble_eq_true rfl) (fun Zp hr => ?_)
  show Zp (0, [some (.ref 0), some (.long x1), none, some (.int x3), some (.int 0), none, none, none], [], [], D)
  have loop57 : ∀ (x1 : Int64) (x3 : Int32) (x5 : Int32) (k : Nat) (x6 : Int32) (D : zx_D) (o7 : Option Value) (q : zx_D), g_R_feed_b0_57 x1 x3 x5 k x6 D = some q → (∀ (e6 : Int32) (o7 : Option Value), Zp (132, [some (.ref 0), some (.long x1), none, some (.int x3), some (.int 0), some (.int x5), some (.int e6), o7], [], [], q)) → Zp (57, [some (.ref 0), some (.long x1), none, some (.int x3), some (.int 0), some (.int x5), some (.int x6), o7], [], [], D) := by
    intro x1 x3 x5 k
    induction k with
    | zero => intro x6 D o7 q h hx; exact (zk_no h).elim
    | succ k ih =>
      intro x6 D o7 q h hx
      rw [g_R_feed_b0_57] at h
      refine hr.1 1 True _ _ (59, [some (.ref 0), some (.long x1), none, some (.int x3), some (.int 0), some (.int x5), some (.int x6), o7], [.int x6], [], D) rfl trivial ?_
      refine hr.2.1 _ (x6 < 0) _ _ rfl (fun c59 => ?_) (fun c59 => ?_)
      · replace h := zk_t h c59
        replace h := Option.some.inj h
        subst h
        exact hx x6 o7
      · replace h := zk_f h c59
        refine hr.1 10 True _ _ (78, [some (.ref 0), some (.long x1), none, some (.int x3), some (.int 0), some (.int x5), some (.int x6), some (.int ((((zo_lshr x1 (8 * x6)) &&& 255)).toInt32))], [.int 0], [], D) rfl trivial ?_
        refine hr.2.1 _ ((0 : Int32) = 0) _ _ rfl (fun _ => ?_) (fun h => absurd (by decide) h)
        obtain ⟨w2, h⟩ := zk_ck h
        refine hr.1 14 True _ _ (57, [some (.ref 0), some (.long x1), none, some (.int x3), some (.int 0), some (.int x5), some (.int (x6 + (-1))), some (.int ((((zo_lshr x1 (8 * x6)) &&& 255)).toInt32))], [], [], zp_i (zp_i D 1 (zn (zg_i D 0 1)) ((((zo_lshr x1 (8 * x6)) &&& 255)).toInt32)) 0 1 ((zg_i D 0 1) + 1)) rfl ⟨trivial, (zk_vp w2)⟩ ?_
        exact ih (x6 + (-1)) (zp_i (zp_i D 1 (zn (zg_i D 0 1)) ((((zo_lshr x1 (8 * x6)) &&& 255)).toInt32)) 0 1 ((zg_i D 0 1) + 1)) _ _ h hx
  have jump47 : ∀ (x1 : Int64) (x3 : Int32) (x5 : Int32) (s0 : Int32) (s1 : Int32) (D : zx_D), g_R_feed_b0_47 x1 x3 x5 s0 s1 D = some q → Zp (47, [some (.ref 0), some (.long x1), none, some (.int x3), some (.int 0), some (.int x5), none, none], [.int s0, .int s1], [], D) := by
    intro x1 x3 x5 s0 s1 D h
    rw [g_R_feed_b0_47] at h
    refine hr.2.1 _ (s1 ≤ s0) _ _ rfl (fun c47 => ?_) (fun c47 => ?_)
    · replace h := zk_t h c47
      refine hr.1 4 True _ _ (57, [some (.ref 0), some (.long x1), none, some (.int x3), some (.int 0), some (.int x5), some (.int (x3 - 1)), none], [], [], D) rfl trivial ?_
      obtain ⟨q1, hc, h⟩ := zk_bind h
      refine loop57 x1 x3 x5 10000 (x3 - 1) D none q1 hc (fun e6 o7 => ?_)
      clear hc
      refine hr.1 3 True _ _ (136, [some (.ref 0), some (.long x1), none, some (.int x3), some (.int 0), some (.int x5), some (.int e6), o7], [.int (x5 + x3)], [], q1) rfl trivial ?_
      exact hr.2.2.2 _ _ _ rfl trivial ⟨(congrArg (fun x => some (Value.int x.1)) (Option.some.inj h)), (congrArg (fun x => (([], x.2) : zx_S)) (Option.some.inj h))⟩
    · replace h := zk_f h c47
      refine hr.1 1 True _ _ (51, [some (.ref 0), some (.long x1), none, some (.int x3), some (.int 0), some (.int x5), none, none], [.int (-1)], [], D) rfl trivial ?_
      exact hr.2.2.2 _ _ _ rfl trivial ⟨(congrArg (fun x => some (Value.int x.1)) (Option.some.inj h)), (congrArg (fun x => (([], x.2) : zx_S)) (Option.some.inj h))⟩
  have jump16 : ∀ (x1 : Int64) (x3 : Int32) (s0 : Int32) (D : zx_D), g_R_feed_b0_16 x1 x3 s0 D = some q → Zp (16, [some (.ref 0), some (.long x1), none, some (.int x3), some (.int 0), none, none, none], [.int s0], [], D) := by
    intro x1 x3 s0 D h
    rw [g_R_feed_b0_16] at h
    refine hr.1 3 True _ _ (20, [some (.ref 0), some (.long x1), none, some (.int x3), some (.int 0), some (.int s0), none, none], [.int 1, .int x3], [], D) rfl trivial ?_
    refine hr.2.1 _ (x3 < 1) _ _ rfl (fun c20 => ?_) (fun c20 => ?_)
    · replace h := zk_t h c20
      refine hr.1 1 True _ _ (51, [some (.ref 0), some (.long x1), none, some (.int x3), some (.int 0), some (.int s0), none, none], [.int (-1)], [], D) rfl trivial ?_
      exact hr.2.2.2 _ _ _ rfl trivial ⟨(congrArg (fun x => some (Value.int x.1)) (Option.some.inj h)), (congrArg (fun x => (([], x.2) : zx_S)) (Option.some.inj h))⟩
    · replace h := zk_f h c20
      refine hr.1 2 True _ _ (26, [some (.ref 0), some (.long x1), none, some (.int x3), some (.int 0), some (.int s0), none, none], [.int 8, .int x3], [], D) rfl trivial ?_
      refine hr.2.1 _ (8 < x3) _ _ rfl (fun c26 => ?_) (fun c26 => ?_)
      · replace h := zk_t h c26
        refine hr.1 1 True _ _ (51, [some (.ref 0), some (.long x1), none, some (.int x3), some (.int 0), some (.int s0), none, none], [.int (-1)], [], D) rfl trivial ?_
        exact hr.2.2.2 _ _ _ rfl trivial ⟨(congrArg (fun x => some (Value.int x.1)) (Option.some.inj h)), (congrArg (fun x => (([], x.2) : zx_S)) (Option.some.inj h))⟩
      · replace h := zk_f h c26
        refine hr.1 4 True _ _ (35, [some (.ref 0), some (.long x1), none, some (.int x3), some (.int 0), some (.int s0), none, none], [.int 0, .int (s0 + x3)], [], D) rfl trivial ?_
        refine hr.2.1 _ ((0 : Int32) = 0) _ _ rfl (fun _ => ?_) (fun h => absurd (by decide) h)
        refine hr.1 1 True _ _ (47, [some (.ref 0), some (.long x1), none, some (.int x3), some (.int 0), some (.int s0), none, none], [.int 400, .int (s0 + x3)], [], D) rfl trivial ?_
        exact jump47 x1 x3 s0 400 (s0 + x3) D h
  rw [g_R_feed_b0] at h
  refine hr.1 1 True _ _ (2, [some (.ref 0), some (.long x1), none, some (.int x3), some (.int 0), none, none, none], [.int 0], [], D) rfl trivial ?_
  refine hr.2.1 _ ((0 : Int32) = 0) _ _ rfl (fun _ => ?_) (fun h => absurd (by decide) h)
  refine hr.1 2 True _ _ (16, [some (.ref 0), some (.long x1), none, some (.int x3), some (.int 0), none, none, none], [.int (zg_i D 0 1)], [], D) rfl trivial ?_
  exact jump16 x1 x3 (zg_i D 0 1) D h
set_option maxRecDepth 100000 in
set_option maxHeartbeats 4000000 in
theorem c_g_R_cut_b0 {l : Launch} {E : zx_E} {d : Nat} {x1 : Int32} {D : zx_D} {q : Int32 × zx_D} (h : g_R_cut_b0 x1 D = some q) : zx_MR l E 104 d [.ref 0, .int x1, .int 0] ([], D) (fun v S => v = some (.int q.1) ∧ S = ([], q.2)) := by
  refine zx_ofR (K := ck_R_cut) rfl (by decide +kernel) rfl ok_R_cut (Nat.le_of_ble_eq_true rfl) (fun Zp hr => ?_)
  show Zp (0, [some (.ref 0), some (.int x1), some (.int 0), none], [], [], D)
  have jump40 : ∀ (x1 : Int32) (x3 : Int32) (s0 : Int32) (D : zx_D), g_R_cut_b0_40 x1 x3 s0 D = some q → Zp (40, [some (.ref 0), some (.int x1), some (.int 0), some (.int x3)], [.int s0, .ref 0], [], D) := by
    intro x1 x3 s0 D h
    rw [g_R_cut_b0_40] at h
    refine hr.1 3 True _ _ (45, [some (.ref 0), some (.int x1), some (.int 0), some (.int x3)], [.int 0, .ref 0], [], zp_i D 0 3 s0) rfl trivial ?_
    refine hr.2.1 _ ((0 : Int32) = 0) _ _ rfl (fun _ => ?_) (fun h => absurd (by decide) h)
    refine hr.1 5 True _ _ (62, [some (.ref 0), some (.int x1), some (.int 0), some (.int x3)], [.int (x3 - x1)], [], zp_i (zp_i D 0 3 s0) 0 1 x1) rfl trivial ?_
    exact hr.2.2.2 _ _ _ rfl trivial ⟨(congrArg (fun x => some (Value.int x.1)) (Option.some.inj h)), (congrArg (fun x => (([], x.2) : zx_S)) (Option.some.inj h))⟩
  have jump15 : ∀ (x1 : Int32) (s0 : Int32) (D : zx_D), g_R_cut_b0_15 x1 s0 D = some q → Zp (15, [some (.ref 0), some (.int x1), some (.int 0), none], [.int s0], [], D) := by
    intro x1 s0 D h
    rw [g_R_cut_b0_15] at h
    refine hr.1 2 True _ _ (17, [some (.ref 0), some (.int x1), some (.int 0), some (.int s0)], [.int x1], [], D) rfl trivial ?_
    refine hr.2.1 _ (x1 < 0) _ _ rfl (fun c17 => ?_) (fun c17 => ?_)
    · replace h := zk_t h c17
      refine hr.1 1 True _ _ (26, [some (.ref 0), some (.int x1), some (.int 0), some (.int s0)], [.int (-1)], [], D) rfl trivial ?_
      exact hr.2.2.2 _ _ _ rfl trivial ⟨(congrArg (fun x => some (Value.int x.1)) (Option.some.inj h)), (congrArg (fun x => (([], x.2) : zx_S)) (Option.some.inj h))⟩
    · replace h := zk_f h c17
      refine hr.1 2 True _ _ (22, [some (.ref 0), some (.int x1), some (.int 0), some (.int s0)], [.int s0, .int x1], [], D) rfl trivial ?_
      refine hr.2.1 _ (x1 ≤ s0) _ _ rfl (fun c22 => ?_) (fun c22 => ?_)
      · replace h := zk_t h c22
        refine hr.1 2 True _ _ (29, [some (.ref 0), some (.int x1), some (.int 0), some (.int s0)], [.int 0, .ref 0], [], D) rfl trivial ?_
        refine hr.2.1 _ ((0 : Int32) = 0) _ _ rfl (fun _ => ?_) (fun h => absurd (by decide) h)
        refine hr.1 2 True _ _ (40, [some (.ref 0), some (.int x1), some (.int 0), some (.int s0)], [.int (zg_i D 0 3), .ref 0], [], D) rfl trivial ?_
        exact jump40 x1 s0 (zg_i D 0 3) D h
      · replace h := zk_f h c22
        refine hr.1 1 True _ _ (26, [some (.ref 0), some (.int x1), some (.int 0), some (.int s0)], [.int (-1)], [], D) rfl trivial ?_
        exact hr.2.2.2 _ _ _ rfl trivial ⟨(congrArg (fun x => some (Value.int x.1)) (Option.some.inj h)), (congrArg (fun x => (([], x.2) : zx_S)) (Option.some.inj h))⟩
  rw [g_R_cut_b0] at h
  refine hr.1 1 True _ _ (1, [some (.ref 0), some (.int x1), some (.int 0), none], [.int 0], [], D) rfl trivial ?_
  refine hr.2.1 _ ((0 : Int32) = 0) _ _ rfl (fun _ => ?_) (fun h => absurd (by decide) h)
  refine hr.1 2 True _ _ (15, [some (.ref 0), some (.int x1), some (.int 0), none], [.int (zg_i D 0 1)], [], D) rfl trivial ?_
  exact jump15 x1 (zg_i D 0 1) D h
set_option maxRecDepth 100000 in
set_option maxHeartbeats 4000000 in
theorem c_g_R_at_b0 {l : Launch} {E : zx_E} {d : Nat} {x1 : Int32} {D : zx_D} {q : Int32} (h : g_R_at_b0 x1 D = some q) : zx_MR l E 106 d [.ref 0, .int x1, .int 0] ([], D) (fun v S => v = some (.int q) ∧ S = ([], D)) := by
  refine zx_ofR (K := ck_R_at) rfl (by decide +kernel) rfl ok_R_at (Nat.le_of_ble_eq_true rfl) (fun Zp hr => ?_)
  show Zp (0, [some (.ref 0), some (.int x1), some (.int 0)], [], [], D)
  have jump20 : ∀ (x1 : Int32) (s0 : Int32) (s1 : Int32), g_R_at_b0_20 x1 s0 s1 D = some q → Zp (20, [some (.ref 0), some (.int x1), some (.int 0)], [.int s0, .int s1], [], D) := by
    intro x1 s0 s1 h
    rw [g_R_at_b0_20] at h
    refine hr.2.1 _ (s1 < s0) _ _ rfl (fun c20 => ?_) (fun c20 => ?_)
    · replace h := zk_t h c20
      refine hr.1 1 True _ _ (26, [some (.ref 0), some (.int x1), some (.int 0)], [.int 0], [], D) rfl trivial ?_
      refine hr.2.1 _ ((0 : Int32) = 0) _ _ rfl (fun _ => ?_) (fun h => absurd (by decide) h)
      obtain ⟨w2, h⟩ := zk_ck h
      refine hr.1 4 True _ _ (44, [some (.ref 0), some (.int x1), some (.int 0)], [.int (zg_i D 1 (zn x1))], [], D) rfl ⟨trivial, (zk_vp w2)⟩ ?_
      exact hr.2.2.2 _ _ _ rfl trivial ⟨(congrArg (fun x => some (Value.int x)) (Option.some.inj h)), rfl⟩
    · replace h := zk_f h c20
      refine hr.1 1 True _ _ (24, [some (.ref 0), some (.int x1), some (.int 0)], [.int (-1)], [], D) rfl trivial ?_
      exact hr.2.2.2 _ _ _ rfl trivial ⟨(congrArg (fun x => some (Value.int x)) (Option.some.inj h)), rfl⟩
  rw [g_R_at_b0] at h
  refine hr.1 1 True _ _ (1, [some (.ref 0), some (.int x1), some (.int 0)], [.int x1], [], D) rfl trivial ?_
  refine hr.2.1 _ (x1 < 0) _ _ rfl (fun c1 => ?_) (fun c1 => ?_)
  · replace h := zk_t h c1
    refine hr.1 1 True _ _ (24, [some (.ref 0), some (.int x1), some (.int 0)], [.int (-1)], [], D) rfl trivial ?_
    exact hr.2.2.2 _ _ _ rfl trivial ⟨(congrArg (fun x => some (Value.int x)) (Option.some.inj h)), rfl⟩
  · replace h := zk_f h c1
    refine hr.1 2 True _ _ (6, [some (.ref 0), some (.int x1), some (.int 0)], [.int 0, .int x1], [], D) rfl trivial ?_
    refine hr.2.1 _ ((0 : Int32) = 0) _ _ rfl (fun _ => ?_) (fun h => absurd (by decide) h)
    refine hr.1 2 True _ _ (20, [some (.ref 0), some (.int x1), some (.int 0)], [.int (zg_i D 0 1), .int x1], [], D) rfl trivial ?_
    exact jump20 x1 (zg_i D 0 1) x1 h
set_option maxRecDepth 100000 in
set_option maxHeartbeats 4000000 in
theorem c_g_R_four {l : Launch} {E : zx_E} {d : Nat} {x0 : Int64} {x2 : Int32} {D : zx_D} {q : Int64} (h : g_R_four x0 x2 D = some q) : zx_MR l E 107 d [.long x0, .int x2] ([], D) (fun v S => v = some (.long q) ∧ S = ([], D)) := by
  refine zx_ofR (K := ck_R_four) rfl (by decide +kernel) rfl ok_R_four (Nat.le_of_ble_eq_true rfl) (fun Zp hr => ?_)
  show Zp (0, [some (.long x0), none, some (.int x2), none, none, none], [], [], D)
  have loop8 : ∀ (D : zx_D) (k : Nat) (x3 : Int64) (x5 : Int32) (x0 : Int64) (x2 : Int32) (q : Int64), g_R_four_8 D k x3 x5 = some q → (∀ (e5 : Int32), Zp (43, [some (.long x0), none, some (.int x2), some (.long q), none, some (.int e5)], [], [], D)) → Zp (8, [some (.long x0), none, some (.int x2), some (.long x3), none, some (.int x5)], [], [], D) := by
    intro D k
    induction k with
    | zero => intro x3 x5 x0 x2 q h hx; exact (zk_no h).elim
    | succ k ih =>
      intro x3 x5 x0 x2 q h hx
      rw [g_R_four_8] at h
      refine hr.1 2 True _ _ (12, [some (.long x0), none, some (.int x2), some (.long x3), none, some (.int x5)], [.int 8, .int x5], [], D) rfl trivial ?_
      refine hr.2.1 _ (8 ≤ x5) _ _ rfl (fun c12 => ?_) (fun c12 => ?_)
      · replace h := zk_t h c12
        replace h := Option.some.inj h
        subst h
        exact hx x5
      · replace h := zk_f h c12
        refine hr.1 4 True _ _ (19, [some (.long x0), none, some (.int x2), some (.long x3), none, some (.int x5)], [.long 1, .long (x3 &&& 1)], [], D) rfl trivial ?_
        refine hr.2.1 _ (¬ x3 &&& 1 = 1) _ _ rfl (fun c19 => ?_) (fun c19 => ?_)
        · replace h := zk_t h c19
          refine hr.1 6 True _ _ (8, [some (.long x0), none, some (.int x2), some (.long (zo_lshr x3 1)), none, some (.int (x5 + 1))], [], [], D) rfl trivial ?_
          exact ih (zo_lshr x3 1) (x5 + 1)  _ _ _ h hx
        · replace h := zk_f h c19
          refine hr.1 9 True _ _ (8, [some (.long x0), none, some (.int x2), some (.long ((zo_lshr x3 1) ^^^ 3988292384)), none, some (.int (x5 + 1))], [], [], D) rfl trivial ?_
          exact ih ((zo_lshr x3 1) ^^^ 3988292384) (x5 + 1)  _ _ _ h hx
  rw [g_R_four] at h
  refine hr.1 7 True _ _ (8, [some (.long x0), none, some (.int x2), some (.long (x0 ^^^ ((x2).toInt64))), none, some (.int 0)], [], [], D) rfl trivial ?_
  obtain ⟨q1, hc, h⟩ := zk_bind h
  refine loop8 D 10000 (x0 ^^^ ((x2).toInt64)) 0 x0 x2 q1 hc (fun e5 => ?_)
  clear hc
  refine hr.1 1 True _ _ (44, [some (.long x0), none, some (.int x2), some (.long q1), none, some (.int e5)], [.long q1], [], D) rfl trivial ?_
  exact hr.2.2.2 _ _ _ rfl trivial ⟨(congrArg (fun x => some (Value.long x)) (Option.some.inj h)), rfl⟩
set_option maxRecDepth 100000 in
set_option maxHeartbeats 4000000 in
theorem c_g_R_sum_b0 {l : Launch} {E : zx_E} {d : Nat} {D : zx_D} {q : Int64} (h : g_R_sum_b0 D = some q) : zx_MR l E 112 (d + 1) [.ref 0, .int 0] ([], D) (fun v S => v = some (.long q) ∧ S = ([], D)) := by
  refine zx_ofR (K := ck_R_sum) rfl (by decide +kernel) rfl ok_R_sum (Nat.le_of_ble_eq_true rfl) (fun Zp hr => ?_)
  show Zp (0, [some (.ref 0), some (.int 0), none, none, none], [], [], D)
  have loop17 : ∀ (D : zx_D) (k : Nat) (x2 : Int64) (x4 : Int32) (q : Int64), g_R_sum_b0_17 D k x2 x4 = some q → (∀ (e4 : Int32), Zp (62, [some (.ref 0), some (.int 0), some (.long q), none, some (.int e4)], [], [], D)) → Zp (17, [some (.ref 0), some (.int 0), some (.long x2), none, some (.int x4)], [], [], D) := by
    intro D k
    induction k with
    | zero => intro x2 x4 q h hx; exact (zk_no h).elim
    | succ k ih =>
      intro x2 x4 q h hx
      rw [g_R_sum_b0_17] at h
      refine hr.1 3 True _ _ (23, [some (.ref 0), some (.int 0), some (.long x2), none, some (.int x4)], [.int (zg_i D 0 1), .int x4], [], D) rfl trivial ?_
      refine hr.2.1 _ (zg_i D 0 1 ≤ x4) _ _ rfl (fun c23 => ?_) (fun c23 => ?_)
      · replace h := zk_t h c23
        replace h := Option.some.inj h
        subst h
        exact hx x4
      · replace h := zk_f h c23
        refine hr.1 1 True _ _ (27, [some (.ref 0), some (.int 0), some (.long x2), none, some (.int x4)], [.int 0], [], D) rfl trivial ?_
        refine hr.2.1 _ ((0 : Int32) = 0) _ _ rfl (fun _ => ?_) (fun h => absurd (by decide) h)
        obtain ⟨w2, h⟩ := zk_ck h
        refine hr.1 5 True _ _ (52, [some (.ref 0), some (.int 0), some (.long x2), none, some (.int x4)], [.int (zg_i D 1 (zn x4)), .long x2], [], D) rfl ⟨trivial, (zk_vp w2)⟩ ?_
        obtain ⟨q1, hc, h⟩ := zk_bind h
        refine hr.2.2.1 _ _ _ _ _ (d) rfl (by omega) (c_g_R_four (l := l) (E := E) (d := d) hc) (fun v S hq => ?_)
        obtain ⟨rfl, rfl⟩ := hq
        clear hc
        refine hr.1 3 True _ _ (17, [some (.ref 0), some (.int 0), some (.long q1), none, some (.int (x4 + 1))], [], [], D) rfl trivial ?_
        exact ih q1 (x4 + 1)  _ h hx
  have jump13 : ∀ (s0 : Int64), g_R_sum_b0_13 s0 D = some q → Zp (13, [some (.ref 0), some (.int 0), none, none, none], [.long s0], [], D) := by
    intro s0 h
    rw [g_R_sum_b0_13] at h
    refine hr.1 3 True _ _ (17, [some (.ref 0), some (.int 0), some (.long s0), none, some (.int 0)], [], [], D) rfl trivial ?_
    obtain ⟨q2, hc, h⟩ := zk_bind h
    refine loop17 D 10000 s0 0 q2 hc (fun e4 => ?_)
    clear hc
    refine hr.1 1 True _ _ (63, [some (.ref 0), some (.int 0), some (.long q2), none, some (.int e4)], [.int 0], [], D) rfl trivial ?_
    refine hr.2.1 _ ((0 : Int32) = 0) _ _ rfl (fun _ => ?_) (fun h => absurd (by decide) h)
    refine hr.1 3 True _ _ (79, [some (.ref 0), some (.int 0), some (.long q2), none, some (.int e4)], [.long (q2 ^^^ 4294967295)], [], D) rfl trivial ?_
    exact hr.2.2.2 _ _ _ rfl trivial ⟨(congrArg (fun x => some (Value.long x)) (Option.some.inj h)), rfl⟩
  rw [g_R_sum_b0] at h
  refine hr.1 1 True _ _ (1, [some (.ref 0), some (.int 0), none, none, none], [.int 0], [], D) rfl trivial ?_
  refine hr.2.1 _ ((0 : Int32) = 0) _ _ rfl (fun _ => ?_) (fun h => absurd (by decide) h)
  refine hr.1 1 True _ _ (13, [some (.ref 0), some (.int 0), none, none, none], [.long 4294967295], [], D) rfl trivial ?_
  exact jump13 4294967295 h
set_option maxRecDepth 100000 in
set_option maxHeartbeats 4000000 in
theorem c_g_R_feed_b1 {l : Launch} {E : zx_E} {d : Nat} {x1 : Int64} {x3 : Int32} {D : zx_D} {q : Int32 × zx_D} (h : g_R_feed_b1 x1 x3 D = some q) : zx_MR l E 102 d [.ref 0, .long x1, .int x3, .int 1] ([], D) (fun v S => v = some (.int q.1) ∧ S = ([], q.2)) := by
  refine zx_ofR (K := ck_R_feed) rfl (by decide +kernel) rfl ok_R_feed (Nat.le_of_ble_eq_true rfl) (fun Zp hr => ?_)
  show Zp (0, [some (.ref 0), some (.long x1), none, some (.int x3), some (.int 1), none, none, none], [], [], D)
  have loop57 : ∀ (x1 : Int64) (x3 : Int32) (x5 : Int32) (k : Nat) (x6 : Int32) (D : zx_D) (o7 : Option Value) (q : zx_D), g_R_feed_b1_57 x1 x3 x5 k x6 D = some q → (∀ (e6 : Int32) (o7 : Option Value), Zp (132, [some (.ref 0), some (.long x1), none, some (.int x3), some (.int 1), some (.int x5), some (.int e6), o7], [], [], q)) → Zp (57, [some (.ref 0), some (.long x1), none, some (.int x3), some (.int 1), some (.int x5), some (.int x6), o7], [], [], D) := by
    intro x1 x3 x5 k
    induction k with
    | zero => intro x6 D o7 q h hx; exact (zk_no h).elim
    | succ k ih =>
      intro x6 D o7 q h hx
      rw [g_R_feed_b1_57] at h
      refine hr.1 1 True _ _ (59, [some (.ref 0), some (.long x1), none, some (.int x3), some (.int 1), some (.int x5), some (.int x6), o7], [.int x6], [], D) rfl trivial ?_
      refine hr.2.1 _ (x6 < 0) _ _ rfl (fun c59 => ?_) (fun c59 => ?_)
      · replace h := zk_t h c59
        replace h := Option.some.inj h
        subst h
        exact hx x6 o7
      · replace h := zk_f h c59
        refine hr.1 10 True _ _ (78, [some (.ref 0), some (.long x1), none, some (.int x3), some (.int 1), some (.int x5), some (.int x6), some (.int ((((zo_lshr x1 (8 * x6)) &&& 255)).toInt32))], [.int 1], [], D) rfl trivial ?_
        refine hr.2.1 _ ((1 : Int32) = 0) _ _ rfl (fun h => absurd h (by decide)) (fun _ => ?_)
        obtain ⟨w2, h⟩ := zk_ck h
        refine hr.1 15 True _ _ (57, [some (.ref 0), some (.long x1), none, some (.int x3), some (.int 1), some (.int x5), some (.int (x6 + (-1))), some (.int ((((zo_lshr x1 (8 * x6)) &&& 255)).toInt32))], [], [], zp_i (zp_i D 2 (zn (zg_i D 0 3)) ((((zo_lshr x1 (8 * x6)) &&& 255)).toInt32)) 0 3 ((zg_i D 0 3) + 1)) rfl ⟨trivial, (zk_vp w2)⟩ ?_
        exact ih (x6 + (-1)) (zp_i (zp_i D 2 (zn (zg_i D 0 3)) ((((zo_lshr x1 (8 * x6)) &&& 255)).toInt32)) 0 3 ((zg_i D 0 3) + 1)) _ _ h hx
  have jump47 : ∀ (x1 : Int64) (x3 : Int32) (x5 : Int32) (s0 : Int32) (s1 : Int32) (D : zx_D), g_R_feed_b1_47 x1 x3 x5 s0 s1 D = some q → Zp (47, [some (.ref 0), some (.long x1), none, some (.int x3), some (.int 1), some (.int x5), none, none], [.int s0, .int s1], [], D) := by
    intro x1 x3 x5 s0 s1 D h
    rw [g_R_feed_b1_47] at h
    refine hr.2.1 _ (s1 ≤ s0) _ _ rfl (fun c47 => ?_) (fun c47 => ?_)
    · replace h := zk_t h c47
      refine hr.1 4 True _ _ (57, [some (.ref 0), some (.long x1), none, some (.int x3), some (.int 1), some (.int x5), some (.int (x3 - 1)), none], [], [], D) rfl trivial ?_
      obtain ⟨q1, hc, h⟩ := zk_bind h
      refine loop57 x1 x3 x5 10000 (x3 - 1) D none q1 hc (fun e6 o7 => ?_)
      clear hc
      refine hr.1 3 True _ _ (136, [some (.ref 0), some (.long x1), none, some (.int x3), some (.int 1), some (.int x5), some (.int e6), o7], [.int (x5 + x3)], [], q1) rfl trivial ?_
      exact hr.2.2.2 _ _ _ rfl trivial ⟨(congrArg (fun x => some (Value.int x.1)) (Option.some.inj h)), (congrArg (fun x => (([], x.2) : zx_S)) (Option.some.inj h))⟩
    · replace h := zk_f h c47
      refine hr.1 1 True _ _ (51, [some (.ref 0), some (.long x1), none, some (.int x3), some (.int 1), some (.int x5), none, none], [.int (-1)], [], D) rfl trivial ?_
      exact hr.2.2.2 _ _ _ rfl trivial ⟨(congrArg (fun x => some (Value.int x.1)) (Option.some.inj h)), (congrArg (fun x => (([], x.2) : zx_S)) (Option.some.inj h))⟩
  have jump16 : ∀ (x1 : Int64) (x3 : Int32) (s0 : Int32) (D : zx_D), g_R_feed_b1_16 x1 x3 s0 D = some q → Zp (16, [some (.ref 0), some (.long x1), none, some (.int x3), some (.int 1), none, none, none], [.int s0], [], D) := by
    intro x1 x3 s0 D h
    rw [g_R_feed_b1_16] at h
    refine hr.1 3 True _ _ (20, [some (.ref 0), some (.long x1), none, some (.int x3), some (.int 1), some (.int s0), none, none], [.int 1, .int x3], [], D) rfl trivial ?_
    refine hr.2.1 _ (x3 < 1) _ _ rfl (fun c20 => ?_) (fun c20 => ?_)
    · replace h := zk_t h c20
      refine hr.1 1 True _ _ (51, [some (.ref 0), some (.long x1), none, some (.int x3), some (.int 1), some (.int s0), none, none], [.int (-1)], [], D) rfl trivial ?_
      exact hr.2.2.2 _ _ _ rfl trivial ⟨(congrArg (fun x => some (Value.int x.1)) (Option.some.inj h)), (congrArg (fun x => (([], x.2) : zx_S)) (Option.some.inj h))⟩
    · replace h := zk_f h c20
      refine hr.1 2 True _ _ (26, [some (.ref 0), some (.long x1), none, some (.int x3), some (.int 1), some (.int s0), none, none], [.int 8, .int x3], [], D) rfl trivial ?_
      refine hr.2.1 _ (8 < x3) _ _ rfl (fun c26 => ?_) (fun c26 => ?_)
      · replace h := zk_t h c26
        refine hr.1 1 True _ _ (51, [some (.ref 0), some (.long x1), none, some (.int x3), some (.int 1), some (.int s0), none, none], [.int (-1)], [], D) rfl trivial ?_
        exact hr.2.2.2 _ _ _ rfl trivial ⟨(congrArg (fun x => some (Value.int x.1)) (Option.some.inj h)), (congrArg (fun x => (([], x.2) : zx_S)) (Option.some.inj h))⟩
      · replace h := zk_f h c26
        refine hr.1 4 True _ _ (35, [some (.ref 0), some (.long x1), none, some (.int x3), some (.int 1), some (.int s0), none, none], [.int 1, .int (s0 + x3)], [], D) rfl trivial ?_
        refine hr.2.1 _ ((1 : Int32) = 0) _ _ rfl (fun h => absurd h (by decide)) (fun _ => ?_)
        refine hr.1 2 True _ _ (47, [some (.ref 0), some (.long x1), none, some (.int x3), some (.int 1), some (.int s0), none, none], [.int 640, .int (s0 + x3)], [], D) rfl trivial ?_
        exact jump47 x1 x3 s0 640 (s0 + x3) D h
  rw [g_R_feed_b1] at h
  refine hr.1 1 True _ _ (2, [some (.ref 0), some (.long x1), none, some (.int x3), some (.int 1), none, none, none], [.int 1], [], D) rfl trivial ?_
  refine hr.2.1 _ ((1 : Int32) = 0) _ _ rfl (fun h => absurd h (by decide)) (fun _ => ?_)
  refine hr.1 3 True _ _ (16, [some (.ref 0), some (.long x1), none, some (.int x3), some (.int 1), none, none, none], [.int (zg_i D 0 3)], [], D) rfl trivial ?_
  exact jump16 x1 x3 (zg_i D 0 3) D h
set_option maxRecDepth 100000 in
set_option maxHeartbeats 4000000 in
theorem c_g_R_cut_b1 {l : Launch} {E : zx_E} {d : Nat} {x1 : Int32} {D : zx_D} {q : Int32 × zx_D} (h : g_R_cut_b1 x1 D = some q) : zx_MR l E 104 d [.ref 0, .int x1, .int 1] ([], D) (fun v S => v = some (.int q.1) ∧ S = ([], q.2)) := by
  refine zx_ofR (K := ck_R_cut) rfl (by decide +kernel) rfl ok_R_cut (Nat.le_of_ble_eq_true rfl) (fun Zp hr => ?_)
  show Zp (0, [some (.ref 0), some (.int x1), some (.int 1), none], [], [], D)
  have jump40 : ∀ (x1 : Int32) (x3 : Int32) (s0 : Int32) (D : zx_D), g_R_cut_b1_40 x1 x3 s0 D = some q → Zp (40, [some (.ref 0), some (.int x1), some (.int 1), some (.int x3)], [.int s0, .ref 0], [], D) := by
    intro x1 x3 s0 D h
    rw [g_R_cut_b1_40] at h
    refine hr.1 3 True _ _ (45, [some (.ref 0), some (.int x1), some (.int 1), some (.int x3)], [.int 1, .ref 0], [], zp_i D 0 3 s0) rfl trivial ?_
    refine hr.2.1 _ ((1 : Int32) = 0) _ _ rfl (fun h => absurd h (by decide)) (fun _ => ?_)
    refine hr.1 7 True _ _ (62, [some (.ref 0), some (.int x1), some (.int 1), some (.int x3)], [.int (x3 - x1)], [], zp_i (zp_i D 0 3 s0) 0 1 (zg_i D 0 1)) rfl trivial ?_
    exact hr.2.2.2 _ _ _ rfl trivial ⟨(congrArg (fun x => some (Value.int x.1)) (Option.some.inj h)), (congrArg (fun x => (([], x.2) : zx_S)) (Option.some.inj h))⟩
  have jump15 : ∀ (x1 : Int32) (s0 : Int32) (D : zx_D), g_R_cut_b1_15 x1 s0 D = some q → Zp (15, [some (.ref 0), some (.int x1), some (.int 1), none], [.int s0], [], D) := by
    intro x1 s0 D h
    rw [g_R_cut_b1_15] at h
    refine hr.1 2 True _ _ (17, [some (.ref 0), some (.int x1), some (.int 1), some (.int s0)], [.int x1], [], D) rfl trivial ?_
    refine hr.2.1 _ (x1 < 0) _ _ rfl (fun c17 => ?_) (fun c17 => ?_)
    · replace h := zk_t h c17
      refine hr.1 1 True _ _ (26, [some (.ref 0), some (.int x1), some (.int 1), some (.int s0)], [.int (-1)], [], D) rfl trivial ?_
      exact hr.2.2.2 _ _ _ rfl trivial ⟨(congrArg (fun x => some (Value.int x.1)) (Option.some.inj h)), (congrArg (fun x => (([], x.2) : zx_S)) (Option.some.inj h))⟩
    · replace h := zk_f h c17
      refine hr.1 2 True _ _ (22, [some (.ref 0), some (.int x1), some (.int 1), some (.int s0)], [.int s0, .int x1], [], D) rfl trivial ?_
      refine hr.2.1 _ (x1 ≤ s0) _ _ rfl (fun c22 => ?_) (fun c22 => ?_)
      · replace h := zk_t h c22
        refine hr.1 2 True _ _ (29, [some (.ref 0), some (.int x1), some (.int 1), some (.int s0)], [.int 1, .ref 0], [], D) rfl trivial ?_
        refine hr.2.1 _ ((1 : Int32) = 0) _ _ rfl (fun h => absurd h (by decide)) (fun _ => ?_)
        refine hr.1 2 True _ _ (40, [some (.ref 0), some (.int x1), some (.int 1), some (.int s0)], [.int x1, .ref 0], [], D) rfl trivial ?_
        exact jump40 x1 s0 x1 D h
      · replace h := zk_f h c22
        refine hr.1 1 True _ _ (26, [some (.ref 0), some (.int x1), some (.int 1), some (.int s0)], [.int (-1)], [], D) rfl trivial ?_
        exact hr.2.2.2 _ _ _ rfl trivial ⟨(congrArg (fun x => some (Value.int x.1)) (Option.some.inj h)), (congrArg (fun x => (([], x.2) : zx_S)) (Option.some.inj h))⟩
  rw [g_R_cut_b1] at h
  refine hr.1 1 True _ _ (1, [some (.ref 0), some (.int x1), some (.int 1), none], [.int 1], [], D) rfl trivial ?_
  refine hr.2.1 _ ((1 : Int32) = 0) _ _ rfl (fun h => absurd h (by decide)) (fun _ => ?_)
  refine hr.1 3 True _ _ (15, [some (.ref 0), some (.int x1), some (.int 1), none], [.int (zg_i D 0 3)], [], D) rfl trivial ?_
  exact jump15 x1 (zg_i D 0 3) D h
set_option maxRecDepth 100000 in
set_option maxHeartbeats 4000000 in
theorem c_g_R_at_b1 {l : Launch} {E : zx_E} {d : Nat} {x1 : Int32} {D : zx_D} {q : Int32} (h : g_R_at_b1 x1 D = some q) : zx_MR l E 106 d [.ref 0, .int x1, .int 1] ([], D) (fun v S => v = some (.int q) ∧ S = ([], D)) := by
  refine zx_ofR (K := ck_R_at) rfl (by decide +kernel) rfl ok_R_at (Nat.le_of_ble_eq_true rfl) (fun Zp hr => ?_)
  show Zp (0, [some (.ref 0), some (.int x1), some (.int 1)], [], [], D)
  have jump20 : ∀ (x1 : Int32) (s0 : Int32) (s1 : Int32), g_R_at_b1_20 x1 s0 s1 D = some q → Zp (20, [some (.ref 0), some (.int x1), some (.int 1)], [.int s0, .int s1], [], D) := by
    intro x1 s0 s1 h
    rw [g_R_at_b1_20] at h
    refine hr.2.1 _ (s1 < s0) _ _ rfl (fun c20 => ?_) (fun c20 => ?_)
    · replace h := zk_t h c20
      refine hr.1 1 True _ _ (26, [some (.ref 0), some (.int x1), some (.int 1)], [.int 1], [], D) rfl trivial ?_
      refine hr.2.1 _ ((1 : Int32) = 0) _ _ rfl (fun h => absurd h (by decide)) (fun _ => ?_)
      obtain ⟨w2, h⟩ := zk_ck h
      refine hr.1 5 True _ _ (44, [some (.ref 0), some (.int x1), some (.int 1)], [.int (zg_i D 2 (zn x1))], [], D) rfl ⟨trivial, (zk_vp w2)⟩ ?_
      exact hr.2.2.2 _ _ _ rfl trivial ⟨(congrArg (fun x => some (Value.int x)) (Option.some.inj h)), rfl⟩
    · replace h := zk_f h c20
      refine hr.1 1 True _ _ (24, [some (.ref 0), some (.int x1), some (.int 1)], [.int (-1)], [], D) rfl trivial ?_
      exact hr.2.2.2 _ _ _ rfl trivial ⟨(congrArg (fun x => some (Value.int x)) (Option.some.inj h)), rfl⟩
  rw [g_R_at_b1] at h
  refine hr.1 1 True _ _ (1, [some (.ref 0), some (.int x1), some (.int 1)], [.int x1], [], D) rfl trivial ?_
  refine hr.2.1 _ (x1 < 0) _ _ rfl (fun c1 => ?_) (fun c1 => ?_)
  · replace h := zk_t h c1
    refine hr.1 1 True _ _ (24, [some (.ref 0), some (.int x1), some (.int 1)], [.int (-1)], [], D) rfl trivial ?_
    exact hr.2.2.2 _ _ _ rfl trivial ⟨(congrArg (fun x => some (Value.int x)) (Option.some.inj h)), rfl⟩
  · replace h := zk_f h c1
    refine hr.1 2 True _ _ (6, [some (.ref 0), some (.int x1), some (.int 1)], [.int 1, .int x1], [], D) rfl trivial ?_
    refine hr.2.1 _ ((1 : Int32) = 0) _ _ rfl (fun h => absurd h (by decide)) (fun _ => ?_)
    refine hr.1 3 True _ _ (20, [some (.ref 0), some (.int x1), some (.int 1)], [.int (zg_i D 0 3), .int x1], [], D) rfl trivial ?_
    exact jump20 x1 (zg_i D 0 3) x1 h
set_option maxRecDepth 100000 in
set_option maxHeartbeats 4000000 in
theorem c_g_R_eight {l : Launch} {E : zx_E} {d : Nat} {x0 : Int64} {x2 : Int32} {D : zx_D} {q : Int64} (h : g_R_eight x0 x2 D = some q) : zx_MR l E 108 d [.long x0, .int x2] ([], D) (fun v S => v = some (.long q) ∧ S = ([], D)) := by
  refine zx_ofR (K := ck_R_eight) rfl (by decide +kernel) rfl ok_R_eight (Nat.le_of_ble_eq_true rfl) (fun Zp hr => ?_)
  show Zp (0, [some (.long x0), none, some (.int x2), none, none, none], [], [], D)
  have loop8 : ∀ (D : zx_D) (k : Nat) (x3 : Int64) (x5 : Int32) (x0 : Int64) (x2 : Int32) (q : Int64), g_R_eight_8 D k x3 x5 = some q → (∀ (e5 : Int32), Zp (43, [some (.long x0), none, some (.int x2), some (.long q), none, some (.int e5)], [], [], D)) → Zp (8, [some (.long x0), none, some (.int x2), some (.long x3), none, some (.int x5)], [], [], D) := by
    intro D k
    induction k with
    | zero => intro x3 x5 x0 x2 q h hx; exact (zk_no h).elim
    | succ k ih =>
      intro x3 x5 x0 x2 q h hx
      rw [g_R_eight_8] at h
      refine hr.1 2 True _ _ (12, [some (.long x0), none, some (.int x2), some (.long x3), none, some (.int x5)], [.int 8, .int x5], [], D) rfl trivial ?_
      refine hr.2.1 _ (8 ≤ x5) _ _ rfl (fun c12 => ?_) (fun c12 => ?_)
      · replace h := zk_t h c12
        replace h := Option.some.inj h
        subst h
        exact hx x5
      · replace h := zk_f h c12
        refine hr.1 4 True _ _ (19, [some (.long x0), none, some (.int x2), some (.long x3), none, some (.int x5)], [.long 1, .long (x3 &&& 1)], [], D) rfl trivial ?_
        refine hr.2.1 _ (¬ x3 &&& 1 = 1) _ _ rfl (fun c19 => ?_) (fun c19 => ?_)
        · replace h := zk_t h c19
          refine hr.1 6 True _ _ (8, [some (.long x0), none, some (.int x2), some (.long (zo_lushr x3 1)), none, some (.int (x5 + 1))], [], [], D) rfl trivial ?_
          exact ih (zo_lushr x3 1) (x5 + 1)  _ _ _ h hx
        · replace h := zk_f h c19
          refine hr.1 9 True _ _ (8, [some (.long x0), none, some (.int x2), some (.long ((zo_lushr x3 1) ^^^ (-3932672073523589310))), none, some (.int (x5 + 1))], [], [], D) rfl trivial ?_
          exact ih ((zo_lushr x3 1) ^^^ (-3932672073523589310)) (x5 + 1)  _ _ _ h hx
  rw [g_R_eight] at h
  refine hr.1 7 True _ _ (8, [some (.long x0), none, some (.int x2), some (.long (x0 ^^^ ((x2).toInt64))), none, some (.int 0)], [], [], D) rfl trivial ?_
  obtain ⟨q1, hc, h⟩ := zk_bind h
  refine loop8 D 10000 (x0 ^^^ ((x2).toInt64)) 0 x0 x2 q1 hc (fun e5 => ?_)
  clear hc
  refine hr.1 1 True _ _ (44, [some (.long x0), none, some (.int x2), some (.long q1), none, some (.int e5)], [.long q1], [], D) rfl trivial ?_
  exact hr.2.2.2 _ _ _ rfl trivial ⟨(congrArg (fun x => some (Value.long x)) (Option.some.inj h)), rfl⟩
set_option maxRecDepth 100000 in
set_option maxHeartbeats 4000000 in
theorem c_g_R_sum_b1 {l : Launch} {E : zx_E} {d : Nat} {D : zx_D} {q : Int64} (h : g_R_sum_b1 D = some q) : zx_MR l E 112 (d + 1) [.ref 0, .int 1] ([], D) (fun v S => v = some (.long q) ∧ S = ([], D)) := by
  refine zx_ofR (K := ck_R_sum) rfl (by decide +kernel) rfl ok_R_sum (Nat.le_of_ble_eq_true rfl) (fun Zp hr => ?_)
  show Zp (0, [some (.ref 0), some (.int 1), none, none, none], [], [], D)
  have loop17 : ∀ (D : zx_D) (k : Nat) (x2 : Int64) (x4 : Int32) (q : Int64), g_R_sum_b1_17 D k x2 x4 = some q → (∀ (e4 : Int32), Zp (62, [some (.ref 0), some (.int 1), some (.long q), none, some (.int e4)], [], [], D)) → Zp (17, [some (.ref 0), some (.int 1), some (.long x2), none, some (.int x4)], [], [], D) := by
    intro D k
    induction k with
    | zero => intro x2 x4 q h hx; exact (zk_no h).elim
    | succ k ih =>
      intro x2 x4 q h hx
      rw [g_R_sum_b1_17] at h
      refine hr.1 3 True _ _ (23, [some (.ref 0), some (.int 1), some (.long x2), none, some (.int x4)], [.int (zg_i D 0 1), .int x4], [], D) rfl trivial ?_
      refine hr.2.1 _ (zg_i D 0 1 ≤ x4) _ _ rfl (fun c23 => ?_) (fun c23 => ?_)
      · replace h := zk_t h c23
        replace h := Option.some.inj h
        subst h
        exact hx x4
      · replace h := zk_f h c23
        refine hr.1 1 True _ _ (27, [some (.ref 0), some (.int 1), some (.long x2), none, some (.int x4)], [.int 1], [], D) rfl trivial ?_
        refine hr.2.1 _ ((1 : Int32) = 0) _ _ rfl (fun h => absurd h (by decide)) (fun _ => ?_)
        obtain ⟨w2, h⟩ := zk_ck h
        refine hr.1 5 True _ _ (38, [some (.ref 0), some (.int 1), some (.long x2), none, some (.int x4)], [.int (zg_i D 1 (zn x4)), .long x2], [], D) rfl ⟨trivial, (zk_vp w2)⟩ ?_
        obtain ⟨q1, hc, h⟩ := zk_bind h
        refine hr.2.2.1 _ _ _ _ _ (d) rfl (by omega) (c_g_R_eight (l := l) (E := E) (d := d) hc) (fun v S hq => ?_)
        obtain ⟨rfl, rfl⟩ := hq
        clear hc
        refine hr.1 4 True _ _ (17, [some (.ref 0), some (.int 1), some (.long q1), none, some (.int (x4 + 1))], [], [], D) rfl trivial ?_
        exact ih q1 (x4 + 1)  _ h hx
  have jump13 : ∀ (s0 : Int64), g_R_sum_b1_13 s0 D = some q → Zp (13, [some (.ref 0), some (.int 1), none, none, none], [.long s0], [], D) := by
    intro s0 h
    rw [g_R_sum_b1_13] at h
    refine hr.1 3 True _ _ (17, [some (.ref 0), some (.int 1), some (.long s0), none, some (.int 0)], [], [], D) rfl trivial ?_
    obtain ⟨q2, hc, h⟩ := zk_bind h
    refine loop17 D 10000 s0 0 q2 hc (fun e4 => ?_)
    clear hc
    refine hr.1 1 True _ _ (63, [some (.ref 0), some (.int 1), some (.long q2), none, some (.int e4)], [.int 1], [], D) rfl trivial ?_
    refine hr.2.1 _ ((1 : Int32) = 0) _ _ rfl (fun h => absurd h (by decide)) (fun _ => ?_)
    refine hr.1 4 True _ _ (79, [some (.ref 0), some (.int 1), some (.long q2), none, some (.int e4)], [.long (q2 ^^^ (-1))], [], D) rfl trivial ?_
    exact hr.2.2.2 _ _ _ rfl trivial ⟨(congrArg (fun x => some (Value.long x)) (Option.some.inj h)), rfl⟩
  rw [g_R_sum_b1] at h
  refine hr.1 1 True _ _ (1, [some (.ref 0), some (.int 1), none, none, none], [.int 1], [], D) rfl trivial ?_
  refine hr.2.1 _ ((1 : Int32) = 0) _ _ rfl (fun h => absurd h (by decide)) (fun _ => ?_)
  refine hr.1 2 True _ _ (13, [some (.ref 0), some (.int 1), none, none, none], [.long (-1)], [], D) rfl trivial ?_
  exact jump13 (-1) h
set_option maxRecDepth 100000 in
set_option maxHeartbeats 4000000 in
theorem c_g_R_copy {l : Launch} {E : zx_E} {d : Nat} {x1 : Int32} {x2 : Int32} {D : zx_D} {q : Int32 × zx_D} (h : g_R_copy x1 x2 D = some q) : zx_MR l E 103 d [.ref 0, .int x1, .int x2] ([], D) (fun v S => v = some (.int q.1) ∧ S = ([], q.2)) := by
  refine zx_ofR (K := ck_R_copy) rfl (by decide +kernel) rfl ok_R_copy (Nat.le_of_ble_eq_true rfl) (fun Zp hr => ?_)
  show Zp (0, [some (.ref 0), some (.int x1), some (.int x2), none], [], [], D)
  have loop41 : ∀ (x1 : Int32) (x2 : Int32) (k : Nat) (x3 : Int32) (D : zx_D) (q : zx_D), g_R_copy_41 x1 x2 k x3 D = some q → (∀ (e3 : Int32), Zp (82, [some (.ref 0), some (.int x1), some (.int x2), some (.int e3)], [], [], q)) → Zp (41, [some (.ref 0), some (.int x1), some (.int x2), some (.int x3)], [], [], D) := by
    intro x1 x2 k
    induction k with
    | zero => intro x3 D q h hx; exact (zk_no h).elim
    | succ k ih =>
      intro x3 D q h hx
      rw [g_R_copy_41] at h
      refine hr.1 2 True _ _ (43, [some (.ref 0), some (.int x1), some (.int x2), some (.int x3)], [.int x2, .int x3], [], D) rfl trivial ?_
      refine hr.2.1 _ (x2 ≤ x3) _ _ rfl (fun c43 => ?_) (fun c43 => ?_)
      · replace h := zk_t h c43
        replace h := Option.some.inj h
        subst h
        exact hx x3
      · replace h := zk_f h c43
        obtain ⟨w3, h⟩ := zk_ck h
        obtain ⟨w4, h⟩ := zk_ck h
        refine hr.1 20 True _ _ (41, [some (.ref 0), some (.int x1), some (.int x2), some (.int (x3 + 1))], [], [], zp_i (zp_i D 1 (zn (zg_i D 0 1)) (zg_i D 1 (zn ((zg_i D 0 1) - x1)))) 0 1 ((zg_i D 0 1) + 1)) rfl ⟨⟨trivial, (zk_vp w3)⟩, (zk_vp w4)⟩ ?_
        exact ih (x3 + 1) (zp_i (zp_i D 1 (zn (zg_i D 0 1)) (zg_i D 1 (zn ((zg_i D 0 1) - x1)))) 0 1 ((zg_i D 0 1) + 1)) _ h hx
  rw [g_R_copy] at h
  refine hr.1 2 True _ _ (2, [some (.ref 0), some (.int x1), some (.int x2), none], [.int 1, .int x2], [], D) rfl trivial ?_
  refine hr.2.1 _ (x2 < 1) _ _ rfl (fun c2 => ?_) (fun c2 => ?_)
  · replace h := zk_t h c2
    refine hr.1 1 True _ _ (38, [some (.ref 0), some (.int x1), some (.int x2), none], [.int (-1)], [], D) rfl trivial ?_
    exact hr.2.2.2 _ _ _ rfl trivial ⟨(congrArg (fun x => some (Value.int x.1)) (Option.some.inj h)), (congrArg (fun x => (([], x.2) : zx_S)) (Option.some.inj h))⟩
  · replace h := zk_f h c2
    refine hr.1 2 True _ _ (9, [some (.ref 0), some (.int x1), some (.int x2), none], [.int 300, .int x2], [], D) rfl trivial ?_
    refine hr.2.1 _ (300 < x2) _ _ rfl (fun c9 => ?_) (fun c9 => ?_)
    · replace h := zk_t h c9
      refine hr.1 1 True _ _ (38, [some (.ref 0), some (.int x1), some (.int x2), none], [.int (-1)], [], D) rfl trivial ?_
      exact hr.2.2.2 _ _ _ rfl trivial ⟨(congrArg (fun x => some (Value.int x.1)) (Option.some.inj h)), (congrArg (fun x => (([], x.2) : zx_S)) (Option.some.inj h))⟩
    · replace h := zk_f h c9
      refine hr.1 2 True _ _ (14, [some (.ref 0), some (.int x1), some (.int x2), none], [.int 1, .int x1], [], D) rfl trivial ?_
      refine hr.2.1 _ (x1 < 1) _ _ rfl (fun c14 => ?_) (fun c14 => ?_)
      · replace h := zk_t h c14
        refine hr.1 1 True _ _ (38, [some (.ref 0), some (.int x1), some (.int x2), none], [.int (-1)], [], D) rfl trivial ?_
        exact hr.2.2.2 _ _ _ rfl trivial ⟨(congrArg (fun x => some (Value.int x.1)) (Option.some.inj h)), (congrArg (fun x => (([], x.2) : zx_S)) (Option.some.inj h))⟩
      · replace h := zk_f h c14
        refine hr.1 3 True _ _ (22, [some (.ref 0), some (.int x1), some (.int x2), none], [.int (zg_i D 0 1), .int x1], [], D) rfl trivial ?_
        refine hr.2.1 _ (zg_i D 0 1 < x1) _ _ rfl (fun c22 => ?_) (fun c22 => ?_)
        · replace h := zk_t h c22
          refine hr.1 1 True _ _ (38, [some (.ref 0), some (.int x1), some (.int x2), none], [.int (-1)], [], D) rfl trivial ?_
          exact hr.2.2.2 _ _ _ rfl trivial ⟨(congrArg (fun x => some (Value.int x.1)) (Option.some.inj h)), (congrArg (fun x => (([], x.2) : zx_S)) (Option.some.inj h))⟩
        · replace h := zk_f h c22
          refine hr.1 5 True _ _ (34, [some (.ref 0), some (.int x1), some (.int x2), none], [.int 400, .int ((zg_i D 0 1) + x2)], [], D) rfl trivial ?_
          refine hr.2.1 _ ((zg_i D 0 1) + x2 ≤ 400) _ _ rfl (fun c34 => ?_) (fun c34 => ?_)
          · replace h := zk_t h c34
            refine hr.1 2 True _ _ (41, [some (.ref 0), some (.int x1), some (.int x2), some (.int 0)], [], [], D) rfl trivial ?_
            obtain ⟨q1, hc, h⟩ := zk_bind h
            refine loop41 x1 x2 10000 0 D q1 hc (fun e3 => ?_)
            clear hc
            refine hr.1 2 True _ _ (86, [some (.ref 0), some (.int x1), some (.int x2), some (.int e3)], [.int (zg_i q1 0 1)], [], q1) rfl trivial ?_
            exact hr.2.2.2 _ _ _ rfl trivial ⟨(congrArg (fun x => some (Value.int x.1)) (Option.some.inj h)), (congrArg (fun x => (([], x.2) : zx_S)) (Option.some.inj h))⟩
          · replace h := zk_f h c34
            refine hr.1 1 True _ _ (38, [some (.ref 0), some (.int x1), some (.int x2), none], [.int (-1)], [], D) rfl trivial ?_
            exact hr.2.2.2 _ _ _ rfl trivial ⟨(congrArg (fun x => some (Value.int x.1)) (Option.some.inj h)), (congrArg (fun x => (([], x.2) : zx_S)) (Option.some.inj h))⟩
set_option maxRecDepth 100000 in
set_option maxHeartbeats 4000000 in
theorem c_g_R_change {l : Launch} {E : zx_E} {d : Nat} {x1 : Int32} {x2 : Int32} {D : zx_D} {q : Int32 × zx_D} (h : g_R_change x1 x2 D = some q) : zx_MR l E 105 d [.ref 0, .int x1, .int x2] ([], D) (fun v S => v = some (.int q.1) ∧ S = ([], q.2)) := by
  refine zx_ofR (K := ck_R_change) rfl (by decide +kernel) rfl ok_R_change (Nat.le_of_ble_eq_true rfl) (fun Zp hr => ?_)
  show Zp (0, [some (.ref 0), some (.int x1), some (.int x2), none], [], [], D)
  rw [g_R_change] at h
  refine hr.1 1 True _ _ (1, [some (.ref 0), some (.int x1), some (.int x2), none], [.int x1], [], D) rfl trivial ?_
  refine hr.2.1 _ (x1 < 0) _ _ rfl (fun c1 => ?_) (fun c1 => ?_)
  · replace h := zk_t h c1
    refine hr.1 1 True _ _ (24, [some (.ref 0), some (.int x1), some (.int x2), none], [.int (-1)], [], D) rfl trivial ?_
    exact hr.2.2.2 _ _ _ rfl trivial ⟨(congrArg (fun x => some (Value.int x.1)) (Option.some.inj h)), (congrArg (fun x => (([], x.2) : zx_S)) (Option.some.inj h))⟩
  · replace h := zk_f h c1
    refine hr.1 3 True _ _ (9, [some (.ref 0), some (.int x1), some (.int x2), none], [.int (zg_i D 0 3), .int x1], [], D) rfl trivial ?_
    refine hr.2.1 _ (zg_i D 0 3 ≤ x1) _ _ rfl (fun c9 => ?_) (fun c9 => ?_)
    · replace h := zk_t h c9
      refine hr.1 1 True _ _ (24, [some (.ref 0), some (.int x1), some (.int x2), none], [.int (-1)], [], D) rfl trivial ?_
      exact hr.2.2.2 _ _ _ rfl trivial ⟨(congrArg (fun x => some (Value.int x.1)) (Option.some.inj h)), (congrArg (fun x => (([], x.2) : zx_S)) (Option.some.inj h))⟩
    · replace h := zk_f h c9
      refine hr.1 1 True _ _ (13, [some (.ref 0), some (.int x1), some (.int x2), none], [.int x2], [], D) rfl trivial ?_
      refine hr.2.1 _ (x2 < 0) _ _ rfl (fun c13 => ?_) (fun c13 => ?_)
      · replace h := zk_t h c13
        refine hr.1 1 True _ _ (24, [some (.ref 0), some (.int x1), some (.int x2), none], [.int (-1)], [], D) rfl trivial ?_
        exact hr.2.2.2 _ _ _ rfl trivial ⟨(congrArg (fun x => some (Value.int x.1)) (Option.some.inj h)), (congrArg (fun x => (([], x.2) : zx_S)) (Option.some.inj h))⟩
      · replace h := zk_f h c13
        refine hr.1 2 True _ _ (20, [some (.ref 0), some (.int x1), some (.int x2), none], [.int 255, .int x2], [], D) rfl trivial ?_
        refine hr.2.1 _ (x2 ≤ 255) _ _ rfl (fun c20 => ?_) (fun c20 => ?_)
        · replace h := zk_t h c20
          obtain ⟨w3, h⟩ := zk_ck h
          obtain ⟨w4, h⟩ := zk_ck h
          refine hr.1 11 True _ _ (40, [some (.ref 0), some (.int x1), some (.int x2), some (.int (zg_i D 2 (zn x1)))], [.int (zg_i D 2 (zn x1))], [], zp_i D 2 (zn x1) x2) rfl ⟨⟨trivial, (zk_vp w3)⟩, (zk_vp w4)⟩ ?_
          exact hr.2.2.2 _ _ _ rfl trivial ⟨(congrArg (fun x => some (Value.int x.1)) (Option.some.inj h)), (congrArg (fun x => (([], x.2) : zx_S)) (Option.some.inj h))⟩
        · replace h := zk_f h c20
          refine hr.1 1 True _ _ (24, [some (.ref 0), some (.int x1), some (.int x2), none], [.int (-1)], [], D) rfl trivial ?_
          exact hr.2.2.2 _ _ _ rfl trivial ⟨(congrArg (fun x => some (Value.int x.1)) (Option.some.inj h)), (congrArg (fun x => (([], x.2) : zx_S)) (Option.some.inj h))⟩
set_option maxRecDepth 100000 in
set_option maxHeartbeats 4000000 in
theorem c_g_R_where {l : Launch} {E : zx_E} {d : Nat} {D : zx_D} {q : Int32} (h : g_R_where D = some q) : zx_MR l E 133 d [.ref 0] ([], D) (fun v S => v = some (.int q) ∧ S = ([], D)) := by
  refine zx_ofR (K := ck_R_where) rfl (by decide +kernel) rfl ok_R_where (Nat.le_of_ble_eq_true rfl) (fun Zp hr => ?_)
  show Zp (0, [some (.ref 0)], [], [], D)
  rw [g_R_where] at h
  refine hr.1 2 True _ _ (4, [some (.ref 0)], [.int (zg_i D 0 30)], [], D) rfl trivial ?_
  exact hr.2.2.2 _ _ _ rfl trivial ⟨(congrArg (fun x => some (Value.int x)) (Option.some.inj h)), rfl⟩
set_option maxRecDepth 100000 in
set_option maxHeartbeats 4000000 in
theorem c_g_R_watch {l : Launch} {E : zx_E} {d : Nat} {x1 : Int32} {D : zx_D} {q : Int32 × zx_D} (h : g_R_watch x1 D = some q) : zx_MR l E 134 d [.ref 0, .int x1] ([], D) (fun v S => v = some (.int q.1) ∧ S = ([], q.2)) := by
  refine zx_ofR (K := ck_R_watch) rfl (by decide +kernel) rfl ok_R_watch (Nat.le_of_ble_eq_true rfl) (fun Zp hr => ?_)
  show Zp (0, [some (.ref 0), some (.int x1)], [], [], D)
  rw [g_R_watch] at h
  refine hr.1 3 True _ _ (3, [some (.ref 0), some (.int x1)], [.int 1, .int x1, .ref 0], [], D) rfl trivial ?_
  refine hr.2.1 _ (1 ≤ x1) _ _ rfl (fun c3 => ?_) (fun c3 => ?_)
  · replace h := zk_t h c3
    refine hr.1 4 True _ _ (19, [some (.ref 0), some (.int x1)], [.int 1, .int x1], [], zp_i D 0 37 x1) rfl trivial ?_
    refine hr.2.1 _ (x1 < 1) _ _ rfl (fun c19 => ?_) (fun c19 => ?_)
    · replace h := zk_t h c19
      refine hr.1 1 True _ _ (27, [some (.ref 0), some (.int x1)], [.int 0], [], zp_i D 0 37 x1) rfl trivial ?_
      exact hr.2.2.2 _ _ _ rfl (Or.inl rfl) ⟨(congrArg (fun x => some (Value.int x.1)) (Option.some.inj h)), (congrArg (fun x => (([], x.2) : zx_S)) (Option.some.inj h))⟩
    · replace h := zk_f h c19
      refine hr.1 2 True _ _ (27, [some (.ref 0), some (.int x1)], [.int 1], [], zp_i D 0 37 x1) rfl trivial ?_
      exact hr.2.2.2 _ _ _ rfl (Or.inr rfl) ⟨(congrArg (fun x => some (Value.int x.1)) (Option.some.inj h)), (congrArg (fun x => (([], x.2) : zx_S)) (Option.some.inj h))⟩
  · replace h := zk_f h c3
    refine hr.1 6 True _ _ (19, [some (.ref 0), some (.int x1)], [.int 1, .int x1], [], zp_i D 0 37 (zg_i D 0 37)) rfl trivial ?_
    refine hr.2.1 _ (x1 < 1) _ _ rfl (fun c19 => ?_) (fun c19 => ?_)
    · replace h := zk_t h c19
      refine hr.1 1 True _ _ (27, [some (.ref 0), some (.int x1)], [.int 0], [], zp_i D 0 37 (zg_i D 0 37)) rfl trivial ?_
      exact hr.2.2.2 _ _ _ rfl (Or.inl rfl) ⟨(congrArg (fun x => some (Value.int x.1)) (Option.some.inj h)), (congrArg (fun x => (([], x.2) : zx_S)) (Option.some.inj h))⟩
    · replace h := zk_f h c19
      refine hr.1 2 True _ _ (27, [some (.ref 0), some (.int x1)], [.int 1], [], zp_i D 0 37 (zg_i D 0 37)) rfl trivial ?_
      exact hr.2.2.2 _ _ _ rfl (Or.inr rfl) ⟨(congrArg (fun x => some (Value.int x.1)) (Option.some.inj h)), (congrArg (fun x => (([], x.2) : zx_S)) (Option.some.inj h))⟩
set_option maxRecDepth 100000 in
set_option maxHeartbeats 4000000 in
theorem c_g_R_range {l : Launch} {E : zx_E} {d : Nat} {D : zx_D} {q : Int64} (h : g_R_range D = some q) : zx_MR l E 135 d [.ref 0] ([], D) (fun v S => v = some (.long q) ∧ S = ([], D)) := by
  refine zx_ofR (K := ck_R_range) rfl (by decide +kernel) rfl ok_R_range (Nat.le_of_ble_eq_true rfl) (fun Zp hr => ?_)
  show Zp (0, [some (.ref 0)], [], [], D)
  rw [g_R_range] at h
  refine hr.1 2 True _ _ (4, [some (.ref 0)], [.long (zg_l D 0 39)], [], D) rfl trivial ?_
  exact hr.2.2.2 _ _ _ rfl trivial ⟨(congrArg (fun x => some (Value.long x)) (Option.some.inj h)), rfl⟩
set_option maxRecDepth 100000 in
set_option maxHeartbeats 4000000 in
theorem c_g_R_code {l : Launch} {E : zx_E} {d : Nat} {D : zx_D} {q : Int64} (h : g_R_code D = some q) : zx_MR l E 136 d [.ref 0] ([], D) (fun v S => v = some (.long q) ∧ S = ([], D)) := by
  refine zx_ofR (K := ck_R_code) rfl (by decide +kernel) rfl ok_R_code (Nat.le_of_ble_eq_true rfl) (fun Zp hr => ?_)
  show Zp (0, [some (.ref 0)], [], [], D)
  rw [g_R_code] at h
  refine hr.1 2 True _ _ (4, [some (.ref 0)], [.long (zg_l D 0 40)], [], D) rfl trivial ?_
  exact hr.2.2.2 _ _ _ rfl trivial ⟨(congrArg (fun x => some (Value.long x)) (Option.some.inj h)), rfl⟩
set_option maxRecDepth 100000 in
set_option maxHeartbeats 4000000 in
theorem c_g_R_count {l : Launch} {E : zx_E} {d : Nat} {x1 : Int32} {D : zx_D} {q : Int32} (h : g_R_count x1 D = some q) : zx_MR l E 137 d [.ref 0, .int x1] ([], D) (fun v S => v = some (.int q) ∧ S = ([], D)) := by
  refine zx_ofR (K := ck_R_count) rfl (by decide +kernel) rfl ok_R_count (Nat.le_of_ble_eq_true rfl) (fun Zp hr => ?_)
  show Zp (0, [some (.ref 0), some (.int x1)], [], [], D)
  rw [g_R_count] at h
  refine hr.1 1 True _ _ (1, [some (.ref 0), some (.int x1)], [.int x1], [], D) rfl trivial ?_
  refine hr.2.1 _ (x1 < 0) _ _ rfl (fun c1 => ?_) (fun c1 => ?_)
  · replace h := zk_t h c1
    refine hr.1 2 True _ _ (20, [some (.ref 0), some (.int x1)], [.int (-1)], [], D) rfl trivial ?_
    exact hr.2.2.2 _ _ _ rfl trivial ⟨(congrArg (fun x => some (Value.int x)) (Option.some.inj h)), rfl⟩
  · replace h := zk_f h c1
    refine hr.1 2 True _ _ (7, [some (.ref 0), some (.int x1)], [.int 10, .int x1], [], D) rfl trivial ?_
    refine hr.2.1 _ (x1 ≤ 10) _ _ rfl (fun c7 => ?_) (fun c7 => ?_)
    · replace h := zk_t h c7
      obtain ⟨w2, h⟩ := zk_ck h
      refine hr.1 4 True _ _ (20, [some (.ref 0), some (.int x1)], [.int (zg_i D 9 (zn x1))], [], D) rfl ⟨trivial, (zk_vp w2)⟩ ?_
      exact hr.2.2.2 _ _ _ rfl trivial ⟨(congrArg (fun x => some (Value.int x)) (Option.some.inj h)), rfl⟩
    · replace h := zk_f h c7
      refine hr.1 2 True _ _ (20, [some (.ref 0), some (.int x1)], [.int (-1)], [], D) rfl trivial ?_
      exact hr.2.2.2 _ _ _ rfl trivial ⟨(congrArg (fun x => some (Value.int x)) (Option.some.inj h)), rfl⟩
set_option maxRecDepth 100000 in
set_option maxHeartbeats 4000000 in
theorem c_g_R_isSort {l : Launch} {E : zx_E} {d : Nat} {x0 : Int32} {D : zx_D} {q : Int32} (h : g_R_isSort x0 D = some q) : zx_MR l E 120 d [.int x0] ([], D) (fun v S => v = some (.int q) ∧ S = ([], D)) := by
  refine zx_ofR (K := ck_R_isSort) rfl (by decide +kernel) rfl ok_R_isSort (Nat.le_of_ble_eq_true rfl) (fun Zp hr => ?_)
  show Zp (0, [some (.int x0)], [], [], D)
  rw [g_R_isSort] at h
  refine hr.1 1 True _ _ (1, [some (.int x0)], [.int x0], [], D) rfl trivial ?_
  refine hr.2.1 _ (x0 = 0) _ _ rfl (fun c1 => ?_) (fun c1 => ?_)
  · replace h := zk_t h c1
    refine hr.1 2 True _ _ (19, [some (.int x0)], [.int 1], [], D) rfl trivial ?_
    exact hr.2.2.2 _ _ _ rfl (Or.inr rfl) ⟨(congrArg (fun x => some (Value.int x)) (Option.some.inj h)), rfl⟩
  · replace h := zk_f h c1
    refine hr.1 2 True _ _ (6, [some (.int x0)], [.int 1, .int x0], [], D) rfl trivial ?_
    refine hr.2.1 _ (x0 = 1) _ _ rfl (fun c6 => ?_) (fun c6 => ?_)
    · replace h := zk_t h c6
      refine hr.1 2 True _ _ (19, [some (.int x0)], [.int 1], [], D) rfl trivial ?_
      exact hr.2.2.2 _ _ _ rfl (Or.inr rfl) ⟨(congrArg (fun x => some (Value.int x)) (Option.some.inj h)), rfl⟩
    · replace h := zk_f h c6
      refine hr.1 2 True _ _ (11, [some (.int x0)], [.int 4, .int x0], [], D) rfl trivial ?_
      refine hr.2.1 _ (¬ x0 = 4) _ _ rfl (fun c11 => ?_) (fun c11 => ?_)
      · replace h := zk_t h c11
        refine hr.1 1 True _ _ (19, [some (.int x0)], [.int 0], [], D) rfl trivial ?_
        exact hr.2.2.2 _ _ _ rfl (Or.inl rfl) ⟨(congrArg (fun x => some (Value.int x)) (Option.some.inj h)), rfl⟩
      · replace h := zk_f h c11
        refine hr.1 2 True _ _ (19, [some (.int x0)], [.int 1], [], D) rfl trivial ?_
        exact hr.2.2.2 _ _ _ rfl (Or.inr rfl) ⟨(congrArg (fun x => some (Value.int x)) (Option.some.inj h)), rfl⟩
set_option maxRecDepth 100000 in
set_option maxHeartbeats 4000000 in
theorem c_g_R_isProperties {l : Launch} {E : zx_E} {d : Nat} {x0 : Int32} {D : zx_D} {q : Int32} (h : g_R_isProperties x0 D = some q) : zx_MR l E 126 d [.int x0] ([], D) (fun v S => v = some (.int q) ∧ S = ([], D)) := by
  refine zx_ofR (K := ck_R_isProperties) rfl (by decide +kernel) rfl ok_R_isProperties (Nat.le_of_ble_eq_true rfl) (fun Zp hr => ?_)
  show Zp (0, [some (.int x0)], [], [], D)
  rw [g_R_isProperties] at h
  refine hr.1 1 True _ _ (1, [some (.int x0)], [.int x0], [], D) rfl trivial ?_
  refine hr.2.1 _ (x0 < 0) _ _ rfl (fun c1 => ?_) (fun c1 => ?_)
  · replace h := zk_t h c1
    refine hr.1 1 True _ _ (31, [some (.int x0)], [.int 0], [], D) rfl trivial ?_
    exact hr.2.2.2 _ _ _ rfl (Or.inl rfl) ⟨(congrArg (fun x => some (Value.int x)) (Option.some.inj h)), rfl⟩
  · replace h := zk_f h c1
    refine hr.1 2 True _ _ (8, [some (.int x0)], [.int 225, .int x0], [], D) rfl trivial ?_
    refine hr.2.1 _ (225 ≤ x0) _ _ rfl (fun c8 => ?_) (fun c8 => ?_)
    · replace h := zk_t h c8
      refine hr.1 1 True _ _ (31, [some (.int x0)], [.int 0], [], D) rfl trivial ?_
      exact hr.2.2.2 _ _ _ rfl (Or.inl rfl) ⟨(congrArg (fun x => some (Value.int x)) (Option.some.inj h)), rfl⟩
    · replace h := zk_f h c8
      refine hr.1 10 True _ _ (23, [some (.int x0)], [.int 4, .int ((zo_rem x0 9) + (zo_rem (x0 / 9) 5))], [], D) rfl trivial ?_
      refine hr.2.1 _ (4 ≤ (zo_rem x0 9) + (zo_rem (x0 / 9) 5)) _ _ rfl (fun c23 => ?_) (fun c23 => ?_)
      · replace h := zk_t h c23
        refine hr.1 1 True _ _ (31, [some (.int x0)], [.int 0], [], D) rfl trivial ?_
        exact hr.2.2.2 _ _ _ rfl (Or.inl rfl) ⟨(congrArg (fun x => some (Value.int x)) (Option.some.inj h)), rfl⟩
      · replace h := zk_f h c23
        refine hr.1 2 True _ _ (31, [some (.int x0)], [.int 1], [], D) rfl trivial ?_
        exact hr.2.2.2 _ _ _ rfl (Or.inr rfl) ⟨(congrArg (fun x => some (Value.int x)) (Option.some.inj h)), rfl⟩
set_option maxRecDepth 100000 in
set_option maxHeartbeats 4000000 in
theorem c_g_R_magic {l : Launch} {E : zx_E} {d : Nat} {x0 : Int32} {D : zx_D} {q : Int32} (h : g_R_magic x0 D = some q) : zx_MR l E 119 d [.int x0] ([], D) (fun v S => v = some (.int q) ∧ S = ([], D)) := by
  refine zx_ofR (K := ck_R_magic) rfl (by decide +kernel) rfl ok_R_magic (Nat.le_of_ble_eq_true rfl) (fun Zp hr => ?_)
  show Zp (0, [some (.int x0)], [], [], D)
  rw [g_R_magic] at h
  refine hr.1 1 True _ _ (1, [some (.int x0)], [.int x0], [], D) rfl trivial ?_
  refine hr.2.1 _ (¬ x0 = 0) _ _ rfl (fun c1 => ?_) (fun c1 => ?_)
  · replace h := zk_t h c1
    refine hr.1 2 True _ _ (12, [some (.int x0)], [.int 1, .int x0], [], D) rfl trivial ?_
    refine hr.2.1 _ (¬ x0 = 1) _ _ rfl (fun c12 => ?_) (fun c12 => ?_)
    · replace h := zk_t h c12
      refine hr.1 2 True _ _ (22, [some (.int x0)], [.int 2, .int x0], [], D) rfl trivial ?_
      refine hr.2.1 _ (¬ x0 = 2) _ _ rfl (fun c22 => ?_) (fun c22 => ?_)
      · replace h := zk_t h c22
        refine hr.1 2 True _ _ (32, [some (.int x0)], [.int 3, .int x0], [], D) rfl trivial ?_
        refine hr.2.1 _ (¬ x0 = 3) _ _ rfl (fun c32 => ?_) (fun c32 => ?_)
        · replace h := zk_t h c32
          refine hr.1 2 True _ _ (42, [some (.int x0)], [.int 4, .int x0], [], D) rfl trivial ?_
          refine hr.2.1 _ (¬ x0 = 4) _ _ rfl (fun c42 => ?_) (fun c42 => ?_)
          · replace h := zk_t h c42
            refine hr.1 1 True _ _ (51, [some (.int x0)], [.int 0], [], D) rfl trivial ?_
            exact hr.2.2.2 _ _ _ rfl trivial ⟨(congrArg (fun x => some (Value.int x)) (Option.some.inj h)), rfl⟩
          · replace h := zk_f h c42
            refine hr.1 2 True _ _ (51, [some (.int x0)], [.int 90], [], D) rfl trivial ?_
            exact hr.2.2.2 _ _ _ rfl trivial ⟨(congrArg (fun x => some (Value.int x)) (Option.some.inj h)), rfl⟩
        · replace h := zk_f h c32
          refine hr.1 2 True _ _ (51, [some (.int x0)], [.int 88], [], D) rfl trivial ?_
          exact hr.2.2.2 _ _ _ rfl trivial ⟨(congrArg (fun x => some (Value.int x)) (Option.some.inj h)), rfl⟩
      · replace h := zk_f h c22
        refine hr.1 2 True _ _ (51, [some (.int x0)], [.int 122], [], D) rfl trivial ?_
        exact hr.2.2.2 _ _ _ rfl trivial ⟨(congrArg (fun x => some (Value.int x)) (Option.some.inj h)), rfl⟩
    · replace h := zk_f h c12
      refine hr.1 2 True _ _ (51, [some (.int x0)], [.int 55], [], D) rfl trivial ?_
      exact hr.2.2.2 _ _ _ rfl trivial ⟨(congrArg (fun x => some (Value.int x)) (Option.some.inj h)), rfl⟩
  · replace h := zk_f h c1
    refine hr.1 2 True _ _ (51, [some (.int x0)], [.int 253], [], D) rfl trivial ?_
    exact hr.2.2.2 _ _ _ rfl trivial ⟨(congrArg (fun x => some (Value.int x)) (Option.some.inj h)), rfl⟩
set_option maxRecDepth 100000 in
set_option maxHeartbeats 4000000 in
theorem c_g_R_write {l : Launch} {E : zx_E} {d : Nat} {x1 : Int32} {D : zx_D} {q : zx_D} (h : g_R_write x1 D = some q) : zx_MR l E 171 d [.ref 0, .int x1] ([], D) (fun v S => v = none ∧ S = ([], q)) := by
  refine zx_ofR (K := ck_R_write) rfl (by decide +kernel) rfl ok_R_write (Nat.le_of_ble_eq_true rfl) (fun Zp hr => ?_)
  show Zp (0, [some (.ref 0), some (.int x1)], [], [], D)
  rw [g_R_write] at h
  refine hr.1 3 True _ _ (7, [some (.ref 0), some (.int x1)], [.int 640, .int (zg_i D 0 7)], [], D) rfl trivial ?_
  refine hr.2.1 _ (640 ≤ zg_i D 0 7) _ _ rfl (fun c7 => ?_) (fun c7 => ?_)
  · replace h := zk_t h c7
    refine hr.1 6 True _ _ (30, [some (.ref 0), some (.int x1)], [], [], zp_i D 0 7 ((zg_i D 0 7) + 1)) rfl trivial ?_
    exact hr.2.2.2 _ _ _ rfl trivial ⟨rfl, (congrArg (fun x => (([], x) : zx_S)) (Option.some.inj h))⟩
  · replace h := zk_f h c7
    obtain ⟨w2, h⟩ := zk_ck h
    refine hr.1 12 True _ _ (30, [some (.ref 0), some (.int x1)], [], [], zp_i (zp_i D 4 (zn (zg_i D 0 7)) x1) 0 7 ((zg_i D 0 7) + 1)) rfl ⟨trivial, (zk_vp w2)⟩ ?_
    exact hr.2.2.2 _ _ _ rfl trivial ⟨rfl, (congrArg (fun x => (([], x) : zx_S)) (Option.some.inj h))⟩
set_option maxRecDepth 100000 in
set_option maxHeartbeats 4000000 in
theorem c_g_R_writeNumber {l : Launch} {E : zx_E} {d : Nat} {x1 : Int64} {x3 : Int32} {D : zx_D} {q : zx_D} (h : g_R_writeNumber x1 x3 D = some q) : zx_MR l E 172 (d + 1) [.ref 0, .long x1, .int x3] ([], D) (fun v S => v = none ∧ S = ([], q)) := by
  refine zx_ofR (K := ck_R_writeNumber) rfl (by decide +kernel) rfl ok_R_writeNumber (Nat.le_of_ble_eq_true rfl) (fun Zp hr => ?_)
  show Zp (0, [some (.ref 0), some (.long x1), none, some (.int x3), none], [], [], D)
  have loop3 : ∀ (x1 : Int64) (x3 : Int32) (k : Nat) (x4 : Int32) (D : zx_D) (q : zx_D), g_R_writeNumber_3 x1 x3 k x4 D = some q → (∀ (e4 : Int32), Zp (31, [some (.ref 0), some (.long x1), none, some (.int x3), some (.int e4)], [], [], q)) → Zp (3, [some (.ref 0), some (.long x1), none, some (.int x3), some (.int x4)], [], [], D) := by
    intro x1 x3 k
    induction k with
    | zero => intro x4 D q h hx; exact (zk_no h).elim
    | succ k ih =>
      intro x4 D q h hx
      rw [g_R_writeNumber_3] at h
      refine hr.1 2 True _ _ (6, [some (.ref 0), some (.long x1), none, some (.int x3), some (.int x4)], [.int x3, .int x4], [], D) rfl trivial ?_
      refine hr.2.1 _ (x3 ≤ x4) _ _ rfl (fun c6 => ?_) (fun c6 => ?_)
      · replace h := zk_t h c6
        replace h := Option.some.inj h
        subst h
        exact hx x4
      · replace h := zk_f h c6
        refine hr.1 9 True _ _ (22, [some (.ref 0), some (.long x1), none, some (.int x3), some (.int x4)], [.int ((((zo_lshr x1 (8 * x4)) &&& 255)).toInt32), .ref 0], [], D) rfl trivial ?_
        obtain ⟨q1, hc, h⟩ := zk_bind h
        refine hr.2.2.1 _ _ _ _ _ (d) rfl (by omega) (c_g_R_write (l := l) (E := E) (d := d) hc) (fun v S hq => ?_)
        obtain ⟨rfl, rfl⟩ := hq
        clear hc
        refine hr.1 2 True _ _ (3, [some (.ref 0), some (.long x1), none, some (.int x3), some (.int (x4 + 1))], [], [], q1) rfl trivial ?_
        exact ih (x4 + 1) q1 _ h hx
  rw [g_R_writeNumber] at h
  refine hr.1 2 True _ _ (3, [some (.ref 0), some (.long x1), none, some (.int x3), some (.int 0)], [], [], D) rfl trivial ?_
  obtain ⟨q2, hc, h⟩ := zk_bind h
  refine loop3 x1 x3 10000 0 D q2 hc (fun e4 => ?_)
  clear hc
  exact hr.2.2.2 _ _ _ rfl trivial ⟨rfl, (congrArg (fun x => (([], x) : zx_S)) (Option.some.inj h))⟩
set_option maxRecDepth 100000 in
set_option maxHeartbeats 4000000 in
theorem c_g_R_writeSum {l : Launch} {E : zx_E} {d : Nat} {x1 : Int32} {D : zx_D} {q : zx_D} (h : g_R_writeSum x1 D = some q) : zx_MR l E 173 (d + 2) [.ref 0, .int x1] ([], D) (fun v S => v = none ∧ S = ([], q)) := by
  refine zx_ofR (K := ck_R_writeSum) rfl (by decide +kernel) rfl ok_R_writeSum (Nat.le_of_ble_eq_true rfl) (fun Zp hr => ?_)
  show Zp (0, [some (.ref 0), some (.int x1), none, none, none], [], [], D)
  have loop7 : ∀ (D : zx_D) (k : Nat) (x2 : Int64) (x4 : Int32) (x1 : Int32) (q : Int64), g_R_writeSum_7 D k x2 x4 = some q → (∀ (e4 : Int32), Zp (42, [some (.ref 0), some (.int x1), some (.long q), none, some (.int e4)], [], [], D)) → Zp (7, [some (.ref 0), some (.int x1), some (.long x2), none, some (.int x4)], [], [], D) := by
    intro D k
    induction k with
    | zero => intro x2 x4 x1 q h hx; exact (zk_no h).elim
    | succ k ih =>
      intro x2 x4 x1 q h hx
      rw [g_R_writeSum_7] at h
      refine hr.1 3 True _ _ (13, [some (.ref 0), some (.int x1), some (.long x2), none, some (.int x4)], [.int (zg_i D 0 7), .int x4], [], D) rfl trivial ?_
      refine hr.2.1 _ (zg_i D 0 7 ≤ x4) _ _ rfl (fun c13 => ?_) (fun c13 => ?_)
      · replace h := zk_t h c13
        replace h := Option.some.inj h
        subst h
        exact hx x4
      · replace h := zk_f h c13
        refine hr.1 2 True _ _ (21, [some (.ref 0), some (.int x1), some (.long x2), none, some (.int x4)], [.int 640, .int x4], [], D) rfl trivial ?_
        refine hr.2.1 _ (640 ≤ x4) _ _ rfl (fun c21 => ?_) (fun c21 => ?_)
        · replace h := zk_t h c21
          replace h := Option.some.inj h
          subst h
          exact hx x4
        · replace h := zk_f h c21
          obtain ⟨w2, h⟩ := zk_ck h
          refine hr.1 5 True _ _ (32, [some (.ref 0), some (.int x1), some (.long x2), none, some (.int x4)], [.int (zg_i D 4 (zn x4)), .long x2], [], D) rfl ⟨trivial, (zk_vp w2)⟩ ?_
          obtain ⟨q1, hc, h⟩ := zk_bind h
          refine hr.2.2.1 _ _ _ _ _ (d + 1) rfl (by omega) (c_g_R_four (l := l) (E := E) (d := d + 1) hc) (fun v S hq => ?_)
          obtain ⟨rfl, rfl⟩ := hq
          clear hc
          refine hr.1 3 True _ _ (7, [some (.ref 0), some (.int x1), some (.long q1), none, some (.int (x4 + 1))], [], [], D) rfl trivial ?_
          exact ih q1 (x4 + 1)  _ _ h hx
  rw [g_R_writeSum] at h
  refine hr.1 4 True _ _ (7, [some (.ref 0), some (.int x1), some (.long 4294967295), none, some (.int x1)], [], [], D) rfl trivial ?_
  obtain ⟨q2, hc, h⟩ := zk_bind h
  refine loop7 D 10000 4294967295 x1 x1 q2 hc (fun e4 => ?_)
  clear hc
  refine hr.1 5 True _ _ (49, [some (.ref 0), some (.int x1), some (.long q2), none, some (.int e4)], [.int 4, .long (q2 ^^^ 4294967295), .ref 0], [], D) rfl trivial ?_
  obtain ⟨q3, hc, h⟩ := zk_bind h
  refine hr.2.2.1 _ _ _ _ _ (d + 1) rfl (by omega) (c_g_R_writeNumber (l := l) (E := E) (d := d) hc) (fun v S hq => ?_)
  obtain ⟨rfl, rfl⟩ := hq
  clear hc
  exact hr.2.2.2 _ _ _ rfl trivial ⟨rfl, (congrArg (fun x => (([], x) : zx_S)) (Option.some.inj h))⟩
set_option maxRecDepth 100000 in
set_option maxHeartbeats 4000000 in
theorem c_g_R_anew {l : Launch} {E : zx_E} {d : Nat} {D : zx_D} {q : zx_D} (h : g_R_anew D = some q) : zx_MR l E 138 d [.ref 0] ([], D) (fun v S => v = none ∧ S = ([], q)) := by
  refine zx_ofR (K := ck_R_anew) rfl (by decide +kernel) rfl ok_R_anew (Nat.le_of_ble_eq_true rfl) (fun Zp hr => ?_)
  show Zp (0, [some (.ref 0), none], [], [], D)
  have loop2 : ∀ (k : Nat) (x1 : Int32) (D : zx_D) (q : zx_D), g_R_anew_2 k x1 D = some q → (∀ (e1 : Int32), Zp (24, [some (.ref 0), some (.int e1)], [], [], q)) → Zp (2, [some (.ref 0), some (.int x1)], [], [], D) := by
    intro k
    induction k with
    | zero => intro x1 D q h hx; exact (zk_no h).elim
    | succ k ih =>
      intro x1 D q h hx
      rw [g_R_anew_2] at h
      refine hr.1 2 True _ _ (6, [some (.ref 0), some (.int x1)], [.int 8328, .int x1], [], D) rfl trivial ?_
      refine hr.2.1 _ (8328 ≤ x1) _ _ rfl (fun c6 => ?_) (fun c6 => ?_)
      · replace h := zk_t h c6
        replace h := Option.some.inj h
        subst h
        exact hx x1
      · replace h := zk_f h c6
        obtain ⟨w2, h⟩ := zk_ck h
        refine hr.1 7 True _ _ (2, [some (.ref 0), some (.int (x1 + 1))], [], [], zp_i D 5 (zn x1) 1024) rfl ⟨trivial, (zk_vp w2)⟩ ?_
        exact ih (x1 + 1) (zp_i D 5 (zn x1) 1024) _ h hx
  rw [g_R_anew] at h
  refine hr.1 2 True _ _ (2, [some (.ref 0), some (.int 0)], [], [], D) rfl trivial ?_
  obtain ⟨q1, hc, h⟩ := zk_bind h
  refine loop2 10000 0 D q1 hc (fun e1 => ?_)
  clear hc
  refine hr.1 15 True _ _ (49, [some (.ref 0), some (.int e1)], [], [], zp_l (zp_l (zp_l (zp_l (zp_i q1 0 12 0) 0 13 1) 0 14 1) 0 15 1) 0 16 1) rfl trivial ?_
  exact hr.2.2.2 _ _ _ rfl trivial ⟨rfl, (congrArg (fun x => (([], x) : zx_S)) (Option.some.inj h))⟩
set_option maxRecDepth 100000 in
set_option maxHeartbeats 4000000 in
theorem c_g_R_alike {l : Launch} {E : zx_E} {d : Nat} {x1 : Int32} {x2 : Int64} {x4 : Int32} {D : zx_D} {q : Int32} (h : g_R_alike x1 x2 x4 D = some q) : zx_MR l E 164 d [.ref 0, .int x1, .long x2, .int x4] ([], D) (fun v S => v = some (.int q) ∧ S = ([], D)) := by
  refine zx_ofR (K := ck_R_alike) rfl (by decide +kernel) rfl ok_R_alike (Nat.le_of_ble_eq_true rfl) (fun Zp hr => ?_)
  show Zp (0, [some (.ref 0), some (.int x1), some (.long x2), none, some (.int x4), none], [], [], D)
  have loop3 : ∀ (x1 : Int32) (x2 : Int64) (x4 : Int32) (D : zx_D) (k : Nat) (x5 : Int32) (q : Int32), g_R_alike_3 x1 x2 x4 D k x5 = some q → (True → Zp (47, [some (.ref 0), some (.int x1), some (.long x2), none, some (.int x4), some (.int q)], [], [], D)) → Zp (3, [some (.ref 0), some (.int x1), some (.long x2), none, some (.int x4), some (.int x5)], [], [], D) := by
    intro x1 x2 x4 D k
    induction k with
    | zero => intro x5 q h hx; exact (zk_no h).elim
    | succ k ih =>
      intro x5 q h hx
      rw [g_R_alike_3] at h
      refine hr.1 3 True _ _ (6, [some (.ref 0), some (.int x1), some (.long x2), none, some (.int x4), some (.int x5)], [.long ((x1).toInt64), .long x2], [], D) rfl trivial ?_
      refine hr.2.1 _ ((x1).toInt64 < x2) _ _ rfl (fun c6 => ?_) (fun c6 => ?_)
      · replace h := zk_t h c6
        replace h := Option.some.inj h
        subst h
        exact hx trivial
      · replace h := zk_f h c6
        refine hr.1 2 True _ _ (14, [some (.ref 0), some (.int x1), some (.long x2), none, some (.int x4), some (.int x5)], [.int x4, .int x5], [], D) rfl trivial ?_
        refine hr.2.1 _ (x4 ≤ x5) _ _ rfl (fun c14 => ?_) (fun c14 => ?_)
        · replace h := zk_t h c14
          replace h := Option.some.inj h
          subst h
          exact hx trivial
        · replace h := zk_f h c14
          obtain ⟨w3, h⟩ := zk_ck h
          obtain ⟨w4, h⟩ := zk_ck h
          refine hr.1 15 True _ _ (38, [some (.ref 0), some (.int x1), some (.long x2), none, some (.int x4), some (.int x5)], [.int (zg_i D 1 (zn ((x1 + x5) - ((x2).toInt32)))), .int (zg_i D 1 (zn (x1 + x5)))], [], D) rfl ⟨⟨trivial, (zk_vp w3)⟩, (zk_vp w4)⟩ ?_
          refine hr.2.1 _ (¬ zg_i D 1 (zn (x1 + x5)) = zg_i D 1 (zn ((x1 + x5) - ((x2).toInt32)))) _ _ rfl (fun c38 => ?_) (fun c38 => ?_)
          · replace h := zk_t h c38
            replace h := Option.some.inj h
            subst h
            exact hx trivial
          · replace h := zk_f h c38
            refine hr.1 2 True _ _ (3, [some (.ref 0), some (.int x1), some (.long x2), none, some (.int x4), some (.int (x5 + 1))], [], [], D) rfl trivial ?_
            exact ih (x5 + 1)  _ h hx
  rw [g_R_alike] at h
  refine hr.1 2 True _ _ (3, [some (.ref 0), some (.int x1), some (.long x2), none, some (.int x4), some (.int 0)], [], [], D) rfl trivial ?_
  obtain ⟨q1, hc, h⟩ := zk_bind h
  refine loop3 x1 x2 x4 D 10000 0 q1 hc (fun _ => ?_)
  clear hc
  refine hr.1 1 True _ _ (49, [some (.ref 0), some (.int x1), some (.long x2), none, some (.int x4), some (.int q1)], [.int q1], [], D) rfl trivial ?_
  exact hr.2.2.2 _ _ _ rfl trivial ⟨(congrArg (fun x => some (Value.int x)) (Option.some.inj h)), rfl⟩
set_option maxRecDepth 100000 in
set_option maxHeartbeats 4000000 in
theorem c_g_R_distanceOf {l : Launch} {E : zx_E} {d : Nat} {x1 : Int32} {D : zx_D} {q : Int64} (h : g_R_distanceOf x1 D = some q) : zx_MR l E 165 d [.ref 0, .int x1] ([], D) (fun v S => v = some (.long q) ∧ S = ([], D)) := by
  refine zx_ofR (K := ck_R_distanceOf) rfl (by decide +kernel) rfl ok_R_distanceOf (Nat.le_of_ble_eq_true rfl) (fun Zp hr => ?_)
  show Zp (0, [some (.ref 0), some (.int x1)], [], [], D)
  rw [g_R_distanceOf] at h
  refine hr.1 1 True _ _ (1, [some (.ref 0), some (.int x1)], [.int x1], [], D) rfl trivial ?_
  refine hr.2.1 _ (¬ x1 = 0) _ _ rfl (fun c1 => ?_) (fun c1 => ?_)
  · replace h := zk_t h c1
    refine hr.1 2 True _ _ (13, [some (.ref 0), some (.int x1)], [.int 1, .int x1], [], D) rfl trivial ?_
    refine hr.2.1 _ (¬ x1 = 1) _ _ rfl (fun c13 => ?_) (fun c13 => ?_)
    · replace h := zk_t h c13
      refine hr.1 2 True _ _ (25, [some (.ref 0), some (.int x1)], [.int 2, .int x1], [], D) rfl trivial ?_
      refine hr.2.1 _ (¬ x1 = 2) _ _ rfl (fun c25 => ?_) (fun c25 => ?_)
      · replace h := zk_t h c25
        refine hr.1 2 True _ _ (39, [some (.ref 0), some (.int x1)], [.long (zg_l D 0 16)], [], D) rfl trivial ?_
        exact hr.2.2.2 _ _ _ rfl trivial ⟨(congrArg (fun x => some (Value.long x)) (Option.some.inj h)), rfl⟩
      · replace h := zk_f h c25
        refine hr.1 3 True _ _ (39, [some (.ref 0), some (.int x1)], [.long (zg_l D 0 15)], [], D) rfl trivial ?_
        exact hr.2.2.2 _ _ _ rfl trivial ⟨(congrArg (fun x => some (Value.long x)) (Option.some.inj h)), rfl⟩
    · replace h := zk_f h c13
      refine hr.1 3 True _ _ (39, [some (.ref 0), some (.int x1)], [.long (zg_l D 0 14)], [], D) rfl trivial ?_
      exact hr.2.2.2 _ _ _ rfl trivial ⟨(congrArg (fun x => some (Value.long x)) (Option.some.inj h)), rfl⟩
  · replace h := zk_f h c1
    refine hr.1 3 True _ _ (39, [some (.ref 0), some (.int x1)], [.long (zg_l D 0 13)], [], D) rfl trivial ?_
    exact hr.2.2.2 _ _ _ rfl trivial ⟨(congrArg (fun x => some (Value.long x)) (Option.some.inj h)), rfl⟩
set_option maxRecDepth 100000 in
set_option maxHeartbeats 4000000 in
theorem c_g_R_low4 {l : Launch} {E : zx_E} {d : Nat} {x1 : Int32} {D : zx_D} {q : Int32} (h : g_R_low4 x1 D = some q) : zx_MR l E 147 d [.ref 0, .int x1] ([], D) (fun v S => v = some (.int q) ∧ S = ([], D)) := by
  refine zx_ofR (K := ck_R_low4) rfl (by decide +kernel) rfl ok_R_low4 (Nat.le_of_ble_eq_true rfl) (fun Zp hr => ?_)
  show Zp (0, [some (.ref 0), some (.int x1)], [], [], D)
  rw [g_R_low4] at h
  refine hr.1 8 True _ _ (10, [some (.ref 0), some (.int x1)], [.int (x1 &&& ((zo_shl 1 (zg_i D 0 11)) - 1))], [], D) rfl trivial ?_
  exact hr.2.2.2 _ _ _ rfl trivial ⟨(congrArg (fun x => some (Value.int x)) (Option.some.inj h)), rfl⟩
set_option maxRecDepth 100000 in
set_option maxHeartbeats 4000000 in
theorem c_g_R_shiftOut {l : Launch} {E : zx_E} {d : Nat} {D : zx_D} {q : zx_D} (h : g_R_shiftOut D = some q) : zx_MR l E 158 d [.ref 0] ([], D) (fun v S => v = none ∧ S = ([], q)) := by
  refine zx_ofR (K := ck_R_shiftOut) rfl (by decide +kernel) rfl ok_R_shiftOut (Nat.le_of_ble_eq_true rfl) (fun Zp hr => ?_)
  show Zp (0, [some (.ref 0)], [], [], D)
  rw [g_R_shiftOut] at h
  refine hr.1 3 True _ _ (7, [some (.ref 0)], [.long 16777216, .long (zg_l D 0 17)], [], D) rfl trivial ?_
  refine hr.2.1 _ (zg_l D 0 17 < 16777216) _ _ rfl (fun c7 => ?_) (fun c7 => ?_)
  · replace h := zk_t h c7
    refine hr.1 9 True _ _ (29, [some (.ref 0)], [.int (zg_i D 0 27), .ref 0], [], zp_l D 0 17 ((zg_l D 0 17) * 256)) rfl trivial ?_
    obtain ⟨q1, hj, h⟩ := zk_bind h
    have J50 : ∀ (_ : True), Zp (50, [some (.ref 0)], [.int q1, .ref 0], [], zp_l D 0 17 ((zg_l D 0 17) * 256)) := by
      intro _
      obtain ⟨w3, h⟩ := zk_ck h
      refine hr.1 3 True _ _ (57, [some (.ref 0)], [.int q1], [], zp_i (zp_l D 0 17 ((zg_l D 0 17) * 256)) 0 27 q1) rfl ⟨trivial, w3⟩ ?_
      refine hr.2.1 _ (¬ q1 = 0) _ _ rfl (fun c57 => ?_) (fun c57 => ?_)
      · replace h := zk_t h c57
        exact hr.2.2.2 _ _ _ rfl trivial ⟨rfl, (congrArg (fun x => (([], x) : zx_S)) (Option.some.inj h))⟩
      · replace h := zk_f h c57
        obtain ⟨w4, h⟩ := zk_ck h
        refine hr.1 12 True _ _ (80, [some (.ref 0)], [], [], zp_i (zp_i (zp_i (zp_l D 0 17 ((zg_l D 0 17) * 256)) 0 27 q1) 6 (zn (zg_i D 0 25)) 0) 0 25 ((zg_i D 0 25) + 1)) rfl ⟨trivial, (zk_vp w4)⟩ ?_
        exact hr.2.2.2 _ _ _ rfl trivial ⟨rfl, (congrArg (fun x => (([], x) : zx_S)) (Option.some.inj h))⟩
    clear h
    have h := hj
    clear hj
    refine hr.2.1 _ (¬ zg_i D 0 27 = 0) _ _ rfl (fun c29 => ?_) (fun c29 => ?_)
    · replace h := zk_t h c29
      refine hr.1 2 True _ _ (50, [some (.ref 0)], [.int 1, .ref 0], [], zp_l D 0 17 ((zg_l D 0 17) * 256)) rfl trivial ?_
      replace h := Option.some.inj h
      subst h
      exact J50 trivial
    · replace h := zk_f h c29
      refine hr.1 6 True _ _ (42, [some (.ref 0)], [.int (zg_i D 0 26), .int ((zg_i D 0 25) + 1), .ref 0], [], zp_l D 0 17 ((zg_l D 0 17) * 256)) rfl trivial ?_
      refine hr.2.1 _ ((zg_i D 0 25) + 1 < zg_i D 0 26) _ _ rfl (fun c42 => ?_) (fun c42 => ?_)
      · replace h := zk_t h c42
        refine hr.1 1 True _ _ (50, [some (.ref 0)], [.int 0, .ref 0], [], zp_l D 0 17 ((zg_l D 0 17) * 256)) rfl trivial ?_
        replace h := Option.some.inj h
        subst h
        exact J50 trivial
      · replace h := zk_f h c42
        refine hr.1 2 True _ _ (50, [some (.ref 0)], [.int 1, .ref 0], [], zp_l D 0 17 ((zg_l D 0 17) * 256)) rfl trivial ?_
        replace h := Option.some.inj h
        subst h
        exact J50 trivial
  · replace h := zk_f h c7
    exact hr.2.2.2 _ _ _ rfl trivial ⟨rfl, (congrArg (fun x => (([], x) : zx_S)) (Option.some.inj h))⟩
set_option maxRecDepth 100000 in
set_option maxHeartbeats 4000000 in
theorem c_g_R_learn {l : Launch} {E : zx_E} {d : Nat} {x1 : Int32} {x2 : Int32} {D : zx_D} {q : zx_D} (h : g_R_learn x1 x2 D = some q) : zx_MR l E 142 d [.ref 0, .int x1, .int x2] ([], D) (fun v S => v = none ∧ S = ([], q)) := by
  refine zx_ofR (K := ck_R_learn) rfl (by decide +kernel) rfl ok_R_learn (Nat.le_of_ble_eq_true rfl) (fun Zp hr => ?_)
  show Zp (0, [some (.ref 0), some (.int x1), some (.int x2), none], [], [], D)
  rw [g_R_learn] at h
  obtain ⟨w4, h⟩ := zk_ck h
  refine hr.1 9 True _ _ (13, [some (.ref 0), some (.int x1), some (.int x2), some (.int (zg_i D 5 (zn x1)))], [.int x2, .int x1, .ref 5], [], D) rfl ⟨trivial, (zk_vp w4)⟩ ?_
  refine hr.2.1 _ (x2 = 0) _ _ rfl (fun c13 => ?_) (fun c13 => ?_)
  · replace h := zk_t h c13
    obtain ⟨w5, h⟩ := zk_ck h
    refine hr.1 8 True _ _ (36, [some (.ref 0), some (.int x1), some (.int x2), some (.int (zg_i D 5 (zn x1)))], [], [], zp_i D 5 (zn x1) ((zg_i D 5 (zn x1)) + ((2048 - (zg_i D 5 (zn x1))) / 32))) rfl ⟨trivial, (zk_vp w5)⟩ ?_
    exact hr.2.2.2 _ _ _ rfl trivial ⟨rfl, (congrArg (fun x => (([], x) : zx_S)) (Option.some.inj h))⟩
  · replace h := zk_f h c13
    obtain ⟨w6, h⟩ := zk_ck h
    refine hr.1 7 True _ _ (36, [some (.ref 0), some (.int x1), some (.int x2), some (.int (zg_i D 5 (zn x1)))], [], [], zp_i D 5 (zn x1) ((zg_i D 5 (zn x1)) - ((zg_i D 5 (zn x1)) / 32))) rfl ⟨trivial, (zk_vp w6)⟩ ?_
    exact hr.2.2.2 _ _ _ rfl trivial ⟨rfl, (congrArg (fun x => (([], x) : zx_S)) (Option.some.inj h))⟩
set_option maxRecDepth 100000 in
set_option maxHeartbeats 4000000 in
theorem c_g_R_grow {l : Launch} {E : zx_E} {d : Nat} {x1 : Int64} {D : zx_D} {q : zx_D} (h : g_R_grow x1 D = some q) : zx_MR l E 159 d [.ref 0, .long x1] ([], D) (fun v S => v = none ∧ S = ([], q)) := by
  refine zx_ofR (K := ck_R_grow) rfl (by decide +kernel) rfl ok_R_grow (Nat.le_of_ble_eq_true rfl) (fun Zp hr => ?_)
  show Zp (0, [some (.ref 0), some (.long x1), none, none, none, none], [], [], D)
  have loop10 : ∀ (k : Nat) (x3 : Int64) (x5 : Int32) (D : zx_D) (x1 : Int64) (q : zx_D), g_R_grow_10 k x3 x5 D = some q → (∀ (e3 : Int64) (e5 : Int32), Zp (63, [some (.ref 0), some (.long x1), none, some (.long e3), none, some (.int e5)], [], [], q)) → Zp (10, [some (.ref 0), some (.long x1), none, some (.long x3), none, some (.int x5)], [], [], D) := by
    intro k
    induction k with
    | zero => intro x3 x5 D x1 q h hx; exact (zk_no h).elim
    | succ k ih =>
      intro x3 x5 D x1 q h hx
      rw [g_R_grow_10] at h
      refine hr.1 1 True _ _ (12, [some (.ref 0), some (.long x1), none, some (.long x3), none, some (.int x5)], [.int x5], [], D) rfl trivial ?_
      refine hr.2.1 _ (x5 < 0) _ _ rfl (fun c12 => ?_) (fun c12 => ?_)
      · replace h := zk_t h c12
        replace h := Option.some.inj h
        subst h
        exact hx x3 x5
      · replace h := zk_f h c12
        refine hr.1 2 True _ _ (17, [some (.ref 0), some (.long x1), none, some (.long x3), none, some (.int x5)], [.long 0, .long x3], [], D) rfl trivial ?_
        refine hr.2.1 _ (x3 ≤ 0) _ _ rfl (fun c17 => ?_) (fun c17 => ?_)
        · replace h := zk_t h c17
          replace h := Option.some.inj h
          subst h
          exact hx x3 x5
        · replace h := zk_f h c17
          refine hr.1 2 True _ _ (25, [some (.ref 0), some (.long x1), none, some (.long x3), none, some (.int x5)], [.int (zg_i D 0 27)], [], D) rfl trivial ?_
          refine hr.2.1 _ (¬ zg_i D 0 27 = 0) _ _ rfl (fun c25 => ?_) (fun c25 => ?_)
          · replace h := zk_t h c25
            replace h := Option.some.inj h
            subst h
            exact hx x3 x5
          · replace h := zk_f h c25
            obtain ⟨w3, h⟩ := zk_ck h
            obtain ⟨w4, h⟩ := zk_ck h
            refine hr.1 22 True _ _ (10, [some (.ref 0), some (.long x1), none, some (.long (zo_lshr (x3 + (((zg_i D 6 (zn x5))).toInt64)) 8)), none, some (.int (x5 + (-1)))], [], [], zp_i D 6 (zn x5) ((((x3 + (((zg_i D 6 (zn x5))).toInt64)) &&& 255)).toInt32)) rfl ⟨⟨trivial, (zk_vp w3)⟩, (zk_vp w4)⟩ ?_
            exact ih (zo_lshr (x3 + (((zg_i D 6 (zn x5))).toInt64)) 8) (x5 + (-1)) (zp_i D 6 (zn x5) ((((x3 + (((zg_i D 6 (zn x5))).toInt64)) &&& 255)).toInt32)) _ _ h hx
  rw [g_R_grow] at h
  refine hr.1 7 True _ _ (10, [some (.ref 0), some (.long x1), none, some (.long x1), none, some (.int ((zg_i D 0 25) - 1))], [], [], D) rfl trivial ?_
  obtain ⟨q1, hc, h⟩ := zk_bind h
  refine loop10 10000 x1 ((zg_i D 0 25) - 1) D x1 q1 hc (fun e3 e5 => ?_)
  clear hc
  exact hr.2.2.2 _ _ _ rfl trivial ⟨rfl, (congrArg (fun x => (([], x) : zx_S)) (Option.some.inj h))⟩
set_option maxRecDepth 100000 in
set_option maxHeartbeats 4000000 in
theorem c_g_R_put {l : Launch} {E : zx_E} {d : Nat} {x1 : Int32} {x2 : Int32} {D : zx_D} {q : zx_D} (h : g_R_put x1 x2 D = some q) : zx_MR l E 160 (d + 1) [.ref 0, .int x1, .int x2] ([], D) (fun v S => v = none ∧ S = ([], q)) := by
  refine zx_ofR (K := ck_R_put) rfl (by decide +kernel) rfl ok_R_put (Nat.le_of_ble_eq_true rfl) (fun Zp hr => ?_)
  show Zp (0, [some (.ref 0), some (.int x1), some (.int x2), none, none], [], [], D)
  rw [g_R_put] at h
  refine hr.1 1 True _ _ (1, [some (.ref 0), some (.int x1), some (.int x2), none, none], [.ref 0], [], D) rfl trivial ?_
  obtain ⟨q1, hc, h⟩ := zk_bind h
  refine hr.2.2.1 _ _ _ _ _ (d) rfl (by omega) (c_g_R_shiftOut (l := l) (E := E) (d := d) hc) (fun v S hq => ?_)
  obtain ⟨rfl, rfl⟩ := hq
  clear hc
  obtain ⟨w2, h⟩ := zk_ck h
  refine hr.1 15 True _ _ (25, [some (.ref 0), some (.int x1), some (.int x2), some (.long (((zg_l q1 0 17) / 2048) * (((zg_i q1 5 (zn x1))).toInt64))), none], [.int 1, .int x2, .int x1, .ref 0], [], q1) rfl ⟨trivial, (zk_vp w2)⟩ ?_
  obtain ⟨q2, hj, h⟩ := zk_bind h
  have J33 : ∀ (_ : True), Zp (33, [some (.ref 0), some (.int x1), some (.int x2), some (.long (((zg_l q1 0 17) / 2048) * (((zg_i q1 5 (zn x1))).toInt64))), none], [.int q2, .int x1, .ref 0], [], q1) := by
    intro _
    obtain ⟨q3, hc, h⟩ := zk_bind h
    refine hr.2.2.1 _ _ _ _ _ (d) rfl (by omega) (c_g_R_learn (l := l) (E := E) (d := d) hc) (fun v S hq => ?_)
    obtain ⟨rfl, rfl⟩ := hq
    clear hc
    refine hr.1 2 True _ _ (38, [some (.ref 0), some (.int x1), some (.int x2), some (.long (((zg_l q1 0 17) / 2048) * (((zg_i q1 5 (zn x1))).toInt64))), none], [.int 1, .int x2], [], q3) rfl trivial ?_
    obtain ⟨q5, hj, h⟩ := zk_bind h
    have J46 : ∀ (_ : True), Zp (46, [some (.ref 0), some (.int x1), some (.int x2), some (.long (((zg_l q1 0 17) / 2048) * (((zg_i q1 5 (zn x1))).toInt64))), none], [], [], q5) := by
      intro _
      refine hr.1 3 True _ _ (49, [some (.ref 0), some (.int x1), some (.int x2), some (.long (((zg_l q1 0 17) / 2048) * (((zg_i q1 5 (zn x1))).toInt64))), none], [.int 1, .int x2, .ref 0], [], q5) rfl trivial ?_
      refine hr.2.1 _ (¬ x2 = 1) _ _ rfl (fun c49 => ?_) (fun c49 => ?_)
      · replace h := zk_t h c49
        refine hr.1 2 True _ _ (65, [some (.ref 0), some (.int x1), some (.int x2), some (.long (((zg_l q1 0 17) / 2048) * (((zg_i q1 5 (zn x1))).toInt64))), none], [], [], zp_l q5 0 17 (((zg_l q1 0 17) / 2048) * (((zg_i q1 5 (zn x1))).toInt64))) rfl trivial ?_
        exact hr.2.2.2 _ _ _ rfl trivial ⟨rfl, (congrArg (fun x => (([], x) : zx_S)) (Option.some.inj h))⟩
      · replace h := zk_f h c49
        refine hr.1 6 True _ _ (65, [some (.ref 0), some (.int x1), some (.int x2), some (.long (((zg_l q1 0 17) / 2048) * (((zg_i q1 5 (zn x1))).toInt64))), none], [], [], zp_l q5 0 17 ((zg_l q5 0 17) - (((zg_l q1 0 17) / 2048) * (((zg_i q1 5 (zn x1))).toInt64)))) rfl trivial ?_
        exact hr.2.2.2 _ _ _ rfl trivial ⟨rfl, (congrArg (fun x => (([], x) : zx_S)) (Option.some.inj h))⟩
    clear h
    have h := hj
    clear hj
    refine hr.2.1 _ (¬ x2 = 1) _ _ rfl (fun c38 => ?_) (fun c38 => ?_)
    · replace h := zk_t h c38
      replace h := Option.some.inj h
      subst h
      exact J46 trivial
    · replace h := zk_f h c38
      refine hr.1 2 True _ _ (43, [some (.ref 0), some (.int x1), some (.int x2), some (.long (((zg_l q1 0 17) / 2048) * (((zg_i q1 5 (zn x1))).toInt64))), none], [.long (((zg_l q1 0 17) / 2048) * (((zg_i q1 5 (zn x1))).toInt64)), .ref 0], [], q3) rfl trivial ?_
      obtain ⟨q4, hc, h⟩ := zk_bind h
      refine hr.2.2.1 _ _ _ _ _ (d) rfl (by omega) (c_g_R_grow (l := l) (E := E) (d := d) hc) (fun v S hq => ?_)
      obtain ⟨rfl, rfl⟩ := hq
      clear hc
      replace h := Option.some.inj h
      subst h
      exact J46 trivial
  clear h
  have h := hj
  clear hj
  refine hr.2.1 _ (¬ x2 = 1) _ _ rfl (fun c25 => ?_) (fun c25 => ?_)
  · replace h := zk_t h c25
    refine hr.1 1 True _ _ (33, [some (.ref 0), some (.int x1), some (.int x2), some (.long (((zg_l q1 0 17) / 2048) * (((zg_i q1 5 (zn x1))).toInt64))), none], [.int 0, .int x1, .ref 0], [], q1) rfl trivial ?_
    replace h := Option.some.inj h
    subst h
    exact J33 trivial
  · replace h := zk_f h c25
    refine hr.1 2 True _ _ (33, [some (.ref 0), some (.int x1), some (.int x2), some (.long (((zg_l q1 0 17) / 2048) * (((zg_i q1 5 (zn x1))).toInt64))), none], [.int 1, .int x1, .ref 0], [], q1) rfl trivial ?_
    replace h := Option.some.inj h
    subst h
    exact J33 trivial
set_option maxRecDepth 100000 in
set_option maxHeartbeats 4000000 in
theorem c_g_R_putTree {l : Launch} {E : zx_E} {d : Nat} {x1 : Int32} {x2 : Int32} {x3 : Int32} {D : zx_D} {q : zx_D} (h : g_R_putTree x1 x2 x3 D = some q) : zx_MR l E 162 (d + 2) [.ref 0, .int x1, .int x2, .int x3] ([], D) (fun v S => v = none ∧ S = ([], q)) := by
  refine zx_ofR (K := ck_R_putTree) rfl (by decide +kernel) rfl ok_R_putTree (Nat.le_of_ble_eq_true rfl) (fun Zp hr => ?_)
  show Zp (0, [some (.ref 0), some (.int x1), some (.int x2), some (.int x3), none, none], [], [], D)
  have loop8 : ∀ (x1 : Int32) (x3 : Int32) (k : Nat) (x4 : Int32) (x5 : Int32) (D : zx_D) (x2 : Int32) (q : zx_D), g_R_putTree_8 x1 x3 k x4 x5 D = some q → (∀ (e4 : Int32) (e5 : Int32), Zp (46, [some (.ref 0), some (.int x1), some (.int x2), some (.int x3), some (.int e4), some (.int e5)], [], [], q)) → Zp (8, [some (.ref 0), some (.int x1), some (.int x2), some (.int x3), some (.int x4), some (.int x5)], [], [], D) := by
    intro x1 x3 k
    induction k with
    | zero => intro x4 x5 D x2 q h hx; exact (zk_no h).elim
    | succ k ih =>
      intro x4 x5 D x2 q h hx
      rw [g_R_putTree_8] at h
      refine hr.1 1 True _ _ (10, [some (.ref 0), some (.int x1), some (.int x2), some (.int x3), some (.int x4), some (.int x5)], [.int x5], [], D) rfl trivial ?_
      refine hr.2.1 _ (x5 < 0) _ _ rfl (fun c10 => ?_) (fun c10 => ?_)
      · replace h := zk_t h c10
        replace h := Option.some.inj h
        subst h
        exact hx x4 x5
      · replace h := zk_f h c10
        refine hr.1 9 True _ _ (24, [some (.ref 0), some (.int x1), some (.int x2), some (.int x3), some (.int x4), some (.int x5)], [.int ((zo_shr x3 x5) &&& 1), .int (x1 + x4), .ref 0], [], D) rfl trivial ?_
        obtain ⟨q1, hc, h⟩ := zk_bind h
        refine hr.2.2.1 _ _ _ _ _ (d + 1) rfl (by omega) (c_g_R_put (l := l) (E := E) (d := d) hc) (fun v S hq => ?_)
        obtain ⟨rfl, rfl⟩ := hq
        clear hc
        refine hr.1 12 True _ _ (8, [some (.ref 0), some (.int x1), some (.int x2), some (.int x3), some (.int ((2 * x4) + ((zo_shr x3 x5) &&& 1))), some (.int (x5 + (-1)))], [], [], q1) rfl trivial ?_
        exact ih ((2 * x4) + ((zo_shr x3 x5) &&& 1)) (x5 + (-1)) q1 _ _ h hx
  rw [g_R_putTree] at h
  refine hr.1 6 True _ _ (8, [some (.ref 0), some (.int x1), some (.int x2), some (.int x3), some (.int 1), some (.int (x2 - 1))], [], [], D) rfl trivial ?_
  obtain ⟨q2, hc, h⟩ := zk_bind h
  refine loop8 x1 x3 10000 1 (x2 - 1) D x2 q2 hc (fun e4 e5 => ?_)
  clear hc
  exact hr.2.2.2 _ _ _ rfl trivial ⟨rfl, (congrArg (fun x => (([], x) : zx_S)) (Option.some.inj h))⟩
set_option maxRecDepth 100000 in
set_option maxHeartbeats 4000000 in
theorem c_g_R_putLength {l : Launch} {E : zx_E} {d : Nat} {x1 : Int32} {x2 : Int32} {x3 : Int32} {D : zx_D} {q : zx_D} (h : g_R_putLength x1 x2 x3 D = some q) : zx_MR l E 169 (d + 3) [.ref 0, .int x1, .int x2, .int x3] ([], D) (fun v S => v = none ∧ S = ([], q)) := by
  refine zx_ofR (K := ck_R_putLength) rfl (by decide +kernel) rfl ok_R_putLength (Nat.le_of_ble_eq_true rfl) (fun Zp hr => ?_)
  show Zp (0, [some (.ref 0), some (.int x1), some (.int x2), some (.int x3)], [], [], D)
  rw [g_R_putLength] at h
  refine hr.1 4 True _ _ (5, [some (.ref 0), some (.int x1), some (.int x2), some (.int x3)], [.int 10, .int x2, .int x1, .ref 0], [], D) rfl trivial ?_
  obtain ⟨q1, hj, h⟩ := zk_bind h
  have J13 : ∀ (_ : True), Zp (13, [some (.ref 0), some (.int x1), some (.int x2), some (.int x3)], [.int q1, .int x1, .ref 0], [], D) := by
    intro _
    obtain ⟨q2, hc, h⟩ := zk_bind h
    refine hr.2.2.1 _ _ _ _ _ (d + 2) rfl (by omega) (c_g_R_put (l := l) (E := E) (d := d + 1) hc) (fun v S hq => ?_)
    obtain ⟨rfl, rfl⟩ := hq
    clear hc
    refine hr.1 2 True _ _ (19, [some (.ref 0), some (.int x1), some (.int x2), some (.int x3)], [.int 10, .int x2], [], q2) rfl trivial ?_
    refine hr.2.1 _ (10 ≤ x2) _ _ rfl (fun c19 => ?_) (fun c19 => ?_)
    · replace h := zk_t h c19
      refine hr.1 6 True _ _ (46, [some (.ref 0), some (.int x1), some (.int x2), some (.int x3)], [.int 18, .int x2, .int (x1 + 1), .ref 0], [], q2) rfl trivial ?_
      obtain ⟨q3, hj, h⟩ := zk_bind h
      have J54 : ∀ (_ : True), Zp (54, [some (.ref 0), some (.int x1), some (.int x2), some (.int x3)], [.int q3, .int (x1 + 1), .ref 0], [], q2) := by
        intro _
        obtain ⟨q4, hc, h⟩ := zk_bind h
        refine hr.2.2.1 _ _ _ _ _ (d + 2) rfl (by omega) (c_g_R_put (l := l) (E := E) (d := d + 1) hc) (fun v S hq => ?_)
        obtain ⟨rfl, rfl⟩ := hq
        clear hc
        refine hr.1 2 True _ _ (60, [some (.ref 0), some (.int x1), some (.int x2), some (.int x3)], [.int 18, .int x2], [], q4) rfl trivial ?_
        refine hr.2.1 _ (18 ≤ x2) _ _ rfl (fun c60 => ?_) (fun c60 => ?_)
        · replace h := zk_t h c60
          refine hr.1 8 True _ _ (97, [some (.ref 0), some (.int x1), some (.int x2), some (.int x3)], [.int (x2 - 18), .int 8, .int (x1 + 258), .ref 0], [], q4) rfl trivial ?_
          obtain ⟨q5, hc, h⟩ := zk_bind h
          refine hr.2.2.1 _ _ _ _ _ (d + 2) rfl (by omega) (c_g_R_putTree (l := l) (E := E) (d := d) hc) (fun v S hq => ?_)
          obtain ⟨rfl, rfl⟩ := hq
          clear hc
          exact hr.2.2.2 _ _ _ rfl trivial ⟨rfl, (congrArg (fun x => (([], x) : zx_S)) (Option.some.inj h))⟩
        · replace h := zk_f h c60
          refine hr.1 12 True _ _ (79, [some (.ref 0), some (.int x1), some (.int x2), some (.int x3)], [.int (x2 - 10), .int 3, .int ((x1 + 130) + (8 * x3)), .ref 0], [], q4) rfl trivial ?_
          obtain ⟨q6, hc, h⟩ := zk_bind h
          refine hr.2.2.1 _ _ _ _ _ (d + 2) rfl (by omega) (c_g_R_putTree (l := l) (E := E) (d := d) hc) (fun v S hq => ?_)
          obtain ⟨rfl, rfl⟩ := hq
          clear hc
          refine hr.1 1 True _ _ (100, [some (.ref 0), some (.int x1), some (.int x2), some (.int x3)], [], [], q6) rfl trivial ?_
          exact hr.2.2.2 _ _ _ rfl trivial ⟨rfl, (congrArg (fun x => (([], x) : zx_S)) (Option.some.inj h))⟩
      clear h
      have h := hj
      clear hj
      refine hr.2.1 _ (18 ≤ x2) _ _ rfl (fun c46 => ?_) (fun c46 => ?_)
      · replace h := zk_t h c46
        refine hr.1 1 True _ _ (54, [some (.ref 0), some (.int x1), some (.int x2), some (.int x3)], [.int 1, .int (x1 + 1), .ref 0], [], q2) rfl trivial ?_
        replace h := Option.some.inj h
        subst h
        exact J54 trivial
      · replace h := zk_f h c46
        refine hr.1 2 True _ _ (54, [some (.ref 0), some (.int x1), some (.int x2), some (.int x3)], [.int 0, .int (x1 + 1), .ref 0], [], q2) rfl trivial ?_
        replace h := Option.some.inj h
        subst h
        exact J54 trivial
    · replace h := zk_f h c19
      refine hr.1 12 True _ _ (35, [some (.ref 0), some (.int x1), some (.int x2), some (.int x3)], [.int (x2 - 2), .int 3, .int ((x1 + 2) + (8 * x3)), .ref 0], [], q2) rfl trivial ?_
      obtain ⟨q7, hc, h⟩ := zk_bind h
      refine hr.2.2.1 _ _ _ _ _ (d + 2) rfl (by omega) (c_g_R_putTree (l := l) (E := E) (d := d) hc) (fun v S hq => ?_)
      obtain ⟨rfl, rfl⟩ := hq
      clear hc
      exact hr.2.2.2 _ _ _ rfl trivial ⟨rfl, (congrArg (fun x => (([], x) : zx_S)) (Option.some.inj h))⟩
  clear h
  have h := hj
  clear hj
  refine hr.2.1 _ (10 ≤ x2) _ _ rfl (fun c5 => ?_) (fun c5 => ?_)
  · replace h := zk_t h c5
    refine hr.1 1 True _ _ (13, [some (.ref 0), some (.int x1), some (.int x2), some (.int x3)], [.int 1, .int x1, .ref 0], [], D) rfl trivial ?_
    replace h := Option.some.inj h
    subst h
    exact J13 trivial
  · replace h := zk_f h c5
    refine hr.1 2 True _ _ (13, [some (.ref 0), some (.int x1), some (.int x2), some (.int x3)], [.int 0, .int x1, .ref 0], [], D) rfl trivial ?_
    replace h := Option.some.inj h
    subst h
    exact J13 trivial
set_option maxRecDepth 100000 in
set_option maxHeartbeats 4000000 in
theorem c_g_R_putBackwards {l : Launch} {E : zx_E} {d : Nat} {x1 : Int32} {x2 : Int32} {x3 : Int32} {D : zx_D} {q : zx_D} (h : g_R_putBackwards x1 x2 x3 D = some q) : zx_MR l E 163 (d + 2) [.ref 0, .int x1, .int x2, .int x3] ([], D) (fun v S => v = none ∧ S = ([], q)) := by
  refine zx_ofR (K := ck_R_putBackwards) rfl (by decide +kernel) rfl ok_R_putBackwards (Nat.le_of_ble_eq_true rfl) (fun Zp hr => ?_)
  show Zp (0, [some (.ref 0), some (.int x1), some (.int x2), some (.int x3), none, none], [], [], D)
  have loop6 : ∀ (x1 : Int32) (x2 : Int32) (x3 : Int32) (k : Nat) (x4 : Int32) (x5 : Int32) (D : zx_D) (q : zx_D), g_R_putBackwards_6 x1 x2 x3 k x4 x5 D = some q → (∀ (e4 : Int32) (e5 : Int32), Zp (45, [some (.ref 0), some (.int x1), some (.int x2), some (.int x3), some (.int e4), some (.int e5)], [], [], q)) → Zp (6, [some (.ref 0), some (.int x1), some (.int x2), some (.int x3), some (.int x4), some (.int x5)], [], [], D) := by
    intro x1 x2 x3 k
    induction k with
    | zero => intro x4 x5 D q h hx; exact (zk_no h).elim
    | succ k ih =>
      intro x4 x5 D q h hx
      rw [g_R_putBackwards_6] at h
      refine hr.1 2 True _ _ (9, [some (.ref 0), some (.int x1), some (.int x2), some (.int x3), some (.int x4), some (.int x5)], [.int x2, .int x5], [], D) rfl trivial ?_
      refine hr.2.1 _ (x2 ≤ x5) _ _ rfl (fun c9 => ?_) (fun c9 => ?_)
      · replace h := zk_t h c9
        replace h := Option.some.inj h
        subst h
        exact hx x4 x5
      · replace h := zk_f h c9
        refine hr.1 9 True _ _ (23, [some (.ref 0), some (.int x1), some (.int x2), some (.int x3), some (.int x4), some (.int x5)], [.int ((zo_shr x3 x5) &&& 1), .int (x1 + x4), .ref 0], [], D) rfl trivial ?_
        obtain ⟨q1, hc, h⟩ := zk_bind h
        refine hr.2.2.1 _ _ _ _ _ (d + 1) rfl (by omega) (c_g_R_put (l := l) (E := E) (d := d) hc) (fun v S hq => ?_)
        obtain ⟨rfl, rfl⟩ := hq
        clear hc
        refine hr.1 12 True _ _ (6, [some (.ref 0), some (.int x1), some (.int x2), some (.int x3), some (.int ((2 * x4) + ((zo_shr x3 x5) &&& 1))), some (.int (x5 + 1))], [], [], q1) rfl trivial ?_
        exact ih ((2 * x4) + ((zo_shr x3 x5) &&& 1)) (x5 + 1) q1 _ h hx
  rw [g_R_putBackwards] at h
  refine hr.1 4 True _ _ (6, [some (.ref 0), some (.int x1), some (.int x2), some (.int x3), some (.int 1), some (.int 0)], [], [], D) rfl trivial ?_
  obtain ⟨q2, hc, h⟩ := zk_bind h
  refine loop6 x1 x2 x3 10000 1 0 D q2 hc (fun e4 e5 => ?_)
  clear hc
  exact hr.2.2.2 _ _ _ rfl trivial ⟨rfl, (congrArg (fun x => (([], x) : zx_S)) (Option.some.inj h))⟩
set_option maxRecDepth 100000 in
set_option maxHeartbeats 4000000 in
theorem c_g_R_putEven {l : Launch} {E : zx_E} {d : Nat} {x1 : Int32} {D : zx_D} {q : zx_D} (h : g_R_putEven x1 D = some q) : zx_MR l E 161 (d + 1) [.ref 0, .int x1] ([], D) (fun v S => v = none ∧ S = ([], q)) := by
  refine zx_ofR (K := ck_R_putEven) rfl (by decide +kernel) rfl ok_R_putEven (Nat.le_of_ble_eq_true rfl) (fun Zp hr => ?_)
  show Zp (0, [some (.ref 0), some (.int x1)], [], [], D)
  rw [g_R_putEven] at h
  refine hr.1 1 True _ _ (1, [some (.ref 0), some (.int x1)], [.ref 0], [], D) rfl trivial ?_
  obtain ⟨q1, hc, h⟩ := zk_bind h
  refine hr.2.2.1 _ _ _ _ _ (d) rfl (by omega) (c_g_R_shiftOut (l := l) (E := E) (d := d) hc) (fun v S hq => ?_)
  obtain ⟨rfl, rfl⟩ := hq
  clear hc
  refine hr.1 8 True _ _ (18, [some (.ref 0), some (.int x1)], [.int 1, .int x1], [], zp_l q1 0 17 ((zg_l q1 0 17) / 2)) rfl trivial ?_
  refine hr.2.1 _ (¬ x1 = 1) _ _ rfl (fun c18 => ?_) (fun c18 => ?_)
  · replace h := zk_t h c18
    exact hr.2.2.2 _ _ _ rfl trivial ⟨rfl, (congrArg (fun x => (([], x) : zx_S)) (Option.some.inj h))⟩
  · replace h := zk_f h c18
    refine hr.1 3 True _ _ (26, [some (.ref 0), some (.int x1)], [.long ((zg_l q1 0 17) / 2), .ref 0], [], zp_l q1 0 17 ((zg_l q1 0 17) / 2)) rfl trivial ?_
    obtain ⟨q2, hc, h⟩ := zk_bind h
    refine hr.2.2.1 _ _ _ _ _ (d) rfl (by omega) (c_g_R_grow (l := l) (E := E) (d := d) hc) (fun v S hq => ?_)
    obtain ⟨rfl, rfl⟩ := hq
    clear hc
    exact hr.2.2.2 _ _ _ rfl trivial ⟨rfl, (congrArg (fun x => (([], x) : zx_S)) (Option.some.inj h))⟩
