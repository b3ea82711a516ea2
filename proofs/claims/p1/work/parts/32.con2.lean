/-! Contracts (written by a program) -/
set_option maxRecDepth 100000 in
set_option maxHeartbeats 4000000 in
theorem c_g_Lin_learn_20 {l : Launch} {E : zx_E} {d : Nat} {cb sd ln pp : Nat} {x1 : Int32} {x2 : Int32} {D : zx_D} {q : zx_D} (h : g_Lin_learn_20 x1 x2 D = some q) : zx_MC l E 180 d [.ref 20, .int x1, .int x2] ([cb, sd, ln, pp], D) (fun v S => v = none ∧ S = ([cb, sd, ln, pp], q)) := by
  refine zx_ofC (K := ck_Lin_learn) rfl (by decide +kernel) rfl ok_Lin_learn (Nat.le_of_ble_eq_true rfl) (fun Zp hr => ?_)
  show Zp (0, [some (.ref 20), some (.int x1), some (.int x2), none], [], [cb, sd, ln, pp], D)
  rw [g_Lin_learn_20] at h
  obtain ⟨w4, h⟩ := zk_ck h
  refine hr.1 9 True _ _ (13, [some (.ref 20), some (.int x1), some (.int x2), some (.int (zg_i D 6 (zn x1)))], [.int x2, .int x1, .ref 6], [cb, sd, ln, pp], D) rfl ⟨trivial, (zk_vp w4)⟩ ?_
  refine hr.2.1 _ (¬ x2 = 0) _ _ rfl (fun c13 => ?_) (fun c13 => ?_)
  · replace h := zk_t h c13
    obtain ⟨w5, h⟩ := zk_ck h
    refine hr.1 6 True _ _ (34, [some (.ref 20), some (.int x1), some (.int x2), some (.int (zg_i D 6 (zn x1)))], [], [cb, sd, ln, pp], zp_i D 6 (zn x1) ((zg_i D 6 (zn x1)) - (zo_shr (zg_i D 6 (zn x1)) 5))) rfl ⟨trivial, (zk_vp w5)⟩ ?_
    exact hr.2.2.2 _ _ _ rfl trivial ⟨rfl, (congrArg (fun x => (([cb, sd, ln, pp], x) : zx_S)) (Option.some.inj h))⟩
  · replace h := zk_f h c13
    obtain ⟨w6, h⟩ := zk_ck h
    refine hr.1 9 True _ _ (34, [some (.ref 20), some (.int x1), some (.int x2), some (.int (zg_i D 6 (zn x1)))], [], [cb, sd, ln, pp], zp_i D 6 (zn x1) ((zg_i D 6 (zn x1)) + (zo_shr (2048 - (zg_i D 6 (zn x1))) 5))) rfl ⟨trivial, (zk_vp w6)⟩ ?_
    exact hr.2.2.2 _ _ _ rfl trivial ⟨rfl, (congrArg (fun x => (([cb, sd, ln, pp], x) : zx_S)) (Option.some.inj h))⟩
set_option maxRecDepth 100000 in
set_option maxHeartbeats 4000000 in
theorem c_g_Snk_codeBit {l : Launch} {E : zx_E} {d : Nat} {cb sd ln pp : Nat} {x1 : Int32} {x2 : Int32} {D : zx_D} {q : Int32 × zx_D} (h : g_Snk_codeBit x1 x2 D = some q) : zx_MC l E 53 (d + 1) [.ref 20, .int x1, .int x2] ([cb, sd, ln, pp], D) (fun v S => v = some (.int q.1) ∧ S = ([cb, sd, ln, pp], q.2)) := by
  refine zx_ofC (K := ck_Snk_codeBit) rfl (by decide +kernel) rfl ok_Snk_codeBit (Nat.le_of_ble_eq_true rfl) (fun Zp hr => ?_)
  show Zp (0, [some (.ref 20), some (.int x1), some (.int x2), none, none], [], [cb, sd, ln, pp], D)
  rw [g_Snk_codeBit] at h
  refine hr.1 1 True _ _ (1, [some (.ref 20), some (.int x1), some (.int x2), none, none], [.ref 20], [cb, sd, ln, pp], D) rfl trivial ?_
  obtain ⟨q1, hc, h⟩ := zk_bind h
  refine hr.2.2.1 _ _ _ _ _ (d) rfl (by omega) (c_g_Snk_shift (l := l) (E := E) (d := d) (cb := cb) (sd := sd) (ln := ln) (pp := pp) hc) (fun v S hq => ?_)
  obtain ⟨rfl, rfl⟩ := hq
  clear hc
  refine hr.1 2 True _ _ (8, [some (.ref 20), some (.int x1), some (.int x2), none, none], [.int (zg_i q1 20 2)], [cb, sd, ln, pp], q1) rfl trivial ?_
  refine hr.2.1 _ (zg_i q1 20 2 = 0) _ _ rfl (fun c8 => ?_) (fun c8 => ?_)
  · replace h := zk_t h c8
    obtain ⟨w2, h⟩ := zk_ck h
    refine hr.1 12 True _ _ (30, [some (.ref 20), some (.int x1), some (.int x2), some (.long ((zo_lushr (zg_l q1 20 1) 11) * (((zg_i q1 6 (zn x1))).toInt64))), none], [.int x2], [cb, sd, ln, pp], q1) rfl ⟨trivial, (zk_vp w2)⟩ ?_
    refine hr.2.1 _ (¬ x2 = 0) _ _ rfl (fun c30 => ?_) (fun c30 => ?_)
    · replace h := zk_t h c30
      refine hr.1 2 True _ _ (43, [some (.ref 20), some (.int x1), some (.int x2), some (.long ((zo_lushr (zg_l q1 20 1) 11) * (((zg_i q1 6 (zn x1))).toInt64))), none], [.long ((zo_lushr (zg_l q1 20 1) 11) * (((zg_i q1 6 (zn x1))).toInt64)), .ref 20], [cb, sd, ln, pp], q1) rfl trivial ?_
      obtain ⟨q2, hc, h⟩ := zk_bind h
      refine hr.2.2.1 _ _ _ _ _ (d) rfl (by omega) (c_g_Snk_raise (l := l) (E := E) (d := d) (cb := cb) (sd := sd) (ln := ln) (pp := pp) hc) (fun v S hq => ?_)
      obtain ⟨rfl, rfl⟩ := hq
      clear hc
      refine hr.1 9 True _ _ (59, [some (.ref 20), some (.int x1), some (.int x2), some (.long ((zo_lushr (zg_l q1 20 1) 11) * (((zg_i q1 6 (zn x1))).toInt64))), none], [.int x2, .int x1, .ref 20], [cb, sd, ln, pp], zp_l q2 20 1 ((zg_l q2 20 1) - ((zo_lushr (zg_l q1 20 1) 11) * (((zg_i q1 6 (zn x1))).toInt64)))) rfl trivial ?_
      obtain ⟨q3, hc, h⟩ := zk_bind h
      refine hr.2.2.1 _ _ _ _ _ (d) rfl (by omega) (c_g_Lin_learn_20 (l := l) (E := E) (d := d) (cb := cb) (sd := sd) (ln := ln) (pp := pp) hc) (fun v S hq => ?_)
      obtain ⟨rfl, rfl⟩ := hq
      clear hc
      refine hr.1 1 True _ _ (63, [some (.ref 20), some (.int x1), some (.int x2), some (.long ((zo_lushr (zg_l q1 20 1) 11) * (((zg_i q1 6 (zn x1))).toInt64))), none], [.int x2], [cb, sd, ln, pp], q3) rfl trivial ?_
      exact hr.2.2.2 _ _ _ rfl trivial ⟨(congrArg (fun x => some (Value.int x.1)) (Option.some.inj h)), (congrArg (fun x => (([cb, sd, ln, pp], x.2) : zx_S)) (Option.some.inj h))⟩
    · replace h := zk_f h c30
      refine hr.1 7 True _ _ (59, [some (.ref 20), some (.int x1), some (.int x2), some (.long ((zo_lushr (zg_l q1 20 1) 11) * (((zg_i q1 6 (zn x1))).toInt64))), none], [.int x2, .int x1, .ref 20], [cb, sd, ln, pp], zp_l q1 20 1 ((zo_lushr (zg_l q1 20 1) 11) * (((zg_i q1 6 (zn x1))).toInt64))) rfl trivial ?_
      obtain ⟨q4, hc, h⟩ := zk_bind h
      refine hr.2.2.1 _ _ _ _ _ (d) rfl (by omega) (c_g_Lin_learn_20 (l := l) (E := E) (d := d) (cb := cb) (sd := sd) (ln := ln) (pp := pp) hc) (fun v S hq => ?_)
      obtain ⟨rfl, rfl⟩ := hq
      clear hc
      refine hr.1 1 True _ _ (63, [some (.ref 20), some (.int x1), some (.int x2), some (.long ((zo_lushr (zg_l q1 20 1) 11) * (((zg_i q1 6 (zn x1))).toInt64))), none], [.int x2], [cb, sd, ln, pp], q4) rfl trivial ?_
      exact hr.2.2.2 _ _ _ rfl trivial ⟨(congrArg (fun x => some (Value.int x.1)) (Option.some.inj h)), (congrArg (fun x => (([cb, sd, ln, pp], x.2) : zx_S)) (Option.some.inj h))⟩
  · replace h := zk_f h c8
    refine hr.1 1 True _ _ (12, [some (.ref 20), some (.int x1), some (.int x2), none, none], [.int x2], [cb, sd, ln, pp], q1) rfl trivial ?_
    exact hr.2.2.2 _ _ _ rfl trivial ⟨(congrArg (fun x => some (Value.int x.1)) (Option.some.inj h)), (congrArg (fun x => (([cb, sd, ln, pp], x.2) : zx_S)) (Option.some.inj h))⟩
set_option maxRecDepth 100000 in
set_option maxHeartbeats 4000000 in
theorem c_g_Mdl_codeKind_k {l : Launch} {E : zx_E} {d : Nat} {cb sd pp : Nat} {x1 : Int32} {D : zx_D} {q : Int32 × zx_D} (h : g_Mdl_codeKind_k x1 D = some q) : zx_MC l E 62 (d + 2) [.ref 7, .int x1] ([cb, sd, 20, pp], D) (fun v S => v = some (.int q.1) ∧ S = ([cb, sd, 20, pp], q.2)) := by
  refine zx_ofC (K := ck_Mdl_codeKind) rfl (by decide +kernel) rfl ok_Mdl_codeKind (Nat.le_of_ble_eq_true rfl) (fun Zp hr => ?_)
  show Zp (0, [some (.ref 7), some (.int x1), none], [], [cb, sd, 20, pp], D)
  rw [g_Mdl_codeKind_k] at h
  refine hr.1 13 True _ _ (20, [some (.ref 7), some (.int x1), none], [.int 1, .int (zg_i D 7 7), .int ((0 + ((zg_i D 7 2) * 16)) + x1), .ref 20], [cb, sd, 20, pp], D) rfl trivial ?_
  obtain ⟨q1, hj, h⟩ := zk_bind h
  have J28 : ∀ (_ : True), Zp (28, [some (.ref 7), some (.int x1), none], [.int q1, .int ((0 + ((zg_i D 7 2) * 16)) + x1), .ref 20], [cb, sd, 20, pp], D) := by
    intro _
    obtain ⟨q2, hc, h⟩ := zk_bind h
    refine hr.2.2.1 _ _ _ _ _ (d + 1) rfl (by omega) (c_g_Snk_codeBit (l := l) (E := E) (d := d) (cb := cb) (sd := sd) (ln := 20) (pp := pp) hc) (fun v S hq => ?_)
    obtain ⟨rfl, rfl⟩ := hq
    clear hc
    refine hr.2.1 _ (¬ q2.1 = 0) _ _ rfl (fun c31 => ?_) (fun c31 => ?_)
    · replace h := zk_t h c31
      refine hr.1 9 True _ _ (53, [some (.ref 7), some (.int x1), none], [.int 2, .int (zg_i q2.2 7 7), .int (384 + (zg_i q2.2 7 2)), .ref 20], [cb, sd, 20, pp], q2.2) rfl trivial ?_
      obtain ⟨q3, hj, h⟩ := zk_bind h
      have J61 : ∀ (_ : True), Zp (61, [some (.ref 7), some (.int x1), none], [.int q3, .int (384 + (zg_i q2.2 7 2)), .ref 20], [cb, sd, 20, pp], q2.2) := by
        intro _
        obtain ⟨q4, hc, h⟩ := zk_bind h
        refine hr.2.2.1 _ _ _ _ _ (d + 1) rfl (by omega) (c_g_Snk_codeBit (l := l) (E := E) (d := d) (cb := cb) (sd := sd) (ln := 20) (pp := pp) hc) (fun v S hq => ?_)
        obtain ⟨rfl, rfl⟩ := hq
        clear hc
        refine hr.2.1 _ (¬ q4.1 = 0) _ _ rfl (fun c64 => ?_) (fun c64 => ?_)
        · replace h := zk_t h c64
          refine hr.1 9 True _ _ (86, [some (.ref 7), some (.int x1), none], [.int 4, .int (zg_i q4.2 7 7), .int (396 + (zg_i q4.2 7 2)), .ref 20], [cb, sd, 20, pp], q4.2) rfl trivial ?_
          obtain ⟨q5, hj, h⟩ := zk_bind h
          have J94 : ∀ (_ : True), Zp (94, [some (.ref 7), some (.int x1), none], [.int q5, .int (396 + (zg_i q4.2 7 2)), .ref 20], [cb, sd, 20, pp], q4.2) := by
            intro _
            obtain ⟨q6, hc, h⟩ := zk_bind h
            refine hr.2.2.1 _ _ _ _ _ (d + 1) rfl (by omega) (c_g_Snk_codeBit (l := l) (E := E) (d := d) (cb := cb) (sd := sd) (ln := 20) (pp := pp) hc) (fun v S hq => ?_)
            obtain ⟨rfl, rfl⟩ := hq
            clear hc
            refine hr.2.1 _ (¬ q6.1 = 0) _ _ rfl (fun c97 => ?_) (fun c97 => ?_)
            · replace h := zk_t h c97
              refine hr.1 9 True _ _ (161, [some (.ref 7), some (.int x1), none], [.int 5, .int (zg_i q6.2 7 7), .int (408 + (zg_i q6.2 7 2)), .ref 20], [cb, sd, 20, pp], q6.2) rfl trivial ?_
              obtain ⟨q7, hj, h⟩ := zk_bind h
              have J169 : ∀ (_ : True), Zp (169, [some (.ref 7), some (.int x1), none], [.int q7, .int (408 + (zg_i q6.2 7 2)), .ref 20], [cb, sd, 20, pp], q6.2) := by
                intro _
                obtain ⟨q8, hc, h⟩ := zk_bind h
                refine hr.2.2.1 _ _ _ _ _ (d + 1) rfl (by omega) (c_g_Snk_codeBit (l := l) (E := E) (d := d) (cb := cb) (sd := sd) (ln := 20) (pp := pp) hc) (fun v S hq => ?_)
                obtain ⟨rfl, rfl⟩ := hq
                clear hc
                refine hr.2.1 _ (¬ q8.1 = 0) _ _ rfl (fun c172 => ?_) (fun c172 => ?_)
                · replace h := zk_t h c172
                  refine hr.1 10 True _ _ (197, [some (.ref 7), some (.int x1), none], [.int 6, .int (zg_i q8.2 7 7), .int (420 + (zg_i q8.2 7 2)), .ref 20, .int 6], [cb, sd, 20, pp], q8.2) rfl trivial ?_
                  refine hr.2.1 _ (zg_i q8.2 7 7 ≤ 6) _ _ rfl (fun c197 => ?_) (fun c197 => ?_)
                  · replace h := zk_t h c197
                    refine hr.1 1 True _ _ (205, [some (.ref 7), some (.int x1), none], [.int 0, .int (420 + (zg_i q8.2 7 2)), .ref 20, .int 6], [cb, sd, 20, pp], q8.2) rfl trivial ?_
                    obtain ⟨q9, hc, h⟩ := zk_bind h
                    refine hr.2.2.1 _ _ _ _ _ (d + 1) rfl (by omega) (c_g_Snk_codeBit (l := l) (E := E) (d := d) (cb := cb) (sd := sd) (ln := 20) (pp := pp) hc) (fun v S hq => ?_)
                    obtain ⟨rfl, rfl⟩ := hq
                    clear hc
                    refine hr.1 1 True _ _ (209, [some (.ref 7), some (.int x1), none], [.int (6 + q9.1)], [cb, sd, 20, pp], q9.2) rfl trivial ?_
                    exact hr.2.2.2 _ _ _ rfl trivial ⟨(congrArg (fun x => some (Value.int x.1)) (Option.some.inj h)), (congrArg (fun x => (([cb, sd, 20, pp], x.2) : zx_S)) (Option.some.inj h))⟩
                  · replace h := zk_f h c197
                    refine hr.1 2 True _ _ (205, [some (.ref 7), some (.int x1), none], [.int 1, .int (420 + (zg_i q8.2 7 2)), .ref 20, .int 6], [cb, sd, 20, pp], q8.2) rfl trivial ?_
                    obtain ⟨q10, hc, h⟩ := zk_bind h
                    refine hr.2.2.1 _ _ _ _ _ (d + 1) rfl (by omega) (c_g_Snk_codeBit (l := l) (E := E) (d := d) (cb := cb) (sd := sd) (ln := 20) (pp := pp) hc) (fun v S hq => ?_)
                    obtain ⟨rfl, rfl⟩ := hq
                    clear hc
                    refine hr.1 1 True _ _ (209, [some (.ref 7), some (.int x1), none], [.int (6 + q10.1)], [cb, sd, 20, pp], q10.2) rfl trivial ?_
                    exact hr.2.2.2 _ _ _ rfl trivial ⟨(congrArg (fun x => some (Value.int x.1)) (Option.some.inj h)), (congrArg (fun x => (([cb, sd, 20, pp], x.2) : zx_S)) (Option.some.inj h))⟩
                · replace h := zk_f h c172
                  refine hr.1 1 True _ _ (176, [some (.ref 7), some (.int x1), none], [.int 5], [cb, sd, 20, pp], q8.2) rfl trivial ?_
                  exact hr.2.2.2 _ _ _ rfl trivial ⟨(congrArg (fun x => some (Value.int x.1)) (Option.some.inj h)), (congrArg (fun x => (([cb, sd, 20, pp], x.2) : zx_S)) (Option.some.inj h))⟩
              clear h
              have h := hj
              clear hj
              refine hr.2.1 _ (zg_i q6.2 7 7 ≤ 5) _ _ rfl (fun c161 => ?_) (fun c161 => ?_)
              · replace h := zk_t h c161
                refine hr.1 1 True _ _ (169, [some (.ref 7), some (.int x1), none], [.int 0, .int (408 + (zg_i q6.2 7 2)), .ref 20], [cb, sd, 20, pp], q6.2) rfl trivial ?_
                replace h := Option.some.inj h
                subst h
                exact J169 trivial
              · replace h := zk_f h c161
                refine hr.1 2 True _ _ (169, [some (.ref 7), some (.int x1), none], [.int 1, .int (408 + (zg_i q6.2 7 2)), .ref 20], [cb, sd, 20, pp], q6.2) rfl trivial ?_
                replace h := Option.some.inj h
                subst h
                exact J169 trivial
            · replace h := zk_f h c97
              refine hr.1 13 True _ _ (122, [some (.ref 7), some (.int x1), none], [.int 4, .int (zg_i q6.2 7 7), .int ((192 + ((zg_i q6.2 7 2) * 16)) + x1), .ref 20], [cb, sd, 20, pp], q6.2) rfl trivial ?_
              refine hr.2.1 _ (¬ zg_i q6.2 7 7 = 4) _ _ rfl (fun c122 => ?_) (fun c122 => ?_)
              · replace h := zk_t h c122
                refine hr.1 1 True _ _ (130, [some (.ref 7), some (.int x1), none], [.int 0, .int ((192 + ((zg_i q6.2 7 2) * 16)) + x1), .ref 20], [cb, sd, 20, pp], q6.2) rfl trivial ?_
                obtain ⟨q11, hc, h⟩ := zk_bind h
                refine hr.2.2.1 _ _ _ _ _ (d + 1) rfl (by omega) (c_g_Snk_codeBit (l := l) (E := E) (d := d) (cb := cb) (sd := sd) (ln := 20) (pp := pp) hc) (fun v S hq => ?_)
                obtain ⟨rfl, rfl⟩ := hq
                clear hc
                refine hr.1 2 True _ _ (135, [some (.ref 7), some (.int x1), some (.int q11.1)], [.int q11.1], [cb, sd, 20, pp], q11.2) rfl trivial ?_
                refine hr.2.1 _ (¬ q11.1 = 0) _ _ rfl (fun c135 => ?_) (fun c135 => ?_)
                · replace h := zk_t h c135
                  refine hr.1 1 True _ _ (143, [some (.ref 7), some (.int x1), some (.int q11.1)], [.int 4], [cb, sd, 20, pp], q11.2) rfl trivial ?_
                  exact hr.2.2.2 _ _ _ rfl trivial ⟨(congrArg (fun x => some (Value.int x.1)) (Option.some.inj h)), (congrArg (fun x => (([cb, sd, 20, pp], x.2) : zx_S)) (Option.some.inj h))⟩
                · replace h := zk_f h c135
                  refine hr.1 2 True _ _ (143, [some (.ref 7), some (.int x1), some (.int q11.1)], [.int 3], [cb, sd, 20, pp], q11.2) rfl trivial ?_
                  exact hr.2.2.2 _ _ _ rfl trivial ⟨(congrArg (fun x => some (Value.int x.1)) (Option.some.inj h)), (congrArg (fun x => (([cb, sd, 20, pp], x.2) : zx_S)) (Option.some.inj h))⟩
              · replace h := zk_f h c122
                refine hr.1 2 True _ _ (130, [some (.ref 7), some (.int x1), none], [.int 1, .int ((192 + ((zg_i q6.2 7 2) * 16)) + x1), .ref 20], [cb, sd, 20, pp], q6.2) rfl trivial ?_
                obtain ⟨q12, hc, h⟩ := zk_bind h
                refine hr.2.2.1 _ _ _ _ _ (d + 1) rfl (by omega) (c_g_Snk_codeBit (l := l) (E := E) (d := d) (cb := cb) (sd := sd) (ln := 20) (pp := pp) hc) (fun v S hq => ?_)
                obtain ⟨rfl, rfl⟩ := hq
                clear hc
                refine hr.1 2 True _ _ (135, [some (.ref 7), some (.int x1), some (.int q12.1)], [.int q12.1], [cb, sd, 20, pp], q12.2) rfl trivial ?_
                refine hr.2.1 _ (¬ q12.1 = 0) _ _ rfl (fun c135 => ?_) (fun c135 => ?_)
                · replace h := zk_t h c135
                  refine hr.1 1 True _ _ (143, [some (.ref 7), some (.int x1), some (.int q12.1)], [.int 4], [cb, sd, 20, pp], q12.2) rfl trivial ?_
                  exact hr.2.2.2 _ _ _ rfl trivial ⟨(congrArg (fun x => some (Value.int x.1)) (Option.some.inj h)), (congrArg (fun x => (([cb, sd, 20, pp], x.2) : zx_S)) (Option.some.inj h))⟩
                · replace h := zk_f h c135
                  refine hr.1 2 True _ _ (143, [some (.ref 7), some (.int x1), some (.int q12.1)], [.int 3], [cb, sd, 20, pp], q12.2) rfl trivial ?_
                  exact hr.2.2.2 _ _ _ rfl trivial ⟨(congrArg (fun x => some (Value.int x.1)) (Option.some.inj h)), (congrArg (fun x => (([cb, sd, 20, pp], x.2) : zx_S)) (Option.some.inj h))⟩
          clear h
          have h := hj
          clear hj
          refine hr.2.1 _ (zg_i q4.2 7 7 ≤ 4) _ _ rfl (fun c86 => ?_) (fun c86 => ?_)
          · replace h := zk_t h c86
            refine hr.1 1 True _ _ (94, [some (.ref 7), some (.int x1), none], [.int 0, .int (396 + (zg_i q4.2 7 2)), .ref 20], [cb, sd, 20, pp], q4.2) rfl trivial ?_
            replace h := Option.some.inj h
            subst h
            exact J94 trivial
          · replace h := zk_f h c86
            refine hr.1 2 True _ _ (94, [some (.ref 7), some (.int x1), none], [.int 1, .int (396 + (zg_i q4.2 7 2)), .ref 20], [cb, sd, 20, pp], q4.2) rfl trivial ?_
            replace h := Option.some.inj h
            subst h
            exact J94 trivial
        · replace h := zk_f h c64
          refine hr.1 1 True _ _ (68, [some (.ref 7), some (.int x1), none], [.int 2], [cb, sd, 20, pp], q4.2) rfl trivial ?_
          exact hr.2.2.2 _ _ _ rfl trivial ⟨(congrArg (fun x => some (Value.int x.1)) (Option.some.inj h)), (congrArg (fun x => (([cb, sd, 20, pp], x.2) : zx_S)) (Option.some.inj h))⟩
      clear h
      have h := hj
      clear hj
      refine hr.2.1 _ (¬ zg_i q2.2 7 7 = 2) _ _ rfl (fun c53 => ?_) (fun c53 => ?_)
      · replace h := zk_t h c53
        refine hr.1 1 True _ _ (61, [some (.ref 7), some (.int x1), none], [.int 1, .int (384 + (zg_i q2.2 7 2)), .ref 20], [cb, sd, 20, pp], q2.2) rfl trivial ?_
        replace h := Option.some.inj h
        subst h
        exact J61 trivial
      · replace h := zk_f h c53
        refine hr.1 2 True _ _ (61, [some (.ref 7), some (.int x1), none], [.int 0, .int (384 + (zg_i q2.2 7 2)), .ref 20], [cb, sd, 20, pp], q2.2) rfl trivial ?_
        replace h := Option.some.inj h
        subst h
        exact J61 trivial
    · replace h := zk_f h c31
      refine hr.1 1 True _ _ (35, [some (.ref 7), some (.int x1), none], [.int 1], [cb, sd, 20, pp], q2.2) rfl trivial ?_
      exact hr.2.2.2 _ _ _ rfl trivial ⟨(congrArg (fun x => some (Value.int x.1)) (Option.some.inj h)), (congrArg (fun x => (([cb, sd, 20, pp], x.2) : zx_S)) (Option.some.inj h))⟩
  clear h
  have h := hj
  clear hj
  refine hr.2.1 _ (¬ zg_i D 7 7 = 1) _ _ rfl (fun c20 => ?_) (fun c20 => ?_)
  · replace h := zk_t h c20
    refine hr.1 1 True _ _ (28, [some (.ref 7), some (.int x1), none], [.int 1, .int ((0 + ((zg_i D 7 2) * 16)) + x1), .ref 20], [cb, sd, 20, pp], D) rfl trivial ?_
    replace h := Option.some.inj h
    subst h
    exact J28 trivial
  · replace h := zk_f h c20
    refine hr.1 2 True _ _ (28, [some (.ref 7), some (.int x1), none], [.int 0, .int ((0 + ((zg_i D 7 2) * 16)) + x1), .ref 20], [cb, sd, 20, pp], D) rfl trivial ?_
    replace h := Option.some.inj h
    subst h
    exact J28 trivial
set_option maxRecDepth 100000 in
set_option maxHeartbeats 4000000 in
theorem c_g_Mdl_bringForward {l : Launch} {E : zx_E} {d : Nat} {cb sd ln pp : Nat} {x1 : Int32} {x2 : Int64} {D : zx_D} {q : zx_D} (h : g_Mdl_bringForward x1 x2 D = some q) : zx_MC l E 61 d [.ref 7, .int x1, .long x2] ([cb, sd, ln, pp], D) (fun v S => v = none ∧ S = ([cb, sd, ln, pp], q)) := by
  refine zx_ofC (K := ck_Mdl_bringForward) rfl (by decide +kernel) rfl ok_Mdl_bringForward (Nat.le_of_ble_eq_true rfl) (fun Zp hr => ?_)
  show Zp (0, [some (.ref 7), some (.int x1), some (.long x2), none, none], [], [cb, sd, ln, pp], D)
  have loop3 : ∀ (x2 : Int64) (k : Nat) (x4 : Int32) (D : zx_D) (x1 : Int32) (q : zx_D), g_Mdl_bringForward_3 x2 k x4 D = some q → (∀ (e4 : Int32), Zp (30, [some (.ref 7), some (.int x1), some (.long x2), none, some (.int e4)], [], [cb, sd, ln, pp], q)) → Zp (3, [some (.ref 7), some (.int x1), some (.long x2), none, some (.int x4)], [], [cb, sd, ln, pp], D) := by
    intro x2 k
    induction k with
    | zero => intro x4 D x1 q h hx; exact (zk_no h).elim
    | succ k ih =>
      intro x4 D x1 q h hx
      rw [g_Mdl_bringForward_3] at h
      refine hr.1 1 True _ _ (5, [some (.ref 7), some (.int x1), some (.long x2), none, some (.int x4)], [.int x4], [cb, sd, ln, pp], D) rfl trivial ?_
      refine hr.2.1 _ (x4 ≤ 0) _ _ rfl (fun c5 => ?_) (fun c5 => ?_)
      · replace h := zk_t h c5
        replace h := Option.some.inj h
        subst h
        exact hx x4
      · replace h := zk_f h c5
        obtain ⟨w3, h⟩ := zk_ck h
        obtain ⟨w4, h⟩ := zk_ck h
        refine hr.1 12 True _ _ (3, [some (.ref 7), some (.int x1), some (.long x2), none, some (.int (x4 + (-1)))], [], [cb, sd, ln, pp], zp_l D 8 (zn x4) (zg_l D 8 (zn (x4 - 1)))) rfl ⟨⟨trivial, (zk_vp w3)⟩, (zk_vp w4)⟩ ?_
        exact ih (x4 + (-1)) (zp_l D 8 (zn x4) (zg_l D 8 (zn (x4 - 1)))) _ _ h hx
  rw [g_Mdl_bringForward] at h
  refine hr.1 2 True _ _ (3, [some (.ref 7), some (.int x1), some (.long x2), none, some (.int x1)], [], [cb, sd, ln, pp], D) rfl trivial ?_
  obtain ⟨q1, hc, h⟩ := zk_bind h
  refine loop3 x2 10000 x1 D x1 q1 hc (fun e4 => ?_)
  clear hc
  refine hr.1 5 True _ _ (37, [some (.ref 7), some (.int x1), some (.long x2), none, some (.int e4)], [], [cb, sd, ln, pp], zp_l q1 8 (zn 0) x2) rfl ⟨trivial, (zk_vp rfl)⟩ ?_
  exact hr.2.2.2 _ _ _ rfl trivial ⟨rfl, (congrArg (fun x => (([cb, sd, ln, pp], x) : zx_S)) (Option.some.inj h))⟩
set_option maxRecDepth 100000 in
set_option maxHeartbeats 4000000 in
theorem c_g_Mdl_codeTree_k {l : Launch} {E : zx_E} {d : Nat} {cb sd pp : Nat} {x1 : Int32} {x2 : Int32} {x3 : Int32} {D : zx_D} {q : Int32 × zx_D} (h : g_Mdl_codeTree_k x1 x2 x3 D = some q) : zx_MC l E 67 (d + 2) [.ref 7, .int x1, .int x2, .int x3] ([cb, sd, 20, pp], D) (fun v S => v = some (.int q.1) ∧ S = ([cb, sd, 20, pp], q.2)) := by
  refine zx_ofC (K := ck_Mdl_codeTree) rfl (by decide +kernel) rfl ok_Mdl_codeTree (Nat.le_of_ble_eq_true rfl) (fun Zp hr => ?_)
  show Zp (0, [some (.ref 7), some (.int x1), some (.int x2), some (.int x3), none, none], [], [cb, sd, 20, pp], D)
  have loop8 : ∀ (x1 : Int32) (x2 : Int32) (x3 : Int32) (k : Nat) (x4 : Int32) (x5 : Int32) (D : zx_D) (q : Int32 × zx_D), g_Mdl_codeTree_k_8 x1 x2 x3 k x4 x5 D = some q → (∀ (e5 : Int32), Zp (43, [some (.ref 7), some (.int x1), some (.int x2), some (.int x3), some (.int q.1), some (.int e5)], [], [cb, sd, 20, pp], q.2)) → Zp (8, [some (.ref 7), some (.int x1), some (.int x2), some (.int x3), some (.int x4), some (.int x5)], [], [cb, sd, 20, pp], D) := by
    intro x1 x2 x3 k
    induction k with
    | zero => intro x4 x5 D q h hx; exact (zk_no h).elim
    | succ k ih =>
      intro x4 x5 D q h hx
      rw [g_Mdl_codeTree_k_8] at h
      refine hr.1 1 True _ _ (10, [some (.ref 7), some (.int x1), some (.int x2), some (.int x3), some (.int x4), some (.int x5)], [.int x5], [cb, sd, 20, pp], D) rfl trivial ?_
      refine hr.2.1 _ (x5 < 0) _ _ rfl (fun c10 => ?_) (fun c10 => ?_)
      · replace h := zk_t h c10
        replace h := Option.some.inj h
        subst h
        exact hx x5
      · replace h := zk_f h c10
        refine hr.1 13 True _ _ (31, [some (.ref 7), some (.int x1), some (.int x2), some (.int x3), some (.int x4), some (.int x5)], [.int ((zo_ushr x3 x5) &&& 1), .int (x1 + x4), .ref 20, .int (2 * x4)], [cb, sd, 20, pp], D) rfl trivial ?_
        obtain ⟨q1, hc, h⟩ := zk_bind h
        refine hr.2.2.1 _ _ _ _ _ (d + 1) rfl (by omega) (c_g_Snk_codeBit (l := l) (E := E) (d := d) (cb := cb) (sd := sd) (ln := 20) (pp := pp) hc) (fun v S hq => ?_)
        obtain ⟨rfl, rfl⟩ := hq
        clear hc
        refine hr.1 4 True _ _ (8, [some (.ref 7), some (.int x1), some (.int x2), some (.int x3), some (.int ((2 * x4) + q1.1)), some (.int (x5 + (-1)))], [], [cb, sd, 20, pp], q1.2) rfl trivial ?_
        exact ih ((2 * x4) + q1.1) (x5 + (-1)) q1.2 _ h hx
  rw [g_Mdl_codeTree_k] at h
  refine hr.1 6 True _ _ (8, [some (.ref 7), some (.int x1), some (.int x2), some (.int x3), some (.int 1), some (.int (x2 - 1))], [], [cb, sd, 20, pp], D) rfl trivial ?_
  obtain ⟨q2, hc, h⟩ := zk_bind h
  refine loop8 x1 x2 x3 10000 1 (x2 - 1) D q2 hc (fun e5 => ?_)
  clear hc
  refine hr.1 5 True _ _ (49, [some (.ref 7), some (.int x1), some (.int x2), some (.int x3), some (.int q2.1), some (.int e5)], [.int (q2.1 - (zo_shl 1 x2))], [cb, sd, 20, pp], q2.2) rfl trivial ?_
  exact hr.2.2.2 _ _ _ rfl trivial ⟨(congrArg (fun x => some (Value.int x.1)) (Option.some.inj h)), (congrArg (fun x => (([cb, sd, 20, pp], x.2) : zx_S)) (Option.some.inj h))⟩
set_option maxRecDepth 100000 in
set_option maxHeartbeats 4000000 in
theorem c_g_Mdl_codeLength_k {l : Launch} {E : zx_E} {d : Nat} {cb sd pp : Nat} {x1 : Int32} {x2 : Int32} {D : zx_D} {q : Int32 × zx_D} (h : g_Mdl_codeLength_k x1 x2 D = some q) : zx_MC l E 64 (d + 3) [.ref 7, .int x1, .int x2] ([cb, sd, 20, pp], D) (fun v S => v = some (.int q.1) ∧ S = ([cb, sd, 20, pp], q.2)) := by
  refine zx_ofC (K := ck_Mdl_codeLength) rfl (by decide +kernel) rfl ok_Mdl_codeLength (Nat.le_of_ble_eq_true rfl) (fun Zp hr => ?_)
  show Zp (0, [some (.ref 7), some (.int x1), some (.int x2)], [], [cb, sd, 20, pp], D)
  rw [g_Mdl_codeLength_k] at h
  refine hr.1 6 True _ _ (11, [some (.ref 7), some (.int x1), some (.int x2)], [.int 10, .int (zg_i D 7 9), .int x1, .ref 20], [cb, sd, 20, pp], D) rfl trivial ?_
  obtain ⟨q1, hj, h⟩ := zk_bind h
  have J19 : ∀ (_ : True), Zp (19, [some (.ref 7), some (.int x1), some (.int x2)], [.int q1, .int x1, .ref 20], [cb, sd, 20, pp], D) := by
    intro _
    obtain ⟨q2, hc, h⟩ := zk_bind h
    refine hr.2.2.1 _ _ _ _ _ (d + 2) rfl (by omega) (c_g_Snk_codeBit (l := l) (E := E) (d := d + 1) (cb := cb) (sd := sd) (ln := 20) (pp := pp) hc) (fun v S hq => ?_)
    obtain ⟨rfl, rfl⟩ := hq
    clear hc
    refine hr.2.1 _ (¬ q2.1 = 0) _ _ rfl (fun c22 => ?_) (fun c22 => ?_)
    · replace h := zk_t h c22
      refine hr.1 8 True _ _ (60, [some (.ref 7), some (.int x1), some (.int x2)], [.int 18, .int (zg_i q2.2 7 9), .int (x1 + 1), .ref 20], [cb, sd, 20, pp], q2.2) rfl trivial ?_
      obtain ⟨q3, hj, h⟩ := zk_bind h
      have J68 : ∀ (_ : True), Zp (68, [some (.ref 7), some (.int x1), some (.int x2)], [.int q3, .int (x1 + 1), .ref 20], [cb, sd, 20, pp], q2.2) := by
        intro _
        obtain ⟨q4, hc, h⟩ := zk_bind h
        refine hr.2.2.1 _ _ _ _ _ (d + 2) rfl (by omega) (c_g_Snk_codeBit (l := l) (E := E) (d := d + 1) (cb := cb) (sd := sd) (ln := 20) (pp := pp) hc) (fun v S hq => ?_)
        obtain ⟨rfl, rfl⟩ := hq
        clear hc
        refine hr.2.1 _ (¬ q4.1 = 0) _ _ rfl (fun c71 => ?_) (fun c71 => ?_)
        · replace h := zk_t h c71
          refine hr.1 10 True _ _ (117, [some (.ref 7), some (.int x1), some (.int x2)], [.int ((zg_i q4.2 7 9) - 18), .int 8, .int (x1 + 258), .ref 7, .int 18], [cb, sd, 20, pp], q4.2) rfl trivial ?_
          obtain ⟨q5, hc, h⟩ := zk_bind h
          refine hr.2.2.1 _ _ _ _ _ (d + 2) rfl (by omega) (c_g_Mdl_codeTree_k (l := l) (E := E) (d := d) (cb := cb) (sd := sd) (pp := pp) hc) (fun v S hq => ?_)
          obtain ⟨rfl, rfl⟩ := hq
          clear hc
          refine hr.1 1 True _ _ (121, [some (.ref 7), some (.int x1), some (.int x2)], [.int (18 + q5.1)], [cb, sd, 20, pp], q5.2) rfl trivial ?_
          exact hr.2.2.2 _ _ _ rfl trivial ⟨(congrArg (fun x => some (Value.int x.1)) (Option.some.inj h)), (congrArg (fun x => (([cb, sd, 20, pp], x.2) : zx_S)) (Option.some.inj h))⟩
        · replace h := zk_f h c71
          refine hr.1 14 True _ _ (95, [some (.ref 7), some (.int x1), some (.int x2)], [.int ((zg_i q4.2 7 9) - 10), .int 3, .int ((x1 + 130) + (8 * x2)), .ref 7, .int 10], [cb, sd, 20, pp], q4.2) rfl trivial ?_
          obtain ⟨q6, hc, h⟩ := zk_bind h
          refine hr.2.2.1 _ _ _ _ _ (d + 2) rfl (by omega) (c_g_Mdl_codeTree_k (l := l) (E := E) (d := d) (cb := cb) (sd := sd) (pp := pp) hc) (fun v S hq => ?_)
          obtain ⟨rfl, rfl⟩ := hq
          clear hc
          refine hr.1 1 True _ _ (99, [some (.ref 7), some (.int x1), some (.int x2)], [.int (10 + q6.1)], [cb, sd, 20, pp], q6.2) rfl trivial ?_
          exact hr.2.2.2 _ _ _ rfl trivial ⟨(congrArg (fun x => some (Value.int x.1)) (Option.some.inj h)), (congrArg (fun x => (([cb, sd, 20, pp], x.2) : zx_S)) (Option.some.inj h))⟩
      clear h
      have h := hj
      clear hj
      refine hr.2.1 _ (18 ≤ zg_i q2.2 7 9) _ _ rfl (fun c60 => ?_) (fun c60 => ?_)
      · replace h := zk_t h c60
        refine hr.1 1 True _ _ (68, [some (.ref 7), some (.int x1), some (.int x2)], [.int 1, .int (x1 + 1), .ref 20], [cb, sd, 20, pp], q2.2) rfl trivial ?_
        replace h := Option.some.inj h
        subst h
        exact J68 trivial
      · replace h := zk_f h c60
        refine hr.1 2 True _ _ (68, [some (.ref 7), some (.int x1), some (.int x2)], [.int 0, .int (x1 + 1), .ref 20], [cb, sd, 20, pp], q2.2) rfl trivial ?_
        replace h := Option.some.inj h
        subst h
        exact J68 trivial
    · replace h := zk_f h c22
      refine hr.1 14 True _ _ (42, [some (.ref 7), some (.int x1), some (.int x2)], [.int ((zg_i q2.2 7 9) - 2), .int 3, .int ((x1 + 2) + (8 * x2)), .ref 7, .int 2], [cb, sd, 20, pp], q2.2) rfl trivial ?_
      obtain ⟨q7, hc, h⟩ := zk_bind h
      refine hr.2.2.1 _ _ _ _ _ (d + 2) rfl (by omega) (c_g_Mdl_codeTree_k (l := l) (E := E) (d := d) (cb := cb) (sd := sd) (pp := pp) hc) (fun v S hq => ?_)
      obtain ⟨rfl, rfl⟩ := hq
      clear hc
      refine hr.1 1 True _ _ (46, [some (.ref 7), some (.int x1), some (.int x2)], [.int (2 + q7.1)], [cb, sd, 20, pp], q7.2) rfl trivial ?_
      exact hr.2.2.2 _ _ _ rfl trivial ⟨(congrArg (fun x => some (Value.int x.1)) (Option.some.inj h)), (congrArg (fun x => (([cb, sd, 20, pp], x.2) : zx_S)) (Option.some.inj h))⟩
  clear h
  have h := hj
  clear hj
  refine hr.2.1 _ (10 ≤ zg_i D 7 9) _ _ rfl (fun c11 => ?_) (fun c11 => ?_)
  · replace h := zk_t h c11
    refine hr.1 1 True _ _ (19, [some (.ref 7), some (.int x1), some (.int x2)], [.int 1, .int x1, .ref 20], [cb, sd, 20, pp], D) rfl trivial ?_
    replace h := Option.some.inj h
    subst h
    exact J19 trivial
  · replace h := zk_f h c11
    refine hr.1 2 True _ _ (19, [some (.ref 7), some (.int x1), some (.int x2)], [.int 0, .int x1, .ref 20], [cb, sd, 20, pp], D) rfl trivial ?_
    replace h := Option.some.inj h
    subst h
    exact J19 trivial
set_option maxRecDepth 100000 in
set_option maxHeartbeats 4000000 in
theorem c_g_Itg_numberOfLeadingZeros {l : Launch} {E : zx_E} {d : Nat} {cb sd ln pp : Nat} {x0 : Int32} {D : zx_D} {q : Int32} (h : g_Itg_numberOfLeadingZeros x0 D = some q) : zx_MC l E 186 d [.int x0] ([cb, sd, ln, pp], D) (fun v S => v = some (.int q) ∧ S = ([cb, sd, ln, pp], D)) := by
  refine zx_ofC (K := ck_Itg_numberOfLeadingZeros) rfl (by decide +kernel) rfl ok_Itg_numberOfLeadingZeros (Nat.le_of_ble_eq_true rfl) (fun Zp hr => ?_)
  show Zp (0, [some (.int x0), none], [], [cb, sd, ln, pp], D)
  rw [g_Itg_numberOfLeadingZeros] at h
  refine hr.1 1 True _ _ (1, [some (.int x0), none], [.int x0], [cb, sd, ln, pp], D) rfl trivial ?_
  refine hr.2.1 _ (0 < x0) _ _ rfl (fun c1 => ?_) (fun c1 => ?_)
  · replace h := zk_t h c1
    refine hr.1 4 True _ _ (22, [some (.int x0), some (.int 31)], [.int 65536, .int x0], [cb, sd, ln, pp], D) rfl trivial ?_
    obtain ⟨q1, hj, h⟩ := zk_bind h
    have J33 : ∀ (_ : True), Zp (33, [some (.int q1.1), some (.int q1.2)], [], [cb, sd, ln, pp], D) := by
      intro _
      refine hr.1 2 True _ _ (37, [some (.int q1.1), some (.int q1.2)], [.int 256, .int q1.1], [cb, sd, ln, pp], D) rfl trivial ?_
      obtain ⟨q2, hj, h⟩ := zk_bind h
      have J48 : ∀ (_ : True), Zp (48, [some (.int q2.1), some (.int q2.2)], [], [cb, sd, ln, pp], D) := by
        intro _
        refine hr.1 2 True _ _ (51, [some (.int q2.1), some (.int q2.2)], [.int 16, .int q2.1], [cb, sd, ln, pp], D) rfl trivial ?_
        obtain ⟨q3, hj, h⟩ := zk_bind h
        have J61 : ∀ (_ : True), Zp (61, [some (.int q3.1), some (.int q3.2)], [], [cb, sd, ln, pp], D) := by
          intro _
          refine hr.1 2 True _ _ (63, [some (.int q3.1), some (.int q3.2)], [.int 4, .int q3.1], [cb, sd, ln, pp], D) rfl trivial ?_
          refine hr.2.1 _ (q3.1 < 4) _ _ rfl (fun c63 => ?_) (fun c63 => ?_)
          · replace h := zk_t h c63
            refine hr.1 5 True _ _ (78, [some (.int q3.1), some (.int q3.2)], [.int (q3.2 - (zo_ushr q3.1 1))], [cb, sd, ln, pp], D) rfl trivial ?_
            exact hr.2.2.2 _ _ _ rfl trivial ⟨(congrArg (fun x => some (Value.int x)) (Option.some.inj h)), rfl⟩
          · replace h := zk_f h c63
            refine hr.1 10 True _ _ (78, [some (.int (zo_ushr q3.1 2)), some (.int (q3.2 + (-2)))], [.int ((q3.2 + (-2)) - (zo_ushr (zo_ushr q3.1 2) 1))], [cb, sd, ln, pp], D) rfl trivial ?_
            exact hr.2.2.2 _ _ _ rfl trivial ⟨(congrArg (fun x => some (Value.int x)) (Option.some.inj h)), rfl⟩
        clear h
        have h := hj
        clear hj
        refine hr.2.1 _ (q2.1 < 16) _ _ rfl (fun c51 => ?_) (fun c51 => ?_)
        · replace h := zk_t h c51
          replace h := Option.some.inj h
          subst h
          exact J61 trivial
        · replace h := zk_f h c51
          refine hr.1 5 True _ _ (61, [some (.int (zo_ushr q2.1 4)), some (.int (q2.2 + (-4)))], [], [cb, sd, ln, pp], D) rfl trivial ?_
          replace h := Option.some.inj h
          subst h
          exact J61 trivial
      clear h
      have h := hj
      clear hj
      refine hr.2.1 _ (q1.1 < 256) _ _ rfl (fun c37 => ?_) (fun c37 => ?_)
      · replace h := zk_t h c37
        replace h := Option.some.inj h
        subst h
        exact J48 trivial
      · replace h := zk_f h c37
        refine hr.1 5 True _ _ (48, [some (.int (zo_ushr q1.1 8)), some (.int (q1.2 + (-8)))], [], [cb, sd, ln, pp], D) rfl trivial ?_
        replace h := Option.some.inj h
        subst h
        exact J48 trivial
    clear h
    have h := hj
    clear hj
    refine hr.2.1 _ (x0 < 65536) _ _ rfl (fun c22 => ?_) (fun c22 => ?_)
    · replace h := zk_t h c22
      replace h := Option.some.inj h
      subst h
      exact J33 trivial
    · replace h := zk_f h c22
      refine hr.1 5 True _ _ (33, [some (.int (zo_ushr x0 16)), some (.int (31 + (-16)))], [], [cb, sd, ln, pp], D) rfl trivial ?_
      replace h := Option.some.inj h
      subst h
      exact J33 trivial
  · replace h := zk_f h c1
    refine hr.1 1 True _ _ (5, [some (.int x0), none], [.int x0], [cb, sd, ln, pp], D) rfl trivial ?_
    refine hr.2.1 _ (¬ x0 = 0) _ _ rfl (fun c5 => ?_) (fun c5 => ?_)
    · replace h := zk_t h c5
      refine hr.1 1 True _ _ (14, [some (.int x0), none], [.int 0], [cb, sd, ln, pp], D) rfl trivial ?_
      exact hr.2.2.2 _ _ _ rfl trivial ⟨(congrArg (fun x => some (Value.int x)) (Option.some.inj h)), rfl⟩
    · replace h := zk_f h c5
      refine hr.1 2 True _ _ (14, [some (.int x0), none], [.int 32], [cb, sd, ln, pp], D) rfl trivial ?_
      exact hr.2.2.2 _ _ _ rfl trivial ⟨(congrArg (fun x => some (Value.int x)) (Option.some.inj h)), rfl⟩
set_option maxRecDepth 100000 in
set_option maxHeartbeats 4000000 in
theorem c_g_Lng_numberOfLeadingZeros {l : Launch} {E : zx_E} {d : Nat} {cb sd ln pp : Nat} {x0 : Int64} {D : zx_D} {q : Int32} (h : g_Lng_numberOfLeadingZeros x0 D = some q) : zx_MC l E 185 (d + 1) [.long x0] ([cb, sd, ln, pp], D) (fun v S => v = some (.int q) ∧ S = ([cb, sd, ln, pp], D)) := by
  refine zx_ofC (K := ck_Lng_numberOfLeadingZeros) rfl (by decide +kernel) rfl ok_Lng_numberOfLeadingZeros (Nat.le_of_ble_eq_true rfl) (fun Zp hr => ?_)
  show Zp (0, [some (.long x0), none, none], [], [cb, sd, ln, pp], D)
  rw [g_Lng_numberOfLeadingZeros] at h
  refine hr.1 6 True _ _ (7, [some (.long x0), none, some (.int (((zo_lushr x0 32)).toInt32))], [.int (((zo_lushr x0 32)).toInt32)], [cb, sd, ln, pp], D) rfl trivial ?_
  refine hr.2.1 _ (¬ ((zo_lushr x0 32)).toInt32 = 0) _ _ rfl (fun c7 => ?_) (fun c7 => ?_)
  · replace h := zk_t h c7
    refine hr.1 1 True _ _ (22, [some (.long x0), none, some (.int (((zo_lushr x0 32)).toInt32))], [.int (((zo_lushr x0 32)).toInt32)], [cb, sd, ln, pp], D) rfl trivial ?_
    obtain ⟨q1, hc, h⟩ := zk_bind h
    refine hr.2.2.1 _ _ _ _ _ (d) rfl (by omega) (c_g_Itg_numberOfLeadingZeros (l := l) (E := E) (d := d) (cb := cb) (sd := sd) (ln := ln) (pp := pp) hc) (fun v S hq => ?_)
    obtain ⟨rfl, rfl⟩ := hq
    clear hc
    exact hr.2.2.2 _ _ _ rfl trivial ⟨(congrArg (fun x => some (Value.int x)) (Option.some.inj h)), rfl⟩
  · replace h := zk_f h c7
    refine hr.1 3 True _ _ (14, [some (.long x0), none, some (.int (((zo_lushr x0 32)).toInt32))], [.int ((x0).toInt32), .int 32], [cb, sd, ln, pp], D) rfl trivial ?_
    obtain ⟨q2, hc, h⟩ := zk_bind h
    refine hr.2.2.1 _ _ _ _ _ (d) rfl (by omega) (c_g_Itg_numberOfLeadingZeros (l := l) (E := E) (d := d) (cb := cb) (sd := sd) (ln := ln) (pp := pp) hc) (fun v S hq => ?_)
    obtain ⟨rfl, rfl⟩ := hq
    clear hc
    refine hr.1 2 True _ _ (25, [some (.long x0), none, some (.int (((zo_lushr x0 32)).toInt32))], [.int (32 + q2)], [cb, sd, ln, pp], D) rfl trivial ?_
    exact hr.2.2.2 _ _ _ rfl trivial ⟨(congrArg (fun x => some (Value.int x)) (Option.some.inj h)), rfl⟩
set_option maxRecDepth 100000 in
set_option maxHeartbeats 4000000 in
theorem c_g_Mdl_slotOf {l : Launch} {E : zx_E} {d : Nat} {cb sd ln pp : Nat} {x0 : Int64} {D : zx_D} {q : Int32} (h : g_Mdl_slotOf x0 D = some q) : zx_MC l E 66 (d + 2) [.long x0] ([cb, sd, ln, pp], D) (fun v S => v = some (.int q) ∧ S = ([cb, sd, ln, pp], D)) := by
  refine zx_ofC (K := ck_Mdl_slotOf) rfl (by decide +kernel) rfl ok_Mdl_slotOf (Nat.le_of_ble_eq_true rfl) (fun Zp hr => ?_)
  show Zp (0, [some (.long x0), none, none, none, none], [], [cb, sd, ln, pp], D)
  rw [g_Mdl_slotOf] at h
  refine hr.1 6 True _ _ (8, [some (.long x0), none, some (.long (x0 - 1)), none, none], [.long 4, .long (x0 - 1)], [cb, sd, ln, pp], D) rfl trivial ?_
  refine hr.2.1 _ (4 ≤ x0 - 1) _ _ rfl (fun c8 => ?_) (fun c8 => ?_)
  · replace h := zk_t h c8
    refine hr.1 2 True _ _ (18, [some (.long x0), none, some (.long (x0 - 1)), none, none], [.long (x0 - 1), .int 63], [cb, sd, ln, pp], D) rfl trivial ?_
    obtain ⟨q1, hc, h⟩ := zk_bind h
    refine hr.2.2.1 _ _ _ _ _ (d + 1) rfl (by omega) (c_g_Lng_numberOfLeadingZeros (l := l) (E := E) (d := d) (cb := cb) (sd := sd) (ln := ln) (pp := pp) hc) (fun v S hq => ?_)
    obtain ⟨rfl, rfl⟩ := hq
    clear hc
    refine hr.1 14 True _ _ (38, [some (.long x0), none, some (.long (x0 - 1)), none, some (.int (63 - q1))], [.int ((2 * (63 - q1)) + ((((zo_lushr (x0 - 1) ((63 - q1) - 1))).toInt32) &&& 1))], [cb, sd, ln, pp], D) rfl trivial ?_
    exact hr.2.2.2 _ _ _ rfl trivial ⟨(congrArg (fun x => some (Value.int x)) (Option.some.inj h)), rfl⟩
  · replace h := zk_f h c8
    refine hr.1 2 True _ _ (14, [some (.long x0), none, some (.long (x0 - 1)), none, none], [.int (((x0 - 1)).toInt32)], [cb, sd, ln, pp], D) rfl trivial ?_
    exact hr.2.2.2 _ _ _ rfl trivial ⟨(congrArg (fun x => some (Value.int x)) (Option.some.inj h)), rfl⟩
set_option maxRecDepth 100000 in
set_option maxHeartbeats 4000000 in
theorem c_g_Snk_codeEvenBit {l : Launch} {E : zx_E} {d : Nat} {cb sd ln pp : Nat} {x1 : Int32} {D : zx_D} {q : Int32 × zx_D} (h : g_Snk_codeEvenBit x1 D = some q) : zx_MC l E 54 (d + 1) [.ref 20, .int x1] ([cb, sd, ln, pp], D) (fun v S => v = some (.int q.1) ∧ S = ([cb, sd, ln, pp], q.2)) := by
  refine zx_ofC (K := ck_Snk_codeEvenBit) rfl (by decide +kernel) rfl ok_Snk_codeEvenBit (Nat.le_of_ble_eq_true rfl) (fun Zp hr => ?_)
  show Zp (0, [some (.ref 20), some (.int x1)], [], [cb, sd, ln, pp], D)
  rw [g_Snk_codeEvenBit] at h
  refine hr.1 1 True _ _ (1, [some (.ref 20), some (.int x1)], [.ref 20], [cb, sd, ln, pp], D) rfl trivial ?_
  obtain ⟨q1, hc, h⟩ := zk_bind h
  refine hr.2.2.1 _ _ _ _ _ (d) rfl (by omega) (c_g_Snk_shift (l := l) (E := E) (d := d) (cb := cb) (sd := sd) (ln := ln) (pp := pp) hc) (fun v S hq => ?_)
  obtain ⟨rfl, rfl⟩ := hq
  clear hc
  refine hr.1 2 True _ _ (8, [some (.ref 20), some (.int x1)], [.int (zg_i q1 20 2)], [cb, sd, ln, pp], q1) rfl trivial ?_
  refine hr.2.1 _ (zg_i q1 20 2 = 0) _ _ rfl (fun c8 => ?_) (fun c8 => ?_)
  · replace h := zk_t h c8
    refine hr.1 8 True _ _ (25, [some (.ref 20), some (.int x1)], [.int 1, .int x1], [cb, sd, ln, pp], zp_l q1 20 1 (zo_lushr (zg_l q1 20 1) 1)) rfl trivial ?_
    refine hr.2.1 _ (¬ x1 = 1) _ _ rfl (fun c25 => ?_) (fun c25 => ?_)
    · replace h := zk_t h c25
      refine hr.1 1 True _ _ (37, [some (.ref 20), some (.int x1)], [.int x1], [cb, sd, ln, pp], zp_l q1 20 1 (zo_lushr (zg_l q1 20 1) 1)) rfl trivial ?_
      exact hr.2.2.2 _ _ _ rfl trivial ⟨(congrArg (fun x => some (Value.int x.1)) (Option.some.inj h)), (congrArg (fun x => (([cb, sd, ln, pp], x.2) : zx_S)) (Option.some.inj h))⟩
    · replace h := zk_f h c25
      refine hr.1 3 True _ _ (33, [some (.ref 20), some (.int x1)], [.long (zo_lushr (zg_l q1 20 1) 1), .ref 20], [cb, sd, ln, pp], zp_l q1 20 1 (zo_lushr (zg_l q1 20 1) 1)) rfl trivial ?_
      obtain ⟨q2, hc, h⟩ := zk_bind h
      refine hr.2.2.1 _ _ _ _ _ (d) rfl (by omega) (c_g_Snk_raise (l := l) (E := E) (d := d) (cb := cb) (sd := sd) (ln := ln) (pp := pp) hc) (fun v S hq => ?_)
      obtain ⟨rfl, rfl⟩ := hq
      clear hc
      refine hr.1 1 True _ _ (37, [some (.ref 20), some (.int x1)], [.int x1], [cb, sd, ln, pp], q2) rfl trivial ?_
      exact hr.2.2.2 _ _ _ rfl trivial ⟨(congrArg (fun x => some (Value.int x.1)) (Option.some.inj h)), (congrArg (fun x => (([cb, sd, ln, pp], x.2) : zx_S)) (Option.some.inj h))⟩
  · replace h := zk_f h c8
    refine hr.1 1 True _ _ (12, [some (.ref 20), some (.int x1)], [.int x1], [cb, sd, ln, pp], q1) rfl trivial ?_
    exact hr.2.2.2 _ _ _ rfl trivial ⟨(congrArg (fun x => some (Value.int x.1)) (Option.some.inj h)), (congrArg (fun x => (([cb, sd, ln, pp], x.2) : zx_S)) (Option.some.inj h))⟩
set_option maxRecDepth 100000 in
set_option maxHeartbeats 4000000 in
theorem c_g_Mdl_codeTreeBackwards_k {l : Launch} {E : zx_E} {d : Nat} {cb sd pp : Nat} {x1 : Int32} {x2 : Int32} {x3 : Int32} {D : zx_D} {q : Int32 × zx_D} (h : g_Mdl_codeTreeBackwards_k x1 x2 x3 D = some q) : zx_MC l E 68 (d + 2) [.ref 7, .int x1, .int x2, .int x3] ([cb, sd, 20, pp], D) (fun v S => v = some (.int q.1) ∧ S = ([cb, sd, 20, pp], q.2)) := by
  refine zx_ofC (K := ck_Mdl_codeTreeBackwards) rfl (by decide +kernel) rfl ok_Mdl_codeTreeBackwards (Nat.le_of_ble_eq_true rfl) (fun Zp hr => ?_)
  show Zp (0, [some (.ref 7), some (.int x1), some (.int x2), some (.int x3), none, none, none, none], [], [cb, sd, 20, pp], D)
  have loop9 : ∀ (x1 : Int32) (x2 : Int32) (x3 : Int32) (k : Nat) (x4 : Int32) (x5 : Int32) (x6 : Int32) (D : zx_D) (o7 : Option Value) (q : Int32 × zx_D), g_Mdl_codeTreeBackwards_k_9 x1 x2 x3 k x4 x5 x6 D = some q → (∀ (e4 : Int32) (e6 : Int32) (o7 : Option Value), Zp (59, [some (.ref 7), some (.int x1), some (.int x2), some (.int x3), some (.int e4), some (.int q.1), some (.int e6), o7], [], [cb, sd, 20, pp], q.2)) → Zp (9, [some (.ref 7), some (.int x1), some (.int x2), some (.int x3), some (.int x4), some (.int x5), some (.int x6), o7], [], [cb, sd, 20, pp], D) := by
    intro x1 x2 x3 k
    induction k with
    | zero => intro x4 x5 x6 D o7 q h hx; exact (zk_no h).elim
    | succ k ih =>
      intro x4 x5 x6 D o7 q h hx
      rw [g_Mdl_codeTreeBackwards_k_9] at h
      refine hr.1 2 True _ _ (12, [some (.ref 7), some (.int x1), some (.int x2), some (.int x3), some (.int x4), some (.int x5), some (.int x6), o7], [.int x2, .int x6], [cb, sd, 20, pp], D) rfl trivial ?_
      refine hr.2.1 _ (x2 ≤ x6) _ _ rfl (fun c12 => ?_) (fun c12 => ?_)
      · replace h := zk_t h c12
        replace h := Option.some.inj h
        subst h
        exact hx x4 x6 o7
      · replace h := zk_f h c12
        refine hr.1 10 True _ _ (29, [some (.ref 7), some (.int x1), some (.int x2), some (.int x3), some (.int x4), some (.int x5), some (.int x6), o7], [.int ((zo_ushr x3 x6) &&& 1), .int (x1 + x4), .ref 20], [cb, sd, 20, pp], D) rfl trivial ?_
        obtain ⟨q1, hc, h⟩ := zk_bind h
        refine hr.2.2.1 _ _ _ _ _ (d + 1) rfl (by omega) (c_g_Snk_codeBit (l := l) (E := E) (d := d) (cb := cb) (sd := sd) (ln := 20) (pp := pp) hc) (fun v S hq => ?_)
        obtain ⟨rfl, rfl⟩ := hq
        clear hc
        refine hr.1 15 True _ _ (9, [some (.ref 7), some (.int x1), some (.int x2), some (.int x3), some (.int ((2 * x4) + q1.1)), some (.int (x5 + (zo_shl q1.1 x6))), some (.int (x6 + 1)), some (.int q1.1)], [], [cb, sd, 20, pp], q1.2) rfl trivial ?_
        exact ih ((2 * x4) + q1.1) (x5 + (zo_shl q1.1 x6)) (x6 + 1) q1.2 _ _ h hx
  rw [g_Mdl_codeTreeBackwards_k] at h
  refine hr.1 6 True _ _ (9, [some (.ref 7), some (.int x1), some (.int x2), some (.int x3), some (.int 1), some (.int 0), some (.int 0), none], [], [cb, sd, 20, pp], D) rfl trivial ?_
  obtain ⟨q2, hc, h⟩ := zk_bind h
  refine loop9 x1 x2 x3 10000 1 0 0 D none q2 hc (fun e4 e6 o7 => ?_)
  clear hc
  refine hr.1 1 True _ _ (61, [some (.ref 7), some (.int x1), some (.int x2), some (.int x3), some (.int e4), some (.int q2.1), some (.int e6), o7], [.int q2.1], [cb, sd, 20, pp], q2.2) rfl trivial ?_
  exact hr.2.2.2 _ _ _ rfl trivial ⟨(congrArg (fun x => some (Value.int x.1)) (Option.some.inj h)), (congrArg (fun x => (([cb, sd, 20, pp], x.2) : zx_S)) (Option.some.inj h))⟩
set_option maxRecDepth 100000 in
set_option maxHeartbeats 4000000 in
theorem c_g_Mdl_codeDistance_k {l : Launch} {E : zx_E} {d : Nat} {cb sd pp : Nat} {D : zx_D} {q : Int64 × zx_D} (h : g_Mdl_codeDistance_k D = some q) : zx_MC l E 65 (d + 3) [.ref 7] ([cb, sd, 20, pp], D) (fun v S => v = some (.long q.1) ∧ S = ([cb, sd, 20, pp], q.2)) := by
  refine zx_ofC (K := ck_Mdl_codeDistance) rfl (by decide +kernel) rfl ok_Mdl_codeDistance (Nat.le_of_ble_eq_true rfl) (fun Zp hr => ?_)
  show Zp (0, [some (.ref 7), none, none, none, none, none, none, none, none, none], [], [cb, sd, 20, pp], D)
  have loop106 : ∀ (x3 : Int64) (x5 : Int64) (k : Nat) (x7 : Int64) (x9 : Int32) (D : zx_D) (x1 : Int32) (x2 : Int32) (q : Int64 × zx_D), g_Mdl_codeDistance_k_106 x3 x5 k x7 x9 D = some q → (∀ (e9 : Int32), Zp (143, [some (.ref 7), some (.int x1), some (.int x2), some (.long x3), none, some (.long x5), none, some (.long q.1), none, some (.int e9)], [], [cb, sd, 20, pp], q.2)) → Zp (106, [some (.ref 7), some (.int x1), some (.int x2), some (.long x3), none, some (.long x5), none, some (.long x7), none, some (.int x9)], [], [cb, sd, 20, pp], D) := by
    intro x3 x5 k
    induction k with
    | zero => intro x7 x9 D x1 x2 q h hx; exact (zk_no h).elim
    | succ k ih =>
      intro x7 x9 D x1 x2 q h hx
      rw [g_Mdl_codeDistance_k_106] at h
      refine hr.1 2 True _ _ (109, [some (.ref 7), some (.int x1), some (.int x2), some (.long x3), none, some (.long x5), none, some (.long x7), none, some (.int x9)], [.int 4, .int x9], [cb, sd, 20, pp], D) rfl trivial ?_
      refine hr.2.1 _ (x9 < 4) _ _ rfl (fun c109 => ?_) (fun c109 => ?_)
      · replace h := zk_t h c109
        replace h := Option.some.inj h
        subst h
        exact hx x9
      · replace h := zk_f h c109
        refine hr.1 11 True _ _ (130, [some (.ref 7), some (.int x1), some (.int x2), some (.long x3), none, some (.long x5), none, some (.long x7), none, some (.int x9)], [.int ((((zo_lushr x5 x9)).toInt32) &&& 1), .ref 20, .long (2 * x7)], [cb, sd, 20, pp], D) rfl trivial ?_
        obtain ⟨q3, hc, h⟩ := zk_bind h
        refine hr.2.2.1 _ _ _ _ _ (d + 2) rfl (by omega) (c_g_Snk_codeEvenBit (l := l) (E := E) (d := d + 1) (cb := cb) (sd := sd) (ln := 20) (pp := pp) hc) (fun v S hq => ?_)
        obtain ⟨rfl, rfl⟩ := hq
        clear hc
        refine hr.1 5 True _ _ (106, [some (.ref 7), some (.int x1), some (.int x2), some (.long x3), none, some (.long x5), none, some (.long ((2 * x7) + ((q3.1).toInt64))), none, some (.int (x9 + (-1)))], [], [cb, sd, 20, pp], q3.2) rfl trivial ?_
        exact ih ((2 * x7) + ((q3.1).toInt64)) (x9 + (-1)) q3.2 _ _ _ h hx
  rw [g_Mdl_codeDistance_k] at h
  refine hr.1 14 True _ _ (24, [some (.ref 7), none, none, none, none, none, none, none, none, none], [.long (zg_l D 7 10), .int 6, .int (1460 + (64 * (if 3 < (zg_i D 7 9) - 2 then 3 else (zg_i D 7 9) - 2))), .ref 7], [cb, sd, 20, pp], D) rfl trivial ?_
  obtain ⟨q1, hc, h⟩ := zk_bind h
  refine hr.2.2.1 _ _ _ _ _ (d + 2) rfl (by omega) (c_g_Mdl_slotOf (l := l) (E := E) (d := d) (cb := cb) (sd := sd) (ln := 20) (pp := pp) hc) (fun v S hq => ?_)
  obtain ⟨rfl, rfl⟩ := hq
  clear hc
  obtain ⟨q2, hc, h⟩ := zk_bind h
  refine hr.2.2.1 _ _ _ _ _ (d + 2) rfl (by omega) (c_g_Mdl_codeTree_k (l := l) (E := E) (d := d) (cb := cb) (sd := sd) (pp := pp) hc) (fun v S hq => ?_)
  obtain ⟨rfl, rfl⟩ := hq
  clear hc
  refine hr.1 3 True _ _ (33, [some (.ref 7), some (.int q2.1), none, none, none, none, none, none, none, none], [.int 4, .int q2.1], [cb, sd, 20, pp], q2.2) rfl trivial ?_
  refine hr.2.1 _ (4 ≤ q2.1) _ _ rfl (fun c33 => ?_) (fun c33 => ?_)
  · replace h := zk_t h c33
    refine hr.1 24 True _ _ (71, [some (.ref 7), some (.int q2.1), some (.int ((q2.1 / 2) - 1)), some (.long (zo_lshl (2 + (((zo_rem q2.1 2)).toInt64)) ((q2.1 / 2) - 1))), none, some (.long (((zg_l q2.2 7 10) - 1) - (zo_lshl (2 + (((zo_rem q2.1 2)).toInt64)) ((q2.1 / 2) - 1)))), none, none, none, none], [.int 14, .int q2.1], [cb, sd, 20, pp], q2.2) rfl trivial ?_
    refine hr.2.1 _ (14 ≤ q2.1) _ _ rfl (fun c71 => ?_) (fun c71 => ?_)
    · replace h := zk_t h c71
      refine hr.1 6 True _ _ (106, [some (.ref 7), some (.int q2.1), some (.int ((q2.1 / 2) - 1)), some (.long (zo_lshl (2 + (((zo_rem q2.1 2)).toInt64)) ((q2.1 / 2) - 1))), none, some (.long (((zg_l q2.2 7 10) - 1) - (zo_lshl (2 + (((zo_rem q2.1 2)).toInt64)) ((q2.1 / 2) - 1)))), none, some (.long 0), none, some (.int (((q2.1 / 2) - 1) - 1))], [], [cb, sd, 20, pp], q2.2) rfl trivial ?_
      obtain ⟨q4, hc, h⟩ := zk_bind h
      refine loop106 (zo_lshl (2 + (((zo_rem q2.1 2)).toInt64)) ((q2.1 / 2) - 1)) (((zg_l q2.2 7 10) - 1) - (zo_lshl (2 + (((zo_rem q2.1 2)).toInt64)) ((q2.1 / 2) - 1))) 10000 0 (((q2.1 / 2) - 1) - 1) q2.2 q2.1 ((q2.1 / 2) - 1) q4 hc (fun e9 => ?_)
      clear hc
      refine hr.1 12 True _ _ (161, [some (.ref 7), some (.int q2.1), some (.int ((q2.1 / 2) - 1)), some (.long (zo_lshl (2 + (((zo_rem q2.1 2)).toInt64)) ((q2.1 / 2) - 1))), none, some (.long (((zg_l q2.2 7 10) - 1) - (zo_lshl (2 + (((zo_rem q2.1 2)).toInt64)) ((q2.1 / 2) - 1)))), none, some (.long q4.1), none, some (.int e9)], [.int (((((zg_l q2.2 7 10) - 1) - (zo_lshl (2 + (((zo_rem q2.1 2)).toInt64)) ((q2.1 / 2) - 1)))).toInt32), .int 4, .int 2036, .ref 7, .long (((zo_lshl (2 + (((zo_rem q2.1 2)).toInt64)) ((q2.1 / 2) - 1)) + 1) + (16 * q4.1))], [cb, sd, 20, pp], q4.2) rfl trivial ?_
      obtain ⟨q5, hc, h⟩ := zk_bind h
      refine hr.2.2.1 _ _ _ _ _ (d + 2) rfl (by omega) (c_g_Mdl_codeTreeBackwards_k (l := l) (E := E) (d := d) (cb := cb) (sd := sd) (pp := pp) hc) (fun v S hq => ?_)
      obtain ⟨rfl, rfl⟩ := hq
      clear hc
      refine hr.1 2 True _ _ (166, [some (.ref 7), some (.int q2.1), some (.int ((q2.1 / 2) - 1)), some (.long (zo_lshl (2 + (((zo_rem q2.1 2)).toInt64)) ((q2.1 / 2) - 1))), none, some (.long (((zg_l q2.2 7 10) - 1) - (zo_lshl (2 + (((zo_rem q2.1 2)).toInt64)) ((q2.1 / 2) - 1)))), none, some (.long q4.1), none, some (.int e9)], [.long ((((zo_lshl (2 + (((zo_rem q2.1 2)).toInt64)) ((q2.1 / 2) - 1)) + 1) + (16 * q4.1)) + ((q5.1).toInt64))], [cb, sd, 20, pp], q5.2) rfl trivial ?_
      exact hr.2.2.2 _ _ _ rfl trivial ⟨(congrArg (fun x => some (Value.long x.1)) (Option.some.inj h)), (congrArg (fun x => (([cb, sd, 20, pp], x.2) : zx_S)) (Option.some.inj h))⟩
    · replace h := zk_f h c71
      refine hr.1 14 True _ _ (92, [some (.ref 7), some (.int q2.1), some (.int ((q2.1 / 2) - 1)), some (.long (zo_lshl (2 + (((zo_rem q2.1 2)).toInt64)) ((q2.1 / 2) - 1))), none, some (.long (((zg_l q2.2 7 10) - 1) - (zo_lshl (2 + (((zo_rem q2.1 2)).toInt64)) ((q2.1 / 2) - 1)))), none, none, none, none], [.int (((((zg_l q2.2 7 10) - 1) - (zo_lshl (2 + (((zo_rem q2.1 2)).toInt64)) ((q2.1 / 2) - 1)))).toInt32), .int ((q2.1 / 2) - 1), .int (1716 + (32 * (q2.1 - 4))), .ref 7, .long ((zo_lshl (2 + (((zo_rem q2.1 2)).toInt64)) ((q2.1 / 2) - 1)) + 1)], [cb, sd, 20, pp], q2.2) rfl trivial ?_
      obtain ⟨q6, hc, h⟩ := zk_bind h
      refine hr.2.2.1 _ _ _ _ _ (d + 2) rfl (by omega) (c_g_Mdl_codeTreeBackwards_k (l := l) (E := E) (d := d) (cb := cb) (sd := sd) (pp := pp) hc) (fun v S hq => ?_)
      obtain ⟨rfl, rfl⟩ := hq
      clear hc
      refine hr.1 2 True _ _ (97, [some (.ref 7), some (.int q2.1), some (.int ((q2.1 / 2) - 1)), some (.long (zo_lshl (2 + (((zo_rem q2.1 2)).toInt64)) ((q2.1 / 2) - 1))), none, some (.long (((zg_l q2.2 7 10) - 1) - (zo_lshl (2 + (((zo_rem q2.1 2)).toInt64)) ((q2.1 / 2) - 1)))), none, none, none, none], [.long (((zo_lshl (2 + (((zo_rem q2.1 2)).toInt64)) ((q2.1 / 2) - 1)) + 1) + ((q6.1).toInt64))], [cb, sd, 20, pp], q6.2) rfl trivial ?_
      exact hr.2.2.2 _ _ _ rfl trivial ⟨(congrArg (fun x => some (Value.long x.1)) (Option.some.inj h)), (congrArg (fun x => (([cb, sd, 20, pp], x.2) : zx_S)) (Option.some.inj h))⟩
  · replace h := zk_f h c33
    refine hr.1 4 True _ _ (40, [some (.ref 7), some (.int q2.1), none, none, none, none, none, none, none, none], [.long (((q2.1 + 1)).toInt64)], [cb, sd, 20, pp], q2.2) rfl trivial ?_
    exact hr.2.2.2 _ _ _ rfl trivial ⟨(congrArg (fun x => some (Value.long x.1)) (Option.some.inj h)), (congrArg (fun x => (([cb, sd, 20, pp], x.2) : zx_S)) (Option.some.inj h))⟩
set_option maxRecDepth 100000 in
set_option maxHeartbeats 4000000 in
theorem c_g_Mdl_codeLiteral_k {l : Launch} {E : zx_E} {d : Nat} {cb sd pp : Nat} {x1 : Int32} {x2 : Int32} {D : zx_D} {q : Int32 × zx_D} (h : g_Mdl_codeLiteral_k x1 x2 D = some q) : zx_MC l E 63 (d + 2) [.ref 7, .int x1, .int x2] ([cb, sd, 20, pp], D) (fun v S => v = some (.int q.1) ∧ S = ([cb, sd, 20, pp], q.2)) := by
  refine zx_ofC (K := ck_Mdl_codeLiteral) rfl (by decide +kernel) rfl ok_Mdl_codeLiteral (Nat.le_of_ble_eq_true rfl) (fun Zp hr => ?_)
  show Zp (0, [some (.ref 7), some (.int x1), some (.int x2), none, none, none, none, none, none], [], [cb, sd, 20, pp], D)
  have loop22 : ∀ (x1 : Int32) (x2 : Int32) (k : Nat) (x3 : Int32) (x4 : Int32) (x5 : Int32) (D : zx_D) (o6 : Option Value) (o7 : Option Value) (o8 : Option Value) (q : Int32 × zx_D), g_Mdl_codeLiteral_k_22 x1 x2 k x3 x4 x5 D = some q → (∀ (e3 : Int32) (e5 : Int32) (o6 : Option Value) (o7 : Option Value) (o8 : Option Value), Zp (110, [some (.ref 7), some (.int x1), some (.int x2), some (.int e3), some (.int q.1), some (.int e5), o6, o7, o8], [], [cb, sd, 20, pp], q.2)) → Zp (22, [some (.ref 7), some (.int x1), some (.int x2), some (.int x3), some (.int x4), some (.int x5), o6, o7, o8], [], [cb, sd, 20, pp], D) := by
    intro x1 x2 k
    induction k with
    | zero => intro x3 x4 x5 D o6 o7 o8 q h hx; exact (zk_no h).elim
    | succ k ih =>
      intro x3 x4 x5 D o6 o7 o8 q h hx
      rw [g_Mdl_codeLiteral_k_22] at h
      refine hr.1 1 True _ _ (24, [some (.ref 7), some (.int x1), some (.int x2), some (.int x3), some (.int x4), some (.int x5), o6, o7, o8], [.int x5], [cb, sd, 20, pp], D) rfl trivial ?_
      refine hr.2.1 _ (x5 < 0) _ _ rfl (fun c24 => ?_) (fun c24 => ?_)
      · replace h := zk_t h c24
        replace h := Option.some.inj h
        subst h
        exact hx x3 x5 o6 o7 o8
      · replace h := zk_f h c24
        refine hr.1 7 True _ _ (36, [some (.ref 7), some (.int x1), some (.int x2), some (.int x3), some (.int x4), some (.int x5), some (.int ((zo_ushr x2 x5) &&& 1)), o7, o8], [.int x3], [cb, sd, 20, pp], D) rfl trivial ?_
        obtain ⟨q2, hj, h⟩ := zk_bind h
        have J47 : ∀ (_ : True), Zp (47, [some (.ref 7), some (.int x1), some (.int x2), some (.int x3), some (.int x4), some (.int x5), some (.int ((zo_ushr x2 x5) &&& 1)), o7, o8], [.int q2], [cb, sd, 20, pp], D) := by
          intro _
          refine hr.1 16 True _ _ (73, [some (.ref 7), some (.int x1), some (.int x2), some (.int x3), some (.int x4), some (.int x5), some (.int ((zo_ushr x2 x5) &&& 1)), some (.int q2), o8], [.int ((zo_ushr (zg_i D 7 8) x5) &&& 1), .int ((x1 + (q2 * 256)) + x4), .ref 20], [cb, sd, 20, pp], D) rfl trivial ?_
          obtain ⟨q3, hc, h⟩ := zk_bind h
          refine hr.2.2.1 _ _ _ _ _ (d + 1) rfl (by omega) (c_g_Snk_codeBit (l := l) (E := E) (d := d) (cb := cb) (sd := sd) (ln := 20) (pp := pp) hc) (fun v S hq => ?_)
          obtain ⟨rfl, rfl⟩ := hq
          clear hc
          refine hr.1 2 True _ _ (79, [some (.ref 7), some (.int x1), some (.int x2), some (.int x3), some (.int x4), some (.int x5), some (.int ((zo_ushr x2 x5) &&& 1)), some (.int q2), some (.int q3.1)], [.int x3], [cb, sd, 20, pp], q3.2) rfl trivial ?_
          refine hr.2.1 _ (x3 = 0) _ _ rfl (fun c79 => ?_) (fun c79 => ?_)
          · replace h := zk_t h c79
            refine hr.1 10 True _ _ (22, [some (.ref 7), some (.int x1), some (.int x2), some (.int 0), some (.int ((2 * x4) + q3.1)), some (.int (x5 + (-1))), some (.int ((zo_ushr x2 x5) &&& 1)), some (.int q2), some (.int q3.1)], [], [cb, sd, 20, pp], q3.2) rfl trivial ?_
            exact ih 0 ((2 * x4) + q3.1) (x5 + (-1)) q3.2 _ _ _ _ h hx
          · replace h := zk_f h c79
            refine hr.1 2 True _ _ (86, [some (.ref 7), some (.int x1), some (.int x2), some (.int x3), some (.int x4), some (.int x5), some (.int ((zo_ushr x2 x5) &&& 1)), some (.int q2), some (.int q3.1)], [.int ((zo_ushr x2 x5) &&& 1), .int q3.1], [cb, sd, 20, pp], q3.2) rfl trivial ?_
            refine hr.2.1 _ (¬ q3.1 = (zo_ushr x2 x5) &&& 1) _ _ rfl (fun c86 => ?_) (fun c86 => ?_)
            · replace h := zk_t h c86
              refine hr.1 10 True _ _ (22, [some (.ref 7), some (.int x1), some (.int x2), some (.int 0), some (.int ((2 * x4) + q3.1)), some (.int (x5 + (-1))), some (.int ((zo_ushr x2 x5) &&& 1)), some (.int q2), some (.int q3.1)], [], [cb, sd, 20, pp], q3.2) rfl trivial ?_
              exact ih 0 ((2 * x4) + q3.1) (x5 + (-1)) q3.2 _ _ _ _ h hx
            · replace h := zk_f h c86
              refine hr.1 11 True _ _ (22, [some (.ref 7), some (.int x1), some (.int x2), some (.int 1), some (.int ((2 * x4) + q3.1)), some (.int (x5 + (-1))), some (.int ((zo_ushr x2 x5) &&& 1)), some (.int q2), some (.int q3.1)], [], [cb, sd, 20, pp], q3.2) rfl trivial ?_
              exact ih 1 ((2 * x4) + q3.1) (x5 + (-1)) q3.2 _ _ _ _ h hx
        clear h
        have h := hj
        clear hj
        refine hr.2.1 _ (x3 = 0) _ _ rfl (fun c36 => ?_) (fun c36 => ?_)
        · replace h := zk_t h c36
          refine hr.1 1 True _ _ (47, [some (.ref 7), some (.int x1), some (.int x2), some (.int x3), some (.int x4), some (.int x5), some (.int ((zo_ushr x2 x5) &&& 1)), o7, o8], [.int 0], [cb, sd, 20, pp], D) rfl trivial ?_
          replace h := Option.some.inj h
          subst h
          exact J47 trivial
        · replace h := zk_f h c36
          refine hr.1 4 True _ _ (47, [some (.ref 7), some (.int x1), some (.int x2), some (.int x3), some (.int x4), some (.int x5), some (.int ((zo_ushr x2 x5) &&& 1)), o7, o8], [.int (1 + ((zo_ushr x2 x5) &&& 1))], [cb, sd, 20, pp], D) rfl trivial ?_
          replace h := Option.some.inj h
          subst h
          exact J47 trivial
  rw [g_Mdl_codeLiteral_k] at h
  refine hr.1 3 True _ _ (6, [some (.ref 7), some (.int x1), some (.int x2), none, none, none, none, none, none], [.int 7, .int (zg_i D 7 2)], [cb, sd, 20, pp], D) rfl trivial ?_
  obtain ⟨q1, hj, h⟩ := zk_bind h
  have J14 : ∀ (_ : True), Zp (14, [some (.ref 7), some (.int x1), some (.int x2), none, none, none, none, none, none], [.int q1], [cb, sd, 20, pp], D) := by
    intro _
    refine hr.1 5 True _ _ (22, [some (.ref 7), some (.int x1), some (.int x2), some (.int q1), some (.int 1), some (.int 7), none, none, none], [], [cb, sd, 20, pp], D) rfl trivial ?_
    obtain ⟨q4, hc, h⟩ := zk_bind h
    refine loop22 x1 x2 10000 q1 1 7 D none none none q4 hc (fun e3 e5 o6 o7 o8 => ?_)
    clear hc
    refine hr.1 3 True _ _ (116, [some (.ref 7), some (.int x1), some (.int x2), some (.int e3), some (.int q4.1), some (.int e5), o6, o7, o8], [.int (q4.1 - 256)], [cb, sd, 20, pp], q4.2) rfl trivial ?_
    exact hr.2.2.2 _ _ _ rfl trivial ⟨(congrArg (fun x => some (Value.int x.1)) (Option.some.inj h)), (congrArg (fun x => (([cb, sd, 20, pp], x.2) : zx_S)) (Option.some.inj h))⟩
  clear h
  have h := hj
  clear hj
  refine hr.2.1 _ (zg_i D 7 2 < 7) _ _ rfl (fun c6 => ?_) (fun c6 => ?_)
  · replace h := zk_t h c6
    refine hr.1 1 True _ _ (14, [some (.ref 7), some (.int x1), some (.int x2), none, none, none, none, none, none], [.int 0], [cb, sd, 20, pp], D) rfl trivial ?_
    replace h := Option.some.inj h
    subst h
    exact J14 trivial
  · replace h := zk_f h c6
    refine hr.1 2 True _ _ (14, [some (.ref 7), some (.int x1), some (.int x2), none, none, none, none, none, none], [.int 1], [cb, sd, 20, pp], D) rfl trivial ?_
    replace h := Option.some.inj h
    subst h
    exact J14 trivial
set_option maxRecDepth 100000 in
set_option maxHeartbeats 4000000 in
theorem c_g_Mdl_step_k {l : Launch} {E : zx_E} {d : Nat} {cb sd pp : Nat} {x1 : Int32} {x2 : Int32} {x3 : Int32} {D : zx_D} {q : zx_D} (h : g_Mdl_step_k x1 x2 x3 D = some q) : zx_MC l E 60 (d + 4) [.ref 7, .int x1, .int x2, .int x3] ([cb, sd, 20, pp], D) (fun v S => v = none ∧ S = ([cb, sd, 20, pp], q)) := by
  refine zx_ofC (K := ck_Mdl_step) rfl (by decide +kernel) rfl ok_Mdl_step (Nat.le_of_ble_eq_true rfl) (fun Zp hr => ?_)
  show Zp (0, [some (.ref 7), some (.int x1), some (.int x2), some (.int x3), none, none], [], [cb, sd, 20, pp], D)
  rw [g_Mdl_step_k] at h
  refine hr.1 12 True _ _ (16, [some (.ref 7), some (.int x1), some (.int x2), some (.int x3), some (.int (x1 &&& ((zo_shl 1 (zg_i D 7 5)) - 1))), none], [.int (x1 &&& ((zo_shl 1 (zg_i D 7 5)) - 1)), .ref 7, .ref 7], [cb, sd, 20, pp], D) rfl trivial ?_
  obtain ⟨q1, hc, h⟩ := zk_bind h
  refine hr.2.2.1 _ _ _ _ _ (d + 3) rfl (by omega) (c_g_Mdl_codeKind_k (l := l) (E := E) (d := d + 1) (cb := cb) (sd := sd) (pp := pp) hc) (fun v S hq => ?_)
  obtain ⟨rfl, rfl⟩ := hq
  clear hc
  refine hr.1 4 True _ _ (27, [some (.ref 7), some (.int x1), some (.int x2), some (.int x3), some (.int (x1 &&& ((zo_shl 1 (zg_i D 7 5)) - 1))), none], [.int 1, .int q1.1], [cb, sd, 20, pp], zp_i q1.2 7 7 q1.1) rfl trivial ?_
  refine hr.2.1 _ (¬ q1.1 = 1) _ _ rfl (fun c27 => ?_) (fun c27 => ?_)
  · replace h := zk_t h c27
    refine hr.1 3 True _ _ (130, [some (.ref 7), some (.int x1), some (.int x2), some (.int x3), some (.int (x1 &&& ((zo_shl 1 (zg_i D 7 5)) - 1))), none], [.int 2, .int q1.1], [cb, sd, 20, pp], zp_i q1.2 7 7 q1.1) rfl trivial ?_
    refine hr.2.1 _ (¬ q1.1 = 2) _ _ rfl (fun c130 => ?_) (fun c130 => ?_)
    · replace h := zk_t h c130
      refine hr.1 3 True _ _ (191, [some (.ref 7), some (.int x1), some (.int x2), some (.int x3), some (.int (x1 &&& ((zo_shl 1 (zg_i D 7 5)) - 1))), none], [.int 3, .int q1.1], [cb, sd, 20, pp], zp_i q1.2 7 7 q1.1) rfl trivial ?_
      refine hr.2.1 _ (¬ q1.1 = 3) _ _ rfl (fun c191 => ?_) (fun c191 => ?_)
      · replace h := zk_t h c191
        obtain ⟨w2, h⟩ := zk_ck h
        refine hr.1 12 True _ _ (240, [some (.ref 7), some (.int x1), some (.int x2), some (.int x3), some (.int (x1 &&& ((zo_shl 1 (zg_i D 7 5)) - 1))), none], [.long (zg_l q1.2 8 (zn (q1.1 - 4))), .int (q1.1 - 4), .ref 7], [cb, sd, 20, pp], zp_i q1.2 7 7 q1.1) rfl ⟨trivial, (zk_vp w2)⟩ ?_
        obtain ⟨q2, hc, h⟩ := zk_bind h
        refine hr.2.2.1 _ _ _ _ _ (d + 3) rfl (by omega) (c_g_Mdl_bringForward (l := l) (E := E) (d := d + 3) (cb := cb) (sd := sd) (ln := 20) (pp := pp) hc) (fun v S hq => ?_)
        obtain ⟨rfl, rfl⟩ := hq
        clear hc
        refine hr.1 4 True _ _ (250, [some (.ref 7), some (.int x1), some (.int x2), some (.int x3), some (.int (x1 &&& ((zo_shl 1 (zg_i D 7 5)) - 1))), none], [.int (x1 &&& ((zo_shl 1 (zg_i D 7 5)) - 1)), .int 946, .ref 7, .ref 7], [cb, sd, 20, pp], q2) rfl trivial ?_
        obtain ⟨q3, hc, h⟩ := zk_bind h
        refine hr.2.2.1 _ _ _ _ _ (d + 3) rfl (by omega) (c_g_Mdl_codeLength_k (l := l) (E := E) (d := d) (cb := cb) (sd := sd) (pp := pp) hc) (fun v S hq => ?_)
        obtain ⟨rfl, rfl⟩ := hq
        clear hc
        refine hr.1 5 True _ _ (263, [some (.ref 7), some (.int x1), some (.int x2), some (.int x3), some (.int (x1 &&& ((zo_shl 1 (zg_i D 7 5)) - 1))), none], [.int 7, .int (zg_i q3.2 7 2), .ref 7], [cb, sd, 20, pp], zp_i q3.2 7 9 q3.1) rfl trivial ?_
        refine hr.2.1 _ (7 ≤ zg_i q3.2 7 2) _ _ rfl (fun c263 => ?_) (fun c263 => ?_)
        · replace h := zk_t h c263
          refine hr.1 2 True _ _ (276, [some (.ref 7), some (.int x1), some (.int x2), some (.int x3), some (.int (x1 &&& ((zo_shl 1 (zg_i D 7 5)) - 1))), none], [], [cb, sd, 20, pp], zp_i (zp_i q3.2 7 9 q3.1) 7 2 11) rfl trivial ?_
          exact hr.2.2.2 _ _ _ rfl trivial ⟨rfl, (congrArg (fun x => (([cb, sd, 20, pp], x) : zx_S)) (Option.some.inj h))⟩
        · replace h := zk_f h c263
          refine hr.1 3 True _ _ (276, [some (.ref 7), some (.int x1), some (.int x2), some (.int x3), some (.int (x1 &&& ((zo_shl 1 (zg_i D 7 5)) - 1))), none], [], [cb, sd, 20, pp], zp_i (zp_i q3.2 7 9 q3.1) 7 2 8) rfl trivial ?_
          exact hr.2.2.2 _ _ _ rfl trivial ⟨rfl, (congrArg (fun x => (([cb, sd, 20, pp], x) : zx_S)) (Option.some.inj h))⟩
      · replace h := zk_f h c191
        refine hr.1 7 True _ _ (206, [some (.ref 7), some (.int x1), some (.int x2), some (.int x3), some (.int (x1 &&& ((zo_shl 1 (zg_i D 7 5)) - 1))), none], [.int 7, .int (zg_i q1.2 7 2), .ref 7], [cb, sd, 20, pp], zp_i (zp_i q1.2 7 7 q1.1) 7 9 1) rfl trivial ?_
        refine hr.2.1 _ (7 ≤ zg_i q1.2 7 2) _ _ rfl (fun c206 => ?_) (fun c206 => ?_)
        · replace h := zk_t h c206
          refine hr.1 3 True _ _ (276, [some (.ref 7), some (.int x1), some (.int x2), some (.int x3), some (.int (x1 &&& ((zo_shl 1 (zg_i D 7 5)) - 1))), none], [], [cb, sd, 20, pp], zp_i (zp_i (zp_i q1.2 7 7 q1.1) 7 9 1) 7 2 11) rfl trivial ?_
          exact hr.2.2.2 _ _ _ rfl trivial ⟨rfl, (congrArg (fun x => (([cb, sd, 20, pp], x) : zx_S)) (Option.some.inj h))⟩
        · replace h := zk_f h c206
          refine hr.1 4 True _ _ (276, [some (.ref 7), some (.int x1), some (.int x2), some (.int x3), some (.int (x1 &&& ((zo_shl 1 (zg_i D 7 5)) - 1))), none], [], [cb, sd, 20, pp], zp_i (zp_i (zp_i q1.2 7 7 q1.1) 7 9 1) 7 2 9) rfl trivial ?_
          exact hr.2.2.2 _ _ _ rfl trivial ⟨rfl, (congrArg (fun x => (([cb, sd, 20, pp], x) : zx_S)) (Option.some.inj h))⟩
    · replace h := zk_f h c130
      refine hr.1 4 True _ _ (140, [some (.ref 7), some (.int x1), some (.int x2), some (.int x3), some (.int (x1 &&& ((zo_shl 1 (zg_i D 7 5)) - 1))), none], [.int (x1 &&& ((zo_shl 1 (zg_i D 7 5)) - 1)), .int 432, .ref 7, .ref 7], [cb, sd, 20, pp], zp_i q1.2 7 7 q1.1) rfl trivial ?_
      obtain ⟨q4, hc, h⟩ := zk_bind h
      refine hr.2.2.1 _ _ _ _ _ (d + 3) rfl (by omega) (c_g_Mdl_codeLength_k (l := l) (E := E) (d := d) (cb := cb) (sd := sd) (pp := pp) hc) (fun v S hq => ?_)
      obtain ⟨rfl, rfl⟩ := hq
      clear hc
      refine hr.1 3 True _ _ (148, [some (.ref 7), some (.int x1), some (.int x2), some (.int x3), some (.int (x1 &&& ((zo_shl 1 (zg_i D 7 5)) - 1))), none], [.ref 7, .ref 7], [cb, sd, 20, pp], zp_i q4.2 7 9 q4.1) rfl trivial ?_
      obtain ⟨q5, hc, h⟩ := zk_bind h
      refine hr.2.2.1 _ _ _ _ _ (d + 3) rfl (by omega) (c_g_Mdl_codeDistance_k (l := l) (E := E) (d := d) (cb := cb) (sd := sd) (pp := pp) hc) (fun v S hq => ?_)
      obtain ⟨rfl, rfl⟩ := hq
      clear hc
      refine hr.1 5 True _ _ (160, [some (.ref 7), some (.int x1), some (.int x2), some (.int x3), some (.int (x1 &&& ((zo_shl 1 (zg_i D 7 5)) - 1))), none], [.long q5.1, .int 3, .ref 7], [cb, sd, 20, pp], zp_l q5.2 7 10 q5.1) rfl trivial ?_
      obtain ⟨q6, hc, h⟩ := zk_bind h
      refine hr.2.2.1 _ _ _ _ _ (d + 3) rfl (by omega) (c_g_Mdl_bringForward (l := l) (E := E) (d := d + 3) (cb := cb) (sd := sd) (ln := 20) (pp := pp) hc) (fun v S hq => ?_)
      obtain ⟨rfl, rfl⟩ := hq
      clear hc
      refine hr.1 4 True _ _ (170, [some (.ref 7), some (.int x1), some (.int x2), some (.int x3), some (.int (x1 &&& ((zo_shl 1 (zg_i D 7 5)) - 1))), none], [.int 7, .int (zg_i q6 7 2), .ref 7], [cb, sd, 20, pp], q6) rfl trivial ?_
      refine hr.2.1 _ (7 ≤ zg_i q6 7 2) _ _ rfl (fun c170 => ?_) (fun c170 => ?_)
      · replace h := zk_t h c170
        refine hr.1 3 True _ _ (276, [some (.ref 7), some (.int x1), some (.int x2), some (.int x3), some (.int (x1 &&& ((zo_shl 1 (zg_i D 7 5)) - 1))), none], [], [cb, sd, 20, pp], zp_i q6 7 2 10) rfl trivial ?_
        exact hr.2.2.2 _ _ _ rfl trivial ⟨rfl, (congrArg (fun x => (([cb, sd, 20, pp], x) : zx_S)) (Option.some.inj h))⟩
      · replace h := zk_f h c170
        refine hr.1 4 True _ _ (276, [some (.ref 7), some (.int x1), some (.int x2), some (.int x3), some (.int (x1 &&& ((zo_shl 1 (zg_i D 7 5)) - 1))), none], [], [cb, sd, 20, pp], zp_i q6 7 2 7) rfl trivial ?_
        exact hr.2.2.2 _ _ _ rfl trivial ⟨rfl, (congrArg (fun x => (([cb, sd, 20, pp], x) : zx_S)) (Option.some.inj h))⟩
  · replace h := zk_f h c27
    refine hr.1 27 True _ _ (70, [some (.ref 7), some (.int x1), some (.int x2), some (.int x3), some (.int (x1 &&& ((zo_shl 1 (zg_i D 7 5)) - 1))), some (.int ((zo_shl (x1 &&& ((zo_shl 1 (zg_i q1.2 7 4)) - 1)) (zg_i q1.2 7 3)) + (zo_ushr x2 (8 - (zg_i q1.2 7 3)))))], [.int x3, .int (2052 + (768 * ((zo_shl (x1 &&& ((zo_shl 1 (zg_i q1.2 7 4)) - 1)) (zg_i q1.2 7 3)) + (zo_ushr x2 (8 - (zg_i q1.2 7 3)))))), .ref 7, .ref 7], [cb, sd, 20, pp], zp_i q1.2 7 7 q1.1) rfl trivial ?_
    obtain ⟨q7, hc, h⟩ := zk_bind h
    refine hr.2.2.1 _ _ _ _ _ (d + 3) rfl (by omega) (c_g_Mdl_codeLiteral_k (l := l) (E := E) (d := d + 1) (cb := cb) (sd := sd) (pp := pp) hc) (fun v S hq => ?_)
    obtain ⟨rfl, rfl⟩ := hq
    clear hc
    refine hr.1 8 True _ _ (87, [some (.ref 7), some (.int x1), some (.int x2), some (.int x3), some (.int (x1 &&& ((zo_shl 1 (zg_i D 7 5)) - 1))), some (.int ((zo_shl (x1 &&& ((zo_shl 1 (zg_i q1.2 7 4)) - 1)) (zg_i q1.2 7 3)) + (zo_ushr x2 (8 - (zg_i q1.2 7 3)))))], [.int 4, .int (zg_i q7.2 7 2), .ref 7], [cb, sd, 20, pp], zp_i (zp_i q7.2 7 8 q7.1) 7 9 1) rfl trivial ?_
    refine hr.2.1 _ (4 ≤ zg_i q7.2 7 2) _ _ rfl (fun c87 => ?_) (fun c87 => ?_)
    · replace h := zk_t h c87
      refine hr.1 3 True _ _ (100, [some (.ref 7), some (.int x1), some (.int x2), some (.int x3), some (.int (x1 &&& ((zo_shl 1 (zg_i D 7 5)) - 1))), some (.int ((zo_shl (x1 &&& ((zo_shl 1 (zg_i q1.2 7 4)) - 1)) (zg_i q1.2 7 3)) + (zo_ushr x2 (8 - (zg_i q1.2 7 3)))))], [.int 10, .int (zg_i q7.2 7 2), .ref 7], [cb, sd, 20, pp], zp_i (zp_i q7.2 7 8 q7.1) 7 9 1) rfl trivial ?_
      refine hr.2.1 _ (10 ≤ zg_i q7.2 7 2) _ _ rfl (fun c100 => ?_) (fun c100 => ?_)
      · replace h := zk_t h c100
        refine hr.1 6 True _ _ (276, [some (.ref 7), some (.int x1), some (.int x2), some (.int x3), some (.int (x1 &&& ((zo_shl 1 (zg_i D 7 5)) - 1))), some (.int ((zo_shl (x1 &&& ((zo_shl 1 (zg_i q1.2 7 4)) - 1)) (zg_i q1.2 7 3)) + (zo_ushr x2 (8 - (zg_i q1.2 7 3)))))], [], [cb, sd, 20, pp], zp_i (zp_i (zp_i q7.2 7 8 q7.1) 7 9 1) 7 2 ((zg_i q7.2 7 2) - 6)) rfl trivial ?_
        exact hr.2.2.2 _ _ _ rfl trivial ⟨rfl, (congrArg (fun x => (([cb, sd, 20, pp], x) : zx_S)) (Option.some.inj h))⟩
      · replace h := zk_f h c100
        refine hr.1 7 True _ _ (276, [some (.ref 7), some (.int x1), some (.int x2), some (.int x3), some (.int (x1 &&& ((zo_shl 1 (zg_i D 7 5)) - 1))), some (.int ((zo_shl (x1 &&& ((zo_shl 1 (zg_i q1.2 7 4)) - 1)) (zg_i q1.2 7 3)) + (zo_ushr x2 (8 - (zg_i q1.2 7 3)))))], [], [cb, sd, 20, pp], zp_i (zp_i (zp_i q7.2 7 8 q7.1) 7 9 1) 7 2 ((zg_i q7.2 7 2) - 3)) rfl trivial ?_
        exact hr.2.2.2 _ _ _ rfl trivial ⟨rfl, (congrArg (fun x => (([cb, sd, 20, pp], x) : zx_S)) (Option.some.inj h))⟩
    · replace h := zk_f h c87
      refine hr.1 4 True _ _ (276, [some (.ref 7), some (.int x1), some (.int x2), some (.int x3), some (.int (x1 &&& ((zo_shl 1 (zg_i D 7 5)) - 1))), some (.int ((zo_shl (x1 &&& ((zo_shl 1 (zg_i q1.2 7 4)) - 1)) (zg_i q1.2 7 3)) + (zo_ushr x2 (8 - (zg_i q1.2 7 3)))))], [], [cb, sd, 20, pp], zp_i (zp_i (zp_i q7.2 7 8 q7.1) 7 9 1) 7 2 0) rfl trivial ?_
      exact hr.2.2.2 _ _ _ rfl trivial ⟨rfl, (congrArg (fun x => (([cb, sd, 20, pp], x) : zx_S)) (Option.some.inj h))⟩
set_option maxRecDepth 100000 in
set_option maxHeartbeats 4000000 in
theorem c_g_Snk_finish {l : Launch} {E : zx_E} {d : Nat} {cb sd ln pp : Nat} {D : zx_D} {q : zx_D} (h : g_Snk_finish D = some q) : zx_MC l E 55 (d + 1) [.ref 20] ([cb, sd, ln, pp], D) (fun v S => v = none ∧ S = ([cb, sd, ln, pp], q)) := by
  refine zx_ofC (K := ck_Snk_finish) rfl (by decide +kernel) rfl ok_Snk_finish (Nat.le_of_ble_eq_true rfl) (fun Zp hr => ?_)
  show Zp (0, [some (.ref 20)], [], [cb, sd, ln, pp], D)
  rw [g_Snk_finish] at h
  refine hr.1 1 True _ _ (1, [some (.ref 20)], [.ref 20], [cb, sd, ln, pp], D) rfl trivial ?_
  obtain ⟨q1, hc, h⟩ := zk_bind h
  refine hr.2.2.1 _ _ _ _ _ (d) rfl (by omega) (c_g_Snk_shift (l := l) (E := E) (d := d) (cb := cb) (sd := sd) (ln := ln) (pp := pp) hc) (fun v S hq => ?_)
  obtain ⟨rfl, rfl⟩ := hq
  clear hc
  exact hr.2.2.2 _ _ _ rfl trivial ⟨rfl, (congrArg (fun x => (([cb, sd, ln, pp], x) : zx_S)) (Option.some.inj h))⟩
set_option maxRecDepth 100000 in
set_option maxHeartbeats 4000000 in
theorem c_g_Pkg_encode {l : Launch} {E : zx_E} {d : Nat} {cb sd ln : Nat} {x1 : Int32} {x2 : Int32} {D : zx_D} {q : Int32 × Nat × zx_D} (h : g_Pkg_encode ln x1 x2 D = some q) : zx_MC l E 92 (d + 5) [.ref 17, .int x1, .int x2] ([cb, sd, ln, 1], D) (fun v S => v = some (.int q.1) ∧ S = ([cb, sd, q.2.1, 1], q.2.2)) := by
  refine zx_ofC (K := ck_Pkg_encode) rfl (by decide +kernel) rfl ok_Pkg_encode (Nat.le_of_ble_eq_true rfl) (fun Zp hr => ?_)
  show Zp (0, [some (.ref 17), some (.int x1), some (.int x2), none, none], [], [cb, sd, ln, 1], D)
  have loop62 : ∀ (x2 : Int32) (k : Nat) (x3 : Int32) (D : zx_D) (o4 : Option Value) (x1 : Int32) (q : zx_D), g_Pkg_encode_62 x2 k x3 D = some q → (∀ (e3 : Int32) (o4 : Option Value), Zp (145, [some (.ref 17), some (.int x1), some (.int x2), some (.int e3), o4], [], [cb, sd, 20, 1], q)) → Zp (62, [some (.ref 17), some (.int x1), some (.int x2), some (.int x3), o4], [], [cb, sd, 20, 1], D) := by
    intro x2 k
    induction k with
    | zero => intro x3 D o4 x1 q h hx; exact (zk_no h).elim
    | succ k ih =>
      intro x3 D o4 x1 q h hx
      rw [g_Pkg_encode_62] at h
      refine hr.1 2 True _ _ (64, [some (.ref 17), some (.int x1), some (.int x2), some (.int x3), o4], [.int x2, .int x3], [cb, sd, 20, 1], D) rfl trivial ?_
      refine hr.2.1 _ (x2 ≤ x3) _ _ rfl (fun c64 => ?_) (fun c64 => ?_)
      · replace h := zk_t h c64
        replace h := Option.some.inj h
        subst h
        exact hx x3 o4
      · replace h := zk_f h c64
        refine hr.1 3 True _ _ (74, [some (.ref 17), some (.int x1), some (.int x2), some (.int x3), o4], [.int (zg_i D 20 2)], [cb, sd, 20, 1], D) rfl trivial ?_
        refine hr.2.1 _ (¬ zg_i D 20 2 = 0) _ _ rfl (fun c74 => ?_) (fun c74 => ?_)
        · replace h := zk_t h c74
          replace h := Option.some.inj h
          subst h
          exact hx x3 o4
        · replace h := zk_f h c74
          refine hr.1 7 True _ _ (88, [some (.ref 17), some (.int x1), some (.int x2), some (.int x3), o4], [.int (if 273 < x2 - x3 then 273 else x2 - x3), .int x3, .ref 17], [cb, sd, 20, 1], D) rfl trivial ?_
          obtain ⟨q6, hc, h⟩ := zk_bind h
          refine hr.2.2.1 _ _ _ _ _ (d + 4) rfl (by omega) (c_g_Pkg_choose (l := l) (E := E) (d := d + 2) (cb := cb) (sd := sd) (ln := 20) hc) (fun v S hq => ?_)
          obtain ⟨rfl, rfl⟩ := hq
          clear hc
          refine hr.1 6 True _ _ (101, [some (.ref 17), some (.int x1), some (.int x2), some (.int x3), o4], [.int 0, .ref 7, .int x3, .ref 1], [cb, sd, 20, 1], q6) rfl trivial ?_
          obtain ⟨q7, hc, h⟩ := zk_bind h
          refine hr.2.2.1 _ _ _ _ _ (d + 4) rfl (by omega) (c_g_Mdl_distanceOf (l := l) (E := E) (d := d + 4) (cb := cb) (sd := sd) (ln := 20) (pp := 1) hc) (fun v S hq => ?_)
          obtain ⟨rfl, rfl⟩ := hq
          clear hc
          obtain ⟨q8, hc, h⟩ := zk_bind h
          refine hr.2.2.1 _ _ _ _ _ (d + 4) rfl (by omega) (c_g_Row_byteBack_1 (l := l) (E := E) (d := d + 4) (cb := cb) (sd := sd) (ln := 20) (pp := 1) hc) (fun v S hq => ?_)
          obtain ⟨rfl, rfl⟩ := hq
          clear hc
          refine hr.1 8 True _ _ (120, [some (.ref 17), some (.int x1), some (.int x2), some (.int x3), some (.int q8)], [.long 1, .int x3, .ref 1, .int x3, .ref 7], [cb, sd, 20, 1], q6) rfl trivial ?_
          obtain ⟨q9, hc, h⟩ := zk_bind h
          refine hr.2.2.1 _ _ _ _ _ (d + 4) rfl (by omega) (c_g_Row_byteBack_1 (l := l) (E := E) (d := d + 4) (cb := cb) (sd := sd) (ln := 20) (pp := 1) hc) (fun v S hq => ?_)
          obtain ⟨rfl, rfl⟩ := hq
          clear hc
          refine hr.1 1 True _ _ (125, [some (.ref 17), some (.int x1), some (.int x2), some (.int x3), some (.int q8)], [.int q8, .int q9, .int x3, .ref 7], [cb, sd, 20, 1], q6) rfl trivial ?_
          obtain ⟨q10, hc, h⟩ := zk_bind h
          refine hr.2.2.1 _ _ _ _ _ (d + 4) rfl (by omega) (c_g_Mdl_step_k (l := l) (E := E) (d := d) (cb := cb) (sd := sd) (pp := 1) hc) (fun v S hq => ?_)
          obtain ⟨rfl, rfl⟩ := hq
          clear hc
          refine hr.1 9 True _ _ (62, [some (.ref 17), some (.int x1), some (.int x2), some (.int (x3 + (if 1 < zg_i q10 7 9 then zg_i q10 7 9 else 1))), some (.int q8)], [], [cb, sd, 20, 1], q10) rfl trivial ?_
          exact ih (x3 + (if 1 < zg_i q10 7 9 then zg_i q10 7 9 else 1)) q10 _ _ _ h hx
  rw [g_Pkg_encode] at h
  refine hr.1 7 True _ _ (9, [some (.ref 17), some (.int x1), some (.int x2), none, none], [.int ((x2 - x1) - 1), .ref 20], [cb, sd, ln, 1], D) rfl trivial ?_
  obtain ⟨q1, hc, h⟩ := zk_bind h
  refine hr.2.2.1 _ _ _ _ _ (d + 4) rfl (by omega) (c_g_Snk_begin (l := l) (E := E) (d := d + 3) (cb := cb) (sd := sd) (ln := ln) (pp := 1) hc) (fun v S hq => ?_)
  obtain ⟨rfl, rfl⟩ := hq
  clear hc
  refine hr.1 3 True _ _ (19, [some (.ref 17), some (.int x1), some (.int x2), none, none], [.int (zg_i q1 20 2)], [cb, sd, ln, 1], q1) rfl trivial ?_
  refine hr.2.1 _ (zg_i q1 20 2 = 0) _ _ rfl (fun c19 => ?_) (fun c19 => ?_)
  · replace h := zk_t h c19
    refine hr.1 2 True _ _ (28, [some (.ref 17), some (.int x1), some (.int x2), none, none], [.int (zg_i q1 17 12)], [cb, sd, ln, 1], q1) rfl trivial ?_
    obtain ⟨q4, hj, h⟩ := zk_bind h
    have J49 : ∀ (_ : True), Zp (49, [some (.ref 17), some (.int x1), some (.int x2), none, none], [], [cb, sd, ln, 1], q4) := by
      intro _
      refine hr.1 4 True _ _ (57, [some (.ref 17), some (.int x1), some (.int x2), none, none], [.ref 20, .ref 7], [cb, sd, ln, 1], q4) rfl trivial ?_
      obtain ⟨q5, hc, h⟩ := zk_bind h
      refine hr.2.2.1 _ _ _ _ _ (d + 4) rfl (by omega) (c_g_Mdl_useLine_20 (l := l) (E := E) (d := d + 4) (cb := cb) (sd := sd) (ln := ln) (pp := 1) hc) (fun v S hq => ?_)
      obtain ⟨rfl, rfl⟩ := hq
      clear hc
      refine hr.1 2 True _ _ (62, [some (.ref 17), some (.int x1), some (.int x2), some (.int x1), none], [], [cb, sd, 20, 1], q4) rfl trivial ?_
      obtain ⟨q11, hc, h⟩ := zk_bind h
      refine loop62 x2 10000 x1 q4 none x1 q11 hc (fun e3 o4 => ?_)
      clear hc
      refine hr.1 2 True _ _ (149, [some (.ref 17), some (.int x1), some (.int x2), some (.int e3), o4], [.ref 20], [cb, sd, 20, 1], q11) rfl trivial ?_
      obtain ⟨q12, hc, h⟩ := zk_bind h
      refine hr.2.2.1 _ _ _ _ _ (d + 4) rfl (by omega) (c_g_Snk_finish (l := l) (E := E) (d := d + 3) (cb := cb) (sd := sd) (ln := 20) (pp := 1) hc) (fun v S hq => ?_)
      obtain ⟨rfl, rfl⟩ := hq
      clear hc
      refine hr.1 3 True _ _ (159, [some (.ref 17), some (.int x1), some (.int x2), some (.int e3), o4], [.int (zg_i q12 20 2)], [cb, sd, 20, 1], q12) rfl trivial ?_
      refine hr.2.1 _ (¬ zg_i q12 20 2 = 0) _ _ rfl (fun c159 => ?_) (fun c159 => ?_)
      · replace h := zk_t h c159
        refine hr.1 1 True _ _ (167, [some (.ref 17), some (.int x1), some (.int x2), some (.int e3), o4], [.int 0], [cb, sd, 20, 1], q12) rfl trivial ?_
        exact hr.2.2.2 _ _ _ rfl (Or.inl rfl) ⟨(congrArg (fun x => some (Value.int x.1)) (Option.some.inj h)), (congrArg (fun x => (([cb, sd, x.2.1, 1], x.2.2) : zx_S)) (Option.some.inj h))⟩
      · replace h := zk_f h c159
        refine hr.1 2 True _ _ (167, [some (.ref 17), some (.int x1), some (.int x2), some (.int e3), o4], [.int 1], [cb, sd, 20, 1], q12) rfl trivial ?_
        exact hr.2.2.2 _ _ _ rfl (Or.inr rfl) ⟨(congrArg (fun x => some (Value.int x.1)) (Option.some.inj h)), (congrArg (fun x => (([cb, sd, x.2.1, 1], x.2.2) : zx_S)) (Option.some.inj h))⟩
    clear h
    have h := hj
    clear hj
    refine hr.2.1 _ (zg_i q1 17 12 = 0) _ _ rfl (fun c28 => ?_) (fun c28 => ?_)
    · replace h := zk_t h c28
      replace h := Option.some.inj h
      subst h
      exact J49 trivial
    · replace h := zk_f h c28
      refine hr.1 4 True _ _ (39, [some (.ref 17), some (.int x1), some (.int x2), none, none], [.int (zg_i q1 17 6), .ref 7], [cb, sd, ln, 1], q1) rfl trivial ?_
      obtain ⟨q2, hc, h⟩ := zk_bind h
      refine hr.2.2.1 _ _ _ _ _ (d + 4) rfl (by omega) (c_g_Mdl_setProperties (l := l) (E := E) (d := d + 4) (cb := cb) (sd := sd) (ln := ln) (pp := 1) hc) (fun v S hq => ?_)
      obtain ⟨rfl, rfl⟩ := hq
      clear hc
      refine hr.1 2 True _ _ (46, [some (.ref 17), some (.int x1), some (.int x2), none, none], [.ref 7], [cb, sd, ln, 1], q2) rfl trivial ?_
      obtain ⟨q3, hc, h⟩ := zk_bind h
      refine hr.2.2.1 _ _ _ _ _ (d + 4) rfl (by omega) (c_g_Mdl_beginAnew (l := l) (E := E) (d := d + 2) (cb := cb) (sd := sd) (ln := ln) (pp := 1) hc) (fun v S hq => ?_)
      obtain ⟨rfl, rfl⟩ := hq
      clear hc
      replace h := Option.some.inj h
      subst h
      exact J49 trivial
  · replace h := zk_f h c19
    refine hr.1 1 True _ _ (23, [some (.ref 17), some (.int x1), some (.int x2), none, none], [.int 0], [cb, sd, ln, 1], q1) rfl trivial ?_
    exact hr.2.2.2 _ _ _ rfl (Or.inl rfl) ⟨(congrArg (fun x => some (Value.int x.1)) (Option.some.inj h)), (congrArg (fun x => (([cb, sd, x.2.1, 1], x.2.2) : zx_S)) (Option.some.inj h))⟩
set_option maxRecDepth 100000 in
set_option maxHeartbeats 4000000 in
theorem c_g_Pkg_appendTwo {l : Launch} {E : zx_E} {d : Nat} {cb sd ln pp : Nat} {x1 : Int32} {D : zx_D} {q : zx_D} (h : g_Pkg_appendTwo x1 D = some q) : zx_MC l E 91 (d + 1) [.ref 17, .int x1] ([cb, sd, ln, pp], D) (fun v S => v = none ∧ S = ([cb, sd, ln, pp], q)) := by
  refine zx_ofC (K := ck_Pkg_appendTwo) rfl (by decide +kernel) rfl ok_Pkg_appendTwo (Nat.le_of_ble_eq_true rfl) (fun Zp hr => ?_)
  show Zp (0, [some (.ref 17), some (.int x1)], [], [cb, sd, ln, pp], D)
  rw [g_Pkg_appendTwo] at h
  refine hr.1 5 True _ _ (8, [some (.ref 17), some (.int x1)], [.int (zo_ushr x1 8), .ref 18], [cb, sd, ln, pp], D) rfl trivial ?_
  obtain ⟨q1, hc, h⟩ := zk_bind h
  refine hr.2.2.1 _ _ _ _ _ (d) rfl (by omega) (c_g_Row_append_18 (l := l) (E := E) (d := d) (cb := cb) (sd := sd) (ln := ln) (pp := pp) hc) (fun v S hq => ?_)
  obtain ⟨rfl, rfl⟩ := hq
  clear hc
  refine hr.1 5 True _ _ (20, [some (.ref 17), some (.int x1)], [.int (x1 &&& 255), .ref 18], [cb, sd, ln, pp], q1) rfl trivial ?_
  obtain ⟨q2, hc, h⟩ := zk_bind h
  refine hr.2.2.1 _ _ _ _ _ (d) rfl (by omega) (c_g_Row_append_18 (l := l) (E := E) (d := d) (cb := cb) (sd := sd) (ln := ln) (pp := pp) hc) (fun v S hq => ?_)
  obtain ⟨rfl, rfl⟩ := hq
  clear hc
  exact hr.2.2.2 _ _ _ rfl trivial ⟨rfl, (congrArg (fun x => (([cb, sd, ln, pp], x) : zx_S)) (Option.some.inj h))⟩
set_option maxRecDepth 100000 in
set_option maxHeartbeats 4000000 in
theorem c_g_Row_appendAll_18_2 {l : Launch} {E : zx_E} {d : Nat} {cb sd ln pp : Nat} {x2 : Int32} {x3 : Int32} {D : zx_D} {q : zx_D} (h : g_Row_appendAll_18_2 x2 x3 D = some q) : zx_MC l E 23 (d + 1) [.ref 18, .ref 2, .int x2, .int x3] ([cb, sd, ln, pp], D) (fun v S => v = none ∧ S = ([cb, sd, ln, pp], q)) := by
  refine zx_ofC (K := ck_Row_appendAll) rfl (by decide +kernel) rfl ok_Row_appendAll (Nat.le_of_ble_eq_true rfl) (fun Zp hr => ?_)
  show Zp (0, [some (.ref 18), some (.ref 2), some (.int x2), some (.int x3), none], [], [cb, sd, ln, pp], D)
  have loop3 : ∀ (x2 : Int32) (x3 : Int32) (k : Nat) (x4 : Int32) (D : zx_D) (q : zx_D), g_Row_appendAll_18_2_3 x2 x3 k x4 D = some q → (∀ (e4 : Int32), Zp (25, [some (.ref 18), some (.ref 2), some (.int x2), some (.int x3), some (.int e4)], [], [cb, sd, ln, pp], q)) → Zp (3, [some (.ref 18), some (.ref 2), some (.int x2), some (.int x3), some (.int x4)], [], [cb, sd, ln, pp], D) := by
    intro x2 x3 k
    induction k with
    | zero => intro x4 D q h hx; exact (zk_no h).elim
    | succ k ih =>
      intro x4 D q h hx
      rw [g_Row_appendAll_18_2_3] at h
      refine hr.1 4 True _ _ (8, [some (.ref 18), some (.ref 2), some (.int x2), some (.int x3), some (.int x4)], [.int (x2 + x3), .int x4], [cb, sd, ln, pp], D) rfl trivial ?_
      refine hr.2.1 _ (x2 + x3 ≤ x4) _ _ rfl (fun c8 => ?_) (fun c8 => ?_)
      · replace h := zk_t h c8
        replace h := Option.some.inj h
        subst h
        exact hx x4
      · replace h := zk_f h c8
        obtain ⟨w2, h⟩ := zk_ck h
        refine hr.1 4 True _ _ (16, [some (.ref 18), some (.ref 2), some (.int x2), some (.int x3), some (.int x4)], [.int (zg_i D 2 (zn x4)), .ref 18], [cb, sd, ln, pp], D) rfl ⟨trivial, (zk_vp w2)⟩ ?_
        obtain ⟨q1, hc, h⟩ := zk_bind h
        refine hr.2.2.1 _ _ _ _ _ (d) rfl (by omega) (c_g_Row_append_18 (l := l) (E := E) (d := d) (cb := cb) (sd := sd) (ln := ln) (pp := pp) hc) (fun v S hq => ?_)
        obtain ⟨rfl, rfl⟩ := hq
        clear hc
        refine hr.1 2 True _ _ (3, [some (.ref 18), some (.ref 2), some (.int x2), some (.int x3), some (.int (x4 + 1))], [], [cb, sd, ln, pp], q1) rfl trivial ?_
        exact ih (x4 + 1) q1 _ h hx
  rw [g_Row_appendAll_18_2] at h
  refine hr.1 2 True _ _ (3, [some (.ref 18), some (.ref 2), some (.int x2), some (.int x3), some (.int x2)], [], [cb, sd, ln, pp], D) rfl trivial ?_
  obtain ⟨q2, hc, h⟩ := zk_bind h
  refine loop3 x2 x3 10000 x2 D q2 hc (fun e4 => ?_)
  clear hc
  exact hr.2.2.2 _ _ _ rfl trivial ⟨rfl, (congrArg (fun x => (([cb, sd, ln, pp], x) : zx_S)) (Option.some.inj h))⟩
set_option maxRecDepth 100000 in
set_option maxHeartbeats 4000000 in
theorem c_g_Pkg_writePlain {l : Launch} {E : zx_E} {d : Nat} {cb sd ln : Nat} {x1 : Int32} {x2 : Int32} {D : zx_D} {q : zx_D} (h : g_Pkg_writePlain x1 x2 D = some q) : zx_MC l E 89 (d + 2) [.ref 17, .int x1, .int x2] ([cb, sd, ln, 1], D) (fun v S => v = none ∧ S = ([cb, sd, ln, 1], q)) := by
  refine zx_ofC (K := ck_Pkg_writePlain) rfl (by decide +kernel) rfl ok_Pkg_writePlain (Nat.le_of_ble_eq_true rfl) (fun Zp hr => ?_)
  show Zp (0, [some (.ref 17), some (.int x1), some (.int x2)], [], [cb, sd, ln, 1], D)
  rw [g_Pkg_writePlain] at h
  refine hr.1 4 True _ _ (8, [some (.ref 17), some (.int x1), some (.int x2)], [.int (zg_i D 17 10), .ref 18], [cb, sd, ln, 1], D) rfl trivial ?_
  obtain ⟨q1, hj, h⟩ := zk_bind h
  have J16 : ∀ (_ : True), Zp (16, [some (.ref 17), some (.int x1), some (.int x2)], [.int q1, .ref 18], [cb, sd, ln, 1], D) := by
    intro _
    obtain ⟨q2, hc, h⟩ := zk_bind h
    refine hr.2.2.1 _ _ _ _ _ (d + 1) rfl (by omega) (c_g_Row_append_18 (l := l) (E := E) (d := d + 1) (cb := cb) (sd := sd) (ln := ln) (pp := 1) hc) (fun v S hq => ?_)
    obtain ⟨rfl, rfl⟩ := hq
    clear hc
    refine hr.1 4 True _ _ (23, [some (.ref 17), some (.int x1), some (.int x2)], [.int (x2 - 1), .ref 17], [cb, sd, ln, 1], q2) rfl trivial ?_
    obtain ⟨q3, hc, h⟩ := zk_bind h
    refine hr.2.2.1 _ _ _ _ _ (d + 1) rfl (by omega) (c_g_Pkg_appendTwo (l := l) (E := E) (d := d) (cb := cb) (sd := sd) (ln := ln) (pp := 1) hc) (fun v S hq => ?_)
    obtain ⟨rfl, rfl⟩ := hq
    clear hc
    refine hr.1 7 True _ _ (39, [some (.ref 17), some (.int x1), some (.int x2)], [.int x2, .int x1, .ref 2, .ref 18], [cb, sd, ln, 1], q3) rfl trivial ?_
    obtain ⟨q4, hc, h⟩ := zk_bind h
    refine hr.2.2.1 _ _ _ _ _ (d + 1) rfl (by omega) (c_g_Row_appendAll_18_2 (l := l) (E := E) (d := d) (cb := cb) (sd := sd) (ln := ln) (pp := 1) hc) (fun v S hq => ?_)
    obtain ⟨rfl, rfl⟩ := hq
    clear hc
    refine hr.1 3 True _ _ (47, [some (.ref 17), some (.int x1), some (.int x2)], [], [cb, sd, ln, 1], zp_i q4 17 12 1) rfl ⟨trivial, (Or.inr rfl)⟩ ?_
    exact hr.2.2.2 _ _ _ rfl trivial ⟨rfl, (congrArg (fun x => (([cb, sd, ln, 1], x) : zx_S)) (Option.some.inj h))⟩
  clear h
  have h := hj
  clear hj
  refine hr.2.1 _ (zg_i D 17 10 = 0) _ _ rfl (fun c8 => ?_) (fun c8 => ?_)
  · replace h := zk_t h c8
    refine hr.1 1 True _ _ (16, [some (.ref 17), some (.int x1), some (.int x2)], [.int 2, .ref 18], [cb, sd, ln, 1], D) rfl trivial ?_
    replace h := Option.some.inj h
    subst h
    exact J16 trivial
  · replace h := zk_f h c8
    refine hr.1 2 True _ _ (16, [some (.ref 17), some (.int x1), some (.int x2)], [.int 1, .ref 18], [cb, sd, ln, 1], D) rfl trivial ?_
    replace h := Option.some.inj h
    subst h
    exact J16 trivial
set_option maxRecDepth 100000 in
set_option maxHeartbeats 4000000 in
theorem c_g_Row_appendAll_18_21 {l : Launch} {E : zx_E} {d : Nat} {cb sd ln pp : Nat} {x2 : Int32} {x3 : Int32} {D : zx_D} {q : zx_D} (h : g_Row_appendAll_18_21 x2 x3 D = some q) : zx_MC l E 23 (d + 1) [.ref 18, .ref 21, .int x2, .int x3] ([cb, sd, ln, pp], D) (fun v S => v = none ∧ S = ([cb, sd, ln, pp], q)) := by
  refine zx_ofC (K := ck_Row_appendAll) rfl (by decide +kernel) rfl ok_Row_appendAll (Nat.le_of_ble_eq_true rfl) (fun Zp hr => ?_)
  show Zp (0, [some (.ref 18), some (.ref 21), some (.int x2), some (.int x3), none], [], [cb, sd, ln, pp], D)
  have loop3 : ∀ (x2 : Int32) (x3 : Int32) (k : Nat) (x4 : Int32) (D : zx_D) (q : zx_D), g_Row_appendAll_18_21_3 x2 x3 k x4 D = some q → (∀ (e4 : Int32), Zp (25, [some (.ref 18), some (.ref 21), some (.int x2), some (.int x3), some (.int e4)], [], [cb, sd, ln, pp], q)) → Zp (3, [some (.ref 18), some (.ref 21), some (.int x2), some (.int x3), some (.int x4)], [], [cb, sd, ln, pp], D) := by
    intro x2 x3 k
    induction k with
    | zero => intro x4 D q h hx; exact (zk_no h).elim
    | succ k ih =>
      intro x4 D q h hx
      rw [g_Row_appendAll_18_21_3] at h
      refine hr.1 4 True _ _ (8, [some (.ref 18), some (.ref 21), some (.int x2), some (.int x3), some (.int x4)], [.int (x2 + x3), .int x4], [cb, sd, ln, pp], D) rfl trivial ?_
      refine hr.2.1 _ (x2 + x3 ≤ x4) _ _ rfl (fun c8 => ?_) (fun c8 => ?_)
      · replace h := zk_t h c8
        replace h := Option.some.inj h
        subst h
        exact hx x4
      · replace h := zk_f h c8
        obtain ⟨w2, h⟩ := zk_ck h
        refine hr.1 4 True _ _ (16, [some (.ref 18), some (.ref 21), some (.int x2), some (.int x3), some (.int x4)], [.int (zg_i D 21 (zn x4)), .ref 18], [cb, sd, ln, pp], D) rfl ⟨trivial, (zk_vp w2)⟩ ?_
        obtain ⟨q1, hc, h⟩ := zk_bind h
        refine hr.2.2.1 _ _ _ _ _ (d) rfl (by omega) (c_g_Row_append_18 (l := l) (E := E) (d := d) (cb := cb) (sd := sd) (ln := ln) (pp := pp) hc) (fun v S hq => ?_)
        obtain ⟨rfl, rfl⟩ := hq
        clear hc
        refine hr.1 2 True _ _ (3, [some (.ref 18), some (.ref 21), some (.int x2), some (.int x3), some (.int (x4 + 1))], [], [cb, sd, ln, pp], q1) rfl trivial ?_
        exact ih (x4 + 1) q1 _ h hx
  rw [g_Row_appendAll_18_21] at h
  refine hr.1 2 True _ _ (3, [some (.ref 18), some (.ref 21), some (.int x2), some (.int x3), some (.int x2)], [], [cb, sd, ln, pp], D) rfl trivial ?_
  obtain ⟨q2, hc, h⟩ := zk_bind h
  refine loop3 x2 x3 10000 x2 D q2 hc (fun e4 => ?_)
  clear hc
  exact hr.2.2.2 _ _ _ rfl trivial ⟨rfl, (congrArg (fun x => (([cb, sd, ln, pp], x) : zx_S)) (Option.some.inj h))⟩
set_option maxRecDepth 100000 in
set_option maxHeartbeats 4000000 in
theorem c_g_Pkg_writeCoded {l : Launch} {E : zx_E} {d : Nat} {cb sd ln pp : Nat} {x1 : Int32} {D : zx_D} {q : zx_D} (h : g_Pkg_writeCoded x1 D = some q) : zx_MC l E 90 (d + 2) [.ref 17, .int x1] ([cb, sd, ln, pp], D) (fun v S => v = none ∧ S = ([cb, sd, ln, pp], q)) := by
  refine zx_ofC (K := ck_Pkg_writeCoded) rfl (by decide +kernel) rfl ok_Pkg_writeCoded (Nat.le_of_ble_eq_true rfl) (fun Zp hr => ?_)
  show Zp (0, [some (.ref 17), some (.int x1), none], [], [cb, sd, ln, pp], D)
  rw [g_Pkg_writeCoded] at h
  refine hr.1 2 True _ _ (4, [some (.ref 17), some (.int x1), none], [.int (zg_i D 17 10)], [cb, sd, ln, pp], D) rfl trivial ?_
  obtain ⟨q1, hj, h⟩ := zk_bind h
  have J42 : ∀ (_ : True), Zp (42, [some (.ref 17), some (.int x1), none], [.int q1], [cb, sd, ln, pp], D) := by
    intro _
    refine hr.1 4 True _ _ (48, [some (.ref 17), some (.int x1), some (.int q1)], [.int q1, .ref 18], [cb, sd, ln, pp], D) rfl trivial ?_
    obtain ⟨q2, hc, h⟩ := zk_bind h
    refine hr.2.2.1 _ _ _ _ _ (d + 1) rfl (by omega) (c_g_Row_append_18 (l := l) (E := E) (d := d + 1) (cb := cb) (sd := sd) (ln := ln) (pp := pp) hc) (fun v S hq => ?_)
    obtain ⟨rfl, rfl⟩ := hq
    clear hc
    refine hr.1 4 True _ _ (55, [some (.ref 17), some (.int x1), some (.int q1)], [.int (x1 - 1), .ref 17], [cb, sd, ln, pp], q2) rfl trivial ?_
    obtain ⟨q3, hc, h⟩ := zk_bind h
    refine hr.2.2.1 _ _ _ _ _ (d + 1) rfl (by omega) (c_g_Pkg_appendTwo (l := l) (E := E) (d := d) (cb := cb) (sd := sd) (ln := ln) (pp := pp) hc) (fun v S hq => ?_)
    obtain ⟨rfl, rfl⟩ := hq
    clear hc
    refine hr.1 6 True _ _ (68, [some (.ref 17), some (.int x1), some (.int q1)], [.int ((zg_i q3 20 4) - 1), .ref 17], [cb, sd, ln, pp], q3) rfl trivial ?_
    obtain ⟨q4, hc, h⟩ := zk_bind h
    refine hr.2.2.1 _ _ _ _ _ (d + 1) rfl (by omega) (c_g_Pkg_appendTwo (l := l) (E := E) (d := d) (cb := cb) (sd := sd) (ln := ln) (pp := pp) hc) (fun v S hq => ?_)
    obtain ⟨rfl, rfl⟩ := hq
    clear hc
    refine hr.1 2 True _ _ (75, [some (.ref 17), some (.int x1), some (.int q1)], [.int 192, .int q1], [cb, sd, ln, pp], q4) rfl trivial ?_
    obtain ⟨q6, hj, h⟩ := zk_bind h
    have J89 : ∀ (_ : True), Zp (89, [some (.ref 17), some (.int x1), some (.int q1)], [], [cb, sd, ln, pp], q6) := by
      intro _
      refine hr.1 9 True _ _ (108, [some (.ref 17), some (.int x1), some (.int q1)], [.int (zg_i q6 20 4), .int 0, .ref 21, .ref 18], [cb, sd, ln, pp], q6) rfl trivial ?_
      obtain ⟨q7, hc, h⟩ := zk_bind h
      refine hr.2.2.1 _ _ _ _ _ (d + 1) rfl (by omega) (c_g_Row_appendAll_18_21 (l := l) (E := E) (d := d) (cb := cb) (sd := sd) (ln := ln) (pp := pp) hc) (fun v S hq => ?_)
      obtain ⟨rfl, rfl⟩ := hq
      clear hc
      refine hr.1 6 True _ _ (121, [some (.ref 17), some (.int x1), some (.int q1)], [], [cb, sd, ln, pp], zp_i (zp_i q7 17 11 0) 17 12 0) rfl ⟨⟨trivial, (Or.inl rfl)⟩, (Or.inl rfl)⟩ ?_
      exact hr.2.2.2 _ _ _ rfl trivial ⟨rfl, (congrArg (fun x => (([cb, sd, ln, pp], x) : zx_S)) (Option.some.inj h))⟩
    clear h
    have h := hj
    clear hj
    refine hr.2.1 _ (q1 < 192) _ _ rfl (fun c75 => ?_) (fun c75 => ?_)
    · replace h := zk_t h c75
      replace h := Option.some.inj h
      subst h
      exact J89 trivial
    · replace h := zk_f h c75
      refine hr.1 4 True _ _ (86, [some (.ref 17), some (.int x1), some (.int q1)], [.int (zg_i q4 17 6), .ref 18], [cb, sd, ln, pp], q4) rfl trivial ?_
      obtain ⟨q5, hc, h⟩ := zk_bind h
      refine hr.2.2.1 _ _ _ _ _ (d + 1) rfl (by omega) (c_g_Row_append_18 (l := l) (E := E) (d := d + 1) (cb := cb) (sd := sd) (ln := ln) (pp := pp) hc) (fun v S hq => ?_)
      obtain ⟨rfl, rfl⟩ := hq
      clear hc
      replace h := Option.some.inj h
      subst h
      exact J89 trivial
  clear h
  have h := hj
  clear hj
  refine hr.2.1 _ (zg_i D 17 10 = 0) _ _ rfl (fun c4 => ?_) (fun c4 => ?_)
  · replace h := zk_t h c4
    refine hr.1 2 True _ _ (17, [some (.ref 17), some (.int x1), none], [.int (zg_i D 17 11)], [cb, sd, ln, pp], D) rfl trivial ?_
    refine hr.2.1 _ (zg_i D 17 11 = 0) _ _ rfl (fun c17 => ?_) (fun c17 => ?_)
    · replace h := zk_t h c17
      refine hr.1 2 True _ _ (30, [some (.ref 17), some (.int x1), none], [.int (zg_i D 17 12)], [cb, sd, ln, pp], D) rfl trivial ?_
      refine hr.2.1 _ (zg_i D 17 12 = 0) _ _ rfl (fun c30 => ?_) (fun c30 => ?_)
      · replace h := zk_t h c30
        refine hr.1 1 True _ _ (42, [some (.ref 17), some (.int x1), none], [.int 128], [cb, sd, ln, pp], D) rfl trivial ?_
        replace h := Option.some.inj h
        subst h
        exact J42 trivial
      · replace h := zk_f h c30
        refine hr.1 2 True _ _ (42, [some (.ref 17), some (.int x1), none], [.int 160], [cb, sd, ln, pp], D) rfl trivial ?_
        replace h := Option.some.inj h
        subst h
        exact J42 trivial
    · replace h := zk_f h c17
      refine hr.1 2 True _ _ (42, [some (.ref 17), some (.int x1), none], [.int 192], [cb, sd, ln, pp], D) rfl trivial ?_
      replace h := Option.some.inj h
      subst h
      exact J42 trivial
  · replace h := zk_f h c4
    refine hr.1 2 True _ _ (42, [some (.ref 17), some (.int x1), none], [.int 224], [cb, sd, ln, pp], D) rfl trivial ?_
    replace h := Option.some.inj h
    subst h
    exact J42 trivial
set_option maxRecDepth 100000 in
set_option maxHeartbeats 4000000 in
theorem c_g_Pkg_writePiece {l : Launch} {E : zx_E} {d : Nat} {cb sd ln : Nat} {x1 : Int32} {x2 : Int32} {D : zx_D} {q : Nat × zx_D} (h : g_Pkg_writePiece ln x1 x2 D = some q) : zx_MC l E 88 (d + 6) [.ref 17, .int x1, .int x2] ([cb, sd, ln, 1], D) (fun v S => v = none ∧ S = ([cb, sd, q.1, 1], q.2)) := by
  refine zx_ofC (K := ck_Pkg_writePiece) rfl (by decide +kernel) rfl ok_Pkg_writePiece (Nat.le_of_ble_eq_true rfl) (fun Zp hr => ?_)
  show Zp (0, [some (.ref 17), some (.int x1), some (.int x2)], [], [cb, sd, ln, 1], D)
  rw [g_Pkg_writePiece] at h
  refine hr.1 3 True _ _ (7, [some (.ref 17), some (.int x1), some (.int x2)], [.int (zg_i D 18 2)], [cb, sd, ln, 1], D) rfl trivial ?_
  refine hr.2.1 _ (zg_i D 18 2 = 0) _ _ rfl (fun c7 => ?_) (fun c7 => ?_)
  · replace h := zk_t h c7
    refine hr.1 3 True _ _ (14, [some (.ref 17), some (.int x1), some (.int x2)], [.int x2, .int x1, .ref 17], [cb, sd, ln, 1], D) rfl trivial ?_
    obtain ⟨q1, hc, h⟩ := zk_bind h
    refine hr.2.2.1 _ _ _ _ _ (d + 5) rfl (by omega) (c_g_Pkg_encode (l := l) (E := E) (d := d) (cb := cb) (sd := sd) (ln := ln) hc) (fun v S hq => ?_)
    obtain ⟨rfl, rfl⟩ := hq
    clear hc
    refine hr.2.1 _ (q1.1 = 0) _ _ rfl (fun c17 => ?_) (fun c17 => ?_)
    · replace h := zk_t h c17
      refine hr.1 5 True _ _ (35, [some (.ref 17), some (.int x1), some (.int x2)], [.int (x2 - x1), .int x1, .ref 17], [cb, sd, q1.2.1, 1], q1.2.2) rfl trivial ?_
      obtain ⟨q2, hc, h⟩ := zk_bind h
      refine hr.2.2.1 _ _ _ _ _ (d + 5) rfl (by omega) (c_g_Pkg_writePlain (l := l) (E := E) (d := d + 3) (cb := cb) (sd := sd) (ln := q1.2.1) hc) (fun v S hq => ?_)
      obtain ⟨rfl, rfl⟩ := hq
      clear hc
      refine hr.1 3 True _ _ (43, [some (.ref 17), some (.int x1), some (.int x2)], [], [cb, sd, q1.2.1, 1], zp_i q2 17 10 0) rfl ⟨trivial, (Or.inl rfl)⟩ ?_
      exact hr.2.2.2 _ _ _ rfl trivial ⟨rfl, (congrArg (fun x => (([cb, sd, x.1, 1], x.2) : zx_S)) (Option.some.inj h))⟩
    · replace h := zk_f h c17
      refine hr.1 4 True _ _ (24, [some (.ref 17), some (.int x1), some (.int x2)], [.int (x2 - x1), .ref 17], [cb, sd, q1.2.1, 1], q1.2.2) rfl trivial ?_
      obtain ⟨q3, hc, h⟩ := zk_bind h
      refine hr.2.2.1 _ _ _ _ _ (d + 5) rfl (by omega) (c_g_Pkg_writeCoded (l := l) (E := E) (d := d + 3) (cb := cb) (sd := sd) (ln := q1.2.1) (pp := 1) hc) (fun v S hq => ?_)
      obtain ⟨rfl, rfl⟩ := hq
      clear hc
      refine hr.1 4 True _ _ (43, [some (.ref 17), some (.int x1), some (.int x2)], [], [cb, sd, q1.2.1, 1], zp_i q3 17 10 0) rfl ⟨trivial, (Or.inl rfl)⟩ ?_
      exact hr.2.2.2 _ _ _ rfl trivial ⟨rfl, (congrArg (fun x => (([cb, sd, x.1, 1], x.2) : zx_S)) (Option.some.inj h))⟩
  · replace h := zk_f h c7
    exact hr.2.2.2 _ _ _ rfl trivial ⟨rfl, (congrArg (fun x => (([cb, sd, x.1, 1], x.2) : zx_S)) (Option.some.inj h))⟩
set_option maxRecDepth 100000 in
set_option maxHeartbeats 4000000 in
theorem c_g_P_checkSize {l : Launch} {E : zx_E} {d : Nat} {cb sd ln pp : Nat} {x0 : Int32} {D : zx_D} {q : Int32} (h : g_P_checkSize x0 D = some q) : zx_MC l E 15 d [.int x0] ([cb, sd, ln, pp], D) (fun v S => v = some (.int q) ∧ S = ([cb, sd, ln, pp], D)) := by
  refine zx_ofC (K := ck_P_checkSize) rfl (by decide +kernel) rfl ok_P_checkSize (Nat.le_of_ble_eq_true rfl) (fun Zp hr => ?_)
  show Zp (0, [some (.int x0)], [], [cb, sd, ln, pp], D)
  rw [g_P_checkSize] at h
  refine hr.1 2 True _ _ (2, [some (.int x0)], [.int 4, .int x0], [cb, sd, ln, pp], D) rfl trivial ?_
  refine hr.2.1 _ (¬ x0 = 4) _ _ rfl (fun c2 => ?_) (fun c2 => ?_)
  · replace h := zk_t h c2
    refine hr.1 2 True _ _ (12, [some (.int x0)], [.int 1, .int x0], [cb, sd, ln, pp], D) rfl trivial ?_
    refine hr.2.1 _ (¬ x0 = 1) _ _ rfl (fun c12 => ?_) (fun c12 => ?_)
    · replace h := zk_t h c12
      refine hr.1 1 True _ _ (20, [some (.int x0)], [.int 0], [cb, sd, ln, pp], D) rfl trivial ?_
      exact hr.2.2.2 _ _ _ rfl trivial ⟨(congrArg (fun x => some (Value.int x)) (Option.some.inj h)), rfl⟩
    · replace h := zk_f h c12
      refine hr.1 2 True _ _ (20, [some (.int x0)], [.int 4], [cb, sd, ln, pp], D) rfl trivial ?_
      exact hr.2.2.2 _ _ _ rfl trivial ⟨(congrArg (fun x => some (Value.int x)) (Option.some.inj h)), rfl⟩
  · replace h := zk_f h c2
    refine hr.1 2 True _ _ (20, [some (.int x0)], [.int 8], [cb, sd, ln, pp], D) rfl trivial ?_
    exact hr.2.2.2 _ _ _ rfl trivial ⟨(congrArg (fun x => some (Value.int x)) (Option.some.inj h)), rfl⟩
set_option maxRecDepth 100000 in
set_option maxHeartbeats 4000000 in
theorem c_g_Pkg_fillUp {l : Launch} {E : zx_E} {d : Nat} {cb sd ln pp : Nat} {x1 : Int32} {D : zx_D} {q : zx_D} (h : g_Pkg_fillUp x1 D = some q) : zx_MC l E 98 (d + 1) [.ref 17, .int x1] ([cb, sd, ln, pp], D) (fun v S => v = none ∧ S = ([cb, sd, ln, pp], q)) := by
  refine zx_ofC (K := ck_Pkg_fillUp) rfl (by decide +kernel) rfl ok_Pkg_fillUp (Nat.le_of_ble_eq_true rfl) (fun Zp hr => ?_)
  show Zp (0, [some (.ref 17), some (.int x1), none], [], [cb, sd, ln, pp], D)
  have loop2 : ∀ (x1 : Int32) (k : Nat) (x2 : Int32) (D : zx_D) (q : zx_D), g_Pkg_fillUp_2 x1 k x2 D = some q → (∀ (e2 : Int32), Zp (35, [some (.ref 17), some (.int x1), some (.int e2)], [], [cb, sd, ln, pp], q)) → Zp (2, [some (.ref 17), some (.int x1), some (.int x2)], [], [cb, sd, ln, pp], D) := by
    intro x1 k
    induction k with
    | zero => intro x2 D q h hx; exact (zk_no h).elim
    | succ k ih =>
      intro x2 D q h hx
      rw [g_Pkg_fillUp_2] at h
      refine hr.1 2 True _ _ (4, [some (.ref 17), some (.int x1), some (.int x2)], [.int 3, .int x2], [cb, sd, ln, pp], D) rfl trivial ?_
      refine hr.2.1 _ (3 ≤ x2) _ _ rfl (fun c4 => ?_) (fun c4 => ?_)
      · replace h := zk_t h c4
        replace h := Option.some.inj h
        subst h
        exact hx x2
      · replace h := zk_f h c4
        refine hr.1 7 True _ _ (18, [some (.ref 17), some (.int x1), some (.int x2)], [.int (zo_rem ((zg_i D 18 1) - x1) 4)], [cb, sd, ln, pp], D) rfl trivial ?_
        refine hr.2.1 _ (zo_rem ((zg_i D 18 1) - x1) 4 = 0) _ _ rfl (fun c18 => ?_) (fun c18 => ?_)
        · replace h := zk_t h c18
          replace h := Option.some.inj h
          subst h
          exact hx x2
        · replace h := zk_f h c18
          refine hr.1 3 True _ _ (26, [some (.ref 17), some (.int x1), some (.int x2)], [.int 0, .ref 18], [cb, sd, ln, pp], D) rfl trivial ?_
          obtain ⟨q1, hc, h⟩ := zk_bind h
          refine hr.2.2.1 _ _ _ _ _ (d) rfl (by omega) (c_g_Row_append_18 (l := l) (E := E) (d := d) (cb := cb) (sd := sd) (ln := ln) (pp := pp) hc) (fun v S hq => ?_)
          obtain ⟨rfl, rfl⟩ := hq
          clear hc
          refine hr.1 2 True _ _ (2, [some (.ref 17), some (.int x1), some (.int (x2 + 1))], [], [cb, sd, ln, pp], q1) rfl trivial ?_
          exact ih (x2 + 1) q1 _ h hx
  rw [g_Pkg_fillUp] at h
  refine hr.1 2 True _ _ (2, [some (.ref 17), some (.int x1), some (.int 0)], [], [cb, sd, ln, pp], D) rfl trivial ?_
  obtain ⟨q2, hc, h⟩ := zk_bind h
  refine loop2 x1 10000 0 D q2 hc (fun e2 => ?_)
  clear hc
  exact hr.2.2.2 _ _ _ rfl trivial ⟨rfl, (congrArg (fun x => (([cb, sd, ln, pp], x) : zx_S)) (Option.some.inj h))⟩
set_option maxRecDepth 100000 in
set_option maxHeartbeats 4000000 in
theorem c_g_Pkg_closeBlock {l : Launch} {E : zx_E} {d : Nat} {cb sd ln : Nat} {D : zx_D} {q : zx_D} (h : g_Pkg_closeBlock D = some q) : zx_MC l E 97 (d + 2) [.ref 17] ([cb, sd, ln, 1], D) (fun v S => v = none ∧ S = ([cb, sd, ln, 1], q)) := by
  refine zx_ofC (K := ck_Pkg_closeBlock) rfl (by decide +kernel) rfl ok_Pkg_closeBlock (Nat.le_of_ble_eq_true rfl) (fun Zp hr => ?_)
  show Zp (0, [some (.ref 17)], [], [cb, sd, ln, 1], D)
  rw [g_Pkg_closeBlock] at h
  refine hr.1 3 True _ _ (5, [some (.ref 17)], [.int 0, .ref 18], [cb, sd, ln, 1], D) rfl trivial ?_
  obtain ⟨q1, hc, h⟩ := zk_bind h
  refine hr.2.2.1 _ _ _ _ _ (d + 1) rfl (by omega) (c_g_Row_append_18 (l := l) (E := E) (d := d + 1) (cb := cb) (sd := sd) (ln := ln) (pp := 1) hc) (fun v S hq => ?_)
  obtain ⟨rfl, rfl⟩ := hq
  clear hc
  refine hr.1 9 True _ _ (25, [some (.ref 17)], [.int (zg_i q1 17 5), .int ((zg_i q1 18 1) - (zg_i q1 17 7)), .ref 17], [cb, sd, ln, 1], q1) rfl trivial ?_
  obtain ⟨q2, hc, h⟩ := zk_bind h
  refine hr.2.2.1 _ _ _ _ _ (d + 1) rfl (by omega) (c_g_P_checkSize (l := l) (E := E) (d := d + 1) (cb := cb) (sd := sd) (ln := ln) (pp := 1) hc) (fun v S hq => ?_)
  obtain ⟨rfl, rfl⟩ := hq
  clear hc
  refine hr.1 6 True _ _ (38, [some (.ref 17)], [.int (zg_i q1 17 7), .ref 17], [cb, sd, ln, 1], zp_l q1 17 8 (((((zg_i q1 18 1) - (zg_i q1 17 7)) + q2)).toInt64)) rfl trivial ?_
  obtain ⟨q3, hc, h⟩ := zk_bind h
  refine hr.2.2.1 _ _ _ _ _ (d + 1) rfl (by omega) (c_g_Pkg_fillUp (l := l) (E := E) (d := d) (cb := cb) (sd := sd) (ln := ln) (pp := 1) hc) (fun v S hq => ?_)
  obtain ⟨rfl, rfl⟩ := hq
  clear hc
  refine hr.1 3 True _ _ (46, [some (.ref 17)], [.int 1, .int (zg_i q3 17 5)], [cb, sd, ln, 1], q3) rfl trivial ?_
  refine hr.2.1 _ (¬ zg_i q3 17 5 = 1) _ _ rfl (fun c46 => ?_) (fun c46 => ?_)
  · replace h := zk_t h c46
    refine hr.1 3 True _ _ (83, [some (.ref 17)], [.int 4, .int (zg_i q3 17 5)], [cb, sd, ln, 1], q3) rfl trivial ?_
    refine hr.2.1 _ (¬ zg_i q3 17 5 = 4) _ _ rfl (fun c83 => ?_) (fun c83 => ?_)
    · replace h := zk_t h c83
      exact hr.2.2.2 _ _ _ rfl trivial ⟨rfl, (congrArg (fun x => (([cb, sd, ln, 1], x) : zx_S)) (Option.some.inj h))⟩
    · replace h := zk_f h c83
      refine hr.1 9 True _ _ (105, [some (.ref 17)], [.int (zg_i q3 1 1), .int 0, .ref 2, .ref 18], [cb, sd, ln, 1], q3) rfl trivial ?_
      obtain ⟨q4, hc, h⟩ := zk_bind h
      refine hr.2.2.1 _ _ _ _ _ (d + 1) rfl (by omega) (c_g_P_sumEight_2 (l := l) (E := E) (d := d) (cb := cb) (sd := sd) (ln := ln) (pp := 1) hc) (fun v S hq => ?_)
      obtain ⟨rfl, rfl⟩ := hq
      clear hc
      refine hr.1 1 True _ _ (110, [some (.ref 17)], [.int 8, .long q4, .ref 18], [cb, sd, ln, 1], q3) rfl trivial ?_
      obtain ⟨q5, hc, h⟩ := zk_bind h
      refine hr.2.2.1 _ _ _ _ _ (d + 1) rfl (by omega) (c_g_Row_appendLowFirst_18 (l := l) (E := E) (d := d) (cb := cb) (sd := sd) (ln := ln) (pp := 1) hc) (fun v S hq => ?_)
      obtain ⟨rfl, rfl⟩ := hq
      clear hc
      exact hr.2.2.2 _ _ _ rfl trivial ⟨rfl, (congrArg (fun x => (([cb, sd, ln, 1], x) : zx_S)) (Option.some.inj h))⟩
  · replace h := zk_f h c46
    refine hr.1 9 True _ _ (68, [some (.ref 17)], [.int (zg_i q3 1 1), .int 0, .ref 2, .ref 18], [cb, sd, ln, 1], q3) rfl trivial ?_
    obtain ⟨q6, hc, h⟩ := zk_bind h
    refine hr.2.2.1 _ _ _ _ _ (d + 1) rfl (by omega) (c_g_P_sumFour_2 (l := l) (E := E) (d := d) (cb := cb) (sd := sd) (ln := ln) (pp := 1) hc) (fun v S hq => ?_)
    obtain ⟨rfl, rfl⟩ := hq
    clear hc
    refine hr.1 1 True _ _ (72, [some (.ref 17)], [.int 4, .long q6, .ref 18], [cb, sd, ln, 1], q3) rfl trivial ?_
    obtain ⟨q7, hc, h⟩ := zk_bind h
    refine hr.2.2.1 _ _ _ _ _ (d + 1) rfl (by omega) (c_g_Row_appendLowFirst_18 (l := l) (E := E) (d := d) (cb := cb) (sd := sd) (ln := ln) (pp := 1) hc) (fun v S hq => ?_)
    obtain ⟨rfl, rfl⟩ := hq
    clear hc
    refine hr.1 1 True _ _ (113, [some (.ref 17)], [], [cb, sd, ln, 1], q7) rfl trivial ?_
    exact hr.2.2.2 _ _ _ rfl trivial ⟨rfl, (congrArg (fun x => (([cb, sd, ln, 1], x) : zx_S)) (Option.some.inj h))⟩
set_option maxRecDepth 100000 in
set_option maxHeartbeats 4000000 in
theorem c_g_Pkg_appendNumber {l : Launch} {E : zx_E} {d : Nat} {cb sd ln pp : Nat} {x1 : Int64} {D : zx_D} {q : zx_D} (h : g_Pkg_appendNumber x1 D = some q) : zx_MC l E 99 (d + 1) [.ref 17, .long x1] ([cb, sd, ln, pp], D) (fun v S => v = none ∧ S = ([cb, sd, ln, pp], q)) := by
  refine zx_ofC (K := ck_Pkg_appendNumber) rfl (by decide +kernel) rfl ok_Pkg_appendNumber (Nat.le_of_ble_eq_true rfl) (fun Zp hr => ?_)
  show Zp (0, [some (.ref 17), some (.long x1), none, none, none, none], [], [cb, sd, ln, pp], D)
  have loop5 : ∀ (k : Nat) (x3 : Int64) (x5 : Int32) (D : zx_D) (x1 : Int64) (q : Int64 × zx_D), g_Pkg_appendNumber_5 k x3 x5 D = some q → (∀ (e5 : Int32), Zp (48, [some (.ref 17), some (.long x1), none, some (.long q.1), none, some (.int e5)], [], [cb, sd, ln, pp], q.2)) → Zp (5, [some (.ref 17), some (.long x1), none, some (.long x3), none, some (.int x5)], [], [cb, sd, ln, pp], D) := by
    intro k
    induction k with
    | zero => intro x3 x5 D x1 q h hx; exact (zk_no h).elim
    | succ k ih =>
      intro x3 x5 D x1 q h hx
      rw [g_Pkg_appendNumber_5] at h
      refine hr.1 2 True _ _ (9, [some (.ref 17), some (.long x1), none, some (.long x3), none, some (.int x5)], [.int 8, .int x5], [cb, sd, ln, pp], D) rfl trivial ?_
      refine hr.2.1 _ (8 ≤ x5) _ _ rfl (fun c9 => ?_) (fun c9 => ?_)
      · replace h := zk_t h c9
        replace h := Option.some.inj h
        subst h
        exact hx x5
      · replace h := zk_f h c9
        refine hr.1 2 True _ _ (16, [some (.ref 17), some (.long x1), none, some (.long x3), none, some (.int x5)], [.long 128, .long x3], [cb, sd, ln, pp], D) rfl trivial ?_
        refine hr.2.1 _ (x3 < 128) _ _ rfl (fun c16 => ?_) (fun c16 => ?_)
        · replace h := zk_t h c16
          replace h := Option.some.inj h
          subst h
          exact hx x5
        · replace h := zk_f h c16
          refine hr.1 8 True _ _ (34, [some (.ref 17), some (.long x1), none, some (.long x3), none, some (.int x5)], [.int ((((x3 &&& 127)).toInt32) + 128), .ref 18], [cb, sd, ln, pp], D) rfl trivial ?_
          obtain ⟨q1, hc, h⟩ := zk_bind h
          refine hr.2.2.1 _ _ _ _ _ (d) rfl (by omega) (c_g_Row_append_18 (l := l) (E := E) (d := d) (cb := cb) (sd := sd) (ln := ln) (pp := pp) hc) (fun v S hq => ?_)
          obtain ⟨rfl, rfl⟩ := hq
          clear hc
          refine hr.1 6 True _ _ (5, [some (.ref 17), some (.long x1), none, some (.long (zo_lushr x3 7)), none, some (.int (x5 + 1))], [], [cb, sd, ln, pp], q1) rfl trivial ?_
          exact ih (zo_lushr x3 7) (x5 + 1) q1 _ _ h hx
  rw [g_Pkg_appendNumber] at h
  refine hr.1 4 True _ _ (5, [some (.ref 17), some (.long x1), none, some (.long x1), none, some (.int 0)], [], [cb, sd, ln, pp], D) rfl trivial ?_
  obtain ⟨q2, hc, h⟩ := zk_bind h
  refine loop5 10000 x1 0 D x1 q2 hc (fun e5 => ?_)
  clear hc
  refine hr.1 4 True _ _ (54, [some (.ref 17), some (.long x1), none, some (.long q2.1), none, some (.int e5)], [.int ((q2.1).toInt32), .ref 18], [cb, sd, ln, pp], q2.2) rfl trivial ?_
  obtain ⟨q3, hc, h⟩ := zk_bind h
  refine hr.2.2.1 _ _ _ _ _ (d) rfl (by omega) (c_g_Row_append_18 (l := l) (E := E) (d := d) (cb := cb) (sd := sd) (ln := ln) (pp := pp) hc) (fun v S hq => ?_)
  obtain ⟨rfl, rfl⟩ := hq
  clear hc
  exact hr.2.2.2 _ _ _ rfl trivial ⟨rfl, (congrArg (fun x => (([cb, sd, ln, pp], x) : zx_S)) (Option.some.inj h))⟩
set_option maxRecDepth 100000 in
set_option maxHeartbeats 4000000 in
theorem c_g_Pkg_writeIndex {l : Launch} {E : zx_E} {d : Nat} {cb sd ln : Nat} {D : zx_D} {q : zx_D} (h : g_Pkg_writeIndex D = some q) : zx_MC l E 100 (d + 2) [.ref 17] ([cb, sd, ln, 1], D) (fun v S => v = none ∧ S = ([cb, sd, ln, 1], q)) := by
  refine zx_ofC (K := ck_Pkg_writeIndex) rfl (by decide +kernel) rfl ok_Pkg_writeIndex (Nat.le_of_ble_eq_true rfl) (fun Zp hr => ?_)
  show Zp (0, [some (.ref 17), none], [], [cb, sd, ln, 1], D)
  rw [g_Pkg_writeIndex] at h
  refine hr.1 7 True _ _ (13, [some (.ref 17), some (.int (zg_i D 18 1))], [.int 0, .ref 18], [cb, sd, ln, 1], D) rfl trivial ?_
  obtain ⟨q1, hc, h⟩ := zk_bind h
  refine hr.2.2.1 _ _ _ _ _ (d + 1) rfl (by omega) (c_g_Row_append_18 (l := l) (E := E) (d := d + 1) (cb := cb) (sd := sd) (ln := ln) (pp := 1) hc) (fun v S hq => ?_)
  obtain ⟨rfl, rfl⟩ := hq
  clear hc
  refine hr.1 3 True _ _ (23, [some (.ref 17), some (.int (zg_i D 18 1))], [.int (zg_i q1 1 1)], [cb, sd, ln, 1], q1) rfl trivial ?_
  obtain ⟨q6, hj, h⟩ := zk_bind h
  have J59 : ∀ (_ : True), Zp (59, [some (.ref 17), some (.int (zg_i D 18 1))], [], [cb, sd, ln, 1], q6) := by
    intro _
    refine hr.1 2 True _ _ (61, [some (.ref 17), some (.int (zg_i D 18 1))], [.int (zg_i D 18 1), .ref 17], [cb, sd, ln, 1], q6) rfl trivial ?_
    obtain ⟨q7, hc, h⟩ := zk_bind h
    refine hr.2.2.1 _ _ _ _ _ (d + 1) rfl (by omega) (c_g_Pkg_fillUp (l := l) (E := E) (d := d) (cb := cb) (sd := sd) (ln := ln) (pp := 1) hc) (fun v S hq => ?_)
    obtain ⟨rfl, rfl⟩ := hq
    clear hc
    refine hr.1 9 True _ _ (83, [some (.ref 17), some (.int (zg_i D 18 1))], [.int (zg_i q7 18 1), .int (zg_i D 18 1), .ref 19, .ref 18], [cb, sd, ln, 1], q7) rfl trivial ?_
    obtain ⟨q8, hc, h⟩ := zk_bind h
    refine hr.2.2.1 _ _ _ _ _ (d + 1) rfl (by omega) (c_g_P_sumFour_19 (l := l) (E := E) (d := d) (cb := cb) (sd := sd) (ln := ln) (pp := 1) hc) (fun v S hq => ?_)
    obtain ⟨rfl, rfl⟩ := hq
    clear hc
    refine hr.1 1 True _ _ (87, [some (.ref 17), some (.int (zg_i D 18 1))], [.int 4, .long q8, .ref 18], [cb, sd, ln, 1], q7) rfl trivial ?_
    obtain ⟨q9, hc, h⟩ := zk_bind h
    refine hr.2.2.1 _ _ _ _ _ (d + 1) rfl (by omega) (c_g_Row_appendLowFirst_18 (l := l) (E := E) (d := d) (cb := cb) (sd := sd) (ln := ln) (pp := 1) hc) (fun v S hq => ?_)
    obtain ⟨rfl, rfl⟩ := hq
    clear hc
    refine hr.1 7 True _ _ (103, [some (.ref 17), some (.int (zg_i D 18 1))], [], [cb, sd, ln, 1], zp_i q9 17 9 ((zg_i q9 18 1) - (zg_i D 18 1))) rfl trivial ?_
    exact hr.2.2.2 _ _ _ rfl trivial ⟨rfl, (congrArg (fun x => (([cb, sd, ln, 1], x) : zx_S)) (Option.some.inj h))⟩
  clear h
  have h := hj
  clear hj
  refine hr.2.1 _ (zg_i q1 1 1 ≤ 0) _ _ rfl (fun c23 => ?_) (fun c23 => ?_)
  · replace h := zk_t h c23
    refine hr.1 2 True _ _ (56, [some (.ref 17), some (.int (zg_i D 18 1))], [.long 0, .ref 17], [cb, sd, ln, 1], q1) rfl trivial ?_
    obtain ⟨q2, hc, h⟩ := zk_bind h
    refine hr.2.2.1 _ _ _ _ _ (d + 1) rfl (by omega) (c_g_Pkg_appendNumber (l := l) (E := E) (d := d) (cb := cb) (sd := sd) (ln := ln) (pp := 1) hc) (fun v S hq => ?_)
    obtain ⟨rfl, rfl⟩ := hq
    clear hc
    replace h := Option.some.inj h
    subst h
    exact J59 trivial
  · replace h := zk_f h c23
    refine hr.1 2 True _ _ (28, [some (.ref 17), some (.int (zg_i D 18 1))], [.long 1, .ref 17], [cb, sd, ln, 1], q1) rfl trivial ?_
    obtain ⟨q3, hc, h⟩ := zk_bind h
    refine hr.2.2.1 _ _ _ _ _ (d + 1) rfl (by omega) (c_g_Pkg_appendNumber (l := l) (E := E) (d := d) (cb := cb) (sd := sd) (ln := ln) (pp := 1) hc) (fun v S hq => ?_)
    obtain ⟨rfl, rfl⟩ := hq
    clear hc
    refine hr.1 3 True _ _ (36, [some (.ref 17), some (.int (zg_i D 18 1))], [.long (zg_l q3 17 8), .ref 17], [cb, sd, ln, 1], q3) rfl trivial ?_
    obtain ⟨q4, hc, h⟩ := zk_bind h
    refine hr.2.2.1 _ _ _ _ _ (d + 1) rfl (by omega) (c_g_Pkg_appendNumber (l := l) (E := E) (d := d) (cb := cb) (sd := sd) (ln := ln) (pp := 1) hc) (fun v S hq => ?_)
    obtain ⟨rfl, rfl⟩ := hq
    clear hc
    refine hr.1 5 True _ _ (48, [some (.ref 17), some (.int (zg_i D 18 1))], [.long (((zg_i q4 1 1)).toInt64), .ref 17], [cb, sd, ln, 1], q4) rfl trivial ?_
    obtain ⟨q5, hc, h⟩ := zk_bind h
    refine hr.2.2.1 _ _ _ _ _ (d + 1) rfl (by omega) (c_g_Pkg_appendNumber (l := l) (E := E) (d := d) (cb := cb) (sd := sd) (ln := ln) (pp := 1) hc) (fun v S hq => ?_)
    obtain ⟨rfl, rfl⟩ := hq
    clear hc
    refine hr.1 1 True _ _ (59, [some (.ref 17), some (.int (zg_i D 18 1))], [], [cb, sd, ln, 1], q5) rfl trivial ?_
    replace h := Option.some.inj h
    subst h
    exact J59 trivial
set_option maxRecDepth 100000 in
set_option maxHeartbeats 4000000 in
theorem c_g_P_sumBy_22 {l : Launch} {E : zx_E} {d : Nat} {cb sd ln pp : Nat} {x1 : Int32} {x2 : Int32} {x3 : Int64} {x5 : Int64} {D : zx_D} {q : Int64} (h : g_P_sumBy_22 x1 x2 x3 x5 D = some q) : zx_MC l E 19 d [.ref 22, .int x1, .int x2, .long x3, .long x5] ([cb, sd, ln, pp], D) (fun v S => v = some (.long q) ∧ S = ([cb, sd, ln, pp], D)) := by
  refine zx_ofC (K := ck_P_sumBy) rfl (by decide +kernel) rfl ok_P_sumBy (Nat.le_of_ble_eq_true rfl) (fun Zp hr => ?_)
  show Zp (0, [some (.ref 22), some (.int x1), some (.int x2), some (.long x3), none, some (.long x5), none, none, none, none, none], [], [cb, sd, ln, pp], D)
  have loop25 : ∀ (x2 : Int32) (x3 : Int64) (x5 : Int64) (x9 : Int32) (D : zx_D) (k : Nat) (x7 : Int64) (x10 : Int32) (x1 : Int32) (q : Int64), g_P_sumBy_22_25 x2 x3 x5 x9 D k x7 x10 = some q → (∀ (e10 : Int32), Zp (63, [some (.ref 22), some (.int x1), some (.int x2), some (.long x3), none, some (.long x5), none, some (.long q), none, some (.int x9), some (.int e10)], [], [cb, sd, ln, pp], D)) → Zp (25, [some (.ref 22), some (.int x1), some (.int x2), some (.long x3), none, some (.long x5), none, some (.long x7), none, some (.int x9), some (.int x10)], [], [cb, sd, ln, pp], D) := by
    intro x2 x3 x5 x9 D k
    induction k with
    | zero => intro x7 x10 x1 q h hx; exact (zk_no h).elim
    | succ k ih =>
      intro x7 x10 x1 q h hx
      rw [g_P_sumBy_22_25] at h
      refine hr.1 2 True _ _ (29, [some (.ref 22), some (.int x1), some (.int x2), some (.long x3), none, some (.long x5), none, some (.long x7), none, some (.int x9), some (.int x10)], [.int 8, .int x10], [cb, sd, ln, pp], D) rfl trivial ?_
      refine hr.2.1 _ (8 ≤ x10) _ _ rfl (fun c29 => ?_) (fun c29 => ?_)
      · replace h := zk_t h c29
        replace h := Option.some.inj h
        subst h
        exact hx x10
      · replace h := zk_f h c29
        refine hr.1 4 True _ _ (37, [some (.ref 22), some (.int x1), some (.int x2), some (.long x3), none, some (.long x5), none, some (.long x7), none, some (.int x9), some (.int x10)], [.long 1, .long (x7 &&& 1)], [cb, sd, ln, pp], D) rfl trivial ?_
        refine hr.2.1 _ (¬ x7 &&& 1 = 1) _ _ rfl (fun c37 => ?_) (fun c37 => ?_)
        · replace h := zk_t h c37
          refine hr.1 6 True _ _ (25, [some (.ref 22), some (.int x1), some (.int x2), some (.long x3), none, some (.long x5), none, some (.long (zo_lushr x7 1)), none, some (.int x9), some (.int (x10 + 1))], [], [cb, sd, ln, pp], D) rfl trivial ?_
          exact ih (zo_lushr x7 1) (x10 + 1)  _ _ h hx
        · replace h := zk_f h c37
          refine hr.1 9 True _ _ (25, [some (.ref 22), some (.int x1), some (.int x2), some (.long x3), none, some (.long x5), none, some (.long ((zo_lushr x7 1) ^^^ x5)), none, some (.int x9), some (.int (x10 + 1))], [], [cb, sd, ln, pp], D) rfl trivial ?_
          exact ih ((zo_lushr x7 1) ^^^ x5) (x10 + 1)  _ _ h hx
  have loop6 : ∀ (x2 : Int32) (x3 : Int64) (x5 : Int64) (D : zx_D) (k : Nat) (x7 : Int64) (x9 : Int32) (o10 : Option Value) (x1 : Int32) (q : Int64), g_P_sumBy_22_6 x2 x3 x5 D k x7 x9 = some q → (∀ (e9 : Int32) (o10 : Option Value), Zp (69, [some (.ref 22), some (.int x1), some (.int x2), some (.long x3), none, some (.long x5), none, some (.long q), none, some (.int e9), o10], [], [cb, sd, ln, pp], D)) → Zp (6, [some (.ref 22), some (.int x1), some (.int x2), some (.long x3), none, some (.long x5), none, some (.long x7), none, some (.int x9), o10], [], [cb, sd, ln, pp], D) := by
    intro x2 x3 x5 D k
    induction k with
    | zero => intro x7 x9 o10 x1 q h hx; exact (zk_no h).elim
    | succ k ih =>
      intro x7 x9 o10 x1 q h hx
      rw [g_P_sumBy_22_6] at h
      refine hr.1 2 True _ _ (9, [some (.ref 22), some (.int x1), some (.int x2), some (.long x3), none, some (.long x5), none, some (.long x7), none, some (.int x9), o10], [.int x2, .int x9], [cb, sd, ln, pp], D) rfl trivial ?_
      refine hr.2.1 _ (x2 ≤ x9) _ _ rfl (fun c9 => ?_) (fun c9 => ?_)
      · replace h := zk_t h c9
        replace h := Option.some.inj h
        subst h
        exact hx x9 o10
      · replace h := zk_f h c9
        obtain ⟨w2, h⟩ := zk_ck h
        refine hr.1 9 True _ _ (25, [some (.ref 22), some (.int x1), some (.int x2), some (.long x3), none, some (.long x5), none, some (.long (x7 ^^^ (((zg_i D 22 (zn x9))).toInt64))), none, some (.int x9), some (.int 0)], [], [cb, sd, ln, pp], D) rfl ⟨trivial, (zk_vp w2)⟩ ?_
        obtain ⟨q1, hc, h⟩ := zk_bind h
        refine loop25 x2 x3 x5 x9 D 10000 (x7 ^^^ (((zg_i D 22 (zn x9))).toInt64)) 0 x1 q1 hc (fun e10 => ?_)
        clear hc
        refine hr.1 2 True _ _ (6, [some (.ref 22), some (.int x1), some (.int x2), some (.long x3), none, some (.long x5), none, some (.long q1), none, some (.int (x9 + 1)), some (.int e10)], [], [cb, sd, ln, pp], D) rfl trivial ?_
        exact ih q1 (x9 + 1)  _ _ _ h hx
  rw [g_P_sumBy_22] at h
  refine hr.1 4 True _ _ (6, [some (.ref 22), some (.int x1), some (.int x2), some (.long x3), none, some (.long x5), none, some (.long x3), none, some (.int x1), none], [], [cb, sd, ln, pp], D) rfl trivial ?_
  obtain ⟨q2, hc, h⟩ := zk_bind h
  refine loop6 x2 x3 x5 D 10000 x3 x1 none x1 q2 hc (fun e9 o10 => ?_)
  clear hc
  refine hr.1 3 True _ _ (73, [some (.ref 22), some (.int x1), some (.int x2), some (.long x3), none, some (.long x5), none, some (.long q2), none, some (.int e9), o10], [.long (q2 ^^^ x3)], [cb, sd, ln, pp], D) rfl trivial ?_
  exact hr.2.2.2 _ _ _ rfl trivial ⟨(congrArg (fun x => some (Value.long x)) (Option.some.inj h)), rfl⟩
