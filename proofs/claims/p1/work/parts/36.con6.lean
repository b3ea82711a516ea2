/-! Contracts (written by a program) -/
set_option maxRecDepth 100000 in
set_option maxHeartbeats 4000000 in
theorem c_g_R_putCopy {l : Launch} {E : zx_E} {d : Nat} {x1 : Int32} {x2 : Int32} {x3 : Int32} {D : zx_D} {q : zx_D} (h : g_R_putCopy x1 x2 x3 D = some q) : zx_MR l E 168 (d + 4) [.ref 0, .int x1, .int x2, .int x3] ([], D) (fun v S => v = none ∧ S = ([], q)) := by
  refine zx_ofR (K := ck_R_putCopy) rfl (by decide +kernel) rfl ok_R_putCopy (Nat.le_of_ble_eq_true rfl) (fun Zp hr => ?_)
  show Zp (0, [some (.ref 0), some (.int x1), some (.int x2), some (.int x3), none, none, none, none, none], [], [], D)
  have loop78 : ∀ (x2 : Int32) (x4 : Int32) (D : zx_D) (k : Nat) (x5 : Int32) (x1 : Int32) (x3 : Int32) (q : Int32), g_R_putCopy_78 x2 x4 D k x5 = some q → (True → Zp (93, [some (.ref 0), some (.int x1), some (.int x2), some (.int x3), some (.int x4), some (.int q), none, none, none], [], [], D)) → Zp (78, [some (.ref 0), some (.int x1), some (.int x2), some (.int x3), some (.int x4), some (.int x5), none, none, none], [], [], D) := by
    intro x2 x4 D k
    induction k with
    | zero => intro x5 x1 x3 q h hx; exact (zk_no h).elim
    | succ k ih =>
      intro x5 x1 x3 q h hx
      rw [g_R_putCopy_78] at h
      refine hr.1 4 True _ _ (84, [some (.ref 0), some (.int x1), some (.int x2), some (.int x3), some (.int x4), some (.int x5), none, none, none], [.int 1, .int (zo_shr x4 x5)], [], D) rfl trivial ?_
      refine hr.2.1 _ (zo_shr x4 x5 ≤ 1) _ _ rfl (fun c84 => ?_) (fun c84 => ?_)
      · replace h := zk_t h c84
        replace h := Option.some.inj h
        subst h
        exact hx trivial
      · replace h := zk_f h c84
        refine hr.1 2 True _ _ (78, [some (.ref 0), some (.int x1), some (.int x2), some (.int x3), some (.int x4), some (.int (x5 + 1)), none, none, none], [], [], D) rfl trivial ?_
        exact ih (x5 + 1)  _ _ _ h hx
  have loop219 : ∀ (x7 : Int32) (k : Nat) (x8 : Int32) (D : zx_D) (x1 : Int32) (x2 : Int32) (x3 : Int32) (x4 : Int32) (x5 : Int32) (x6 : Int32) (q : zx_D), g_R_putCopy_219 x7 k x8 D = some q → (∀ (e8 : Int32), Zp (242, [some (.ref 0), some (.int x1), some (.int x2), some (.int x3), some (.int x4), some (.int x5), some (.int x6), some (.int x7), some (.int e8)], [], [], q)) → Zp (219, [some (.ref 0), some (.int x1), some (.int x2), some (.int x3), some (.int x4), some (.int x5), some (.int x6), some (.int x7), some (.int x8)], [], [], D) := by
    intro x7 k
    induction k with
    | zero => intro x8 D x1 x2 x3 x4 x5 x6 q h hx; exact (zk_no h).elim
    | succ k ih =>
      intro x8 D x1 x2 x3 x4 x5 x6 q h hx
      rw [g_R_putCopy_219] at h
      refine hr.1 2 True _ _ (222, [some (.ref 0), some (.int x1), some (.int x2), some (.int x3), some (.int x4), some (.int x5), some (.int x6), some (.int x7), some (.int x8)], [.int 3, .int x8], [], D) rfl trivial ?_
      refine hr.2.1 _ (x8 ≤ 3) _ _ rfl (fun c222 => ?_) (fun c222 => ?_)
      · replace h := zk_t h c222
        replace h := Option.some.inj h
        subst h
        exact hx x8
      · replace h := zk_f h c222
        refine hr.1 6 True _ _ (233, [some (.ref 0), some (.int x1), some (.int x2), some (.int x3), some (.int x4), some (.int x5), some (.int x6), some (.int x7), some (.int x8)], [.int ((zo_shr x7 x8) &&& 1), .ref 0], [], D) rfl trivial ?_
        obtain ⟨q11, hc, h⟩ := zk_bind h
        refine hr.2.2.1 _ _ _ _ _ (d + 3) rfl (by omega) (c_g_R_putEven (l := l) (E := E) (d := d + 2) hc) (fun v S hq => ?_)
        obtain ⟨rfl, rfl⟩ := hq
        clear hc
        refine hr.1 2 True _ _ (219, [some (.ref 0), some (.int x1), some (.int x2), some (.int x3), some (.int x4), some (.int x5), some (.int x6), some (.int x7), some (.int (x8 + (-1)))], [], [], q11) rfl trivial ?_
        exact ih (x8 + (-1)) q11 _ _ _ _ _ _ _ h hx
  rw [g_R_putCopy] at h
  refine hr.1 10 True _ _ (15, [some (.ref 0), some (.int x1), some (.int x2), some (.int x3), none, none, none, none, none], [.int 1, .int ((6144 + (16 * (zg_i D 0 12))) + x3), .ref 0], [], D) rfl trivial ?_
  obtain ⟨q1, hc, h⟩ := zk_bind h
  refine hr.2.2.1 _ _ _ _ _ (d + 3) rfl (by omega) (c_g_R_put (l := l) (E := E) (d := d + 2) hc) (fun v S hq => ?_)
  obtain ⟨rfl, rfl⟩ := hq
  clear hc
  refine hr.1 6 True _ _ (28, [some (.ref 0), some (.int x1), some (.int x2), some (.int x3), none, none, none, none, none], [.int 0, .int (6528 + (zg_i q1 0 12)), .ref 0], [], q1) rfl trivial ?_
  obtain ⟨q2, hc, h⟩ := zk_bind h
  refine hr.2.2.1 _ _ _ _ _ (d + 3) rfl (by omega) (c_g_R_put (l := l) (E := E) (d := d + 2) hc) (fun v S hq => ?_)
  obtain ⟨rfl, rfl⟩ := hq
  clear hc
  refine hr.1 20 True _ _ (67, [some (.ref 0), some (.int x1), some (.int x2), some (.int x3), none, none, none, none, none], [.int x3, .int x2, .int 6576, .ref 0], [], zp_l (zp_l (zp_l (zp_l q2 0 16 (zg_l q2 0 15)) 0 15 (zg_l q2 0 14)) 0 14 (zg_l q2 0 13)) 0 13 ((x1).toInt64)) rfl trivial ?_
  obtain ⟨q3, hc, h⟩ := zk_bind h
  refine hr.2.2.1 _ _ _ _ _ (d + 3) rfl (by omega) (c_g_R_putLength (l := l) (E := E) (d := d) hc) (fun v S hq => ?_)
  obtain ⟨rfl, rfl⟩ := hq
  clear hc
  refine hr.1 6 True _ _ (78, [some (.ref 0), some (.int x1), some (.int x2), some (.int x3), some (.int (x1 - 1)), some (.int 0), none, none, none], [], [], q3) rfl trivial ?_
  obtain ⟨q4, hc, h⟩ := zk_bind h
  refine loop78 x2 (x1 - 1) q3 10000 0 x1 x3 q4 hc (fun _ => ?_)
  clear hc
  refine hr.1 2 True _ _ (96, [some (.ref 0), some (.int x1), some (.int x2), some (.int x3), some (.int (x1 - 1)), some (.int q4), none, none, none], [.int 4, .int (x1 - 1)], [], q3) rfl trivial ?_
  obtain ⟨q5, hj, h⟩ := zk_bind h
  have J118 : ∀ (_ : True), Zp (118, [some (.ref 0), some (.int x1), some (.int x2), some (.int x3), some (.int (x1 - 1)), some (.int q4), none, none, none], [.int q5], [], q3) := by
    intro _
    refine hr.1 6 True _ _ (128, [some (.ref 0), some (.int x1), some (.int x2), some (.int x3), some (.int (x1 - 1)), some (.int q4), some (.int q5), none, none], [.int 5, .int x2, .int 64, .int 7608, .ref 0], [], q3) rfl trivial ?_
    obtain ⟨q6, hj, h⟩ := zk_bind h
    have J138 : ∀ (_ : True), Zp (138, [some (.ref 0), some (.int x1), some (.int x2), some (.int x3), some (.int (x1 - 1)), some (.int q4), some (.int q5), none, none], [.int q6, .int 64, .int 7608, .ref 0], [], q3) := by
      intro _
      refine hr.1 4 True _ _ (144, [some (.ref 0), some (.int x1), some (.int x2), some (.int x3), some (.int (x1 - 1)), some (.int q4), some (.int q5), none, none], [.int q5, .int 6, .int (7608 + (64 * q6)), .ref 0], [], q3) rfl trivial ?_
      obtain ⟨q7, hc, h⟩ := zk_bind h
      refine hr.2.2.1 _ _ _ _ _ (d + 3) rfl (by omega) (c_g_R_putTree (l := l) (E := E) (d := d + 1) hc) (fun v S hq => ?_)
      obtain ⟨rfl, rfl⟩ := hq
      clear hc
      refine hr.1 2 True _ _ (150, [some (.ref 0), some (.int x1), some (.int x2), some (.int x3), some (.int (x1 - 1)), some (.int q4), some (.int q5), none, none], [.int 4, .int (x1 - 1)], [], q7) rfl trivial ?_
      obtain ⟨q8, hj, h⟩ := zk_bind h
      have J168 : ∀ (_ : True), Zp (168, [some (.ref 0), some (.int x1), some (.int x2), some (.int x3), some (.int (x1 - 1)), some (.int q4), some (.int q5), none, none], [.int q8], [], q7) := by
        intro _
        refine hr.1 3 True _ _ (173, [some (.ref 0), some (.int x1), some (.int x2), some (.int x3), some (.int (x1 - 1)), some (.int q4), some (.int q5), some (.int q8), none], [.int 3, .int q5], [], q7) rfl trivial ?_
        obtain ⟨q10, hj, h⟩ := zk_bind h
        have J206 : ∀ (_ : True), Zp (206, [some (.ref 0), some (.int x1), some (.int x2), some (.int x3), some (.int (x1 - 1)), some (.int q4), some (.int q5), some (.int q8), none], [], [], q10) := by
          intro _
          refine hr.1 2 True _ _ (210, [some (.ref 0), some (.int x1), some (.int x2), some (.int x3), some (.int (x1 - 1)), some (.int q4), some (.int q5), some (.int q8), none], [.int 13, .int q5], [], q10) rfl trivial ?_
          refine hr.2.1 _ (q5 ≤ 13) _ _ rfl (fun c210 => ?_) (fun c210 => ?_)
          · replace h := zk_t h c210
            refine hr.1 4 True _ _ (262, [some (.ref 0), some (.int x1), some (.int x2), some (.int x3), some (.int (x1 - 1)), some (.int q4), some (.int q5), some (.int q8), none], [.int 7, .int (zg_i q10 0 12), .ref 0], [], q10) rfl trivial ?_
            refine hr.2.1 _ (7 ≤ zg_i q10 0 12) _ _ rfl (fun c262 => ?_) (fun c262 => ?_)
            · replace h := zk_t h c262
              refine hr.1 2 True _ _ (275, [some (.ref 0), some (.int x1), some (.int x2), some (.int x3), some (.int (x1 - 1)), some (.int q4), some (.int q5), some (.int q8), none], [], [], zp_i q10 0 12 10) rfl trivial ?_
              exact hr.2.2.2 _ _ _ rfl trivial ⟨rfl, (congrArg (fun x => (([], x) : zx_S)) (Option.some.inj h))⟩
            · replace h := zk_f h c262
              refine hr.1 3 True _ _ (275, [some (.ref 0), some (.int x1), some (.int x2), some (.int x3), some (.int (x1 - 1)), some (.int q4), some (.int q5), some (.int q8), none], [], [], zp_i q10 0 12 7) rfl trivial ?_
              exact hr.2.2.2 _ _ _ rfl trivial ⟨rfl, (congrArg (fun x => (([], x) : zx_S)) (Option.some.inj h))⟩
          · replace h := zk_f h c210
            refine hr.1 4 True _ _ (219, [some (.ref 0), some (.int x1), some (.int x2), some (.int x3), some (.int (x1 - 1)), some (.int q4), some (.int q5), some (.int q8), some (.int (q4 - 2))], [], [], q10) rfl trivial ?_
            obtain ⟨q12, hc, h⟩ := zk_bind h
            refine loop219 q8 10000 (q4 - 2) q10 x1 x2 x3 (x1 - 1) q4 q5 q12 hc (fun e8 => ?_)
            clear hc
            refine hr.1 6 True _ _ (252, [some (.ref 0), some (.int x1), some (.int x2), some (.int x3), some (.int (x1 - 1)), some (.int q4), some (.int q5), some (.int q8), some (.int e8)], [.int (q8 &&& 15), .int 4, .int 8312, .ref 0], [], q12) rfl trivial ?_
            obtain ⟨q13, hc, h⟩ := zk_bind h
            refine hr.2.2.1 _ _ _ _ _ (d + 3) rfl (by omega) (c_g_R_putBackwards (l := l) (E := E) (d := d + 1) hc) (fun v S hq => ?_)
            obtain ⟨rfl, rfl⟩ := hq
            clear hc
            refine hr.1 4 True _ _ (262, [some (.ref 0), some (.int x1), some (.int x2), some (.int x3), some (.int (x1 - 1)), some (.int q4), some (.int q5), some (.int q8), some (.int e8)], [.int 7, .int (zg_i q13 0 12), .ref 0], [], q13) rfl trivial ?_
            refine hr.2.1 _ (7 ≤ zg_i q13 0 12) _ _ rfl (fun c262 => ?_) (fun c262 => ?_)
            · replace h := zk_t h c262
              refine hr.1 2 True _ _ (275, [some (.ref 0), some (.int x1), some (.int x2), some (.int x3), some (.int (x1 - 1)), some (.int q4), some (.int q5), some (.int q8), some (.int e8)], [], [], zp_i q13 0 12 10) rfl trivial ?_
              exact hr.2.2.2 _ _ _ rfl trivial ⟨rfl, (congrArg (fun x => (([], x) : zx_S)) (Option.some.inj h))⟩
            · replace h := zk_f h c262
              refine hr.1 3 True _ _ (275, [some (.ref 0), some (.int x1), some (.int x2), some (.int x3), some (.int (x1 - 1)), some (.int q4), some (.int q5), some (.int q8), some (.int e8)], [], [], zp_i q13 0 12 7) rfl trivial ?_
              exact hr.2.2.2 _ _ _ rfl trivial ⟨rfl, (congrArg (fun x => (([], x) : zx_S)) (Option.some.inj h))⟩
        clear h
        have h := hj
        clear hj
        refine hr.2.1 _ (q5 ≤ 3) _ _ rfl (fun c173 => ?_) (fun c173 => ?_)
        · replace h := zk_t h c173
          replace h := Option.some.inj h
          subst h
          exact J206 trivial
        · replace h := zk_f h c173
          refine hr.1 2 True _ _ (180, [some (.ref 0), some (.int x1), some (.int x2), some (.int x3), some (.int (x1 - 1)), some (.int q4), some (.int q5), some (.int q8), none], [.int 14, .int q5], [], q7) rfl trivial ?_
          refine hr.2.1 _ (14 ≤ q5) _ _ rfl (fun c180 => ?_) (fun c180 => ?_)
          · replace h := zk_t h c180
            replace h := Option.some.inj h
            subst h
            exact J206 trivial
          · replace h := zk_f h c180
            refine hr.1 12 True _ _ (203, [some (.ref 0), some (.int x1), some (.int x2), some (.int x3), some (.int (x1 - 1)), some (.int q4), some (.int q5), some (.int q8), none], [.int q8, .int (q4 - 1), .int ((7864 + (32 * q5)) - 128), .ref 0], [], q7) rfl trivial ?_
            obtain ⟨q9, hc, h⟩ := zk_bind h
            refine hr.2.2.1 _ _ _ _ _ (d + 3) rfl (by omega) (c_g_R_putBackwards (l := l) (E := E) (d := d + 1) hc) (fun v S hq => ?_)
            obtain ⟨rfl, rfl⟩ := hq
            clear hc
            replace h := Option.some.inj h
            subst h
            exact J206 trivial
      clear h
      have h := hj
      clear hj
      refine hr.2.1 _ (4 ≤ x1 - 1) _ _ rfl (fun c150 => ?_) (fun c150 => ?_)
      · replace h := zk_t h c150
        refine hr.1 9 True _ _ (168, [some (.ref 0), some (.int x1), some (.int x2), some (.int x3), some (.int (x1 - 1)), some (.int q4), some (.int q5), none, none], [.int ((x1 - 1) &&& ((zo_shl 1 (q4 - 1)) - 1))], [], q7) rfl trivial ?_
        replace h := Option.some.inj h
        subst h
        exact J168 trivial
      · replace h := zk_f h c150
        refine hr.1 2 True _ _ (168, [some (.ref 0), some (.int x1), some (.int x2), some (.int x3), some (.int (x1 - 1)), some (.int q4), some (.int q5), none, none], [.int 0], [], q7) rfl trivial ?_
        replace h := Option.some.inj h
        subst h
        exact J168 trivial
    clear h
    have h := hj
    clear hj
    refine hr.2.1 _ (5 ≤ x2) _ _ rfl (fun c128 => ?_) (fun c128 => ?_)
    · replace h := zk_t h c128
      refine hr.1 1 True _ _ (138, [some (.ref 0), some (.int x1), some (.int x2), some (.int x3), some (.int (x1 - 1)), some (.int q4), some (.int q5), none, none], [.int 3, .int 64, .int 7608, .ref 0], [], q3) rfl trivial ?_
      replace h := Option.some.inj h
      subst h
      exact J138 trivial
    · replace h := zk_f h c128
      refine hr.1 4 True _ _ (138, [some (.ref 0), some (.int x1), some (.int x2), some (.int x3), some (.int (x1 - 1)), some (.int q4), some (.int q5), none, none], [.int (x2 - 2), .int 64, .int 7608, .ref 0], [], q3) rfl trivial ?_
      replace h := Option.some.inj h
      subst h
      exact J138 trivial
  clear h
  have h := hj
  clear hj
  refine hr.2.1 _ (4 ≤ x1 - 1) _ _ rfl (fun c96 => ?_) (fun c96 => ?_)
  · replace h := zk_t h c96
    refine hr.1 11 True _ _ (118, [some (.ref 0), some (.int x1), some (.int x2), some (.int x3), some (.int (x1 - 1)), some (.int q4), none, none, none], [.int ((2 * q4) + ((zo_shr (x1 - 1) (q4 - 1)) &&& 1))], [], q3) rfl trivial ?_
    replace h := Option.some.inj h
    subst h
    exact J118 trivial
  · replace h := zk_f h c96
    refine hr.1 2 True _ _ (118, [some (.ref 0), some (.int x1), some (.int x2), some (.int x3), some (.int (x1 - 1)), some (.int q4), none, none, none], [.int (x1 - 1)], [], q3) rfl trivial ?_
    replace h := Option.some.inj h
    subst h
    exact J118 trivial
set_option maxRecDepth 100000 in
set_option maxHeartbeats 4000000 in
theorem c_g_R_context {l : Launch} {E : zx_E} {d : Nat} {x1 : Int32} {x2 : Int32} {D : zx_D} {q : Int32} (h : g_R_context x1 x2 D = some q) : zx_MR l E 155 d [.ref 0, .int x1, .int x2] ([], D) (fun v S => v = some (.int q) ∧ S = ([], D)) := by
  refine zx_ofR (K := ck_R_context) rfl (by decide +kernel) rfl ok_R_context (Nat.le_of_ble_eq_true rfl) (fun Zp hr => ?_)
  show Zp (0, [some (.ref 0), some (.int x1), some (.int x2)], [], [], D)
  rw [g_R_context] at h
  refine hr.1 22 True _ _ (31, [some (.ref 0), some (.int x1), some (.int x2)], [.int (0 + (768 * ((zo_shl (x1 &&& ((zo_shl 1 (zg_i D 0 10)) - 1)) (zg_i D 0 9)) + (zo_shr x2 (8 - (zg_i D 0 9))))))], [], D) rfl trivial ?_
  exact hr.2.2.2 _ _ _ rfl trivial ⟨(congrArg (fun x => some (Value.int x)) (Option.some.inj h)), rfl⟩
set_option maxRecDepth 100000 in
set_option maxHeartbeats 4000000 in
theorem c_g_R_after {l : Launch} {E : zx_E} {d : Nat} {x0 : Int32} {D : zx_D} {q : Int32} (h : g_R_after x0 D = some q) : zx_MR l E 156 d [.int x0] ([], D) (fun v S => v = some (.int q) ∧ S = ([], D)) := by
  refine zx_ofR (K := ck_R_after) rfl (by decide +kernel) rfl ok_R_after (Nat.le_of_ble_eq_true rfl) (fun Zp hr => ?_)
  show Zp (0, [some (.int x0)], [], [], D)
  rw [g_R_after] at h
  refine hr.1 2 True _ _ (2, [some (.int x0)], [.int 4, .int x0], [], D) rfl trivial ?_
  refine hr.2.1 _ (4 ≤ x0) _ _ rfl (fun c2 => ?_) (fun c2 => ?_)
  · replace h := zk_t h c2
    refine hr.1 2 True _ _ (12, [some (.int x0)], [.int 10, .int x0], [], D) rfl trivial ?_
    refine hr.2.1 _ (10 ≤ x0) _ _ rfl (fun c12 => ?_) (fun c12 => ?_)
    · replace h := zk_t h c12
      refine hr.1 3 True _ _ (25, [some (.int x0)], [.int (x0 - 6)], [], D) rfl trivial ?_
      exact hr.2.2.2 _ _ _ rfl trivial ⟨(congrArg (fun x => some (Value.int x)) (Option.some.inj h)), rfl⟩
    · replace h := zk_f h c12
      refine hr.1 4 True _ _ (25, [some (.int x0)], [.int (x0 - 3)], [], D) rfl trivial ?_
      exact hr.2.2.2 _ _ _ rfl trivial ⟨(congrArg (fun x => some (Value.int x)) (Option.some.inj h)), rfl⟩
  · replace h := zk_f h c2
    refine hr.1 2 True _ _ (25, [some (.int x0)], [.int 0], [], D) rfl trivial ?_
    exact hr.2.2.2 _ _ _ rfl trivial ⟨(congrArg (fun x => some (Value.int x)) (Option.some.inj h)), rfl⟩
set_option maxRecDepth 100000 in
set_option maxHeartbeats 4000000 in
theorem c_g_R_putLiteral {l : Launch} {E : zx_E} {d : Nat} {x1 : Int32} {x2 : Int32} {D : zx_D} {q : zx_D} (h : g_R_putLiteral x1 x2 D = some q) : zx_MR l E 170 (d + 2) [.ref 0, .int x1, .int x2] ([], D) (fun v S => v = none ∧ S = ([], q)) := by
  refine zx_ofR (K := ck_R_putLiteral) rfl (by decide +kernel) rfl ok_R_putLiteral (Nat.le_of_ble_eq_true rfl) (fun Zp hr => ?_)
  show Zp (0, [some (.ref 0), some (.int x1), some (.int x2), none, none, none, none, none, none, none, none], [], [], D)
  have loop94 : ∀ (x3 : Int32) (x5 : Int32) (x6 : Int32) (k : Nat) (x4 : Int32) (x7 : Int32) (x8 : Int32) (D : zx_D) (o9 : Option Value) (o10 : Option Value) (x1 : Int32) (x2 : Int32) (q : zx_D), g_R_putLiteral_94 x3 x5 x6 k x4 x7 x8 D = some q → (∀ (e4 : Int32) (e7 : Int32) (e8 : Int32) (o9 : Option Value) (o10 : Option Value), Zp (184, [some (.ref 0), some (.int x1), some (.int x2), some (.int x3), some (.int e4), some (.int x5), some (.int x6), some (.int e7), some (.int e8), o9, o10], [], [], q)) → Zp (94, [some (.ref 0), some (.int x1), some (.int x2), some (.int x3), some (.int x4), some (.int x5), some (.int x6), some (.int x7), some (.int x8), o9, o10], [], [], D) := by
    intro x3 x5 x6 k
    induction k with
    | zero => intro x4 x7 x8 D o9 o10 x1 x2 q h hx; exact (zk_no h).elim
    | succ k ih =>
      intro x4 x7 x8 D o9 o10 x1 x2 q h hx
      rw [g_R_putLiteral_94] at h
      refine hr.1 1 True _ _ (96, [some (.ref 0), some (.int x1), some (.int x2), some (.int x3), some (.int x4), some (.int x5), some (.int x6), some (.int x7), some (.int x8), o9, o10], [.int x8], [], D) rfl trivial ?_
      refine hr.2.1 _ (x8 < 0) _ _ rfl (fun c96 => ?_) (fun c96 => ?_)
      · replace h := zk_t h c96
        replace h := Option.some.inj h
        subst h
        exact hx x4 x7 x8 o9 o10
      · replace h := zk_f h c96
        refine hr.1 14 True _ _ (120, [some (.ref 0), some (.int x1), some (.int x2), some (.int x3), some (.int x4), some (.int x5), some (.int x6), some (.int x7), some (.int x8), some (.int ((zo_shr x5 x8) &&& 1)), some (.int ((zo_shr x6 x8) &&& 1))], [.int x4, .ref 0], [], D) rfl trivial ?_
        obtain ⟨q6, hj, h⟩ := zk_bind h
        have J145 : ∀ (_ : True), Zp (145, [some (.ref 0), some (.int x1), some (.int x2), some (.int x3), some (.int x4), some (.int x5), some (.int x6), some (.int x7), some (.int x8), some (.int ((zo_shr x5 x8) &&& 1)), some (.int ((zo_shr x6 x8) &&& 1))], [.int q6, .ref 0], [], D) := by
          intro _
          refine hr.1 1 True _ _ (147, [some (.ref 0), some (.int x1), some (.int x2), some (.int x3), some (.int x4), some (.int x5), some (.int x6), some (.int x7), some (.int x8), some (.int ((zo_shr x5 x8) &&& 1)), some (.int ((zo_shr x6 x8) &&& 1))], [.int ((zo_shr x6 x8) &&& 1), .int q6, .ref 0], [], D) rfl trivial ?_
          obtain ⟨q7, hc, h⟩ := zk_bind h
          refine hr.2.2.1 _ _ _ _ _ (d + 1) rfl (by omega) (c_g_R_put (l := l) (E := E) (d := d) hc) (fun v S hq => ?_)
          obtain ⟨rfl, rfl⟩ := hq
          clear hc
          refine hr.1 7 True _ _ (161, [some (.ref 0), some (.int x1), some (.int x2), some (.int x3), some (.int x4), some (.int x5), some (.int x6), some (.int ((2 * x7) + ((zo_shr x6 x8) &&& 1))), some (.int x8), some (.int ((zo_shr x5 x8) &&& 1)), some (.int ((zo_shr x6 x8) &&& 1))], [.int x4], [], q7) rfl trivial ?_
          refine hr.2.1 _ (x4 = 0) _ _ rfl (fun c161 => ?_) (fun c161 => ?_)
          · replace h := zk_t h c161
            refine hr.1 4 True _ _ (94, [some (.ref 0), some (.int x1), some (.int x2), some (.int x3), some (.int 0), some (.int x5), some (.int x6), some (.int ((2 * x7) + ((zo_shr x6 x8) &&& 1))), some (.int (x8 + (-1))), some (.int ((zo_shr x5 x8) &&& 1)), some (.int ((zo_shr x6 x8) &&& 1))], [], [], q7) rfl trivial ?_
            exact ih 0 ((2 * x7) + ((zo_shr x6 x8) &&& 1)) (x8 + (-1)) q7 _ _ _ _ _ h hx
          · replace h := zk_f h c161
            refine hr.1 2 True _ _ (168, [some (.ref 0), some (.int x1), some (.int x2), some (.int x3), some (.int x4), some (.int x5), some (.int x6), some (.int ((2 * x7) + ((zo_shr x6 x8) &&& 1))), some (.int x8), some (.int ((zo_shr x5 x8) &&& 1)), some (.int ((zo_shr x6 x8) &&& 1))], [.int ((zo_shr x5 x8) &&& 1), .int ((zo_shr x6 x8) &&& 1)], [], q7) rfl trivial ?_
            refine hr.2.1 _ (¬ (zo_shr x6 x8) &&& 1 = (zo_shr x5 x8) &&& 1) _ _ rfl (fun c168 => ?_) (fun c168 => ?_)
            · replace h := zk_t h c168
              refine hr.1 4 True _ _ (94, [some (.ref 0), some (.int x1), some (.int x2), some (.int x3), some (.int 0), some (.int x5), some (.int x6), some (.int ((2 * x7) + ((zo_shr x6 x8) &&& 1))), some (.int (x8 + (-1))), some (.int ((zo_shr x5 x8) &&& 1)), some (.int ((zo_shr x6 x8) &&& 1))], [], [], q7) rfl trivial ?_
              exact ih 0 ((2 * x7) + ((zo_shr x6 x8) &&& 1)) (x8 + (-1)) q7 _ _ _ _ _ h hx
            · replace h := zk_f h c168
              refine hr.1 5 True _ _ (94, [some (.ref 0), some (.int x1), some (.int x2), some (.int x3), some (.int 1), some (.int x5), some (.int x6), some (.int ((2 * x7) + ((zo_shr x6 x8) &&& 1))), some (.int (x8 + (-1))), some (.int ((zo_shr x5 x8) &&& 1)), some (.int ((zo_shr x6 x8) &&& 1))], [], [], q7) rfl trivial ?_
              exact ih 1 ((2 * x7) + ((zo_shr x6 x8) &&& 1)) (x8 + (-1)) q7 _ _ _ _ _ h hx
        clear h
        have h := hj
        clear hj
        refine hr.2.1 _ (x4 = 0) _ _ rfl (fun c120 => ?_) (fun c120 => ?_)
        · replace h := zk_t h c120
          refine hr.1 3 True _ _ (145, [some (.ref 0), some (.int x1), some (.int x2), some (.int x3), some (.int x4), some (.int x5), some (.int x6), some (.int x7), some (.int x8), some (.int ((zo_shr x5 x8) &&& 1)), some (.int ((zo_shr x6 x8) &&& 1))], [.int (x3 + x7), .ref 0], [], D) rfl trivial ?_
          replace h := Option.some.inj h
          subst h
          exact J145 trivial
        · replace h := zk_f h c120
          refine hr.1 10 True _ _ (145, [some (.ref 0), some (.int x1), some (.int x2), some (.int x3), some (.int x4), some (.int x5), some (.int x6), some (.int x7), some (.int x8), some (.int ((zo_shr x5 x8) &&& 1)), some (.int ((zo_shr x6 x8) &&& 1))], [.int (((x3 + 256) + (256 * ((zo_shr x5 x8) &&& 1))) + x7), .ref 0], [], D) rfl trivial ?_
          replace h := Option.some.inj h
          subst h
          exact J145 trivial
  rw [g_R_putLiteral] at h
  refine hr.1 10 True _ _ (15, [some (.ref 0), some (.int x1), some (.int x2), none, none, none, none, none, none, none, none], [.int 0, .int ((6144 + (16 * (zg_i D 0 12))) + x2), .ref 0], [], D) rfl trivial ?_
  obtain ⟨q1, hc, h⟩ := zk_bind h
  refine hr.2.2.1 _ _ _ _ _ (d + 1) rfl (by omega) (c_g_R_put (l := l) (E := E) (d := d) hc) (fun v S hq => ?_)
  obtain ⟨rfl, rfl⟩ := hq
  clear hc
  refine hr.1 3 True _ _ (21, [some (.ref 0), some (.int x1), some (.int x2), none, none, none, none, none, none, none, none], [.int x1, .int x1, .ref 0], [], q1) rfl trivial ?_
  obtain ⟨q2, hj, h⟩ := zk_bind h
  have J36 : ∀ (_ : True), Zp (36, [some (.ref 0), some (.int x1), some (.int x2), none, none, none, none, none, none, none, none], [.int q2, .int x1, .ref 0], [], q1) := by
    intro _
    obtain ⟨q3, hc, h⟩ := zk_bind h
    refine hr.2.2.1 _ _ _ _ _ (d + 1) rfl (by omega) (c_g_R_context (l := l) (E := E) (d := d + 1) hc) (fun v S hq => ?_)
    obtain ⟨rfl, rfl⟩ := hq
    clear hc
    refine hr.1 4 True _ _ (46, [some (.ref 0), some (.int x1), some (.int x2), some (.int q3), none, none, none, none, none, none, none], [.int 6, .int (zg_i q1 0 12)], [], q1) rfl trivial ?_
    obtain ⟨q4, hj, h⟩ := zk_bind h
    have J54 : ∀ (_ : True), Zp (54, [some (.ref 0), some (.int x1), some (.int x2), some (.int q3), none, none, none, none, none, none, none], [.int q4], [], q1) := by
      intro _
      refine hr.1 2 True _ _ (58, [some (.ref 0), some (.int x1), some (.int x2), some (.int q3), some (.int q4), none, none, none, none, none, none], [.int q4], [], q1) rfl trivial ?_
      obtain ⟨q5, hj, h⟩ := zk_bind h
      have J77 : ∀ (_ : True), Zp (77, [some (.ref 0), some (.int x1), some (.int x2), some (.int q3), some (.int q4), none, none, none, none, none, none], [.int q5], [], q1) := by
        intro _
        obtain ⟨w4, h⟩ := zk_ck h
        refine hr.1 10 True _ _ (94, [some (.ref 0), some (.int x1), some (.int x2), some (.int q3), some (.int q4), some (.int q5), some (.int (zg_i q1 1 (zn x1))), some (.int 1), some (.int 7), none, none], [], [], q1) rfl ⟨trivial, (zk_vp w4)⟩ ?_
        obtain ⟨q8, hc, h⟩ := zk_bind h
        refine loop94 q3 q5 (zg_i q1 1 (zn x1)) 10000 q4 1 7 q1 none none x1 x2 q8 hc (fun e4 e7 e8 o9 o10 => ?_)
        clear hc
        refine hr.1 3 True _ _ (189, [some (.ref 0), some (.int x1), some (.int x2), some (.int q3), some (.int e4), some (.int q5), some (.int (zg_i q1 1 (zn x1))), some (.int e7), some (.int e8), o9, o10], [.int (zg_i q8 0 12), .ref 0], [], q8) rfl trivial ?_
        obtain ⟨q9, hc, h⟩ := zk_bind h
        refine hr.2.2.1 _ _ _ _ _ (d + 1) rfl (by omega) (c_g_R_after (l := l) (E := E) (d := d + 1) hc) (fun v S hq => ?_)
        obtain ⟨rfl, rfl⟩ := hq
        clear hc
        refine hr.1 1 True _ _ (195, [some (.ref 0), some (.int x1), some (.int x2), some (.int q3), some (.int e4), some (.int q5), some (.int (zg_i q1 1 (zn x1))), some (.int e7), some (.int e8), o9, o10], [], [], zp_i q8 0 12 q9) rfl trivial ?_
        exact hr.2.2.2 _ _ _ rfl trivial ⟨rfl, (congrArg (fun x => (([], x) : zx_S)) (Option.some.inj h))⟩
      clear h
      have h := hj
      clear hj
      refine hr.2.1 _ (q4 = 0) _ _ rfl (fun c58 => ?_) (fun c58 => ?_)
      · replace h := zk_t h c58
        refine hr.1 1 True _ _ (77, [some (.ref 0), some (.int x1), some (.int x2), some (.int q3), some (.int q4), none, none, none, none, none, none], [.int 0], [], q1) rfl trivial ?_
        replace h := Option.some.inj h
        subst h
        exact J77 trivial
      · replace h := zk_f h c58
        obtain ⟨w5, h⟩ := zk_ck h
        refine hr.1 9 True _ _ (77, [some (.ref 0), some (.int x1), some (.int x2), some (.int q3), some (.int q4), none, none, none, none, none, none], [.int (zg_i q1 1 (zn (x1 - (((zg_l q1 0 13)).toInt32))))], [], q1) rfl ⟨trivial, (zk_vp w5)⟩ ?_
        replace h := Option.some.inj h
        subst h
        exact J77 trivial
    clear h
    have h := hj
    clear hj
    refine hr.2.1 _ (zg_i q1 0 12 ≤ 6) _ _ rfl (fun c46 => ?_) (fun c46 => ?_)
    · replace h := zk_t h c46
      refine hr.1 1 True _ _ (54, [some (.ref 0), some (.int x1), some (.int x2), some (.int q3), none, none, none, none, none, none, none], [.int 0], [], q1) rfl trivial ?_
      replace h := Option.some.inj h
      subst h
      exact J54 trivial
    · replace h := zk_f h c46
      refine hr.1 2 True _ _ (54, [some (.ref 0), some (.int x1), some (.int x2), some (.int q3), none, none, none, none, none, none, none], [.int 1], [], q1) rfl trivial ?_
      replace h := Option.some.inj h
      subst h
      exact J54 trivial
  clear h
  have h := hj
  clear hj
  refine hr.2.1 _ (¬ x1 = 0) _ _ rfl (fun c21 => ?_) (fun c21 => ?_)
  · replace h := zk_t h c21
    obtain ⟨w6, h⟩ := zk_ck h
    refine hr.1 6 True _ _ (36, [some (.ref 0), some (.int x1), some (.int x2), none, none, none, none, none, none, none, none], [.int (zg_i q1 1 (zn (x1 - 1))), .int x1, .ref 0], [], q1) rfl ⟨trivial, (zk_vp w6)⟩ ?_
    replace h := Option.some.inj h
    subst h
    exact J36 trivial
  · replace h := zk_f h c21
    refine hr.1 2 True _ _ (36, [some (.ref 0), some (.int x1), some (.int x2), none, none, none, none, none, none, none, none], [.int 0, .int x1, .ref 0], [], q1) rfl trivial ?_
    replace h := Option.some.inj h
    subst h
    exact J36 trivial
set_option maxRecDepth 100000 in
set_option maxHeartbeats 4000000 in
theorem c_g_R_turn {l : Launch} {E : zx_E} {d : Nat} {x1 : Int32} {D : zx_D} {q : zx_D} (h : g_R_turn x1 D = some q) : zx_MR l E 151 d [.ref 0, .int x1] ([], D) (fun v S => v = none ∧ S = ([], q)) := by
  refine zx_ofR (K := ck_R_turn) rfl (by decide +kernel) rfl ok_R_turn (Nat.le_of_ble_eq_true rfl) (fun Zp hr => ?_)
  show Zp (0, [some (.ref 0), some (.int x1), none, none], [], [], D)
  rw [g_R_turn] at h
  refine hr.1 1 True _ _ (1, [some (.ref 0), some (.int x1), none, none], [.int x1], [], D) rfl trivial ?_
  obtain ⟨q1, hj, h⟩ := zk_bind h
  have J39 : ∀ (_ : True), Zp (39, [some (.ref 0), some (.int x1), none, none], [.long q1], [], D) := by
    intro _
    refine hr.1 4 True _ _ (43, [some (.ref 0), some (.int x1), some (.long q1), none], [.int 2, .int x1, .ref 0], [], D) rfl trivial ?_
    obtain ⟨q2, hj, h⟩ := zk_bind h
    have J57 : ∀ (_ : True), Zp (57, [some (.ref 0), some (.int x1), some (.long q1), none], [.long q2, .ref 0], [], D) := by
      intro _
      refine hr.1 4 True _ _ (63, [some (.ref 0), some (.int x1), some (.long q1), none], [.int 1, .int x1, .ref 0], [], zp_l D 0 16 q2) rfl trivial ?_
      obtain ⟨q3, hj, h⟩ := zk_bind h
      have J77 : ∀ (_ : True), Zp (77, [some (.ref 0), some (.int x1), some (.long q1), none], [.long q3, .ref 0], [], zp_l D 0 16 q2) := by
        intro _
        refine hr.1 3 True _ _ (82, [some (.ref 0), some (.int x1), some (.long q1), none], [.int x1, .ref 0], [], zp_l (zp_l D 0 16 q2) 0 15 q3) rfl trivial ?_
        refine hr.2.1 _ (x1 ≤ 0) _ _ rfl (fun c82 => ?_) (fun c82 => ?_)
        · replace h := zk_t h c82
          refine hr.1 6 True _ _ (104, [some (.ref 0), some (.int x1), some (.long q1), none], [], [], zp_l (zp_l (zp_l (zp_l D 0 16 q2) 0 15 q3) 0 14 (zg_l D 0 14)) 0 13 q1) rfl trivial ?_
          exact hr.2.2.2 _ _ _ rfl trivial ⟨rfl, (congrArg (fun x => (([], x) : zx_S)) (Option.some.inj h))⟩
        · replace h := zk_f h c82
          refine hr.1 7 True _ _ (104, [some (.ref 0), some (.int x1), some (.long q1), none], [], [], zp_l (zp_l (zp_l (zp_l D 0 16 q2) 0 15 q3) 0 14 (zg_l D 0 13)) 0 13 q1) rfl trivial ?_
          exact hr.2.2.2 _ _ _ rfl trivial ⟨rfl, (congrArg (fun x => (([], x) : zx_S)) (Option.some.inj h))⟩
      clear h
      have h := hj
      clear hj
      refine hr.2.1 _ (x1 ≤ 1) _ _ rfl (fun c63 => ?_) (fun c63 => ?_)
      · replace h := zk_t h c63
        refine hr.1 2 True _ _ (77, [some (.ref 0), some (.int x1), some (.long q1), none], [.long (zg_l D 0 15), .ref 0], [], zp_l D 0 16 q2) rfl trivial ?_
        replace h := Option.some.inj h
        subst h
        exact J77 trivial
      · replace h := zk_f h c63
        refine hr.1 3 True _ _ (77, [some (.ref 0), some (.int x1), some (.long q1), none], [.long (zg_l D 0 14), .ref 0], [], zp_l D 0 16 q2) rfl trivial ?_
        replace h := Option.some.inj h
        subst h
        exact J77 trivial
    clear h
    have h := hj
    clear hj
    refine hr.2.1 _ (x1 ≤ 2) _ _ rfl (fun c43 => ?_) (fun c43 => ?_)
    · replace h := zk_t h c43
      refine hr.1 2 True _ _ (57, [some (.ref 0), some (.int x1), some (.long q1), none], [.long (zg_l D 0 16), .ref 0], [], D) rfl trivial ?_
      replace h := Option.some.inj h
      subst h
      exact J57 trivial
    · replace h := zk_f h c43
      refine hr.1 3 True _ _ (57, [some (.ref 0), some (.int x1), some (.long q1), none], [.long (zg_l D 0 15), .ref 0], [], D) rfl trivial ?_
      replace h := Option.some.inj h
      subst h
      exact J57 trivial
  clear h
  have h := hj
  clear hj
  refine hr.2.1 _ (¬ x1 = 0) _ _ rfl (fun c1 => ?_) (fun c1 => ?_)
  · replace h := zk_t h c1
    refine hr.1 2 True _ _ (13, [some (.ref 0), some (.int x1), none, none], [.int 1, .int x1], [], D) rfl trivial ?_
    refine hr.2.1 _ (¬ x1 = 1) _ _ rfl (fun c13 => ?_) (fun c13 => ?_)
    · replace h := zk_t h c13
      refine hr.1 2 True _ _ (25, [some (.ref 0), some (.int x1), none, none], [.int 2, .int x1], [], D) rfl trivial ?_
      refine hr.2.1 _ (¬ x1 = 2) _ _ rfl (fun c25 => ?_) (fun c25 => ?_)
      · replace h := zk_t h c25
        refine hr.1 2 True _ _ (39, [some (.ref 0), some (.int x1), none, none], [.long (zg_l D 0 16)], [], D) rfl trivial ?_
        replace h := Option.some.inj h
        subst h
        exact J39 trivial
      · replace h := zk_f h c25
        refine hr.1 3 True _ _ (39, [some (.ref 0), some (.int x1), none, none], [.long (zg_l D 0 15)], [], D) rfl trivial ?_
        replace h := Option.some.inj h
        subst h
        exact J39 trivial
    · replace h := zk_f h c13
      refine hr.1 3 True _ _ (39, [some (.ref 0), some (.int x1), none, none], [.long (zg_l D 0 14)], [], D) rfl trivial ?_
      replace h := Option.some.inj h
      subst h
      exact J39 trivial
  · replace h := zk_f h c1
    refine hr.1 3 True _ _ (39, [some (.ref 0), some (.int x1), none, none], [.long (zg_l D 0 13)], [], D) rfl trivial ?_
    replace h := Option.some.inj h
    subst h
    exact J39 trivial
set_option maxRecDepth 100000 in
set_option maxHeartbeats 4000000 in
theorem c_g_R_putRepeated {l : Launch} {E : zx_E} {d : Nat} {x1 : Int32} {x2 : Int32} {x3 : Int32} {D : zx_D} {q : zx_D} (h : g_R_putRepeated x1 x2 x3 D = some q) : zx_MR l E 167 (d + 4) [.ref 0, .int x1, .int x2, .int x3] ([], D) (fun v S => v = none ∧ S = ([], q)) := by
  refine zx_ofR (K := ck_R_putRepeated) rfl (by decide +kernel) rfl ok_R_putRepeated (Nat.le_of_ble_eq_true rfl) (fun Zp hr => ?_)
  show Zp (0, [some (.ref 0), some (.int x1), some (.int x2), some (.int x3)], [], [], D)
  rw [g_R_putRepeated] at h
  refine hr.1 10 True _ _ (15, [some (.ref 0), some (.int x1), some (.int x2), some (.int x3)], [.int 1, .int ((6144 + (16 * (zg_i D 0 12))) + x3), .ref 0], [], D) rfl trivial ?_
  obtain ⟨q1, hc, h⟩ := zk_bind h
  refine hr.2.2.1 _ _ _ _ _ (d + 3) rfl (by omega) (c_g_R_put (l := l) (E := E) (d := d + 2) hc) (fun v S hq => ?_)
  obtain ⟨rfl, rfl⟩ := hq
  clear hc
  refine hr.1 6 True _ _ (28, [some (.ref 0), some (.int x1), some (.int x2), some (.int x3)], [.int 1, .int (6528 + (zg_i q1 0 12)), .ref 0], [], q1) rfl trivial ?_
  obtain ⟨q2, hc, h⟩ := zk_bind h
  refine hr.2.2.1 _ _ _ _ _ (d + 3) rfl (by omega) (c_g_R_put (l := l) (E := E) (d := d + 2) hc) (fun v S hq => ?_)
  obtain ⟨rfl, rfl⟩ := hq
  clear hc
  refine hr.1 6 True _ _ (41, [some (.ref 0), some (.int x1), some (.int x2), some (.int x3)], [.int x1, .int (6540 + (zg_i q2 0 12)), .ref 0], [], q2) rfl trivial ?_
  obtain ⟨q3, hj, h⟩ := zk_bind h
  have J49 : ∀ (_ : True), Zp (49, [some (.ref 0), some (.int x1), some (.int x2), some (.int x3)], [.int q3, .int (6540 + (zg_i q2 0 12)), .ref 0], [], q2) := by
    intro _
    obtain ⟨q4, hc, h⟩ := zk_bind h
    refine hr.2.2.1 _ _ _ _ _ (d + 3) rfl (by omega) (c_g_R_put (l := l) (E := E) (d := d + 2) hc) (fun v S hq => ?_)
    obtain ⟨rfl, rfl⟩ := hq
    clear hc
    refine hr.1 1 True _ _ (53, [some (.ref 0), some (.int x1), some (.int x2), some (.int x3)], [.int x1], [], q4) rfl trivial ?_
    obtain ⟨q9, hj, h⟩ := zk_bind h
    have J119 : ∀ (_ : True), Zp (119, [some (.ref 0), some (.int x1), some (.int x2), some (.int x3)], [], [], q9) := by
      intro _
      refine hr.1 2 True _ _ (121, [some (.ref 0), some (.int x1), some (.int x2), some (.int x3)], [.int x1, .ref 0], [], q9) rfl trivial ?_
      obtain ⟨q10, hc, h⟩ := zk_bind h
      refine hr.2.2.1 _ _ _ _ _ (d + 3) rfl (by omega) (c_g_R_turn (l := l) (E := E) (d := d + 3) hc) (fun v S hq => ?_)
      obtain ⟨rfl, rfl⟩ := hq
      clear hc
      refine hr.1 4 True _ _ (130, [some (.ref 0), some (.int x1), some (.int x2), some (.int x3)], [.int x3, .int x2, .int 7092, .ref 0], [], q10) rfl trivial ?_
      obtain ⟨q11, hc, h⟩ := zk_bind h
      refine hr.2.2.1 _ _ _ _ _ (d + 3) rfl (by omega) (c_g_R_putLength (l := l) (E := E) (d := d) hc) (fun v S hq => ?_)
      obtain ⟨rfl, rfl⟩ := hq
      clear hc
      refine hr.1 4 True _ _ (140, [some (.ref 0), some (.int x1), some (.int x2), some (.int x3)], [.int 7, .int (zg_i q11 0 12), .ref 0], [], q11) rfl trivial ?_
      refine hr.2.1 _ (7 ≤ zg_i q11 0 12) _ _ rfl (fun c140 => ?_) (fun c140 => ?_)
      · replace h := zk_t h c140
        refine hr.1 2 True _ _ (153, [some (.ref 0), some (.int x1), some (.int x2), some (.int x3)], [], [], zp_i q11 0 12 11) rfl trivial ?_
        exact hr.2.2.2 _ _ _ rfl trivial ⟨rfl, (congrArg (fun x => (([], x) : zx_S)) (Option.some.inj h))⟩
      · replace h := zk_f h c140
        refine hr.1 3 True _ _ (153, [some (.ref 0), some (.int x1), some (.int x2), some (.int x3)], [], [], zp_i q11 0 12 8) rfl trivial ?_
        exact hr.2.2.2 _ _ _ rfl trivial ⟨rfl, (congrArg (fun x => (([], x) : zx_S)) (Option.some.inj h))⟩
    clear h
    have h := hj
    clear hj
    refine hr.2.1 _ (¬ x1 = 0) _ _ rfl (fun c53 => ?_) (fun c53 => ?_)
    · replace h := zk_t h c53
      refine hr.1 7 True _ _ (88, [some (.ref 0), some (.int x1), some (.int x2), some (.int x3)], [.int 1, .int x1, .int (6552 + (zg_i q4 0 12)), .ref 0], [], q4) rfl trivial ?_
      obtain ⟨q5, hj, h⟩ := zk_bind h
      have J96 : ∀ (_ : True), Zp (96, [some (.ref 0), some (.int x1), some (.int x2), some (.int x3)], [.int q5, .int (6552 + (zg_i q4 0 12)), .ref 0], [], q4) := by
        intro _
        obtain ⟨q6, hc, h⟩ := zk_bind h
        refine hr.2.2.1 _ _ _ _ _ (d + 3) rfl (by omega) (c_g_R_put (l := l) (E := E) (d := d + 2) hc) (fun v S hq => ?_)
        obtain ⟨rfl, rfl⟩ := hq
        clear hc
        refine hr.1 2 True _ _ (101, [some (.ref 0), some (.int x1), some (.int x2), some (.int x3)], [.int 1, .int x1], [], q6) rfl trivial ?_
        refine hr.2.1 _ (x1 ≤ 1) _ _ rfl (fun c101 => ?_) (fun c101 => ?_)
        · replace h := zk_t h c101
          replace h := Option.some.inj h
          subst h
          exact J119 trivial
        · replace h := zk_f h c101
          refine hr.1 8 True _ _ (116, [some (.ref 0), some (.int x1), some (.int x2), some (.int x3)], [.int (x1 - 2), .int (6564 + (zg_i q6 0 12)), .ref 0], [], q6) rfl trivial ?_
          obtain ⟨q7, hc, h⟩ := zk_bind h
          refine hr.2.2.1 _ _ _ _ _ (d + 3) rfl (by omega) (c_g_R_put (l := l) (E := E) (d := d + 2) hc) (fun v S hq => ?_)
          obtain ⟨rfl, rfl⟩ := hq
          clear hc
          replace h := Option.some.inj h
          subst h
          exact J119 trivial
      clear h
      have h := hj
      clear hj
      refine hr.2.1 _ (¬ x1 = 1) _ _ rfl (fun c88 => ?_) (fun c88 => ?_)
      · replace h := zk_t h c88
        refine hr.1 1 True _ _ (96, [some (.ref 0), some (.int x1), some (.int x2), some (.int x3)], [.int 1, .int (6552 + (zg_i q4 0 12)), .ref 0], [], q4) rfl trivial ?_
        replace h := Option.some.inj h
        subst h
        exact J96 trivial
      · replace h := zk_f h c88
        refine hr.1 2 True _ _ (96, [some (.ref 0), some (.int x1), some (.int x2), some (.int x3)], [.int 0, .int (6552 + (zg_i q4 0 12)), .ref 0], [], q4) rfl trivial ?_
        replace h := Option.some.inj h
        subst h
        exact J96 trivial
    · replace h := zk_f h c53
      refine hr.1 10 True _ _ (71, [some (.ref 0), some (.int x1), some (.int x2), some (.int x3)], [.int 1, .int ((6336 + (16 * (zg_i q4 0 12))) + x3), .ref 0], [], q4) rfl trivial ?_
      obtain ⟨q8, hc, h⟩ := zk_bind h
      refine hr.2.2.1 _ _ _ _ _ (d + 3) rfl (by omega) (c_g_R_put (l := l) (E := E) (d := d + 2) hc) (fun v S hq => ?_)
      obtain ⟨rfl, rfl⟩ := hq
      clear hc
      refine hr.1 1 True _ _ (119, [some (.ref 0), some (.int x1), some (.int x2), some (.int x3)], [], [], q8) rfl trivial ?_
      replace h := Option.some.inj h
      subst h
      exact J119 trivial
  clear h
  have h := hj
  clear hj
  refine hr.2.1 _ (¬ x1 = 0) _ _ rfl (fun c41 => ?_) (fun c41 => ?_)
  · replace h := zk_t h c41
    refine hr.1 1 True _ _ (49, [some (.ref 0), some (.int x1), some (.int x2), some (.int x3)], [.int 1, .int (6540 + (zg_i q2 0 12)), .ref 0], [], q2) rfl trivial ?_
    replace h := Option.some.inj h
    subst h
    exact J49 trivial
  · replace h := zk_f h c41
    refine hr.1 2 True _ _ (49, [some (.ref 0), some (.int x1), some (.int x2), some (.int x3)], [.int 0, .int (6540 + (zg_i q2 0 12)), .ref 0], [], q2) rfl trivial ?_
    replace h := Option.some.inj h
    subst h
    exact J49 trivial
set_option maxRecDepth 100000 in
set_option maxHeartbeats 4000000 in
theorem c_g_R_putToken {l : Launch} {E : zx_E} {d : Nat} {x1 : Int32} {x2 : Int32} {D : zx_D} {q : Int32 × zx_D} (h : g_R_putToken x1 x2 D = some q) : zx_MR l E 166 (d + 5) [.ref 0, .int x1, .int x2] ([], D) (fun v S => v = some (.int q.1) ∧ S = ([], q.2)) := by
  refine zx_ofR (K := ck_R_putToken) rfl (by decide +kernel) rfl ok_R_putToken (Nat.le_of_ble_eq_true rfl) (fun Zp hr => ?_)
  show Zp (0, [some (.ref 0), some (.int x1), some (.int x2), none, none, none, none, none, none], [], [], D)
  have loop24 : ∀ (x1 : Int32) (x3 : Int32) (D : zx_D) (k : Nat) (x4 : Int32) (x5 : Int32) (x6 : Int32) (o7 : Option Value) (x2 : Int32) (q : Int32 × Int32), g_R_putToken_24 x1 x3 D k x4 x5 x6 = some q → (∀ (e6 : Int32) (o7 : Option Value), Zp (79, [some (.ref 0), some (.int x1), some (.int x2), some (.int x3), some (.int q.1), some (.int q.2), some (.int e6), o7, none], [], [], D)) → Zp (24, [some (.ref 0), some (.int x1), some (.int x2), some (.int x3), some (.int x4), some (.int x5), some (.int x6), o7, none], [], [], D) := by
    intro x1 x3 D k
    induction k with
    | zero => intro x4 x5 x6 o7 x2 q h hx; exact (zk_no h).elim
    | succ k ih =>
      intro x4 x5 x6 o7 x2 q h hx
      rw [g_R_putToken_24] at h
      refine hr.1 2 True _ _ (27, [some (.ref 0), some (.int x1), some (.int x2), some (.int x3), some (.int x4), some (.int x5), some (.int x6), o7, none], [.int x1, .int x6], [], D) rfl trivial ?_
      refine hr.2.1 _ (x1 < x6) _ _ rfl (fun c27 => ?_) (fun c27 => ?_)
      · replace h := zk_t h c27
        replace h := Option.some.inj h
        subst h
        exact hx x6 o7
      · replace h := zk_f h c27
        refine hr.1 5 True _ _ (36, [some (.ref 0), some (.int x1), some (.int x2), some (.int x3), some (.int x4), some (.int x5), some (.int x6), o7, none], [.int x3, .long ((x6).toInt64), .int x1, .ref 0], [], D) rfl trivial ?_
        obtain ⟨q2, hc, h⟩ := zk_bind h
        refine hr.2.2.1 _ _ _ _ _ (d + 4) rfl (by omega) (c_g_R_alike (l := l) (E := E) (d := d + 4) hc) (fun v S hq => ?_)
        obtain ⟨rfl, rfl⟩ := hq
        clear hc
        refine hr.1 3 True _ _ (45, [some (.ref 0), some (.int x1), some (.int x2), some (.int x3), some (.int x4), some (.int x5), some (.int x6), some (.int q2), none], [.int x4, .int q2], [], D) rfl trivial ?_
        refine hr.2.1 _ (q2 ≤ x4) _ _ rfl (fun c45 => ?_) (fun c45 => ?_)
        · replace h := zk_t h c45
          refine hr.1 4 True _ _ (61, [some (.ref 0), some (.int x1), some (.int x2), some (.int x3), some (.int x4), some (.int x5), some (.int x6), some (.int q2), none], [.int x4, .int q2], [], D) rfl trivial ?_
          refine hr.2.1 _ (q2 ≤ x4) _ _ rfl (fun _ => ?_) (fun z => absurd c45 z)
          refine hr.1 4 True _ _ (24, [some (.ref 0), some (.int x1), some (.int x2), some (.int x3), some (.int x4), some (.int x5), some (.int (x6 + 1)), some (.int q2), none], [], [], D) rfl trivial ?_
          exact ih x4 x5 (x6 + 1)  _ _ _ h hx
        · replace h := zk_f h c45
          refine hr.1 5 True _ _ (61, [some (.ref 0), some (.int x1), some (.int x2), some (.int x3), some (.int x4), some (.int x6), some (.int x6), some (.int q2), none], [.int x4, .int q2], [], D) rfl trivial ?_
          refine hr.2.1 _ (q2 ≤ x4) _ _ rfl (fun z => absurd z c45) (fun _ => ?_)
          refine hr.1 5 True _ _ (24, [some (.ref 0), some (.int x1), some (.int x2), some (.int x3), some (.int q2), some (.int x6), some (.int (x6 + 1)), some (.int q2), none], [], [], D) rfl trivial ?_
          exact ih q2 x6 (x6 + 1)  _ _ _ h hx
  have loop85 : ∀ (x1 : Int32) (x3 : Int32) (x4 : Int32) (x5 : Int32) (D : zx_D) (k : Nat) (x6 : Int32) (x7 : Int32) (x2 : Int32) (q : Int32), g_R_putToken_85 x1 x3 x4 x5 D k x6 x7 = some q → (∀ (e7 : Int32), Zp (133, [some (.ref 0), some (.int x1), some (.int x2), some (.int x3), some (.int x4), some (.int x5), some (.int q), some (.int e7), none], [], [], D)) → Zp (85, [some (.ref 0), some (.int x1), some (.int x2), some (.int x3), some (.int x4), some (.int x5), some (.int x6), some (.int x7), none], [], [], D) := by
    intro x1 x3 x4 x5 D k
    induction k with
    | zero => intro x6 x7 x2 q h hx; exact (zk_no h).elim
    | succ k ih =>
      intro x6 x7 x2 q h hx
      rw [g_R_putToken_85] at h
      refine hr.1 2 True _ _ (88, [some (.ref 0), some (.int x1), some (.int x2), some (.int x3), some (.int x4), some (.int x5), some (.int x6), some (.int x7), none], [.int 4, .int x7], [], D) rfl trivial ?_
      refine hr.2.1 _ (4 ≤ x7) _ _ rfl (fun c88 => ?_) (fun c88 => ?_)
      · replace h := zk_t h c88
        replace h := Option.some.inj h
        subst h
        exact hx x7
      · replace h := zk_f h c88
        refine hr.1 4 True _ _ (96, [some (.ref 0), some (.int x1), some (.int x2), some (.int x3), some (.int x4), some (.int x5), some (.int x6), some (.int x7), none], [.int x7, .ref 0, .int x1, .ref 0], [], D) rfl trivial ?_
        obtain ⟨q4, hc, h⟩ := zk_bind h
        refine hr.2.2.1 _ _ _ _ _ (d + 4) rfl (by omega) (c_g_R_distanceOf (l := l) (E := E) (d := d + 4) hc) (fun v S hq => ?_)
        obtain ⟨rfl, rfl⟩ := hq
        clear hc
        refine hr.1 1 True _ _ (100, [some (.ref 0), some (.int x1), some (.int x2), some (.int x3), some (.int x4), some (.int x5), some (.int x6), some (.int x7), none], [.int x3, .long q4, .int x1, .ref 0], [], D) rfl trivial ?_
        obtain ⟨q5, hc, h⟩ := zk_bind h
        refine hr.2.2.1 _ _ _ _ _ (d + 4) rfl (by omega) (c_g_R_alike (l := l) (E := E) (d := d + 4) hc) (fun v S hq => ?_)
        obtain ⟨rfl, rfl⟩ := hq
        clear hc
        refine hr.1 4 True _ _ (108, [some (.ref 0), some (.int x1), some (.int x2), some (.int x3), some (.int x4), some (.int x5), some (.int x6), some (.int x7), none], [.int x6, .ref 0, .int x1, .ref 0, .int q5], [], D) rfl trivial ?_
        obtain ⟨q6, hc, h⟩ := zk_bind h
        refine hr.2.2.1 _ _ _ _ _ (d + 4) rfl (by omega) (c_g_R_distanceOf (l := l) (E := E) (d := d + 4) hc) (fun v S hq => ?_)
        obtain ⟨rfl, rfl⟩ := hq
        clear hc
        refine hr.1 1 True _ _ (112, [some (.ref 0), some (.int x1), some (.int x2), some (.int x3), some (.int x4), some (.int x5), some (.int x6), some (.int x7), none], [.int x3, .long q6, .int x1, .ref 0, .int q5], [], D) rfl trivial ?_
        obtain ⟨q7, hc, h⟩ := zk_bind h
        refine hr.2.2.1 _ _ _ _ _ (d + 4) rfl (by omega) (c_g_R_alike (l := l) (E := E) (d := d + 4) hc) (fun v S hq => ?_)
        obtain ⟨rfl, rfl⟩ := hq
        clear hc
        refine hr.2.1 _ (q5 ≤ q7) _ _ rfl (fun c115 => ?_) (fun c115 => ?_)
        · replace h := zk_t h c115
          refine hr.1 4 True _ _ (85, [some (.ref 0), some (.int x1), some (.int x2), some (.int x3), some (.int x4), some (.int x5), some (.int x6), some (.int (x7 + 1)), none], [], [], D) rfl trivial ?_
          exact ih x6 (x7 + 1)  _ _ h hx
        · replace h := zk_f h c115
          refine hr.1 5 True _ _ (85, [some (.ref 0), some (.int x1), some (.int x2), some (.int x3), some (.int x4), some (.int x5), some (.int x7), some (.int (x7 + 1)), none], [], [], D) rfl trivial ?_
          exact ih x7 (x7 + 1)  _ _ h hx
  have jump215 : ∀ (x1 : Int32) (x3 : Int32) (x8 : Int32) (D : zx_D) (x2 : Int32) (x4 : Int32) (x5 : Int32) (x6 : Int32) (x7 : Int32), g_R_putToken_215 x1 x3 x8 D = some q → Zp (215, [some (.ref 0), some (.int x1), some (.int x2), some (.int x3), some (.int x4), some (.int x5), some (.int x6), some (.int x7), some (.int x8)], [], [], D) := by
    intro x1 x3 x8 D x2 x4 x5 x6 x7 h
    rw [g_R_putToken_215] at h
    refine hr.1 5 True _ _ (222, [some (.ref 0), some (.int x1), some (.int x2), some (.int x3), some (.int x4), some (.int x5), some (.int x6), some (.int x7), some (.int x8)], [.int x3, .long (zg_l D 0 13), .int x1, .ref 0], [], D) rfl trivial ?_
    obtain ⟨q13, hc, h⟩ := zk_bind h
    refine hr.2.2.1 _ _ _ _ _ (d + 4) rfl (by omega) (c_g_R_alike (l := l) (E := E) (d := d + 4) hc) (fun v S hq => ?_)
    obtain ⟨rfl, rfl⟩ := hq
    clear hc
    refine hr.1 1 True _ _ (226, [some (.ref 0), some (.int x1), some (.int x2), some (.int x3), some (.int x4), some (.int x5), some (.int x6), some (.int x7), some (.int x8)], [.int 1, .int q13], [], D) rfl trivial ?_
    refine hr.2.1 _ (¬ q13 = 1) _ _ rfl (fun c226 => ?_) (fun c226 => ?_)
    · replace h := zk_t h c226
      refine hr.1 3 True _ _ (319, [some (.ref 0), some (.int x1), some (.int x2), some (.int x3), some (.int x4), some (.int x5), some (.int x6), some (.int x7), some (.int x8)], [.int x8, .int x1, .ref 0], [], D) rfl trivial ?_
      obtain ⟨q14, hc, h⟩ := zk_bind h
      refine hr.2.2.1 _ _ _ _ _ (d + 4) rfl (by omega) (c_g_R_putLiteral (l := l) (E := E) (d := d + 2) hc) (fun v S hq => ?_)
      obtain ⟨rfl, rfl⟩ := hq
      clear hc
      refine hr.1 1 True _ _ (323, [some (.ref 0), some (.int x1), some (.int x2), some (.int x3), some (.int x4), some (.int x5), some (.int x6), some (.int x7), some (.int x8)], [.int 1], [], q14) rfl trivial ?_
      exact hr.2.2.2 _ _ _ rfl trivial ⟨(congrArg (fun x => some (Value.int x.1)) (Option.some.inj h)), (congrArg (fun x => (([], x.2) : zx_S)) (Option.some.inj h))⟩
    · replace h := zk_f h c226
      refine hr.1 10 True _ _ (245, [some (.ref 0), some (.int x1), some (.int x2), some (.int x3), some (.int x4), some (.int x5), some (.int x6), some (.int x7), some (.int x8)], [.int 1, .int ((6144 + (16 * (zg_i D 0 12))) + x8), .ref 0], [], D) rfl trivial ?_
      obtain ⟨q15, hc, h⟩ := zk_bind h
      refine hr.2.2.1 _ _ _ _ _ (d + 4) rfl (by omega) (c_g_R_put (l := l) (E := E) (d := d + 3) hc) (fun v S hq => ?_)
      obtain ⟨rfl, rfl⟩ := hq
      clear hc
      refine hr.1 6 True _ _ (258, [some (.ref 0), some (.int x1), some (.int x2), some (.int x3), some (.int x4), some (.int x5), some (.int x6), some (.int x7), some (.int x8)], [.int 1, .int (6528 + (zg_i q15 0 12)), .ref 0], [], q15) rfl trivial ?_
      obtain ⟨q16, hc, h⟩ := zk_bind h
      refine hr.2.2.1 _ _ _ _ _ (d + 4) rfl (by omega) (c_g_R_put (l := l) (E := E) (d := d + 3) hc) (fun v S hq => ?_)
      obtain ⟨rfl, rfl⟩ := hq
      clear hc
      refine hr.1 6 True _ _ (271, [some (.ref 0), some (.int x1), some (.int x2), some (.int x3), some (.int x4), some (.int x5), some (.int x6), some (.int x7), some (.int x8)], [.int 0, .int (6540 + (zg_i q16 0 12)), .ref 0], [], q16) rfl trivial ?_
      obtain ⟨q17, hc, h⟩ := zk_bind h
      refine hr.2.2.1 _ _ _ _ _ (d + 4) rfl (by omega) (c_g_R_put (l := l) (E := E) (d := d + 3) hc) (fun v S hq => ?_)
      obtain ⟨rfl, rfl⟩ := hq
      clear hc
      refine hr.1 10 True _ _ (290, [some (.ref 0), some (.int x1), some (.int x2), some (.int x3), some (.int x4), some (.int x5), some (.int x6), some (.int x7), some (.int x8)], [.int 0, .int ((6336 + (16 * (zg_i q17 0 12))) + x8), .ref 0], [], q17) rfl trivial ?_
      obtain ⟨q18, hc, h⟩ := zk_bind h
      refine hr.2.2.1 _ _ _ _ _ (d + 4) rfl (by omega) (c_g_R_put (l := l) (E := E) (d := d + 3) hc) (fun v S hq => ?_)
      obtain ⟨rfl, rfl⟩ := hq
      clear hc
      refine hr.1 4 True _ _ (300, [some (.ref 0), some (.int x1), some (.int x2), some (.int x3), some (.int x4), some (.int x5), some (.int x6), some (.int x7), some (.int x8)], [.int 7, .int (zg_i q18 0 12), .ref 0], [], q18) rfl trivial ?_
      refine hr.2.1 _ (7 ≤ zg_i q18 0 12) _ _ rfl (fun c300 => ?_) (fun c300 => ?_)
      · replace h := zk_t h c300
        refine hr.1 3 True _ _ (314, [some (.ref 0), some (.int x1), some (.int x2), some (.int x3), some (.int x4), some (.int x5), some (.int x6), some (.int x7), some (.int x8)], [.int 1], [], zp_i q18 0 12 11) rfl trivial ?_
        exact hr.2.2.2 _ _ _ rfl trivial ⟨(congrArg (fun x => some (Value.int x.1)) (Option.some.inj h)), (congrArg (fun x => (([], x.2) : zx_S)) (Option.some.inj h))⟩
      · replace h := zk_f h c300
        refine hr.1 4 True _ _ (314, [some (.ref 0), some (.int x1), some (.int x2), some (.int x3), some (.int x4), some (.int x5), some (.int x6), some (.int x7), some (.int x8)], [.int 1], [], zp_i q18 0 12 9) rfl trivial ?_
        exact hr.2.2.2 _ _ _ rfl trivial ⟨(congrArg (fun x => some (Value.int x.1)) (Option.some.inj h)), (congrArg (fun x => (([], x.2) : zx_S)) (Option.some.inj h))⟩
  have jump182 : ∀ (x1 : Int32) (x3 : Int32) (x4 : Int32) (x5 : Int32) (x8 : Int32) (D : zx_D) (x2 : Int32) (x6 : Int32) (x7 : Int32), g_R_putToken_182 x1 x3 x4 x5 x8 D = some q → Zp (182, [some (.ref 0), some (.int x1), some (.int x2), some (.int x3), some (.int x4), some (.int x5), some (.int x6), some (.int x7), some (.int x8)], [], [], D) := by
    intro x1 x3 x4 x5 x8 D x2 x6 x7 h
    rw [g_R_putToken_182] at h
    refine hr.1 2 True _ _ (185, [some (.ref 0), some (.int x1), some (.int x2), some (.int x3), some (.int x4), some (.int x5), some (.int x6), some (.int x7), some (.int x8)], [.int 2, .int x4], [], D) rfl trivial ?_
    refine hr.2.1 _ (2 < x4) _ _ rfl (fun c185 => ?_) (fun c185 => ?_)
    · replace h := zk_t h c185
      refine hr.1 4 True _ _ (209, [some (.ref 0), some (.int x1), some (.int x2), some (.int x3), some (.int x4), some (.int x5), some (.int x6), some (.int x7), some (.int x8)], [.int x8, .int x4, .int x5, .ref 0], [], D) rfl trivial ?_
      obtain ⟨q12, hc, h⟩ := zk_bind h
      refine hr.2.2.1 _ _ _ _ _ (d + 4) rfl (by omega) (c_g_R_putCopy (l := l) (E := E) (d := d) hc) (fun v S hq => ?_)
      obtain ⟨rfl, rfl⟩ := hq
      clear hc
      refine hr.1 1 True _ _ (214, [some (.ref 0), some (.int x1), some (.int x2), some (.int x3), some (.int x4), some (.int x5), some (.int x6), some (.int x7), some (.int x8)], [.int x4], [], q12) rfl trivial ?_
      exact hr.2.2.2 _ _ _ rfl trivial ⟨(congrArg (fun x => some (Value.int x.1)) (Option.some.inj h)), (congrArg (fun x => (([], x.2) : zx_S)) (Option.some.inj h))⟩
    · replace h := zk_f h c185
      refine hr.1 2 True _ _ (191, [some (.ref 0), some (.int x1), some (.int x2), some (.int x3), some (.int x4), some (.int x5), some (.int x6), some (.int x7), some (.int x8)], [.int 2, .int x4], [], D) rfl trivial ?_
      refine hr.2.1 _ (¬ x4 = 2) _ _ rfl (fun c191 => ?_) (fun c191 => ?_)
      · replace h := zk_t h c191
        exact jump215 x1 x3 x8 D x2 x4 x5 x6 x7 h
      · replace h := zk_f h c191
        refine hr.1 2 True _ _ (199, [some (.ref 0), some (.int x1), some (.int x2), some (.int x3), some (.int x4), some (.int x5), some (.int x6), some (.int x7), some (.int x8)], [.int 128, .int x5], [], D) rfl trivial ?_
        refine hr.2.1 _ (128 < x5) _ _ rfl (fun c199 => ?_) (fun c199 => ?_)
        · replace h := zk_t h c199
          exact jump215 x1 x3 x8 D x2 x4 x5 x6 x7 h
        · replace h := zk_f h c199
          refine hr.1 4 True _ _ (209, [some (.ref 0), some (.int x1), some (.int x2), some (.int x3), some (.int x4), some (.int x5), some (.int x6), some (.int x7), some (.int x8)], [.int x8, .int x4, .int x5, .ref 0], [], D) rfl trivial ?_
          obtain ⟨q19, hc, h⟩ := zk_bind h
          refine hr.2.2.1 _ _ _ _ _ (d + 4) rfl (by omega) (c_g_R_putCopy (l := l) (E := E) (d := d) hc) (fun v S hq => ?_)
          obtain ⟨rfl, rfl⟩ := hq
          clear hc
          refine hr.1 1 True _ _ (214, [some (.ref 0), some (.int x1), some (.int x2), some (.int x3), some (.int x4), some (.int x5), some (.int x6), some (.int x7), some (.int x8)], [.int x4], [], q19) rfl trivial ?_
          exact hr.2.2.2 _ _ _ rfl trivial ⟨(congrArg (fun x => some (Value.int x.1)) (Option.some.inj h)), (congrArg (fun x => (([], x.2) : zx_S)) (Option.some.inj h))⟩
  rw [g_R_putToken] at h
  refine hr.1 2 True _ _ (4, [some (.ref 0), some (.int x1), some (.int x2), none, none, none, none, none, none], [.int 273, .int x2], [], D) rfl trivial ?_
  obtain ⟨q1, hj, h⟩ := zk_bind h
  have J14 : ∀ (_ : True), Zp (14, [some (.ref 0), some (.int x1), some (.int x2), none, none, none, none, none, none], [.int q1], [], D) := by
    intro _
    refine hr.1 7 True _ _ (24, [some (.ref 0), some (.int x1), some (.int x2), some (.int q1), some (.int 0), some (.int 0), some (.int 1), none, none], [], [], D) rfl trivial ?_
    obtain ⟨q3, hc, h⟩ := zk_bind h
    refine loop24 x1 q1 D 10000 0 0 1 none x2 q3 hc (fun e6 o7 => ?_)
    clear hc
    refine hr.1 4 True _ _ (85, [some (.ref 0), some (.int x1), some (.int x2), some (.int q1), some (.int q3.1), some (.int q3.2), some (.int 0), some (.int 1), none], [], [], D) rfl trivial ?_
    obtain ⟨q8, hc, h⟩ := zk_bind h
    refine loop85 x1 q1 q3.1 q3.2 D 10000 0 1 x2 q8 hc (fun e7 => ?_)
    clear hc
    refine hr.1 4 True _ _ (138, [some (.ref 0), some (.int x1), some (.int x2), some (.int q1), some (.int q3.1), some (.int q3.2), some (.int q8), some (.int e7), none], [.int q8, .ref 0, .int x1, .ref 0], [], D) rfl trivial ?_
    obtain ⟨q9, hc, h⟩ := zk_bind h
    refine hr.2.2.1 _ _ _ _ _ (d + 4) rfl (by omega) (c_g_R_distanceOf (l := l) (E := E) (d := d + 4) hc) (fun v S hq => ?_)
    obtain ⟨rfl, rfl⟩ := hq
    clear hc
    refine hr.1 1 True _ _ (142, [some (.ref 0), some (.int x1), some (.int x2), some (.int q1), some (.int q3.1), some (.int q3.2), some (.int q8), some (.int e7), none], [.int q1, .long q9, .int x1, .ref 0], [], D) rfl trivial ?_
    obtain ⟨q10, hc, h⟩ := zk_bind h
    refine hr.2.2.1 _ _ _ _ _ (d + 4) rfl (by omega) (c_g_R_alike (l := l) (E := E) (d := d + 4) hc) (fun v S hq => ?_)
    obtain ⟨rfl, rfl⟩ := hq
    clear hc
    refine hr.1 3 True _ _ (149, [some (.ref 0), some (.int x1), some (.int x2), some (.int q1), some (.int q3.1), some (.int q3.2), some (.int q8), some (.int q10), none], [.int x1, .ref 0], [], D) rfl trivial ?_
    obtain ⟨q11, hc, h⟩ := zk_bind h
    refine hr.2.2.1 _ _ _ _ _ (d + 4) rfl (by omega) (c_g_R_low4 (l := l) (E := E) (d := d + 4) hc) (fun v S hq => ?_)
    obtain ⟨rfl, rfl⟩ := hq
    clear hc
    refine hr.1 3 True _ _ (157, [some (.ref 0), some (.int x1), some (.int x2), some (.int q1), some (.int q3.1), some (.int q3.2), some (.int q8), some (.int q10), some (.int q11)], [.int 1, .int q10], [], D) rfl trivial ?_
    refine hr.2.1 _ (q10 ≤ 1) _ _ rfl (fun c157 => ?_) (fun c157 => ?_)
    · replace h := zk_t h c157
      exact jump182 x1 q1 q3.1 q3.2 q11 D x2 q8 q10 h
    · replace h := zk_f h c157
      refine hr.1 4 True _ _ (166, [some (.ref 0), some (.int x1), some (.int x2), some (.int q1), some (.int q3.1), some (.int q3.2), some (.int q8), some (.int q10), some (.int q11)], [.int q3.1, .int (q10 + 1)], [], D) rfl trivial ?_
      refine hr.2.1 _ (q10 + 1 < q3.1) _ _ rfl (fun c166 => ?_) (fun c166 => ?_)
      · replace h := zk_t h c166
        exact jump182 x1 q1 q3.1 q3.2 q11 D x2 q8 q10 h
      · replace h := zk_f h c166
        refine hr.1 4 True _ _ (176, [some (.ref 0), some (.int x1), some (.int x2), some (.int q1), some (.int q3.1), some (.int q3.2), some (.int q8), some (.int q10), some (.int q11)], [.int q11, .int q10, .int q8, .ref 0], [], D) rfl trivial ?_
        obtain ⟨q20, hc, h⟩ := zk_bind h
        refine hr.2.2.1 _ _ _ _ _ (d + 4) rfl (by omega) (c_g_R_putRepeated (l := l) (E := E) (d := d) hc) (fun v S hq => ?_)
        obtain ⟨rfl, rfl⟩ := hq
        clear hc
        refine hr.1 1 True _ _ (181, [some (.ref 0), some (.int x1), some (.int x2), some (.int q1), some (.int q3.1), some (.int q3.2), some (.int q8), some (.int q10), some (.int q11)], [.int q10], [], q20) rfl trivial ?_
        exact hr.2.2.2 _ _ _ rfl trivial ⟨(congrArg (fun x => some (Value.int x.1)) (Option.some.inj h)), (congrArg (fun x => (([], x.2) : zx_S)) (Option.some.inj h))⟩
  clear h
  have h := hj
  clear hj
  refine hr.2.1 _ (273 ≤ x2) _ _ rfl (fun c4 => ?_) (fun c4 => ?_)
  · replace h := zk_t h c4
    refine hr.1 1 True _ _ (14, [some (.ref 0), some (.int x1), some (.int x2), none, none, none, none, none, none], [.int 273], [], D) rfl trivial ?_
    replace h := Option.some.inj h
    subst h
    exact J14 trivial
  · replace h := zk_f h c4
    refine hr.1 2 True _ _ (14, [some (.ref 0), some (.int x1), some (.int x2), none, none, none, none, none, none], [.int x2], [], D) rfl trivial ?_
    replace h := Option.some.inj h
    subst h
    exact J14 trivial
set_option maxRecDepth 100000 in
set_option maxHeartbeats 4000000 in
theorem c_g_R_squeeze {l : Launch} {E : zx_E} {d : Nat} {x1 : Int32} {x2 : Int32} {D : zx_D} {q : Int32 × zx_D} (h : g_R_squeeze x1 x2 D = some q) : zx_MR l E 176 (d + 6) [.ref 0, .int x1, .int x2] ([], D) (fun v S => v = some (.int q.1) ∧ S = ([], q.2)) := by
  refine zx_ofR (K := ck_R_squeeze) rfl (by decide +kernel) rfl ok_R_squeeze (Nat.le_of_ble_eq_true rfl) (fun Zp hr => ?_)
  show Zp (0, [some (.ref 0), some (.int x1), some (.int x2), none], [], [], D)
  have loop34 : ∀ (x1 : Int32) (x2 : Int32) (k : Nat) (x3 : Int32) (D : zx_D) (q : zx_D), g_R_squeeze_34 x1 x2 k x3 D = some q → (∀ (e3 : Int32), Zp (69, [some (.ref 0), some (.int x1), some (.int x2), some (.int e3)], [], [], q)) → Zp (34, [some (.ref 0), some (.int x1), some (.int x2), some (.int x3)], [], [], D) := by
    intro x1 x2 k
    induction k with
    | zero => intro x3 D q h hx; exact (zk_no h).elim
    | succ k ih =>
      intro x3 D q h hx
      rw [g_R_squeeze_34] at h
      refine hr.1 2 True _ _ (36, [some (.ref 0), some (.int x1), some (.int x2), some (.int x3)], [.int 5, .int x3], [], D) rfl trivial ?_
      refine hr.2.1 _ (5 ≤ x3) _ _ rfl (fun c36 => ?_) (fun c36 => ?_)
      · replace h := zk_t h c36
        replace h := Option.some.inj h
        subst h
        exact hx x3
      · replace h := zk_f h c36
        refine hr.1 2 True _ _ (43, [some (.ref 0), some (.int x1), some (.int x2), some (.int x3)], [.int (zg_i D 0 27)], [], D) rfl trivial ?_
        refine hr.2.1 _ (¬ zg_i D 0 27 = 0) _ _ rfl (fun c43 => ?_) (fun c43 => ?_)
        · replace h := zk_t h c43
          replace h := Option.some.inj h
          subst h
          exact hx x3
        · replace h := zk_f h c43
          obtain ⟨w3, h⟩ := zk_ck h
          refine hr.1 13 True _ _ (34, [some (.ref 0), some (.int x1), some (.int x2), some (.int (x3 + 1))], [], [], zp_i (zp_i D 6 (zn x3) 0) 0 25 ((zg_i D 0 25) + 1)) rfl ⟨trivial, (zk_vp w3)⟩ ?_
          exact ih (x3 + 1) (zp_i (zp_i D 6 (zn x3) 0) 0 25 ((zg_i D 0 25) + 1)) _ h hx
  have loop71 : ∀ (x1 : Int32) (x2 : Int32) (k : Nat) (x3 : Int32) (D : zx_D) (q : zx_D), g_R_squeeze_71 x1 x2 k x3 D = some q → (∀ (e3 : Int32), Zp (99, [some (.ref 0), some (.int x1), some (.int x2), some (.int e3)], [], [], q)) → Zp (71, [some (.ref 0), some (.int x1), some (.int x2), some (.int x3)], [], [], D) := by
    intro x1 x2 k
    induction k with
    | zero => intro x3 D q h hx; exact (zk_no h).elim
    | succ k ih =>
      intro x3 D q h hx
      rw [g_R_squeeze_71] at h
      refine hr.1 2 True _ _ (73, [some (.ref 0), some (.int x1), some (.int x2), some (.int x3)], [.int x2, .int x3], [], D) rfl trivial ?_
      refine hr.2.1 _ (x2 ≤ x3) _ _ rfl (fun c73 => ?_) (fun c73 => ?_)
      · replace h := zk_t h c73
        replace h := Option.some.inj h
        subst h
        exact hx x3
      · replace h := zk_f h c73
        refine hr.1 2 True _ _ (80, [some (.ref 0), some (.int x1), some (.int x2), some (.int x3)], [.int (zg_i D 0 27)], [], D) rfl trivial ?_
        refine hr.2.1 _ (¬ zg_i D 0 27 = 0) _ _ rfl (fun c80 => ?_) (fun c80 => ?_)
        · replace h := zk_t h c80
          replace h := Option.some.inj h
          subst h
          exact hx x3
        · replace h := zk_f h c80
          refine hr.1 8 True _ _ (91, [some (.ref 0), some (.int x1), some (.int x2), some (.int x3)], [.int (x2 - x3), .int (x1 + x3), .ref 0, .int x3], [], D) rfl trivial ?_
          obtain ⟨q3, hc, h⟩ := zk_bind h
          refine hr.2.2.1 _ _ _ _ _ (d + 5) rfl (by omega) (c_g_R_putToken (l := l) (E := E) (d := d) hc) (fun v S hq => ?_)
          obtain ⟨rfl, rfl⟩ := hq
          clear hc
          refine hr.1 3 True _ _ (71, [some (.ref 0), some (.int x1), some (.int x2), some (.int (x3 + q3.1))], [], [], q3.2) rfl trivial ?_
          exact ih (x3 + q3.1) q3.2 _ h hx
  rw [g_R_squeeze] at h
  refine hr.1 12 True _ _ (21, [some (.ref 0), some (.int x1), some (.int x2), none], [.int 6, .int x2, .ref 0], [], zp_i (zp_i (zp_l D 0 17 4294967295) 0 25 0) 0 26 x2) rfl trivial ?_
  obtain ⟨q1, hj, h⟩ := zk_bind h
  have J29 : ∀ (_ : True), Zp (29, [some (.ref 0), some (.int x1), some (.int x2), none], [.int q1, .ref 0], [], zp_i (zp_i (zp_l D 0 17 4294967295) 0 25 0) 0 26 x2) := by
    intro _
    obtain ⟨w4, h⟩ := zk_ck h
    refine hr.1 3 True _ _ (34, [some (.ref 0), some (.int x1), some (.int x2), some (.int 0)], [], [], zp_i (zp_i (zp_i (zp_l D 0 17 4294967295) 0 25 0) 0 26 x2) 0 27 q1) rfl ⟨trivial, w4⟩ ?_
    obtain ⟨q2, hc, h⟩ := zk_bind h
    refine loop34 x1 x2 10000 0 (zp_i (zp_i (zp_i (zp_l D 0 17 4294967295) 0 25 0) 0 26 x2) 0 27 q1) q2 hc (fun e3 => ?_)
    clear hc
    refine hr.1 2 True _ _ (71, [some (.ref 0), some (.int x1), some (.int x2), some (.int 0)], [], [], q2) rfl trivial ?_
    obtain ⟨q4, hc, h⟩ := zk_bind h
    refine loop71 x1 x2 10000 0 q2 q4 hc (fun e3 => ?_)
    clear hc
    refine hr.1 2 True _ _ (103, [some (.ref 0), some (.int x1), some (.int x2), some (.int e3)], [.int (zg_i q4 0 27)], [], q4) rfl trivial ?_
    refine hr.2.1 _ (¬ zg_i q4 0 27 = 0) _ _ rfl (fun c103 => ?_) (fun c103 => ?_)
    · replace h := zk_t h c103
      refine hr.1 2 True _ _ (114, [some (.ref 0), some (.int x1), some (.int x2), some (.int e3)], [.int (zg_i q4 0 27)], [], q4) rfl trivial ?_
      refine hr.2.1 _ (¬ zg_i q4 0 27 = 0) _ _ rfl (fun _ => ?_) (fun z => absurd c103 z)
      refine hr.1 1 True _ _ (122, [some (.ref 0), some (.int x1), some (.int x2), some (.int e3)], [.int 0], [], q4) rfl trivial ?_
      exact hr.2.2.2 _ _ _ rfl (Or.inl rfl) ⟨(congrArg (fun x => some (Value.int x.1)) (Option.some.inj h)), (congrArg (fun x => (([], x.2) : zx_S)) (Option.some.inj h))⟩
    · replace h := zk_f h c103
      refine hr.1 1 True _ _ (107, [some (.ref 0), some (.int x1), some (.int x2), some (.int e3)], [.ref 0], [], q4) rfl trivial ?_
      obtain ⟨q5, hc, h⟩ := zk_bind h
      refine hr.2.2.1 _ _ _ _ _ (d + 5) rfl (by omega) (c_g_R_shiftOut (l := l) (E := E) (d := d + 5) hc) (fun v S hq => ?_)
      obtain ⟨rfl, rfl⟩ := hq
      clear hc
      refine hr.1 2 True _ _ (114, [some (.ref 0), some (.int x1), some (.int x2), some (.int e3)], [.int (zg_i q5 0 27)], [], q5) rfl trivial ?_
      refine hr.2.1 _ (¬ zg_i q5 0 27 = 0) _ _ rfl (fun c114 => ?_) (fun c114 => ?_)
      · replace h := zk_t h c114
        refine hr.1 1 True _ _ (122, [some (.ref 0), some (.int x1), some (.int x2), some (.int e3)], [.int 0], [], q5) rfl trivial ?_
        exact hr.2.2.2 _ _ _ rfl (Or.inl rfl) ⟨(congrArg (fun x => some (Value.int x.1)) (Option.some.inj h)), (congrArg (fun x => (([], x.2) : zx_S)) (Option.some.inj h))⟩
      · replace h := zk_f h c114
        refine hr.1 2 True _ _ (122, [some (.ref 0), some (.int x1), some (.int x2), some (.int e3)], [.int 1], [], q5) rfl trivial ?_
        exact hr.2.2.2 _ _ _ rfl (Or.inr rfl) ⟨(congrArg (fun x => some (Value.int x.1)) (Option.some.inj h)), (congrArg (fun x => (([], x.2) : zx_S)) (Option.some.inj h))⟩
  clear h
  have h := hj
  clear hj
  refine hr.2.1 _ (6 ≤ x2) _ _ rfl (fun c21 => ?_) (fun c21 => ?_)
  · replace h := zk_t h c21
    refine hr.1 1 True _ _ (29, [some (.ref 0), some (.int x1), some (.int x2), none], [.int 0, .ref 0], [], zp_i (zp_i (zp_l D 0 17 4294967295) 0 25 0) 0 26 x2) rfl trivial ?_
    replace h := Option.some.inj h
    subst h
    exact J29 trivial
  · replace h := zk_f h c21
    refine hr.1 2 True _ _ (29, [some (.ref 0), some (.int x1), some (.int x2), none], [.int 1, .ref 0], [], zp_i (zp_i (zp_l D 0 17 4294967295) 0 25 0) 0 26 x2) rfl trivial ?_
    replace h := Option.some.inj h
    subst h
    exact J29 trivial
set_option maxRecDepth 100000 in
set_option maxHeartbeats 4000000 in
theorem c_g_R_writeChunks {l : Launch} {E : zx_E} {d : Nat} {x1 : Int32} {x2 : Int32} {D : zx_D} {q : zx_D} (h : g_R_writeChunks x1 x2 D = some q) : zx_MR l E 177 (d + 7) [.ref 0, .int x1, .int x2] ([], D) (fun v S => v = none ∧ S = ([], q)) := by
  refine zx_ofR (K := ck_R_writeChunks) rfl (by decide +kernel) rfl ok_R_writeChunks (Nat.le_of_ble_eq_true rfl) (fun Zp hr => ?_)
  show Zp (0, [some (.ref 0), some (.int x1), some (.int x2), none, none, none, none], [], [], D)
  have loop256 : ∀ (x1 : Int32) (x2 : Int32) (x3 : Int32) (x4 : Int32) (x5 : Int32) (k : Nat) (x6 : Int32) (D : zx_D) (q : zx_D), g_R_writeChunks_256 x1 x2 x3 x4 x5 k x6 D = some q → (∀ (e6 : Int32), Zp (283, [some (.ref 0), some (.int x1), some (.int x2), some (.int x3), some (.int x4), some (.int x5), some (.int e6)], [], [], q)) → Zp (256, [some (.ref 0), some (.int x1), some (.int x2), some (.int x3), some (.int x4), some (.int x5), some (.int x6)], [], [], D) := by
    intro x1 x2 x3 x4 x5 k
    induction k with
    | zero => intro x6 D q h hx; exact (zk_no h).elim
    | succ k ih =>
      intro x6 D q h hx
      rw [g_R_writeChunks_256] at h
      refine hr.1 2 True _ _ (260, [some (.ref 0), some (.int x1), some (.int x2), some (.int x3), some (.int x4), some (.int x5), some (.int x6)], [.int x5, .int x6], [], D) rfl trivial ?_
      refine hr.2.1 _ (x5 ≤ x6) _ _ rfl (fun c260 => ?_) (fun c260 => ?_)
      · replace h := zk_t h c260
        replace h := Option.some.inj h
        subst h
        exact hx x6
      · replace h := zk_f h c260
        obtain ⟨w3, h⟩ := zk_ck h
        refine hr.1 7 True _ _ (274, [some (.ref 0), some (.int x1), some (.int x2), some (.int x3), some (.int x4), some (.int x5), some (.int x6)], [.int (zg_i D 1 (zn (x4 + x6))), .ref 0], [], D) rfl ⟨trivial, (zk_vp w3)⟩ ?_
        obtain ⟨q9, hc, h⟩ := zk_bind h
        refine hr.2.2.1 _ _ _ _ _ (d + 6) rfl (by omega) (c_g_R_write (l := l) (E := E) (d := d + 6) hc) (fun v S hq => ?_)
        obtain ⟨rfl, rfl⟩ := hq
        clear hc
        refine hr.1 2 True _ _ (256, [some (.ref 0), some (.int x1), some (.int x2), some (.int x3), some (.int x4), some (.int x5), some (.int (x6 + 1))], [], [], q9) rfl trivial ?_
        exact ih (x6 + 1) q9 _ h hx
  have loop185 : ∀ (x1 : Int32) (x2 : Int32) (x4 : Int32) (k : Nat) (x6 : Int32) (D : zx_D) (x3 : Int32) (x5 : Int32) (q : zx_D), g_R_writeChunks_185 x1 x2 x4 k x6 D = some q → (∀ (e6 : Int32), Zp (211, [some (.ref 0), some (.int x1), some (.int x2), some (.int x3), some (.int x4), some (.int x5), some (.int e6)], [], [], q)) → Zp (185, [some (.ref 0), some (.int x1), some (.int x2), some (.int x3), some (.int x4), some (.int x5), some (.int x6)], [], [], D) := by
    intro x1 x2 x4 k
    induction k with
    | zero => intro x6 D x3 x5 q h hx; exact (zk_no h).elim
    | succ k ih =>
      intro x6 D x3 x5 q h hx
      rw [g_R_writeChunks_185] at h
      refine hr.1 3 True _ _ (191, [some (.ref 0), some (.int x1), some (.int x2), some (.int x3), some (.int x4), some (.int x5), some (.int x6)], [.int (zg_i D 0 25), .int x6], [], D) rfl trivial ?_
      refine hr.2.1 _ (zg_i D 0 25 ≤ x6) _ _ rfl (fun c191 => ?_) (fun c191 => ?_)
      · replace h := zk_t h c191
        replace h := Option.some.inj h
        subst h
        exact hx x6
      · replace h := zk_f h c191
        obtain ⟨w4, h⟩ := zk_ck h
        refine hr.1 5 True _ _ (202, [some (.ref 0), some (.int x1), some (.int x2), some (.int x3), some (.int x4), some (.int x5), some (.int x6)], [.int (zg_i D 6 (zn x6)), .ref 0], [], D) rfl ⟨trivial, (zk_vp w4)⟩ ?_
        obtain ⟨q19, hc, h⟩ := zk_bind h
        refine hr.2.2.1 _ _ _ _ _ (d + 6) rfl (by omega) (c_g_R_write (l := l) (E := E) (d := d + 6) hc) (fun v S hq => ?_)
        obtain ⟨rfl, rfl⟩ := hq
        clear hc
        refine hr.1 2 True _ _ (185, [some (.ref 0), some (.int x1), some (.int x2), some (.int x3), some (.int x4), some (.int x5), some (.int (x6 + 1))], [], [], q19) rfl trivial ?_
        exact ih (x6 + 1) q19 _ _ _ h hx
  have loop31 : ∀ (x1 : Int32) (x2 : Int32) (k : Nat) (x3 : Int32) (x4 : Int32) (D : zx_D) (o5 : Option Value) (o6 : Option Value) (q : zx_D), g_R_writeChunks_31 x1 x2 k x3 x4 D = some q → (∀ (e3 : Int32) (e4 : Int32) (o5 : Option Value) (o6 : Option Value), Zp (302, [some (.ref 0), some (.int x1), some (.int x2), some (.int e3), some (.int e4), o5, o6], [], [], q)) → Zp (31, [some (.ref 0), some (.int x1), some (.int x2), some (.int x3), some (.int x4), o5, o6], [], [], D) := by
    intro x1 x2 k
    induction k with
    | zero => intro x3 x4 D o5 o6 q h hx; exact (zk_no h).elim
    | succ k ih =>
      intro x3 x4 D o5 o6 q h hx
      rw [g_R_writeChunks_31] at h
      refine hr.1 3 True _ _ (37, [some (.ref 0), some (.int x1), some (.int x2), some (.int x3), some (.int x4), o5, o6], [.int (zg_i D 0 1), .int x4], [], D) rfl trivial ?_
      refine hr.2.1 _ (zg_i D 0 1 ≤ x4) _ _ rfl (fun c37 => ?_) (fun c37 => ?_)
      · replace h := zk_t h c37
        replace h := Option.some.inj h
        subst h
        exact hx x3 x4 o5 o6
      · replace h := zk_f h c37
        refine hr.1 5 True _ _ (48, [some (.ref 0), some (.int x1), some (.int x2), some (.int x3), some (.int x4), o5, o6], [.int x2, .int ((zg_i D 0 1) - x4)], [], D) rfl trivial ?_
        obtain ⟨q1, hj, h⟩ := zk_bind h
        have J62 : ∀ (_ : True), Zp (62, [some (.ref 0), some (.int x1), some (.int x2), some (.int x3), some (.int x4), o5, o6], [.int q1], [], D) := by
          intro _
          refine hr.1 3 True _ _ (66, [some (.ref 0), some (.int x1), some (.int x2), some (.int x3), some (.int x4), some (.int q1), o6], [.int 1, .int x3], [], D) rfl trivial ?_
          obtain ⟨q3, hj, h⟩ := zk_bind h
          have J73 : ∀ (_ : True), Zp (73, [some (.ref 0), some (.int x1), some (.int x2), some (.int x3), some (.int x4), some (.int q1), o6], [], [], q3) := by
            intro _
            refine hr.1 3 True _ _ (78, [some (.ref 0), some (.int x1), some (.int x2), some (.int x3), some (.int x4), some (.int q1), o6], [.int q1, .int x4, .ref 0], [], q3) rfl trivial ?_
            obtain ⟨q4, hc, h⟩ := zk_bind h
            refine hr.2.2.1 _ _ _ _ _ (d + 6) rfl (by omega) (c_g_R_squeeze (l := l) (E := E) (d := d) hc) (fun v S hq => ?_)
            obtain ⟨rfl, rfl⟩ := hq
            clear hc
            refine hr.2.1 _ (q4.1 = 0) _ _ rfl (fun c81 => ?_) (fun c81 => ?_)
            · replace h := zk_t h c81
              refine hr.1 2 True _ _ (219, [some (.ref 0), some (.int x1), some (.int x2), some (.int x3), some (.int x4), some (.int q1), o6], [.int x4, .ref 0], [], q4.2) rfl trivial ?_
              obtain ⟨q5, hj, h⟩ := zk_bind h
              have J227 : ∀ (_ : True), Zp (227, [some (.ref 0), some (.int x1), some (.int x2), some (.int x3), some (.int x4), some (.int q1), o6], [.int q5, .ref 0], [], q4.2) := by
                intro _
                obtain ⟨q6, hc, h⟩ := zk_bind h
                refine hr.2.2.1 _ _ _ _ _ (d + 6) rfl (by omega) (c_g_R_write (l := l) (E := E) (d := d + 6) hc) (fun v S hq => ?_)
                obtain ⟨rfl, rfl⟩ := hq
                clear hc
                refine hr.1 6 True _ _ (238, [some (.ref 0), some (.int x1), some (.int x2), some (.int x3), some (.int x4), some (.int q1), o6], [.int (zo_shr (q1 - 1) 8), .ref 0], [], q6) rfl trivial ?_
                obtain ⟨q7, hc, h⟩ := zk_bind h
                refine hr.2.2.1 _ _ _ _ _ (d + 6) rfl (by omega) (c_g_R_write (l := l) (E := E) (d := d + 6) hc) (fun v S hq => ?_)
                obtain ⟨rfl, rfl⟩ := hq
                clear hc
                refine hr.1 6 True _ _ (250, [some (.ref 0), some (.int x1), some (.int x2), some (.int x3), some (.int x4), some (.int q1), o6], [.int ((q1 - 1) &&& 255), .ref 0], [], q7) rfl trivial ?_
                obtain ⟨q8, hc, h⟩ := zk_bind h
                refine hr.2.2.1 _ _ _ _ _ (d + 6) rfl (by omega) (c_g_R_write (l := l) (E := E) (d := d + 6) hc) (fun v S hq => ?_)
                obtain ⟨rfl, rfl⟩ := hq
                clear hc
                refine hr.1 2 True _ _ (256, [some (.ref 0), some (.int x1), some (.int x2), some (.int x3), some (.int x4), some (.int q1), some (.int 0)], [], [], q8) rfl trivial ?_
                obtain ⟨q10, hc, h⟩ := zk_bind h
                refine loop256 x1 x2 x3 x4 q1 10000 0 q8 q10 hc (fun e6 => ?_)
                clear hc
                refine hr.1 1 True _ _ (284, [some (.ref 0), some (.int x1), some (.int x2), some (.int x3), some (.int x4), some (.int q1), some (.int e6)], [.int x3], [], q10) rfl trivial ?_
                refine hr.2.1 _ (¬ x3 = 0) _ _ rfl (fun c284 => ?_) (fun c284 => ?_)
                · replace h := zk_t h c284
                  refine hr.1 7 True _ _ (31, [some (.ref 0), some (.int x1), some (.int x2), some (.int 2), some (.int (x4 + x2)), some (.int q1), some (.int e6)], [], [], q10) rfl trivial ?_
                  exact ih 2 (x4 + x2) q10 _ _ _ h hx
                · replace h := zk_f h c284
                  refine hr.1 8 True _ _ (31, [some (.ref 0), some (.int x1), some (.int x2), some (.int 0), some (.int (x4 + x2)), some (.int q1), some (.int e6)], [], [], q10) rfl trivial ?_
                  exact ih 0 (x4 + x2) q10 _ _ _ h hx
              clear h
              have h := hj
              clear hj
              refine hr.2.1 _ (¬ x4 = 0) _ _ rfl (fun c219 => ?_) (fun c219 => ?_)
              · replace h := zk_t h c219
                refine hr.1 1 True _ _ (227, [some (.ref 0), some (.int x1), some (.int x2), some (.int x3), some (.int x4), some (.int q1), o6], [.int 2, .ref 0], [], q4.2) rfl trivial ?_
                replace h := Option.some.inj h
                subst h
                exact J227 trivial
              · replace h := zk_f h c219
                refine hr.1 2 True _ _ (227, [some (.ref 0), some (.int x1), some (.int x2), some (.int x3), some (.int x4), some (.int q1), o6], [.int 1, .ref 0], [], q4.2) rfl trivial ?_
                replace h := Option.some.inj h
                subst h
                exact J227 trivial
            · replace h := zk_f h c81
              refine hr.1 2 True _ _ (87, [some (.ref 0), some (.int x1), some (.int x2), some (.int x3), some (.int x4), some (.int q1), o6], [.int x4, .ref 0], [], q4.2) rfl trivial ?_
              obtain ⟨q11, hj, h⟩ := zk_bind h
              have J120 : ∀ (_ : True), Zp (120, [some (.ref 0), some (.int x1), some (.int x2), some (.int x3), some (.int x4), some (.int q1), o6], [.int q11, .ref 0], [], q4.2) := by
                intro _
                obtain ⟨q12, hc, h⟩ := zk_bind h
                refine hr.2.2.1 _ _ _ _ _ (d + 6) rfl (by omega) (c_g_R_write (l := l) (E := E) (d := d + 6) hc) (fun v S hq => ?_)
                obtain ⟨rfl, rfl⟩ := hq
                clear hc
                refine hr.1 6 True _ _ (131, [some (.ref 0), some (.int x1), some (.int x2), some (.int x3), some (.int x4), some (.int q1), o6], [.int (zo_shr (q1 - 1) 8), .ref 0], [], q12) rfl trivial ?_
                obtain ⟨q13, hc, h⟩ := zk_bind h
                refine hr.2.2.1 _ _ _ _ _ (d + 6) rfl (by omega) (c_g_R_write (l := l) (E := E) (d := d + 6) hc) (fun v S hq => ?_)
                obtain ⟨rfl, rfl⟩ := hq
                clear hc
                refine hr.1 6 True _ _ (143, [some (.ref 0), some (.int x1), some (.int x2), some (.int x3), some (.int x4), some (.int q1), o6], [.int ((q1 - 1) &&& 255), .ref 0], [], q13) rfl trivial ?_
                obtain ⟨q14, hc, h⟩ := zk_bind h
                refine hr.2.2.1 _ _ _ _ _ (d + 6) rfl (by omega) (c_g_R_write (l := l) (E := E) (d := d + 6) hc) (fun v S hq => ?_)
                obtain ⟨rfl, rfl⟩ := hq
                clear hc
                refine hr.1 7 True _ _ (156, [some (.ref 0), some (.int x1), some (.int x2), some (.int x3), some (.int x4), some (.int q1), o6], [.int (zo_shr ((zg_i q14 0 25) - 1) 8), .ref 0], [], q14) rfl trivial ?_
                obtain ⟨q15, hc, h⟩ := zk_bind h
                refine hr.2.2.1 _ _ _ _ _ (d + 6) rfl (by omega) (c_g_R_write (l := l) (E := E) (d := d + 6) hc) (fun v S hq => ?_)
                obtain ⟨rfl, rfl⟩ := hq
                clear hc
                refine hr.1 7 True _ _ (170, [some (.ref 0), some (.int x1), some (.int x2), some (.int x3), some (.int x4), some (.int q1), o6], [.int (((zg_i q15 0 25) - 1) &&& 255), .ref 0], [], q15) rfl trivial ?_
                obtain ⟨q16, hc, h⟩ := zk_bind h
                refine hr.2.2.1 _ _ _ _ _ (d + 6) rfl (by omega) (c_g_R_write (l := l) (E := E) (d := d + 6) hc) (fun v S hq => ?_)
                obtain ⟨rfl, rfl⟩ := hq
                clear hc
                refine hr.1 1 True _ _ (174, [some (.ref 0), some (.int x1), some (.int x2), some (.int x3), some (.int x4), some (.int q1), o6], [.int x3], [], q16) rfl trivial ?_
                obtain ⟨q18, hj, h⟩ := zk_bind h
                have J182 : ∀ (_ : True), Zp (182, [some (.ref 0), some (.int x1), some (.int x2), some (.int x3), some (.int x4), some (.int q1), o6], [], [], q18) := by
                  intro _
                  refine hr.1 2 True _ _ (185, [some (.ref 0), some (.int x1), some (.int x2), some (.int x3), some (.int x4), some (.int q1), some (.int 0)], [], [], q18) rfl trivial ?_
                  obtain ⟨q20, hc, h⟩ := zk_bind h
                  refine loop185 x1 x2 x4 10000 0 q18 x3 q1 q20 hc (fun e6 => ?_)
                  clear hc
                  refine hr.1 8 True _ _ (31, [some (.ref 0), some (.int x1), some (.int x2), some (.int 1), some (.int (x4 + x2)), some (.int q1), some (.int e6)], [], [], q20) rfl trivial ?_
                  exact ih 1 (x4 + x2) q20 _ _ _ h hx
                clear h
                have h := hj
                clear hj
                refine hr.2.1 _ (¬ x3 = 0) _ _ rfl (fun c174 => ?_) (fun c174 => ?_)
                · replace h := zk_t h c174
                  replace h := Option.some.inj h
                  subst h
                  exact J182 trivial
                · replace h := zk_f h c174
                  refine hr.1 2 True _ _ (179, [some (.ref 0), some (.int x1), some (.int x2), some (.int x3), some (.int x4), some (.int q1), o6], [.int x1, .ref 0], [], q16) rfl trivial ?_
                  obtain ⟨q17, hc, h⟩ := zk_bind h
                  refine hr.2.2.1 _ _ _ _ _ (d + 6) rfl (by omega) (c_g_R_write (l := l) (E := E) (d := d + 6) hc) (fun v S hq => ?_)
                  obtain ⟨rfl, rfl⟩ := hq
                  clear hc
                  replace h := Option.some.inj h
                  subst h
                  exact J182 trivial
              clear h
              have h := hj
              clear hj
              refine hr.2.1 _ (¬ x4 = 0) _ _ rfl (fun c87 => ?_) (fun c87 => ?_)
              · replace h := zk_t h c87
                refine hr.1 1 True _ _ (97, [some (.ref 0), some (.int x1), some (.int x2), some (.int x3), some (.int x4), some (.int q1), o6], [.int x3, .ref 0], [], q4.2) rfl trivial ?_
                refine hr.2.1 _ (¬ x3 = 0) _ _ rfl (fun c97 => ?_) (fun c97 => ?_)
                · replace h := zk_t h c97
                  refine hr.1 2 True _ _ (108, [some (.ref 0), some (.int x1), some (.int x2), some (.int x3), some (.int x4), some (.int q1), o6], [.int 1, .int x3, .ref 0], [], q4.2) rfl trivial ?_
                  refine hr.2.1 _ (¬ x3 = 1) _ _ rfl (fun c108 => ?_) (fun c108 => ?_)
                  · replace h := zk_t h c108
                    refine hr.1 1 True _ _ (120, [some (.ref 0), some (.int x1), some (.int x2), some (.int x3), some (.int x4), some (.int q1), o6], [.int 160, .ref 0], [], q4.2) rfl trivial ?_
                    replace h := Option.some.inj h
                    subst h
                    exact J120 trivial
                  · replace h := zk_f h c108
                    refine hr.1 2 True _ _ (120, [some (.ref 0), some (.int x1), some (.int x2), some (.int x3), some (.int x4), some (.int q1), o6], [.int 128, .ref 0], [], q4.2) rfl trivial ?_
                    replace h := Option.some.inj h
                    subst h
                    exact J120 trivial
                · replace h := zk_f h c97
                  refine hr.1 2 True _ _ (120, [some (.ref 0), some (.int x1), some (.int x2), some (.int x3), some (.int x4), some (.int q1), o6], [.int 192, .ref 0], [], q4.2) rfl trivial ?_
                  replace h := Option.some.inj h
                  subst h
                  exact J120 trivial
              · replace h := zk_f h c87
                refine hr.1 2 True _ _ (120, [some (.ref 0), some (.int x1), some (.int x2), some (.int x3), some (.int x4), some (.int q1), o6], [.int 224, .ref 0], [], q4.2) rfl trivial ?_
                replace h := Option.some.inj h
                subst h
                exact J120 trivial
          clear h
          have h := hj
          clear hj
          refine hr.2.1 _ (x3 = 1) _ _ rfl (fun c66 => ?_) (fun c66 => ?_)
          · replace h := zk_t h c66
            replace h := Option.some.inj h
            subst h
            exact J73 trivial
          · replace h := zk_f h c66
            refine hr.1 1 True _ _ (70, [some (.ref 0), some (.int x1), some (.int x2), some (.int x3), some (.int x4), some (.int q1), o6], [.ref 0], [], D) rfl trivial ?_
            obtain ⟨q2, hc, h⟩ := zk_bind h
            refine hr.2.2.1 _ _ _ _ _ (d + 6) rfl (by omega) (c_g_R_anew (l := l) (E := E) (d := d + 6) hc) (fun v S hq => ?_)
            obtain ⟨rfl, rfl⟩ := hq
            clear hc
            replace h := Option.some.inj h
            subst h
            exact J73 trivial
        clear h
        have h := hj
        clear hj
        refine hr.2.1 _ (x2 ≤ (zg_i D 0 1) - x4) _ _ rfl (fun c48 => ?_) (fun c48 => ?_)
        · replace h := zk_t h c48
          refine hr.1 1 True _ _ (62, [some (.ref 0), some (.int x1), some (.int x2), some (.int x3), some (.int x4), o5, o6], [.int x2], [], D) rfl trivial ?_
          replace h := Option.some.inj h
          subst h
          exact J62 trivial
        · replace h := zk_f h c48
          refine hr.1 5 True _ _ (62, [some (.ref 0), some (.int x1), some (.int x2), some (.int x3), some (.int x4), o5, o6], [.int ((zg_i D 0 1) - x4)], [], D) rfl trivial ?_
          replace h := Option.some.inj h
          subst h
          exact J62 trivial
  rw [g_R_writeChunks] at h
  refine hr.1 21 True _ _ (31, [some (.ref 0), some (.int x1), some (.int x2), some (.int 0), some (.int 0), none, none], [], [], zp_i (zp_i (zp_i D 0 9 (zo_rem x1 9)) 0 10 (zo_rem (x1 / 9) 5)) 0 11 (x1 / 45)) rfl trivial ?_
  obtain ⟨q21, hc, h⟩ := zk_bind h
  refine loop31 x1 x2 10000 0 0 (zp_i (zp_i (zp_i D 0 9 (zo_rem x1 9)) 0 10 (zo_rem (x1 / 9) 5)) 0 11 (x1 / 45)) none none q21 hc (fun e3 e4 o5 o6 => ?_)
  clear hc
  refine hr.1 2 True _ _ (304, [some (.ref 0), some (.int x1), some (.int x2), some (.int e3), some (.int e4), o5, o6], [.int 0, .ref 0], [], q21) rfl trivial ?_
  obtain ⟨q22, hc, h⟩ := zk_bind h
  refine hr.2.2.1 _ _ _ _ _ (d + 6) rfl (by omega) (c_g_R_write (l := l) (E := E) (d := d + 6) hc) (fun v S hq => ?_)
  obtain ⟨rfl, rfl⟩ := hq
  clear hc
  exact hr.2.2.2 _ _ _ rfl trivial ⟨rfl, (congrArg (fun x => (([], x) : zx_S)) (Option.some.inj h))⟩
set_option maxRecDepth 100000 in
set_option maxHeartbeats 4000000 in
theorem c_g_R_writeZeros {l : Launch} {E : zx_E} {d : Nat} {x1 : Int32} {D : zx_D} {q : zx_D} (h : g_R_writeZeros x1 D = some q) : zx_MR l E 175 (d + 1) [.ref 0, .int x1] ([], D) (fun v S => v = none ∧ S = ([], q)) := by
  refine zx_ofR (K := ck_R_writeZeros) rfl (by decide +kernel) rfl ok_R_writeZeros (Nat.le_of_ble_eq_true rfl) (fun Zp hr => ?_)
  show Zp (0, [some (.ref 0), some (.int x1)], [], [], D)
  have loop0 : ∀ (x1 : Int32) (k : Nat) (D : zx_D) (q : zx_D), g_R_writeZeros_0 x1 k D = some q → (True → Zp (19, [some (.ref 0), some (.int x1)], [], [], q)) → Zp (0, [some (.ref 0), some (.int x1)], [], [], D) := by
    intro x1 k
    induction k with
    | zero => intro D q h hx; exact (zk_no h).elim
    | succ k ih =>
      intro D q h hx
      rw [g_R_writeZeros_0] at h
      refine hr.1 6 True _ _ (8, [some (.ref 0), some (.int x1)], [.int (zo_rem ((zg_i D 0 7) - x1) 4)], [], D) rfl trivial ?_
      refine hr.2.1 _ (zo_rem ((zg_i D 0 7) - x1) 4 = 0) _ _ rfl (fun c8 => ?_) (fun c8 => ?_)
      · replace h := zk_t h c8
        replace h := Option.some.inj h
        subst h
        exact hx trivial
      · replace h := zk_f h c8
        refine hr.1 2 True _ _ (13, [some (.ref 0), some (.int x1)], [.int 0, .ref 0], [], D) rfl trivial ?_
        obtain ⟨q2, hc, h⟩ := zk_bind h
        refine hr.2.2.1 _ _ _ _ _ (d) rfl (by omega) (c_g_R_write (l := l) (E := E) (d := d) hc) (fun v S hq => ?_)
        obtain ⟨rfl, rfl⟩ := hq
        clear hc
        refine hr.1 1 True _ _ (0, [some (.ref 0), some (.int x1)], [], [], q2) rfl trivial ?_
        exact ih  q2 _ h hx
  rw [g_R_writeZeros] at h
  refine hr.1 6 True _ _ (8, [some (.ref 0), some (.int x1)], [.int (zo_rem ((zg_i D 0 7) - x1) 4)], [], D) rfl trivial ?_
  refine hr.2.1 _ (zo_rem ((zg_i D 0 7) - x1) 4 = 0) _ _ rfl (fun c8 => ?_) (fun c8 => ?_)
  · replace h := zk_t h c8
    exact hr.2.2.2 _ _ _ rfl trivial ⟨rfl, (congrArg (fun x => (([], x) : zx_S)) (Option.some.inj h))⟩
  · replace h := zk_f h c8
    refine hr.1 2 True _ _ (13, [some (.ref 0), some (.int x1)], [.int 0, .ref 0], [], D) rfl trivial ?_
    obtain ⟨q1, hc, h⟩ := zk_bind h
    refine hr.2.2.1 _ _ _ _ _ (d) rfl (by omega) (c_g_R_write (l := l) (E := E) (d := d) hc) (fun v S hq => ?_)
    obtain ⟨rfl, rfl⟩ := hq
    clear hc
    refine hr.1 1 True _ _ (0, [some (.ref 0), some (.int x1)], [], [], q1) rfl trivial ?_
    obtain ⟨q3, hc, h⟩ := zk_bind h
    refine loop0 x1 10000 q1 q3 hc (fun _ => ?_)
    clear hc
    exact hr.2.2.2 _ _ _ rfl trivial ⟨rfl, (congrArg (fun x => (([], x) : zx_S)) (Option.some.inj h))⟩
set_option maxRecDepth 100000 in
set_option maxHeartbeats 4000000 in
theorem c_g_R_writeBlock {l : Launch} {E : zx_E} {d : Nat} {x1 : Int32} {x2 : Int32} {x3 : Int32} {D : zx_D} {q : Int32 × zx_D} (h : g_R_writeBlock x1 x2 x3 D = some q) : zx_MR l E 178 (d + 8) [.ref 0, .int x1, .int x2, .int x3] ([], D) (fun v S => v = some (.int q.1) ∧ S = ([], q.2)) := by
  refine zx_ofR (K := ck_R_writeBlock) rfl (by decide +kernel) rfl ok_R_writeBlock (Nat.le_of_ble_eq_true rfl) (fun Zp hr => ?_)
  show Zp (0, [some (.ref 0), some (.int x1), some (.int x2), some (.int x3), none, none, none], [], [], D)
  have loop30 : ∀ (x1 : Int32) (x2 : Int32) (x3 : Int32) (x4 : Int32) (k : Nat) (x5 : Int32) (D : zx_D) (q : zx_D), g_R_writeBlock_30 x1 x2 x3 x4 k x5 D = some q → (∀ (e5 : Int32), Zp (47, [some (.ref 0), some (.int x1), some (.int x2), some (.int x3), some (.int x4), some (.int e5), none], [], [], q)) → Zp (30, [some (.ref 0), some (.int x1), some (.int x2), some (.int x3), some (.int x4), some (.int x5), none], [], [], D) := by
    intro x1 x2 x3 x4 k
    induction k with
    | zero => intro x5 D q h hx; exact (zk_no h).elim
    | succ k ih =>
      intro x5 D q h hx
      rw [g_R_writeBlock_30] at h
      refine hr.1 2 True _ _ (33, [some (.ref 0), some (.int x1), some (.int x2), some (.int x3), some (.int x4), some (.int x5), none], [.int 4, .int x5], [], D) rfl trivial ?_
      refine hr.2.1 _ (4 ≤ x5) _ _ rfl (fun c33 => ?_) (fun c33 => ?_)
      · replace h := zk_t h c33
        replace h := Option.some.inj h
        subst h
        exact hx x5
      · replace h := zk_f h c33
        refine hr.1 2 True _ _ (38, [some (.ref 0), some (.int x1), some (.int x2), some (.int x3), some (.int x4), some (.int x5), none], [.int 0, .ref 0], [], D) rfl trivial ?_
        obtain ⟨q5, hc, h⟩ := zk_bind h
        refine hr.2.2.1 _ _ _ _ _ (d + 7) rfl (by omega) (c_g_R_write (l := l) (E := E) (d := d + 7) hc) (fun v S hq => ?_)
        obtain ⟨rfl, rfl⟩ := hq
        clear hc
        refine hr.1 2 True _ _ (30, [some (.ref 0), some (.int x1), some (.int x2), some (.int x3), some (.int x4), some (.int (x5 + 1)), none], [], [], q5) rfl trivial ?_
        exact ih (x5 + 1) q5 _ h hx
  rw [g_R_writeBlock] at h
  refine hr.1 5 True _ _ (8, [some (.ref 0), some (.int x1), some (.int x2), some (.int x3), some (.int (zg_i D 0 7)), none, none], [.int 2, .ref 0], [], D) rfl trivial ?_
  obtain ⟨q1, hc, h⟩ := zk_bind h
  refine hr.2.2.1 _ _ _ _ _ (d + 7) rfl (by omega) (c_g_R_write (l := l) (E := E) (d := d + 7) hc) (fun v S hq => ?_)
  obtain ⟨rfl, rfl⟩ := hq
  clear hc
  refine hr.1 2 True _ _ (13, [some (.ref 0), some (.int x1), some (.int x2), some (.int x3), some (.int (zg_i D 0 7)), none, none], [.int 0, .ref 0], [], q1) rfl trivial ?_
  obtain ⟨q2, hc, h⟩ := zk_bind h
  refine hr.2.2.1 _ _ _ _ _ (d + 7) rfl (by omega) (c_g_R_write (l := l) (E := E) (d := d + 7) hc) (fun v S hq => ?_)
  obtain ⟨rfl, rfl⟩ := hq
  clear hc
  refine hr.1 2 True _ _ (19, [some (.ref 0), some (.int x1), some (.int x2), some (.int x3), some (.int (zg_i D 0 7)), none, none], [.int 33, .ref 0], [], q2) rfl trivial ?_
  obtain ⟨q3, hc, h⟩ := zk_bind h
  refine hr.2.2.1 _ _ _ _ _ (d + 7) rfl (by omega) (c_g_R_write (l := l) (E := E) (d := d + 7) hc) (fun v S hq => ?_)
  obtain ⟨rfl, rfl⟩ := hq
  clear hc
  refine hr.1 2 True _ _ (24, [some (.ref 0), some (.int x1), some (.int x2), some (.int x3), some (.int (zg_i D 0 7)), none, none], [.int 1, .ref 0], [], q3) rfl trivial ?_
  obtain ⟨q4, hc, h⟩ := zk_bind h
  refine hr.2.2.1 _ _ _ _ _ (d + 7) rfl (by omega) (c_g_R_write (l := l) (E := E) (d := d + 7) hc) (fun v S hq => ?_)
  obtain ⟨rfl, rfl⟩ := hq
  clear hc
  refine hr.1 2 True _ _ (30, [some (.ref 0), some (.int x1), some (.int x2), some (.int x3), some (.int (zg_i D 0 7)), some (.int 0), none], [], [], q4) rfl trivial ?_
  obtain ⟨q6, hc, h⟩ := zk_bind h
  refine loop30 x1 x2 x3 (zg_i D 0 7) 10000 0 q4 q6 hc (fun e5 => ?_)
  clear hc
  refine hr.1 2 True _ _ (50, [some (.ref 0), some (.int x1), some (.int x2), some (.int x3), some (.int (zg_i D 0 7)), some (.int e5), none], [.int (zg_i D 0 7), .ref 0], [], q6) rfl trivial ?_
  obtain ⟨q7, hc, h⟩ := zk_bind h
  refine hr.2.2.1 _ _ _ _ _ (d + 7) rfl (by omega) (c_g_R_writeSum (l := l) (E := E) (d := d + 5) hc) (fun v S hq => ?_)
  obtain ⟨rfl, rfl⟩ := hq
  clear hc
  refine hr.1 3 True _ _ (56, [some (.ref 0), some (.int x1), some (.int x2), some (.int x3), some (.int (zg_i D 0 7)), some (.int e5), none], [.int x3, .int x2, .ref 0], [], q7) rfl trivial ?_
  obtain ⟨q8, hc, h⟩ := zk_bind h
  refine hr.2.2.1 _ _ _ _ _ (d + 7) rfl (by omega) (c_g_R_writeChunks (l := l) (E := E) (d := d) hc) (fun v S hq => ?_)
  obtain ⟨rfl, rfl⟩ := hq
  clear hc
  refine hr.1 7 True _ _ (71, [some (.ref 0), some (.int x1), some (.int x2), some (.int x3), some (.int (zg_i D 0 7)), some (.int ((zg_i q8 0 7) - (zg_i D 0 7))), none], [.int (zg_i D 0 7), .ref 0], [], q8) rfl trivial ?_
  obtain ⟨q9, hc, h⟩ := zk_bind h
  refine hr.2.2.1 _ _ _ _ _ (d + 7) rfl (by omega) (c_g_R_writeZeros (l := l) (E := E) (d := d + 6) hc) (fun v S hq => ?_)
  obtain ⟨rfl, rfl⟩ := hq
  clear hc
  refine hr.1 1 True _ _ (75, [some (.ref 0), some (.int x1), some (.int x2), some (.int x3), some (.int (zg_i D 0 7)), some (.int ((zg_i q8 0 7) - (zg_i D 0 7))), none], [.int x1], [], q9) rfl trivial ?_
  obtain ⟨q10, hj, h⟩ := zk_bind h
  have J93 : ∀ (_ : True), Zp (93, [some (.ref 0), some (.int x1), some (.int x2), some (.int x3), some (.int (zg_i D 0 7)), some (.int ((zg_i q8 0 7) - (zg_i D 0 7))), none], [.int q10], [], q9) := by
    intro _
    refine hr.1 3 True _ _ (97, [some (.ref 0), some (.int x1), some (.int x2), some (.int x3), some (.int (zg_i D 0 7)), some (.int ((zg_i q8 0 7) - (zg_i D 0 7))), some (.int q10)], [.int x1, .ref 0], [], q9) rfl trivial ?_
    refine hr.2.1 _ (¬ x1 = 0) _ _ rfl (fun c97 => ?_) (fun c97 => ?_)
    · replace h := zk_t h c97
      refine hr.1 3 True _ _ (107, [some (.ref 0), some (.int x1), some (.int x2), some (.int x3), some (.int (zg_i D 0 7)), some (.int ((zg_i q8 0 7) - (zg_i D 0 7))), some (.int q10)], [.int 4, .int x1, .ref 0, .ref 0], [], q9) rfl trivial ?_
      refine hr.2.1 _ (¬ x1 = 4) _ _ rfl (fun c107 => ?_) (fun c107 => ?_)
      · replace h := zk_t h c107
        refine hr.1 1 True _ _ (115, [some (.ref 0), some (.int x1), some (.int x2), some (.int x3), some (.int (zg_i D 0 7)), some (.int ((zg_i q8 0 7) - (zg_i D 0 7))), some (.int q10)], [.int 0, .ref 0, .ref 0], [], q9) rfl trivial ?_
        obtain ⟨q11, hc, h⟩ := zk_bind h
        refine hr.2.2.1 _ _ _ _ _ (d + 7) rfl (by omega) (c_g_R_sum_b0 (l := l) (E := E) (d := d + 6) hc) (fun v S hq => ?_)
        obtain ⟨rfl, rfl⟩ := hq
        clear hc
        refine hr.1 1 True _ _ (120, [some (.ref 0), some (.int x1), some (.int x2), some (.int x3), some (.int (zg_i D 0 7)), some (.int ((zg_i q8 0 7) - (zg_i D 0 7))), some (.int q10)], [.int q10, .long q11, .ref 0], [], q9) rfl trivial ?_
        obtain ⟨q12, hc, h⟩ := zk_bind h
        refine hr.2.2.1 _ _ _ _ _ (d + 7) rfl (by omega) (c_g_R_writeNumber (l := l) (E := E) (d := d + 6) hc) (fun v S hq => ?_)
        obtain ⟨rfl, rfl⟩ := hq
        clear hc
        refine hr.1 3 True _ _ (128, [some (.ref 0), some (.int x1), some (.int x2), some (.int x3), some (.int (zg_i D 0 7)), some (.int ((zg_i q8 0 7) - (zg_i D 0 7))), some (.int q10)], [.int (((zg_i q8 0 7) - (zg_i D 0 7)) + q10)], [], q12) rfl trivial ?_
        exact hr.2.2.2 _ _ _ rfl trivial ⟨(congrArg (fun x => some (Value.int x.1)) (Option.some.inj h)), (congrArg (fun x => (([], x.2) : zx_S)) (Option.some.inj h))⟩
      · replace h := zk_f h c107
        refine hr.1 2 True _ _ (115, [some (.ref 0), some (.int x1), some (.int x2), some (.int x3), some (.int (zg_i D 0 7)), some (.int ((zg_i q8 0 7) - (zg_i D 0 7))), some (.int q10)], [.int 1, .ref 0, .ref 0], [], q9) rfl trivial ?_
        obtain ⟨q13, hc, h⟩ := zk_bind h
        refine hr.2.2.1 _ _ _ _ _ (d + 7) rfl (by omega) (c_g_R_sum_b1 (l := l) (E := E) (d := d + 6) hc) (fun v S hq => ?_)
        obtain ⟨rfl, rfl⟩ := hq
        clear hc
        refine hr.1 1 True _ _ (120, [some (.ref 0), some (.int x1), some (.int x2), some (.int x3), some (.int (zg_i D 0 7)), some (.int ((zg_i q8 0 7) - (zg_i D 0 7))), some (.int q10)], [.int q10, .long q13, .ref 0], [], q9) rfl trivial ?_
        obtain ⟨q14, hc, h⟩ := zk_bind h
        refine hr.2.2.1 _ _ _ _ _ (d + 7) rfl (by omega) (c_g_R_writeNumber (l := l) (E := E) (d := d + 6) hc) (fun v S hq => ?_)
        obtain ⟨rfl, rfl⟩ := hq
        clear hc
        refine hr.1 3 True _ _ (128, [some (.ref 0), some (.int x1), some (.int x2), some (.int x3), some (.int (zg_i D 0 7)), some (.int ((zg_i q8 0 7) - (zg_i D 0 7))), some (.int q10)], [.int (((zg_i q8 0 7) - (zg_i D 0 7)) + q10)], [], q14) rfl trivial ?_
        exact hr.2.2.2 _ _ _ rfl trivial ⟨(congrArg (fun x => some (Value.int x.1)) (Option.some.inj h)), (congrArg (fun x => (([], x.2) : zx_S)) (Option.some.inj h))⟩
    · replace h := zk_f h c97
      refine hr.1 3 True _ _ (120, [some (.ref 0), some (.int x1), some (.int x2), some (.int x3), some (.int (zg_i D 0 7)), some (.int ((zg_i q8 0 7) - (zg_i D 0 7))), some (.int q10)], [.int q10, .long 0, .ref 0], [], q9) rfl trivial ?_
      obtain ⟨q15, hc, h⟩ := zk_bind h
      refine hr.2.2.1 _ _ _ _ _ (d + 7) rfl (by omega) (c_g_R_writeNumber (l := l) (E := E) (d := d + 6) hc) (fun v S hq => ?_)
      obtain ⟨rfl, rfl⟩ := hq
      clear hc
      refine hr.1 3 True _ _ (128, [some (.ref 0), some (.int x1), some (.int x2), some (.int x3), some (.int (zg_i D 0 7)), some (.int ((zg_i q8 0 7) - (zg_i D 0 7))), some (.int q10)], [.int (((zg_i q8 0 7) - (zg_i D 0 7)) + q10)], [], q15) rfl trivial ?_
      exact hr.2.2.2 _ _ _ rfl trivial ⟨(congrArg (fun x => some (Value.int x.1)) (Option.some.inj h)), (congrArg (fun x => (([], x.2) : zx_S)) (Option.some.inj h))⟩
  clear h
  have h := hj
  clear hj
  refine hr.2.1 _ (¬ x1 = 0) _ _ rfl (fun c75 => ?_) (fun c75 => ?_)
  · replace h := zk_t h c75
    refine hr.1 2 True _ _ (84, [some (.ref 0), some (.int x1), some (.int x2), some (.int x3), some (.int (zg_i D 0 7)), some (.int ((zg_i q8 0 7) - (zg_i D 0 7))), none], [.int 1, .int x1], [], q9) rfl trivial ?_
    refine hr.2.1 _ (¬ x1 = 1) _ _ rfl (fun c84 => ?_) (fun c84 => ?_)
    · replace h := zk_t h c84
      refine hr.1 1 True _ _ (93, [some (.ref 0), some (.int x1), some (.int x2), some (.int x3), some (.int (zg_i D 0 7)), some (.int ((zg_i q8 0 7) - (zg_i D 0 7))), none], [.int 8], [], q9) rfl trivial ?_
      replace h := Option.some.inj h
      subst h
      exact J93 trivial
    · replace h := zk_f h c84
      refine hr.1 2 True _ _ (93, [some (.ref 0), some (.int x1), some (.int x2), some (.int x3), some (.int (zg_i D 0 7)), some (.int ((zg_i q8 0 7) - (zg_i D 0 7))), none], [.int 4], [], q9) rfl trivial ?_
      replace h := Option.some.inj h
      subst h
      exact J93 trivial
  · replace h := zk_f h c75
    refine hr.1 2 True _ _ (93, [some (.ref 0), some (.int x1), some (.int x2), some (.int x3), some (.int (zg_i D 0 7)), some (.int ((zg_i q8 0 7) - (zg_i D 0 7))), none], [.int 0], [], q9) rfl trivial ?_
    replace h := Option.some.inj h
    subst h
    exact J93 trivial
set_option maxRecDepth 100000 in
set_option maxHeartbeats 4000000 in
theorem c_g_R_writeVli {l : Launch} {E : zx_E} {d : Nat} {x1 : Int32} {D : zx_D} {q : zx_D} (h : g_R_writeVli x1 D = some q) : zx_MR l E 174 (d + 1) [.ref 0, .int x1] ([], D) (fun v S => v = none ∧ S = ([], q)) := by
  refine zx_ofR (K := ck_R_writeVli) rfl (by decide +kernel) rfl ok_R_writeVli (Nat.le_of_ble_eq_true rfl) (fun Zp hr => ?_)
  show Zp (0, [some (.ref 0), some (.int x1), none], [], [], D)
  have loop2 : ∀ (k : Nat) (x2 : Int32) (D : zx_D) (x1 : Int32) (q : Int32 × zx_D), g_R_writeVli_2 k x2 D = some q → (True → Zp (28, [some (.ref 0), some (.int x1), some (.int q.1)], [], [], q.2)) → Zp (2, [some (.ref 0), some (.int x1), some (.int x2)], [], [], D) := by
    intro k
    induction k with
    | zero => intro x2 D x1 q h hx; exact (zk_no h).elim
    | succ k ih =>
      intro x2 D x1 q h hx
      rw [g_R_writeVli_2] at h
      refine hr.1 2 True _ _ (5, [some (.ref 0), some (.int x1), some (.int x2)], [.int 127, .int x2], [], D) rfl trivial ?_
      refine hr.2.1 _ (x2 ≤ 127) _ _ rfl (fun c5 => ?_) (fun c5 => ?_)
      · replace h := zk_t h c5
        replace h := Option.some.inj h
        subst h
        exact hx trivial
      · replace h := zk_f h c5
        refine hr.1 6 True _ _ (17, [some (.ref 0), some (.int x1), some (.int x2)], [.int ((x2 &&& 127) ||| 128), .ref 0], [], D) rfl trivial ?_
        obtain ⟨q1, hc, h⟩ := zk_bind h
        refine hr.2.2.1 _ _ _ _ _ (d) rfl (by omega) (c_g_R_write (l := l) (E := E) (d := d) hc) (fun v S hq => ?_)
        obtain ⟨rfl, rfl⟩ := hq
        clear hc
        refine hr.1 5 True _ _ (2, [some (.ref 0), some (.int x1), some (.int (zo_shr x2 7))], [], [], q1) rfl trivial ?_
        exact ih (zo_shr x2 7) q1 _ _ h hx
  rw [g_R_writeVli] at h
  refine hr.1 2 True _ _ (2, [some (.ref 0), some (.int x1), some (.int x1)], [], [], D) rfl trivial ?_
  obtain ⟨q2, hc, h⟩ := zk_bind h
  refine loop2 10000 x1 D x1 q2 hc (fun _ => ?_)
  clear hc
  refine hr.1 2 True _ _ (30, [some (.ref 0), some (.int x1), some (.int q2.1)], [.int q2.1, .ref 0], [], q2.2) rfl trivial ?_
  obtain ⟨q3, hc, h⟩ := zk_bind h
  refine hr.2.2.1 _ _ _ _ _ (d) rfl (by omega) (c_g_R_write (l := l) (E := E) (d := d) hc) (fun v S hq => ?_)
  obtain ⟨rfl, rfl⟩ := hq
  clear hc
  exact hr.2.2.2 _ _ _ rfl trivial ⟨rfl, (congrArg (fun x => (([], x) : zx_S)) (Option.some.inj h))⟩
set_option maxRecDepth 100000 in
set_option maxHeartbeats 4000000 in
theorem c_g_R_pack {l : Launch} {E : zx_E} {d : Nat} {x1 : Int32} {x2 : Int32} {x3 : Int32} {D : zx_D} {q : Int32 × zx_D} (h : g_R_pack x1 x2 x3 D = some q) : zx_MR l E 179 (d + 9) [.ref 0, .int x1, .int x2, .int x3] ([], D) (fun v S => v = some (.int q.1) ∧ S = ([], q.2)) := by
  refine zx_ofR (K := ck_R_pack) rfl (by decide +kernel) rfl ok_R_pack (Nat.le_of_ble_eq_true rfl) (fun Zp hr => ?_)
  show Zp (0, [some (.ref 0), some (.int x1), some (.int x2), some (.int x3), none, none, none, none, none, none], [], [], D)
  have loop37 : ∀ (x1 : Int32) (x2 : Int32) (x3 : Int32) (k : Nat) (x4 : Int32) (D : zx_D) (q : zx_D), g_R_pack_37 x1 x2 x3 k x4 D = some q → (∀ (e4 : Int32), Zp (59, [some (.ref 0), some (.int x1), some (.int x2), some (.int x3), some (.int e4), none, none, none, none, none], [], [], q)) → Zp (37, [some (.ref 0), some (.int x1), some (.int x2), some (.int x3), some (.int x4), none, none, none, none, none], [], [], D) := by
    intro x1 x2 x3 k
    induction k with
    | zero => intro x4 D q h hx; exact (zk_no h).elim
    | succ k ih =>
      intro x4 D q h hx
      rw [g_R_pack_37] at h
      refine hr.1 2 True _ _ (41, [some (.ref 0), some (.int x1), some (.int x2), some (.int x3), some (.int x4), none, none, none, none, none], [.int 6, .int x4], [], D) rfl trivial ?_
      refine hr.2.1 _ (6 ≤ x4) _ _ rfl (fun c41 => ?_) (fun c41 => ?_)
      · replace h := zk_t h c41
        replace h := Option.some.inj h
        subst h
        exact hx x4
      · replace h := zk_f h c41
        refine hr.1 2 True _ _ (47, [some (.ref 0), some (.int x1), some (.int x2), some (.int x3), some (.int x4), none, none, none, none, none], [.int x4, .ref 0], [], D) rfl trivial ?_
        obtain ⟨q3, hc, h⟩ := zk_bind h
        refine hr.2.2.1 _ _ _ _ _ (d + 8) rfl (by omega) (c_g_R_magic (l := l) (E := E) (d := d + 8) hc) (fun v S hq => ?_)
        obtain ⟨rfl, rfl⟩ := hq
        clear hc
        obtain ⟨q4, hc, h⟩ := zk_bind h
        refine hr.2.2.1 _ _ _ _ _ (d + 8) rfl (by omega) (c_g_R_write (l := l) (E := E) (d := d + 8) hc) (fun v S hq => ?_)
        obtain ⟨rfl, rfl⟩ := hq
        clear hc
        refine hr.1 2 True _ _ (37, [some (.ref 0), some (.int x1), some (.int x2), some (.int x3), some (.int (x4 + 1)), none, none, none, none, none], [], [], q4) rfl trivial ?_
        exact ih (x4 + 1) q4 _ h hx
  have loop176 : ∀ (x1 : Int32) (x6 : Int32) (D : zx_D) (k : Nat) (x7 : Int64) (x9 : Int32) (x2 : Int32) (x3 : Int32) (x4 : Int32) (x5 : Int32) (q : Int64), g_R_pack_176 x1 x6 D k x7 x9 = some q → (∀ (e9 : Int32), Zp (228, [some (.ref 0), some (.int x1), some (.int x2), some (.int x3), some (.int x4), some (.int x5), some (.int x6), some (.long q), none, some (.int e9)], [], [], D)) → Zp (176, [some (.ref 0), some (.int x1), some (.int x2), some (.int x3), some (.int x4), some (.int x5), some (.int x6), some (.long x7), none, some (.int x9)], [], [], D) := by
    intro x1 x6 D k
    induction k with
    | zero => intro x7 x9 x2 x3 x4 x5 q h hx; exact (zk_no h).elim
    | succ k ih =>
      intro x7 x9 x2 x3 x4 x5 q h hx
      rw [g_R_pack_176] at h
      refine hr.1 2 True _ _ (180, [some (.ref 0), some (.int x1), some (.int x2), some (.int x3), some (.int x4), some (.int x5), some (.int x6), some (.long x7), none, some (.int x9)], [.int 6, .int x9], [], D) rfl trivial ?_
      refine hr.2.1 _ (6 ≤ x9) _ _ rfl (fun c180 => ?_) (fun c180 => ?_)
      · replace h := zk_t h c180
        replace h := Option.some.inj h
        subst h
        exact hx x9
      · replace h := zk_f h c180
        refine hr.1 3 True _ _ (188, [some (.ref 0), some (.int x1), some (.int x2), some (.int x3), some (.int x4), some (.int x5), some (.int x6), some (.long x7), none, some (.int x9)], [.int 4, .int x9, .long x7], [], D) rfl trivial ?_
        refine hr.2.1 _ (4 ≤ x9) _ _ rfl (fun c188 => ?_) (fun c188 => ?_)
        · replace h := zk_t h c188
          refine hr.1 2 True _ _ (209, [some (.ref 0), some (.int x1), some (.int x2), some (.int x3), some (.int x4), some (.int x5), some (.int x6), some (.long x7), none, some (.int x9)], [.int 4, .int x9, .long x7], [], D) rfl trivial ?_
          refine hr.2.1 _ (¬ x9 = 4) _ _ rfl (fun c209 => ?_) (fun c209 => ?_)
          · replace h := zk_t h c209
            refine hr.1 1 True _ _ (217, [some (.ref 0), some (.int x1), some (.int x2), some (.int x3), some (.int x4), some (.int x5), some (.int x6), some (.long x7), none, some (.int x9)], [.int x1, .long x7], [], D) rfl trivial ?_
            obtain ⟨q19, hc, h⟩ := zk_bind h
            refine hr.2.2.1 _ _ _ _ _ (d + 8) rfl (by omega) (c_g_R_four (l := l) (E := E) (d := d + 8) hc) (fun v S hq => ?_)
            obtain ⟨rfl, rfl⟩ := hq
            clear hc
            refine hr.1 3 True _ _ (176, [some (.ref 0), some (.int x1), some (.int x2), some (.int x3), some (.int x4), some (.int x5), some (.int x6), some (.long q19), none, some (.int (x9 + 1))], [], [], D) rfl trivial ?_
            exact ih q19 (x9 + 1)  _ _ _ _ _ h hx
          · replace h := zk_f h c209
            refine hr.1 2 True _ _ (217, [some (.ref 0), some (.int x1), some (.int x2), some (.int x3), some (.int x4), some (.int x5), some (.int x6), some (.long x7), none, some (.int x9)], [.int 0, .long x7], [], D) rfl trivial ?_
            obtain ⟨q20, hc, h⟩ := zk_bind h
            refine hr.2.2.1 _ _ _ _ _ (d + 8) rfl (by omega) (c_g_R_four (l := l) (E := E) (d := d + 8) hc) (fun v S hq => ?_)
            obtain ⟨rfl, rfl⟩ := hq
            clear hc
            refine hr.1 3 True _ _ (176, [some (.ref 0), some (.int x1), some (.int x2), some (.int x3), some (.int x4), some (.int x5), some (.int x6), some (.long q20), none, some (.int (x9 + 1))], [], [], D) rfl trivial ?_
            exact ih q20 (x9 + 1)  _ _ _ _ _ h hx
        · replace h := zk_f h c188
          refine hr.1 8 True _ _ (217, [some (.ref 0), some (.int x1), some (.int x2), some (.int x3), some (.int x4), some (.int x5), some (.int x6), some (.long x7), none, some (.int x9)], [.int ((zo_shr x6 (8 * x9)) &&& 255), .long x7], [], D) rfl trivial ?_
          obtain ⟨q21, hc, h⟩ := zk_bind h
          refine hr.2.2.1 _ _ _ _ _ (d + 8) rfl (by omega) (c_g_R_four (l := l) (E := E) (d := d + 8) hc) (fun v S hq => ?_)
          obtain ⟨rfl, rfl⟩ := hq
          clear hc
          refine hr.1 3 True _ _ (176, [some (.ref 0), some (.int x1), some (.int x2), some (.int x3), some (.int x4), some (.int x5), some (.int x6), some (.long q21), none, some (.int (x9 + 1))], [], [], D) rfl trivial ?_
          exact ih q21 (x9 + 1)  _ _ _ _ _ h hx
  have loop293 : ∀ (k : Nat) (x9 : Int32) (D : zx_D) (x1 : Int32) (x2 : Int32) (x3 : Int32) (x4 : Int32) (x5 : Int32) (x6 : Int32) (x7 : Int64) (q : zx_D), g_R_pack_293 k x9 D = some q → (∀ (e9 : Int32), Zp (322, [some (.ref 0), some (.int x1), some (.int x2), some (.int x3), some (.int x4), some (.int x5), some (.int x6), some (.long x7), none, some (.int e9)], [], [], q)) → Zp (293, [some (.ref 0), some (.int x1), some (.int x2), some (.int x3), some (.int x4), some (.int x5), some (.int x6), some (.long x7), none, some (.int x9)], [], [], D) := by
    intro k
    induction k with
    | zero => intro x9 D x1 x2 x3 x4 x5 x6 x7 q h hx; exact (zk_no h).elim
    | succ k ih =>
      intro x9 D x1 x2 x3 x4 x5 x6 x7 q h hx
      rw [g_R_pack_293] at h
      refine hr.1 3 True _ _ (299, [some (.ref 0), some (.int x1), some (.int x2), some (.int x3), some (.int x4), some (.int x5), some (.int x6), some (.long x7), none, some (.int x9)], [.int (zg_i D 0 7), .int x9], [], D) rfl trivial ?_
      refine hr.2.1 _ (zg_i D 0 7 ≤ x9) _ _ rfl (fun c299 => ?_) (fun c299 => ?_)
      · replace h := zk_t h c299
        replace h := Option.some.inj h
        subst h
        exact hx x9
      · replace h := zk_f h c299
        obtain ⟨w3, h⟩ := zk_ck h
        obtain ⟨w4, h⟩ := zk_ck h
        refine hr.1 10 True _ _ (293, [some (.ref 0), some (.int x1), some (.int x2), some (.int x3), some (.int x4), some (.int x5), some (.int x6), some (.long x7), none, some (.int (x9 + 1))], [], [], zp_i D 2 (zn x9) (zg_i D 4 (zn x9))) rfl ⟨⟨trivial, (zk_vp w3)⟩, (zk_vp w4)⟩ ?_
        exact ih (x9 + 1) (zp_i D 2 (zn x9) (zg_i D 4 (zn x9))) _ _ _ _ _ _ _ _ h hx
  rw [g_R_pack] at h
  refine hr.1 1 True _ _ (1, [some (.ref 0), some (.int x1), some (.int x2), some (.int x3), none, none, none, none, none, none], [.int x1], [], D) rfl trivial ?_
  obtain ⟨q1, hc, h⟩ := zk_bind h
  refine hr.2.2.1 _ _ _ _ _ (d + 8) rfl (by omega) (c_g_R_isSort (l := l) (E := E) (d := d + 8) hc) (fun v S hq => ?_)
  obtain ⟨rfl, rfl⟩ := hq
  clear hc
  refine hr.2.1 _ (q1 = 0) _ _ rfl (fun c4 => ?_) (fun c4 => ?_)
  · replace h := zk_t h c4
    refine hr.1 1 True _ _ (28, [some (.ref 0), some (.int x1), some (.int x2), some (.int x3), none, none, none, none, none, none], [.int (-3)], [], D) rfl trivial ?_
    exact hr.2.2.2 _ _ _ rfl trivial ⟨(congrArg (fun x => some (Value.int x.1)) (Option.some.inj h)), (congrArg (fun x => (([], x.2) : zx_S)) (Option.some.inj h))⟩
  · replace h := zk_f h c4
    refine hr.1 1 True _ _ (8, [some (.ref 0), some (.int x1), some (.int x2), some (.int x3), none, none, none, none, none, none], [.int x2], [], D) rfl trivial ?_
    obtain ⟨q2, hc, h⟩ := zk_bind h
    refine hr.2.2.1 _ _ _ _ _ (d + 8) rfl (by omega) (c_g_R_isProperties (l := l) (E := E) (d := d + 8) hc) (fun v S hq => ?_)
    obtain ⟨rfl, rfl⟩ := hq
    clear hc
    refine hr.2.1 _ (q2 = 0) _ _ rfl (fun c11 => ?_) (fun c11 => ?_)
    · replace h := zk_t h c11
      refine hr.1 1 True _ _ (28, [some (.ref 0), some (.int x1), some (.int x2), some (.int x3), none, none, none, none, none, none], [.int (-3)], [], D) rfl trivial ?_
      exact hr.2.2.2 _ _ _ rfl trivial ⟨(congrArg (fun x => some (Value.int x.1)) (Option.some.inj h)), (congrArg (fun x => (([], x.2) : zx_S)) (Option.some.inj h))⟩
    · replace h := zk_f h c11
      refine hr.1 2 True _ _ (16, [some (.ref 0), some (.int x1), some (.int x2), some (.int x3), none, none, none, none, none, none], [.int 1, .int x3], [], D) rfl trivial ?_
      refine hr.2.1 _ (x3 < 1) _ _ rfl (fun c16 => ?_) (fun c16 => ?_)
      · replace h := zk_t h c16
        refine hr.1 1 True _ _ (28, [some (.ref 0), some (.int x1), some (.int x2), some (.int x3), none, none, none, none, none, none], [.int (-3)], [], D) rfl trivial ?_
        exact hr.2.2.2 _ _ _ rfl trivial ⟨(congrArg (fun x => some (Value.int x.1)) (Option.some.inj h)), (congrArg (fun x => (([], x.2) : zx_S)) (Option.some.inj h))⟩
      · replace h := zk_f h c16
        refine hr.1 2 True _ _ (23, [some (.ref 0), some (.int x1), some (.int x2), some (.int x3), none, none, none, none, none, none], [.int 400, .int x3], [], D) rfl trivial ?_
        refine hr.2.1 _ (x3 ≤ 400) _ _ rfl (fun c23 => ?_) (fun c23 => ?_)
        · replace h := zk_t h c23
          refine hr.1 5 True _ _ (37, [some (.ref 0), some (.int x1), some (.int x2), some (.int x3), some (.int 0), none, none, none, none, none], [], [], zp_i D 0 7 0) rfl trivial ?_
          obtain ⟨q5, hc, h⟩ := zk_bind h
          refine loop37 x1 x2 x3 10000 0 (zp_i D 0 7 0) q5 hc (fun e4 => ?_)
          clear hc
          refine hr.1 2 True _ _ (61, [some (.ref 0), some (.int x1), some (.int x2), some (.int x3), some (.int e4), none, none, none, none, none], [.int 0, .ref 0], [], q5) rfl trivial ?_
          obtain ⟨q6, hc, h⟩ := zk_bind h
          refine hr.2.2.1 _ _ _ _ _ (d + 8) rfl (by omega) (c_g_R_write (l := l) (E := E) (d := d + 8) hc) (fun v S hq => ?_)
          obtain ⟨rfl, rfl⟩ := hq
          clear hc
          refine hr.1 2 True _ _ (66, [some (.ref 0), some (.int x1), some (.int x2), some (.int x3), some (.int e4), none, none, none, none, none], [.int x1, .ref 0], [], q6) rfl trivial ?_
          obtain ⟨q7, hc, h⟩ := zk_bind h
          refine hr.2.2.1 _ _ _ _ _ (d + 8) rfl (by omega) (c_g_R_write (l := l) (E := E) (d := d + 8) hc) (fun v S hq => ?_)
          obtain ⟨rfl, rfl⟩ := hq
          clear hc
          refine hr.1 2 True _ _ (72, [some (.ref 0), some (.int x1), some (.int x2), some (.int x3), some (.int e4), none, none, none, none, none], [.int 6, .ref 0], [], q7) rfl trivial ?_
          obtain ⟨q8, hc, h⟩ := zk_bind h
          refine hr.2.2.1 _ _ _ _ _ (d + 8) rfl (by omega) (c_g_R_writeSum (l := l) (E := E) (d := d + 6) hc) (fun v S hq => ?_)
          obtain ⟨rfl, rfl⟩ := hq
          clear hc
          refine hr.1 2 True _ _ (79, [some (.ref 0), some (.int x1), some (.int x2), some (.int x3), some (.int e4), none, none, none, none, none], [.int (zg_i q8 0 1)], [], q8) rfl trivial ?_
          obtain ⟨q10, hj, h⟩ := zk_bind h
          have J93 : ∀ (_ : True), Zp (93, [some (.ref 0), some (.int x1), some (.int x2), some (.int x3), some (.int e4), none, none, none, none, none], [.int q10.1], [], q10.2) := by
            intro _
            refine hr.1 6 True _ _ (103, [some (.ref 0), some (.int x1), some (.int x2), some (.int x3), some (.int q10.1), some (.int (zg_i q10.2 0 7)), none, none, none, none], [.int 0, .ref 0], [], q10.2) rfl trivial ?_
            obtain ⟨q11, hc, h⟩ := zk_bind h
            refine hr.2.2.1 _ _ _ _ _ (d + 8) rfl (by omega) (c_g_R_write (l := l) (E := E) (d := d + 8) hc) (fun v S hq => ?_)
            obtain ⟨rfl, rfl⟩ := hq
            clear hc
            refine hr.1 3 True _ _ (111, [some (.ref 0), some (.int x1), some (.int x2), some (.int x3), some (.int q10.1), some (.int (zg_i q10.2 0 7)), none, none, none, none], [.int (zg_i q11 0 1), .ref 0], [], q11) rfl trivial ?_
            obtain ⟨q12, hj, h⟩ := zk_bind h
            have J119 : ∀ (_ : True), Zp (119, [some (.ref 0), some (.int x1), some (.int x2), some (.int x3), some (.int q10.1), some (.int (zg_i q10.2 0 7)), none, none, none, none], [.int q12, .ref 0], [], q11) := by
              intro _
              obtain ⟨q13, hc, h⟩ := zk_bind h
              refine hr.2.2.1 _ _ _ _ _ (d + 8) rfl (by omega) (c_g_R_writeVli (l := l) (E := E) (d := d + 7) hc) (fun v S hq => ?_)
              obtain ⟨rfl, rfl⟩ := hq
              clear hc
              refine hr.1 2 True _ _ (126, [some (.ref 0), some (.int x1), some (.int x2), some (.int x3), some (.int q10.1), some (.int (zg_i q10.2 0 7)), none, none, none, none], [.int (zg_i q13 0 1)], [], q13) rfl trivial ?_
              obtain ⟨q16, hj, h⟩ := zk_bind h
              have J143 : ∀ (_ : True), Zp (143, [some (.ref 0), some (.int x1), some (.int x2), some (.int x3), some (.int q10.1), some (.int (zg_i q10.2 0 7)), none, none, none, none], [], [], q16) := by
                intro _
                refine hr.1 2 True _ _ (146, [some (.ref 0), some (.int x1), some (.int x2), some (.int x3), some (.int q10.1), some (.int (zg_i q10.2 0 7)), none, none, none, none], [.int (zg_i q10.2 0 7), .ref 0], [], q16) rfl trivial ?_
                obtain ⟨q17, hc, h⟩ := zk_bind h
                refine hr.2.2.1 _ _ _ _ _ (d + 8) rfl (by omega) (c_g_R_writeZeros (l := l) (E := E) (d := d + 7) hc) (fun v S hq => ?_)
                obtain ⟨rfl, rfl⟩ := hq
                clear hc
                refine hr.1 2 True _ _ (152, [some (.ref 0), some (.int x1), some (.int x2), some (.int x3), some (.int q10.1), some (.int (zg_i q10.2 0 7)), none, none, none, none], [.int (zg_i q10.2 0 7), .ref 0], [], q17) rfl trivial ?_
                obtain ⟨q18, hc, h⟩ := zk_bind h
                refine hr.2.2.1 _ _ _ _ _ (d + 8) rfl (by omega) (c_g_R_writeSum (l := l) (E := E) (d := d + 6) hc) (fun v S hq => ?_)
                obtain ⟨rfl, rfl⟩ := hq
                clear hc
                refine hr.1 13 True _ _ (176, [some (.ref 0), some (.int x1), some (.int x2), some (.int x3), some (.int q10.1), some (.int (zg_i q10.2 0 7)), some (.int ((((zg_i q18 0 7) - (zg_i q10.2 0 7)) / 4) - 1)), some (.long 4294967295), none, some (.int 0)], [], [], q18) rfl trivial ?_
                obtain ⟨q22, hc, h⟩ := zk_bind h
                refine loop176 x1 ((((zg_i q18 0 7) - (zg_i q10.2 0 7)) / 4) - 1) q18 10000 4294967295 0 x2 x3 q10.1 (zg_i q10.2 0 7) q22 hc (fun e9 => ?_)
                clear hc
                refine hr.1 5 True _ _ (236, [some (.ref 0), some (.int x1), some (.int x2), some (.int x3), some (.int q10.1), some (.int (zg_i q10.2 0 7)), some (.int ((((zg_i q18 0 7) - (zg_i q10.2 0 7)) / 4) - 1)), some (.long q22), none, some (.int e9)], [.int 4, .long (q22 ^^^ 4294967295), .ref 0], [], q18) rfl trivial ?_
                obtain ⟨q23, hc, h⟩ := zk_bind h
                refine hr.2.2.1 _ _ _ _ _ (d + 8) rfl (by omega) (c_g_R_writeNumber (l := l) (E := E) (d := d + 7) hc) (fun v S hq => ?_)
                obtain ⟨rfl, rfl⟩ := hq
                clear hc
                refine hr.1 4 True _ _ (244, [some (.ref 0), some (.int x1), some (.int x2), some (.int x3), some (.int q10.1), some (.int (zg_i q10.2 0 7)), some (.int ((((zg_i q18 0 7) - (zg_i q10.2 0 7)) / 4) - 1)), some (.long q22), none, some (.int e9)], [.int 4, .long ((((((zg_i q18 0 7) - (zg_i q10.2 0 7)) / 4) - 1)).toInt64), .ref 0], [], q23) rfl trivial ?_
                obtain ⟨q24, hc, h⟩ := zk_bind h
                refine hr.2.2.1 _ _ _ _ _ (d + 8) rfl (by omega) (c_g_R_writeNumber (l := l) (E := E) (d := d + 7) hc) (fun v S hq => ?_)
                obtain ⟨rfl, rfl⟩ := hq
                clear hc
                refine hr.1 2 True _ _ (249, [some (.ref 0), some (.int x1), some (.int x2), some (.int x3), some (.int q10.1), some (.int (zg_i q10.2 0 7)), some (.int ((((zg_i q18 0 7) - (zg_i q10.2 0 7)) / 4) - 1)), some (.long q22), none, some (.int e9)], [.int 0, .ref 0], [], q24) rfl trivial ?_
                obtain ⟨q25, hc, h⟩ := zk_bind h
                refine hr.2.2.1 _ _ _ _ _ (d + 8) rfl (by omega) (c_g_R_write (l := l) (E := E) (d := d + 8) hc) (fun v S hq => ?_)
                obtain ⟨rfl, rfl⟩ := hq
                clear hc
                refine hr.1 2 True _ _ (254, [some (.ref 0), some (.int x1), some (.int x2), some (.int x3), some (.int q10.1), some (.int (zg_i q10.2 0 7)), some (.int ((((zg_i q18 0 7) - (zg_i q10.2 0 7)) / 4) - 1)), some (.long q22), none, some (.int e9)], [.int x1, .ref 0], [], q25) rfl trivial ?_
                obtain ⟨q26, hc, h⟩ := zk_bind h
                refine hr.2.2.1 _ _ _ _ _ (d + 8) rfl (by omega) (c_g_R_write (l := l) (E := E) (d := d + 8) hc) (fun v S hq => ?_)
                obtain ⟨rfl, rfl⟩ := hq
                clear hc
                refine hr.1 2 True _ _ (260, [some (.ref 0), some (.int x1), some (.int x2), some (.int x3), some (.int q10.1), some (.int (zg_i q10.2 0 7)), some (.int ((((zg_i q18 0 7) - (zg_i q10.2 0 7)) / 4) - 1)), some (.long q22), none, some (.int e9)], [.int 89, .ref 0], [], q26) rfl trivial ?_
                obtain ⟨q27, hc, h⟩ := zk_bind h
                refine hr.2.2.1 _ _ _ _ _ (d + 8) rfl (by omega) (c_g_R_write (l := l) (E := E) (d := d + 8) hc) (fun v S hq => ?_)
                obtain ⟨rfl, rfl⟩ := hq
                clear hc
                refine hr.1 2 True _ _ (266, [some (.ref 0), some (.int x1), some (.int x2), some (.int x3), some (.int q10.1), some (.int (zg_i q10.2 0 7)), some (.int ((((zg_i q18 0 7) - (zg_i q10.2 0 7)) / 4) - 1)), some (.long q22), none, some (.int e9)], [.int 90, .ref 0], [], q27) rfl trivial ?_
                obtain ⟨q28, hc, h⟩ := zk_bind h
                refine hr.2.2.1 _ _ _ _ _ (d + 8) rfl (by omega) (c_g_R_write (l := l) (E := E) (d := d + 8) hc) (fun v S hq => ?_)
                obtain ⟨rfl, rfl⟩ := hq
                clear hc
                refine hr.1 3 True _ _ (276, [some (.ref 0), some (.int x1), some (.int x2), some (.int x3), some (.int q10.1), some (.int (zg_i q10.2 0 7)), some (.int ((((zg_i q18 0 7) - (zg_i q10.2 0 7)) / 4) - 1)), some (.long q22), none, some (.int e9)], [.int 640, .int (zg_i q28 0 7)], [], q28) rfl trivial ?_
                refine hr.2.1 _ (zg_i q28 0 7 ≤ 640) _ _ rfl (fun c276 => ?_) (fun c276 => ?_)
                · replace h := zk_t h c276
                  refine hr.1 6 True _ _ (293, [some (.ref 0), some (.int x1), some (.int x2), some (.int x3), some (.int q10.1), some (.int (zg_i q10.2 0 7)), some (.int ((((zg_i q18 0 7) - (zg_i q10.2 0 7)) / 4) - 1)), some (.long q22), none, some (.int 0)], [], [], zp_i q28 0 3 (zg_i q28 0 7)) rfl trivial ?_
                  obtain ⟨q29, hc, h⟩ := zk_bind h
                  refine loop293 10000 0 (zp_i q28 0 3 (zg_i q28 0 7)) x1 x2 x3 q10.1 (zg_i q10.2 0 7) ((((zg_i q18 0 7) - (zg_i q10.2 0 7)) / 4) - 1) q22 q29 hc (fun e9 => ?_)
                  clear hc
                  refine hr.1 2 True _ _ (326, [some (.ref 0), some (.int x1), some (.int x2), some (.int x3), some (.int q10.1), some (.int (zg_i q10.2 0 7)), some (.int ((((zg_i q18 0 7) - (zg_i q10.2 0 7)) / 4) - 1)), some (.long q22), none, some (.int e9)], [.int (zg_i q29 0 3)], [], q29) rfl trivial ?_
                  exact hr.2.2.2 _ _ _ rfl trivial ⟨(congrArg (fun x => some (Value.int x.1)) (Option.some.inj h)), (congrArg (fun x => (([], x.2) : zx_S)) (Option.some.inj h))⟩
                · replace h := zk_f h c276
                  refine hr.1 1 True _ _ (281, [some (.ref 0), some (.int x1), some (.int x2), some (.int x3), some (.int q10.1), some (.int (zg_i q10.2 0 7)), some (.int ((((zg_i q18 0 7) - (zg_i q10.2 0 7)) / 4) - 1)), some (.long q22), none, some (.int e9)], [.int (-5)], [], q28) rfl trivial ?_
                  exact hr.2.2.2 _ _ _ rfl trivial ⟨(congrArg (fun x => some (Value.int x.1)) (Option.some.inj h)), (congrArg (fun x => (([], x.2) : zx_S)) (Option.some.inj h))⟩
              clear h
              have h := hj
              clear hj
              refine hr.2.1 _ (zg_i q13 0 1 ≤ 0) _ _ rfl (fun c126 => ?_) (fun c126 => ?_)
              · replace h := zk_t h c126
                replace h := Option.some.inj h
                subst h
                exact J143 trivial
              · replace h := zk_f h c126
                refine hr.1 2 True _ _ (132, [some (.ref 0), some (.int x1), some (.int x2), some (.int x3), some (.int q10.1), some (.int (zg_i q10.2 0 7)), none, none, none, none], [.int q10.1, .ref 0], [], q13) rfl trivial ?_
                obtain ⟨q14, hc, h⟩ := zk_bind h
                refine hr.2.2.1 _ _ _ _ _ (d + 8) rfl (by omega) (c_g_R_writeVli (l := l) (E := E) (d := d + 7) hc) (fun v S hq => ?_)
                obtain ⟨rfl, rfl⟩ := hq
                clear hc
                refine hr.1 3 True _ _ (140, [some (.ref 0), some (.int x1), some (.int x2), some (.int x3), some (.int q10.1), some (.int (zg_i q10.2 0 7)), none, none, none, none], [.int (zg_i q14 0 1), .ref 0], [], q14) rfl trivial ?_
                obtain ⟨q15, hc, h⟩ := zk_bind h
                refine hr.2.2.1 _ _ _ _ _ (d + 8) rfl (by omega) (c_g_R_writeVli (l := l) (E := E) (d := d + 7) hc) (fun v S hq => ?_)
                obtain ⟨rfl, rfl⟩ := hq
                clear hc
                replace h := Option.some.inj h
                subst h
                exact J143 trivial
            clear h
            have h := hj
            clear hj
            refine hr.2.1 _ (zg_i q11 0 1 ≤ 0) _ _ rfl (fun c111 => ?_) (fun c111 => ?_)
            · replace h := zk_t h c111
              refine hr.1 1 True _ _ (119, [some (.ref 0), some (.int x1), some (.int x2), some (.int x3), some (.int q10.1), some (.int (zg_i q10.2 0 7)), none, none, none, none], [.int 0, .ref 0], [], q11) rfl trivial ?_
              replace h := Option.some.inj h
              subst h
              exact J119 trivial
            · replace h := zk_f h c111
              refine hr.1 2 True _ _ (119, [some (.ref 0), some (.int x1), some (.int x2), some (.int x3), some (.int q10.1), some (.int (zg_i q10.2 0 7)), none, none, none, none], [.int 1, .ref 0], [], q11) rfl trivial ?_
              replace h := Option.some.inj h
              subst h
              exact J119 trivial
          clear h
          have h := hj
          clear hj
          refine hr.2.1 _ (zg_i q8 0 1 ≤ 0) _ _ rfl (fun c79 => ?_) (fun c79 => ?_)
          · replace h := zk_t h c79
            refine hr.1 1 True _ _ (93, [some (.ref 0), some (.int x1), some (.int x2), some (.int x3), some (.int e4), none, none, none, none, none], [.int 0], [], q8) rfl trivial ?_
            replace h := Option.some.inj h
            subst h
            exact J93 trivial
          · replace h := zk_f h c79
            refine hr.1 4 True _ _ (86, [some (.ref 0), some (.int x1), some (.int x2), some (.int x3), some (.int e4), none, none, none, none, none], [.int x3, .int x2, .int x1, .ref 0], [], q8) rfl trivial ?_
            obtain ⟨q9, hc, h⟩ := zk_bind h
            refine hr.2.2.1 _ _ _ _ _ (d + 8) rfl (by omega) (c_g_R_writeBlock (l := l) (E := E) (d := d) hc) (fun v S hq => ?_)
            obtain ⟨rfl, rfl⟩ := hq
            clear hc
            refine hr.1 1 True _ _ (93, [some (.ref 0), some (.int x1), some (.int x2), some (.int x3), some (.int e4), none, none, none, none, none], [.int q9.1], [], q9.2) rfl trivial ?_
            replace h := Option.some.inj h
            subst h
            exact J93 trivial
        · replace h := zk_f h c23
          refine hr.1 1 True _ _ (28, [some (.ref 0), some (.int x1), some (.int x2), some (.int x3), none, none, none, none, none, none], [.int (-3)], [], D) rfl trivial ?_
          exact hr.2.2.2 _ _ _ rfl trivial ⟨(congrArg (fun x => some (Value.int x.1)) (Option.some.inj h)), (congrArg (fun x => (([], x.2) : zx_S)) (Option.some.inj h))⟩
