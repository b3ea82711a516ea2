/-! Contracts (written by a program) -/
set_option maxRecDepth 100000 in
set_option maxHeartbeats 4000000 in
theorem c_g_R_zeros {l : Launch} {E : zx_E} {d : Nat} {x1 : Int32} {D : zx_D} {q : zx_D} (h : g_R_zeros x1 D = some q) : zx_MR l E 118 (d + 2) [.ref 0, .int x1] ([], D) (fun v S => v = none ∧ S = ([], q)) := by
  refine zx_ofR (K := ck_R_zeros) rfl (by decide +kernel) rfl ok_R_zeros (Nat.le_of_ble_eq_true rfl) (fun Zp hr => ?_)
  show Zp (0, [some (.ref 0), some (.int x1)], [], [], D)
  have loop0 : ∀ (x1 : Int32) (k : Nat) (D : zx_D) (q : zx_D), g_R_zeros_0 x1 k D = some q → (True → Zp (61, [some (.ref 0), some (.int x1)], [], [], q)) → Zp (0, [some (.ref 0), some (.int x1)], [], [], D) := by
    intro x1 k
    induction k with
    | zero => intro D q h hx; exact (zk_no h).elim
    | succ k ih =>
      intro D q h hx
      rw [g_R_zeros_0] at h
      refine hr.1 2 True _ _ (4, [some (.ref 0), some (.int x1)], [.int (zg_i D 0 29)], [], D) rfl trivial ?_
      refine hr.2.1 _ (¬ zg_i D 0 29 = 0) _ _ rfl (fun c4 => ?_) (fun c4 => ?_)
      · replace h := zk_t h c4
        replace h := Option.some.inj h
        subst h
        exact hx trivial
      · replace h := zk_f h c4
        refine hr.1 6 True _ _ (15, [some (.ref 0), some (.int x1)], [.int (zo_rem ((zg_i D 0 28) - x1) 4)], [], D) rfl trivial ?_
        refine hr.2.1 _ (zo_rem ((zg_i D 0 28) - x1) 4 = 0) _ _ rfl (fun c15 => ?_) (fun c15 => ?_)
        · replace h := zk_t h c15
          replace h := Option.some.inj h
          subst h
          exact hx trivial
        · replace h := zk_f h c15
          refine hr.1 2 True _ _ (20, [some (.ref 0), some (.int x1)], [.int 1, .ref 0], [], D) rfl trivial ?_
          obtain ⟨q2, hc, h⟩ := zk_bind h
          refine hr.2.2.1 _ _ _ _ _ (d + 1) rfl (by omega) (c_g_R_has (l := l) (E := E) (d := d) hc) (fun v S hq => ?_)
          obtain ⟨rfl, rfl⟩ := hq
          clear hc
          refine hr.2.1 _ (q2.1 = 0) _ _ rfl (fun c23 => ?_) (fun c23 => ?_)
          · replace h := zk_t h c23
            replace h := Option.some.inj h
            subst h
            exact hx trivial
          · replace h := zk_f h c23
            obtain ⟨w3, h⟩ := zk_ck h
            refine hr.1 5 True _ _ (35, [some (.ref 0), some (.int x1)], [.int (zg_i q2.2 2 (zn (zg_i q2.2 0 28)))], [], q2.2) rfl ⟨trivial, (zk_vp w3)⟩ ?_
            refine hr.2.1 _ (zg_i q2.2 2 (zn (zg_i q2.2 0 28)) = 0) _ _ rfl (fun c35 => ?_) (fun c35 => ?_)
            · replace h := zk_t h c35
              refine hr.1 7 True _ _ (0, [some (.ref 0), some (.int x1)], [], [], zp_i q2.2 0 28 ((zg_i q2.2 0 28) + 1)) rfl trivial ?_
              exact ih  (zp_i q2.2 0 28 ((zg_i q2.2 0 28) + 1)) _ h hx
            · replace h := zk_f h c35
              refine hr.1 4 True _ _ (45, [some (.ref 0), some (.int x1)], [.int (zg_i q2.2 0 28), .int (-3), .ref 0], [], q2.2) rfl trivial ?_
              obtain ⟨q3, hc, h⟩ := zk_bind h
              refine hr.2.2.1 _ _ _ _ _ (d + 1) rfl (by omega) (c_g_R_fail (l := l) (E := E) (d := d + 1) hc) (fun v S hq => ?_)
              obtain ⟨rfl, rfl⟩ := hq
              clear hc
              refine hr.1 7 True _ _ (0, [some (.ref 0), some (.int x1)], [], [], zp_i q3 0 28 ((zg_i q3 0 28) + 1)) rfl trivial ?_
              exact ih  (zp_i q3 0 28 ((zg_i q3 0 28) + 1)) _ h hx
  rw [g_R_zeros] at h
  refine hr.1 2 True _ _ (4, [some (.ref 0), some (.int x1)], [.int (zg_i D 0 29)], [], D) rfl trivial ?_
  refine hr.2.1 _ (¬ zg_i D 0 29 = 0) _ _ rfl (fun c4 => ?_) (fun c4 => ?_)
  · replace h := zk_t h c4
    exact hr.2.2.2 _ _ _ rfl trivial ⟨rfl, (congrArg (fun x => (([], x) : zx_S)) (Option.some.inj h))⟩
  · replace h := zk_f h c4
    refine hr.1 6 True _ _ (15, [some (.ref 0), some (.int x1)], [.int (zo_rem ((zg_i D 0 28) - x1) 4)], [], D) rfl trivial ?_
    refine hr.2.1 _ (zo_rem ((zg_i D 0 28) - x1) 4 = 0) _ _ rfl (fun c15 => ?_) (fun c15 => ?_)
    · replace h := zk_t h c15
      exact hr.2.2.2 _ _ _ rfl trivial ⟨rfl, (congrArg (fun x => (([], x) : zx_S)) (Option.some.inj h))⟩
    · replace h := zk_f h c15
      refine hr.1 2 True _ _ (20, [some (.ref 0), some (.int x1)], [.int 1, .ref 0], [], D) rfl trivial ?_
      obtain ⟨q1, hc, h⟩ := zk_bind h
      refine hr.2.2.1 _ _ _ _ _ (d + 1) rfl (by omega) (c_g_R_has (l := l) (E := E) (d := d) hc) (fun v S hq => ?_)
      obtain ⟨rfl, rfl⟩ := hq
      clear hc
      refine hr.2.1 _ (q1.1 = 0) _ _ rfl (fun c23 => ?_) (fun c23 => ?_)
      · replace h := zk_t h c23
        exact hr.2.2.2 _ _ _ rfl trivial ⟨rfl, (congrArg (fun x => (([], x) : zx_S)) (Option.some.inj h))⟩
      · replace h := zk_f h c23
        obtain ⟨w4, h⟩ := zk_ck h
        refine hr.1 5 True _ _ (35, [some (.ref 0), some (.int x1)], [.int (zg_i q1.2 2 (zn (zg_i q1.2 0 28)))], [], q1.2) rfl ⟨trivial, (zk_vp w4)⟩ ?_
        refine hr.2.1 _ (zg_i q1.2 2 (zn (zg_i q1.2 0 28)) = 0) _ _ rfl (fun c35 => ?_) (fun c35 => ?_)
        · replace h := zk_t h c35
          refine hr.1 7 True _ _ (0, [some (.ref 0), some (.int x1)], [], [], zp_i q1.2 0 28 ((zg_i q1.2 0 28) + 1)) rfl trivial ?_
          obtain ⟨q4, hc, h⟩ := zk_bind h
          refine loop0 x1 10000 (zp_i q1.2 0 28 ((zg_i q1.2 0 28) + 1)) q4 hc (fun _ => ?_)
          clear hc
          exact hr.2.2.2 _ _ _ rfl trivial ⟨rfl, (congrArg (fun x => (([], x) : zx_S)) (Option.some.inj h))⟩
        · replace h := zk_f h c35
          refine hr.1 4 True _ _ (45, [some (.ref 0), some (.int x1)], [.int (zg_i q1.2 0 28), .int (-3), .ref 0], [], q1.2) rfl trivial ?_
          obtain ⟨q5, hc, h⟩ := zk_bind h
          refine hr.2.2.1 _ _ _ _ _ (d + 1) rfl (by omega) (c_g_R_fail (l := l) (E := E) (d := d + 1) hc) (fun v S hq => ?_)
          obtain ⟨rfl, rfl⟩ := hq
          clear hc
          refine hr.1 7 True _ _ (0, [some (.ref 0), some (.int x1)], [], [], zp_i q5 0 28 ((zg_i q5 0 28) + 1)) rfl trivial ?_
          obtain ⟨q6, hc, h⟩ := zk_bind h
          refine loop0 x1 10000 (zp_i q5 0 28 ((zg_i q5 0 28) + 1)) q6 hc (fun _ => ?_)
          clear hc
          exact hr.2.2.2 _ _ _ rfl trivial ⟨rfl, (congrArg (fun x => (([], x) : zx_S)) (Option.some.inj h))⟩
set_option maxRecDepth 100000 in
set_option maxHeartbeats 4000000 in
theorem c_g_R_eightOfMade {l : Launch} {E : zx_E} {d : Nat} {x1 : Int32} {D : zx_D} {q : Int64} (h : g_R_eightOfMade x1 D = some q) : zx_MR l E 111 (d + 1) [.ref 0, .int x1] ([], D) (fun v S => v = some (.long q) ∧ S = ([], D)) := by
  refine zx_ofR (K := ck_R_eightOfMade) rfl (by decide +kernel) rfl ok_R_eightOfMade (Nat.le_of_ble_eq_true rfl) (fun Zp hr => ?_)
  show Zp (0, [some (.ref 0), some (.int x1), none, none, none], [], [], D)
  have loop7 : ∀ (D : zx_D) (k : Nat) (x2 : Int64) (x4 : Int32) (x1 : Int32) (q : Int64), g_R_eightOfMade_7 D k x2 x4 = some q → (∀ (e4 : Int32), Zp (34, [some (.ref 0), some (.int x1), some (.long q), none, some (.int e4)], [], [], D)) → Zp (7, [some (.ref 0), some (.int x1), some (.long x2), none, some (.int x4)], [], [], D) := by
    intro D k
    induction k with
    | zero => intro x2 x4 x1 q h hx; exact (zk_no h).elim
    | succ k ih =>
      intro x2 x4 x1 q h hx
      rw [g_R_eightOfMade_7] at h
      refine hr.1 3 True _ _ (13, [some (.ref 0), some (.int x1), some (.long x2), none, some (.int x4)], [.int (zg_i D 0 5), .int x4], [], D) rfl trivial ?_
      refine hr.2.1 _ (zg_i D 0 5 ≤ x4) _ _ rfl (fun c13 => ?_) (fun c13 => ?_)
      · replace h := zk_t h c13
        replace h := Option.some.inj h
        subst h
        exact hx x4
      · replace h := zk_f h c13
        obtain ⟨w2, h⟩ := zk_ck h
        refine hr.1 5 True _ _ (24, [some (.ref 0), some (.int x1), some (.long x2), none, some (.int x4)], [.int (zg_i D 3 (zn x4)), .long x2], [], D) rfl ⟨trivial, (zk_vp w2)⟩ ?_
        obtain ⟨q1, hc, h⟩ := zk_bind h
        refine hr.2.2.1 _ _ _ _ _ (d) rfl (by omega) (c_g_R_eight (l := l) (E := E) (d := d) hc) (fun v S hq => ?_)
        obtain ⟨rfl, rfl⟩ := hq
        clear hc
        refine hr.1 3 True _ _ (7, [some (.ref 0), some (.int x1), some (.long q1), none, some (.int (x4 + 1))], [], [], D) rfl trivial ?_
        exact ih q1 (x4 + 1)  _ _ h hx
  rw [g_R_eightOfMade] at h
  refine hr.1 4 True _ _ (7, [some (.ref 0), some (.int x1), some (.long (-1)), none, some (.int x1)], [], [], D) rfl trivial ?_
  obtain ⟨q2, hc, h⟩ := zk_bind h
  refine loop7 D 10000 (-1) x1 x1 q2 hc (fun e4 => ?_)
  clear hc
  refine hr.1 3 True _ _ (39, [some (.ref 0), some (.int x1), some (.long q2), none, some (.int e4)], [.long (q2 ^^^ (-1))], [], D) rfl trivial ?_
  exact hr.2.2.2 _ _ _ rfl trivial ⟨(congrArg (fun x => some (Value.long x)) (Option.some.inj h)), rfl⟩
set_option maxRecDepth 100000 in
set_option maxHeartbeats 4000000 in
theorem c_g_R_fourOfMade {l : Launch} {E : zx_E} {d : Nat} {x1 : Int32} {D : zx_D} {q : Int64} (h : g_R_fourOfMade x1 D = some q) : zx_MR l E 110 (d + 1) [.ref 0, .int x1] ([], D) (fun v S => v = some (.long q) ∧ S = ([], D)) := by
  refine zx_ofR (K := ck_R_fourOfMade) rfl (by decide +kernel) rfl ok_R_fourOfMade (Nat.le_of_ble_eq_true rfl) (fun Zp hr => ?_)
  show Zp (0, [some (.ref 0), some (.int x1), none, none, none], [], [], D)
  have loop7 : ∀ (D : zx_D) (k : Nat) (x2 : Int64) (x4 : Int32) (x1 : Int32) (q : Int64), g_R_fourOfMade_7 D k x2 x4 = some q → (∀ (e4 : Int32), Zp (34, [some (.ref 0), some (.int x1), some (.long q), none, some (.int e4)], [], [], D)) → Zp (7, [some (.ref 0), some (.int x1), some (.long x2), none, some (.int x4)], [], [], D) := by
    intro D k
    induction k with
    | zero => intro x2 x4 x1 q h hx; exact (zk_no h).elim
    | succ k ih =>
      intro x2 x4 x1 q h hx
      rw [g_R_fourOfMade_7] at h
      refine hr.1 3 True _ _ (13, [some (.ref 0), some (.int x1), some (.long x2), none, some (.int x4)], [.int (zg_i D 0 5), .int x4], [], D) rfl trivial ?_
      refine hr.2.1 _ (zg_i D 0 5 ≤ x4) _ _ rfl (fun c13 => ?_) (fun c13 => ?_)
      · replace h := zk_t h c13
        replace h := Option.some.inj h
        subst h
        exact hx x4
      · replace h := zk_f h c13
        obtain ⟨w2, h⟩ := zk_ck h
        refine hr.1 5 True _ _ (24, [some (.ref 0), some (.int x1), some (.long x2), none, some (.int x4)], [.int (zg_i D 3 (zn x4)), .long x2], [], D) rfl ⟨trivial, (zk_vp w2)⟩ ?_
        obtain ⟨q1, hc, h⟩ := zk_bind h
        refine hr.2.2.1 _ _ _ _ _ (d) rfl (by omega) (c_g_R_four (l := l) (E := E) (d := d) hc) (fun v S hq => ?_)
        obtain ⟨rfl, rfl⟩ := hq
        clear hc
        refine hr.1 3 True _ _ (7, [some (.ref 0), some (.int x1), some (.long q1), none, some (.int (x4 + 1))], [], [], D) rfl trivial ?_
        exact ih q1 (x4 + 1)  _ _ h hx
  rw [g_R_fourOfMade] at h
  refine hr.1 4 True _ _ (7, [some (.ref 0), some (.int x1), some (.long 4294967295), none, some (.int x1)], [], [], D) rfl trivial ?_
  obtain ⟨q2, hc, h⟩ := zk_bind h
  refine loop7 D 10000 4294967295 x1 x1 q2 hc (fun e4 => ?_)
  clear hc
  refine hr.1 3 True _ _ (39, [some (.ref 0), some (.int x1), some (.long q2), none, some (.int e4)], [.long (q2 ^^^ 4294967295)], [], D) rfl trivial ?_
  exact hr.2.2.2 _ _ _ rfl trivial ⟨(congrArg (fun x => some (Value.long x)) (Option.some.inj h)), rfl⟩
set_option maxRecDepth 100000 in
set_option maxHeartbeats 4000000 in
theorem c_g_R_block {l : Launch} {E : zx_E} {d : Nat} {D : zx_D} {q : zx_D} (h : g_R_block D = some q) : zx_MR l E 123 (d + 8) [.ref 0] ([], D) (fun v S => v = none ∧ S = ([], q)) := by
  refine zx_ofR (K := ck_R_block) rfl (by decide +kernel) rfl ok_R_block (Nat.le_of_ble_eq_true rfl) (fun Zp hr => ?_)
  show Zp (0, [some (.ref 0), none, none, none, none, none, none, none, none, none, none, none, none, none], [], [], D)
  have loop243 : ∀ (x1 : Int32) (x3 : Int32) (x5 : Int64) (x7 : Int64) (k : Nat) (D : zx_D) (o9 : Option Value) (x2 : Int32) (x4 : Int32) (q : zx_D), g_R_block_243 x1 x3 x5 x7 k D = some q → (True → Zp (281, [some (.ref 0), some (.int x1), some (.int x2), some (.int x3), some (.int x4), some (.long x5), none, some (.long x7), none, o9, none, none, none, none], [], [], q)) → Zp (243, [some (.ref 0), some (.int x1), some (.int x2), some (.int x3), some (.int x4), some (.long x5), none, some (.long x7), none, o9, none, none, none, none], [], [], D) := by
    intro x1 x3 x5 x7 k
    induction k with
    | zero => intro D o9 x2 x4 q h hx; exact (zk_no h).elim
    | succ k ih =>
      intro D o9 x2 x4 q h hx
      rw [g_R_block_243] at h
      refine hr.1 2 True _ _ (247, [some (.ref 0), some (.int x1), some (.int x2), some (.int x3), some (.int x4), some (.long x5), none, some (.long x7), none, o9, none, none, none, none], [.int (zg_i D 0 29)], [], D) rfl trivial ?_
      refine hr.2.1 _ (¬ zg_i D 0 29 = 0) _ _ rfl (fun c247 => ?_) (fun c247 => ?_)
      · replace h := zk_t h c247
        replace h := Option.some.inj h
        subst h
        exact hx trivial
      · replace h := zk_f h c247
        refine hr.1 3 True _ _ (255, [some (.ref 0), some (.int x1), some (.int x2), some (.int x3), some (.int x4), some (.long x5), none, some (.long x7), none, o9, none, none, none, none], [.int x3, .int (zg_i D 0 28)], [], D) rfl trivial ?_
        refine hr.2.1 _ (x3 ≤ zg_i D 0 28) _ _ rfl (fun c255 => ?_) (fun c255 => ?_)
        · replace h := zk_t h c255
          replace h := Option.some.inj h
          subst h
          exact hx trivial
        · replace h := zk_f h c255
          refine hr.1 2 True _ _ (260, [some (.ref 0), some (.int x1), some (.int x2), some (.int x3), some (.int x4), some (.long x5), none, some (.long x7), none, o9, none, none, none, none], [.int x3, .ref 0], [], D) rfl trivial ?_
          obtain ⟨q18, hc, h⟩ := zk_bind h
          refine hr.2.2.1 _ _ _ _ _ (d + 7) rfl (by omega) (c_g_R_headByte (l := l) (E := E) (d := d + 6) hc) (fun v S hq => ?_)
          obtain ⟨rfl, rfl⟩ := hq
          clear hc
          refine hr.2.1 _ (q18.1 = 0) _ _ rfl (fun c263 => ?_) (fun c263 => ?_)
          · replace h := zk_t h c263
            exact ih  q18.2 _ _ _ _ h hx
          · replace h := zk_f h c263
            refine hr.1 6 True _ _ (275, [some (.ref 0), some (.int x1), some (.int x2), some (.int x3), some (.int x4), some (.long x5), none, some (.long x7), none, o9, none, none, none, none], [.int ((zg_i q18.2 0 28) - 1), .int (-3), .ref 0], [], q18.2) rfl trivial ?_
            obtain ⟨q19, hc, h⟩ := zk_bind h
            refine hr.2.2.1 _ _ _ _ _ (d + 7) rfl (by omega) (c_g_R_fail (l := l) (E := E) (d := d + 7) hc) (fun v S hq => ?_)
            obtain ⟨rfl, rfl⟩ := hq
            clear hc
            refine hr.1 1 True _ _ (243, [some (.ref 0), some (.int x1), some (.int x2), some (.int x3), some (.int x4), some (.long x5), none, some (.long x7), none, o9, none, none, none, none], [], [], q19) rfl trivial ?_
            exact ih  q19 _ _ _ _ h hx
  have loop324 : ∀ (x1 : Int32) (x5 : Int64) (x7 : Int64) (x9 : Int32) (x10 : Int32) (k : Nat) (x11 : Int32) (D : zx_D) (x2 : Int32) (x3 : Int32) (x4 : Int32) (q : zx_D), g_R_block_324 x1 x5 x7 x9 x10 k x11 D = some q → (∀ (e11 : Int32), Zp (353, [some (.ref 0), some (.int x1), some (.int x2), some (.int x3), some (.int x4), some (.long x5), none, some (.long x7), none, some (.int x9), some (.int x10), some (.int e11), none, none], [], [], q)) → Zp (324, [some (.ref 0), some (.int x1), some (.int x2), some (.int x3), some (.int x4), some (.long x5), none, some (.long x7), none, some (.int x9), some (.int x10), some (.int x11), none, none], [], [], D) := by
    intro x1 x5 x7 x9 x10 k
    induction k with
    | zero => intro x11 D x2 x3 x4 q h hx; exact (zk_no h).elim
    | succ k ih =>
      intro x11 D x2 x3 x4 q h hx
      rw [g_R_block_324] at h
      refine hr.1 1 True _ _ (326, [some (.ref 0), some (.int x1), some (.int x2), some (.int x3), some (.int x4), some (.long x5), none, some (.long x7), none, some (.int x9), some (.int x10), some (.int x11), none, none], [.int x11], [], D) rfl trivial ?_
      refine hr.2.1 _ (x11 = 0) _ _ rfl (fun c326 => ?_) (fun c326 => ?_)
      · replace h := zk_t h c326
        replace h := Option.some.inj h
        subst h
        exact hx x11
      · replace h := zk_f h c326
        refine hr.1 1 True _ _ (330, [some (.ref 0), some (.int x1), some (.int x2), some (.int x3), some (.int x4), some (.long x5), none, some (.long x7), none, some (.int x9), some (.int x10), some (.int x11), none, none], [.ref 0], [], D) rfl trivial ?_
        obtain ⟨q22, hc, h⟩ := zk_bind h
        refine hr.2.2.1 _ _ _ _ _ (d + 7) rfl (by omega) (c_g_R_chunk (l := l) (E := E) (d := d) hc) (fun v S hq => ?_)
        obtain ⟨rfl, rfl⟩ := hq
        clear hc
        refine hr.2.1 _ (q22.1 = 0) _ _ rfl (fun c333 => ?_) (fun c333 => ?_)
        · replace h := zk_t h c333
          refine hr.1 3 True _ _ (324, [some (.ref 0), some (.int x1), some (.int x2), some (.int x3), some (.int x4), some (.long x5), none, some (.long x7), none, some (.int x9), some (.int x10), some (.int 0), none, none], [], [], q22.2) rfl trivial ?_
          exact ih 0 q22.2 _ _ _ _ h hx
        · replace h := zk_f h c333
          refine hr.1 2 True _ _ (340, [some (.ref 0), some (.int x1), some (.int x2), some (.int x3), some (.int x4), some (.long x5), none, some (.long x7), none, some (.int x9), some (.int x10), some (.int x11), none, none], [.int (zg_i q22.2 0 29)], [], q22.2) rfl trivial ?_
          refine hr.2.1 _ (¬ zg_i q22.2 0 29 = 0) _ _ rfl (fun c340 => ?_) (fun c340 => ?_)
          · replace h := zk_t h c340
            refine hr.1 3 True _ _ (324, [some (.ref 0), some (.int x1), some (.int x2), some (.int x3), some (.int x4), some (.long x5), none, some (.long x7), none, some (.int x9), some (.int x10), some (.int 0), none, none], [], [], q22.2) rfl trivial ?_
            exact ih 0 q22.2 _ _ _ _ h hx
          · replace h := zk_f h c340
            refine hr.1 4 True _ _ (324, [some (.ref 0), some (.int x1), some (.int x2), some (.int x3), some (.int x4), some (.long x5), none, some (.long x7), none, some (.int x9), some (.int x10), some (.int 1), none, none], [], [], q22.2) rfl trivial ?_
            exact ih 1 q22.2 _ _ _ _ h hx
  have jump532 : ∀ (x10 : Int32) (x12 : Int32) (x13 : Int32) (D : zx_D) (x1 : Int32) (x2 : Int32) (x3 : Int32) (x4 : Int32) (x5 : Int64) (x7 : Int64) (x9 : Int32) (x11 : Int32), g_R_block_532 x10 x12 x13 D = some q → Zp (532, [some (.ref 0), some (.int x1), some (.int x2), some (.int x3), some (.int x4), some (.long x5), none, some (.long x7), none, some (.int x9), some (.int x10), some (.int x11), some (.int x12), some (.int x13)], [], [], D) := by
    intro x10 x12 x13 D x1 x2 x3 x4 x5 x7 x9 x11 h
    rw [g_R_block_532] at h
    obtain ⟨w5, h⟩ := zk_ck h
    obtain ⟨w6, h⟩ := zk_ck h
    refine hr.1 37 True _ _ (594, [some (.ref 0), some (.int x1), some (.int x2), some (.int x3), some (.int x4), some (.long x5), none, some (.long x7), none, some (.int x9), some (.int x10), some (.int x11), some (.int x12), some (.int x13)], [], [], zp_i (zp_i (zp_i (zp_i (zp_i D 0 28 ((zg_i D 0 28) + x13)) 7 (zn (zg_i D 0 32)) (x12 + x13)) 8 (zn (zg_i D 0 32)) ((zg_i D 0 5) - x10)) 0 32 ((zg_i D 0 32) + 1)) 9 (zn 10) ((zg_i D 9 (zn 10)) + 1)) rfl ⟨⟨⟨⟨trivial, (zk_vp w5)⟩, (zk_vp w6)⟩, (zk_vp rfl)⟩, (zk_vp rfl)⟩ ?_
    exact hr.2.2.2 _ _ _ rfl trivial ⟨rfl, (congrArg (fun x => (([], x) : zx_S)) (Option.some.inj h))⟩
  have jump493 : ∀ (x10 : Int32) (x12 : Int32) (x13 : Int32) (D : zx_D) (x1 : Int32) (x2 : Int32) (x3 : Int32) (x4 : Int32) (x5 : Int64) (x7 : Int64) (x9 : Int32) (x11 : Int32), g_R_block_493 x10 x12 x13 D = some q → Zp (493, [some (.ref 0), some (.int x1), some (.int x2), some (.int x3), some (.int x4), some (.long x5), none, some (.long x7), none, some (.int x9), some (.int x10), some (.int x11), some (.int x12), some (.int x13)], [], [], D) := by
    intro x10 x12 x13 D x1 x2 x3 x4 x5 x7 x9 x11 h
    rw [g_R_block_493] at h
    refine hr.1 3 True _ _ (498, [some (.ref 0), some (.int x1), some (.int x2), some (.int x3), some (.int x4), some (.long x5), none, some (.long x7), none, some (.int x9), some (.int x10), some (.int x11), some (.int x12), some (.int x13)], [.int 4, .int (zg_i D 0 31)], [], D) rfl trivial ?_
    refine hr.2.1 _ (¬ zg_i D 0 31 = 4) _ _ rfl (fun c498 => ?_) (fun c498 => ?_)
    · replace h := zk_t h c498
      exact jump532 x10 x12 x13 D x1 x2 x3 x4 x5 x7 x9 x11 h
    · replace h := zk_f h c498
      refine hr.1 4 True _ _ (508, [some (.ref 0), some (.int x1), some (.int x2), some (.int x3), some (.int x4), some (.long x5), none, some (.long x7), none, some (.int x9), some (.int x10), some (.int x11), some (.int x12), some (.int x13)], [.int 8, .int (zg_i D 0 28), .ref 0], [], D) rfl trivial ?_
      obtain ⟨q32, hc, h⟩ := zk_bind h
      refine hr.2.2.1 _ _ _ _ _ (d + 7) rfl (by omega) (c_g_R_number (l := l) (E := E) (d := d + 7) hc) (fun v S hq => ?_)
      obtain ⟨rfl, rfl⟩ := hq
      clear hc
      refine hr.1 2 True _ _ (514, [some (.ref 0), some (.int x1), some (.int x2), some (.int x3), some (.int x4), some (.long x5), none, some (.long x7), none, some (.int x9), some (.int x10), some (.int x11), some (.int x12), some (.int x13)], [.int x10, .ref 0, .long q32], [], D) rfl trivial ?_
      obtain ⟨q33, hc, h⟩ := zk_bind h
      refine hr.2.2.1 _ _ _ _ _ (d + 7) rfl (by omega) (c_g_R_eightOfMade (l := l) (E := E) (d := d + 6) hc) (fun v S hq => ?_)
      obtain ⟨rfl, rfl⟩ := hq
      clear hc
      refine hr.2.1 _ (q32 = q33) _ _ rfl (fun c517 => ?_) (fun c517 => ?_)
      · replace h := zk_t h c517
        exact jump532 x10 x12 x13 D x1 x2 x3 x4 x5 x7 x9 x11 h
      · replace h := zk_f h c517
        refine hr.1 4 True _ _ (528, [some (.ref 0), some (.int x1), some (.int x2), some (.int x3), some (.int x4), some (.long x5), none, some (.long x7), none, some (.int x9), some (.int x10), some (.int x11), some (.int x12), some (.int x13)], [.int (zg_i D 0 28), .int (-4), .ref 0], [], D) rfl trivial ?_
        obtain ⟨q34, hc, h⟩ := zk_bind h
        refine hr.2.2.1 _ _ _ _ _ (d + 7) rfl (by omega) (c_g_R_fail (l := l) (E := E) (d := d + 7) hc) (fun v S hq => ?_)
        obtain ⟨rfl, rfl⟩ := hq
        clear hc
        exact hr.2.2.2 _ _ _ rfl trivial ⟨rfl, (congrArg (fun x => (([], x) : zx_S)) (Option.some.inj h))⟩
  rw [g_R_block] at h
  obtain ⟨w7, h⟩ := zk_ck h
  refine hr.1 21 True _ _ (27, [some (.ref 0), some (.int (zg_i D 0 28)), some (.int (zg_i D 2 (zn (zg_i D 0 28)))), some (.int ((zg_i D 0 28) + (4 * (zg_i D 2 (zn (zg_i D 0 28)))))), none, none, none, none, none, none, none, none, none, none], [.int (4 * ((zg_i D 2 (zn (zg_i D 0 28))) + 1)), .ref 0], [], D) rfl ⟨trivial, (zk_vp w7)⟩ ?_
  obtain ⟨q1, hc, h⟩ := zk_bind h
  refine hr.2.2.1 _ _ _ _ _ (d + 7) rfl (by omega) (c_g_R_has (l := l) (E := E) (d := d + 6) hc) (fun v S hq => ?_)
  obtain ⟨rfl, rfl⟩ := hq
  clear hc
  refine hr.2.1 _ (¬ q1.1 = 0) _ _ rfl (fun c30 => ?_) (fun c30 => ?_)
  · replace h := zk_t h c30
    refine hr.1 3 True _ _ (37, [some (.ref 0), some (.int (zg_i D 0 28)), some (.int (zg_i D 2 (zn (zg_i D 0 28)))), some (.int ((zg_i D 0 28) + (4 * (zg_i D 2 (zn (zg_i D 0 28)))))), none, none, none, none, none, none, none, none, none, none], [.int 4, .int ((zg_i D 0 28) + (4 * (zg_i D 2 (zn (zg_i D 0 28))))), .ref 0], [], q1.2) rfl trivial ?_
    obtain ⟨q2, hc, h⟩ := zk_bind h
    refine hr.2.2.1 _ _ _ _ _ (d + 7) rfl (by omega) (c_g_R_number (l := l) (E := E) (d := d + 7) hc) (fun v S hq => ?_)
    obtain ⟨rfl, rfl⟩ := hq
    clear hc
    refine hr.1 3 True _ _ (43, [some (.ref 0), some (.int (zg_i D 0 28)), some (.int (zg_i D 2 (zn (zg_i D 0 28)))), some (.int ((zg_i D 0 28) + (4 * (zg_i D 2 (zn (zg_i D 0 28)))))), none, none, none, none, none, none, none, none, none, none], [.int ((zg_i D 0 28) + (4 * (zg_i D 2 (zn (zg_i D 0 28))))), .int (zg_i D 0 28), .ref 0, .long q2], [], q1.2) rfl trivial ?_
    obtain ⟨q3, hc, h⟩ := zk_bind h
    refine hr.2.2.1 _ _ _ _ _ (d + 7) rfl (by omega) (c_g_R_fourOfPacked (l := l) (E := E) (d := d + 6) hc) (fun v S hq => ?_)
    obtain ⟨rfl, rfl⟩ := hq
    clear hc
    refine hr.2.1 _ (q2 = q3) _ _ rfl (fun c46 => ?_) (fun c46 => ?_)
    · replace h := zk_t h c46
      obtain ⟨w8, h⟩ := zk_ck h
      refine hr.1 14 True _ _ (81, [some (.ref 0), some (.int (zg_i D 0 28)), some (.int (zg_i D 2 (zn (zg_i D 0 28)))), some (.int ((zg_i D 0 28) + (4 * (zg_i D 2 (zn (zg_i D 0 28)))))), some (.int (zg_i q1.2 2 (zn ((zg_i D 0 28) + 1)))), none, none, none, none, none, none, none, none, none], [.int ((zg_i q1.2 2 (zn ((zg_i D 0 28) + 1))) &&& 63)], [], zp_i q1.2 0 28 ((zg_i D 0 28) + 1)) rfl ⟨trivial, (zk_vp w8)⟩ ?_
      refine hr.2.1 _ ((zg_i q1.2 2 (zn ((zg_i D 0 28) + 1))) &&& 63 = 0) _ _ rfl (fun c81 => ?_) (fun c81 => ?_)
      · replace h := zk_t h c81
        refine hr.1 13 True _ _ (120, [some (.ref 0), some (.int (zg_i D 0 28)), some (.int (zg_i D 2 (zn (zg_i D 0 28)))), some (.int ((zg_i D 0 28) + (4 * (zg_i D 2 (zn (zg_i D 0 28)))))), some (.int (zg_i q1.2 2 (zn ((zg_i D 0 28) + 1)))), some (.long (-1)), none, some (.long (-1)), none, none, none, none, none, none], [.int ((zg_i q1.2 2 (zn ((zg_i D 0 28) + 1))) &&& 64)], [], zp_i (zp_i q1.2 0 28 ((zg_i D 0 28) + 1)) 0 28 (((zg_i D 0 28) + 1) + 1)) rfl trivial ?_
        obtain ⟨q6, hj, h⟩ := zk_bind h
        have J153 : ∀ (o9 : Option Value), Zp (153, [some (.ref 0), some (.int (zg_i D 0 28)), some (.int (zg_i D 2 (zn (zg_i D 0 28)))), some (.int ((zg_i D 0 28) + (4 * (zg_i D 2 (zn (zg_i D 0 28)))))), some (.int (zg_i q1.2 2 (zn ((zg_i D 0 28) + 1)))), some (.long q6.1), none, some (.long (-1)), none, o9, none, none, none, none], [], [], q6.2) := by
          intro o9
          refine hr.1 3 True _ _ (159, [some (.ref 0), some (.int (zg_i D 0 28)), some (.int (zg_i D 2 (zn (zg_i D 0 28)))), some (.int ((zg_i D 0 28) + (4 * (zg_i D 2 (zn (zg_i D 0 28)))))), some (.int (zg_i q1.2 2 (zn ((zg_i D 0 28) + 1)))), some (.long q6.1), none, some (.long (-1)), none, o9, none, none, none, none], [.int ((zg_i q1.2 2 (zn ((zg_i D 0 28) + 1))) &&& 128)], [], q6.2) rfl trivial ?_
          obtain ⟨q8, hj, h⟩ := zk_bind h
          have J178 : ∀ (_ : True), Zp (178, [some (.ref 0), some (.int (zg_i D 0 28)), some (.int (zg_i D 2 (zn (zg_i D 0 28)))), some (.int ((zg_i D 0 28) + (4 * (zg_i D 2 (zn (zg_i D 0 28)))))), some (.int (zg_i q1.2 2 (zn ((zg_i D 0 28) + 1)))), some (.long q6.1), none, some (.long q8.1), none, o9, none, none, none, none], [], [], q8.2) := by
            intro _
            refine hr.1 2 True _ _ (180, [some (.ref 0), some (.int (zg_i D 0 28)), some (.int (zg_i D 2 (zn (zg_i D 0 28)))), some (.int ((zg_i D 0 28) + (4 * (zg_i D 2 (zn (zg_i D 0 28)))))), some (.int (zg_i q1.2 2 (zn ((zg_i D 0 28) + 1)))), some (.long q6.1), none, some (.long q8.1), none, o9, none, none, none, none], [.int ((zg_i D 0 28) + (4 * (zg_i D 2 (zn (zg_i D 0 28))))), .ref 0], [], q8.2) rfl trivial ?_
            obtain ⟨q9, hc, h⟩ := zk_bind h
            refine hr.2.2.1 _ _ _ _ _ (d + 7) rfl (by omega) (c_g_R_headByte (l := l) (E := E) (d := d + 6) hc) (fun v S hq => ?_)
            obtain ⟨rfl, rfl⟩ := hq
            clear hc
            refine hr.1 1 True _ _ (185, [some (.ref 0), some (.int (zg_i D 0 28)), some (.int (zg_i D 2 (zn (zg_i D 0 28)))), some (.int ((zg_i D 0 28) + (4 * (zg_i D 2 (zn (zg_i D 0 28)))))), some (.int (zg_i q1.2 2 (zn ((zg_i D 0 28) + 1)))), some (.long q6.1), none, some (.long q8.1), none, o9, none, none, none, none], [.int 33, .int q9.1], [], q9.2) rfl trivial ?_
            obtain ⟨q11, hj, h⟩ := zk_bind h
            have J200 : ∀ (_ : True), Zp (200, [some (.ref 0), some (.int (zg_i D 0 28)), some (.int (zg_i D 2 (zn (zg_i D 0 28)))), some (.int ((zg_i D 0 28) + (4 * (zg_i D 2 (zn (zg_i D 0 28)))))), some (.int (zg_i q1.2 2 (zn ((zg_i D 0 28) + 1)))), some (.long q6.1), none, some (.long q8.1), none, o9, none, none, none, none], [], [], q11) := by
              intro _
              refine hr.1 2 True _ _ (202, [some (.ref 0), some (.int (zg_i D 0 28)), some (.int (zg_i D 2 (zn (zg_i D 0 28)))), some (.int ((zg_i D 0 28) + (4 * (zg_i D 2 (zn (zg_i D 0 28)))))), some (.int (zg_i q1.2 2 (zn ((zg_i D 0 28) + 1)))), some (.long q6.1), none, some (.long q8.1), none, o9, none, none, none, none], [.int ((zg_i D 0 28) + (4 * (zg_i D 2 (zn (zg_i D 0 28))))), .ref 0], [], q11) rfl trivial ?_
              obtain ⟨q12, hc, h⟩ := zk_bind h
              refine hr.2.2.1 _ _ _ _ _ (d + 7) rfl (by omega) (c_g_R_headByte (l := l) (E := E) (d := d + 6) hc) (fun v S hq => ?_)
              obtain ⟨rfl, rfl⟩ := hq
              clear hc
              refine hr.1 1 True _ _ (206, [some (.ref 0), some (.int (zg_i D 0 28)), some (.int (zg_i D 2 (zn (zg_i D 0 28)))), some (.int ((zg_i D 0 28) + (4 * (zg_i D 2 (zn (zg_i D 0 28)))))), some (.int (zg_i q1.2 2 (zn ((zg_i D 0 28) + 1)))), some (.long q6.1), none, some (.long q8.1), none, o9, none, none, none, none], [.int 1, .int q12.1], [], q12.2) rfl trivial ?_
              obtain ⟨q14, hj, h⟩ := zk_bind h
              have J221 : ∀ (_ : True), Zp (221, [some (.ref 0), some (.int (zg_i D 0 28)), some (.int (zg_i D 2 (zn (zg_i D 0 28)))), some (.int ((zg_i D 0 28) + (4 * (zg_i D 2 (zn (zg_i D 0 28)))))), some (.int (zg_i q1.2 2 (zn ((zg_i D 0 28) + 1)))), some (.long q6.1), none, some (.long q8.1), none, o9, none, none, none, none], [], [], q14) := by
                intro _
                refine hr.1 2 True _ _ (223, [some (.ref 0), some (.int (zg_i D 0 28)), some (.int (zg_i D 2 (zn (zg_i D 0 28)))), some (.int ((zg_i D 0 28) + (4 * (zg_i D 2 (zn (zg_i D 0 28)))))), some (.int (zg_i q1.2 2 (zn ((zg_i D 0 28) + 1)))), some (.long q6.1), none, some (.long q8.1), none, o9, none, none, none, none], [.int ((zg_i D 0 28) + (4 * (zg_i D 2 (zn (zg_i D 0 28))))), .ref 0], [], q14) rfl trivial ?_
                obtain ⟨q15, hc, h⟩ := zk_bind h
                refine hr.2.2.1 _ _ _ _ _ (d + 7) rfl (by omega) (c_g_R_headByte (l := l) (E := E) (d := d + 6) hc) (fun v S hq => ?_)
                obtain ⟨rfl, rfl⟩ := hq
                clear hc
                refine hr.1 1 True _ _ (228, [some (.ref 0), some (.int (zg_i D 0 28)), some (.int (zg_i D 2 (zn (zg_i D 0 28)))), some (.int ((zg_i D 0 28) + (4 * (zg_i D 2 (zn (zg_i D 0 28)))))), some (.int (zg_i q1.2 2 (zn ((zg_i D 0 28) + 1)))), some (.long q6.1), none, some (.long q8.1), none, o9, none, none, none, none], [.int 40, .int q15.1], [], q15.2) rfl trivial ?_
                obtain ⟨q17, hj, h⟩ := zk_bind h
                have J243 : ∀ (_ : True), Zp (243, [some (.ref 0), some (.int (zg_i D 0 28)), some (.int (zg_i D 2 (zn (zg_i D 0 28)))), some (.int ((zg_i D 0 28) + (4 * (zg_i D 2 (zn (zg_i D 0 28)))))), some (.int (zg_i q1.2 2 (zn ((zg_i D 0 28) + 1)))), some (.long q6.1), none, some (.long q8.1), none, o9, none, none, none, none], [], [], q17) := by
                  intro _
                  obtain ⟨q20, hc, h⟩ := zk_bind h
                  refine loop243 (zg_i D 0 28) ((zg_i D 0 28) + (4 * (zg_i D 2 (zn (zg_i D 0 28))))) q6.1 q8.1 10000 q17 o9 (zg_i D 2 (zn (zg_i D 0 28))) (zg_i q1.2 2 (zn ((zg_i D 0 28) + 1))) q20 hc (fun _ => ?_)
                  clear hc
                  refine hr.1 19 True _ _ (314, [some (.ref 0), some (.int (zg_i D 0 28)), some (.int (zg_i D 2 (zn (zg_i D 0 28)))), some (.int ((zg_i D 0 28) + (4 * (zg_i D 2 (zn (zg_i D 0 28)))))), some (.int (zg_i q1.2 2 (zn ((zg_i D 0 28) + 1)))), some (.long q6.1), none, some (.long q8.1), none, some (.int (((zg_i D 0 28) + (4 * (zg_i D 2 (zn (zg_i D 0 28))))) + 4)), some (.int (zg_i q20 0 5)), none, none, none], [.int (zg_i q20 0 29)], [], zp_i (zp_i (zp_i q20 0 28 (((zg_i D 0 28) + (4 * (zg_i D 2 (zn (zg_i D 0 28))))) + 4)) 0 35 0) 0 36 1) rfl ⟨⟨trivial, (Or.inl rfl)⟩, (Or.inr rfl)⟩ ?_
                  obtain ⟨q21, hj, h⟩ := zk_bind h
                  have J322 : ∀ (_ : True), Zp (322, [some (.ref 0), some (.int (zg_i D 0 28)), some (.int (zg_i D 2 (zn (zg_i D 0 28)))), some (.int ((zg_i D 0 28) + (4 * (zg_i D 2 (zn (zg_i D 0 28)))))), some (.int (zg_i q1.2 2 (zn ((zg_i D 0 28) + 1)))), some (.long q6.1), none, some (.long q8.1), none, some (.int (((zg_i D 0 28) + (4 * (zg_i D 2 (zn (zg_i D 0 28))))) + 4)), some (.int (zg_i q20 0 5)), none, none, none], [.int q21], [], zp_i (zp_i (zp_i q20 0 28 (((zg_i D 0 28) + (4 * (zg_i D 2 (zn (zg_i D 0 28))))) + 4)) 0 35 0) 0 36 1) := by
                    intro _
                    refine hr.1 1 True _ _ (324, [some (.ref 0), some (.int (zg_i D 0 28)), some (.int (zg_i D 2 (zn (zg_i D 0 28)))), some (.int ((zg_i D 0 28) + (4 * (zg_i D 2 (zn (zg_i D 0 28)))))), some (.int (zg_i q1.2 2 (zn ((zg_i D 0 28) + 1)))), some (.long q6.1), none, some (.long q8.1), none, some (.int (((zg_i D 0 28) + (4 * (zg_i D 2 (zn (zg_i D 0 28))))) + 4)), some (.int (zg_i q20 0 5)), some (.int q21), none, none], [], [], zp_i (zp_i (zp_i q20 0 28 (((zg_i D 0 28) + (4 * (zg_i D 2 (zn (zg_i D 0 28))))) + 4)) 0 35 0) 0 36 1) rfl trivial ?_
                    obtain ⟨q23, hc, h⟩ := zk_bind h
                    refine loop324 (zg_i D 0 28) q6.1 q8.1 (((zg_i D 0 28) + (4 * (zg_i D 2 (zn (zg_i D 0 28))))) + 4) (zg_i q20 0 5) 10000 q21 (zp_i (zp_i (zp_i q20 0 28 (((zg_i D 0 28) + (4 * (zg_i D 2 (zn (zg_i D 0 28))))) + 4)) 0 35 0) 0 36 1) (zg_i D 2 (zn (zg_i D 0 28))) ((zg_i D 0 28) + (4 * (zg_i D 2 (zn (zg_i D 0 28))))) (zg_i q1.2 2 (zn ((zg_i D 0 28) + 1))) q23 hc (fun e11 => ?_)
                    clear hc
                    refine hr.1 2 True _ _ (356, [some (.ref 0), some (.int (zg_i D 0 28)), some (.int (zg_i D 2 (zn (zg_i D 0 28)))), some (.int ((zg_i D 0 28) + (4 * (zg_i D 2 (zn (zg_i D 0 28)))))), some (.int (zg_i q1.2 2 (zn ((zg_i D 0 28) + 1)))), some (.long q6.1), none, some (.long q8.1), none, some (.int (((zg_i D 0 28) + (4 * (zg_i D 2 (zn (zg_i D 0 28))))) + 4)), some (.int (zg_i q20 0 5)), some (.int e11), none, none], [.long 0, .long q6.1], [], q23) rfl trivial ?_
                    obtain ⟨q27, hj, h⟩ := zk_bind h
                    have J402 : ∀ (_ : True), Zp (402, [some (.ref 0), some (.int (zg_i D 0 28)), some (.int (zg_i D 2 (zn (zg_i D 0 28)))), some (.int ((zg_i D 0 28) + (4 * (zg_i D 2 (zn (zg_i D 0 28)))))), some (.int (zg_i q1.2 2 (zn ((zg_i D 0 28) + 1)))), some (.long q6.1), none, some (.long q8.1), none, some (.int (((zg_i D 0 28) + (4 * (zg_i D 2 (zn (zg_i D 0 28))))) + 4)), some (.int (zg_i q20 0 5)), some (.int e11), none, none], [], [], q27) := by
                      intro _
                      refine hr.1 7 True _ _ (414, [some (.ref 0), some (.int (zg_i D 0 28)), some (.int (zg_i D 2 (zn (zg_i D 0 28)))), some (.int ((zg_i D 0 28) + (4 * (zg_i D 2 (zn (zg_i D 0 28)))))), some (.int (zg_i q1.2 2 (zn ((zg_i D 0 28) + 1)))), some (.long q6.1), none, some (.long q8.1), none, some (.int (((zg_i D 0 28) + (4 * (zg_i D 2 (zn (zg_i D 0 28))))) + 4)), some (.int (zg_i q20 0 5)), some (.int e11), some (.int ((zg_i q27 0 28) - (zg_i D 0 28))), none], [.int (zg_i q27 0 29)], [], q27) rfl trivial ?_
                      obtain ⟨q29, hj, h⟩ := zk_bind h
                      have J422 : ∀ (_ : True), Zp (422, [some (.ref 0), some (.int (zg_i D 0 28)), some (.int (zg_i D 2 (zn (zg_i D 0 28)))), some (.int ((zg_i D 0 28) + (4 * (zg_i D 2 (zn (zg_i D 0 28)))))), some (.int (zg_i q1.2 2 (zn ((zg_i D 0 28) + 1)))), some (.long q6.1), none, some (.long q8.1), none, some (.int (((zg_i D 0 28) + (4 * (zg_i D 2 (zn (zg_i D 0 28))))) + 4)), some (.int (zg_i q20 0 5)), some (.int e11), some (.int ((zg_i q27 0 28) - (zg_i D 0 28))), none], [], [], q29) := by
                        intro _
                        refine hr.1 2 True _ _ (426, [some (.ref 0), some (.int (zg_i D 0 28)), some (.int (zg_i D 2 (zn (zg_i D 0 28)))), some (.int ((zg_i D 0 28) + (4 * (zg_i D 2 (zn (zg_i D 0 28)))))), some (.int (zg_i q1.2 2 (zn ((zg_i D 0 28) + 1)))), some (.long q6.1), none, some (.long q8.1), none, some (.int (((zg_i D 0 28) + (4 * (zg_i D 2 (zn (zg_i D 0 28))))) + 4)), some (.int (zg_i q20 0 5)), some (.int e11), some (.int ((zg_i q27 0 28) - (zg_i D 0 28))), none], [.int (zg_i q29 0 31)], [], q29) rfl trivial ?_
                        obtain ⟨q30, hj, h⟩ := zk_bind h
                        have J447 : ∀ (_ : True), Zp (447, [some (.ref 0), some (.int (zg_i D 0 28)), some (.int (zg_i D 2 (zn (zg_i D 0 28)))), some (.int ((zg_i D 0 28) + (4 * (zg_i D 2 (zn (zg_i D 0 28)))))), some (.int (zg_i q1.2 2 (zn ((zg_i D 0 28) + 1)))), some (.long q6.1), none, some (.long q8.1), none, some (.int (((zg_i D 0 28) + (4 * (zg_i D 2 (zn (zg_i D 0 28))))) + 4)), some (.int (zg_i q20 0 5)), some (.int e11), some (.int ((zg_i q27 0 28) - (zg_i D 0 28))), none], [.int q30], [], q29) := by
                          intro _
                          refine hr.1 3 True _ _ (453, [some (.ref 0), some (.int (zg_i D 0 28)), some (.int (zg_i D 2 (zn (zg_i D 0 28)))), some (.int ((zg_i D 0 28) + (4 * (zg_i D 2 (zn (zg_i D 0 28)))))), some (.int (zg_i q1.2 2 (zn ((zg_i D 0 28) + 1)))), some (.long q6.1), none, some (.long q8.1), none, some (.int (((zg_i D 0 28) + (4 * (zg_i D 2 (zn (zg_i D 0 28))))) + 4)), some (.int (zg_i q20 0 5)), some (.int e11), some (.int ((zg_i q27 0 28) - (zg_i D 0 28))), some (.int q30)], [.int (zg_i q29 0 29)], [], q29) rfl trivial ?_
                          refine hr.2.1 _ (¬ zg_i q29 0 29 = 0) _ _ rfl (fun c453 => ?_) (fun c453 => ?_)
                          · replace h := zk_t h c453
                            exact hr.2.2.2 _ _ _ rfl trivial ⟨rfl, (congrArg (fun x => (([], x) : zx_S)) (Option.some.inj h))⟩
                          · replace h := zk_f h c453
                            refine hr.1 2 True _ _ (459, [some (.ref 0), some (.int (zg_i D 0 28)), some (.int (zg_i D 2 (zn (zg_i D 0 28)))), some (.int ((zg_i D 0 28) + (4 * (zg_i D 2 (zn (zg_i D 0 28)))))), some (.int (zg_i q1.2 2 (zn ((zg_i D 0 28) + 1)))), some (.long q6.1), none, some (.long q8.1), none, some (.int (((zg_i D 0 28) + (4 * (zg_i D 2 (zn (zg_i D 0 28))))) + 4)), some (.int (zg_i q20 0 5)), some (.int e11), some (.int ((zg_i q27 0 28) - (zg_i D 0 28))), some (.int q30)], [.int q30, .ref 0], [], q29) rfl trivial ?_
                            obtain ⟨q31, hc, h⟩ := zk_bind h
                            refine hr.2.2.1 _ _ _ _ _ (d + 7) rfl (by omega) (c_g_R_has (l := l) (E := E) (d := d + 6) hc) (fun v S hq => ?_)
                            obtain ⟨rfl, rfl⟩ := hq
                            clear hc
                            refine hr.2.1 _ (¬ q31.1 = 0) _ _ rfl (fun c462 => ?_) (fun c462 => ?_)
                            · replace h := zk_t h c462
                              refine hr.1 3 True _ _ (471, [some (.ref 0), some (.int (zg_i D 0 28)), some (.int (zg_i D 2 (zn (zg_i D 0 28)))), some (.int ((zg_i D 0 28) + (4 * (zg_i D 2 (zn (zg_i D 0 28)))))), some (.int (zg_i q1.2 2 (zn ((zg_i D 0 28) + 1)))), some (.long q6.1), none, some (.long q8.1), none, some (.int (((zg_i D 0 28) + (4 * (zg_i D 2 (zn (zg_i D 0 28))))) + 4)), some (.int (zg_i q20 0 5)), some (.int e11), some (.int ((zg_i q27 0 28) - (zg_i D 0 28))), some (.int q30)], [.int 1, .int (zg_i q31.2 0 31)], [], q31.2) rfl trivial ?_
                              refine hr.2.1 _ (¬ zg_i q31.2 0 31 = 1) _ _ rfl (fun c471 => ?_) (fun c471 => ?_)
                              · replace h := zk_t h c471
                                exact jump493 (zg_i q20 0 5) ((zg_i q27 0 28) - (zg_i D 0 28)) q30 q31.2 (zg_i D 0 28) (zg_i D 2 (zn (zg_i D 0 28))) ((zg_i D 0 28) + (4 * (zg_i D 2 (zn (zg_i D 0 28))))) (zg_i q1.2 2 (zn ((zg_i D 0 28) + 1))) q6.1 q8.1 (((zg_i D 0 28) + (4 * (zg_i D 2 (zn (zg_i D 0 28))))) + 4) e11 h
                              · replace h := zk_f h c471
                                refine hr.1 4 True _ _ (480, [some (.ref 0), some (.int (zg_i D 0 28)), some (.int (zg_i D 2 (zn (zg_i D 0 28)))), some (.int ((zg_i D 0 28) + (4 * (zg_i D 2 (zn (zg_i D 0 28)))))), some (.int (zg_i q1.2 2 (zn ((zg_i D 0 28) + 1)))), some (.long q6.1), none, some (.long q8.1), none, some (.int (((zg_i D 0 28) + (4 * (zg_i D 2 (zn (zg_i D 0 28))))) + 4)), some (.int (zg_i q20 0 5)), some (.int e11), some (.int ((zg_i q27 0 28) - (zg_i D 0 28))), some (.int q30)], [.int 4, .int (zg_i q31.2 0 28), .ref 0], [], q31.2) rfl trivial ?_
                                obtain ⟨q35, hc, h⟩ := zk_bind h
                                refine hr.2.2.1 _ _ _ _ _ (d + 7) rfl (by omega) (c_g_R_number (l := l) (E := E) (d := d + 7) hc) (fun v S hq => ?_)
                                obtain ⟨rfl, rfl⟩ := hq
                                clear hc
                                refine hr.1 2 True _ _ (486, [some (.ref 0), some (.int (zg_i D 0 28)), some (.int (zg_i D 2 (zn (zg_i D 0 28)))), some (.int ((zg_i D 0 28) + (4 * (zg_i D 2 (zn (zg_i D 0 28)))))), some (.int (zg_i q1.2 2 (zn ((zg_i D 0 28) + 1)))), some (.long q6.1), none, some (.long q8.1), none, some (.int (((zg_i D 0 28) + (4 * (zg_i D 2 (zn (zg_i D 0 28))))) + 4)), some (.int (zg_i q20 0 5)), some (.int e11), some (.int ((zg_i q27 0 28) - (zg_i D 0 28))), some (.int q30)], [.int (zg_i q20 0 5), .ref 0, .long q35], [], q31.2) rfl trivial ?_
                                obtain ⟨q36, hc, h⟩ := zk_bind h
                                refine hr.2.2.1 _ _ _ _ _ (d + 7) rfl (by omega) (c_g_R_fourOfMade (l := l) (E := E) (d := d + 6) hc) (fun v S hq => ?_)
                                obtain ⟨rfl, rfl⟩ := hq
                                clear hc
                                refine hr.2.1 _ (¬ q35 = q36) _ _ rfl (fun c489 => ?_) (fun c489 => ?_)
                                · replace h := zk_t h c489
                                  refine hr.1 4 True _ _ (528, [some (.ref 0), some (.int (zg_i D 0 28)), some (.int (zg_i D 2 (zn (zg_i D 0 28)))), some (.int ((zg_i D 0 28) + (4 * (zg_i D 2 (zn (zg_i D 0 28)))))), some (.int (zg_i q1.2 2 (zn ((zg_i D 0 28) + 1)))), some (.long q6.1), none, some (.long q8.1), none, some (.int (((zg_i D 0 28) + (4 * (zg_i D 2 (zn (zg_i D 0 28))))) + 4)), some (.int (zg_i q20 0 5)), some (.int e11), some (.int ((zg_i q27 0 28) - (zg_i D 0 28))), some (.int q30)], [.int (zg_i q31.2 0 28), .int (-4), .ref 0], [], q31.2) rfl trivial ?_
                                  obtain ⟨q37, hc, h⟩ := zk_bind h
                                  refine hr.2.2.1 _ _ _ _ _ (d + 7) rfl (by omega) (c_g_R_fail (l := l) (E := E) (d := d + 7) hc) (fun v S hq => ?_)
                                  obtain ⟨rfl, rfl⟩ := hq
                                  clear hc
                                  exact hr.2.2.2 _ _ _ rfl trivial ⟨rfl, (congrArg (fun x => (([], x) : zx_S)) (Option.some.inj h))⟩
                                · replace h := zk_f h c489
                                  exact jump493 (zg_i q20 0 5) ((zg_i q27 0 28) - (zg_i D 0 28)) q30 q31.2 (zg_i D 0 28) (zg_i D 2 (zn (zg_i D 0 28))) ((zg_i D 0 28) + (4 * (zg_i D 2 (zn (zg_i D 0 28))))) (zg_i q1.2 2 (zn ((zg_i D 0 28) + 1))) q6.1 q8.1 (((zg_i D 0 28) + (4 * (zg_i D 2 (zn (zg_i D 0 28))))) + 4) e11 h
                            · replace h := zk_f h c462
                              exact hr.2.2.2 _ _ _ rfl trivial ⟨rfl, (congrArg (fun x => (([], x) : zx_S)) (Option.some.inj h))⟩
                        clear h
                        have h := hj
                        clear hj
                        refine hr.2.1 _ (¬ zg_i q29 0 31 = 0) _ _ rfl (fun c426 => ?_) (fun c426 => ?_)
                        · replace h := zk_t h c426
                          refine hr.1 3 True _ _ (438, [some (.ref 0), some (.int (zg_i D 0 28)), some (.int (zg_i D 2 (zn (zg_i D 0 28)))), some (.int ((zg_i D 0 28) + (4 * (zg_i D 2 (zn (zg_i D 0 28)))))), some (.int (zg_i q1.2 2 (zn ((zg_i D 0 28) + 1)))), some (.long q6.1), none, some (.long q8.1), none, some (.int (((zg_i D 0 28) + (4 * (zg_i D 2 (zn (zg_i D 0 28))))) + 4)), some (.int (zg_i q20 0 5)), some (.int e11), some (.int ((zg_i q27 0 28) - (zg_i D 0 28))), none], [.int 1, .int (zg_i q29 0 31)], [], q29) rfl trivial ?_
                          refine hr.2.1 _ (¬ zg_i q29 0 31 = 1) _ _ rfl (fun c438 => ?_) (fun c438 => ?_)
                          · replace h := zk_t h c438
                            refine hr.1 1 True _ _ (447, [some (.ref 0), some (.int (zg_i D 0 28)), some (.int (zg_i D 2 (zn (zg_i D 0 28)))), some (.int ((zg_i D 0 28) + (4 * (zg_i D 2 (zn (zg_i D 0 28)))))), some (.int (zg_i q1.2 2 (zn ((zg_i D 0 28) + 1)))), some (.long q6.1), none, some (.long q8.1), none, some (.int (((zg_i D 0 28) + (4 * (zg_i D 2 (zn (zg_i D 0 28))))) + 4)), some (.int (zg_i q20 0 5)), some (.int e11), some (.int ((zg_i q27 0 28) - (zg_i D 0 28))), none], [.int 8], [], q29) rfl trivial ?_
                            replace h := Option.some.inj h
                            subst h
                            exact J447 trivial
                          · replace h := zk_f h c438
                            refine hr.1 2 True _ _ (447, [some (.ref 0), some (.int (zg_i D 0 28)), some (.int (zg_i D 2 (zn (zg_i D 0 28)))), some (.int ((zg_i D 0 28) + (4 * (zg_i D 2 (zn (zg_i D 0 28)))))), some (.int (zg_i q1.2 2 (zn ((zg_i D 0 28) + 1)))), some (.long q6.1), none, some (.long q8.1), none, some (.int (((zg_i D 0 28) + (4 * (zg_i D 2 (zn (zg_i D 0 28))))) + 4)), some (.int (zg_i q20 0 5)), some (.int e11), some (.int ((zg_i q27 0 28) - (zg_i D 0 28))), none], [.int 4], [], q29) rfl trivial ?_
                            replace h := Option.some.inj h
                            subst h
                            exact J447 trivial
                        · replace h := zk_f h c426
                          refine hr.1 2 True _ _ (447, [some (.ref 0), some (.int (zg_i D 0 28)), some (.int (zg_i D 2 (zn (zg_i D 0 28)))), some (.int ((zg_i D 0 28) + (4 * (zg_i D 2 (zn (zg_i D 0 28)))))), some (.int (zg_i q1.2 2 (zn ((zg_i D 0 28) + 1)))), some (.long q6.1), none, some (.long q8.1), none, some (.int (((zg_i D 0 28) + (4 * (zg_i D 2 (zn (zg_i D 0 28))))) + 4)), some (.int (zg_i q20 0 5)), some (.int e11), some (.int ((zg_i q27 0 28) - (zg_i D 0 28))), none], [.int 0], [], q29) rfl trivial ?_
                          replace h := Option.some.inj h
                          subst h
                          exact J447 trivial
                      clear h
                      have h := hj
                      clear hj
                      refine hr.2.1 _ (¬ zg_i q27 0 29 = 0) _ _ rfl (fun c414 => ?_) (fun c414 => ?_)
                      · replace h := zk_t h c414
                        replace h := Option.some.inj h
                        subst h
                        exact J422 trivial
                      · replace h := zk_f h c414
                        refine hr.1 2 True _ _ (419, [some (.ref 0), some (.int (zg_i D 0 28)), some (.int (zg_i D 2 (zn (zg_i D 0 28)))), some (.int ((zg_i D 0 28) + (4 * (zg_i D 2 (zn (zg_i D 0 28)))))), some (.int (zg_i q1.2 2 (zn ((zg_i D 0 28) + 1)))), some (.long q6.1), none, some (.long q8.1), none, some (.int (((zg_i D 0 28) + (4 * (zg_i D 2 (zn (zg_i D 0 28))))) + 4)), some (.int (zg_i q20 0 5)), some (.int e11), some (.int ((zg_i q27 0 28) - (zg_i D 0 28))), none], [.int (zg_i D 0 28), .ref 0], [], q27) rfl trivial ?_
                        obtain ⟨q28, hc, h⟩ := zk_bind h
                        refine hr.2.2.1 _ _ _ _ _ (d + 7) rfl (by omega) (c_g_R_zeros (l := l) (E := E) (d := d + 5) hc) (fun v S hq => ?_)
                        obtain ⟨rfl, rfl⟩ := hq
                        clear hc
                        replace h := Option.some.inj h
                        subst h
                        exact J422 trivial
                    clear h
                    have h := hj
                    clear hj
                    refine hr.2.1 _ (q6.1 < 0) _ _ rfl (fun c356 => ?_) (fun c356 => ?_)
                    · replace h := zk_t h c356
                      refine hr.1 2 True _ _ (377, [some (.ref 0), some (.int (zg_i D 0 28)), some (.int (zg_i D 2 (zn (zg_i D 0 28)))), some (.int ((zg_i D 0 28) + (4 * (zg_i D 2 (zn (zg_i D 0 28)))))), some (.int (zg_i q1.2 2 (zn ((zg_i D 0 28) + 1)))), some (.long q6.1), none, some (.long q8.1), none, some (.int (((zg_i D 0 28) + (4 * (zg_i D 2 (zn (zg_i D 0 28))))) + 4)), some (.int (zg_i q20 0 5)), some (.int e11), none, none], [.long 0, .long q8.1], [], q23) rfl trivial ?_
                      refine hr.2.1 _ (q8.1 < 0) _ _ rfl (fun c377 => ?_) (fun c377 => ?_)
                      · replace h := zk_t h c377
                        replace h := Option.some.inj h
                        subst h
                        exact J402 trivial
                      · replace h := zk_f h c377
                        refine hr.1 6 True _ _ (391, [some (.ref 0), some (.int (zg_i D 0 28)), some (.int (zg_i D 2 (zn (zg_i D 0 28)))), some (.int ((zg_i D 0 28) + (4 * (zg_i D 2 (zn (zg_i D 0 28)))))), some (.int (zg_i q1.2 2 (zn ((zg_i D 0 28) + 1)))), some (.long q6.1), none, some (.long q8.1), none, some (.int (((zg_i D 0 28) + (4 * (zg_i D 2 (zn (zg_i D 0 28))))) + 4)), some (.int (zg_i q20 0 5)), some (.int e11), none, none], [.long ((((zg_i q23 0 5) - (zg_i q20 0 5))).toInt64), .long q8.1], [], q23) rfl trivial ?_
                        refine hr.2.1 _ (q8.1 = (((zg_i q23 0 5) - (zg_i q20 0 5))).toInt64) _ _ rfl (fun c391 => ?_) (fun c391 => ?_)
                        · replace h := zk_t h c391
                          replace h := Option.some.inj h
                          subst h
                          exact J402 trivial
                        · replace h := zk_f h c391
                          refine hr.1 3 True _ _ (399, [some (.ref 0), some (.int (zg_i D 0 28)), some (.int (zg_i D 2 (zn (zg_i D 0 28)))), some (.int ((zg_i D 0 28) + (4 * (zg_i D 2 (zn (zg_i D 0 28)))))), some (.int (zg_i q1.2 2 (zn ((zg_i D 0 28) + 1)))), some (.long q6.1), none, some (.long q8.1), none, some (.int (((zg_i D 0 28) + (4 * (zg_i D 2 (zn (zg_i D 0 28))))) + 4)), some (.int (zg_i q20 0 5)), some (.int e11), none, none], [.int (zg_i D 0 28), .int (-6), .ref 0], [], q23) rfl trivial ?_
                          obtain ⟨q24, hc, h⟩ := zk_bind h
                          refine hr.2.2.1 _ _ _ _ _ (d + 7) rfl (by omega) (c_g_R_fail (l := l) (E := E) (d := d + 7) hc) (fun v S hq => ?_)
                          obtain ⟨rfl, rfl⟩ := hq
                          clear hc
                          replace h := Option.some.inj h
                          subst h
                          exact J402 trivial
                    · replace h := zk_f h c356
                      refine hr.1 6 True _ _ (370, [some (.ref 0), some (.int (zg_i D 0 28)), some (.int (zg_i D 2 (zn (zg_i D 0 28)))), some (.int ((zg_i D 0 28) + (4 * (zg_i D 2 (zn (zg_i D 0 28)))))), some (.int (zg_i q1.2 2 (zn ((zg_i D 0 28) + 1)))), some (.long q6.1), none, some (.long q8.1), none, some (.int (((zg_i D 0 28) + (4 * (zg_i D 2 (zn (zg_i D 0 28))))) + 4)), some (.int (zg_i q20 0 5)), some (.int e11), none, none], [.long ((((zg_i q23 0 28) - (((zg_i D 0 28) + (4 * (zg_i D 2 (zn (zg_i D 0 28))))) + 4))).toInt64), .long q6.1], [], q23) rfl trivial ?_
                      refine hr.2.1 _ (¬ q6.1 = (((zg_i q23 0 28) - (((zg_i D 0 28) + (4 * (zg_i D 2 (zn (zg_i D 0 28))))) + 4))).toInt64) _ _ rfl (fun c370 => ?_) (fun c370 => ?_)
                      · replace h := zk_t h c370
                        refine hr.1 3 True _ _ (399, [some (.ref 0), some (.int (zg_i D 0 28)), some (.int (zg_i D 2 (zn (zg_i D 0 28)))), some (.int ((zg_i D 0 28) + (4 * (zg_i D 2 (zn (zg_i D 0 28)))))), some (.int (zg_i q1.2 2 (zn ((zg_i D 0 28) + 1)))), some (.long q6.1), none, some (.long q8.1), none, some (.int (((zg_i D 0 28) + (4 * (zg_i D 2 (zn (zg_i D 0 28))))) + 4)), some (.int (zg_i q20 0 5)), some (.int e11), none, none], [.int (zg_i D 0 28), .int (-6), .ref 0], [], q23) rfl trivial ?_
                        obtain ⟨q25, hc, h⟩ := zk_bind h
                        refine hr.2.2.1 _ _ _ _ _ (d + 7) rfl (by omega) (c_g_R_fail (l := l) (E := E) (d := d + 7) hc) (fun v S hq => ?_)
                        obtain ⟨rfl, rfl⟩ := hq
                        clear hc
                        replace h := Option.some.inj h
                        subst h
                        exact J402 trivial
                      · replace h := zk_f h c370
                        refine hr.1 2 True _ _ (377, [some (.ref 0), some (.int (zg_i D 0 28)), some (.int (zg_i D 2 (zn (zg_i D 0 28)))), some (.int ((zg_i D 0 28) + (4 * (zg_i D 2 (zn (zg_i D 0 28)))))), some (.int (zg_i q1.2 2 (zn ((zg_i D 0 28) + 1)))), some (.long q6.1), none, some (.long q8.1), none, some (.int (((zg_i D 0 28) + (4 * (zg_i D 2 (zn (zg_i D 0 28))))) + 4)), some (.int (zg_i q20 0 5)), some (.int e11), none, none], [.long 0, .long q8.1], [], q23) rfl trivial ?_
                        refine hr.2.1 _ (q8.1 < 0) _ _ rfl (fun c377 => ?_) (fun c377 => ?_)
                        · replace h := zk_t h c377
                          replace h := Option.some.inj h
                          subst h
                          exact J402 trivial
                        · replace h := zk_f h c377
                          refine hr.1 6 True _ _ (391, [some (.ref 0), some (.int (zg_i D 0 28)), some (.int (zg_i D 2 (zn (zg_i D 0 28)))), some (.int ((zg_i D 0 28) + (4 * (zg_i D 2 (zn (zg_i D 0 28)))))), some (.int (zg_i q1.2 2 (zn ((zg_i D 0 28) + 1)))), some (.long q6.1), none, some (.long q8.1), none, some (.int (((zg_i D 0 28) + (4 * (zg_i D 2 (zn (zg_i D 0 28))))) + 4)), some (.int (zg_i q20 0 5)), some (.int e11), none, none], [.long ((((zg_i q23 0 5) - (zg_i q20 0 5))).toInt64), .long q8.1], [], q23) rfl trivial ?_
                          refine hr.2.1 _ (q8.1 = (((zg_i q23 0 5) - (zg_i q20 0 5))).toInt64) _ _ rfl (fun c391 => ?_) (fun c391 => ?_)
                          · replace h := zk_t h c391
                            replace h := Option.some.inj h
                            subst h
                            exact J402 trivial
                          · replace h := zk_f h c391
                            refine hr.1 3 True _ _ (399, [some (.ref 0), some (.int (zg_i D 0 28)), some (.int (zg_i D 2 (zn (zg_i D 0 28)))), some (.int ((zg_i D 0 28) + (4 * (zg_i D 2 (zn (zg_i D 0 28)))))), some (.int (zg_i q1.2 2 (zn ((zg_i D 0 28) + 1)))), some (.long q6.1), none, some (.long q8.1), none, some (.int (((zg_i D 0 28) + (4 * (zg_i D 2 (zn (zg_i D 0 28))))) + 4)), some (.int (zg_i q20 0 5)), some (.int e11), none, none], [.int (zg_i D 0 28), .int (-6), .ref 0], [], q23) rfl trivial ?_
                            obtain ⟨q26, hc, h⟩ := zk_bind h
                            refine hr.2.2.1 _ _ _ _ _ (d + 7) rfl (by omega) (c_g_R_fail (l := l) (E := E) (d := d + 7) hc) (fun v S hq => ?_)
                            obtain ⟨rfl, rfl⟩ := hq
                            clear hc
                            replace h := Option.some.inj h
                            subst h
                            exact J402 trivial
                  clear h
                  have h := hj
                  clear hj
                  refine hr.2.1 _ (¬ zg_i q20 0 29 = 0) _ _ rfl (fun c314 => ?_) (fun c314 => ?_)
                  · replace h := zk_t h c314
                    refine hr.1 1 True _ _ (322, [some (.ref 0), some (.int (zg_i D 0 28)), some (.int (zg_i D 2 (zn (zg_i D 0 28)))), some (.int ((zg_i D 0 28) + (4 * (zg_i D 2 (zn (zg_i D 0 28)))))), some (.int (zg_i q1.2 2 (zn ((zg_i D 0 28) + 1)))), some (.long q6.1), none, some (.long q8.1), none, some (.int (((zg_i D 0 28) + (4 * (zg_i D 2 (zn (zg_i D 0 28))))) + 4)), some (.int (zg_i q20 0 5)), none, none, none], [.int 0], [], zp_i (zp_i (zp_i q20 0 28 (((zg_i D 0 28) + (4 * (zg_i D 2 (zn (zg_i D 0 28))))) + 4)) 0 35 0) 0 36 1) rfl trivial ?_
                    replace h := Option.some.inj h
                    subst h
                    exact J322 trivial
                  · replace h := zk_f h c314
                    refine hr.1 2 True _ _ (322, [some (.ref 0), some (.int (zg_i D 0 28)), some (.int (zg_i D 2 (zn (zg_i D 0 28)))), some (.int ((zg_i D 0 28) + (4 * (zg_i D 2 (zn (zg_i D 0 28)))))), some (.int (zg_i q1.2 2 (zn ((zg_i D 0 28) + 1)))), some (.long q6.1), none, some (.long q8.1), none, some (.int (((zg_i D 0 28) + (4 * (zg_i D 2 (zn (zg_i D 0 28))))) + 4)), some (.int (zg_i q20 0 5)), none, none, none], [.int 1], [], zp_i (zp_i (zp_i q20 0 28 (((zg_i D 0 28) + (4 * (zg_i D 2 (zn (zg_i D 0 28))))) + 4)) 0 35 0) 0 36 1) rfl trivial ?_
                    replace h := Option.some.inj h
                    subst h
                    exact J322 trivial
                clear h
                have h := hj
                clear hj
                refine hr.2.1 _ (q15.1 ≤ 40) _ _ rfl (fun c228 => ?_) (fun c228 => ?_)
                · replace h := zk_t h c228
                  replace h := Option.some.inj h
                  subst h
                  exact J243 trivial
                · replace h := zk_f h c228
                  refine hr.1 6 True _ _ (240, [some (.ref 0), some (.int (zg_i D 0 28)), some (.int (zg_i D 2 (zn (zg_i D 0 28)))), some (.int ((zg_i D 0 28) + (4 * (zg_i D 2 (zn (zg_i D 0 28)))))), some (.int (zg_i q1.2 2 (zn ((zg_i D 0 28) + 1)))), some (.long q6.1), none, some (.long q8.1), none, o9, none, none, none, none], [.int ((zg_i q15.2 0 28) - 1), .int (-3), .ref 0], [], q15.2) rfl trivial ?_
                  obtain ⟨q16, hc, h⟩ := zk_bind h
                  refine hr.2.2.1 _ _ _ _ _ (d + 7) rfl (by omega) (c_g_R_fail (l := l) (E := E) (d := d + 7) hc) (fun v S hq => ?_)
                  obtain ⟨rfl, rfl⟩ := hq
                  clear hc
                  replace h := Option.some.inj h
                  subst h
                  exact J243 trivial
              clear h
              have h := hj
              clear hj
              refine hr.2.1 _ (q12.1 = 1) _ _ rfl (fun c206 => ?_) (fun c206 => ?_)
              · replace h := zk_t h c206
                replace h := Option.some.inj h
                subst h
                exact J221 trivial
              · replace h := zk_f h c206
                refine hr.1 6 True _ _ (218, [some (.ref 0), some (.int (zg_i D 0 28)), some (.int (zg_i D 2 (zn (zg_i D 0 28)))), some (.int ((zg_i D 0 28) + (4 * (zg_i D 2 (zn (zg_i D 0 28)))))), some (.int (zg_i q1.2 2 (zn ((zg_i D 0 28) + 1)))), some (.long q6.1), none, some (.long q8.1), none, o9, none, none, none, none], [.int ((zg_i q12.2 0 28) - 1), .int (-3), .ref 0], [], q12.2) rfl trivial ?_
                obtain ⟨q13, hc, h⟩ := zk_bind h
                refine hr.2.2.1 _ _ _ _ _ (d + 7) rfl (by omega) (c_g_R_fail (l := l) (E := E) (d := d + 7) hc) (fun v S hq => ?_)
                obtain ⟨rfl, rfl⟩ := hq
                clear hc
                replace h := Option.some.inj h
                subst h
                exact J221 trivial
            clear h
            have h := hj
            clear hj
            refine hr.2.1 _ (q9.1 = 33) _ _ rfl (fun c185 => ?_) (fun c185 => ?_)
            · replace h := zk_t h c185
              replace h := Option.some.inj h
              subst h
              exact J200 trivial
            · replace h := zk_f h c185
              refine hr.1 6 True _ _ (197, [some (.ref 0), some (.int (zg_i D 0 28)), some (.int (zg_i D 2 (zn (zg_i D 0 28)))), some (.int ((zg_i D 0 28) + (4 * (zg_i D 2 (zn (zg_i D 0 28)))))), some (.int (zg_i q1.2 2 (zn ((zg_i D 0 28) + 1)))), some (.long q6.1), none, some (.long q8.1), none, o9, none, none, none, none], [.int ((zg_i q9.2 0 28) - 1), .int (-3), .ref 0], [], q9.2) rfl trivial ?_
              obtain ⟨q10, hc, h⟩ := zk_bind h
              refine hr.2.2.1 _ _ _ _ _ (d + 7) rfl (by omega) (c_g_R_fail (l := l) (E := E) (d := d + 7) hc) (fun v S hq => ?_)
              obtain ⟨rfl, rfl⟩ := hq
              clear hc
              replace h := Option.some.inj h
              subst h
              exact J200 trivial
          clear h
          have h := hj
          clear hj
          refine hr.2.1 _ ((zg_i q1.2 2 (zn ((zg_i D 0 28) + 1))) &&& 128 = 0) _ _ rfl (fun c159 => ?_) (fun c159 => ?_)
          · replace h := zk_t h c159
            replace h := Option.some.inj h
            subst h
            exact J178 trivial
          · replace h := zk_f h c159
            refine hr.1 2 True _ _ (166, [some (.ref 0), some (.int (zg_i D 0 28)), some (.int (zg_i D 2 (zn (zg_i D 0 28)))), some (.int ((zg_i D 0 28) + (4 * (zg_i D 2 (zn (zg_i D 0 28)))))), some (.int (zg_i q1.2 2 (zn ((zg_i D 0 28) + 1)))), some (.long q6.1), none, some (.long (-1)), none, o9, none, none, none, none], [.int (zg_i q6.2 0 29)], [], q6.2) rfl trivial ?_
            refine hr.2.1 _ (¬ zg_i q6.2 0 29 = 0) _ _ rfl (fun c166 => ?_) (fun c166 => ?_)
            · replace h := zk_t h c166
              replace h := Option.some.inj h
              subst h
              exact J178 trivial
            · replace h := zk_f h c166
              refine hr.1 3 True _ _ (173, [some (.ref 0), some (.int (zg_i D 0 28)), some (.int (zg_i D 2 (zn (zg_i D 0 28)))), some (.int ((zg_i D 0 28) + (4 * (zg_i D 2 (zn (zg_i D 0 28)))))), some (.int (zg_i q1.2 2 (zn ((zg_i D 0 28) + 1)))), some (.long q6.1), none, some (.long (-1)), none, o9, none, none, none, none], [.int (-3), .int ((zg_i D 0 28) + (4 * (zg_i D 2 (zn (zg_i D 0 28))))), .ref 0], [], q6.2) rfl trivial ?_
              obtain ⟨q7, hc, h⟩ := zk_bind h
              refine hr.2.2.1 _ _ _ _ _ (d + 7) rfl (by omega) (c_g_R_vli (l := l) (E := E) (d := d + 6) hc) (fun v S hq => ?_)
              obtain ⟨rfl, rfl⟩ := hq
              clear hc
              refine hr.1 1 True _ _ (178, [some (.ref 0), some (.int (zg_i D 0 28)), some (.int (zg_i D 2 (zn (zg_i D 0 28)))), some (.int ((zg_i D 0 28) + (4 * (zg_i D 2 (zn (zg_i D 0 28)))))), some (.int (zg_i q1.2 2 (zn ((zg_i D 0 28) + 1)))), some (.long q6.1), none, some (.long q7.1), none, o9, none, none, none, none], [], [], q7.2) rfl trivial ?_
              replace h := Option.some.inj h
              subst h
              exact J178 trivial
        clear h
        have h := hj
        clear hj
        refine hr.2.1 _ ((zg_i q1.2 2 (zn ((zg_i D 0 28) + 1))) &&& 64 = 0) _ _ rfl (fun c120 => ?_) (fun c120 => ?_)
        · replace h := zk_t h c120
          replace h := Option.some.inj h
          subst h
          exact J153 none
        · replace h := zk_f h c120
          refine hr.1 6 True _ _ (133, [some (.ref 0), some (.int (zg_i D 0 28)), some (.int (zg_i D 2 (zn (zg_i D 0 28)))), some (.int ((zg_i D 0 28) + (4 * (zg_i D 2 (zn (zg_i D 0 28)))))), some (.int (zg_i q1.2 2 (zn ((zg_i D 0 28) + 1)))), some (.long (-1)), none, some (.long (-1)), none, some (.int (((zg_i D 0 28) + 1) + 1)), none, none, none, none], [.int (-3), .int ((zg_i D 0 28) + (4 * (zg_i D 2 (zn (zg_i D 0 28))))), .ref 0], [], zp_i (zp_i q1.2 0 28 ((zg_i D 0 28) + 1)) 0 28 (((zg_i D 0 28) + 1) + 1)) rfl trivial ?_
          obtain ⟨q4, hc, h⟩ := zk_bind h
          refine hr.2.2.1 _ _ _ _ _ (d + 7) rfl (by omega) (c_g_R_vli (l := l) (E := E) (d := d + 6) hc) (fun v S hq => ?_)
          obtain ⟨rfl, rfl⟩ := hq
          clear hc
          refine hr.1 3 True _ _ (141, [some (.ref 0), some (.int (zg_i D 0 28)), some (.int (zg_i D 2 (zn (zg_i D 0 28)))), some (.int ((zg_i D 0 28) + (4 * (zg_i D 2 (zn (zg_i D 0 28)))))), some (.int (zg_i q1.2 2 (zn ((zg_i D 0 28) + 1)))), some (.long q4.1), none, some (.long (-1)), none, some (.int (((zg_i D 0 28) + 1) + 1)), none, none, none, none], [.long 0, .long q4.1], [], q4.2) rfl trivial ?_
          refine hr.2.1 _ (¬ q4.1 = 0) _ _ rfl (fun c141 => ?_) (fun c141 => ?_)
          · replace h := zk_t h c141
            replace h := Option.some.inj h
            subst h
            exact J153 (some (.int (((zg_i D 0 28) + 1) + 1)))
          · replace h := zk_f h c141
            refine hr.1 3 True _ _ (150, [some (.ref 0), some (.int (zg_i D 0 28)), some (.int (zg_i D 2 (zn (zg_i D 0 28)))), some (.int ((zg_i D 0 28) + (4 * (zg_i D 2 (zn (zg_i D 0 28)))))), some (.int (zg_i q1.2 2 (zn ((zg_i D 0 28) + 1)))), some (.long q4.1), none, some (.long (-1)), none, some (.int (((zg_i D 0 28) + 1) + 1)), none, none, none, none], [.int (((zg_i D 0 28) + 1) + 1), .int (-3), .ref 0], [], q4.2) rfl trivial ?_
            obtain ⟨q5, hc, h⟩ := zk_bind h
            refine hr.2.2.1 _ _ _ _ _ (d + 7) rfl (by omega) (c_g_R_fail (l := l) (E := E) (d := d + 7) hc) (fun v S hq => ?_)
            obtain ⟨rfl, rfl⟩ := hq
            clear hc
            replace h := Option.some.inj h
            subst h
            exact J153 (some (.int (((zg_i D 0 28) + 1) + 1)))
      · replace h := zk_f h c81
        refine hr.1 4 True _ _ (91, [some (.ref 0), some (.int (zg_i D 0 28)), some (.int (zg_i D 2 (zn (zg_i D 0 28)))), some (.int ((zg_i D 0 28) + (4 * (zg_i D 2 (zn (zg_i D 0 28)))))), some (.int (zg_i q1.2 2 (zn ((zg_i D 0 28) + 1)))), none, none, none, none, none, none, none, none, none], [.int ((zg_i D 0 28) + 1), .int (-3), .ref 0], [], zp_i q1.2 0 28 ((zg_i D 0 28) + 1)) rfl trivial ?_
        obtain ⟨q38, hc, h⟩ := zk_bind h
        refine hr.2.2.1 _ _ _ _ _ (d + 7) rfl (by omega) (c_g_R_fail (l := l) (E := E) (d := d + 7) hc) (fun v S hq => ?_)
        obtain ⟨rfl, rfl⟩ := hq
        clear hc
        exact hr.2.2.2 _ _ _ rfl trivial ⟨rfl, (congrArg (fun x => (([], x) : zx_S)) (Option.some.inj h))⟩
    · replace h := zk_f h c46
      refine hr.1 3 True _ _ (54, [some (.ref 0), some (.int (zg_i D 0 28)), some (.int (zg_i D 2 (zn (zg_i D 0 28)))), some (.int ((zg_i D 0 28) + (4 * (zg_i D 2 (zn (zg_i D 0 28)))))), none, none, none, none, none, none, none, none, none, none], [.int ((zg_i D 0 28) + (4 * (zg_i D 2 (zn (zg_i D 0 28))))), .int (-4), .ref 0], [], q1.2) rfl trivial ?_
      obtain ⟨q39, hc, h⟩ := zk_bind h
      refine hr.2.2.1 _ _ _ _ _ (d + 7) rfl (by omega) (c_g_R_fail (l := l) (E := E) (d := d + 7) hc) (fun v S hq => ?_)
      obtain ⟨rfl, rfl⟩ := hq
      clear hc
      exact hr.2.2.2 _ _ _ rfl trivial ⟨rfl, (congrArg (fun x => (([], x) : zx_S)) (Option.some.inj h))⟩
  · replace h := zk_f h c30
    exact hr.2.2.2 _ _ _ rfl trivial ⟨rfl, (congrArg (fun x => (([], x) : zx_S)) (Option.some.inj h))⟩
set_option maxRecDepth 100000 in
set_option maxHeartbeats 4000000 in
theorem c_g_R_expect {l : Launch} {E : zx_E} {d : Nat} {x1 : Int32} {D : zx_D} {q : zx_D} (h : g_R_expect x1 D = some q) : zx_MR l E 131 (d + 2) [.ref 0, .int x1] ([], D) (fun v S => v = none ∧ S = ([], q)) := by
  refine zx_ofR (K := ck_R_expect) rfl (by decide +kernel) rfl ok_R_expect (Nat.le_of_ble_eq_true rfl) (fun Zp hr => ?_)
  show Zp (0, [some (.ref 0), some (.int x1), none], [], [], D)
  rw [g_R_expect] at h
  refine hr.1 5 True _ _ (9, [some (.ref 0), some (.int x1), some (.int (zg_i D 0 28))], [.int (zg_i D 0 29)], [], D) rfl trivial ?_
  refine hr.2.1 _ (¬ zg_i D 0 29 = 0) _ _ rfl (fun c9 => ?_) (fun c9 => ?_)
  · replace h := zk_t h c9
    exact hr.2.2.2 _ _ _ rfl trivial ⟨rfl, (congrArg (fun x => (([], x) : zx_S)) (Option.some.inj h))⟩
  · replace h := zk_f h c9
    refine hr.1 4 True _ _ (19, [some (.ref 0), some (.int x1), some (.int (zg_i D 0 28))], [.int (-2), .int (zg_i D 0 3), .ref 0], [], D) rfl trivial ?_
    obtain ⟨q1, hc, h⟩ := zk_bind h
    refine hr.2.2.1 _ _ _ _ _ (d + 1) rfl (by omega) (c_g_R_vli (l := l) (E := E) (d := d) hc) (fun v S hq => ?_)
    obtain ⟨rfl, rfl⟩ := hq
    clear hc
    refine hr.1 2 True _ _ (24, [some (.ref 0), some (.int x1), some (.int (zg_i D 0 28))], [.long ((x1).toInt64), .long q1.1], [], q1.2) rfl trivial ?_
    refine hr.2.1 _ (q1.1 = (x1).toInt64) _ _ rfl (fun c24 => ?_) (fun c24 => ?_)
    · replace h := zk_t h c24
      exact hr.2.2.2 _ _ _ rfl trivial ⟨rfl, (congrArg (fun x => (([], x) : zx_S)) (Option.some.inj h))⟩
    · replace h := zk_f h c24
      refine hr.1 3 True _ _ (32, [some (.ref 0), some (.int x1), some (.int (zg_i D 0 28))], [.int (zg_i D 0 28), .int (-3), .ref 0], [], q1.2) rfl trivial ?_
      obtain ⟨q2, hc, h⟩ := zk_bind h
      refine hr.2.2.1 _ _ _ _ _ (d + 1) rfl (by omega) (c_g_R_fail (l := l) (E := E) (d := d + 1) hc) (fun v S hq => ?_)
      obtain ⟨rfl, rfl⟩ := hq
      clear hc
      exact hr.2.2.2 _ _ _ rfl trivial ⟨rfl, (congrArg (fun x => (([], x) : zx_S)) (Option.some.inj h))⟩
set_option maxRecDepth 100000 in
set_option maxHeartbeats 4000000 in
theorem c_g_R_index {l : Launch} {E : zx_E} {d : Nat} {D : zx_D} {q : zx_D} (h : g_R_index D = some q) : zx_MR l E 130 (d + 3) [.ref 0] ([], D) (fun v S => v = none ∧ S = ([], q)) := by
  refine zx_ofR (K := ck_R_index) rfl (by decide +kernel) rfl ok_R_index (Nat.le_of_ble_eq_true rfl) (fun Zp hr => ?_)
  show Zp (0, [some (.ref 0), none, none], [], [], D)
  have loop34 : ∀ (x1 : Int32) (k : Nat) (x2 : Int32) (D : zx_D) (q : zx_D), g_R_index_34 x1 k x2 D = some q → (∀ (e2 : Int32), Zp (75, [some (.ref 0), some (.int x1), some (.int e2)], [], [], q)) → Zp (34, [some (.ref 0), some (.int x1), some (.int x2)], [], [], D) := by
    intro x1 k
    induction k with
    | zero => intro x2 D q h hx; exact (zk_no h).elim
    | succ k ih =>
      intro x2 D q h hx
      rw [g_R_index_34] at h
      refine hr.1 3 True _ _ (39, [some (.ref 0), some (.int x1), some (.int x2)], [.int (zg_i D 0 32), .int x2], [], D) rfl trivial ?_
      refine hr.2.1 _ (zg_i D 0 32 ≤ x2) _ _ rfl (fun c39 => ?_) (fun c39 => ?_)
      · replace h := zk_t h c39
        replace h := Option.some.inj h
        subst h
        exact hx x2
      · replace h := zk_f h c39
        refine hr.1 2 True _ _ (46, [some (.ref 0), some (.int x1), some (.int x2)], [.int (zg_i D 0 29)], [], D) rfl trivial ?_
        refine hr.2.1 _ (¬ zg_i D 0 29 = 0) _ _ rfl (fun c46 => ?_) (fun c46 => ?_)
        · replace h := zk_t h c46
          replace h := Option.some.inj h
          subst h
          exact hx x2
        · replace h := zk_f h c46
          obtain ⟨w7, h⟩ := zk_ck h
          refine hr.1 5 True _ _ (56, [some (.ref 0), some (.int x1), some (.int x2)], [.int (zg_i D 7 (zn x2)), .ref 0], [], D) rfl ⟨trivial, (zk_vp w7)⟩ ?_
          obtain ⟨q3, hc, h⟩ := zk_bind h
          refine hr.2.2.1 _ _ _ _ _ (d + 2) rfl (by omega) (c_g_R_expect (l := l) (E := E) (d := d) hc) (fun v S hq => ?_)
          obtain ⟨rfl, rfl⟩ := hq
          clear hc
          obtain ⟨w8, h⟩ := zk_ck h
          refine hr.1 5 True _ _ (66, [some (.ref 0), some (.int x1), some (.int x2)], [.int (zg_i q3 8 (zn x2)), .ref 0], [], q3) rfl ⟨trivial, (zk_vp w8)⟩ ?_
          obtain ⟨q4, hc, h⟩ := zk_bind h
          refine hr.2.2.1 _ _ _ _ _ (d + 2) rfl (by omega) (c_g_R_expect (l := l) (E := E) (d := d) hc) (fun v S hq => ?_)
          obtain ⟨rfl, rfl⟩ := hq
          clear hc
          refine hr.1 2 True _ _ (34, [some (.ref 0), some (.int x1), some (.int (x2 + 1))], [], [], q4) rfl trivial ?_
          exact ih (x2 + 1) q4 _ h hx
  rw [g_R_index] at h
  refine hr.1 5 True _ _ (7, [some (.ref 0), some (.int (zg_i D 0 28)), none], [.int 1, .ref 0], [], D) rfl trivial ?_
  obtain ⟨q1, hc, h⟩ := zk_bind h
  refine hr.2.2.1 _ _ _ _ _ (d + 2) rfl (by omega) (c_g_R_has (l := l) (E := E) (d := d + 1) hc) (fun v S hq => ?_)
  obtain ⟨rfl, rfl⟩ := hq
  clear hc
  refine hr.2.1 _ (¬ q1.1 = 0) _ _ rfl (fun c10 => ?_) (fun c10 => ?_)
  · replace h := zk_t h c10
    refine hr.1 9 True _ _ (29, [some (.ref 0), some (.int (zg_i D 0 28)), none], [.int (zg_i q1.2 0 32), .ref 0], [], zp_i q1.2 0 28 ((zg_i q1.2 0 28) + 1)) rfl trivial ?_
    obtain ⟨q2, hc, h⟩ := zk_bind h
    refine hr.2.2.1 _ _ _ _ _ (d + 2) rfl (by omega) (c_g_R_expect (l := l) (E := E) (d := d) hc) (fun v S hq => ?_)
    obtain ⟨rfl, rfl⟩ := hq
    clear hc
    refine hr.1 2 True _ _ (34, [some (.ref 0), some (.int (zg_i D 0 28)), some (.int 0)], [], [], q2) rfl trivial ?_
    obtain ⟨q5, hc, h⟩ := zk_bind h
    refine loop34 (zg_i D 0 28) 10000 0 q2 q5 hc (fun e2 => ?_)
    clear hc
    refine hr.1 2 True _ _ (79, [some (.ref 0), some (.int (zg_i D 0 28)), some (.int e2)], [.int (zg_i q5 0 29)], [], q5) rfl trivial ?_
    obtain ⟨q7, hj, h⟩ := zk_bind h
    have J87 : ∀ (_ : True), Zp (87, [some (.ref 0), some (.int (zg_i D 0 28)), some (.int e2)], [], [], q7) := by
      intro _
      refine hr.1 2 True _ _ (91, [some (.ref 0), some (.int (zg_i D 0 28)), some (.int e2)], [.int (zg_i q7 0 29)], [], q7) rfl trivial ?_
      obtain ⟨q9, hj, h⟩ := zk_bind h
      have J99 : ∀ (_ : True), Zp (99, [some (.ref 0), some (.int (zg_i D 0 28)), some (.int e2)], [], [], q9) := by
        intro _
        refine hr.1 11 True _ _ (114, [some (.ref 0), some (.int (zg_i D 0 28)), some (.int ((((zg_i q9 0 28) - (zg_i D 0 28)) / 4) - 1))], [.int (zg_i q9 0 29)], [], q9) rfl trivial ?_
        refine hr.2.1 _ (¬ zg_i q9 0 29 = 0) _ _ rfl (fun c114 => ?_) (fun c114 => ?_)
        · replace h := zk_t h c114
          exact hr.2.2.2 _ _ _ rfl trivial ⟨rfl, (congrArg (fun x => (([], x) : zx_S)) (Option.some.inj h))⟩
        · replace h := zk_f h c114
          refine hr.1 2 True _ _ (120, [some (.ref 0), some (.int (zg_i D 0 28)), some (.int ((((zg_i q9 0 28) - (zg_i D 0 28)) / 4) - 1))], [.int 12, .ref 0], [], q9) rfl trivial ?_
          obtain ⟨q10, hc, h⟩ := zk_bind h
          refine hr.2.2.1 _ _ _ _ _ (d + 2) rfl (by omega) (c_g_R_has (l := l) (E := E) (d := d + 1) hc) (fun v S hq => ?_)
          obtain ⟨rfl, rfl⟩ := hq
          clear hc
          refine hr.2.1 _ (¬ q10.1 = 0) _ _ rfl (fun c123 => ?_) (fun c123 => ?_)
          · replace h := zk_t h c123
            refine hr.1 4 True _ _ (133, [some (.ref 0), some (.int (zg_i D 0 28)), some (.int ((((zg_i q9 0 28) - (zg_i D 0 28)) / 4) - 1))], [.int 4, .int (zg_i q10.2 0 28), .ref 0], [], q10.2) rfl trivial ?_
            obtain ⟨q11, hc, h⟩ := zk_bind h
            refine hr.2.2.1 _ _ _ _ _ (d + 2) rfl (by omega) (c_g_R_number (l := l) (E := E) (d := d + 2) hc) (fun v S hq => ?_)
            obtain ⟨rfl, rfl⟩ := hq
            clear hc
            refine hr.1 9 True _ _ (150, [some (.ref 0), some (.int (zg_i D 0 28)), some (.int ((((zg_i q9 0 28) - (zg_i D 0 28)) / 4) - 1))], [.int ((zg_i q10.2 0 28) + 10), .int ((zg_i q10.2 0 28) + 4), .ref 0, .long q11], [], q10.2) rfl trivial ?_
            obtain ⟨q12, hc, h⟩ := zk_bind h
            refine hr.2.2.1 _ _ _ _ _ (d + 2) rfl (by omega) (c_g_R_fourOfPacked (l := l) (E := E) (d := d + 1) hc) (fun v S hq => ?_)
            obtain ⟨rfl, rfl⟩ := hq
            clear hc
            obtain ⟨q20, hj, h⟩ := zk_bind h
            have J265 : ∀ (_ : True), Zp (265, [some (.ref 0), some (.int (zg_i D 0 28)), some (.int ((((zg_i q9 0 28) - (zg_i D 0 28)) / 4) - 1))], [], [], q20) := by
              intro _
              refine hr.1 10 True _ _ (284, [some (.ref 0), some (.int (zg_i D 0 28)), some (.int ((((zg_i q9 0 28) - (zg_i D 0 28)) / 4) - 1))], [.int (zg_i q20 0 3), .int ((zg_i q20 0 28) + 12)], [], zp_i q20 0 28 ((zg_i q20 0 28) + 12)) rfl trivial ?_
              refine hr.2.1 _ (zg_i q20 0 3 ≤ (zg_i q20 0 28) + 12) _ _ rfl (fun c284 => ?_) (fun c284 => ?_)
              · replace h := zk_t h c284
                exact hr.2.2.2 _ _ _ rfl trivial ⟨rfl, (congrArg (fun x => (([], x) : zx_S)) (Option.some.inj h))⟩
              · replace h := zk_f h c284
                refine hr.1 4 True _ _ (294, [some (.ref 0), some (.int (zg_i D 0 28)), some (.int ((((zg_i q9 0 28) - (zg_i D 0 28)) / 4) - 1))], [.int ((zg_i q20 0 28) + 12), .int (-3), .ref 0], [], zp_i q20 0 28 ((zg_i q20 0 28) + 12)) rfl trivial ?_
                obtain ⟨q21, hc, h⟩ := zk_bind h
                refine hr.2.2.1 _ _ _ _ _ (d + 2) rfl (by omega) (c_g_R_fail (l := l) (E := E) (d := d + 2) hc) (fun v S hq => ?_)
                obtain ⟨rfl, rfl⟩ := hq
                clear hc
                exact hr.2.2.2 _ _ _ rfl trivial ⟨rfl, (congrArg (fun x => (([], x) : zx_S)) (Option.some.inj h))⟩
            clear h
            have h := hj
            clear hj
            refine hr.2.1 _ (q11 = q12) _ _ rfl (fun c153 => ?_) (fun c153 => ?_)
            · replace h := zk_t h c153
              refine hr.1 6 True _ _ (178, [some (.ref 0), some (.int (zg_i D 0 28)), some (.int ((((zg_i q9 0 28) - (zg_i D 0 28)) / 4) - 1))], [.int 4, .int ((zg_i q10.2 0 28) + 4), .ref 0], [], q10.2) rfl trivial ?_
              obtain ⟨q13, hc, h⟩ := zk_bind h
              refine hr.2.2.1 _ _ _ _ _ (d + 2) rfl (by omega) (c_g_R_number (l := l) (E := E) (d := d + 2) hc) (fun v S hq => ?_)
              obtain ⟨rfl, rfl⟩ := hq
              clear hc
              refine hr.1 2 True _ _ (183, [some (.ref 0), some (.int (zg_i D 0 28)), some (.int ((((zg_i q9 0 28) - (zg_i D 0 28)) / 4) - 1))], [.long ((((((zg_i q9 0 28) - (zg_i D 0 28)) / 4) - 1)).toInt64), .long q13], [], q10.2) rfl trivial ?_
              refine hr.2.1 _ (¬ q13 = (((((zg_i q9 0 28) - (zg_i D 0 28)) / 4) - 1)).toInt64) _ _ rfl (fun c183 => ?_) (fun c183 => ?_)
              · replace h := zk_t h c183
                refine hr.1 4 True _ _ (262, [some (.ref 0), some (.int (zg_i D 0 28)), some (.int ((((zg_i q9 0 28) - (zg_i D 0 28)) / 4) - 1))], [.int (zg_i q10.2 0 28), .int (-3), .ref 0], [], q10.2) rfl trivial ?_
                obtain ⟨q14, hc, h⟩ := zk_bind h
                refine hr.2.2.1 _ _ _ _ _ (d + 2) rfl (by omega) (c_g_R_fail (l := l) (E := E) (d := d + 2) hc) (fun v S hq => ?_)
                obtain ⟨rfl, rfl⟩ := hq
                clear hc
                replace h := Option.some.inj h
                subst h
                exact J265 trivial
              · replace h := zk_f h c183
                obtain ⟨w9, h⟩ := zk_ck h
                refine hr.1 7 True _ _ (199, [some (.ref 0), some (.int (zg_i D 0 28)), some (.int ((((zg_i q9 0 28) - (zg_i D 0 28)) / 4) - 1))], [.int (zg_i q10.2 2 (zn ((zg_i q10.2 0 28) + 8)))], [], q10.2) rfl ⟨trivial, (zk_vp w9)⟩ ?_
                refine hr.2.1 _ (¬ zg_i q10.2 2 (zn ((zg_i q10.2 0 28) + 8)) = 0) _ _ rfl (fun c199 => ?_) (fun c199 => ?_)
                · replace h := zk_t h c199
                  refine hr.1 4 True _ _ (262, [some (.ref 0), some (.int (zg_i D 0 28)), some (.int ((((zg_i q9 0 28) - (zg_i D 0 28)) / 4) - 1))], [.int (zg_i q10.2 0 28), .int (-3), .ref 0], [], q10.2) rfl trivial ?_
                  obtain ⟨q15, hc, h⟩ := zk_bind h
                  refine hr.2.2.1 _ _ _ _ _ (d + 2) rfl (by omega) (c_g_R_fail (l := l) (E := E) (d := d + 2) hc) (fun v S hq => ?_)
                  obtain ⟨rfl, rfl⟩ := hq
                  clear hc
                  replace h := Option.some.inj h
                  subst h
                  exact J265 trivial
                · replace h := zk_f h c199
                  obtain ⟨w10, h⟩ := zk_ck h
                  refine hr.1 9 True _ _ (218, [some (.ref 0), some (.int (zg_i D 0 28)), some (.int ((((zg_i q9 0 28) - (zg_i D 0 28)) / 4) - 1))], [.int (zg_i q10.2 0 31), .int (zg_i q10.2 2 (zn ((zg_i q10.2 0 28) + 9)))], [], q10.2) rfl ⟨trivial, (zk_vp w10)⟩ ?_
                  refine hr.2.1 _ (¬ zg_i q10.2 2 (zn ((zg_i q10.2 0 28) + 9)) = zg_i q10.2 0 31) _ _ rfl (fun c218 => ?_) (fun c218 => ?_)
                  · replace h := zk_t h c218
                    refine hr.1 4 True _ _ (262, [some (.ref 0), some (.int (zg_i D 0 28)), some (.int ((((zg_i q9 0 28) - (zg_i D 0 28)) / 4) - 1))], [.int (zg_i q10.2 0 28), .int (-3), .ref 0], [], q10.2) rfl trivial ?_
                    obtain ⟨q16, hc, h⟩ := zk_bind h
                    refine hr.2.2.1 _ _ _ _ _ (d + 2) rfl (by omega) (c_g_R_fail (l := l) (E := E) (d := d + 2) hc) (fun v S hq => ?_)
                    obtain ⟨rfl, rfl⟩ := hq
                    clear hc
                    replace h := Option.some.inj h
                    subst h
                    exact J265 trivial
                  · replace h := zk_f h c218
                    obtain ⟨w11, h⟩ := zk_ck h
                    refine hr.1 8 True _ _ (235, [some (.ref 0), some (.int (zg_i D 0 28)), some (.int ((((zg_i q9 0 28) - (zg_i D 0 28)) / 4) - 1))], [.int 89, .int (zg_i q10.2 2 (zn ((zg_i q10.2 0 28) + 10)))], [], q10.2) rfl ⟨trivial, (zk_vp w11)⟩ ?_
                    refine hr.2.1 _ (¬ zg_i q10.2 2 (zn ((zg_i q10.2 0 28) + 10)) = 89) _ _ rfl (fun c235 => ?_) (fun c235 => ?_)
                    · replace h := zk_t h c235
                      refine hr.1 4 True _ _ (262, [some (.ref 0), some (.int (zg_i D 0 28)), some (.int ((((zg_i q9 0 28) - (zg_i D 0 28)) / 4) - 1))], [.int (zg_i q10.2 0 28), .int (-3), .ref 0], [], q10.2) rfl trivial ?_
                      obtain ⟨q17, hc, h⟩ := zk_bind h
                      refine hr.2.2.1 _ _ _ _ _ (d + 2) rfl (by omega) (c_g_R_fail (l := l) (E := E) (d := d + 2) hc) (fun v S hq => ?_)
                      obtain ⟨rfl, rfl⟩ := hq
                      clear hc
                      replace h := Option.some.inj h
                      subst h
                      exact J265 trivial
                    · replace h := zk_f h c235
                      obtain ⟨w12, h⟩ := zk_ck h
                      refine hr.1 8 True _ _ (252, [some (.ref 0), some (.int (zg_i D 0 28)), some (.int ((((zg_i q9 0 28) - (zg_i D 0 28)) / 4) - 1))], [.int 90, .int (zg_i q10.2 2 (zn ((zg_i q10.2 0 28) + 11)))], [], q10.2) rfl ⟨trivial, (zk_vp w12)⟩ ?_
                      refine hr.2.1 _ (zg_i q10.2 2 (zn ((zg_i q10.2 0 28) + 11)) = 90) _ _ rfl (fun c252 => ?_) (fun c252 => ?_)
                      · replace h := zk_t h c252
                        replace h := Option.some.inj h
                        subst h
                        exact J265 trivial
                      · replace h := zk_f h c252
                        refine hr.1 4 True _ _ (262, [some (.ref 0), some (.int (zg_i D 0 28)), some (.int ((((zg_i q9 0 28) - (zg_i D 0 28)) / 4) - 1))], [.int (zg_i q10.2 0 28), .int (-3), .ref 0], [], q10.2) rfl trivial ?_
                        obtain ⟨q18, hc, h⟩ := zk_bind h
                        refine hr.2.2.1 _ _ _ _ _ (d + 2) rfl (by omega) (c_g_R_fail (l := l) (E := E) (d := d + 2) hc) (fun v S hq => ?_)
                        obtain ⟨rfl, rfl⟩ := hq
                        clear hc
                        replace h := Option.some.inj h
                        subst h
                        exact J265 trivial
            · replace h := zk_f h c153
              refine hr.1 4 True _ _ (164, [some (.ref 0), some (.int (zg_i D 0 28)), some (.int ((((zg_i q9 0 28) - (zg_i D 0 28)) / 4) - 1))], [.int (zg_i q10.2 0 28), .int (-4), .ref 0], [], q10.2) rfl trivial ?_
              obtain ⟨q19, hc, h⟩ := zk_bind h
              refine hr.2.2.1 _ _ _ _ _ (d + 2) rfl (by omega) (c_g_R_fail (l := l) (E := E) (d := d + 2) hc) (fun v S hq => ?_)
              obtain ⟨rfl, rfl⟩ := hq
              clear hc
              refine hr.1 1 True _ _ (265, [some (.ref 0), some (.int (zg_i D 0 28)), some (.int ((((zg_i q9 0 28) - (zg_i D 0 28)) / 4) - 1))], [], [], q19) rfl trivial ?_
              replace h := Option.some.inj h
              subst h
              exact J265 trivial
          · replace h := zk_f h c123
            exact hr.2.2.2 _ _ _ rfl trivial ⟨rfl, (congrArg (fun x => (([], x) : zx_S)) (Option.some.inj h))⟩
      clear h
      have h := hj
      clear hj
      refine hr.2.1 _ (¬ zg_i q7 0 29 = 0) _ _ rfl (fun c91 => ?_) (fun c91 => ?_)
      · replace h := zk_t h c91
        replace h := Option.some.inj h
        subst h
        exact J99 trivial
      · replace h := zk_f h c91
        refine hr.1 2 True _ _ (96, [some (.ref 0), some (.int (zg_i D 0 28)), some (.int e2)], [.int (zg_i D 0 28), .ref 0], [], q7) rfl trivial ?_
        obtain ⟨q8, hc, h⟩ := zk_bind h
        refine hr.2.2.1 _ _ _ _ _ (d + 2) rfl (by omega) (c_g_R_sumOf (l := l) (E := E) (d := d) hc) (fun v S hq => ?_)
        obtain ⟨rfl, rfl⟩ := hq
        clear hc
        replace h := Option.some.inj h
        subst h
        exact J99 trivial
    clear h
    have h := hj
    clear hj
    refine hr.2.1 _ (¬ zg_i q5 0 29 = 0) _ _ rfl (fun c79 => ?_) (fun c79 => ?_)
    · replace h := zk_t h c79
      replace h := Option.some.inj h
      subst h
      exact J87 trivial
    · replace h := zk_f h c79
      refine hr.1 2 True _ _ (84, [some (.ref 0), some (.int (zg_i D 0 28)), some (.int e2)], [.int (zg_i D 0 28), .ref 0], [], q5) rfl trivial ?_
      obtain ⟨q6, hc, h⟩ := zk_bind h
      refine hr.2.2.1 _ _ _ _ _ (d + 2) rfl (by omega) (c_g_R_zeros (l := l) (E := E) (d := d) hc) (fun v S hq => ?_)
      obtain ⟨rfl, rfl⟩ := hq
      clear hc
      replace h := Option.some.inj h
      subst h
      exact J87 trivial
  · replace h := zk_f h c10
    exact hr.2.2.2 _ _ _ rfl trivial ⟨rfl, (congrArg (fun x => (([], x) : zx_S)) (Option.some.inj h))⟩
set_option maxRecDepth 100000 in
set_option maxHeartbeats 4000000 in
theorem c_g_R_unpack {l : Launch} {E : zx_E} {d : Nat} {D : zx_D} {q : Int32 × zx_D} (h : g_R_unpack D = some q) : zx_MR l E 132 (d + 9) [.ref 0] ([], D) (fun v S => v = some (.int q.1) ∧ S = ([], q.2)) := by
  refine zx_ofR (K := ck_R_unpack) rfl (by decide +kernel) rfl ok_R_unpack (Nat.le_of_ble_eq_true rfl) (fun Zp hr => ?_)
  show Zp (0, [some (.ref 0), none], [], [], D)
  have loop2 : ∀ (k : Nat) (x1 : Int32) (D : zx_D) (q : zx_D), g_R_unpack_2 k x1 D = some q → (∀ (e1 : Int32), Zp (21, [some (.ref 0), some (.int e1)], [], [], q)) → Zp (2, [some (.ref 0), some (.int x1)], [], [], D) := by
    intro k
    induction k with
    | zero => intro x1 D q h hx; exact (zk_no h).elim
    | succ k ih =>
      intro x1 D q h hx
      rw [g_R_unpack_2] at h
      refine hr.1 2 True _ _ (5, [some (.ref 0), some (.int x1)], [.int 11, .int x1], [], D) rfl trivial ?_
      refine hr.2.1 _ (11 ≤ x1) _ _ rfl (fun c5 => ?_) (fun c5 => ?_)
      · replace h := zk_t h c5
        replace h := Option.some.inj h
        subst h
        exact hx x1
      · replace h := zk_f h c5
        obtain ⟨w5, h⟩ := zk_ck h
        refine hr.1 7 True _ _ (2, [some (.ref 0), some (.int (x1 + 1))], [], [], zp_i D 9 (zn x1) 0) rfl ⟨trivial, (zk_vp w5)⟩ ?_
        exact ih (x1 + 1) (zp_i D 9 (zn x1) 0) _ h hx
  have loop67 : ∀ (k : Nat) (D : zx_D) (x1 : Int32) (q : zx_D), g_R_unpack_67 k D = some q → (True → Zp (104, [some (.ref 0), some (.int x1)], [], [], q)) → Zp (67, [some (.ref 0), some (.int x1)], [], [], D) := by
    intro k
    induction k with
    | zero => intro D x1 q h hx; exact (zk_no h).elim
    | succ k ih =>
      intro D x1 q h hx
      rw [g_R_unpack_67] at h
      refine hr.1 2 True _ _ (71, [some (.ref 0), some (.int x1)], [.int (zg_i D 0 29)], [], D) rfl trivial ?_
      refine hr.2.1 _ (¬ zg_i D 0 29 = 0) _ _ rfl (fun c71 => ?_) (fun c71 => ?_)
      · replace h := zk_t h c71
        replace h := Option.some.inj h
        subst h
        exact hx trivial
      · replace h := zk_f h c71
        refine hr.1 4 True _ _ (82, [some (.ref 0), some (.int x1)], [.int (zg_i D 0 3), .int (zg_i D 0 28)], [], D) rfl trivial ?_
        refine hr.2.1 _ (zg_i D 0 3 ≤ zg_i D 0 28) _ _ rfl (fun c82 => ?_) (fun c82 => ?_)
        · replace h := zk_t h c82
          replace h := Option.some.inj h
          subst h
          exact hx trivial
        · replace h := zk_f h c82
          obtain ⟨w6, h⟩ := zk_ck h
          refine hr.1 5 True _ _ (94, [some (.ref 0), some (.int x1)], [.int (zg_i D 2 (zn (zg_i D 0 28)))], [], D) rfl ⟨trivial, (zk_vp w6)⟩ ?_
          refine hr.2.1 _ (zg_i D 2 (zn (zg_i D 0 28)) = 0) _ _ rfl (fun c94 => ?_) (fun c94 => ?_)
          · replace h := zk_t h c94
            replace h := Option.some.inj h
            subst h
            exact hx trivial
          · replace h := zk_f h c94
            refine hr.1 1 True _ _ (98, [some (.ref 0), some (.int x1)], [.ref 0], [], D) rfl trivial ?_
            obtain ⟨q3, hc, h⟩ := zk_bind h
            refine hr.2.2.1 _ _ _ _ _ (d + 8) rfl (by omega) (c_g_R_block (l := l) (E := E) (d := d) hc) (fun v S hq => ?_)
            obtain ⟨rfl, rfl⟩ := hq
            clear hc
            refine hr.1 1 True _ _ (67, [some (.ref 0), some (.int x1)], [], [], q3) rfl trivial ?_
            exact ih  q3 _ _ h hx
  have loop137 : ∀ (k : Nat) (x1 : Int32) (D : zx_D) (q : zx_D), g_R_unpack_137 k x1 D = some q → (∀ (e1 : Int32), Zp (163, [some (.ref 0), some (.int e1)], [], [], q)) → Zp (137, [some (.ref 0), some (.int x1)], [], [], D) := by
    intro k
    induction k with
    | zero => intro x1 D q h hx; exact (zk_no h).elim
    | succ k ih =>
      intro x1 D q h hx
      rw [g_R_unpack_137] at h
      refine hr.1 3 True _ _ (142, [some (.ref 0), some (.int x1)], [.int (zg_i D 0 5), .int x1], [], D) rfl trivial ?_
      refine hr.2.1 _ (zg_i D 0 5 ≤ x1) _ _ rfl (fun c142 => ?_) (fun c142 => ?_)
      · replace h := zk_t h c142
        replace h := Option.some.inj h
        subst h
        exact hx x1
      · replace h := zk_f h c142
        obtain ⟨w7, h⟩ := zk_ck h
        obtain ⟨w8, h⟩ := zk_ck h
        refine hr.1 10 True _ _ (137, [some (.ref 0), some (.int (x1 + 1))], [], [], zp_i D 1 (zn x1) (zg_i D 3 (zn x1))) rfl ⟨⟨trivial, (zk_vp w7)⟩, (zk_vp w8)⟩ ?_
        exact ih (x1 + 1) (zp_i D 1 (zn x1) (zg_i D 3 (zn x1))) _ h hx
  rw [g_R_unpack] at h
  refine hr.1 2 True _ _ (2, [some (.ref 0), some (.int 0)], [], [], D) rfl trivial ?_
  obtain ⟨q1, hc, h⟩ := zk_bind h
  refine loop2 10000 0 D q1 hc (fun e1 => ?_)
  clear hc
  refine hr.1 23 True _ _ (64, [some (.ref 0), some (.int e1)], [.ref 0], [], zp_i (zp_i (zp_i (zp_i (zp_l (zp_l (zp_i q1 0 38 (zg_i q1 0 37)) 0 39 (-1)) 0 40 (-1)) 0 5 0) 0 29 0) 0 30 (-1)) 0 32 0) rfl trivial ?_
  obtain ⟨q2, hc, h⟩ := zk_bind h
  refine hr.2.2.1 _ _ _ _ _ (d + 8) rfl (by omega) (c_g_R_begin (l := l) (E := E) (d := d + 5) hc) (fun v S hq => ?_)
  obtain ⟨rfl, rfl⟩ := hq
  clear hc
  obtain ⟨q4, hc, h⟩ := zk_bind h
  refine loop67 10000 q2 e1 q4 hc (fun _ => ?_)
  clear hc
  refine hr.1 2 True _ _ (108, [some (.ref 0), some (.int e1)], [.int (zg_i q4 0 29)], [], q4) rfl trivial ?_
  obtain ⟨q6, hj, h⟩ := zk_bind h
  have J115 : ∀ (_ : True), Zp (115, [some (.ref 0), some (.int e1)], [], [], q6) := by
    intro _
    refine hr.1 2 True _ _ (119, [some (.ref 0), some (.int e1)], [.int (zg_i q6 0 29)], [], q6) rfl trivial ?_
    refine hr.2.1 _ (zg_i q6 0 29 = 0) _ _ rfl (fun c119 => ?_) (fun c119 => ?_)
    · replace h := zk_t h c119
      refine hr.1 6 True _ _ (137, [some (.ref 0), some (.int 0)], [], [], zp_i q6 0 1 (zg_i q6 0 5)) rfl trivial ?_
      obtain ⟨q7, hc, h⟩ := zk_bind h
      refine loop137 10000 0 (zp_i q6 0 1 (zg_i q6 0 5)) q7 hc (fun e1 => ?_)
      clear hc
      refine hr.1 2 True _ _ (167, [some (.ref 0), some (.int e1)], [.int (zg_i q7 0 1)], [], q7) rfl trivial ?_
      exact hr.2.2.2 _ _ _ rfl trivial ⟨(congrArg (fun x => some (Value.int x.1)) (Option.some.inj h)), (congrArg (fun x => (([], x.2) : zx_S)) (Option.some.inj h))⟩
    · replace h := zk_f h c119
      refine hr.1 2 True _ _ (126, [some (.ref 0), some (.int e1)], [.int (zg_i q6 0 29)], [], q6) rfl trivial ?_
      exact hr.2.2.2 _ _ _ rfl trivial ⟨(congrArg (fun x => some (Value.int x.1)) (Option.some.inj h)), (congrArg (fun x => (([], x.2) : zx_S)) (Option.some.inj h))⟩
  clear h
  have h := hj
  clear hj
  refine hr.2.1 _ (¬ zg_i q4 0 29 = 0) _ _ rfl (fun c108 => ?_) (fun c108 => ?_)
  · replace h := zk_t h c108
    replace h := Option.some.inj h
    subst h
    exact J115 trivial
  · replace h := zk_f h c108
    refine hr.1 1 True _ _ (112, [some (.ref 0), some (.int e1)], [.ref 0], [], q4) rfl trivial ?_
    obtain ⟨q5, hc, h⟩ := zk_bind h
    refine hr.2.2.1 _ _ _ _ _ (d + 8) rfl (by omega) (c_g_R_index (l := l) (E := E) (d := d + 5) hc) (fun v S hq => ?_)
    obtain ⟨rfl, rfl⟩ := hq
    clear hc
    replace h := Option.some.inj h
    subst h
    exact J115 trivial
