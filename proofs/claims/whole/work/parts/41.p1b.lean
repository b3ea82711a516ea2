/-! pack() of an empty row: sizes alone (what p1 asks) -/
set_option maxRecDepth 100000 in
set_option maxHeartbeats 4000000 in
theorem t_pack0 {l : Launch} {E : zx_E} {d : Nat} {cb sd ln pp : Nat} (sort props piece : Int32) (D : zx_D) {D1 D2 D3 D4 : zx_D} (e1 : fs_wbegin sort props D = D1) (e2 : fs_windex D1 = D2) (e3 : fs_wend D2 = D3) (e4 : fs_become3 D3 = D4) (hp1 : zg_i D1 1 1 = 0) (hd1 : dk D1) (hd2 : dk D2) (hov : zg_i D3 18 2 = 0) (hm : zg_i D3 18 1 = nI 32) : zx_MC l E 5 (d + 3) [.ref 0, .int sort, .int props, .int piece] ([cb, sd, ln, pp], D) (fun v S => v = some (.int (if fv_isSort sort D = 0 then -3 else if fv_areProps props D = 0 then -3 else if piece < 1 then -3 else if piece ≤ 400 then zg_i D4 3 1 else -3)) ∧ ∃ S', S = S') := by
  refine zx_ofC (K := ck_P_pack) rfl (by decide +kernel) rfl ok_P_pack (Nat.le_of_ble_eq_true rfl) (fun Zp hr => ?_)
  show Zp (0, [some (.ref 0), some (.int sort), some (.int props), some (.int piece), none], [], [cb, sd, ln, pp], D)
  refine hr.1 1 True _ _ (1, [some (.ref 0), some (.int sort), some (.int props), some (.int piece), none], [.int sort], [cb, sd, ln, pp], D) rfl trivial ?_
  have hc := t_isSort (l := l) (E := E) (d := d + 2) (rf := [cb, sd, ln, pp]) sort D
  refine hr.2.2.1 _ _ _ _ _ (d + 2) rfl (by omega) hc (fun v S hq => ?_)
  clear hc
  obtain ⟨rfl, rfl⟩ := hq
  refine hr.2.1 _ (fv_isSort sort D = 0) _ _ rfl (fun h4 => ?_) (fun h4 => ?_)
  · skip
    refine hr.1 1 True _ _ (28, [some (.ref 0), some (.int sort), some (.int props), some (.int piece), none], [.int (-3)], [cb, sd, ln, pp], D) rfl trivial ?_
    exact hr.2.2.2 _ _ _ rfl trivial ⟨by rw [if_pos h4], ⟨_, rfl⟩⟩
  · skip
    refine hr.1 1 True _ _ (8, [some (.ref 0), some (.int sort), some (.int props), some (.int piece), none], [.int props], [cb, sd, ln, pp], D) rfl trivial ?_
    have hc := t_areProps (l := l) (E := E) (d := d + 2) (rf := [cb, sd, ln, pp]) props D
    refine hr.2.2.1 _ _ _ _ _ (d + 2) rfl (by omega) hc (fun v S hq => ?_)
    clear hc
    obtain ⟨rfl, rfl⟩ := hq
    refine hr.2.1 _ (fv_areProps props D = 0) _ _ rfl (fun h11 => ?_) (fun h11 => ?_)
    · skip
      refine hr.1 1 True _ _ (28, [some (.ref 0), some (.int sort), some (.int props), some (.int piece), none], [.int (-3)], [cb, sd, ln, pp], D) rfl trivial ?_
      exact hr.2.2.2 _ _ _ rfl trivial ⟨by rw [if_neg h4, if_pos h11], ⟨_, rfl⟩⟩
    · skip
      refine hr.1 2 True _ _ (16, [some (.ref 0), some (.int sort), some (.int props), some (.int piece), none], [.int 1, .int piece], [cb, sd, ln, pp], D) rfl trivial ?_
      refine hr.2.1 _ (piece < 1) _ _ rfl (fun h16 => ?_) (fun h16 => ?_)
      · skip
        refine hr.1 1 True _ _ (28, [some (.ref 0), some (.int sort), some (.int props), some (.int piece), none], [.int (-3)], [cb, sd, ln, pp], D) rfl trivial ?_
        exact hr.2.2.2 _ _ _ rfl trivial ⟨by rw [if_neg h4, if_neg h11, if_pos h16], ⟨_, rfl⟩⟩
      · skip
        refine hr.1 2 True _ _ (23, [some (.ref 0), some (.int sort), some (.int props), some (.int piece), none], [.int 400, .int piece], [cb, sd, ln, pp], D) rfl trivial ?_
        refine hr.2.1 _ (piece ≤ 400) _ _ rfl (fun h23 => ?_) (fun h23 => ?_)
        · skip
          refine hr.1 6 True _ _ (39, [some (.ref 0), some (.int sort), some (.int props), some (.int piece), none], [.int props, .int sort, .ref 1, .ref 17], [cb, sd, ln, pp], D) rfl trivial ?_
          have hc := t_wbegin (l := l) (E := E) (d := d) (cb := cb) (sd := sd) (ln := ln) (pp := pp) sort props D
          refine hr.2.2.1 _ _ _ _ _ (d + 2) rfl (by omega) hc (fun v S hq => ?_)
          clear hc
          obtain ⟨rfl, hS⟩ := hq
          rw [e1] at hS
          subst hS
          refine hr.1 3 True _ _ (49, [some (.ref 0), some (.int sort), some (.int props), some (.int piece), none], [.int (zg_i D1 1 1)], [cb, sd, ln, 1], D1) rfl trivial ?_
          refine hr.2.1 _ (zg_i D1 1 1 ≤ 0) _ _ rfl (fun _ => ?_) (fun h => absurd (by rw [hp1]; decide) h)
          refine hr.1 2 True _ _ (117, [some (.ref 0), some (.int sort), some (.int props), some (.int piece), none], [.ref 17], [cb, sd, ln, 1], D1) rfl trivial ?_
          have hc := t_windex (l := l) (E := E) (d := d) (cb := cb) (sd := sd) (ln := ln) D1 hd1
          refine hr.2.2.1 _ _ _ _ _ (d + 2) rfl (by omega) hc (fun v S hq => ?_)
          clear hc
          obtain ⟨rfl, hS⟩ := hq
          rw [e2] at hS
          subst hS
          refine hr.1 2 True _ _ (124, [some (.ref 0), some (.int sort), some (.int props), some (.int piece), none], [.ref 17], [cb, sd, ln, 1], D2) rfl trivial ?_
          have hc := t_wend (l := l) (E := E) (d := d) (rf := [cb, sd, ln, 1]) D2 hd2
          refine hr.2.2.1 _ _ _ _ _ (d + 2) rfl (by omega) hc (fun v S hq => ?_)
          clear hc
          obtain ⟨rfl, hS⟩ := hq
          rw [e3] at hS
          subst hS
          refine hr.1 4 True _ _ (137, [some (.ref 0), some (.int sort), some (.int props), some (.int piece), none], [.int (zg_i D3 18 2)], [cb, sd, ln, 1], D3) rfl trivial ?_
          refine hr.2.1 _ (zg_i D3 18 2 = 0) _ _ rfl (fun _ => ?_) (fun h => absurd hov h)
          refine hr.1 5 True _ _ (154, [some (.ref 0), some (.int sort), some (.int props), some (.int piece), none], [.ref 18, .ref 3], [cb, sd, ln, 1], D3) rfl trivial ?_
          have hc := t_become3 (l := l) (E := E) (d := d + 2) (rf := [cb, sd, ln, 1]) D3 (m := 32) hm (by decide)
          refine hr.2.2.1 _ _ _ _ _ (d + 2) rfl (by omega) hc (fun v S hq => ?_)
          clear hc
          obtain ⟨rfl, hS⟩ := hq
          rw [e4] at hS
          subst hS
          refine hr.1 3 True _ _ (164, [some (.ref 0), some (.int sort), some (.int props), some (.int piece), none], [.int (zg_i D4 3 1)], [cb, sd, ln, 1], D4) rfl trivial ?_
          exact hr.2.2.2 _ _ _ rfl trivial ⟨by rw [if_neg h4, if_neg h11, if_neg h16, if_pos h23], ⟨_, rfl⟩⟩
        · skip
          refine hr.1 1 True _ _ (28, [some (.ref 0), some (.int sort), some (.int props), some (.int piece), none], [.int (-3)], [cb, sd, ln, pp], D) rfl trivial ?_
          exact hr.2.2.2 _ _ _ rfl trivial ⟨by rw [if_neg h4, if_neg h11, if_neg h16, if_neg h23], ⟨_, rfl⟩⟩
