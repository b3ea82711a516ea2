/-! The reference: pack of an empty row: sizes alone (what p1 asks) -/
theorem fw_p {b : Int32} {D : zx_D} : zg_i (fs_rwrite b D) 0 1 = zg_i D 0 1 := by
  unfold fs_rwrite
  split
  · rw [zg_pi, if_neg (by omega)]
  · rw [zg_pi, if_neg (by omega), zg_pi, if_neg (by omega)]
theorem fw_all_p {g : Nat → Int32} : ∀ {k j : Nat} {D : zx_D}, zg_i (fw_all g k j D) 0 1 = zg_i D 0 1
  | 0, _, _ => rfl
  | k + 1, j, D => by
    have := fw_all_p (g := g) (k := k) (j := j + 1) (D := fs_rwrite (g j) D)
    rw [fw_p] at this
    exact this
/-- a state of the writing: so many bytes are in the box, the plain row is empty -/
def bs (D : zx_D) (m : Nat) : Prop := zg_i D 0 7 = nI m ∧ zg_i D 0 1 = 0
theorem bs_w {b : Int32} {D : zx_D} {m : Nat} (h : bs D m) : bs (fs_rwrite b D) (m + 1) := ⟨fw_n h.1, fw_p.trans h.2⟩
theorem bs_a {g : Nat → Int32} {k j : Nat} {D : zx_D} {m : Nat} (h : bs D m) : bs (fw_all g k j D) (m + k) := ⟨fw_all_n h.1, fw_all_p.trans h.2⟩
theorem bs_v {D : zx_D} {m : Nat} (h : bs D m) : bs (fw_vli 2 0 D) (m + 1) := bs_w h
set_option maxRecDepth 100000 in
set_option maxHeartbeats 4000000 in
theorem t_rpack0 {l : Launch} {E : zx_E} {d : Nat} (kind props piece : Int32) (D : zx_D) (hp : zg_i D 0 1 = 0) : zx_MR l E 179 (d + 3) [.ref 0, .int kind, .int props, .int piece] ([], D) (fun v S => v = some (.int (if fv_risSort kind D = 0 then -3 else if fv_risProps props D = 0 then -3 else if piece < 1 then -3 else if piece ≤ 400 then 32 else -3)) ∧ ∃ S', S = S') := by
  refine zx_ofR (K := ck_R_pack) rfl (by decide +kernel) rfl ok_R_pack (Nat.le_of_ble_eq_true rfl) (fun Zp hr => ?_)
  show Zp (0, [some (.ref 0), some (.int kind), some (.int props), some (.int piece), none, none, none, none, none, none], [], [], D)
  refine hr.1 1 True _ _ (1, [some (.ref 0), some (.int kind), some (.int props), some (.int piece), none, none, none, none, none, none], [.int kind], [], D) rfl trivial ?_
  have hc := t_risSort (l := l) (E := E) (d := d + 2) kind D
  refine hr.2.2.1 _ _ _ _ _ (d + 2) rfl (by omega) hc (fun v S hq => ?_)
  clear hc
  obtain ⟨rfl, rfl⟩ := hq
  refine hr.2.1 _ (fv_risSort kind D = 0) _ _ rfl (fun h4 => ?_) (fun h4 => ?_)
  · skip
    refine hr.1 1 True _ _ (28, [some (.ref 0), some (.int kind), some (.int props), some (.int piece), none, none, none, none, none, none], [.int (-3)], [], D) rfl trivial ?_
    exact hr.2.2.2 _ _ _ rfl trivial ⟨by rw [if_pos h4], ⟨_, rfl⟩⟩
  · skip
    refine hr.1 1 True _ _ (8, [some (.ref 0), some (.int kind), some (.int props), some (.int piece), none, none, none, none, none, none], [.int props], [], D) rfl trivial ?_
    have hc := t_risProps (l := l) (E := E) (d := d + 2) props D
    refine hr.2.2.1 _ _ _ _ _ (d + 2) rfl (by omega) hc (fun v S hq => ?_)
    clear hc
    obtain ⟨rfl, rfl⟩ := hq
    refine hr.2.1 _ (fv_risProps props D = 0) _ _ rfl (fun h11 => ?_) (fun h11 => ?_)
    · skip
      refine hr.1 1 True _ _ (28, [some (.ref 0), some (.int kind), some (.int props), some (.int piece), none, none, none, none, none, none], [.int (-3)], [], D) rfl trivial ?_
      exact hr.2.2.2 _ _ _ rfl trivial ⟨by rw [if_neg h4, if_pos h11], ⟨_, rfl⟩⟩
    · skip
      refine hr.1 2 True _ _ (16, [some (.ref 0), some (.int kind), some (.int props), some (.int piece), none, none, none, none, none, none], [.int 1, .int piece], [], D) rfl trivial ?_
      refine hr.2.1 _ (piece < 1) _ _ rfl (fun h16 => ?_) (fun h16 => ?_)
      · skip
        refine hr.1 1 True _ _ (28, [some (.ref 0), some (.int kind), some (.int props), some (.int piece), none, none, none, none, none, none], [.int (-3)], [], D) rfl trivial ?_
        exact hr.2.2.2 _ _ _ rfl trivial ⟨by rw [if_neg h4, if_neg h11, if_pos h16], ⟨_, rfl⟩⟩
      · skip
        refine hr.1 2 True _ _ (23, [some (.ref 0), some (.int kind), some (.int props), some (.int piece), none, none, none, none, none, none], [.int 400, .int piece], [], D) rfl trivial ?_
        refine hr.2.1 _ (piece ≤ 400) _ _ rfl (fun h23 => ?_) (fun h23 => ?_)
        · skip
          refine hr.1 5 True _ _ (37, [some (.ref 0), some (.int kind), some (.int props), some (.int piece), some (.int 0), none, none, none, none, none], [], [], zp_i D 0 7 0) rfl trivial ?_
          have hv : ((if fv_risSort kind D = 0 then -3 else if fv_risProps props D = 0 then -3 else if piece < 1 then -3 else if piece ≤ 400 then 32 else -3) : Int32) = 32 := by rw [if_neg h4, if_neg h11, if_neg h16, if_pos h23]
          have la0 : ∀ (o4 o5 o6 o7 : Option Value) (k j : Nat) (D1 : zx_D), j + k = 32 → zg_i D1 0 7 = nI 32 → zg_i D1 0 3 = nI 32 → Zp (293, [some (.ref 0), some (.int kind), some (.int props), some (.int piece), o4, o5, o6, o7, none, some (.int (nI j))], [], [], D1) := by
            intro o4 o5 o6 o7
            have la : ∀ (k : Nat) (j : Nat) (D1 : zx_D), j + k = 32 → zg_i D1 0 7 = nI 32 → zg_i D1 0 3 = nI 32 → Zp (293, [some (.ref 0), some (.int kind), some (.int props), some (.int piece), o4, o5, o6, o7, none, some (.int (nI j))], [], [], D1) := by
              intro k
              induction k with
              | zero =>
                intro j D1 hj h7 h3
                refine hr.1 3 True _ _ (299, [some (.ref 0), some (.int kind), some (.int props), some (.int piece), o4, o5, o6, o7, none, some (.int (nI j))], [.int (zg_i D1 0 7), .int (nI j)], [], D1) rfl trivial ?_
                refine hr.2.1 _ (zg_i D1 0 7 ≤ nI j) _ _ rfl (fun _ => ?_) (fun h => absurd (by rw [h7, show j = 32 by omega]; exact Int32.le_refl _) h)
                refine hr.1 2 True _ _ (326, [some (.ref 0), some (.int kind), some (.int props), some (.int piece), o4, o5, o6, o7, none, some (.int (nI j))], [.int (zg_i D1 0 3)], [], D1) rfl trivial ?_
                exact hr.2.2.2 _ _ _ rfl trivial ⟨by rw [h3, hv]; rfl, ⟨_, rfl⟩⟩
              | succ k ih =>
                intro j D1 hj h7 h3
                refine hr.1 3 True _ _ (299, [some (.ref 0), some (.int kind), some (.int props), some (.int piece), o4, o5, o6, o7, none, some (.int (nI j))], [.int (zg_i D1 0 7), .int (nI j)], [], D1) rfl trivial ?_
                refine hr.2.1 _ (zg_i D1 0 7 ≤ nI j) _ _ rfl (fun h => absurd h (by rw [h7, nI_leI (by omega) (by omega)]; omega)) (fun _ => ?_)
                refine hr.1 10 True _ _ (293, [some (.ref 0), some (.int kind), some (.int props), some (.int piece), o4, o5, o6, o7, none, some (.int ((nI j) + 1))], [], [], zp_i D1 2 (zn (nI j)) (zg_i D1 4 (zn (nI j)))) rfl ⟨⟨trivial, (pk_in j 640 (by omega))⟩, (pk_in j 640 (by omega))⟩ ?_
                rw [nI_1]
                exact ih (j + 1) _ (by omega) (by rw [zg_pi, if_neg (by omega)]; exact h7) (by rw [zg_pi, if_neg (by omega)]; exact h3)
            exact la
          have lb : ∀ (q6 : Int32) (s1 : Int64) (o9 : Option Value) (E1 : zx_D), bs E1 20 → Zp (228, [some (.ref 0), some (.int kind), some (.int props), some (.int piece), some (.int 0), some (.int (nI 12)), some (.int q6), some (.long s1), none, o9], [], [], E1) := by
            intro q6 s1 o9 E1 hb
            refine hr.1 5 True _ _ (236, [some (.ref 0), some (.int kind), some (.int props), some (.int piece), some (.int 0), some (.int (nI 12)), some (.int q6), some (.long s1), none, o9], [.int 4, .long (s1 ^^^ 4294967295), .ref 0], [], E1) rfl trivial ?_
            have hc := t_rwnum (l := l) (E := E) (d := d + 1) (s1 ^^^ 4294967295) 4 E1 (m := 20) hb.1 (by decide)
            refine hr.2.2.1 _ _ _ _ _ (d + 2) rfl (by omega) hc (fun v S hq => ?_)
            clear hc
            obtain ⟨rfl, rfl⟩ := hq
            have f1_0 : bs (fw_all (zb_r (s1 ^^^ 4294967295)) 4 0 E1) 24 := bs_a hb
            generalize hD1 : fw_all (zb_r (s1 ^^^ 4294967295)) 4 0 E1 = D1 at f1_0 ⊢
            refine hr.1 4 True _ _ (244, [some (.ref 0), some (.int kind), some (.int props), some (.int piece), some (.int 0), some (.int (nI 12)), some (.int q6), some (.long s1), none, o9], [.int 4, .long ((q6).toInt64), .ref 0], [], D1) rfl trivial ?_
            have hc := t_rwnum (l := l) (E := E) (d := d + 1) ((q6).toInt64) 4 D1 (m := 24) f1_0.1 (by decide)
            refine hr.2.2.1 _ _ _ _ _ (d + 2) rfl (by omega) hc (fun v S hq => ?_)
            clear hc
            obtain ⟨rfl, rfl⟩ := hq
            have f2_0 : bs (fw_all (zb_r ((q6).toInt64)) 4 0 D1) 28 := bs_a f1_0
            generalize hD2 : fw_all (zb_r ((q6).toInt64)) 4 0 D1 = D2 at f2_0 ⊢
            refine hr.1 2 True _ _ (249, [some (.ref 0), some (.int kind), some (.int props), some (.int piece), some (.int 0), some (.int (nI 12)), some (.int q6), some (.long s1), none, o9], [.int 0, .ref 0], [], D2) rfl trivial ?_
            have hc := t_rwrite (l := l) (E := E) (d := d + 2) 0 D2 (nI_ge0 f2_0.1 (by decide))
            refine hr.2.2.1 _ _ _ _ _ (d + 2) rfl (by omega) hc (fun v S hq => ?_)
            clear hc
            obtain ⟨rfl, rfl⟩ := hq
            have f3_0 : bs (fs_rwrite 0 D2) 29 := bs_w f2_0
            generalize hD3 : fs_rwrite 0 D2 = D3 at f3_0 ⊢
            refine hr.1 2 True _ _ (254, [some (.ref 0), some (.int kind), some (.int props), some (.int piece), some (.int 0), some (.int (nI 12)), some (.int q6), some (.long s1), none, o9], [.int kind, .ref 0], [], D3) rfl trivial ?_
            have hc := t_rwrite (l := l) (E := E) (d := d + 2) kind D3 (nI_ge0 f3_0.1 (by decide))
            refine hr.2.2.1 _ _ _ _ _ (d + 2) rfl (by omega) hc (fun v S hq => ?_)
            clear hc
            obtain ⟨rfl, rfl⟩ := hq
            have f4_0 : bs (fs_rwrite kind D3) 30 := bs_w f3_0
            generalize hD4 : fs_rwrite kind D3 = D4 at f4_0 ⊢
            refine hr.1 2 True _ _ (260, [some (.ref 0), some (.int kind), some (.int props), some (.int piece), some (.int 0), some (.int (nI 12)), some (.int q6), some (.long s1), none, o9], [.int 89, .ref 0], [], D4) rfl trivial ?_
            have hc := t_rwrite (l := l) (E := E) (d := d + 2) 89 D4 (nI_ge0 f4_0.1 (by decide))
            refine hr.2.2.1 _ _ _ _ _ (d + 2) rfl (by omega) hc (fun v S hq => ?_)
            clear hc
            obtain ⟨rfl, rfl⟩ := hq
            have f5_0 : bs (fs_rwrite 89 D4) 31 := bs_w f4_0
            generalize hD5 : fs_rwrite 89 D4 = D5 at f5_0 ⊢
            refine hr.1 2 True _ _ (266, [some (.ref 0), some (.int kind), some (.int props), some (.int piece), some (.int 0), some (.int (nI 12)), some (.int q6), some (.long s1), none, o9], [.int 90, .ref 0], [], D5) rfl trivial ?_
            have hc := t_rwrite (l := l) (E := E) (d := d + 2) 90 D5 (nI_ge0 f5_0.1 (by decide))
            refine hr.2.2.1 _ _ _ _ _ (d + 2) rfl (by omega) hc (fun v S hq => ?_)
            clear hc
            obtain ⟨rfl, rfl⟩ := hq
            have f6_0 : bs (fs_rwrite 90 D5) 32 := bs_w f5_0
            generalize hD6 : fs_rwrite 90 D5 = D6 at f6_0 ⊢
            refine hr.1 3 True _ _ (276, [some (.ref 0), some (.int kind), some (.int props), some (.int piece), some (.int 0), some (.int (nI 12)), some (.int q6), some (.long s1), none, o9], [.int 640, .int (zg_i D6 0 7)], [], D6) rfl trivial ?_
            refine hr.2.1 _ (zg_i D6 0 7 ≤ 640) _ _ rfl (fun _ => ?_) (fun h => absurd (by rw [f6_0.1]; decide) h)
            refine hr.1 6 True _ _ (293, [some (.ref 0), some (.int kind), some (.int props), some (.int piece), some (.int 0), some (.int (nI 12)), some (.int q6), some (.long s1), none, some (.int 0)], [], [], zp_i D6 0 3 (zg_i D6 0 7)) rfl trivial ?_
            exact la0 _ _ _ _ 32 0 _ (by omega) (by rw [zg_pi, if_neg (by omega)]; exact f6_0.1) (by rw [zg_pi, if_pos ⟨rfl, rfl⟩]; exact f6_0.1)
          have lc0 : ∀ (q6 : Int32) (E1 : zx_D), bs E1 20 → ∀ (k j : Nat) (s1 : Int64), j + k = 6 → Zp (176, [some (.ref 0), some (.int kind), some (.int props), some (.int piece), some (.int 0), some (.int (nI 12)), some (.int q6), some (.long s1), none, some (.int (nI j))], [], [], E1) := by
            intro q6 E1 hb
            have lc : ∀ (k : Nat) (j : Nat) (s1 : Int64), j + k = 6 → Zp (176, [some (.ref 0), some (.int kind), some (.int props), some (.int piece), some (.int 0), some (.int (nI 12)), some (.int q6), some (.long s1), none, some (.int (nI j))], [], [], E1) := by
              intro k
              induction k with
              | zero =>
                intro j s1 hj
                refine hr.1 2 True _ _ (180, [some (.ref 0), some (.int kind), some (.int props), some (.int piece), some (.int 0), some (.int (nI 12)), some (.int q6), some (.long s1), none, some (.int (nI j))], [.int 6, .int (nI j)], [], E1) rfl trivial ?_
                refine hr.2.1 _ (6 ≤ nI j) _ _ rfl (fun _ => ?_) (fun h => absurd (by rw [show j = 6 by omega]; decide) h)
                exact lb _ _ _ _ hb
              | succ k ih =>
                intro j s1 hj
                refine hr.1 2 True _ _ (180, [some (.ref 0), some (.int kind), some (.int props), some (.int piece), some (.int 0), some (.int (nI 12)), some (.int q6), some (.long s1), none, some (.int (nI j))], [.int 6, .int (nI j)], [], E1) rfl trivial ?_
                refine hr.2.1 _ (6 ≤ nI j) _ _ rfl (fun h => absurd h (by rw [show (6 : Int32) = nI 6 from rfl, nI_leI (by omega) (by omega)]; omega)) (fun _ => ?_)
                refine hr.1 3 True _ _ (188, [some (.ref 0), some (.int kind), some (.int props), some (.int piece), some (.int 0), some (.int (nI 12)), some (.int q6), some (.long s1), none, some (.int (nI j))], [.int 4, .int (nI j), .long s1], [], E1) rfl trivial ?_
                refine hr.2.1 _ (4 ≤ nI j) _ _ rfl (fun h188 => ?_) (fun h188 => ?_)
                · skip
                  refine hr.1 2 True _ _ (209, [some (.ref 0), some (.int kind), some (.int props), some (.int piece), some (.int 0), some (.int (nI 12)), some (.int q6), some (.long s1), none, some (.int (nI j))], [.int 4, .int (nI j), .long s1], [], E1) rfl trivial ?_
                  refine hr.2.1 _ (¬ nI j = 4) _ _ rfl (fun h209 => ?_) (fun h209 => ?_)
                  · skip
                    refine hr.1 1 True _ _ (217, [some (.ref 0), some (.int kind), some (.int props), some (.int piece), some (.int 0), some (.int (nI 12)), some (.int q6), some (.long s1), none, some (.int (nI j))], [.int kind, .long s1], [], E1) rfl trivial ?_
                    have hc := t_rfour (l := l) (E := E) (d := d + 2) s1 kind E1
                    refine hr.2.2.1 _ _ _ _ _ (d + 2) rfl (by omega) hc (fun v S hq => ?_)
                    clear hc
                    obtain ⟨rfl, rfl⟩ := hq
                    refine hr.1 3 True _ _ (176, [some (.ref 0), some (.int kind), some (.int props), some (.int piece), some (.int 0), some (.int (nI 12)), some (.int q6), some (.long (fv_rfour s1 kind E1)), none, some (.int ((nI j) + 1))], [], [], E1) rfl trivial ?_
                    rw [nI_1]
                    exact ih (j + 1) _ (by omega)
                  · skip
                    refine hr.1 2 True _ _ (217, [some (.ref 0), some (.int kind), some (.int props), some (.int piece), some (.int 0), some (.int (nI 12)), some (.int q6), some (.long s1), none, some (.int (nI j))], [.int 0, .long s1], [], E1) rfl trivial ?_
                    have hc := t_rfour (l := l) (E := E) (d := d + 2) s1 0 E1
                    refine hr.2.2.1 _ _ _ _ _ (d + 2) rfl (by omega) hc (fun v S hq => ?_)
                    clear hc
                    obtain ⟨rfl, rfl⟩ := hq
                    refine hr.1 3 True _ _ (176, [some (.ref 0), some (.int kind), some (.int props), some (.int piece), some (.int 0), some (.int (nI 12)), some (.int q6), some (.long (fv_rfour s1 0 E1)), none, some (.int ((nI j) + 1))], [], [], E1) rfl trivial ?_
                    rw [nI_1]
                    exact ih (j + 1) _ (by omega)
                · skip
                  refine hr.1 8 True _ _ (217, [some (.ref 0), some (.int kind), some (.int props), some (.int piece), some (.int 0), some (.int (nI 12)), some (.int q6), some (.long s1), none, some (.int (nI j))], [.int ((zo_shr q6 (8 * (nI j))) &&& 255), .long s1], [], E1) rfl trivial ?_
                  have hc := t_rfour (l := l) (E := E) (d := d + 2) s1 ((zo_shr q6 (8 * (nI j))) &&& 255) E1
                  refine hr.2.2.1 _ _ _ _ _ (d + 2) rfl (by omega) hc (fun v S hq => ?_)
                  clear hc
                  obtain ⟨rfl, rfl⟩ := hq
                  refine hr.1 3 True _ _ (176, [some (.ref 0), some (.int kind), some (.int props), some (.int piece), some (.int 0), some (.int (nI 12)), some (.int q6), some (.long (fv_rfour s1 ((zo_shr q6 (8 * (nI j))) &&& 255) E1)), none, some (.int ((nI j) + 1))], [], [], E1) rfl trivial ?_
                  rw [nI_1]
                  exact ih (j + 1) _ (by omega)
            exact lc
          have ld : ∀ (o4 : Option Value) (E1 : zx_D), bs E1 6 → Zp (59, [some (.ref 0), some (.int kind), some (.int props), some (.int piece), o4, none, none, none, none, none], [], [], E1) := by
            intro o4 E1 hb
            refine hr.1 2 True _ _ (61, [some (.ref 0), some (.int kind), some (.int props), some (.int piece), o4, none, none, none, none, none], [.int 0, .ref 0], [], E1) rfl trivial ?_
            have hc := t_rwrite (l := l) (E := E) (d := d + 2) 0 E1 (nI_ge0 hb.1 (by decide))
            refine hr.2.2.1 _ _ _ _ _ (d + 2) rfl (by omega) hc (fun v S hq => ?_)
            clear hc
            obtain ⟨rfl, rfl⟩ := hq
            have f1_0 : bs (fs_rwrite 0 E1) 7 := bs_w hb
            generalize hD1 : fs_rwrite 0 E1 = D1 at f1_0 ⊢
            refine hr.1 2 True _ _ (66, [some (.ref 0), some (.int kind), some (.int props), some (.int piece), o4, none, none, none, none, none], [.int kind, .ref 0], [], D1) rfl trivial ?_
            have hc := t_rwrite (l := l) (E := E) (d := d + 2) kind D1 (nI_ge0 f1_0.1 (by decide))
            refine hr.2.2.1 _ _ _ _ _ (d + 2) rfl (by omega) hc (fun v S hq => ?_)
            clear hc
            obtain ⟨rfl, rfl⟩ := hq
            have f2_0 : bs (fs_rwrite kind D1) 8 := bs_w f1_0
            generalize hD2 : fs_rwrite kind D1 = D2 at f2_0 ⊢
            refine hr.1 2 True _ _ (72, [some (.ref 0), some (.int kind), some (.int props), some (.int piece), o4, none, none, none, none, none], [.int 6, .ref 0], [], D2) rfl trivial ?_
            have hc := t_rwsum (l := l) (E := E) (d := d) 6 D2 (m := 8) f2_0.1 (by decide) (by decide) (by decide)
            refine hr.2.2.1 _ _ _ _ _ (d + 2) rfl (by omega) hc (fun v S hq => ?_)
            clear hc
            obtain ⟨rfl, rfl⟩ := hq
            have f3_0 : bs (fw_all (zb_r (zr_sum ((D2).1 4) (min 8 640 - 6) 6 4294967295 ^^^ 4294967295)) 4 0 D2) 12 := bs_a f2_0
            generalize hD3 : fw_all (zb_r (zr_sum ((D2).1 4) (min 8 640 - 6) 6 4294967295 ^^^ 4294967295)) 4 0 D2 = D3 at f3_0 ⊢
            refine hr.1 2 True _ _ (79, [some (.ref 0), some (.int kind), some (.int props), some (.int piece), o4, none, none, none, none, none], [.int (zg_i D3 0 1)], [], D3) rfl trivial ?_
            refine hr.2.1 _ (zg_i D3 0 1 ≤ 0) _ _ rfl (fun _ => ?_) (fun h => absurd (by rw [f3_0.2]; decide) h)
            refine hr.1 7 True _ _ (103, [some (.ref 0), some (.int kind), some (.int props), some (.int piece), some (.int 0), some (.int (zg_i D3 0 7)), none, none, none, none], [.int 0, .ref 0], [], D3) rfl trivial ?_
            rw [f3_0.1]
            have hc := t_rwrite (l := l) (E := E) (d := d + 2) 0 D3 (nI_ge0 f3_0.1 (by decide))
            refine hr.2.2.1 _ _ _ _ _ (d + 2) rfl (by omega) hc (fun v S hq => ?_)
            clear hc
            obtain ⟨rfl, rfl⟩ := hq
            have f4_0 : bs (fs_rwrite 0 D3) 13 := bs_w f3_0
            generalize hD4 : fs_rwrite 0 D3 = D4 at f4_0 ⊢
            refine hr.1 3 True _ _ (111, [some (.ref 0), some (.int kind), some (.int props), some (.int piece), some (.int 0), some (.int (nI 12)), none, none, none, none], [.int (zg_i D4 0 1), .ref 0], [], D4) rfl trivial ?_
            refine hr.2.1 _ (zg_i D4 0 1 ≤ 0) _ _ rfl (fun _ => ?_) (fun h => absurd (by rw [f4_0.2]; decide) h)
            refine hr.1 1 True _ _ (119, [some (.ref 0), some (.int kind), some (.int props), some (.int piece), some (.int 0), some (.int (nI 12)), none, none, none, none], [.int 0, .ref 0], [], D4) rfl trivial ?_
            have hc := t_rwvli (l := l) (E := E) (d := d + 1) 0 D4 (m := 13) f4_0.1 (by decide) (by decide)
            refine hr.2.2.1 _ _ _ _ _ (d + 2) rfl (by omega) hc (fun v S hq => ?_)
            clear hc
            obtain ⟨rfl, rfl⟩ := hq
            have f5_0 : bs (fw_vli 2 0 D4) 14 := bs_v f4_0
            generalize hD5 : fw_vli 2 0 D4 = D5 at f5_0 ⊢
            refine hr.1 2 True _ _ (126, [some (.ref 0), some (.int kind), some (.int props), some (.int piece), some (.int 0), some (.int (nI 12)), none, none, none, none], [.int (zg_i D5 0 1)], [], D5) rfl trivial ?_
            refine hr.2.1 _ (zg_i D5 0 1 ≤ 0) _ _ rfl (fun _ => ?_) (fun h => absurd (by rw [f5_0.2]; decide) h)
            refine hr.1 2 True _ _ (146, [some (.ref 0), some (.int kind), some (.int props), some (.int piece), some (.int 0), some (.int (nI 12)), none, none, none, none], [.int (nI 12), .ref 0], [], D5) rfl trivial ?_
            have hc := t_rwzeros (l := l) (E := E) (d := d + 1) 12 D5 (m0 := 14) f5_0.1 (by decide) (by decide)
            refine hr.2.2.1 _ _ _ _ _ (d + 2) rfl (by omega) hc (fun v S hq => ?_)
            clear hc
            obtain ⟨rfl, rfl⟩ := hq
            have f6_0 : bs (fw_all (fun _ => 0) (zw_pad (14 - 12)) 0 D5) 16 := bs_a f5_0
            generalize hD6 : fw_all (fun _ => 0) (zw_pad (14 - 12)) 0 D5 = D6 at f6_0 ⊢
            refine hr.1 2 True _ _ (152, [some (.ref 0), some (.int kind), some (.int props), some (.int piece), some (.int 0), some (.int (nI 12)), none, none, none, none], [.int (nI 12), .ref 0], [], D6) rfl trivial ?_
            have hc := t_rwsum (l := l) (E := E) (d := d) 12 D6 (m := 16) f6_0.1 (by decide) (by decide) (by decide)
            refine hr.2.2.1 _ _ _ _ _ (d + 2) rfl (by omega) hc (fun v S hq => ?_)
            clear hc
            obtain ⟨rfl, rfl⟩ := hq
            have f7_0 : bs (fw_all (zb_r (zr_sum ((D6).1 4) (min 16 640 - 12) 12 4294967295 ^^^ 4294967295)) 4 0 D6) 20 := bs_a f6_0
            generalize hD7 : fw_all (zb_r (zr_sum ((D6).1 4) (min 16 640 - 12) 12 4294967295 ^^^ 4294967295)) 4 0 D6 = D7 at f7_0 ⊢
            refine hr.1 13 True _ _ (176, [some (.ref 0), some (.int kind), some (.int props), some (.int piece), some (.int 0), some (.int (nI 12)), some (.int ((((zg_i D7 0 7) - (nI 12)) / 4) - 1)), some (.long 4294967295), none, some (.int 0)], [], [], D7) rfl trivial ?_
            rw [f7_0.1]
            exact lc0 _ _ f7_0 6 0 _ (by omega)
          have le : ∀ (k : Nat) (j : Nat) (E1 : zx_D), j + k = 6 → bs E1 j → Zp (37, [some (.ref 0), some (.int kind), some (.int props), some (.int piece), some (.int (nI j)), none, none, none, none, none], [], [], E1) := by
            intro k
            induction k with
            | zero =>
              intro j E1 hj hb
              refine hr.1 2 True _ _ (41, [some (.ref 0), some (.int kind), some (.int props), some (.int piece), some (.int (nI j)), none, none, none, none, none], [.int 6, .int (nI j)], [], E1) rfl trivial ?_
              refine hr.2.1 _ (6 ≤ nI j) _ _ rfl (fun _ => ?_) (fun h => absurd (by rw [show j = 6 by omega]; decide) h)
              exact ld _ _ (by rw [show 6 = j by omega]; exact hb)
            | succ k ih =>
              intro j E1 hj hb
              refine hr.1 2 True _ _ (41, [some (.ref 0), some (.int kind), some (.int props), some (.int piece), some (.int (nI j)), none, none, none, none, none], [.int 6, .int (nI j)], [], E1) rfl trivial ?_
              refine hr.2.1 _ (6 ≤ nI j) _ _ rfl (fun h => absurd h (by rw [show (6 : Int32) = nI 6 from rfl, nI_leI (by omega) (by omega)]; omega)) (fun _ => ?_)
              refine hr.1 2 True _ _ (47, [some (.ref 0), some (.int kind), some (.int props), some (.int piece), some (.int (nI j)), none, none, none, none, none], [.int (nI j), .ref 0], [], E1) rfl trivial ?_
              have hc := t_rmagic (l := l) (E := E) (d := d + 2) (nI j) E1
              refine hr.2.2.1 _ _ _ _ _ (d + 2) rfl (by omega) hc (fun v S hq => ?_)
              clear hc
              obtain ⟨rfl, rfl⟩ := hq
              have hc := t_rwrite (l := l) (E := E) (d := d + 2) (fv_rmagic (nI j) E1) E1 (nI_ge0 hb.1 (by omega))
              refine hr.2.2.1 _ _ _ _ _ (d + 2) rfl (by omega) hc (fun v S hq => ?_)
              clear hc
              obtain ⟨rfl, rfl⟩ := hq
              refine hr.1 2 True _ _ (37, [some (.ref 0), some (.int kind), some (.int props), some (.int piece), some (.int ((nI j) + 1)), none, none, none, none, none], [], [], fs_rwrite (fv_rmagic (nI j) E1) E1) rfl trivial ?_
              rw [nI_1]
              exact ih (j + 1) _ (by omega) (bs_w hb)
          exact le 6 0 _ (by omega) ⟨by rw [zg_pi, if_pos ⟨rfl, rfl⟩]; rfl, by rw [zg_pi, if_neg (by omega)]; exact hp⟩
        · skip
          refine hr.1 1 True _ _ (28, [some (.ref 0), some (.int kind), some (.int props), some (.int piece), none, none, none, none, none, none], [.int (-3)], [], D) rfl trivial ?_
          exact hr.2.2.2 _ _ _ rfl trivial ⟨by rw [if_neg h4, if_neg h11, if_neg h16, if_neg h23], ⟨_, rfl⟩⟩
