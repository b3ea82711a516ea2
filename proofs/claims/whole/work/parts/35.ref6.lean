/-! The reference: unpack of an empty packed row; copy on an empty plain row (what p1 asks) -/
theorem rhas0 {X : zx_D} (h3 : zg_i X 0 3 = 0) (h28 : zg_i X 0 28 = 0) (h29 : zg_i X 0 29 = 0) : fv_rhas 6 X = 0 ∧ zg_i (fs_rhas 6 X) 0 29 = -2 := by
  have e : zg_i (fs_rfail (-2) (zg_i X 0 28) X) 0 29 = -2 := by
    unfold fs_rfail
    rw [if_neg (fun q => q h29), zg_pi, if_pos ⟨rfl, rfl⟩]
  have hc : ¬ (6 : Int32) ≤ zg_i X 0 3 - zg_i X 0 28 := by rw [h3, h28]; decide
  have hn : ¬ zg_i (fs_rfail (-2) (zg_i X 0 28) X) 0 29 = 0 := by rw [e]; decide
  unfold fv_rhas fs_rhas
  rw [if_neg hc, if_pos hn, if_neg hc, if_pos hn]
  exact ⟨rfl, e⟩
set_option maxRecDepth 100000 in
set_option maxHeartbeats 4000000 in
theorem t_rbegin0 {l : Launch} {E : zx_E} {d : Nat} (D : zx_D) (hh : fv_rhas 6 (zp_i D 0 28 0) = 0) : zx_MR l E 121 (d + 2) [.ref 0] ([], D) (fun v S => v = none ∧ S = ([], fs_rhas 6 (zp_i D 0 28 0))) := by
  refine zx_ofR (K := ck_R_begin) rfl (by decide +kernel) rfl ok_R_begin (Nat.le_of_ble_eq_true rfl) (fun Zp hr => ?_)
  show Zp (0, [some (.ref 0), none], [], [], D)
  refine hr.1 5 True _ _ (8, [some (.ref 0), none], [.int 6, .ref 0], [], zp_i D 0 28 0) rfl trivial ?_
  refine hr.2.2.1 _ _ _ _ _ (d + 1) rfl (by omega) (t_rhas 6 (zp_i D 0 28 0)) (fun v S hq => ?_)
  obtain ⟨rfl, rfl⟩ := hq
  refine hr.2.1 _ (¬ fv_rhas 6 (zp_i D 0 28 0) = 0) _ _ rfl (fun h => absurd h (fun q => q hh)) (fun _ => ?_)
  exact hr.2.2.2 _ _ _ rfl trivial ⟨rfl, rfl⟩
set_option maxRecDepth 100000 in
set_option maxHeartbeats 4000000 in
theorem t_runpack0 {l : Launch} {E : zx_E} {d : Nat} (D : zx_D) (hps : zg_i D 0 3 = 0) : zx_MR l E 132 (d + 3) [.ref 0] ([], D) (fun v S => v = some (.int (-2)) ∧ ∃ S', S = S') := by
  refine zx_ofR (K := ck_R_unpack) rfl (by decide +kernel) rfl ok_R_unpack (Nat.le_of_ble_eq_true rfl) (fun Zp hr => ?_)
  show Zp (0, [some (.ref 0), none], [], [], D)
  have loop : ∀ (k : Nat) (j : Nat) (E1 : zx_D), j + k = 11 → zg_i E1 0 3 = 0 → Zp (2, [some (.ref 0), some (.int (nI j))], [], [], E1) := by
    intro k
    induction k with
    | zero =>
      intro j E1 hj hps
      refine hr.1 2 True _ _ (5, [some (.ref 0), some (.int (nI j))], [.int 11, .int (nI j)], [], E1) rfl trivial ?_
      refine hr.2.1 _ (11 ≤ nI j) _ _ rfl (fun _ => ?_) (fun h => absurd (by rw [show j = 11 by omega]; decide) h)
      refine hr.1 23 True _ _ (64, [some (.ref 0), some (.int (nI j))], [.ref 0], [], zp_i (zp_i (zp_i (zp_i (zp_l (zp_l (zp_i E1 0 38 (zg_i E1 0 37)) 0 39 (-1)) 0 40 (-1)) 0 5 0) 0 29 0) 0 30 (-1)) 0 32 0) rfl trivial ?_
      refine hr.2.2.1 _ _ _ _ _ (d + 2) rfl (by omega) (t_rbegin0 (zp_i (zp_i (zp_i (zp_i (zp_l (zp_l (zp_i E1 0 38 (zg_i E1 0 37)) 0 39 (-1)) 0 40 (-1)) 0 5 0) 0 29 0) 0 30 (-1)) 0 32 0) (rhas0 (X := zp_i (zp_i (zp_i (zp_i (zp_i (zp_l (zp_l (zp_i E1 0 38 (zg_i E1 0 37)) 0 39 (-1)) 0 40 (-1)) 0 5 0) 0 29 0) 0 30 (-1)) 0 32 0) 0 28 0) (by simp (decide := true) only [zg_pi, zg_il, if_true, if_false, and_true, and_false, true_and, false_and]; exact hps) (by simp (decide := true) only [zg_pi, zg_il, if_true, if_false, and_true, and_false, true_and, false_and]) (by simp (decide := true) only [zg_pi, zg_il, if_true, if_false, and_true, and_false, true_and, false_and])).1) (fun v S hq => ?_)
      obtain ⟨rfl, rfl⟩ := hq
      have f1_0 : zg_i (fs_rhas 6 (zp_i (zp_i (zp_i (zp_i (zp_i (zp_l (zp_l (zp_i E1 0 38 (zg_i E1 0 37)) 0 39 (-1)) 0 40 (-1)) 0 5 0) 0 29 0) 0 30 (-1)) 0 32 0) 0 28 0)) 0 29 = -2 := (rhas0 (X := zp_i (zp_i (zp_i (zp_i (zp_i (zp_l (zp_l (zp_i E1 0 38 (zg_i E1 0 37)) 0 39 (-1)) 0 40 (-1)) 0 5 0) 0 29 0) 0 30 (-1)) 0 32 0) 0 28 0) (by simp (decide := true) only [zg_pi, zg_il, if_true, if_false, and_true, and_false, true_and, false_and]; exact hps) (by simp (decide := true) only [zg_pi, zg_il, if_true, if_false, and_true, and_false, true_and, false_and]) (by simp (decide := true) only [zg_pi, zg_il, if_true, if_false, and_true, and_false, true_and, false_and])).2
      generalize hD1 : fs_rhas 6 (zp_i (zp_i (zp_i (zp_i (zp_i (zp_l (zp_l (zp_i E1 0 38 (zg_i E1 0 37)) 0 39 (-1)) 0 40 (-1)) 0 5 0) 0 29 0) 0 30 (-1)) 0 32 0) 0 28 0) = D1 at f1_0 ⊢
      refine hr.1 2 True _ _ (71, [some (.ref 0), some (.int (nI j))], [.int (zg_i D1 0 29)], [], D1) rfl trivial ?_
      refine hr.2.1 _ (¬ zg_i D1 0 29 = 0) _ _ rfl (fun _ => ?_) (fun h => absurd (by rw [f1_0]; decide) h)
      refine hr.1 2 True _ _ (108, [some (.ref 0), some (.int (nI j))], [.int (zg_i D1 0 29)], [], D1) rfl trivial ?_
      refine hr.2.1 _ (¬ zg_i D1 0 29 = 0) _ _ rfl (fun _ => ?_) (fun h => absurd (by rw [f1_0]; decide) h)
      refine hr.1 2 True _ _ (119, [some (.ref 0), some (.int (nI j))], [.int (zg_i D1 0 29)], [], D1) rfl trivial ?_
      refine hr.2.1 _ (zg_i D1 0 29 = 0) _ _ rfl (fun h => absurd h (by rw [f1_0]; decide)) (fun _ => ?_)
      refine hr.1 2 True _ _ (126, [some (.ref 0), some (.int (nI j))], [.int (zg_i D1 0 29)], [], D1) rfl trivial ?_
      exact hr.2.2.2 _ _ _ rfl trivial ⟨by rw [f1_0], ⟨_, rfl⟩⟩
    | succ k ih =>
      intro j E1 hj hps
      refine hr.1 2 True _ _ (5, [some (.ref 0), some (.int (nI j))], [.int 11, .int (nI j)], [], E1) rfl trivial ?_
      refine hr.2.1 _ (11 ≤ nI j) _ _ rfl (fun h => absurd h (by rw [show (11 : Int32) = nI 11 from rfl, nI_leI (by omega) (by omega)]; omega)) (fun _ => ?_)
      refine hr.1 7 True _ _ (2, [some (.ref 0), some (.int ((nI j) + 1))], [], [], zp_i E1 9 (zn (nI j)) 0) rfl ⟨trivial, (pk_in j 11 (by omega))⟩ ?_
      rw [nI_1]
      exact ih (j + 1) _ (by omega) (by rw [zg_pi, if_neg (by omega)]; exact hps)
  refine hr.1 2 True _ _ (2, [some (.ref 0), some (.int 0)], [], [], D) rfl trivial ?_
  exact loop 11 0 D (by omega) hps
