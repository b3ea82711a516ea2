/-! unpack() of a row that is cut at its very start; pack() of an empty row (what p1 asks) -/
set_option maxRecDepth 100000 in
set_option maxHeartbeats 4000000 in
theorem t_readStart0 {l : Launch} {E : zx_E} {d : Nat} {rf : List Nat} (D : zx_D) (hh6 : fv_chas 6 D = 0) : zx_MC l E 70 (d + 2) [.ref 9] (rf, D) (fun v S => v = none ∧ S = (rf, fs_chas 6 D)) := by
  refine zx_ofC (K := ck_Unp_readStart) rfl (by decide +kernel) rfl ok_Unp_readStart (Nat.le_of_ble_eq_true rfl) (fun Zp hr => ?_)
  show Zp (0, [some (.ref 9), none], [], rf, D)
  refine hr.1 4 True _ _ (8, [some (.ref 9), none], [.int 6, .ref 12], rf, D) rfl trivial ?_
  refine hr.2.2.1 _ _ _ _ _ (d + 1) rfl (by omega) (t_chas 6 D) (fun v S hq => ?_)
  obtain ⟨rfl, rfl⟩ := hq
  refine hr.2.1 _ (¬ fv_chas 6 D = 0) _ _ rfl (fun h => absurd h (fun q => q hh6)) (fun _ => ?_)
  exact hr.2.2.2 _ _ _ rfl trivial ⟨rfl, rfl⟩
set_option maxRecDepth 100000 in
set_option maxHeartbeats 4000000 in
theorem t_comesBlock0 {l : Launch} {E : zx_E} {d : Nat} {rf : List Nat} (D : zx_D) (hh1 : fv_chas 1 D = 0) : zx_MC l E 71 (d + 2) [.ref 9] (rf, D) (fun v S => v = some (.int 0) ∧ S = (rf, fs_chas 1 D)) := by
  refine zx_ofC (K := ck_Unp_comesBlock) rfl (by decide +kernel) rfl ok_Unp_comesBlock (Nat.le_of_ble_eq_true rfl) (fun Zp hr => ?_)
  show Zp (0, [some (.ref 9)], [], rf, D)
  refine hr.1 3 True _ _ (5, [some (.ref 9)], [.int 1, .ref 12], rf, D) rfl trivial ?_
  refine hr.2.2.1 _ _ _ _ _ (d + 1) rfl (by omega) (t_chas 1 D) (fun v S hq => ?_)
  obtain ⟨rfl, rfl⟩ := hq
  refine hr.2.1 _ (fv_chas 1 D = 0) _ _ rfl (fun _ => ?_) (fun h => absurd hh1 h)
  refine hr.1 1 True _ _ (34, [some (.ref 9)], [.int 0], rf, fs_chas 1 D) rfl trivial ?_
  exact hr.2.2.2 _ _ _ rfl (Or.inl rfl) ⟨rfl, rfl⟩
set_option maxRecDepth 100000 in
set_option maxHeartbeats 4000000 in
theorem t_readEnd0 {l : Launch} {E : zx_E} {d : Nat} {rf : List Nat} (D : zx_D) (hh12 : fv_chas 12 D = 0) : zx_MC l E 85 (d + 2) [.ref 9] (rf, D) (fun v S => v = none ∧ S = (rf, fs_chas 12 D)) := by
  refine zx_ofC (K := ck_Unp_readEnd) rfl (by decide +kernel) rfl ok_Unp_readEnd (Nat.le_of_ble_eq_true rfl) (fun Zp hr => ?_)
  show Zp (0, [some (.ref 9), none, none], [], rf, D)
  refine hr.1 3 True _ _ (6, [some (.ref 9), none, none], [.int 12, .ref 12], rf, D) rfl trivial ?_
  refine hr.2.2.1 _ _ _ _ _ (d + 1) rfl (by omega) (t_chas 12 D) (fun v S hq => ?_)
  obtain ⟨rfl, rfl⟩ := hq
  refine hr.2.1 _ (¬ fv_chas 12 D = 0) _ _ rfl (fun h => absurd h (fun q => q hh12)) (fun _ => ?_)
  exact hr.2.2.2 _ _ _ rfl trivial ⟨rfl, rfl⟩
set_option maxRecDepth 100000 in
set_option maxHeartbeats 4000000 in
theorem t_readIndex0 {l : Launch} {E : zx_E} {d : Nat} {rf : List Nat} (D : zx_D) (hs : fv_csound D = 0) : zx_MC l E 84 (d + 1) [.ref 9] (rf, D) (fun v S => v = none ∧ S = (rf, D)) := by
  refine zx_ofC (K := ck_Unp_readIndex) rfl (by decide +kernel) rfl ok_Unp_readIndex (Nat.le_of_ble_eq_true rfl) (fun Zp hr => ?_)
  show Zp (0, [some (.ref 9), none, none], [], rf, D)
  refine hr.1 2 True _ _ (4, [some (.ref 9), none, none], [.ref 12], rf, D) rfl trivial ?_
  refine hr.2.2.1 _ _ _ _ _ d rfl (by omega) (t_csound D) (fun v S hq => ?_)
  obtain ⟨rfl, rfl⟩ := hq
  refine hr.2.1 _ (¬ fv_csound D = 0) _ _ rfl (fun h => absurd h (fun q => q hs)) (fun _ => ?_)
  exact hr.2.2.2 _ _ _ rfl trivial ⟨rfl, rfl⟩
set_option maxRecDepth 100000 in
set_option maxHeartbeats 4000000 in
theorem t_unpack0 {l : Launch} {E : zx_E} {d : Nat} {cb sd ln pp : Nat} (D : zx_D) (hh6 : fv_chas 6 (fs_ubegin D) = 0) (hh1 : fv_chas 1 (fs_chas 6 (fs_ubegin D)) = 0) (hsI : fv_csound (fs_chas 1 (fs_chas 6 (fs_ubegin D))) = 0) (hh12 : fv_chas 12 (fs_chas 1 (fs_chas 6 (fs_ubegin D))) = 0) (hsE : fv_csound (fs_chas 12 (fs_chas 1 (fs_chas 6 (fs_ubegin D)))) = 0) : zx_MC l E 6 (d + 3) [.ref 0] ([cb, sd, ln, pp], D) (fun v S => v = some (.int (zg_i (fs_chas 12 (fs_chas 1 (fs_chas 6 (fs_ubegin D)))) 12 4)) ∧ S = ([4, sd, ln, pp], fs_chas 12 (fs_chas 1 (fs_chas 6 (fs_ubegin D))))) := by
  refine zx_ofC (K := ck_P_unpack) rfl (by decide +kernel) rfl ok_P_unpack (Nat.le_of_ble_eq_true rfl) (fun Zp hr => ?_)
  show Zp (0, [some (.ref 0), none], [], [cb, sd, ln, pp], D)
  refine hr.1 4 True _ _ (8, [some (.ref 0), none], [.ref 3, .ref 9], [cb, sd, ln, pp], D) rfl trivial ?_
  refine hr.2.2.1 _ _ _ _ _ (d + 2) rfl (by omega) (t_ubegin D) (fun v S hq => ?_)
  obtain ⟨rfl, rfl⟩ := hq
  refine hr.1 2 True _ _ (15, [some (.ref 0), none], [.ref 9], [4, sd, ln, pp], fs_ubegin D) rfl trivial ?_
  refine hr.2.2.1 _ _ _ _ _ (d + 2) rfl (by omega) (t_readStart0 (fs_ubegin D) hh6) (fun v S hq => ?_)
  obtain ⟨rfl, rfl⟩ := hq
  refine hr.1 4 True _ _ (24, [some (.ref 0), some (.int 0)], [.int 640, .int 0], [4, sd, ln, pp], fs_chas 6 (fs_ubegin D)) rfl trivial ?_
  refine hr.2.1 _ (640 ≤ (0 : Int32)) _ _ rfl (fun h => absurd h (by decide)) (fun _ => ?_)
  refine hr.1 2 True _ _ (31, [some (.ref 0), some (.int 0)], [.ref 9], [4, sd, ln, pp], fs_chas 6 (fs_ubegin D)) rfl trivial ?_
  refine hr.2.2.1 _ _ _ _ _ (d + 2) rfl (by omega) (t_comesBlock0 (fs_chas 6 (fs_ubegin D)) hh1) (fun v S hq => ?_)
  obtain ⟨rfl, rfl⟩ := hq
  refine hr.2.1 _ ((0 : Int32) = 0) _ _ rfl (fun _ => ?_) (fun h => absurd (by decide) h)
  refine hr.1 2 True _ _ (54, [some (.ref 0), some (.int 0)], [.ref 9], [4, sd, ln, pp], fs_chas 1 (fs_chas 6 (fs_ubegin D))) rfl trivial ?_
  refine hr.2.2.1 _ _ _ _ _ (d + 2) rfl (by omega) (t_readIndex0 (fs_chas 1 (fs_chas 6 (fs_ubegin D))) hsI) (fun v S hq => ?_)
  obtain ⟨rfl, rfl⟩ := hq
  refine hr.1 2 True _ _ (61, [some (.ref 0), some (.int 0)], [.ref 9], [4, sd, ln, pp], fs_chas 1 (fs_chas 6 (fs_ubegin D))) rfl trivial ?_
  refine hr.2.2.1 _ _ _ _ _ (d + 2) rfl (by omega) (t_readEnd0 (fs_chas 1 (fs_chas 6 (fs_ubegin D))) hh12) (fun v S hq => ?_)
  obtain ⟨rfl, rfl⟩ := hq
  refine hr.1 3 True _ _ (71, [some (.ref 0), some (.int 0)], [.ref 12], [4, sd, ln, pp], fs_chas 12 (fs_chas 1 (fs_chas 6 (fs_ubegin D)))) rfl trivial ?_
  refine hr.2.2.1 _ _ _ _ _ (d + 2) rfl (by omega) (t_csound (fs_chas 12 (fs_chas 1 (fs_chas 6 (fs_ubegin D))))) (fun v S hq => ?_)
  obtain ⟨rfl, rfl⟩ := hq
  refine hr.2.1 _ (¬ fv_csound (fs_chas 12 (fs_chas 1 (fs_chas 6 (fs_ubegin D)))) = 0) _ _ rfl (fun h => absurd h (fun q => q hsE)) (fun _ => ?_)
  refine hr.1 4 True _ _ (87, [some (.ref 0), some (.int 0)], [.int (zg_i (fs_chas 12 (fs_chas 1 (fs_chas 6 (fs_ubegin D)))) 12 4)], [4, sd, ln, pp], fs_chas 12 (fs_chas 1 (fs_chas 6 (fs_ubegin D)))) rfl trivial ?_
  exact hr.2.2.2 _ _ _ rfl trivial ⟨rfl, rfl⟩
