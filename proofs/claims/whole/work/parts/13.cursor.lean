/-! The cursor -/
def fs_cfail (what at_ : Int32) (D : zx_D) : zx_D := if ¬ zg_i D 12 4 = 0 then D else zp_i (zp_i D 12 4 what) 12 5 at_
set_option maxRecDepth 100000 in
set_option maxHeartbeats 4000000 in
theorem t_cfail {l : Launch} {E : zx_E} {d : Nat} {rf : List Nat} (what at_ : Int32) (D : zx_D)  : zx_MC l E 31 d [.ref 12, .int what, .int at_] (rf, D) (fun v S => v = none ∧ S = (rf, fs_cfail what at_ D)) := by
  refine zx_ofC (K := ck_Cur_fail) rfl (by decide +kernel) rfl ok_Cur_fail (Nat.le_of_ble_eq_true rfl) (fun Zp hr => ?_)
  show Zp (0, [some (.ref 12), some (.int what), some (.int at_)], [], rf, D)
  refine hr.1 2 True _ _ (4, [some (.ref 12), some (.int what), some (.int at_)], [.int (zg_i D 12 4)], rf, D) rfl trivial ?_
  refine hr.2.1 _ (¬ zg_i D 12 4 = 0) _ _ rfl (fun h4 => ?_) (fun h4 => ?_)
  · skip
    exact hr.2.2.2 _ _ _ rfl trivial ⟨rfl, (by rw [fs_cfail, if_pos h4])⟩
  · skip
    refine hr.1 6 True _ _ (17, [some (.ref 12), some (.int what), some (.int at_)], [], rf, zp_i (zp_i D 12 4 what) 12 5 at_) rfl trivial ?_
    exact hr.2.2.2 _ _ _ rfl trivial ⟨rfl, (by rw [fs_cfail, if_neg h4])⟩
def fv_csound  (D : zx_D) : Int32 := if ¬ zg_i D 12 4 = 0 then 0 else 1
set_option maxRecDepth 100000 in
set_option maxHeartbeats 4000000 in
theorem t_csound {l : Launch} {E : zx_E} {d : Nat} {rf : List Nat}  (D : zx_D)  : zx_MC l E 30 d [.ref 12] (rf, D) (fun v S => v = some (.int (fv_csound D)) ∧ S = (rf, D)) := by
  refine zx_ofC (K := ck_Cur_isSound) rfl (by decide +kernel) rfl ok_Cur_isSound (Nat.le_of_ble_eq_true rfl) (fun Zp hr => ?_)
  show Zp (0, [some (.ref 12)], [], rf, D)
  refine hr.1 2 True _ _ (4, [some (.ref 12)], [.int (zg_i D 12 4)], rf, D) rfl trivial ?_
  refine hr.2.1 _ (¬ zg_i D 12 4 = 0) _ _ rfl (fun h4 => ?_) (fun h4 => ?_)
  · skip
    refine hr.1 1 True _ _ (12, [some (.ref 12)], [.int 0], rf, D) rfl trivial ?_
    exact hr.2.2.2 _ _ _ rfl (Or.inl rfl) ⟨(by rw [fv_csound, if_pos h4]), rfl⟩
  · skip
    refine hr.1 2 True _ _ (12, [some (.ref 12)], [.int 1], rf, D) rfl trivial ?_
    exact hr.2.2.2 _ _ _ rfl (Or.inr rfl) ⟨(by rw [fv_csound, if_neg h4]), rfl⟩
def fs_cnarrow (limit : Int32) (D : zx_D) : zx_D := zp_i D 12 2 (if zg_i D 12 1 < limit then zg_i D 12 1 else limit)
set_option maxRecDepth 100000 in
set_option maxHeartbeats 4000000 in
theorem t_cnarrow {l : Launch} {E : zx_E} {d : Nat} {rf : List Nat} (limit : Int32) (D : zx_D)  : zx_MC l E 32 d [.ref 12, .int limit] (rf, D) (fun v S => v = none ∧ S = (rf, fs_cnarrow limit D)) := by
  refine zx_ofC (K := ck_Cur_narrow) rfl (by decide +kernel) rfl ok_Cur_narrow (Nat.le_of_ble_eq_true rfl) (fun Zp hr => ?_)
  show Zp (0, [some (.ref 12), some (.int limit)], [], rf, D)
  refine hr.1 6 True _ _ (12, [some (.ref 12), some (.int limit)], [], rf, zp_i D 12 2 (if zg_i D 12 1 < limit then zg_i D 12 1 else limit)) rfl trivial ?_
  exact hr.2.2.2 _ _ _ rfl trivial ⟨rfl, (by rw [fs_cnarrow])⟩
def fs_cwiden  (D : zx_D) : zx_D := zp_i D 12 2 (zg_i D 12 1)
set_option maxRecDepth 100000 in
set_option maxHeartbeats 4000000 in
theorem t_cwiden {l : Launch} {E : zx_E} {d : Nat} {rf : List Nat}  (D : zx_D)  : zx_MC l E 33 d [.ref 12] (rf, D) (fun v S => v = none ∧ S = (rf, fs_cwiden D)) := by
  refine zx_ofC (K := ck_Cur_widen) rfl (by decide +kernel) rfl ok_Cur_widen (Nat.le_of_ble_eq_true rfl) (fun Zp hr => ?_)
  show Zp (0, [some (.ref 12)], [], rf, D)
  refine hr.1 4 True _ _ (8, [some (.ref 12)], [], rf, zp_i D 12 2 (zg_i D 12 1)) rfl trivial ?_
  exact hr.2.2.2 _ _ _ rfl trivial ⟨rfl, (by rw [fs_cwiden])⟩
def fs_cbegin  (D : zx_D) : zx_D := zp_i (zp_i (zp_i (zp_i (zp_i D 12 1 (zg_i D 3 1)) 12 2 (zg_i D 3 1)) 12 3 0) 12 4 0) 12 5 (-1)
set_option maxRecDepth 100000 in
set_option maxHeartbeats 4000000 in
theorem t_cbegin {l : Launch} {E : zx_E} {d : Nat} {cb sd ln pp : Nat}  (D : zx_D)  : zx_MC l E 29 d [.ref 12, .ref 3] ([cb, sd, ln, pp], D) (fun v S => v = none ∧ S = ([4, sd, ln, pp], fs_cbegin D)) := by
  refine zx_ofC (K := ck_Cur_begin) rfl (by decide +kernel) rfl ok_Cur_begin (Nat.le_of_ble_eq_true rfl) (fun Zp hr => ?_)
  show Zp (0, [some (.ref 12), some (.ref 3)], [], [cb, sd, ln, pp], D)
  refine hr.1 21 True _ _ (39, [some (.ref 12), some (.ref 3)], [], [4, sd, ln, pp], zp_i (zp_i (zp_i (zp_i (zp_i D 12 1 (zg_i D 3 1)) 12 2 (zg_i D 3 1)) 12 3 0) 12 4 0) 12 5 (-1)) rfl trivial ?_
  exact hr.2.2.2 _ _ _ rfl trivial ⟨rfl, (by rw [fs_cbegin])⟩
def fv_chas (n : Int32) (D : zx_D) : Int32 := if ¬ zg_i D 12 4 = 0 then 0 else if n ≤ (zg_i D 12 2) - (zg_i D 12 3) then 1 else if ¬ zg_i D 12 2 = zg_i D 12 1 then if ¬ zg_i (fs_cfail (-3) (zg_i D 12 3) D) 12 4 = 0 then 0 else 1 else if ¬ zg_i (fs_cfail (-2) (zg_i D 12 3) D) 12 4 = 0 then 0 else 1
def fs_chas (n : Int32) (D : zx_D) : zx_D := if ¬ zg_i D 12 4 = 0 then D else if n ≤ (zg_i D 12 2) - (zg_i D 12 3) then D else if ¬ zg_i D 12 2 = zg_i D 12 1 then if ¬ zg_i (fs_cfail (-3) (zg_i D 12 3) D) 12 4 = 0 then fs_cfail (-3) (zg_i D 12 3) D else fs_cfail (-3) (zg_i D 12 3) D else if ¬ zg_i (fs_cfail (-2) (zg_i D 12 3) D) 12 4 = 0 then fs_cfail (-2) (zg_i D 12 3) D else fs_cfail (-2) (zg_i D 12 3) D
set_option maxRecDepth 100000 in
set_option maxHeartbeats 4000000 in
theorem t_chas {l : Launch} {E : zx_E} {d : Nat} {rf : List Nat} (n : Int32) (D : zx_D)  : zx_MC l E 34 (d + 1) [.ref 12, .int n] (rf, D) (fun v S => v = some (.int (fv_chas n D)) ∧ S = (rf, fs_chas n D)) := by
  refine zx_ofC (K := ck_Cur_has) rfl (by decide +kernel) rfl ok_Cur_has (Nat.le_of_ble_eq_true rfl) (fun Zp hr => ?_)
  show Zp (0, [some (.ref 12), some (.int n)], [], rf, D)
  refine hr.1 2 True _ _ (4, [some (.ref 12), some (.int n)], [.int (zg_i D 12 4)], rf, D) rfl trivial ?_
  refine hr.2.1 _ (¬ zg_i D 12 4 = 0) _ _ rfl (fun h4 => ?_) (fun h4 => ?_)
  · skip
    refine hr.1 2 True _ _ (50, [some (.ref 12), some (.int n)], [.int (zg_i D 12 4)], rf, D) rfl trivial ?_
    refine hr.2.1 _ (¬ zg_i D 12 4 = 0) _ _ rfl (fun _ => ?_) (fun h => absurd h4 h)
    refine hr.1 1 True _ _ (58, [some (.ref 12), some (.int n)], [.int 0], rf, D) rfl trivial ?_
    exact hr.2.2.2 _ _ _ rfl (Or.inl rfl) ⟨(by rw [fv_chas, if_pos h4]), (by rw [fs_chas, if_pos h4])⟩
  · skip
    refine hr.1 6 True _ _ (17, [some (.ref 12), some (.int n)], [.int n, .int ((zg_i D 12 2) - (zg_i D 12 3))], rf, D) rfl trivial ?_
    refine hr.2.1 _ (n ≤ (zg_i D 12 2) - (zg_i D 12 3)) _ _ rfl (fun h17 => ?_) (fun h17 => ?_)
    · skip
      refine hr.1 2 True _ _ (50, [some (.ref 12), some (.int n)], [.int (zg_i D 12 4)], rf, D) rfl trivial ?_
      refine hr.2.1 _ (¬ zg_i D 12 4 = 0) _ _ rfl (fun h => absurd h h4) (fun _ => ?_)
      refine hr.1 2 True _ _ (58, [some (.ref 12), some (.int n)], [.int 1], rf, D) rfl trivial ?_
      exact hr.2.2.2 _ _ _ rfl (Or.inr rfl) ⟨(by rw [fv_chas, if_neg h4, if_pos h17]), (by rw [fs_chas, if_neg h4, if_pos h17])⟩
    · skip
      refine hr.1 5 True _ _ (29, [some (.ref 12), some (.int n)], [.int (zg_i D 12 1), .int (zg_i D 12 2), .ref 12], rf, D) rfl trivial ?_
      refine hr.2.1 _ (¬ zg_i D 12 2 = zg_i D 12 1) _ _ rfl (fun h29 => ?_) (fun h29 => ?_)
      · skip
        refine hr.1 3 True _ _ (43, [some (.ref 12), some (.int n)], [.int (zg_i D 12 3), .int (-3), .ref 12], rf, D) rfl trivial ?_
        refine hr.2.2.1 _ _ _ _ _ d rfl (by omega) (t_cfail (-3) (zg_i D 12 3) D) (fun v S hq => ?_)
        obtain ⟨rfl, rfl⟩ := hq
        refine hr.1 2 True _ _ (50, [some (.ref 12), some (.int n)], [.int (zg_i (fs_cfail (-3) (zg_i D 12 3) D) 12 4)], rf, fs_cfail (-3) (zg_i D 12 3) D) rfl trivial ?_
        refine hr.2.1 _ (¬ zg_i (fs_cfail (-3) (zg_i D 12 3) D) 12 4 = 0) _ _ rfl (fun h50 => ?_) (fun h50 => ?_)
        · skip
          refine hr.1 1 True _ _ (58, [some (.ref 12), some (.int n)], [.int 0], rf, fs_cfail (-3) (zg_i D 12 3) D) rfl trivial ?_
          exact hr.2.2.2 _ _ _ rfl (Or.inl rfl) ⟨(by rw [fv_chas, if_neg h4, if_neg h17, if_pos h29, if_pos h50]), (by rw [fs_chas, if_neg h4, if_neg h17, if_pos h29, if_pos h50])⟩
        · skip
          refine hr.1 2 True _ _ (58, [some (.ref 12), some (.int n)], [.int 1], rf, fs_cfail (-3) (zg_i D 12 3) D) rfl trivial ?_
          exact hr.2.2.2 _ _ _ rfl (Or.inr rfl) ⟨(by rw [fv_chas, if_neg h4, if_neg h17, if_pos h29, if_neg h50]), (by rw [fs_chas, if_neg h4, if_neg h17, if_pos h29, if_neg h50])⟩
      · skip
        refine hr.1 4 True _ _ (43, [some (.ref 12), some (.int n)], [.int (zg_i D 12 3), .int (-2), .ref 12], rf, D) rfl trivial ?_
        refine hr.2.2.1 _ _ _ _ _ d rfl (by omega) (t_cfail (-2) (zg_i D 12 3) D) (fun v S hq => ?_)
        obtain ⟨rfl, rfl⟩ := hq
        refine hr.1 2 True _ _ (50, [some (.ref 12), some (.int n)], [.int (zg_i (fs_cfail (-2) (zg_i D 12 3) D) 12 4)], rf, fs_cfail (-2) (zg_i D 12 3) D) rfl trivial ?_
        refine hr.2.1 _ (¬ zg_i (fs_cfail (-2) (zg_i D 12 3) D) 12 4 = 0) _ _ rfl (fun h50 => ?_) (fun h50 => ?_)
        · skip
          refine hr.1 1 True _ _ (58, [some (.ref 12), some (.int n)], [.int 0], rf, fs_cfail (-2) (zg_i D 12 3) D) rfl trivial ?_
          exact hr.2.2.2 _ _ _ rfl (Or.inl rfl) ⟨(by rw [fv_chas, if_neg h4, if_neg h17, if_neg h29, if_pos h50]), (by rw [fs_chas, if_neg h4, if_neg h17, if_neg h29, if_pos h50])⟩
        · skip
          refine hr.1 2 True _ _ (58, [some (.ref 12), some (.int n)], [.int 1], rf, fs_cfail (-2) (zg_i D 12 3) D) rfl trivial ?_
          exact hr.2.2.2 _ _ _ rfl (Or.inr rfl) ⟨(by rw [fv_chas, if_neg h4, if_neg h17, if_neg h29, if_neg h50]), (by rw [fs_chas, if_neg h4, if_neg h17, if_neg h29, if_neg h50])⟩
