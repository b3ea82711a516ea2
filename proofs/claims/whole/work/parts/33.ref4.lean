/-! The reference: writeVli; pack of an empty row (what p1 asks) -/
def fw_vli : Nat → Nat → zx_D → zx_D
  | 0, y, D => fs_rwrite (nI y) D
  | f + 1, y, D => if 127 < y then fw_vli f (y / 128) (fs_rwrite ((nI y &&& 127) ||| 128) D) else fs_rwrite (nI y) D
theorem zr_127 {y : Nat} (h : y < 2 ^ 31) : nI y ≤ 127 ↔ y ≤ 127 := by
  rw [show (127 : Int32) = nI 127 from rfl, nI_leI h (by decide)]
theorem zr_sh7 {y : Nat} (h : y < 2 ^ 31) : zo_shr (nI y) 7 = nI (y / 128) := by
  unfold zo_shr
  exact pk_shrN h _ 7 (by decide)
set_option maxRecDepth 100000 in
set_option maxHeartbeats 4000000 in
theorem t_rwvli {l : Launch} {E : zx_E} {d : Nat} (y0 : Nat) (D : zx_D) {m : Nat} (hm : zg_i D 0 7 = nI m) (hb : m < 2 ^ 19) (hy : y0 < 2 ^ 20) : zx_MR l E 174 (d + 1) [.ref 0, .int (nI y0)] ([], D) (fun v S => v = none ∧ S = ([], fw_vli 2 y0 D)) := by
  refine zx_ofR (K := ck_R_writeVli) rfl (by decide +kernel) rfl ok_R_writeVli (Nat.le_of_ble_eq_true rfl) (fun Zp hr => ?_)
  show Zp (0, [some (.ref 0), some (.int (nI y0)), none], [], [], D)
  have loop : ∀ (k : Nat) (y m : Nat) (D1 : zx_D), zg_i D1 0 7 = nI m → m + k < 2 ^ 20 → y < 128 ^ (k + 1) → y < 2 ^ 20 → fw_vli k y D1 = fw_vli 2 y0 D → Zp (2, [some (.ref 0), some (.int (nI y0)), some (.int (nI y))], [], [], D1) := by
    intro k
    induction k with
    | zero =>
      intro y m D1 hm hb hy hy2 hf
      have hf : fs_rwrite (nI y) D1 = fw_vli 2 y0 D := hf
      have hy : y < 128 := hy
      refine hr.1 2 True _ _ (5, [some (.ref 0), some (.int (nI y0)), some (.int (nI y))], [.int 127, .int (nI y)], [], D1) rfl trivial ?_
      refine hr.2.1 _ (nI y ≤ 127) _ _ rfl (fun _ => ?_) (fun h => absurd ((zr_127 (by omega)).mpr (by omega)) h)
      refine hr.1 2 True _ _ (30, [some (.ref 0), some (.int (nI y0)), some (.int (nI y))], [.int (nI y), .ref 0], [], D1) rfl trivial ?_
      refine hr.2.2.1 _ _ _ _ _ d rfl (by omega) (t_rwrite (nI y) D1 (nI_ge0 hm (by omega))) (fun v S hq => ?_)
      obtain ⟨rfl, rfl⟩ := hq
      exact hr.2.2.2 _ _ _ rfl trivial ⟨rfl, by rw [← hf]⟩
    | succ k ih =>
      intro y m D1 hm hb hy hy2 hf
      refine hr.1 2 True _ _ (5, [some (.ref 0), some (.int (nI y0)), some (.int (nI y))], [.int 127, .int (nI y)], [], D1) rfl trivial ?_
      refine hr.2.1 _ (nI y ≤ 127) _ _ rfl (fun h5 => ?_) (fun h5 => ?_)
      · skip
        refine hr.1 2 True _ _ (30, [some (.ref 0), some (.int (nI y0)), some (.int (nI y))], [.int (nI y), .ref 0], [], D1) rfl trivial ?_
        refine hr.2.2.1 _ _ _ _ _ d rfl (by omega) (t_rwrite (nI y) D1 (nI_ge0 hm (by omega))) (fun v S hq => ?_)
        obtain ⟨rfl, rfl⟩ := hq
        exact hr.2.2.2 _ _ _ rfl trivial ⟨rfl, by rw [← hf, fw_vli, if_neg (by have := (zr_127 (by omega)).mp h5; omega)]⟩
      · skip
        refine hr.1 6 True _ _ (17, [some (.ref 0), some (.int (nI y0)), some (.int (nI y))], [.int (((nI y) &&& 127) ||| 128), .ref 0], [], D1) rfl trivial ?_
        refine hr.2.2.1 _ _ _ _ _ d rfl (by omega) (t_rwrite (((nI y) &&& 127) ||| 128) D1 (nI_ge0 hm (by omega))) (fun v S hq => ?_)
        obtain ⟨rfl, rfl⟩ := hq
        refine hr.1 5 True _ _ (2, [some (.ref 0), some (.int (nI y0)), some (.int (zo_shr (nI y) 7))], [], [], fs_rwrite (((nI y) &&& 127) ||| 128) D1) rfl trivial ?_
        have h5 : 127 < y := by rw [zr_127 (by omega)] at h5; omega
        rw [zr_sh7 (by omega)]
        exact ih (y / 128) (m + 1) _ (fw_n hm) (by omega) (by rw [Nat.pow_succ] at hy; exact Nat.div_lt_of_lt_mul (by rw [Nat.mul_comm]; exact hy)) (by omega) (by rw [fw_vli, if_pos h5] at hf; exact hf)
  refine hr.1 2 True _ _ (2, [some (.ref 0), some (.int (nI y0)), some (.int (nI y0))], [], [], D) rfl trivial ?_
  exact loop 2 y0 m D hm (by omega) (by omega) (by omega) rfl
