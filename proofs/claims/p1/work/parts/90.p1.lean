theorem whole_start {p : Program} {e : Env} {s : State} {m : MethodId} {below : List Frame} {meth : Method} {c : Code} (l : Launch) {b L : Nat} {xs : Nat → Int32} (hL : L ≤ 5) (hF : lw_At p s m meth c b L xs) : W p l e room_1 s m #[Value.ref b] below meth c s.heap [] 0 0 (lw_Z below #[Value.ref b] s) (entryFrame m ([Value.ref b] : List Value).toArray 4) := by
  refine zl_start l (by omega) hF (fun E1 E2 => ⟨fun j S1 S2 => j = 0 → S1 = (zd_rC, zd_C) ∧ S2 = ([], zd_R), fun _ => ⟨rfl, rfl⟩, fun j S1 S2 hj hI => ?_⟩)
  have hj0 : j = 0 := by omega
  subst hj0
  obtain ⟨rfl, rfl⟩ := hI rfl
  have hK : ∀ (T1 T2 : zx_S), (fun S1 S2 : zx_S => 0 + 1 = 0 → S1 = (zd_rC, zd_C) ∧ S2 = (([], zd_R) : zx_S)) T1 T2 := fun T1 T2 q => absurd q (by decide)
  obtain ⟨q1, q2, a1, a2, a3⟩ := s_pack0 zI_start 5 18 (xs (5 * 0 + 1)) (xs (5 * 0 + 2)) (xs (5 * 0 + 3))
  obtain ⟨q3, q4, b1, b2, b3⟩ := s_unpack0 zI_start (by omega) 6 5
  exact zi_all (cb := 13) (sd := 6) (ln := 5) (pp := 18) (fun _ _ _ _ _ _ _ _ _ => hK _ _) zI_start (zi_packof (n := 0) (m := 0) a1 a2 a3 (hK _ _)) (zi_unpackof (n := 0) (m := 0) b1 b2 b3 (hK _ _))
