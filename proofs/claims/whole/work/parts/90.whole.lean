theorem whole_start {p : Program} {e : Env} {s : State} {m : MethodId} {below : List Frame} {meth : Method} {c : Code} (l : Launch) {b L : Nat} {xs : Nat → Int32} (hL : L ≤ 2560) (hF : lw_At p s m meth c b L xs) : W p l e room_1 s m #[Value.ref b] below meth c s.heap [] 0 0 (lw_Z below #[Value.ref b] s) (entryFrame m ([Value.ref b] : List Value).toArray 4) := by
  refine zl_start l hL hF (fun E1 E2 => ⟨fun _ S1 S2 => ∃ (n m : Nat) (D R : zx_D) (cb sd ln pp : Nat), S1 = ([cb, sd, ln, pp], D) ∧ S2 = ([], R) ∧ zI n m D R, ⟨0, 0, zd_C, zd_R, 13, 6, 5, 18, rfl, rfl, zI_start⟩, fun j S1 S2 hj hI => ?_⟩)
  obtain ⟨n, m, D, R, cb, sd, ln, pp, rfl, rfl, h⟩ := hI
  obtain ⟨q1, q2, m', a1, a2, a3, a4⟩ := s_pack h ln pp (xs (5 * j + 1)) (xs (5 * j + 2)) (xs (5 * j + 3))
  obtain ⟨q3, q4, n', b1, b2, b3, b4⟩ := s_unpack h sd ln
  exact zi_all (n := n) (m := m) (cb := cb) (sd := sd) (ln := ln) (pp := pp) (fun n m D R cb sd ln pp h => ⟨n, m, D, R, cb, sd, ln, pp, rfl, rfl, h⟩) h (zi_packof (n := n) (m := m) a1 a2 a3 ⟨n, m', q1.2.2.2, q2.2, cb, sd, q1.2.1, q1.2.2.1, rfl, rfl, a4⟩) (zi_unpackof (n := n) (m := m) b1 b2 b3 ⟨n', m, q3.2.2.2, q4.2, 4, q3.2.1, q3.2.2.1, pp, rfl, rfl, b4⟩)
