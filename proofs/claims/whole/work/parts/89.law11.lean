/-! THE LAW: it holds -/
set_option maxRecDepth 16384 in
theorem hz_rv {st : List Value} {K : List Value → Prop} (g : K st) : hk_rv none st K := g
set_option maxRecDepth 16384 in
theorem lw_7a {Q : hk_Q} {h : hk_Hp} {k n : Nat} (W0 : hk_X) (g : W0 10 [(3, .int (nI 0)), (2, .ref 98), (1, .ref 38), (0, .ref 0)] [] h k n) : hk_step (some .boolean) 217 4215 hk_dft hcdLAW (hk_call 60) Q (hk_step (some .boolean) 217 4215 hk_dft hcdLAW (hk_call 60) Q (hk_step (some .boolean) 217 4215 hk_dft hcdLAW (hk_call 60) Q W0)) 7 [(1, .ref 38), (0, .ref 0)] [.ref 98] h k n := g
set_option maxRecDepth 16384 in
theorem lw_7 {Q : hk_Q} {h : hk_Hp} {k n : Nat} (K : hk_wp (some .boolean) 217 4215 hk_dft hcdLAW (hk_call 60) Q 10 [(3, .int (nI 0)), (2, .ref 98), (1, .ref 38), (0, .ref 0)] [] h k n) : hk_wp (some .boolean) 217 4215 hk_dft hcdLAW (hk_call 60) Q 7 [(1, .ref 38), (0, .ref 0)] [.ref 98] h k n := hk_run2 (hk_call_m 60) 3 (lw_7a _ K)
set_option maxRecDepth 16384 in
theorem hz_e {X : hk_D} : hk_ev (127, hz_f X.2.2.2.2.2.2 98 126 (hz_n 98 (98, hz_f X.2.2.2.2.2.2 38 97 (hz_n 38 (hk_h0 X) (7, 12, hk_dft 7)).2) (8, 51, hk_dft 8)).2) (hw hz_R (hz_X X.2.2.2.2.2.2)) := by
  refine ⟨rfl, fun b => ?_⟩
  refine hk_ev_c ?_
  by_cases q : 98 ≤ b ∧ b ≤ 126
  · show (bif Nat.ble 98 b && Nat.ble b 126 then hk_fix hz_R (hz_X X.2.2.2.2.2.2) b else _) = (bif Nat.ble b 37 then _ else bif Nat.ble b 126 then hk_fix hz_R (hz_X X.2.2.2.2.2.2) b else _)
    rw [Nat.ble_eq_true_of_le q.1, Nat.ble_eq_true_of_le q.2, nb_f (show 37 < b by omega)]; rfl
  · refine (hz_f_n q).trans ?_
    refine Eq.trans (hz_nn (show b ≠ 98 by omega)) ?_
    by_cases q2 : 38 ≤ b ∧ b ≤ 97
    · show (bif Nat.ble 38 b && Nat.ble b 97 then hk_fix hz_R (hz_X X.2.2.2.2.2.2) b else _) = (bif Nat.ble b 37 then _ else bif Nat.ble b 126 then hk_fix hz_R (hz_X X.2.2.2.2.2.2) b else _)
      rw [Nat.ble_eq_true_of_le q2.1, Nat.ble_eq_true_of_le q2.2, nb_f (show 37 < b by omega), Nat.ble_eq_true_of_le (show b ≤ 126 by omega)]; rfl
    · refine Eq.trans (hz_f_n q2) ?_
      refine Eq.trans (hz_nn (show b ≠ 38 by omega)) ?_
      show (bif Nat.ble b 37 then hk_ext X b else (99, 0, fun _ => .null)) = (bif Nat.ble b 37 then hk_ext (hz_X X.2.2.2.2.2.2) b else bif Nat.ble b 126 then _ else hk_row hz_R (hz_X X.2.2.2.2.2.2) b)
      by_cases q3 : b ≤ 37
      · rw [Nat.ble_eq_true_of_le q3]; rfl
      · rw [nb_f (show 37 < b by omega), nb_f (show 126 < b by omega)]
        show _ = hk_row hz_R (hz_X X.2.2.2.2.2.2) b
        unfold hk_row
        rw [show Nat.ble (127 + 2 * (hz_X X.2.2.2.2.2.2).2.2.1) b = true from Nat.ble_eq_true_of_le (by show 127 + 2 * 0 ≤ b; omega)]; rfl
set_option maxHeartbeats 4000000 in
set_option maxRecDepth 16384 in
theorem law_ok : hk_Law := by
  intro X hX
  refine hk_run2 (hk_call_m 60) 60 ?_
  refine w_nwb 38 rfl (by omega) (by omega) ?_
  refine And.intro ⟨by omega, by omega⟩ ?_
  refine sp_cinit (S := X.2.2.2.2.2.2) (by omega) rfl ?_
  refine w_nwb 98 rfl (by omega) (by omega) ?_
  refine And.intro ⟨by omega, by omega⟩ ?_
  refine sp_minit (S := X.2.2.2.2.2.2) (h' := hw hz_R (hz_X X.2.2.2.2.2.2)) (by omega) rfl ?_ ?_
  · exact hz_e
  · refine hz_rv ?_
    exact hk_stop2 (hk_call_m 60) (lw_7 (lw_loop (S := X.2.2.2.2.2.2) hX 64 (p := 0) (INV_0 _) rfl (by omega) (by omega) (by omega) (by omega)))
set_option maxRecDepth 16384 in
theorem whole_start {p : Program} {e : Env} {s : State} {m : MethodId} {below : List Frame} {meth : Method} {c : Code} (l : Launch) (hflags : l.flags = flags0) {b L : Nat} {xs : Nat → Int32} (hL : L ≤ 320) (C0 : lw_At p s m meth c b L xs) : W p l e room_1 s m #[Value.ref b] below meth c s.heap [] 0 0 (lw_Z below #[Value.ref b] s) (entryFrame m ([Value.ref b] : List Value).toArray 4) := whole_start_of law_ok l hflags hL C0
