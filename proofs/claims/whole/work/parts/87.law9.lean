/-! THE LAW: the class is made -/
set_option maxHeartbeats 4000000 in
set_option maxRecDepth 16384 in
theorem sp_cinit {d : Nat} (hd : 2 < d) {f : Nat → hk_Ce} {S : Nat × (Nat → Int32)} {Q : hk_Q} (hf : f 38 = (7, 12, hk_dft 7)) (hQ : Q none (98, hz_f S 38 97 f)) : hk_call d mC_init [.ref 38] (39, f) Q := by
  obtain ⟨d, rfl⟩ : ∃ e, d = e + 1 := ⟨d - 1, by omega⟩
  refine hk_run2 (hk_call_m d) 60 ?_
  refine w_nwb 39 rfl (by omega) (by omega) ?_
  refine And.intro ⟨by omega, by omega⟩ ?_
  refine sp_pinit_0 (S := S) (by omega) rfl ?_
  refine w_pfa (v := .ref 39) hf (by omega) trivial ?_
  refine w_nwb 55 rfl (by omega) (by omega) ?_
  refine And.intro ⟨by omega, by omega⟩ ?_
  refine sp_pinit_1 (S := S) (by omega) rfl ?_
  refine w_pfb rfl ?_
  refine w_nwb 71 rfl (by omega) (by omega) ?_
  refine And.intro ⟨by omega, by omega⟩ ?_
  refine sp_pinit_2 (S := S) (by omega) rfl ?_
  refine w_pfb rfl ?_
  refine w_pfb rfl ?_
  refine hk_stop2 (hk_call_m d) (hk_run2 (hk_call_m d) 60 ?_)
  refine w_nwb 87 rfl (by omega) (by omega) ?_
  refine And.intro ⟨by omega, by omega⟩ ?_
  refine sp_tinit (b := 88) (by omega) (by omega) rfl (by omega) rfl ?_
  refine w_pfb rfl ?_
  refine w_nab 89 60 rfl rfl (by omega) (by omega) (by omega) ?_
  refine w_pfb rfl ?_
  refine w_nab 90 4 rfl rfl (by omega) (by omega) (by omega) ?_
  refine w_pfb rfl ?_
  refine w_nab 91 4 rfl rfl (by omega) (by omega) (by omega) ?_
  refine w_pfb rfl ?_
  refine w_nwb 92 rfl (by omega) (by omega) ?_
  refine And.intro ⟨by omega, by omega⟩ ?_
  refine sp_ainit (b := 93) (by omega) (by omega) rfl (by omega) rfl ?_
  refine w_pfb rfl ?_
  refine hk_stop2 (hk_call_m d) (hk_run2 (hk_call_m d) 60 ?_)
  refine And.intro (fun c => absurd c (by decide)) (fun _ => ?_)
  refine w_nwb 94 rfl (by omega) (by omega) ?_
  refine sp_sinit (by omega) (by omega) rfl ?_
  refine w_asb (j := 0) rfl rfl (by omega) (by omega) ?_
  refine Exists.intro [0, 1] ?_
  refine hk_stop2 (hk_call_m d) (hk_run2 (hk_call_m d) 60 ?_)
  refine And.intro (fun c => absurd c (by decide)) (fun _ => ?_)
  refine w_nwb 95 rfl (by omega) (by omega) ?_
  refine sp_sinit (by omega) (by omega) rfl ?_
  refine w_asb (j := 1) rfl rfl (by omega) (by omega) ?_
  refine Exists.intro [0, 1] ?_
  refine hk_stop2 (hk_call_m d) (hk_run2 (hk_call_m d) 60 ?_)
  refine And.intro (fun c => absurd c (by decide)) (fun _ => ?_)
  refine w_nwb 96 rfl (by omega) (by omega) ?_
  refine sp_sinit (by omega) (by omega) rfl ?_
  refine w_asb (j := 2) rfl rfl (by omega) (by omega) ?_
  refine Exists.intro [0, 1] ?_
  refine hk_stop2 (hk_call_m d) (hk_run2 (hk_call_m d) 60 ?_)
  refine And.intro (fun c => absurd c (by decide)) (fun _ => ?_)
  refine w_nwb 97 rfl (by omega) (by omega) ?_
  refine sp_sinit (by omega) (by omega) rfl ?_
  refine w_asb (j := 3) rfl rfl (by omega) (by omega) ?_
  refine Exists.intro [0, 1] ?_
  refine hk_stop2 (hk_call_m d) (hk_run2 (hk_call_m d) 60 ?_)
  refine And.intro (fun _ => ?_) (fun c => absurd (by decide) c)
  refine ⟨_, ?_, hQ⟩
  refine ⟨rfl, fun b => ?_⟩
  by_cases q : 38 ≤ b ∧ b ≤ 97
  · have : b = 38 ∨ b = 39 ∨ b = 40 ∨ b = 41 ∨ b = 42 ∨ b = 43 ∨ b = 44 ∨ b = 45 ∨ b = 46 ∨ b = 47 ∨ b = 48 ∨ b = 49 ∨ b = 50 ∨ b = 51 ∨ b = 52 ∨ b = 53 ∨ b = 54 ∨ b = 55 ∨ b = 56 ∨ b = 57 ∨ b = 58 ∨ b = 59 ∨ b = 60 ∨ b = 61 ∨ b = 62 ∨ b = 63 ∨ b = 64 ∨ b = 65 ∨ b = 66 ∨ b = 67 ∨ b = 68 ∨ b = 69 ∨ b = 70 ∨ b = 71 ∨ b = 72 ∨ b = 73 ∨ b = 74 ∨ b = 75 ∨ b = 76 ∨ b = 77 ∨ b = 78 ∨ b = 79 ∨ b = 80 ∨ b = 81 ∨ b = 82 ∨ b = 83 ∨ b = 84 ∨ b = 85 ∨ b = 86 ∨ b = 87 ∨ b = 88 ∨ b = 89 ∨ b = 90 ∨ b = 91 ∨ b = 92 ∨ b = 93 ∨ b = 94 ∨ b = 95 ∨ b = 96 ∨ b = 97 := by omega
    rcases this with e | e | e | e | e | e | e | e | e | e | e | e | e | e | e | e | e | e | e | e | e | e | e | e | e | e | e | e | e | e | e | e | e | e | e | e | e | e | e | e | e | e | e | e | e | e | e | e | e | e | e | e | e | e | e | e | e | e | e | e
    · subst e; exact ⟨rfl, rfl, fun k hk => match k, hk with | 0, _ => rfl | 1, _ => rfl | 2, _ => rfl | 3, _ => rfl | 4, _ => rfl | 5, _ => rfl | 6, _ => rfl | 7, _ => rfl | 8, _ => rfl | 9, _ => rfl | 10, _ => rfl | 11, _ => rfl | k + 12, h => absurd h (by show ¬ k + 12 < 12; omega)⟩
    · subst e; exact ⟨rfl, rfl, fun _ _ => rfl⟩
    · subst e; exact ⟨rfl, rfl, fun _ _ => rfl⟩
    · subst e; exact ⟨rfl, rfl, fun _ _ => rfl⟩
    · subst e; exact ⟨rfl, rfl, fun _ _ => rfl⟩
    · subst e; exact ⟨rfl, rfl, fun _ _ => rfl⟩
    · subst e; exact ⟨rfl, rfl, fun _ _ => rfl⟩
    · subst e; exact ⟨rfl, rfl, fun _ _ => rfl⟩
    · subst e; exact ⟨rfl, rfl, fun _ _ => rfl⟩
    · subst e; exact ⟨rfl, rfl, fun _ _ => rfl⟩
    · subst e; exact ⟨rfl, rfl, fun _ _ => rfl⟩
    · subst e; exact ⟨rfl, rfl, fun _ _ => rfl⟩
    · subst e; exact ⟨rfl, rfl, fun _ _ => rfl⟩
    · subst e; exact ⟨rfl, rfl, fun _ _ => rfl⟩
    · subst e; exact ⟨rfl, rfl, fun _ _ => rfl⟩
    · subst e; exact ⟨rfl, rfl, fun _ _ => rfl⟩
    · subst e; exact ⟨rfl, rfl, fun _ _ => rfl⟩
    · subst e; exact ⟨rfl, rfl, fun _ _ => rfl⟩
    · subst e; exact ⟨rfl, rfl, fun _ _ => rfl⟩
    · subst e; exact ⟨rfl, rfl, fun _ _ => rfl⟩
    · subst e; exact ⟨rfl, rfl, fun _ _ => rfl⟩
    · subst e; exact ⟨rfl, rfl, fun _ _ => rfl⟩
    · subst e; exact ⟨rfl, rfl, fun _ _ => rfl⟩
    · subst e; exact ⟨rfl, rfl, fun _ _ => rfl⟩
    · subst e; exact ⟨rfl, rfl, fun _ _ => rfl⟩
    · subst e; exact ⟨rfl, rfl, fun _ _ => rfl⟩
    · subst e; exact ⟨rfl, rfl, fun _ _ => rfl⟩
    · subst e; exact ⟨rfl, rfl, fun _ _ => rfl⟩
    · subst e; exact ⟨rfl, rfl, fun _ _ => rfl⟩
    · subst e; exact ⟨rfl, rfl, fun _ _ => rfl⟩
    · subst e; exact ⟨rfl, rfl, fun _ _ => rfl⟩
    · subst e; exact ⟨rfl, rfl, fun _ _ => rfl⟩
    · subst e; exact ⟨rfl, rfl, fun _ _ => rfl⟩
    · subst e; exact ⟨rfl, rfl, fun _ _ => rfl⟩
    · subst e; exact ⟨rfl, rfl, fun _ _ => rfl⟩
    · subst e; exact ⟨rfl, rfl, fun _ _ => rfl⟩
    · subst e; exact ⟨rfl, rfl, fun _ _ => rfl⟩
    · subst e; exact ⟨rfl, rfl, fun _ _ => rfl⟩
    · subst e; exact ⟨rfl, rfl, fun _ _ => rfl⟩
    · subst e; exact ⟨rfl, rfl, fun _ _ => rfl⟩
    · subst e; exact ⟨rfl, rfl, fun _ _ => rfl⟩
    · subst e; exact ⟨rfl, rfl, fun _ _ => rfl⟩
    · subst e; exact ⟨rfl, rfl, fun _ _ => rfl⟩
    · subst e; exact ⟨rfl, rfl, fun _ _ => rfl⟩
    · subst e; exact ⟨rfl, rfl, fun _ _ => rfl⟩
    · subst e; exact ⟨rfl, rfl, fun _ _ => rfl⟩
    · subst e; exact ⟨rfl, rfl, fun _ _ => rfl⟩
    · subst e; exact ⟨rfl, rfl, fun _ _ => rfl⟩
    · subst e; exact ⟨rfl, rfl, fun _ _ => rfl⟩
    · subst e; exact ⟨rfl, rfl, fun k hk => match k, hk with | 0, _ => rfl | 1, _ => rfl | 2, _ => rfl | 3, _ => rfl | 4, _ => rfl | 5, _ => rfl | k + 6, h => absurd h (by show ¬ k + 6 < 6; omega)⟩
    · subst e; exact ⟨rfl, rfl, fun _ _ => rfl⟩
    · subst e; exact ⟨rfl, rfl, fun _ _ => rfl⟩
    · subst e; exact ⟨rfl, rfl, fun _ _ => rfl⟩
    · subst e; exact ⟨rfl, rfl, fun k hk => match k, hk with | 0, _ => rfl | 1, _ => rfl | 2, _ => rfl | 3, _ => rfl | k + 4, h => absurd h (by show ¬ k + 4 < 4; omega)⟩
    · subst e; exact ⟨rfl, rfl, fun k hk => match k, hk with | 0, _ => rfl | 1, _ => rfl | 2, _ => rfl | 3, _ => rfl | 4, _ => rfl | 5, _ => rfl | k + 6, h => absurd h (by show ¬ k + 6 < 6; omega)⟩
    · subst e; exact ⟨rfl, rfl, fun _ _ => rfl⟩
    · subst e; exact ⟨rfl, rfl, fun k hk => match k, hk with | 0, _ => rfl | 1, _ => rfl | k + 2, h => absurd h (by show ¬ k + 2 < 2; omega)⟩
    · subst e; exact ⟨rfl, rfl, fun k hk => match k, hk with | 0, _ => rfl | 1, _ => rfl | k + 2, h => absurd h (by show ¬ k + 2 < 2; omega)⟩
    · subst e; exact ⟨rfl, rfl, fun k hk => match k, hk with | 0, _ => rfl | 1, _ => rfl | k + 2, h => absurd h (by show ¬ k + 2 < 2; omega)⟩
    · subst e; exact ⟨rfl, rfl, fun k hk => match k, hk with | 0, _ => rfl | 1, _ => rfl | k + 2, h => absurd h (by show ¬ k + 2 < 2; omega)⟩
  · refine hk_ev_c ?_
    refine Eq.trans ?_ (hz_f_n q).symm
    refine Eq.trans (hk_up_ne (show b ≠ 91 by omega)) ?_
    refine Eq.trans (hk_up_ne (show b ≠ 97 by omega)) ?_
    refine Eq.trans (hz_nn (show b ≠ 97 by omega)) ?_
    refine Eq.trans (hk_up_ne (show b ≠ 91 by omega)) ?_
    refine Eq.trans (hk_up_ne (show b ≠ 96 by omega)) ?_
    refine Eq.trans (hz_nn (show b ≠ 96 by omega)) ?_
    refine Eq.trans (hk_up_ne (show b ≠ 91 by omega)) ?_
    refine Eq.trans (hk_up_ne (show b ≠ 95 by omega)) ?_
    refine Eq.trans (hz_nn (show b ≠ 95 by omega)) ?_
    refine Eq.trans (hk_up_ne (show b ≠ 91 by omega)) ?_
    refine Eq.trans (hk_up_ne (show b ≠ 94 by omega)) ?_
    refine Eq.trans (hz_nn (show b ≠ 94 by omega)) ?_
    refine Eq.trans (hk_up_ne (show b ≠ 38 by omega)) ?_
    refine Eq.trans (hk_up_ne (show b ≠ 92 by omega)) ?_
    refine Eq.trans (hz_nn (show b ≠ 93 by omega)) ?_
    refine Eq.trans (hz_nn (show b ≠ 92 by omega)) ?_
    refine Eq.trans (hk_up_ne (show b ≠ 38 by omega)) ?_
    refine Eq.trans (hz_nn (show b ≠ 91 by omega)) ?_
    refine Eq.trans (hk_up_ne (show b ≠ 38 by omega)) ?_
    refine Eq.trans (hz_nn (show b ≠ 90 by omega)) ?_
    refine Eq.trans (hk_up_ne (show b ≠ 38 by omega)) ?_
    refine Eq.trans (hz_nn (show b ≠ 89 by omega)) ?_
    refine Eq.trans (hk_up_ne (show b ≠ 38 by omega)) ?_
    refine Eq.trans (hk_up_ne (show b ≠ 87 by omega)) ?_
    refine Eq.trans (hz_nn (show b ≠ 88 by omega)) ?_
    refine Eq.trans (hz_nn (show b ≠ 87 by omega)) ?_
    refine Eq.trans (hk_up_ne (show b ≠ 38 by omega)) ?_
    refine Eq.trans (hk_up_ne (show b ≠ 38 by omega)) ?_
    refine Eq.trans (hz_fp (show ¬ (71 ≤ b ∧ b ≤ 86) by omega)) ?_
    refine Eq.trans (hz_bb (show b ≠ 71 by omega)) ?_
    refine Eq.trans (hk_up_ne (show b ≠ 38 by omega)) ?_
    refine Eq.trans (hz_fp (show ¬ (55 ≤ b ∧ b ≤ 70) by omega)) ?_
    refine Eq.trans (hz_bb (show b ≠ 55 by omega)) ?_
    refine Eq.trans (hk_up_ne (show b ≠ 38 by omega)) ?_
    refine Eq.trans (hz_fp (show ¬ (39 ≤ b ∧ b ≤ 54) by omega)) ?_
    refine Eq.trans (hz_bb (show b ≠ 39 by omega)) ?_
    exact rfl
