/-! THE LAW: plains are made -/
set_option maxHeartbeats 1000000 in
set_option maxRecDepth 16384 in
theorem sp_pinit_0 {d : Nat} (hd : 1 < d) {f : Nat → hk_Ce} {S : Nat × (Nat → Int32)} {Q : hk_Q} (hf : f 39 = (3, 7, hk_dft 3)) (hQ : Q none (55, hz_f S 39 54 f)) : hk_call d mP_init [.ref 39] (40, f) Q := by
  obtain ⟨d, rfl⟩ : ∃ e, d = e + 1 := ⟨d - 1, by omega⟩
  refine hk_run2 (hk_call_m d) 60 ?_
  refine w_nab 40 24 rfl rfl (by omega) (by omega) (by omega) ?_
  refine w_pfa (v := .ref 40) hf (by omega) trivial ?_
  refine w_nab 41 24 rfl rfl (by omega) (by omega) (by omega) ?_
  refine w_pfb rfl ?_
  refine w_nab 42 5 rfl rfl (by omega) (by omega) (by omega) ?_
  refine w_pfb rfl ?_
  refine w_nab 43 6 rfl rfl (by omega) (by omega) (by omega) ?_
  refine w_pfb rfl ?_
  refine And.intro (fun c => absurd c (by decide)) (fun _ => ?_)
  refine w_nwb 44 rfl (by omega) (by omega) ?_
  refine sp_ninit (by omega) (by omega) ?_
  refine w_asb (j := 0) rfl rfl (by omega) (by omega) ?_
  refine Exists.intro [0, 1] ?_
  refine hk_stop2 (hk_call_m d) (hk_run2 (hk_call_m d) 60 ?_)
  refine And.intro (fun c => absurd c (by decide)) (fun _ => ?_)
  refine w_nwb 45 rfl (by omega) (by omega) ?_
  refine sp_ninit (by omega) (by omega) ?_
  refine w_asb (j := 1) rfl rfl (by omega) (by omega) ?_
  refine Exists.intro [0, 1] ?_
  refine hk_stop2 (hk_call_m d) (hk_run2 (hk_call_m d) 60 ?_)
  refine And.intro (fun c => absurd c (by decide)) (fun _ => ?_)
  refine w_nwb 46 rfl (by omega) (by omega) ?_
  refine sp_ninit (by omega) (by omega) ?_
  refine w_asb (j := 2) rfl rfl (by omega) (by omega) ?_
  refine Exists.intro [0, 1] ?_
  refine hk_stop2 (hk_call_m d) (hk_run2 (hk_call_m d) 60 ?_)
  refine And.intro (fun c => absurd c (by decide)) (fun _ => ?_)
  refine w_nwb 47 rfl (by omega) (by omega) ?_
  refine sp_ninit (by omega) (by omega) ?_
  refine w_asb (j := 3) rfl rfl (by omega) (by omega) ?_
  refine Exists.intro [0, 1] ?_
  refine hk_stop2 (hk_call_m d) (hk_run2 (hk_call_m d) 60 ?_)
  refine And.intro (fun c => absurd c (by decide)) (fun _ => ?_)
  refine w_nwb 48 rfl (by omega) (by omega) ?_
  refine sp_ninit (by omega) (by omega) ?_
  refine w_asb (j := 4) rfl rfl (by omega) (by omega) ?_
  refine Exists.intro [0, 1] ?_
  refine hk_stop2 (hk_call_m d) (hk_run2 (hk_call_m d) 60 ?_)
  refine And.intro (fun _ => ?_) (fun c => absurd (by decide) c)
  refine And.intro (fun c => absurd c (by decide)) (fun _ => ?_)
  refine w_nwb 49 rfl (by omega) (by omega) ?_
  refine sp_hinit (by omega) (by omega) rfl ?_
  refine w_asb (j := 0) rfl rfl (by omega) (by omega) ?_
  refine Exists.intro [0, 1] ?_
  refine hk_stop2 (hk_call_m d) (hk_run2 (hk_call_m d) 60 ?_)
  refine And.intro (fun c => absurd c (by decide)) (fun _ => ?_)
  refine w_nwb 50 rfl (by omega) (by omega) ?_
  refine sp_hinit (by omega) (by omega) rfl ?_
  refine w_asb (j := 1) rfl rfl (by omega) (by omega) ?_
  refine Exists.intro [0, 1] ?_
  refine hk_stop2 (hk_call_m d) (hk_run2 (hk_call_m d) 60 ?_)
  refine And.intro (fun c => absurd c (by decide)) (fun _ => ?_)
  refine w_nwb 51 rfl (by omega) (by omega) ?_
  refine sp_hinit (by omega) (by omega) rfl ?_
  refine w_asb (j := 2) rfl rfl (by omega) (by omega) ?_
  refine Exists.intro [0, 1] ?_
  refine hk_stop2 (hk_call_m d) (hk_run2 (hk_call_m d) 60 ?_)
  refine And.intro (fun c => absurd c (by decide)) (fun _ => ?_)
  refine w_nwb 52 rfl (by omega) (by omega) ?_
  refine sp_hinit (by omega) (by omega) rfl ?_
  refine w_asb (j := 3) rfl rfl (by omega) (by omega) ?_
  refine Exists.intro [0, 1] ?_
  refine hk_stop2 (hk_call_m d) (hk_run2 (hk_call_m d) 60 ?_)
  refine And.intro (fun c => absurd c (by decide)) (fun _ => ?_)
  refine w_nwb 53 rfl (by omega) (by omega) ?_
  refine sp_hinit (by omega) (by omega) rfl ?_
  refine w_asb (j := 4) rfl rfl (by omega) (by omega) ?_
  refine Exists.intro [0, 1] ?_
  refine hk_stop2 (hk_call_m d) (hk_run2 (hk_call_m d) 60 ?_)
  refine And.intro (fun c => absurd c (by decide)) (fun _ => ?_)
  refine w_nwb 54 rfl (by omega) (by omega) ?_
  refine sp_hinit (by omega) (by omega) rfl ?_
  refine w_asb (j := 5) rfl rfl (by omega) (by omega) ?_
  refine Exists.intro [0, 1] ?_
  refine hk_stop2 (hk_call_m d) (hk_run2 (hk_call_m d) 60 ?_)
  refine And.intro (fun _ => ?_) (fun c => absurd (by decide) c)
  refine ⟨_, ?_, hQ⟩
  refine ⟨rfl, fun b => ?_⟩
  by_cases q : 39 ≤ b ∧ b ≤ 54
  · have : b = 39 ∨ b = 40 ∨ b = 41 ∨ b = 42 ∨ b = 43 ∨ b = 44 ∨ b = 45 ∨ b = 46 ∨ b = 47 ∨ b = 48 ∨ b = 49 ∨ b = 50 ∨ b = 51 ∨ b = 52 ∨ b = 53 ∨ b = 54 := by omega
    rcases this with e | e | e | e | e | e | e | e | e | e | e | e | e | e | e | e
    · subst e; exact ⟨rfl, rfl, fun k hk => match k, hk with | 0, _ => rfl | 1, _ => rfl | 2, _ => rfl | 3, _ => rfl | 4, _ => rfl | 5, _ => rfl | 6, _ => rfl | k + 7, h => absurd h (by show ¬ k + 7 < 7; omega)⟩
    · subst e; exact ⟨rfl, rfl, fun _ _ => rfl⟩
    · subst e; exact ⟨rfl, rfl, fun _ _ => rfl⟩
    · subst e; exact ⟨rfl, rfl, fun k hk => match k, hk with | 0, _ => rfl | 1, _ => rfl | 2, _ => rfl | 3, _ => rfl | 4, _ => rfl | k + 5, h => absurd h (by show ¬ k + 5 < 5; omega)⟩
    · subst e; exact ⟨rfl, rfl, fun k hk => match k, hk with | 0, _ => rfl | 1, _ => rfl | 2, _ => rfl | 3, _ => rfl | 4, _ => rfl | 5, _ => rfl | k + 6, h => absurd h (by show ¬ k + 6 < 6; omega)⟩
    · subst e; exact ⟨rfl, rfl, fun k hk => match k, hk with | 0, _ => rfl | 1, _ => rfl | k + 2, h => absurd h (by show ¬ k + 2 < 2; omega)⟩
    · subst e; exact ⟨rfl, rfl, fun k hk => match k, hk with | 0, _ => rfl | 1, _ => rfl | k + 2, h => absurd h (by show ¬ k + 2 < 2; omega)⟩
    · subst e; exact ⟨rfl, rfl, fun k hk => match k, hk with | 0, _ => rfl | 1, _ => rfl | k + 2, h => absurd h (by show ¬ k + 2 < 2; omega)⟩
    · subst e; exact ⟨rfl, rfl, fun k hk => match k, hk with | 0, _ => rfl | 1, _ => rfl | k + 2, h => absurd h (by show ¬ k + 2 < 2; omega)⟩
    · subst e; exact ⟨rfl, rfl, fun k hk => match k, hk with | 0, _ => rfl | 1, _ => rfl | k + 2, h => absurd h (by show ¬ k + 2 < 2; omega)⟩
    · subst e; exact ⟨rfl, rfl, fun k hk => match k, hk with | 0, _ => rfl | 1, _ => rfl | 2, _ => rfl | 3, _ => rfl | 4, _ => rfl | k + 5, h => absurd h (by show ¬ k + 5 < 5; omega)⟩
    · subst e; exact ⟨rfl, rfl, fun k hk => match k, hk with | 0, _ => rfl | 1, _ => rfl | 2, _ => rfl | 3, _ => rfl | 4, _ => rfl | k + 5, h => absurd h (by show ¬ k + 5 < 5; omega)⟩
    · subst e; exact ⟨rfl, rfl, fun k hk => match k, hk with | 0, _ => rfl | 1, _ => rfl | 2, _ => rfl | 3, _ => rfl | 4, _ => rfl | k + 5, h => absurd h (by show ¬ k + 5 < 5; omega)⟩
    · subst e; exact ⟨rfl, rfl, fun k hk => match k, hk with | 0, _ => rfl | 1, _ => rfl | 2, _ => rfl | 3, _ => rfl | 4, _ => rfl | k + 5, h => absurd h (by show ¬ k + 5 < 5; omega)⟩
    · subst e; exact ⟨rfl, rfl, fun k hk => match k, hk with | 0, _ => rfl | 1, _ => rfl | 2, _ => rfl | 3, _ => rfl | 4, _ => rfl | k + 5, h => absurd h (by show ¬ k + 5 < 5; omega)⟩
    · subst e; exact ⟨rfl, rfl, fun k hk => match k, hk with | 0, _ => rfl | 1, _ => rfl | 2, _ => rfl | 3, _ => rfl | 4, _ => rfl | k + 5, h => absurd h (by show ¬ k + 5 < 5; omega)⟩
  · refine hk_ev_c ?_
    refine Eq.trans ?_ (hz_f_n q).symm
    refine Eq.trans (hk_up_ne (show b ≠ 43 by omega)) ?_
    refine Eq.trans (hk_up_ne (show b ≠ 54 by omega)) ?_
    refine Eq.trans (hk_up_ne (show b ≠ 54 by omega)) ?_
    refine Eq.trans (hz_nn (show b ≠ 54 by omega)) ?_
    refine Eq.trans (hk_up_ne (show b ≠ 43 by omega)) ?_
    refine Eq.trans (hk_up_ne (show b ≠ 53 by omega)) ?_
    refine Eq.trans (hk_up_ne (show b ≠ 53 by omega)) ?_
    refine Eq.trans (hz_nn (show b ≠ 53 by omega)) ?_
    refine Eq.trans (hk_up_ne (show b ≠ 43 by omega)) ?_
    refine Eq.trans (hk_up_ne (show b ≠ 52 by omega)) ?_
    refine Eq.trans (hk_up_ne (show b ≠ 52 by omega)) ?_
    refine Eq.trans (hz_nn (show b ≠ 52 by omega)) ?_
    refine Eq.trans (hk_up_ne (show b ≠ 43 by omega)) ?_
    refine Eq.trans (hk_up_ne (show b ≠ 51 by omega)) ?_
    refine Eq.trans (hk_up_ne (show b ≠ 51 by omega)) ?_
    refine Eq.trans (hz_nn (show b ≠ 51 by omega)) ?_
    refine Eq.trans (hk_up_ne (show b ≠ 43 by omega)) ?_
    refine Eq.trans (hk_up_ne (show b ≠ 50 by omega)) ?_
    refine Eq.trans (hk_up_ne (show b ≠ 50 by omega)) ?_
    refine Eq.trans (hz_nn (show b ≠ 50 by omega)) ?_
    refine Eq.trans (hk_up_ne (show b ≠ 43 by omega)) ?_
    refine Eq.trans (hk_up_ne (show b ≠ 49 by omega)) ?_
    refine Eq.trans (hk_up_ne (show b ≠ 49 by omega)) ?_
    refine Eq.trans (hz_nn (show b ≠ 49 by omega)) ?_
    refine Eq.trans (hk_up_ne (show b ≠ 42 by omega)) ?_
    refine Eq.trans (hz_nn (show b ≠ 48 by omega)) ?_
    refine Eq.trans (hk_up_ne (show b ≠ 42 by omega)) ?_
    refine Eq.trans (hz_nn (show b ≠ 47 by omega)) ?_
    refine Eq.trans (hk_up_ne (show b ≠ 42 by omega)) ?_
    refine Eq.trans (hz_nn (show b ≠ 46 by omega)) ?_
    refine Eq.trans (hk_up_ne (show b ≠ 42 by omega)) ?_
    refine Eq.trans (hz_nn (show b ≠ 45 by omega)) ?_
    refine Eq.trans (hk_up_ne (show b ≠ 42 by omega)) ?_
    refine Eq.trans (hz_nn (show b ≠ 44 by omega)) ?_
    refine Eq.trans (hk_up_ne (show b ≠ 39 by omega)) ?_
    refine Eq.trans (hz_nn (show b ≠ 43 by omega)) ?_
    refine Eq.trans (hk_up_ne (show b ≠ 39 by omega)) ?_
    refine Eq.trans (hz_nn (show b ≠ 42 by omega)) ?_
    refine Eq.trans (hk_up_ne (show b ≠ 39 by omega)) ?_
    refine Eq.trans (hz_nn (show b ≠ 41 by omega)) ?_
    refine Eq.trans (hk_up_ne (show b ≠ 39 by omega)) ?_
    refine Eq.trans (hz_nn (show b ≠ 40 by omega)) ?_
    exact rfl
set_option maxHeartbeats 1000000 in
set_option maxRecDepth 16384 in
theorem sp_pinit_1 {d : Nat} (hd : 1 < d) {f : Nat → hk_Ce} {S : Nat × (Nat → Int32)} {Q : hk_Q} (hf : f 55 = (3, 7, hk_dft 3)) (hQ : Q none (71, hz_f S 55 70 f)) : hk_call d mP_init [.ref 55] (56, f) Q := by
  obtain ⟨d, rfl⟩ : ∃ e, d = e + 1 := ⟨d - 1, by omega⟩
  refine hk_run2 (hk_call_m d) 60 ?_
  refine w_nab 56 24 rfl rfl (by omega) (by omega) (by omega) ?_
  refine w_pfa (v := .ref 56) hf (by omega) trivial ?_
  refine w_nab 57 24 rfl rfl (by omega) (by omega) (by omega) ?_
  refine w_pfb rfl ?_
  refine w_nab 58 5 rfl rfl (by omega) (by omega) (by omega) ?_
  refine w_pfb rfl ?_
  refine w_nab 59 6 rfl rfl (by omega) (by omega) (by omega) ?_
  refine w_pfb rfl ?_
  refine And.intro (fun c => absurd c (by decide)) (fun _ => ?_)
  refine w_nwb 60 rfl (by omega) (by omega) ?_
  refine sp_ninit (by omega) (by omega) ?_
  refine w_asb (j := 0) rfl rfl (by omega) (by omega) ?_
  refine Exists.intro [0, 1] ?_
  refine hk_stop2 (hk_call_m d) (hk_run2 (hk_call_m d) 60 ?_)
  refine And.intro (fun c => absurd c (by decide)) (fun _ => ?_)
  refine w_nwb 61 rfl (by omega) (by omega) ?_
  refine sp_ninit (by omega) (by omega) ?_
  refine w_asb (j := 1) rfl rfl (by omega) (by omega) ?_
  refine Exists.intro [0, 1] ?_
  refine hk_stop2 (hk_call_m d) (hk_run2 (hk_call_m d) 60 ?_)
  refine And.intro (fun c => absurd c (by decide)) (fun _ => ?_)
  refine w_nwb 62 rfl (by omega) (by omega) ?_
  refine sp_ninit (by omega) (by omega) ?_
  refine w_asb (j := 2) rfl rfl (by omega) (by omega) ?_
  refine Exists.intro [0, 1] ?_
  refine hk_stop2 (hk_call_m d) (hk_run2 (hk_call_m d) 60 ?_)
  refine And.intro (fun c => absurd c (by decide)) (fun _ => ?_)
  refine w_nwb 63 rfl (by omega) (by omega) ?_
  refine sp_ninit (by omega) (by omega) ?_
  refine w_asb (j := 3) rfl rfl (by omega) (by omega) ?_
  refine Exists.intro [0, 1] ?_
  refine hk_stop2 (hk_call_m d) (hk_run2 (hk_call_m d) 60 ?_)
  refine And.intro (fun c => absurd c (by decide)) (fun _ => ?_)
  refine w_nwb 64 rfl (by omega) (by omega) ?_
  refine sp_ninit (by omega) (by omega) ?_
  refine w_asb (j := 4) rfl rfl (by omega) (by omega) ?_
  refine Exists.intro [0, 1] ?_
  refine hk_stop2 (hk_call_m d) (hk_run2 (hk_call_m d) 60 ?_)
  refine And.intro (fun _ => ?_) (fun c => absurd (by decide) c)
  refine And.intro (fun c => absurd c (by decide)) (fun _ => ?_)
  refine w_nwb 65 rfl (by omega) (by omega) ?_
  refine sp_hinit (by omega) (by omega) rfl ?_
  refine w_asb (j := 0) rfl rfl (by omega) (by omega) ?_
  refine Exists.intro [0, 1] ?_
  refine hk_stop2 (hk_call_m d) (hk_run2 (hk_call_m d) 60 ?_)
  refine And.intro (fun c => absurd c (by decide)) (fun _ => ?_)
  refine w_nwb 66 rfl (by omega) (by omega) ?_
  refine sp_hinit (by omega) (by omega) rfl ?_
  refine w_asb (j := 1) rfl rfl (by omega) (by omega) ?_
  refine Exists.intro [0, 1] ?_
  refine hk_stop2 (hk_call_m d) (hk_run2 (hk_call_m d) 60 ?_)
  refine And.intro (fun c => absurd c (by decide)) (fun _ => ?_)
  refine w_nwb 67 rfl (by omega) (by omega) ?_
  refine sp_hinit (by omega) (by omega) rfl ?_
  refine w_asb (j := 2) rfl rfl (by omega) (by omega) ?_
  refine Exists.intro [0, 1] ?_
  refine hk_stop2 (hk_call_m d) (hk_run2 (hk_call_m d) 60 ?_)
  refine And.intro (fun c => absurd c (by decide)) (fun _ => ?_)
  refine w_nwb 68 rfl (by omega) (by omega) ?_
  refine sp_hinit (by omega) (by omega) rfl ?_
  refine w_asb (j := 3) rfl rfl (by omega) (by omega) ?_
  refine Exists.intro [0, 1] ?_
  refine hk_stop2 (hk_call_m d) (hk_run2 (hk_call_m d) 60 ?_)
  refine And.intro (fun c => absurd c (by decide)) (fun _ => ?_)
  refine w_nwb 69 rfl (by omega) (by omega) ?_
  refine sp_hinit (by omega) (by omega) rfl ?_
  refine w_asb (j := 4) rfl rfl (by omega) (by omega) ?_
  refine Exists.intro [0, 1] ?_
  refine hk_stop2 (hk_call_m d) (hk_run2 (hk_call_m d) 60 ?_)
  refine And.intro (fun c => absurd c (by decide)) (fun _ => ?_)
  refine w_nwb 70 rfl (by omega) (by omega) ?_
  refine sp_hinit (by omega) (by omega) rfl ?_
  refine w_asb (j := 5) rfl rfl (by omega) (by omega) ?_
  refine Exists.intro [0, 1] ?_
  refine hk_stop2 (hk_call_m d) (hk_run2 (hk_call_m d) 60 ?_)
  refine And.intro (fun _ => ?_) (fun c => absurd (by decide) c)
  refine ⟨_, ?_, hQ⟩
  refine ⟨rfl, fun b => ?_⟩
  by_cases q : 55 ≤ b ∧ b ≤ 70
  · have : b = 55 ∨ b = 56 ∨ b = 57 ∨ b = 58 ∨ b = 59 ∨ b = 60 ∨ b = 61 ∨ b = 62 ∨ b = 63 ∨ b = 64 ∨ b = 65 ∨ b = 66 ∨ b = 67 ∨ b = 68 ∨ b = 69 ∨ b = 70 := by omega
    rcases this with e | e | e | e | e | e | e | e | e | e | e | e | e | e | e | e
    · subst e; exact ⟨rfl, rfl, fun k hk => match k, hk with | 0, _ => rfl | 1, _ => rfl | 2, _ => rfl | 3, _ => rfl | 4, _ => rfl | 5, _ => rfl | 6, _ => rfl | k + 7, h => absurd h (by show ¬ k + 7 < 7; omega)⟩
    · subst e; exact ⟨rfl, rfl, fun _ _ => rfl⟩
    · subst e; exact ⟨rfl, rfl, fun _ _ => rfl⟩
    · subst e; exact ⟨rfl, rfl, fun k hk => match k, hk with | 0, _ => rfl | 1, _ => rfl | 2, _ => rfl | 3, _ => rfl | 4, _ => rfl | k + 5, h => absurd h (by show ¬ k + 5 < 5; omega)⟩
    · subst e; exact ⟨rfl, rfl, fun k hk => match k, hk with | 0, _ => rfl | 1, _ => rfl | 2, _ => rfl | 3, _ => rfl | 4, _ => rfl | 5, _ => rfl | k + 6, h => absurd h (by show ¬ k + 6 < 6; omega)⟩
    · subst e; exact ⟨rfl, rfl, fun k hk => match k, hk with | 0, _ => rfl | 1, _ => rfl | k + 2, h => absurd h (by show ¬ k + 2 < 2; omega)⟩
    · subst e; exact ⟨rfl, rfl, fun k hk => match k, hk with | 0, _ => rfl | 1, _ => rfl | k + 2, h => absurd h (by show ¬ k + 2 < 2; omega)⟩
    · subst e; exact ⟨rfl, rfl, fun k hk => match k, hk with | 0, _ => rfl | 1, _ => rfl | k + 2, h => absurd h (by show ¬ k + 2 < 2; omega)⟩
    · subst e; exact ⟨rfl, rfl, fun k hk => match k, hk with | 0, _ => rfl | 1, _ => rfl | k + 2, h => absurd h (by show ¬ k + 2 < 2; omega)⟩
    · subst e; exact ⟨rfl, rfl, fun k hk => match k, hk with | 0, _ => rfl | 1, _ => rfl | k + 2, h => absurd h (by show ¬ k + 2 < 2; omega)⟩
    · subst e; exact ⟨rfl, rfl, fun k hk => match k, hk with | 0, _ => rfl | 1, _ => rfl | 2, _ => rfl | 3, _ => rfl | 4, _ => rfl | k + 5, h => absurd h (by show ¬ k + 5 < 5; omega)⟩
    · subst e; exact ⟨rfl, rfl, fun k hk => match k, hk with | 0, _ => rfl | 1, _ => rfl | 2, _ => rfl | 3, _ => rfl | 4, _ => rfl | k + 5, h => absurd h (by show ¬ k + 5 < 5; omega)⟩
    · subst e; exact ⟨rfl, rfl, fun k hk => match k, hk with | 0, _ => rfl | 1, _ => rfl | 2, _ => rfl | 3, _ => rfl | 4, _ => rfl | k + 5, h => absurd h (by show ¬ k + 5 < 5; omega)⟩
    · subst e; exact ⟨rfl, rfl, fun k hk => match k, hk with | 0, _ => rfl | 1, _ => rfl | 2, _ => rfl | 3, _ => rfl | 4, _ => rfl | k + 5, h => absurd h (by show ¬ k + 5 < 5; omega)⟩
    · subst e; exact ⟨rfl, rfl, fun k hk => match k, hk with | 0, _ => rfl | 1, _ => rfl | 2, _ => rfl | 3, _ => rfl | 4, _ => rfl | k + 5, h => absurd h (by show ¬ k + 5 < 5; omega)⟩
    · subst e; exact ⟨rfl, rfl, fun k hk => match k, hk with | 0, _ => rfl | 1, _ => rfl | 2, _ => rfl | 3, _ => rfl | 4, _ => rfl | k + 5, h => absurd h (by show ¬ k + 5 < 5; omega)⟩
  · refine hk_ev_c ?_
    refine Eq.trans ?_ (hz_f_n q).symm
    refine Eq.trans (hk_up_ne (show b ≠ 59 by omega)) ?_
    refine Eq.trans (hk_up_ne (show b ≠ 70 by omega)) ?_
    refine Eq.trans (hk_up_ne (show b ≠ 70 by omega)) ?_
    refine Eq.trans (hz_nn (show b ≠ 70 by omega)) ?_
    refine Eq.trans (hk_up_ne (show b ≠ 59 by omega)) ?_
    refine Eq.trans (hk_up_ne (show b ≠ 69 by omega)) ?_
    refine Eq.trans (hk_up_ne (show b ≠ 69 by omega)) ?_
    refine Eq.trans (hz_nn (show b ≠ 69 by omega)) ?_
    refine Eq.trans (hk_up_ne (show b ≠ 59 by omega)) ?_
    refine Eq.trans (hk_up_ne (show b ≠ 68 by omega)) ?_
    refine Eq.trans (hk_up_ne (show b ≠ 68 by omega)) ?_
    refine Eq.trans (hz_nn (show b ≠ 68 by omega)) ?_
    refine Eq.trans (hk_up_ne (show b ≠ 59 by omega)) ?_
    refine Eq.trans (hk_up_ne (show b ≠ 67 by omega)) ?_
    refine Eq.trans (hk_up_ne (show b ≠ 67 by omega)) ?_
    refine Eq.trans (hz_nn (show b ≠ 67 by omega)) ?_
    refine Eq.trans (hk_up_ne (show b ≠ 59 by omega)) ?_
    refine Eq.trans (hk_up_ne (show b ≠ 66 by omega)) ?_
    refine Eq.trans (hk_up_ne (show b ≠ 66 by omega)) ?_
    refine Eq.trans (hz_nn (show b ≠ 66 by omega)) ?_
    refine Eq.trans (hk_up_ne (show b ≠ 59 by omega)) ?_
    refine Eq.trans (hk_up_ne (show b ≠ 65 by omega)) ?_
    refine Eq.trans (hk_up_ne (show b ≠ 65 by omega)) ?_
    refine Eq.trans (hz_nn (show b ≠ 65 by omega)) ?_
    refine Eq.trans (hk_up_ne (show b ≠ 58 by omega)) ?_
    refine Eq.trans (hz_nn (show b ≠ 64 by omega)) ?_
    refine Eq.trans (hk_up_ne (show b ≠ 58 by omega)) ?_
    refine Eq.trans (hz_nn (show b ≠ 63 by omega)) ?_
    refine Eq.trans (hk_up_ne (show b ≠ 58 by omega)) ?_
    refine Eq.trans (hz_nn (show b ≠ 62 by omega)) ?_
    refine Eq.trans (hk_up_ne (show b ≠ 58 by omega)) ?_
    refine Eq.trans (hz_nn (show b ≠ 61 by omega)) ?_
    refine Eq.trans (hk_up_ne (show b ≠ 58 by omega)) ?_
    refine Eq.trans (hz_nn (show b ≠ 60 by omega)) ?_
    refine Eq.trans (hk_up_ne (show b ≠ 55 by omega)) ?_
    refine Eq.trans (hz_nn (show b ≠ 59 by omega)) ?_
    refine Eq.trans (hk_up_ne (show b ≠ 55 by omega)) ?_
    refine Eq.trans (hz_nn (show b ≠ 58 by omega)) ?_
    refine Eq.trans (hk_up_ne (show b ≠ 55 by omega)) ?_
    refine Eq.trans (hz_nn (show b ≠ 57 by omega)) ?_
    refine Eq.trans (hk_up_ne (show b ≠ 55 by omega)) ?_
    refine Eq.trans (hz_nn (show b ≠ 56 by omega)) ?_
    exact rfl
set_option maxHeartbeats 1000000 in
set_option maxRecDepth 16384 in
theorem sp_pinit_2 {d : Nat} (hd : 1 < d) {f : Nat → hk_Ce} {S : Nat × (Nat → Int32)} {Q : hk_Q} (hf : f 71 = (3, 7, hk_dft 3)) (hQ : Q none (87, hz_f S 71 86 f)) : hk_call d mP_init [.ref 71] (72, f) Q := by
  obtain ⟨d, rfl⟩ : ∃ e, d = e + 1 := ⟨d - 1, by omega⟩
  refine hk_run2 (hk_call_m d) 60 ?_
  refine w_nab 72 24 rfl rfl (by omega) (by omega) (by omega) ?_
  refine w_pfa (v := .ref 72) hf (by omega) trivial ?_
  refine w_nab 73 24 rfl rfl (by omega) (by omega) (by omega) ?_
  refine w_pfb rfl ?_
  refine w_nab 74 5 rfl rfl (by omega) (by omega) (by omega) ?_
  refine w_pfb rfl ?_
  refine w_nab 75 6 rfl rfl (by omega) (by omega) (by omega) ?_
  refine w_pfb rfl ?_
  refine And.intro (fun c => absurd c (by decide)) (fun _ => ?_)
  refine w_nwb 76 rfl (by omega) (by omega) ?_
  refine sp_ninit (by omega) (by omega) ?_
  refine w_asb (j := 0) rfl rfl (by omega) (by omega) ?_
  refine Exists.intro [0, 1] ?_
  refine hk_stop2 (hk_call_m d) (hk_run2 (hk_call_m d) 60 ?_)
  refine And.intro (fun c => absurd c (by decide)) (fun _ => ?_)
  refine w_nwb 77 rfl (by omega) (by omega) ?_
  refine sp_ninit (by omega) (by omega) ?_
  refine w_asb (j := 1) rfl rfl (by omega) (by omega) ?_
  refine Exists.intro [0, 1] ?_
  refine hk_stop2 (hk_call_m d) (hk_run2 (hk_call_m d) 60 ?_)
  refine And.intro (fun c => absurd c (by decide)) (fun _ => ?_)
  refine w_nwb 78 rfl (by omega) (by omega) ?_
  refine sp_ninit (by omega) (by omega) ?_
  refine w_asb (j := 2) rfl rfl (by omega) (by omega) ?_
  refine Exists.intro [0, 1] ?_
  refine hk_stop2 (hk_call_m d) (hk_run2 (hk_call_m d) 60 ?_)
  refine And.intro (fun c => absurd c (by decide)) (fun _ => ?_)
  refine w_nwb 79 rfl (by omega) (by omega) ?_
  refine sp_ninit (by omega) (by omega) ?_
  refine w_asb (j := 3) rfl rfl (by omega) (by omega) ?_
  refine Exists.intro [0, 1] ?_
  refine hk_stop2 (hk_call_m d) (hk_run2 (hk_call_m d) 60 ?_)
  refine And.intro (fun c => absurd c (by decide)) (fun _ => ?_)
  refine w_nwb 80 rfl (by omega) (by omega) ?_
  refine sp_ninit (by omega) (by omega) ?_
  refine w_asb (j := 4) rfl rfl (by omega) (by omega) ?_
  refine Exists.intro [0, 1] ?_
  refine hk_stop2 (hk_call_m d) (hk_run2 (hk_call_m d) 60 ?_)
  refine And.intro (fun _ => ?_) (fun c => absurd (by decide) c)
  refine And.intro (fun c => absurd c (by decide)) (fun _ => ?_)
  refine w_nwb 81 rfl (by omega) (by omega) ?_
  refine sp_hinit (by omega) (by omega) rfl ?_
  refine w_asb (j := 0) rfl rfl (by omega) (by omega) ?_
  refine Exists.intro [0, 1] ?_
  refine hk_stop2 (hk_call_m d) (hk_run2 (hk_call_m d) 60 ?_)
  refine And.intro (fun c => absurd c (by decide)) (fun _ => ?_)
  refine w_nwb 82 rfl (by omega) (by omega) ?_
  refine sp_hinit (by omega) (by omega) rfl ?_
  refine w_asb (j := 1) rfl rfl (by omega) (by omega) ?_
  refine Exists.intro [0, 1] ?_
  refine hk_stop2 (hk_call_m d) (hk_run2 (hk_call_m d) 60 ?_)
  refine And.intro (fun c => absurd c (by decide)) (fun _ => ?_)
  refine w_nwb 83 rfl (by omega) (by omega) ?_
  refine sp_hinit (by omega) (by omega) rfl ?_
  refine w_asb (j := 2) rfl rfl (by omega) (by omega) ?_
  refine Exists.intro [0, 1] ?_
  refine hk_stop2 (hk_call_m d) (hk_run2 (hk_call_m d) 60 ?_)
  refine And.intro (fun c => absurd c (by decide)) (fun _ => ?_)
  refine w_nwb 84 rfl (by omega) (by omega) ?_
  refine sp_hinit (by omega) (by omega) rfl ?_
  refine w_asb (j := 3) rfl rfl (by omega) (by omega) ?_
  refine Exists.intro [0, 1] ?_
  refine hk_stop2 (hk_call_m d) (hk_run2 (hk_call_m d) 60 ?_)
  refine And.intro (fun c => absurd c (by decide)) (fun _ => ?_)
  refine w_nwb 85 rfl (by omega) (by omega) ?_
  refine sp_hinit (by omega) (by omega) rfl ?_
  refine w_asb (j := 4) rfl rfl (by omega) (by omega) ?_
  refine Exists.intro [0, 1] ?_
  refine hk_stop2 (hk_call_m d) (hk_run2 (hk_call_m d) 60 ?_)
  refine And.intro (fun c => absurd c (by decide)) (fun _ => ?_)
  refine w_nwb 86 rfl (by omega) (by omega) ?_
  refine sp_hinit (by omega) (by omega) rfl ?_
  refine w_asb (j := 5) rfl rfl (by omega) (by omega) ?_
  refine Exists.intro [0, 1] ?_
  refine hk_stop2 (hk_call_m d) (hk_run2 (hk_call_m d) 60 ?_)
  refine And.intro (fun _ => ?_) (fun c => absurd (by decide) c)
  refine ⟨_, ?_, hQ⟩
  refine ⟨rfl, fun b => ?_⟩
  by_cases q : 71 ≤ b ∧ b ≤ 86
  · have : b = 71 ∨ b = 72 ∨ b = 73 ∨ b = 74 ∨ b = 75 ∨ b = 76 ∨ b = 77 ∨ b = 78 ∨ b = 79 ∨ b = 80 ∨ b = 81 ∨ b = 82 ∨ b = 83 ∨ b = 84 ∨ b = 85 ∨ b = 86 := by omega
    rcases this with e | e | e | e | e | e | e | e | e | e | e | e | e | e | e | e
    · subst e; exact ⟨rfl, rfl, fun k hk => match k, hk with | 0, _ => rfl | 1, _ => rfl | 2, _ => rfl | 3, _ => rfl | 4, _ => rfl | 5, _ => rfl | 6, _ => rfl | k + 7, h => absurd h (by show ¬ k + 7 < 7; omega)⟩
    · subst e; exact ⟨rfl, rfl, fun _ _ => rfl⟩
    · subst e; exact ⟨rfl, rfl, fun _ _ => rfl⟩
    · subst e; exact ⟨rfl, rfl, fun k hk => match k, hk with | 0, _ => rfl | 1, _ => rfl | 2, _ => rfl | 3, _ => rfl | 4, _ => rfl | k + 5, h => absurd h (by show ¬ k + 5 < 5; omega)⟩
    · subst e; exact ⟨rfl, rfl, fun k hk => match k, hk with | 0, _ => rfl | 1, _ => rfl | 2, _ => rfl | 3, _ => rfl | 4, _ => rfl | 5, _ => rfl | k + 6, h => absurd h (by show ¬ k + 6 < 6; omega)⟩
    · subst e; exact ⟨rfl, rfl, fun k hk => match k, hk with | 0, _ => rfl | 1, _ => rfl | k + 2, h => absurd h (by show ¬ k + 2 < 2; omega)⟩
    · subst e; exact ⟨rfl, rfl, fun k hk => match k, hk with | 0, _ => rfl | 1, _ => rfl | k + 2, h => absurd h (by show ¬ k + 2 < 2; omega)⟩
    · subst e; exact ⟨rfl, rfl, fun k hk => match k, hk with | 0, _ => rfl | 1, _ => rfl | k + 2, h => absurd h (by show ¬ k + 2 < 2; omega)⟩
    · subst e; exact ⟨rfl, rfl, fun k hk => match k, hk with | 0, _ => rfl | 1, _ => rfl | k + 2, h => absurd h (by show ¬ k + 2 < 2; omega)⟩
    · subst e; exact ⟨rfl, rfl, fun k hk => match k, hk with | 0, _ => rfl | 1, _ => rfl | k + 2, h => absurd h (by show ¬ k + 2 < 2; omega)⟩
    · subst e; exact ⟨rfl, rfl, fun k hk => match k, hk with | 0, _ => rfl | 1, _ => rfl | 2, _ => rfl | 3, _ => rfl | 4, _ => rfl | k + 5, h => absurd h (by show ¬ k + 5 < 5; omega)⟩
    · subst e; exact ⟨rfl, rfl, fun k hk => match k, hk with | 0, _ => rfl | 1, _ => rfl | 2, _ => rfl | 3, _ => rfl | 4, _ => rfl | k + 5, h => absurd h (by show ¬ k + 5 < 5; omega)⟩
    · subst e; exact ⟨rfl, rfl, fun k hk => match k, hk with | 0, _ => rfl | 1, _ => rfl | 2, _ => rfl | 3, _ => rfl | 4, _ => rfl | k + 5, h => absurd h (by show ¬ k + 5 < 5; omega)⟩
    · subst e; exact ⟨rfl, rfl, fun k hk => match k, hk with | 0, _ => rfl | 1, _ => rfl | 2, _ => rfl | 3, _ => rfl | 4, _ => rfl | k + 5, h => absurd h (by show ¬ k + 5 < 5; omega)⟩
    · subst e; exact ⟨rfl, rfl, fun k hk => match k, hk with | 0, _ => rfl | 1, _ => rfl | 2, _ => rfl | 3, _ => rfl | 4, _ => rfl | k + 5, h => absurd h (by show ¬ k + 5 < 5; omega)⟩
    · subst e; exact ⟨rfl, rfl, fun k hk => match k, hk with | 0, _ => rfl | 1, _ => rfl | 2, _ => rfl | 3, _ => rfl | 4, _ => rfl | k + 5, h => absurd h (by show ¬ k + 5 < 5; omega)⟩
  · refine hk_ev_c ?_
    refine Eq.trans ?_ (hz_f_n q).symm
    refine Eq.trans (hk_up_ne (show b ≠ 75 by omega)) ?_
    refine Eq.trans (hk_up_ne (show b ≠ 86 by omega)) ?_
    refine Eq.trans (hk_up_ne (show b ≠ 86 by omega)) ?_
    refine Eq.trans (hz_nn (show b ≠ 86 by omega)) ?_
    refine Eq.trans (hk_up_ne (show b ≠ 75 by omega)) ?_
    refine Eq.trans (hk_up_ne (show b ≠ 85 by omega)) ?_
    refine Eq.trans (hk_up_ne (show b ≠ 85 by omega)) ?_
    refine Eq.trans (hz_nn (show b ≠ 85 by omega)) ?_
    refine Eq.trans (hk_up_ne (show b ≠ 75 by omega)) ?_
    refine Eq.trans (hk_up_ne (show b ≠ 84 by omega)) ?_
    refine Eq.trans (hk_up_ne (show b ≠ 84 by omega)) ?_
    refine Eq.trans (hz_nn (show b ≠ 84 by omega)) ?_
    refine Eq.trans (hk_up_ne (show b ≠ 75 by omega)) ?_
    refine Eq.trans (hk_up_ne (show b ≠ 83 by omega)) ?_
    refine Eq.trans (hk_up_ne (show b ≠ 83 by omega)) ?_
    refine Eq.trans (hz_nn (show b ≠ 83 by omega)) ?_
    refine Eq.trans (hk_up_ne (show b ≠ 75 by omega)) ?_
    refine Eq.trans (hk_up_ne (show b ≠ 82 by omega)) ?_
    refine Eq.trans (hk_up_ne (show b ≠ 82 by omega)) ?_
    refine Eq.trans (hz_nn (show b ≠ 82 by omega)) ?_
    refine Eq.trans (hk_up_ne (show b ≠ 75 by omega)) ?_
    refine Eq.trans (hk_up_ne (show b ≠ 81 by omega)) ?_
    refine Eq.trans (hk_up_ne (show b ≠ 81 by omega)) ?_
    refine Eq.trans (hz_nn (show b ≠ 81 by omega)) ?_
    refine Eq.trans (hk_up_ne (show b ≠ 74 by omega)) ?_
    refine Eq.trans (hz_nn (show b ≠ 80 by omega)) ?_
    refine Eq.trans (hk_up_ne (show b ≠ 74 by omega)) ?_
    refine Eq.trans (hz_nn (show b ≠ 79 by omega)) ?_
    refine Eq.trans (hk_up_ne (show b ≠ 74 by omega)) ?_
    refine Eq.trans (hz_nn (show b ≠ 78 by omega)) ?_
    refine Eq.trans (hk_up_ne (show b ≠ 74 by omega)) ?_
    refine Eq.trans (hz_nn (show b ≠ 77 by omega)) ?_
    refine Eq.trans (hk_up_ne (show b ≠ 74 by omega)) ?_
    refine Eq.trans (hz_nn (show b ≠ 76 by omega)) ?_
    refine Eq.trans (hk_up_ne (show b ≠ 71 by omega)) ?_
    refine Eq.trans (hz_nn (show b ≠ 75 by omega)) ?_
    refine Eq.trans (hk_up_ne (show b ≠ 71 by omega)) ?_
    refine Eq.trans (hz_nn (show b ≠ 74 by omega)) ?_
    refine Eq.trans (hk_up_ne (show b ≠ 71 by omega)) ?_
    refine Eq.trans (hz_nn (show b ≠ 73 by omega)) ?_
    refine Eq.trans (hk_up_ne (show b ≠ 71 by omega)) ?_
    refine Eq.trans (hz_nn (show b ≠ 72 by omega)) ?_
    exact rfl
