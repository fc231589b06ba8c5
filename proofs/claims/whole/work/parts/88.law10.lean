/-! THE LAW: the reference is made -/
set_option maxHeartbeats 4000000 in
set_option maxRecDepth 16384 in
theorem sp_minit {d : Nat} (hd : 0 < d) {f : Nat → hk_Ce} {S : Nat × (Nat → Int32)} {h' : hk_Hp} {Q : hk_Q} (hf : f 98 = (8, 51, hk_dft 8)) (hE : hk_ev (127, hz_f S 98 126 f) h') (hQ : Q none h') : hk_call d mM_init [.ref 98] (99, f) Q := by
  obtain ⟨d, rfl⟩ : ∃ e, d = e + 1 := ⟨d - 1, by omega⟩
  refine hk_run2 (hk_call_m d) 60 ?_
  refine w_nab 99 24 rfl rfl (by omega) (by omega) (by omega) ?_
  refine w_pfa (v := .ref 99) hf (by omega) trivial ?_
  refine w_nab 100 24 rfl rfl (by omega) (by omega) (by omega) ?_
  refine w_pfb rfl ?_
  refine w_nab 101 5 rfl rfl (by omega) (by omega) (by omega) ?_
  refine w_pfb rfl ?_
  refine w_nab 102 6 rfl rfl (by omega) (by omega) (by omega) ?_
  refine w_pfb rfl ?_
  refine w_nab 103 6 rfl rfl (by omega) (by omega) (by omega) ?_
  refine w_pfb rfl ?_
  refine w_nab 104 6 rfl rfl (by omega) (by omega) (by omega) ?_
  refine w_pfb rfl ?_
  refine hk_stop2 (hk_call_m d) (hk_run2 (hk_call_m d) 60 ?_)
  refine w_nab 105 36 rfl rfl (by omega) (by omega) (by omega) ?_
  refine w_pfb rfl ?_
  refine w_pfb rfl ?_
  refine w_nab 106 200 rfl rfl (by omega) (by omega) (by omega) ?_
  refine w_pfb rfl ?_
  refine w_nab 107 5 rfl rfl (by omega) (by omega) (by omega) ?_
  refine w_pfb rfl ?_
  refine w_nab 108 5 rfl rfl (by omega) (by omega) (by omega) ?_
  refine w_pfb rfl ?_
  refine w_nab 109 6 rfl rfl (by omega) (by omega) (by omega) ?_
  refine w_pfb rfl ?_
  refine w_nab 110 6 rfl rfl (by omega) (by omega) (by omega) ?_
  refine w_pfb rfl ?_
  refine hk_stop2 (hk_call_m d) (hk_run2 (hk_call_m d) 60 ?_)
  refine w_nab 111 6 rfl rfl (by omega) (by omega) (by omega) ?_
  refine w_pfb rfl ?_
  refine w_nab 112 6 rfl rfl (by omega) (by omega) (by omega) ?_
  refine w_pfb rfl ?_
  refine w_nab 113 6 rfl rfl (by omega) (by omega) (by omega) ?_
  refine w_pfb rfl ?_
  refine w_nab 114 24 rfl rfl (by omega) (by omega) (by omega) ?_
  refine w_pfb rfl ?_
  refine w_nab 115 24 rfl rfl (by omega) (by omega) (by omega) ?_
  refine w_pfb rfl ?_
  refine w_nab 116 60 rfl rfl (by omega) (by omega) (by omega) ?_
  refine w_pfb rfl ?_
  refine hk_stop2 (hk_call_m d) (hk_run2 (hk_call_m d) 60 ?_)
  refine w_nab 117 60 rfl rfl (by omega) (by omega) (by omega) ?_
  refine w_pfb rfl ?_
  refine w_nab 118 4 rfl rfl (by omega) (by omega) (by omega) ?_
  refine w_isb (j := 0) (n := 4) rfl rfl (by omega) (by omega) ?_
  refine w_isb (j := 1) (n := 4) rfl rfl (by omega) (by omega) ?_
  refine w_isb (j := 2) (n := 4) rfl rfl (by omega) (by omega) ?_
  refine w_isb (j := 3) (n := 4) rfl rfl (by omega) (by omega) ?_
  refine w_pfb rfl ?_
  refine w_nab 119 4 rfl rfl (by omega) (by omega) (by omega) ?_
  refine w_pfb rfl ?_
  refine w_nab 120 160 rfl rfl (by omega) (by omega) (by omega) ?_
  refine w_pfb rfl ?_
  refine w_nab 121 4 rfl rfl (by omega) (by omega) (by omega) ?_
  refine w_isb (j := 0) (n := 4) rfl rfl (by omega) (by omega) ?_
  refine w_isb (j := 1) (n := 4) rfl rfl (by omega) (by omega) ?_
  refine w_isb (j := 2) (n := 4) rfl rfl (by omega) (by omega) ?_
  refine w_isb (j := 3) (n := 4) rfl rfl (by omega) (by omega) ?_
  refine w_pfb rfl ?_
  refine w_nab 122 4 rfl rfl (by omega) (by omega) (by omega) ?_
  refine w_pfb rfl ?_
  refine hk_stop2 (hk_call_m d) (hk_run2 (hk_call_m d) 60 ?_)
  refine w_nab 123 4 rfl rfl (by omega) (by omega) (by omega) ?_
  refine w_pfb rfl ?_
  refine w_nab 124 30 rfl rfl (by omega) (by omega) (by omega) ?_
  refine w_pfb rfl ?_
  refine w_nab 125 100 rfl rfl (by omega) (by omega) (by omega) ?_
  refine w_pfb rfl ?_
  refine w_nab 126 3 rfl rfl (by omega) (by omega) (by omega) ?_
  refine w_pfb rfl ?_
  refine ⟨h', hk_ev_tr ?_ hE, hQ⟩
  refine ⟨rfl, fun b => ?_⟩
  by_cases q : 98 ≤ b ∧ b ≤ 126
  · have : b = 98 ∨ b = 99 ∨ b = 100 ∨ b = 101 ∨ b = 102 ∨ b = 103 ∨ b = 104 ∨ b = 105 ∨ b = 106 ∨ b = 107 ∨ b = 108 ∨ b = 109 ∨ b = 110 ∨ b = 111 ∨ b = 112 ∨ b = 113 ∨ b = 114 ∨ b = 115 ∨ b = 116 ∨ b = 117 ∨ b = 118 ∨ b = 119 ∨ b = 120 ∨ b = 121 ∨ b = 122 ∨ b = 123 ∨ b = 124 ∨ b = 125 ∨ b = 126 := by omega
    rcases this with e | e | e | e | e | e | e | e | e | e | e | e | e | e | e | e | e | e | e | e | e | e | e | e | e | e | e | e | e
    · subst e; exact ⟨rfl, rfl, fun k hk => match k, hk with | 0, _ => rfl | 1, _ => rfl | 2, _ => rfl | 3, _ => rfl | 4, _ => rfl | 5, _ => rfl | 6, _ => rfl | 7, _ => rfl | 8, _ => rfl | 9, _ => rfl | 10, _ => rfl | 11, _ => rfl | 12, _ => rfl | 13, _ => rfl | 14, _ => rfl | 15, _ => rfl | 16, _ => rfl | 17, _ => rfl | 18, _ => rfl | 19, _ => rfl | 20, _ => rfl | 21, _ => rfl | 22, _ => rfl | 23, _ => rfl | 24, _ => rfl | 25, _ => rfl | 26, _ => rfl | 27, _ => rfl | 28, _ => rfl | 29, _ => rfl | 30, _ => rfl | 31, _ => rfl | 32, _ => rfl | 33, _ => rfl | 34, _ => rfl | 35, _ => rfl | 36, _ => rfl | 37, _ => rfl | 38, _ => rfl | 39, _ => rfl | 40, _ => rfl | 41, _ => rfl | 42, _ => rfl | 43, _ => rfl | 44, _ => rfl | 45, _ => rfl | 46, _ => rfl | 47, _ => rfl | 48, _ => rfl | 49, _ => rfl | 50, _ => rfl | k + 51, h => absurd h (by show ¬ k + 51 < 51; omega)⟩
    · subst e; exact ⟨rfl, rfl, fun _ _ => rfl⟩
    · subst e; exact ⟨rfl, rfl, fun _ _ => rfl⟩
    · subst e; exact ⟨rfl, rfl, fun _ _ => rfl⟩
    · subst e; exact ⟨rfl, rfl, fun _ _ => rfl⟩
    · subst e; exact ⟨rfl, rfl, fun _ _ => rfl⟩
    · subst e; exact ⟨rfl, rfl, fun _ _ => rfl⟩
    · subst e; exact ⟨rfl, rfl, fun _ _ => rfl⟩
    · subst e; exact ⟨rfl, rfl, fun _ _ => rfl⟩
    · subst e; exact ⟨rfl, rfl, fun _ _ => rfl⟩
    · subst e; exact ⟨rfl, rfl, fun _ _ => rfl⟩
    · subst e; exact ⟨rfl, rfl, fun _ _ => rfl⟩
    · subst e; exact ⟨rfl, rfl, fun _ _ => rfl⟩
    · subst e; exact ⟨rfl, rfl, fun _ _ => rfl⟩
    · subst e; exact ⟨rfl, rfl, fun _ _ => rfl⟩
    · subst e; exact ⟨rfl, rfl, fun _ _ => rfl⟩
    · subst e; exact ⟨rfl, rfl, fun _ _ => rfl⟩
    · subst e; exact ⟨rfl, rfl, fun _ _ => rfl⟩
    · subst e; exact ⟨rfl, rfl, fun _ _ => rfl⟩
    · subst e; exact ⟨rfl, rfl, fun _ _ => rfl⟩
    · subst e; exact ⟨rfl, rfl, fun k hk => match k, hk with | 0, _ => rfl | 1, _ => rfl | 2, _ => rfl | 3, _ => rfl | k + 4, h => absurd h (by show ¬ k + 4 < 4; omega)⟩
    · subst e; exact ⟨rfl, rfl, fun _ _ => rfl⟩
    · subst e; exact ⟨rfl, rfl, fun _ _ => rfl⟩
    · subst e; exact ⟨rfl, rfl, fun k hk => match k, hk with | 0, _ => rfl | 1, _ => rfl | 2, _ => rfl | 3, _ => rfl | k + 4, h => absurd h (by show ¬ k + 4 < 4; omega)⟩
    · subst e; exact ⟨rfl, rfl, fun _ _ => rfl⟩
    · subst e; exact ⟨rfl, rfl, fun _ _ => rfl⟩
    · subst e; exact ⟨rfl, rfl, fun _ _ => rfl⟩
    · subst e; exact ⟨rfl, rfl, fun _ _ => rfl⟩
    · subst e; exact ⟨rfl, rfl, fun _ _ => rfl⟩
  · refine hk_ev_c ?_
    refine Eq.trans ?_ (hz_f_n q).symm
    refine Eq.trans (hk_up_ne (show b ≠ 98 by omega)) ?_
    refine Eq.trans (hz_nn (show b ≠ 126 by omega)) ?_
    refine Eq.trans (hk_up_ne (show b ≠ 98 by omega)) ?_
    refine Eq.trans (hz_nn (show b ≠ 125 by omega)) ?_
    refine Eq.trans (hk_up_ne (show b ≠ 98 by omega)) ?_
    refine Eq.trans (hz_nn (show b ≠ 124 by omega)) ?_
    refine Eq.trans (hk_up_ne (show b ≠ 98 by omega)) ?_
    refine Eq.trans (hz_nn (show b ≠ 123 by omega)) ?_
    refine Eq.trans (hk_up_ne (show b ≠ 98 by omega)) ?_
    refine Eq.trans (hz_nn (show b ≠ 122 by omega)) ?_
    refine Eq.trans (hk_up_ne (show b ≠ 98 by omega)) ?_
    refine Eq.trans (hk_up_ne (show b ≠ 121 by omega)) ?_
    refine Eq.trans (hk_up_ne (show b ≠ 121 by omega)) ?_
    refine Eq.trans (hk_up_ne (show b ≠ 121 by omega)) ?_
    refine Eq.trans (hk_up_ne (show b ≠ 121 by omega)) ?_
    refine Eq.trans (hz_nn (show b ≠ 121 by omega)) ?_
    refine Eq.trans (hk_up_ne (show b ≠ 98 by omega)) ?_
    refine Eq.trans (hz_nn (show b ≠ 120 by omega)) ?_
    refine Eq.trans (hk_up_ne (show b ≠ 98 by omega)) ?_
    refine Eq.trans (hz_nn (show b ≠ 119 by omega)) ?_
    refine Eq.trans (hk_up_ne (show b ≠ 98 by omega)) ?_
    refine Eq.trans (hk_up_ne (show b ≠ 118 by omega)) ?_
    refine Eq.trans (hk_up_ne (show b ≠ 118 by omega)) ?_
    refine Eq.trans (hk_up_ne (show b ≠ 118 by omega)) ?_
    refine Eq.trans (hk_up_ne (show b ≠ 118 by omega)) ?_
    refine Eq.trans (hz_nn (show b ≠ 118 by omega)) ?_
    refine Eq.trans (hk_up_ne (show b ≠ 98 by omega)) ?_
    refine Eq.trans (hz_nn (show b ≠ 117 by omega)) ?_
    refine Eq.trans (hk_up_ne (show b ≠ 98 by omega)) ?_
    refine Eq.trans (hz_nn (show b ≠ 116 by omega)) ?_
    refine Eq.trans (hk_up_ne (show b ≠ 98 by omega)) ?_
    refine Eq.trans (hz_nn (show b ≠ 115 by omega)) ?_
    refine Eq.trans (hk_up_ne (show b ≠ 98 by omega)) ?_
    refine Eq.trans (hz_nn (show b ≠ 114 by omega)) ?_
    refine Eq.trans (hk_up_ne (show b ≠ 98 by omega)) ?_
    refine Eq.trans (hz_nn (show b ≠ 113 by omega)) ?_
    refine Eq.trans (hk_up_ne (show b ≠ 98 by omega)) ?_
    refine Eq.trans (hz_nn (show b ≠ 112 by omega)) ?_
    refine Eq.trans (hk_up_ne (show b ≠ 98 by omega)) ?_
    refine Eq.trans (hz_nn (show b ≠ 111 by omega)) ?_
    refine Eq.trans (hk_up_ne (show b ≠ 98 by omega)) ?_
    refine Eq.trans (hz_nn (show b ≠ 110 by omega)) ?_
    refine Eq.trans (hk_up_ne (show b ≠ 98 by omega)) ?_
    refine Eq.trans (hz_nn (show b ≠ 109 by omega)) ?_
    refine Eq.trans (hk_up_ne (show b ≠ 98 by omega)) ?_
    refine Eq.trans (hz_nn (show b ≠ 108 by omega)) ?_
    refine Eq.trans (hk_up_ne (show b ≠ 98 by omega)) ?_
    refine Eq.trans (hz_nn (show b ≠ 107 by omega)) ?_
    refine Eq.trans (hk_up_ne (show b ≠ 98 by omega)) ?_
    refine Eq.trans (hz_nn (show b ≠ 106 by omega)) ?_
    refine Eq.trans (hk_up_ne (show b ≠ 98 by omega)) ?_
    refine Eq.trans (hk_up_ne (show b ≠ 98 by omega)) ?_
    refine Eq.trans (hz_nn (show b ≠ 105 by omega)) ?_
    refine Eq.trans (hk_up_ne (show b ≠ 98 by omega)) ?_
    refine Eq.trans (hz_nn (show b ≠ 104 by omega)) ?_
    refine Eq.trans (hk_up_ne (show b ≠ 98 by omega)) ?_
    refine Eq.trans (hz_nn (show b ≠ 103 by omega)) ?_
    refine Eq.trans (hk_up_ne (show b ≠ 98 by omega)) ?_
    refine Eq.trans (hz_nn (show b ≠ 102 by omega)) ?_
    refine Eq.trans (hk_up_ne (show b ≠ 98 by omega)) ?_
    refine Eq.trans (hz_nn (show b ≠ 101 by omega)) ?_
    refine Eq.trans (hk_up_ne (show b ≠ 98 by omega)) ?_
    refine Eq.trans (hz_nn (show b ≠ 100 by omega)) ?_
    refine Eq.trans (hk_up_ne (show b ≠ 98 by omega)) ?_
    refine Eq.trans (hz_nn (show b ≠ 99 by omega)) ?_
    exact rfl
