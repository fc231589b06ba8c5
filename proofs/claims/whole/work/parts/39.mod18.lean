/-! THE REFERENCE: judge -/
def hf_jd (T U : Nat → Int32) (m : Nat) : Nat → Nat → Int32
  | 0, _ => 0
  | r + 1, i => if i < m ∧ (∀ t, t < 3 → T (3 * i + t) = U (3 * i + t)) then hf_jd T U m r (i + 1) else nI (i + 1)
set_option maxHeartbeats 400000 in
theorem sp_mjudge {d : Nat} (hd : 8 < d) {R0 : Nat → Nat → Int32} {X : hk_D} {Q : hk_Q} {P : hP} {n : Nat} {T : Nat → Int32} (M : hf_M 0 P R0) (H : hf_T n T R0) (hQ : ∀ R', hf_T n T R' → hfm R0 R' → Q (some (.int (hf_jd T (hf_pT P) (hf_rn n P) n 0))) (hw R' X)) : hk_call d mM_judge [.ref 98] (hw R0 X) Q := by
  obtain ⟨d, rfl⟩ : ∃ e, d = e + 1 := ⟨d - 1, by omega⟩
  have hn := H.1
  have hle := hf_rn_le n P
  refine hk_run2 (hk_call_m d) 100 ?_
  refine sp_mfindRows (by omega) M H.2.1 hn (fun R1 mu f1 => ?_)
  have H1 : hf_T n T R1 := ⟨hn, (f1 _ _ (by omega) (by omega) (by omega)).trans H.2.1, fun i hi => (f1 _ _ (by omega) (by omega) (by omega)).trans (H.2.2 i hi)⟩
  have hQ := hQ R1 H1 f1
  have mT := hf_must_T mu
  have e34 := mu.1
  have e33 := H1.2.1
  generalize hf_rn n P = m at *
  have L : ∀ i, i ≤ n → Q (some (.int (hf_jd T (hf_pT P) m (n - i) i))) (hw R1 X) → hk_wp (some .int) 0 0 hk_dft cM_judge (hk_call d) (hk_qe Q) 6 [(1, .int (nI i)), (0, .ref 98)] [] (hw R1 X) 0 0 := by
    refine hk_for ?_ ?_
    · intro hQ
      rw [Nat.sub_self] at hQ
      refine hk_run2 (hk_call_m d) 100 ?_
      refine And.intro (fun c => hk_qe_of hQ) (fun c => absurd (by rw [e33]; exact nI_le (Nat.le_refl _) (by omega)) c)
    · intro i hi ih hQ
      rw [show n - i = (n - (i + 1)) + 1 from by omega, hf_jd] at hQ
      -- found
      have E : ∀ t, t ≤ 3 → ¬ (i < m ∧ (∀ t, t < 3 → T (3 * i + t) = hf_pT P (3 * i + t))) → hk_wp (some .int) 0 0 hk_dft cM_judge (hk_call d) (hk_qe Q) 20 [(3, .int (nI t)), (2, .int 0), (1, .int (nI i)), (0, .ref 98)] [] (hw R1 X) 0 0 := by
        intro t ht no
        rw [if_neg no] at hQ
        refine hk_run2 (hk_call_m d) 100 ?_
        refine And.intro (fun c => ?_) (fun c => And.intro (fun _ => ?_) (fun c => absurd rfl c))
        · refine And.intro (fun _ => ?_) (fun c => absurd rfl c)
          refine hk_qe_of ?_
          rw [nI_1]; exact hQ
        · refine And.intro (fun _ => ?_) (fun c => absurd rfl c)
          refine hk_qe_of ?_
          rw [nI_1]; exact hQ
      have I : i < m → ∀ t, t ≤ 3 → (∀ s, s < t → T (3 * i + s) = hf_pT P (3 * i + s)) → hk_wp (some .int) 0 0 hk_dft cM_judge (hk_call d) (hk_qe Q) 20 [(3, .int (nI t)), (2, .int 1), (1, .int (nI i)), (0, .ref 98)] [] (hw R1 X) 0 0 := by
        intro him
        refine hk_for ?_ ?_
        · intro al
          rw [if_pos ⟨him, al⟩] at hQ
          refine hk_run2 (hk_call_m d) 100 ?_
          refine And.intro (fun c => ?_) (fun c => absurd (by decide) c)
          refine And.intro (fun c => absurd c (by decide)) (fun _ => ?_)
          refine Exists.intro [0, 3] ?_
          rw [nI_1]
          exact hk_stop2 (hk_call_m d) (ih hQ)
        · intro t ht ih2 al
          refine hk_run2 (hk_call_m d) 100 ?_
          refine And.intro (fun c => absurd c (show ¬ nI 3 ≤ nI t from nI_ge ht (by omega))) (fun _ => ?_)
          refine And.intro (fun c => absurd c (by decide)) (fun _ => ?_)
          refine w_ld (j := 3 * i + t) (n := 60) (hn_3 i t) rfl (by omega) (by omega) rfl (H1.2.2 _ (by omega)) ?_
          refine w_ld (j := 3 * i + t) (n := 60) (hn_3 i t) rfl (by omega) (by omega) rfl (mT _ (by omega)) ?_
          refine And.intro (fun c => ?_) (fun c => ?_)
          · refine Exists.intro [0, 1, 2, 3] ?_
            rw [nI_1]
            refine hk_stop2 (hk_call_m d) (ih2 (fun s hs => ?_))
            by_cases z : s = t
            · rw [z]; exact c
            · exact al s (by omega)
          · refine Exists.intro [0, 1, 2, 3] ?_
            rw [nI_1]
            exact hk_stop2 (hk_call_m d) (E (t + 1) (by omega) (fun z => c (z.2 t ht)))
      refine hk_run2 (hk_call_m d) 100 ?_
      refine And.intro (fun c => absurd c (by rw [e33]; exact nI_ge hi (by omega))) (fun _ => ?_)
      refine And.intro (fun c => ?_) (fun c => ?_)
      · have hmi : m ≤ i := (nI_leI (by omega) (by omega)).mp (by rw [← e34]; exact c)
        refine hk_stop2 (hk_call_m d) (hk_run2 (hk_call_m d) 4 ?_)
        exact E 0 (by omega) (fun z => by omega)
      · have hmi : i < m := by
          rcases Nat.lt_or_ge i m with z | z
          · exact z
          · exact absurd (by rw [e34]; exact nI_le z (by omega)) c
        refine hk_stop2 (hk_call_m d) (hk_run2 (hk_call_m d) 5 ?_)
        exact I hmi 0 (by omega) (fun s hs => absurd hs (Nat.not_lt_zero s))
  refine w_rn (hk_stop2 (hk_call_m d) (hk_run2 (hk_call_m d) 2 ?_))
  exact L 0 (Nat.zero_le _) hQ
