/-! THE REFERENCE: seed, small tests -/
theorem sp_mseed {d : Nat} (hd : 0 < d) {R : Nat → Nat → Int32} {X : hk_D} {Q : hk_Q} {v : Int32} (hQ : Q (some (.int (R 98 10))) (hw (up2 R 98 10 v) X)) : hk_call d mM_seed [.ref 98, .int v] (hw R X) Q := by
  obtain ⟨d, rfl⟩ : ∃ e, d = e + 1 := ⟨d - 1, by omega⟩
  refine hk_run2 (hk_call_m d) 100 ?_
  refine w_put trivial rfl rfl ?_
  exact hk_qe_of hQ
theorem sp_misShelf {d : Nat} (hd : 1 < d) {h : hk_Hp} {Q : hk_Q} {v : Int32} (h1 : ∀ j, j < 4 → v = nI j → Q (some (.int 1)) h) (h0 : (∀ j, j < 4 → v ≠ nI j) → Q (some (.int 0)) h) : hk_call d mM_isShelf [.int v] h Q := by
  obtain ⟨d, rfl⟩ : ∃ e, d = e + 1 := ⟨d - 1, by omega⟩
  refine hk_run2 (hk_call_m d) 100 ?_
  refine sp_in (by omega) (n := 4) (by omega) (by decide) (fun j hj q => ?_) (fun q => ?_)
  · exact And.intro (by decide) (hk_qe_of (h1 j hj q))
  · exact And.intro (by decide) (hk_qe_of (h0 q))
