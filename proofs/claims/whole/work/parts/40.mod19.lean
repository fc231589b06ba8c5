/-! THE REFERENCE: how many -/
def hf_gc (P : hP) : Nat → Nat
  | 0 => 0
  | n + 1 => hf_gc P n + (if P 10 n = 30 then 1 else 0)
def hf_mny (P : hP) (r t b : Int32) : Nat → Int32
  | 0 => nI (P 2 0)
  | 1 => nI (P 3 0)
  | 2 => nI (P 4 0)
  | 3 => r
  | 4 => t
  | 5 => b
  | _ => nI (hf_gc P (P 3 0))
def a_many (P : hP) (r t b v : Int32) : Int32 := match hxi 7 v with
  | none => -1
  | some s => hf_mny P r t b s
set_option maxHeartbeats 400000 in
theorem sp_mmany {d : Nat} (hd : 2 < d) {R : Nat → Nat → Int32} {X : hk_D} {Q : hk_Q} {v : Int32} {P : hP} (M : hf_M 0 P R) (hQ : Q (some (.int (a_many P (R 98 33) (R 98 12) (R 98 45) v))) (hw R X)) : hk_call d mM_many [.ref 98, .int v] (hw R X) Q := by
  obtain ⟨d, rfl⟩ : ∃ e, d = e + 1 := ⟨d - 1, by omega⟩
  have h6 := M.2.2.2.2.2.1
  have eh := M.1.2.1
  unfold a_many at hQ
  have key : ∀ s : Nat, s < 7 → v.toInt = s → Q (some (.int (hf_mny P (R 98 33) (R 98 12) (R 98 45) s))) (hw R X) := by
    intro s hs e
    have ev : v = nI s := Int32.toInt_inj.mp (by rw [e, hn_i (by omega)])
    rw [ev, hxi_s hs (by omega)] at hQ
    exact hQ
  have keyn : (∀ s : Nat, s < 7 → ¬ v.toInt = s) → Q (some (.int (-1))) (hw R X) := by
    intro no
    rw [hxi_n (by omega) (fun j hj e => no j hj (by rw [e, hn_i (by omega)]))] at hQ
    exact hQ
  have L : Q (some (.int (nI (hf_gc P (P 3 0))))) (hw R X) → ∀ j, j ≤ P 3 0 → hk_wp (some .int) 0 0 hk_dft cM_many (hk_call d) (hk_qe Q) 26 [(3, .int (nI j)), (2, .int (nI (hf_gc P j))), (0, .ref 98), (1, .int v)] [] (hw R X) 0 0 := by
    intro hQ
    refine hk_for ?_ ?_
    · refine hk_run2 (hk_call_m d) 100 ?_
      refine And.intro (fun c => hk_qe_of hQ) (fun c => absurd (by rw [eh]; exact nI_le (Nat.le_refl _) (by omega)) c)
    · intro j hj ih
      refine hk_run2 (hk_call_m d) 100 ?_
      refine And.intro (fun c => absurd c (by rw [eh]; exact nI_ge hj (by omega))) (fun c => ?_)
      unfold hf_gc at ih
      refine sp_isGone (by omega) M hj rfl (fun hg => ?_) (fun hg => ?_)
      · refine And.intro (fun c => absurd c (by decide)) (fun _ => ?_)
        rw [if_pos hg] at ih
        refine Exists.intro [0, 1, 2, 3] ?_
        rw [nI_1, nI_1]
        exact hk_stop2 (hk_call_m d) ih
      · refine And.intro (fun _ => ?_) (fun c => absurd rfl c)
        rw [if_neg hg] at ih
        refine Exists.intro [0, 1, 2, 3] ?_
        rw [nI_1, show nI (hf_gc P j) + 0 = nI (hf_gc P j + 0) from hn_add _ 0]
        exact hk_stop2 (hk_call_m d) ih
  refine hk_run2 (hk_call_m d) 100 ?_
  refine And.intro (fun c => ?_) (And.intro (fun c => ?_) (And.intro (fun c => ?_) (And.intro (fun c => ?_) (And.intro (fun c => ?_) (And.intro (fun c => ?_) (And.intro (fun c => ?_) (And.intro (fun c => ?_) trivial)))))))
  · exact hk_qe_of (keyn (fun s hs e => by simp at c; omega))
  · have z := key 0 (by omega) (by omega)
    refine hk_qe_of ?_
    rw [M.1.1]; exact z
  · have z := key 1 (by omega) (by omega)
    refine hk_qe_of ?_
    rw [eh]; exact z
  · have z := key 2 (by omega) (by omega)
    refine w_ld (j := 0) (n := 36) rfl rfl (by omega) (by omega) rfl M.2.1.1 ?_
    exact hk_qe_of z
  · exact hk_qe_of (key 3 (by omega) (by omega))
  · exact hk_qe_of (key 4 (by omega) (by omega))
  · exact hk_qe_of (key 5 (by omega) (by omega))
  · have z := key 6 (by omega) (by omega)
    refine hk_stop2 (hk_call_m d) (hk_run2 (hk_call_m d) 2 ?_)
    exact L z 0 (Nat.zero_le _)
