theorem t_in (d : Nat) (R : Nat → Nat → Int32) (X : hk_D) (Q : hk_Q) (v a b : Int32) (hQ : Q (some (.int (if a ≤ v ∧ v ≤ b then 1 else 0))) (hw R X)) : hk_call (d + 1) 133 [.int v, .int a, .int b] (hw R X) Q := by
  refine hk_run (hk_call_m d) 100 ?_
  refine And.intro (fun h => ?_) (fun h => ?_)
  · sorry
  · sorry
theorem t_its (d : Nat) (R : Nat → Nat → Int32) (X : hk_D) (Q : hk_Q) (v : Int32) (h1 : vp_in (R 98 9 + v) 36) (hQ : Q (some (.int (R 105 (R 98 9 + v).toNatClampNeg))) (hw R X)) : hk_call (d + 1) 160 [.ref 98, .int v] (hw R X) Q := by
  refine hk_run (hk_call_m d) 100 ?_
  refine And.intro h1 ?_
  exact hk_qe_of hQ
