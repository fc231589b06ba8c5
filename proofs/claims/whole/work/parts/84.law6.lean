/-! THE LAW: its loop -/
set_option maxHeartbeats 1000000 in
set_option maxRecDepth 16384 in
theorem lw_1117 {R : Nat → Nat → Int32} {X : hk_D} {p kk nn : Nat} (K : hk_wp (some .boolean) 217 4215 hk_dft hcdLAW (hk_call 60) (fun r _ => r = some (.int 1)) 10 [(3, .int (nI (p + 5))), (2, .ref 98), (1, .ref 38), (0, .ref 0)] [] (hw R X) kk nn) : hk_wp (some .boolean) 217 4215 hk_dft hcdLAW (hk_call 60) (fun r _ => r = some (.int 1)) 1117 [(3, .int (nI p)), (2, .ref 98), (1, .ref 38), (0, .ref 0)] [] (hw R X) kk nn := by
  rw [← hn_add p 5] at K
  refine hk_run2 (hk_call_m 60) 2 ?_
  refine Exists.intro [0, 1, 2, 3] ?_
  exact hk_stop2 (hk_call_m 60) K
set_option maxHeartbeats 4000000 in
set_option maxRecDepth 16384 in
theorem lw_loop {S : Nat × (Nat → Int32)} (hS : S.1 ≤ 320) : ∀ (d : Nat) {R : Nat → Nat → Int32} {X : hk_D} {p kk nn : Nat}, INV R X → X.2.2.2.2.2.2 = S → p ≤ 320 → S.1 < p + 5 * d + 5 → kk + 2 * d ≤ 217 → nn + 42 * d ≤ 4215 → hk_wp (some .boolean) 217 4215 hk_dft hcdLAW (hk_call 60) (fun r _ => r = some (.int 1)) 10 [(3, .int (nI p)), (2, .ref 98), (1, .ref 38), (0, .ref 0)] [] (hw R X) kk nn := by
  intro d
  induction d with
  | zero =>
    intro R X p kk nn inv hX hp hd hk hn
    refine hk_run2 (hk_call_m 60) 100 ?_
    refine And.intro (fun c => ?_) (fun c => absurd ?_ c)
    · exact And.intro (by decide) rfl
    · subst hX
      show nI X.2.2.2.2.2.2.1 - nI 5 < nI p
      rw [hn_lt, pk_sub_toInt (by omega) (by omega), nI_toInt (by omega)]
      omega
  | succ d ih =>
    intro R X p kk nn inv hX hp hd hk hn
    refine hk_run2 (hk_call_m 60) 12 ?_
    refine And.intro (fun c => ?_) (fun c => ?_)
    · exact And.intro (by decide) rfl
    · have hq : p + 5 ≤ S.1 := by
        subst hX
        have c : ¬ nI X.2.2.2.2.2.2.1 - nI 5 < nI p := c
        rw [hn_lt, pk_sub_toInt (by omega) (by omega), nI_toInt (by omega)] at c
        omega
      refine w_ldx (p := p) rfl hX (by omega) hS ?_
      have K : ∀ R' X', INV R' X' → X'.2.2.2.2.2.2 = S → hk_wp (some .boolean) 217 4215 hk_dft hcdLAW (hk_call 60) (fun r _ => r = some (.int 1)) 1117 [(3, .int (nI p)), (2, .ref 98), (1, .ref 38), (0, .ref 0)] [] (hw R' X') kk nn := fun R' X' i' x' => lw_1117 (ih i' x' (by omega) (by omega) (by omega) (by omega))
      have K2 : ∀ R' X', INV R' X' → X'.2.2.2.2.2.2 = S → hk_wp (some .boolean) 217 4215 hk_dft hcdLAW (hk_call 60) (fun r _ => r = some (.int 1)) 1117 [(3, .int (nI p)), (2, .ref 98), (1, .ref 38), (0, .ref 0)] [] (hw R' X') (kk + 2) (nn + 42) := fun R' X' i' x' => lw_1117 (ih i' x' (by omega) (by omega) (by omega) (by omega))
      generalize S.2 p &&& 63 = v
      refine And.intro (fun _ => hk_stop2 (hk_call_m 60) (K R X inv hX)) ?_
      refine And.intro (fun _ => hk_stop2 (hk_call_m 60) (lc_0 inv hX hS hq K)) ?_
      refine And.intro (fun _ => hk_stop2 (hk_call_m 60) (lc_1 inv hX hS hq K)) ?_
      refine And.intro (fun _ => hk_stop2 (hk_call_m 60) (lc_2 inv hX hS hq K)) ?_
      refine And.intro (fun _ => hk_stop2 (hk_call_m 60) (lc_3 inv hX hS hq K)) ?_
      refine And.intro (fun _ => hk_stop2 (hk_call_m 60) (lc_4 inv hX hS hq K)) ?_
      refine And.intro (fun _ => hk_stop2 (hk_call_m 60) (lc_5 inv hX hS hq K)) ?_
      refine And.intro (fun _ => hk_stop2 (hk_call_m 60) (lc_6 inv hX hS hq K)) ?_
      refine And.intro (fun _ => hk_stop2 (hk_call_m 60) (lc_7 inv hX hS hq K)) ?_
      refine And.intro (fun _ => hk_stop2 (hk_call_m 60) (lc_8 inv hX hS hq K)) ?_
      refine And.intro (fun _ => hk_stop2 (hk_call_m 60) (lc_9 inv hX hS hq K)) ?_
      refine And.intro (fun _ => hk_stop2 (hk_call_m 60) (lc_10 inv hX hS hq K)) ?_
      refine And.intro (fun _ => hk_stop2 (hk_call_m 60) (lc_11 inv hX hS hq K)) ?_
      refine And.intro (fun _ => hk_stop2 (hk_call_m 60) (lc_12 inv hX hS hq K)) ?_
      refine And.intro (fun _ => hk_stop2 (hk_call_m 60) (lc_13 inv hX hS hq K)) ?_
      refine And.intro (fun _ => hk_stop2 (hk_call_m 60) (lc_14 inv hX hS hq K)) ?_
      refine And.intro (fun _ => hk_stop2 (hk_call_m 60) (lc_15 inv hX hS hq K)) ?_
      refine And.intro (fun _ => hk_stop2 (hk_call_m 60) (lc_16 inv hX hS hq K)) ?_
      refine And.intro (fun _ => hk_stop2 (hk_call_m 60) (lc_17 inv hX hS hq K)) ?_
      refine And.intro (fun _ => hk_stop2 (hk_call_m 60) (lc_18 inv hX hS hq K)) ?_
      refine And.intro (fun _ => hk_stop2 (hk_call_m 60) (lc_19 inv hX hS hq K)) ?_
      refine And.intro (fun _ => hk_stop2 (hk_call_m 60) (lc_20 inv hX hS hq K)) ?_
      refine And.intro (fun _ => hk_stop2 (hk_call_m 60) (lc_21 inv hX hS hq K)) ?_
      refine And.intro (fun _ => hk_stop2 (hk_call_m 60) (lc_22 inv hX hS hq K)) ?_
      refine And.intro (fun _ => hk_stop2 (hk_call_m 60) (lc_23 inv hX hS hq K)) ?_
      refine And.intro (fun _ => hk_stop2 (hk_call_m 60) (lc_24 inv hX hS hq K)) ?_
      refine And.intro (fun _ => hk_stop2 (hk_call_m 60) (lc_25 inv hX hS hq K)) ?_
      refine And.intro (fun _ => hk_stop2 (hk_call_m 60) (lc_26 inv hX hS hq K)) ?_
      refine And.intro (fun _ => hk_stop2 (hk_call_m 60) (lc_27 inv hX hS hq K)) ?_
      refine And.intro (fun _ => hk_stop2 (hk_call_m 60) (lc_28 inv hX hS hq K)) ?_
      refine And.intro (fun _ => hk_stop2 (hk_call_m 60) (lc_29 inv hX hS hq K)) ?_
      refine And.intro (fun _ => hk_stop2 (hk_call_m 60) (lc_30 inv hX hS hq K)) ?_
      refine And.intro (fun _ => hk_stop2 (hk_call_m 60) (lc_31 inv hX hS hq K)) ?_
      refine And.intro (fun _ => hk_stop2 (hk_call_m 60) (lc_32 inv hX hS hq K)) ?_
      refine And.intro (fun _ => hk_stop2 (hk_call_m 60) (lc_33 inv hX hS hq (by omega) (by omega) K2)) ?_
      refine And.intro (fun _ => hk_stop2 (hk_call_m 60) (lc_34 inv hX hS hq K)) ?_
      refine And.intro (fun _ => hk_stop2 (hk_call_m 60) (lc_35 inv hX hS hq K)) ?_
      refine And.intro (fun _ => hk_stop2 (hk_call_m 60) (lc_36 inv hX hS hq K)) ?_
      refine And.intro (fun _ => hk_stop2 (hk_call_m 60) (lc_37 inv hX hS hq K)) ?_
      refine And.intro (fun _ => hk_stop2 (hk_call_m 60) (lc_38 inv hX hS hq K)) ?_
      refine And.intro (fun _ => hk_stop2 (hk_call_m 60) (lc_39 inv hX hS hq K)) ?_
      refine And.intro (fun _ => hk_stop2 (hk_call_m 60) (lc_40 inv hX hS hq K)) ?_
      refine And.intro (fun _ => hk_stop2 (hk_call_m 60) (lc_41 inv hX hS hq K)) ?_
      refine And.intro (fun _ => hk_stop2 (hk_call_m 60) (lc_42 inv hX hS hq K)) ?_
      exact True.intro
