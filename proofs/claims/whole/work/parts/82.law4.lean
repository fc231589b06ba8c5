/-! THE LAW: its cases, 3 -/
set_option maxHeartbeats 1000000 in
set_option maxRecDepth 16384 in
theorem lc_26 {R : Nat → Nat → Int32} {X : hk_D} {S : Nat × (Nat → Int32)} {p kk nn : Nat} (inv : INV R X) (hX : X.2.2.2.2.2.2 = S) (hS : S.1 ≤ 320) (hp : p + 5 ≤ S.1) (K : ∀ R' X', INV R' X' → X'.2.2.2.2.2.2 = S → hk_wp (some .boolean) 217 4215 hk_dft hcdLAW (hk_call 60) (fun r _ => r = some (.int 1)) 1117 [(3, .int (nI p)), (2, .ref 98), (1, .ref 38), (0, .ref 0)] [] (hw R' X') kk nn) : hk_wp (some .boolean) 217 4215 hk_dft hcdLAW (hk_call 60) (fun r _ => r = some (.int 1)) 688 [(3, .int (nI p)), (2, .ref 98), (1, .ref 38), (0, .ref 0)] [] (hw R X) kk nn := by
  obtain ⟨P, z, n, T, L, B, G, H, l, kp, C, M⟩ := inv
  obtain ⟨c1, c2, c3, c4, c5, c6, c7, c8, c9⟩ := id C
  obtain ⟨m1, m2, m3, m4, m5, m6, m7, m8⟩ := id M
  refine hk_run2 (hk_call_m 60) 100 ?_
  refine w_ldx (hn_add p 1) hX (by omega) hS ?_
  refine sp_cseed (by decide) ?_
  rw [c3]
  have f1 : ∀ a k, ¬ (a = 38 ∧ k = 4) → up2 R 38 4 (S.2 (p + 1)) a k = R a k := fun a k q => up2_n q
  have C1 : CI P (S.2 (p + 1)) n T L B G H l kp (up2 R 38 4 (S.2 (p + 1))) X := ⟨hf_K_fr c1 (fun a k q => f1 a k (by omega)), c2, up2_s _ _ _ _, TC_f c4 (fun a k q => f1 a k (by omega)), tc_f c5 (fun a k q => f1 a k (by omega)), stC_f c6 (fun a k q => f1 a k (by omega)) rfl, shC_f c7 (fun a k q => f1 a k (by omega)) rfl, hf_tr_f c8 (f1 _ _ (by omega)) (fun i => f1 _ _ (by omega)), CK_f c9 (fun a k q => f1 a k (by omega))⟩
  have M1 := MI_fr (R' := up2 R 38 4 (S.2 (p + 1))) (X' := X) M (fun a k q => f1 a k (by omega)) rfl
  obtain ⟨n1, n2, n3, n4, n5, n6, n7, n8⟩ := id M1
  refine w_ldx (hn_add p 1) hX (by omega) hS ?_
  refine sp_mseed (by decide) ?_
  rw [n2]
  have f2 : ∀ a k, ¬ (a = 98 ∧ k = 10) → up2 (up2 R 38 4 (S.2 (p + 1))) 98 10 (S.2 (p + 1)) a k = up2 R 38 4 (S.2 (p + 1)) a k := fun a k q => up2_n q
  have M2 : MI P (S.2 (p + 1)) n T L B G H l kp (up2 (up2 R 38 4 (S.2 (p + 1))) 98 10 (S.2 (p + 1))) X := ⟨hf_M_eq n1 (fun a k q => f2 a k (by omega)), up2_s _ _ _ _, TM_f n3 (fun a k q => f2 a k (by omega)), tp_f n4 (fun a k q => f2 a k (by omega)), hf_stM_f n5 (fun a k q => f2 a k (by omega)) (fun _ => rfl), hf_shM_f n6 (fun a k q => f2 a k (by omega)), hf_tr_f n7 (f2 _ _ (by omega)) (fun i => f2 _ _ (by omega)), MK_f n8 (fun a k q => f2 a k (by omega))⟩
  refine And.intro (fun _ => ?_) (fun c => absurd rfl c)
  exact hk_stop2 (hk_call_m 60) (K _ X ⟨_, _, _, _, _, _, _, _, _, _, CI_fr C1 (fun a k q => f2 a k (by omega)) rfl, M2⟩ hX)
set_option maxHeartbeats 1000000 in
set_option maxRecDepth 16384 in
theorem lc_27 {R : Nat → Nat → Int32} {X : hk_D} {S : Nat × (Nat → Int32)} {p kk nn : Nat} (inv : INV R X) (hX : X.2.2.2.2.2.2 = S) (hS : S.1 ≤ 320) (hp : p + 5 ≤ S.1) (K : ∀ R' X', INV R' X' → X'.2.2.2.2.2.2 = S → hk_wp (some .boolean) 217 4215 hk_dft hcdLAW (hk_call 60) (fun r _ => r = some (.int 1)) 1117 [(3, .int (nI p)), (2, .ref 98), (1, .ref 38), (0, .ref 0)] [] (hw R' X') kk nn) : hk_wp (some .boolean) 217 4215 hk_dft hcdLAW (hk_call 60) (fun r _ => r = some (.int 1)) 705 [(3, .int (nI p)), (2, .ref 98), (1, .ref 38), (0, .ref 0)] [] (hw R X) kk nn := by
  obtain ⟨P, z, n, T, L, B, G, H, l, kp, C, M⟩ := inv
  obtain ⟨c1, c2, c3, c4, c5, c6, c7, c8, c9⟩ := id C
  obtain ⟨m1, m2, m3, m4, m5, m6, m7, m8⟩ := id M
  refine hk_run2 (hk_call_m 60) 100 ?_
  refine w_ldx (hn_add p 1) hX (by omega) hS ?_
  refine sp_cdraw (by decide) c1 (fun R1 K1 z1 f1 => ?_)
  rw [c3] at K1 z1 ⊢
  have C1 : CI _ _ n T L B G H l kp R1 X := ⟨K1, now_draw c2, z1, TC_f c4 (fun a k q => f1 a k (by omega) (by omega)), tc_f c5 (fun a k q => f1 a k (by omega) (by omega)), stC_f c6 (fun a k q => f1 a k (by omega) (by omega)) rfl, shC_f c7 (fun a k q => f1 a k (by omega) (by omega)) rfl, hf_tr_f c8 (f1 _ _ (by omega) (by omega)) (fun i => f1 _ _ (by omega) (by omega)), CK_f c9 (fun a k q => f1 a k (by omega) (by omega))⟩
  have M1 := MI_fr (X' := X) M (fun a k q => f1 a k (by omega) (by omega)) rfl
  obtain ⟨n1, n2, n3, n4, n5, n6, n7, n8⟩ := id M1
  refine w_ldx (hn_add p 1) hX (by omega) hS ?_
  refine sp_mdraw (by decide) n1 (fun R2 M2 z2 f2 => ?_)
  rw [n2] at M2 z2 ⊢
  have M3 : MI _ _ n T L B G H l kp R2 X := ⟨M2, z2, TM_f n3 (fun a k q => f2 a k (by omega) (by omega)), tp_f n4 (fun a k q => f2 a k (by omega) (by omega)), hf_stM_f n5 (fun a k q => f2 a k (by omega) (by omega)) (fun _ => rfl), hf_shM_f n6 (fun a k q => f2 a k (by omega) (by omega)), hf_tr_f n7 (f2 _ _ (by omega) (by omega)) (fun i => f2 _ _ (by omega) (by omega)), MK_f n8 (fun a k q => f2 a k (by omega) (by omega))⟩
  refine And.intro (fun _ => ?_) (fun c => absurd rfl c)
  exact hk_stop2 (hk_call_m 60) (K R2 X ⟨_, _, _, _, _, _, _, _, _, _, CI_fr C1 (fun a k q => f2 a k (by omega) (by omega)) rfl, M3⟩ hX)
set_option maxHeartbeats 1000000 in
set_option maxRecDepth 16384 in
theorem lc_28 {R : Nat → Nat → Int32} {X : hk_D} {S : Nat × (Nat → Int32)} {p kk nn : Nat} (inv : INV R X) (hX : X.2.2.2.2.2.2 = S) (hS : S.1 ≤ 320) (hp : p + 5 ≤ S.1) (K : ∀ R' X', INV R' X' → X'.2.2.2.2.2.2 = S → hk_wp (some .boolean) 217 4215 hk_dft hcdLAW (hk_call 60) (fun r _ => r = some (.int 1)) 1117 [(3, .int (nI p)), (2, .ref 98), (1, .ref 38), (0, .ref 0)] [] (hw R' X') kk nn) : hk_wp (some .boolean) 217 4215 hk_dft hcdLAW (hk_call 60) (fun r _ => r = some (.int 1)) 722 [(3, .int (nI p)), (2, .ref 98), (1, .ref 38), (0, .ref 0)] [] (hw R X) kk nn := by
  obtain ⟨P, z, n, T, L, B, G, H, l, kp, C, M⟩ := inv
  obtain ⟨c1, c2, c3, c4, c5, c6, c7, c8, c9⟩ := id C
  obtain ⟨m1, m2, m3, m4, m5, m6, m7, m8⟩ := id M
  refine hk_run2 (hk_call_m 60) 100 ?_
  refine w_ldx (hn_add p 1) hX (by omega) hS ?_
  refine sp_cprove (by decide) c1 (fun j j1 j2 ej R1 T1 f1 => ?_) (fun nn1 => ?_)
  · have C1 : CI P z _ _ L B G H l kp R1 X := ⟨hf_K_fr c1 (fun a k q => f1 a k (by omega) (by omega) (by omega)), c2, (f1 _ _ (by omega) (by omega) (by omega)).trans c3, T1, tc_f c5 (fun a k q => f1 a k (by omega) (by omega) (by omega)), stC_f c6 (fun a k q => f1 a k (by omega) (by omega) (by omega)) rfl, shC_f c7 (fun a k q => f1 a k (by omega) (by omega) (by omega)) rfl, hf_tr_f c8 (f1 _ _ (by omega) (by omega) (by omega)) (fun i => f1 _ _ (by omega) (by omega) (by omega)), CK_f c9 (fun a k q => f1 a k (by omega) (by omega) (by omega))⟩
    have M1 := MI_fr (X' := X) M (fun a k q => f1 a k (by omega) (by omega) (by omega)) rfl
    obtain ⟨n1, n2, n3, n4, n5, n6, n7, n8⟩ := id M1
    refine w_ldx (hn_add p 1) hX (by omega) hS ?_
    refine sp_mprove (by decide) n1 (fun i i1 i2 ei R2 T2 f2 => ?_) (fun nn2 => absurd ej (nn2 j j1 j2))
    have e : i = j := (nI_eq (by omega) (by omega)).mp (ei.symm.trans ej)
    subst e
    have M3 : MI P z _ _ L B G H l kp R2 X := ⟨hf_M_j n1 f2, (f2 _ _ (by omega) (by omega) (by omega) (by omega)).trans n2, T2, tp_f n4 (fun a k q => f2 a k (by omega) (by omega) (by omega) (by omega)), hf_stM_f n5 (fun a k q => f2 a k (by omega) (by omega) (by omega) (by omega)) (fun _ => rfl), hf_shM_f n6 (fun a k q => f2 a k (by omega) (by omega) (by omega) (by omega)), hf_tr_f n7 (f2 _ _ (by omega) (by omega) (by omega) (by omega)) (fun i => f2 _ _ (by omega) (by omega) (by omega) (by omega)), MK_f n8 (fun a k q => f2 a k (by omega) (by omega) (by omega) (by omega))⟩
    refine And.intro (fun _ => ?_) (fun c => absurd rfl c)
    exact hk_stop2 (hk_call_m 60) (K R2 X ⟨_, _, _, _, _, _, _, _, _, _, CI_fr C1 (fun a k q => f2 a k (by omega) (by omega) (by omega) (by omega)) rfl, M3⟩ hX)
  · refine w_ldx (hn_add p 1) hX (by omega) hS ?_
    refine sp_mprove (by decide) m1 (fun i i1 i2 ei R2 T2 f2 => absurd ei (nn1 i i1 i2)) (fun nn2 => ?_)
    refine And.intro (fun _ => ?_) (fun c => absurd rfl c)
    exact hk_stop2 (hk_call_m 60) (K R X ⟨_, _, _, _, _, _, _, _, _, _, C, M⟩ hX)
set_option maxHeartbeats 1000000 in
set_option maxRecDepth 16384 in
theorem lc_29 {R : Nat → Nat → Int32} {X : hk_D} {S : Nat × (Nat → Int32)} {p kk nn : Nat} (inv : INV R X) (hX : X.2.2.2.2.2.2 = S) (hS : S.1 ≤ 320) (hp : p + 5 ≤ S.1) (K : ∀ R' X', INV R' X' → X'.2.2.2.2.2.2 = S → hk_wp (some .boolean) 217 4215 hk_dft hcdLAW (hk_call 60) (fun r _ => r = some (.int 1)) 1117 [(3, .int (nI p)), (2, .ref 98), (1, .ref 38), (0, .ref 0)] [] (hw R' X') kk nn) : hk_wp (some .boolean) 217 4215 hk_dft hcdLAW (hk_call 60) (fun r _ => r = some (.int 1)) 739 [(3, .int (nI p)), (2, .ref 98), (1, .ref 38), (0, .ref 0)] [] (hw R X) kk nn := by
  obtain ⟨P, z, n, T, L, B, G, H, l, kp, C, M⟩ := inv
  obtain ⟨c1, c2, c3, c4, c5, c6, c7, c8, c9⟩ := id C
  obtain ⟨m1, m2, m3, m4, m5, m6, m7, m8⟩ := id M
  refine hk_run2 (hk_call_m 60) 100 ?_
  refine w_ldx (hn_add p 1) hX (by omega) hS ?_
  refine w_ldx (hn_add p 2) hX (by omega) hS ?_
  refine sp_crow (by decide) c4 ?_
  refine w_ldx (hn_add p 1) hX (by omega) hS ?_
  refine w_ldx (hn_add p 2) hX (by omega) hS ?_
  refine sp_mrow (by decide) m3 ?_
  refine And.intro (fun _ => ?_) (fun c => absurd rfl c)
  exact hk_stop2 (hk_call_m 60) (K R X ⟨_, _, _, _, _, _, _, _, _, _, C, M⟩ hX)
set_option maxHeartbeats 1000000 in
set_option maxRecDepth 16384 in
theorem lc_30 {R : Nat → Nat → Int32} {X : hk_D} {S : Nat × (Nat → Int32)} {p kk nn : Nat} (inv : INV R X) (hX : X.2.2.2.2.2.2 = S) (hS : S.1 ≤ 320) (hp : p + 5 ≤ S.1) (K : ∀ R' X', INV R' X' → X'.2.2.2.2.2.2 = S → hk_wp (some .boolean) 217 4215 hk_dft hcdLAW (hk_call 60) (fun r _ => r = some (.int 1)) 1117 [(3, .int (nI p)), (2, .ref 98), (1, .ref 38), (0, .ref 0)] [] (hw R' X') kk nn) : hk_wp (some .boolean) 217 4215 hk_dft hcdLAW (hk_call 60) (fun r _ => r = some (.int 1)) 766 [(3, .int (nI p)), (2, .ref 98), (1, .ref 38), (0, .ref 0)] [] (hw R X) kk nn := by
  obtain ⟨P, z, n, T, L, B, G, H, l, kp, C, M⟩ := inv
  obtain ⟨c1, c2, c3, c4, c5, c6, c7, c8, c9⟩ := id C
  obtain ⟨m1, m2, m3, m4, m5, m6, m7, m8⟩ := id M
  refine hk_run2 (hk_call_m 60) 100 ?_
  refine w_ldx (hn_add p 1) hX (by omega) hS ?_
  refine w_ldx (hn_add p 2) hX (by omega) hS ?_
  refine w_ldx (hn_add p 3) hX (by omega) hS ?_
  refine sp_calterRow (by decide) c4 (fun R1 T1 f1 => ?_)
  have C1 : CI P z n _ L B G H l kp R1 X := ⟨hf_K_fr c1 (fun a k q => f1 a k (by omega)), c2, (f1 _ _ (by omega)).trans c3, T1, tc_f c5 (fun a k q => f1 a k (by omega)), stC_f c6 (fun a k q => f1 a k (by omega)) rfl, shC_f c7 (fun a k q => f1 a k (by omega)) rfl, hf_tr_f c8 (f1 _ _ (by omega)) (fun i => f1 _ _ (by omega)), CK_f c9 (fun a k q => f1 a k (by omega))⟩
  have M1 := MI_fr (X' := X) M (fun a k q => f1 a k (by omega)) rfl
  obtain ⟨n1, n2, n3, n4, n5, n6, n7, n8⟩ := id M1
  refine w_ldx (hn_add p 1) hX (by omega) hS ?_
  refine w_ldx (hn_add p 2) hX (by omega) hS ?_
  refine w_ldx (hn_add p 3) hX (by omega) hS ?_
  refine sp_malterRow (by decide) n3 (fun R2 T2 f2 => ?_)
  have M3 : MI P z n _ L B G H l kp R2 X := ⟨hf_M_eq n1 (fun a k q => f2 a k (by omega)), (f2 _ _ (by omega)).trans n2, T2, tp_f n4 (fun a k q => f2 a k (by omega)), hf_stM_f n5 (fun a k q => f2 a k (by omega)) (fun _ => rfl), hf_shM_f n6 (fun a k q => f2 a k (by omega)), hf_tr_f n7 (f2 _ _ (by omega)) (fun i => f2 _ _ (by omega)), MK_f n8 (fun a k q => f2 a k (by omega))⟩
  refine And.intro (fun _ => ?_) (fun c => absurd rfl c)
  exact hk_stop2 (hk_call_m 60) (K R2 X ⟨_, _, _, _, _, _, _, _, _, _, CI_fr C1 (fun a k q => f2 a k (by omega)) rfl, M3⟩ hX)
set_option maxHeartbeats 1000000 in
set_option maxRecDepth 16384 in
theorem lc_31 {R : Nat → Nat → Int32} {X : hk_D} {S : Nat × (Nat → Int32)} {p kk nn : Nat} (inv : INV R X) (hX : X.2.2.2.2.2.2 = S) (hS : S.1 ≤ 320) (hp : p + 5 ≤ S.1) (K : ∀ R' X', INV R' X' → X'.2.2.2.2.2.2 = S → hk_wp (some .boolean) 217 4215 hk_dft hcdLAW (hk_call 60) (fun r _ => r = some (.int 1)) 1117 [(3, .int (nI p)), (2, .ref 98), (1, .ref 38), (0, .ref 0)] [] (hw R' X') kk nn) : hk_wp (some .boolean) 217 4215 hk_dft hcdLAW (hk_call 60) (fun r _ => r = some (.int 1)) 803 [(3, .int (nI p)), (2, .ref 98), (1, .ref 38), (0, .ref 0)] [] (hw R X) kk nn := by
  obtain ⟨P, z, n, T, L, B, G, H, l, kp, C, M⟩ := inv
  obtain ⟨c1, c2, c3, c4, c5, c6, c7, c8, c9⟩ := id C
  obtain ⟨m1, m2, m3, m4, m5, m6, m7, m8⟩ := id M
  refine hk_run2 (hk_call_m 60) 100 ?_
  refine sp_cjudge (by decide) c1 c4 (fun R1 f1 => ?_)
  have C1 := CI_P C (K0_t c1 f1) c2 (f70 (by decide) f1)
  have M1 := MI_fr (X' := X) M (fC_c (by decide) f1) rfl
  obtain ⟨n1, n2, n3, n4, n5, n6, n7, n8⟩ := id M1
  refine sp_mjudge (by decide) n1 n3 (fun R2 T2 f2 => ?_)
  have M3 : MI P z n T L B G H l kp R2 X := ⟨hf_M_j n1 (fun a k q1 q2 q3 q4 => f2 a k q1 q2 (by omega)), (f2 _ _ (by omega) (by omega) (by omega)).trans n2, T2, tp_f n4 (fun a k q => f2 a k (by omega) (by omega) (by omega)), hf_stM_f n5 (fun a k q => f2 a k (by omega) (by omega) (by omega)) (fun _ => rfl), hf_shM_f n6 (fun a k q => f2 a k (by omega) (by omega) (by omega)), hf_tr_f n7 (f2 _ _ (by omega) (by omega) (by omega)) (fun i => f2 _ _ (by omega) (by omega) (by omega)), MK_f n8 (fun a k q => f2 a k (by omega) (by omega) (by omega))⟩
  refine And.intro (fun _ => ?_) (fun c => absurd rfl c)
  exact hk_stop2 (hk_call_m 60) (K R2 X ⟨_, _, _, _, _, _, _, _, _, _, CI_fr C1 (fun a k q => f2 a k (by omega) (by omega) (by omega)) rfl, M3⟩ hX)
set_option maxHeartbeats 1000000 in
set_option maxRecDepth 16384 in
theorem lc_32 {R : Nat → Nat → Int32} {X : hk_D} {S : Nat × (Nat → Int32)} {p kk nn : Nat} (inv : INV R X) (hX : X.2.2.2.2.2.2 = S) (hS : S.1 ≤ 320) (hp : p + 5 ≤ S.1) (K : ∀ R' X', INV R' X' → X'.2.2.2.2.2.2 = S → hk_wp (some .boolean) 217 4215 hk_dft hcdLAW (hk_call 60) (fun r _ => r = some (.int 1)) 1117 [(3, .int (nI p)), (2, .ref 98), (1, .ref 38), (0, .ref 0)] [] (hw R' X') kk nn) : hk_wp (some .boolean) 217 4215 hk_dft hcdLAW (hk_call 60) (fun r _ => r = some (.int 1)) 810 [(3, .int (nI p)), (2, .ref 98), (1, .ref 38), (0, .ref 0)] [] (hw R X) kk nn := by
  obtain ⟨P, z, n, T, L, B, G, H, l, kp, C, M⟩ := inv
  obtain ⟨c1, c2, c3, c4, c5, c6, c7, c8, c9⟩ := id C
  obtain ⟨m1, m2, m3, m4, m5, m6, m7, m8⟩ := id M
  refine hk_run2 (hk_call_m 60) 100 ?_
  refine w_ldx (hn_add p 1) hX (by omega) hS ?_
  refine w_ldx (hn_add p 2) hX (by omega) hS ?_
  refine w_ldx (hn_add p 3) hX (by omega) hS ?_
  refine w_ldx (hn_add p 4) hX (by omega) hS ?_
  refine sp_cwinds (by decide) c1 c6 (fun R1 K1 f1 => ?_)
  have C1 := CI_P C K1 (now_winds c2) (fun a k q => f1 a k (by omega))
  have M1 := MI_fr (X' := X) M (fun a k q => f1 a k (by omega)) rfl
  obtain ⟨n1, n2, n3, n4, n5, n6, n7, n8⟩ := id M1
  refine w_ldx (hn_add p 1) hX (by omega) hS ?_
  refine w_ldx (hn_add p 2) hX (by omega) hS ?_
  refine w_ldx (hn_add p 3) hX (by omega) hS ?_
  refine w_ldx (hn_add p 4) hX (by omega) hS ?_
  refine sp_mwinds (by decide) n1 n5 (fun R2 M2 f2 => ?_)
  refine And.intro (fun _ => ?_) (fun c => absurd rfl c)
  exact hk_stop2 (hk_call_m 60) (K R2 X ⟨_, _, _, _, _, _, _, _, _, _, CI_fr C1 (fun a k q => f2 a k (by omega)) rfl, MI_P M1 M2 (fun a k q => f2 a k (by unfold mS at q; omega)) rfl⟩ hX)
set_option maxHeartbeats 1000000 in
set_option maxRecDepth 16384 in
theorem lc_33 {R : Nat → Nat → Int32} {X : hk_D} {S : Nat × (Nat → Int32)} {p kk nn : Nat} (inv : INV R X) (hX : X.2.2.2.2.2.2 = S) (hS : S.1 ≤ 320) (hp : p + 5 ≤ S.1) (hk2 : kk + 2 ≤ 217) (hn42 : nn + 42 ≤ 4215) (K : ∀ R' X', INV R' X' → X'.2.2.2.2.2.2 = S → hk_wp (some .boolean) 217 4215 hk_dft hcdLAW (hk_call 60) (fun r _ => r = some (.int 1)) 1117 [(3, .int (nI p)), (2, .ref 98), (1, .ref 38), (0, .ref 0)] [] (hw R' X') (kk + 2) (nn + 42)) : hk_wp (some .boolean) 217 4215 hk_dft hcdLAW (hk_call 60) (fun r _ => r = some (.int 1)) 857 [(3, .int (nI p)), (2, .ref 98), (1, .ref 38), (0, .ref 0)] [] (hw R X) kk nn := by
  obtain ⟨P, z, n, T, L, B, G, H, l, kp, C, M⟩ := inv
  obtain ⟨c1, c2, c3, c4, c5, c6, c7, c8, c9⟩ := id C
  obtain ⟨m1, m2, m3, m4, m5, m6, m7, m8⟩ := id M
  refine hk_run2 (hk_call_m 60) 100 ?_
  refine w_ldx (hn_add p 1) hX (by omega) hS ?_
  refine w_ldx (hn_add p 2) hX (by omega) hS ?_
  refine w_ldx (hn_add p 3) hX (by omega) hS ?_
  refine And.intro ⟨hk2, hn42⟩ ?_
  refine sp_csheet (by decide) c6 c7 (fun R1 X1 G1 H1 f1 x1 b1 => ?_)
  have C1 : CI P z n T L B _ H l kp R1 X1 := ⟨hf_K_fr c1 (fun a k q => f1 a k (by omega)), c2, (f1 _ _ (by omega)).trans c3, TC_f c4 (fun a k q => f1 a k (by omega)), tc_f c5 (fun a k q => f1 a k (by omega)), G1, H1, hf_tr_f c8 (f1 _ _ (by omega)) (fun i => f1 _ _ (by omega)), CK_f c9 (fun a k q => f1 a k (by omega))⟩
  have M1 := MI_fr (X' := X1) M (fun a k q => f1 a k (by omega)) x1.2.1
  have hX1 := x1.2.2.trans hX
  obtain ⟨n1, n2, n3, n4, n5, n6, n7, n8⟩ := id M1
  refine w_ldx (hn_add p 1) hX1 (by omega) hS ?_
  refine w_ldx (hn_add p 2) hX1 (by omega) hS ?_
  refine w_ldx (hn_add p 3) hX1 (by omega) hS ?_
  refine sp_msheet (by decide) n5 (fun R2 X2 G2 f2 x2 => ?_)
  have M3 : MI P z n T L B _ H l kp R2 X2 := ⟨hf_M_eq n1 (fun a k q => f2 a k (by omega)), (f2 _ _ (by omega)).trans n2, TM_f n3 (fun a k q => f2 a k (by omega)), tp_f n4 (fun a k q => f2 a k (by omega)), G2, hf_shM_f n6 (fun a k q => f2 a k (by omega)), hf_tr_f n7 (f2 _ _ (by omega)) (fun i => f2 _ _ (by omega)), MK_f n8 (fun a k q => f2 a k (by omega))⟩
  refine And.intro (fun _ => ?_) (fun c => absurd rfl c)
  exact hk_stop2 (hk_call_m 60) (K R2 X2 ⟨_, _, _, _, _, _, _, _, _, _, CI_fr C1 (fun a k q => f2 a k (by omega)) x2.2, M3⟩ ((congrArg (fun y => y.2.2.2.2) x2.2).trans hX1))
