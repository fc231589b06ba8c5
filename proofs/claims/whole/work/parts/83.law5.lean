/-! THE LAW: its cases, 4 -/
set_option maxHeartbeats 1000000 in
set_option maxRecDepth 16384 in
theorem lc_34 {R : Nat → Nat → Int32} {X : hk_D} {S : Nat × (Nat → Int32)} {p kk nn : Nat} (inv : INV R X) (hX : X.2.2.2.2.2.2 = S) (hS : S.1 ≤ 320) (hp : p + 5 ≤ S.1) (K : ∀ R' X', INV R' X' → X'.2.2.2.2.2.2 = S → hk_wp (some .boolean) 217 4215 hk_dft hcdLAW (hk_call 60) (fun r _ => r = some (.int 1)) 1117 [(3, .int (nI p)), (2, .ref 98), (1, .ref 38), (0, .ref 0)] [] (hw R' X') kk nn) : hk_wp (some .boolean) 217 4215 hk_dft hcdLAW (hk_call 60) (fun r _ => r = some (.int 1)) 894 [(3, .int (nI p)), (2, .ref 98), (1, .ref 38), (0, .ref 0)] [] (hw R X) kk nn := by
  obtain ⟨P, z, n, T, L, B, G, H, l, kp, C, M⟩ := inv
  obtain ⟨c1, c2, c3, c4, c5, c6, c7, c8, c9⟩ := id C
  obtain ⟨m1, m2, m3, m4, m5, m6, m7, m8⟩ := id M
  refine hk_run2 (hk_call_m 60) 100 ?_
  refine w_ldx (hn_add p 1) hX (by omega) hS ?_
  refine w_ldx (hn_add p 2) hX (by omega) hS ?_
  refine w_ldx (hn_add p 3) hX (by omega) hS ?_
  refine sp_cput (by decide) c6 (fun R1 G1 f1 => ?_)
  have C1 : CI P z n T L B _ H l kp R1 X := ⟨hf_K_fr c1 (fun a k q => f1.1 a k (by omega)), c2, (f1.1 _ _ (by omega)).trans c3, TC_f c4 (fun a k q => f1.1 a k (by omega)), tc_f c5 (fun a k q => f1.1 a k (by omega)), G1, hf_shC_rw c7 f1, hf_tr_f c8 (f1.1 _ _ (by omega)) (fun i => f1.1 _ _ (by omega)), CK_f c9 (fun a k q => f1.1 a k (by omega))⟩
  have M1 := MI_fr (X' := X) M (fun a k q => f1.1 a k (by omega)) rfl
  obtain ⟨n1, n2, n3, n4, n5, n6, n7, n8⟩ := id M1
  refine w_ldx (hn_add p 1) hX (by omega) hS ?_
  refine w_ldx (hn_add p 2) hX (by omega) hS ?_
  refine w_ldx (hn_add p 3) hX (by omega) hS ?_
  refine sp_mput (by decide) n5 (fun X2 G2 x2 => ?_)
  have M3 : MI P z n T L B _ H l kp R1 X2 := ⟨n1, n2, n3, n4, G2, n6, n7, n8⟩
  refine And.intro (fun _ => ?_) (fun c => absurd rfl c)
  exact hk_stop2 (hk_call_m 60) (K R1 X2 ⟨_, _, _, _, _, _, _, _, _, _, CI_fr C1 (fun _ _ _ => rfl) x2.2, M3⟩ ((congrArg (fun y => y.2.2.2.2) x2.2).trans hX))
set_option maxHeartbeats 1000000 in
set_option maxRecDepth 16384 in
theorem lc_35 {R : Nat → Nat → Int32} {X : hk_D} {S : Nat × (Nat → Int32)} {p kk nn : Nat} (inv : INV R X) (hX : X.2.2.2.2.2.2 = S) (hS : S.1 ≤ 320) (hp : p + 5 ≤ S.1) (K : ∀ R' X', INV R' X' → X'.2.2.2.2.2.2 = S → hk_wp (some .boolean) 217 4215 hk_dft hcdLAW (hk_call 60) (fun r _ => r = some (.int 1)) 1117 [(3, .int (nI p)), (2, .ref 98), (1, .ref 38), (0, .ref 0)] [] (hw R' X') kk nn) : hk_wp (some .boolean) 217 4215 hk_dft hcdLAW (hk_call 60) (fun r _ => r = some (.int 1)) 931 [(3, .int (nI p)), (2, .ref 98), (1, .ref 38), (0, .ref 0)] [] (hw R X) kk nn := by
  obtain ⟨P, z, n, T, L, B, G, H, l, kp, C, M⟩ := inv
  obtain ⟨c1, c2, c3, c4, c5, c6, c7, c8, c9⟩ := id C
  obtain ⟨m1, m2, m3, m4, m5, m6, m7, m8⟩ := id M
  refine hk_run2 (hk_call_m 60) 100 ?_
  refine w_ldx (hn_add p 1) hX (by omega) hS ?_
  refine w_ldx (hn_add p 2) hX (by omega) hS ?_
  refine w_ldx (hn_add p 3) hX (by omega) hS ?_
  refine sp_citem (by decide) c6 ?_
  refine w_ldx (hn_add p 1) hX (by omega) hS ?_
  refine w_ldx (hn_add p 2) hX (by omega) hS ?_
  refine w_ldx (hn_add p 3) hX (by omega) hS ?_
  refine sp_mitem (by decide) m5 ?_
  refine And.intro (fun _ => ?_) (fun c => absurd rfl c)
  exact hk_stop2 (hk_call_m 60) (K R X ⟨_, _, _, _, _, _, _, _, _, _, C, M⟩ hX)
set_option maxHeartbeats 1000000 in
set_option maxRecDepth 16384 in
theorem lc_36 {R : Nat → Nat → Int32} {X : hk_D} {S : Nat × (Nat → Int32)} {p kk nn : Nat} (inv : INV R X) (hX : X.2.2.2.2.2.2 = S) (hS : S.1 ≤ 320) (hp : p + 5 ≤ S.1) (K : ∀ R' X', INV R' X' → X'.2.2.2.2.2.2 = S → hk_wp (some .boolean) 217 4215 hk_dft hcdLAW (hk_call 60) (fun r _ => r = some (.int 1)) 1117 [(3, .int (nI p)), (2, .ref 98), (1, .ref 38), (0, .ref 0)] [] (hw R' X') kk nn) : hk_wp (some .boolean) 217 4215 hk_dft hcdLAW (hk_call 60) (fun r _ => r = some (.int 1)) 968 [(3, .int (nI p)), (2, .ref 98), (1, .ref 38), (0, .ref 0)] [] (hw R X) kk nn := by
  obtain ⟨P, z, n, T, L, B, G, H, l, kp, C, M⟩ := inv
  obtain ⟨c1, c2, c3, c4, c5, c6, c7, c8, c9⟩ := id C
  obtain ⟨m1, m2, m3, m4, m5, m6, m7, m8⟩ := id M
  refine hk_run2 (hk_call_m 60) 100 ?_
  refine w_ldx (hn_add p 1) hX (by omega) hS ?_
  refine w_ldx (hn_add p 2) hX (by omega) hS ?_
  refine w_ldx (hn_add p 3) hX (by omega) hS ?_
  refine sp_cshelf (by decide) c1 c6 c7 (fun R1 X1 H1 G1 f1 x1 b1 => ?_)
  have C1 : CI P z n T L B G _ l kp R1 X1 := ⟨hf_K_fr c1 (fun a k q => f1 a k (by omega)), c2, (f1 _ _ (by omega)).trans c3, TC_f c4 (fun a k q => f1 a k (by omega)), tc_f c5 (fun a k q => f1 a k (by omega)), G1, H1, hf_tr_f c8 (f1 _ _ (by omega)) (fun i => f1 _ _ (by omega)), CK_f c9 (fun a k q => f1 a k (by omega))⟩
  have M1 := MI_fr (X' := X1) M (fun a k q => f1 a k (by omega)) x1.2.1
  have hX1 := x1.2.2.trans hX
  obtain ⟨n1, n2, n3, n4, n5, n6, n7, n8⟩ := id M1
  refine w_ldx (hn_add p 1) hX1 (by omega) hS ?_
  refine w_ldx (hn_add p 2) hX1 (by omega) hS ?_
  refine w_ldx (hn_add p 3) hX1 (by omega) hS ?_
  refine sp_mshelf (by decide) n1 n5 n6 (fun R2 H2 f2 => ?_)
  have M3 : MI P z n T L B G _ l kp R2 X1 := ⟨hf_M_eq n1 (fun a k q => f2 a k (by omega)), (f2 _ _ (by omega)).trans n2, TM_f n3 (fun a k q => f2 a k (by omega)), tp_f n4 (fun a k q => f2 a k (by omega)), hf_stM_f n5 (fun a k q => f2 a k (by omega)) (fun _ => rfl), H2, hf_tr_f n7 (f2 _ _ (by omega)) (fun i => f2 _ _ (by omega)), MK_f n8 (fun a k q => f2 a k (by omega))⟩
  refine And.intro (fun _ => ?_) (fun c => absurd rfl c)
  exact hk_stop2 (hk_call_m 60) (K R2 X1 ⟨_, _, _, _, _, _, _, _, _, _, CI_fr C1 (fun a k q => f2 a k (by omega)) rfl, M3⟩ hX1)
set_option maxHeartbeats 1000000 in
set_option maxRecDepth 16384 in
theorem lc_37 {R : Nat → Nat → Int32} {X : hk_D} {S : Nat × (Nat → Int32)} {p kk nn : Nat} (inv : INV R X) (hX : X.2.2.2.2.2.2 = S) (hS : S.1 ≤ 320) (hp : p + 5 ≤ S.1) (K : ∀ R' X', INV R' X' → X'.2.2.2.2.2.2 = S → hk_wp (some .boolean) 217 4215 hk_dft hcdLAW (hk_call 60) (fun r _ => r = some (.int 1)) 1117 [(3, .int (nI p)), (2, .ref 98), (1, .ref 38), (0, .ref 0)] [] (hw R' X') kk nn) : hk_wp (some .boolean) 217 4215 hk_dft hcdLAW (hk_call 60) (fun r _ => r = some (.int 1)) 1005 [(3, .int (nI p)), (2, .ref 98), (1, .ref 38), (0, .ref 0)] [] (hw R X) kk nn := by
  obtain ⟨P, z, n, T, L, B, G, H, l, kp, C, M⟩ := inv
  obtain ⟨c1, c2, c3, c4, c5, c6, c7, c8, c9⟩ := id C
  obtain ⟨m1, m2, m3, m4, m5, m6, m7, m8⟩ := id M
  refine hk_run2 (hk_call_m 60) 100 ?_
  refine w_ldx (hn_add p 1) hX (by omega) hS ?_
  refine w_ldx (hn_add p 2) hX (by omega) hS ?_
  refine sp_ctaken (by decide) c1 c7 ?_
  refine w_ldx (hn_add p 1) hX (by omega) hS ?_
  refine w_ldx (hn_add p 2) hX (by omega) hS ?_
  refine sp_mtaken (by decide) m1 m6 ?_
  refine And.intro (fun _ => ?_) (fun c => absurd rfl c)
  exact hk_stop2 (hk_call_m 60) (K R X ⟨_, _, _, _, _, _, _, _, _, _, C, M⟩ hX)
set_option maxHeartbeats 1000000 in
set_option maxRecDepth 16384 in
theorem lc_38 {R : Nat → Nat → Int32} {X : hk_D} {S : Nat × (Nat → Int32)} {p kk nn : Nat} (inv : INV R X) (hX : X.2.2.2.2.2.2 = S) (hS : S.1 ≤ 320) (hp : p + 5 ≤ S.1) (K : ∀ R' X', INV R' X' → X'.2.2.2.2.2.2 = S → hk_wp (some .boolean) 217 4215 hk_dft hcdLAW (hk_call 60) (fun r _ => r = some (.int 1)) 1117 [(3, .int (nI p)), (2, .ref 98), (1, .ref 38), (0, .ref 0)] [] (hw R' X') kk nn) : hk_wp (some .boolean) 217 4215 hk_dft hcdLAW (hk_call 60) (fun r _ => r = some (.int 1)) 1032 [(3, .int (nI p)), (2, .ref 98), (1, .ref 38), (0, .ref 0)] [] (hw R X) kk nn := by
  obtain ⟨P, z, n, T, L, B, G, H, l, kp, C, M⟩ := inv
  obtain ⟨c1, c2, c3, c4, c5, c6, c7, c8, c9⟩ := id C
  obtain ⟨m1, m2, m3, m4, m5, m6, m7, m8⟩ := id M
  refine hk_run2 (hk_call_m 60) 100 ?_
  refine w_ldx (hn_add p 1) hX (by omega) hS ?_
  refine w_ldx (hn_add p 2) hX (by omega) hS ?_
  refine w_ldx (hn_add p 3) hX (by omega) hS ?_
  refine sp_cact (by decide) c1 c7 (fun R1 T1 f1 => ?_)
  have C1 : CI P z n T L B G H _ kp R1 X := ⟨hf_K_fr c1 (fun a k q => f1 a k (by omega) (by omega)), c2, (f1 _ _ (by omega) (by omega)).trans c3, TC_f c4 (fun a k q => f1 a k (by omega) (by omega)), tc_f c5 (fun a k q => f1 a k (by omega) (by omega)), stC_f c6 (fun a k q => f1 a k (by omega) (by omega)) rfl, shC_f c7 (fun a k q => f1 a k (by omega) (by omega)) rfl, T1, CK_f c9 (fun a k q => f1 a k (by omega) (by omega))⟩
  have M1 := MI_fr (X' := X) M (fun a k q => f1 a k (by omega) (by omega)) rfl
  obtain ⟨n1, n2, n3, n4, n5, n6, n7, n8⟩ := id M1
  refine w_ldx (hn_add p 1) hX (by omega) hS ?_
  refine w_ldx (hn_add p 2) hX (by omega) hS ?_
  refine w_ldx (hn_add p 3) hX (by omega) hS ?_
  refine sp_mact (by decide) n1 n6 (fun R2 T2 f2 => ?_)
  have M3 : MI P z n T L B G H _ kp R2 X := ⟨hf_M_eq n1 (fun a k q => f2 a k (by omega) (by omega)), (f2 _ _ (by omega) (by omega)).trans n2, TM_f n3 (fun a k q => f2 a k (by omega) (by omega)), tp_f n4 (fun a k q => f2 a k (by omega) (by omega)), hf_stM_f n5 (fun a k q => f2 a k (by omega) (by omega)) (fun _ => rfl), hf_shM_f n6 (fun a k q => f2 a k (by omega) (by omega)), T2, MK_f n8 (fun a k q => f2 a k (by omega) (by omega))⟩
  refine And.intro (fun _ => ?_) (fun c => absurd rfl c)
  exact hk_stop2 (hk_call_m 60) (K R2 X ⟨_, _, _, _, _, _, _, _, _, _, CI_fr C1 (fun a k q => f2 a k (by omega) (by omega)) rfl, M3⟩ hX)
set_option maxHeartbeats 1000000 in
set_option maxRecDepth 16384 in
theorem lc_39 {R : Nat → Nat → Int32} {X : hk_D} {S : Nat × (Nat → Int32)} {p kk nn : Nat} (inv : INV R X) (hX : X.2.2.2.2.2.2 = S) (hS : S.1 ≤ 320) (hp : p + 5 ≤ S.1) (K : ∀ R' X', INV R' X' → X'.2.2.2.2.2.2 = S → hk_wp (some .boolean) 217 4215 hk_dft hcdLAW (hk_call 60) (fun r _ => r = some (.int 1)) 1117 [(3, .int (nI p)), (2, .ref 98), (1, .ref 38), (0, .ref 0)] [] (hw R' X') kk nn) : hk_wp (some .boolean) 217 4215 hk_dft hcdLAW (hk_call 60) (fun r _ => r = some (.int 1)) 1069 [(3, .int (nI p)), (2, .ref 98), (1, .ref 38), (0, .ref 0)] [] (hw R X) kk nn := by
  obtain ⟨P, z, n, T, L, B, G, H, l, kp, C, M⟩ := inv
  obtain ⟨c1, c2, c3, c4, c5, c6, c7, c8, c9⟩ := id C
  obtain ⟨m1, m2, m3, m4, m5, m6, m7, m8⟩ := id M
  refine hk_run2 (hk_call_m 60) 100 ?_
  refine w_ldx (hn_add p 1) hX (by omega) hS ?_
  refine sp_ctrace (by decide) c8.2.1 c8.1 ?_
  refine w_ldx (hn_add p 1) hX (by omega) hS ?_
  refine sp_mtrace (by decide) m7.2.1 m7.1 ?_
  rw [a_trace_eq (fun i hi => (c8.2.2 i hi).trans (m7.2.2 i hi).symm)]
  refine And.intro (fun _ => ?_) (fun c => absurd rfl c)
  exact hk_stop2 (hk_call_m 60) (K R X ⟨_, _, _, _, _, _, _, _, _, _, C, M⟩ hX)
set_option maxHeartbeats 1000000 in
set_option maxRecDepth 16384 in
theorem lc_40 {R : Nat → Nat → Int32} {X : hk_D} {S : Nat × (Nat → Int32)} {p kk nn : Nat} (inv : INV R X) (hX : X.2.2.2.2.2.2 = S) (hS : S.1 ≤ 320) (hp : p + 5 ≤ S.1) (K : ∀ R' X', INV R' X' → X'.2.2.2.2.2.2 = S → hk_wp (some .boolean) 217 4215 hk_dft hcdLAW (hk_call 60) (fun r _ => r = some (.int 1)) 1117 [(3, .int (nI p)), (2, .ref 98), (1, .ref 38), (0, .ref 0)] [] (hw R' X') kk nn) : hk_wp (some .boolean) 217 4215 hk_dft hcdLAW (hk_call 60) (fun r _ => r = some (.int 1)) 1086 [(3, .int (nI p)), (2, .ref 98), (1, .ref 38), (0, .ref 0)] [] (hw R X) kk nn := by
  obtain ⟨P, z, n, T, L, B, G, H, l, kp, C, M⟩ := inv
  obtain ⟨c1, c2, c3, c4, c5, c6, c7, c8, c9⟩ := id C
  obtain ⟨m1, m2, m3, m4, m5, m6, m7, m8⟩ := id M
  refine hk_run2 (hk_call_m 60) 100 ?_
  refine w_ldx (hn_add p 1) hX (by omega) hS ?_
  refine sp_cmany (by decide) c1 ?_
  refine w_ldx (hn_add p 1) hX (by omega) hS ?_
  refine sp_mmany (by decide) m1 ?_
  rw [c4.2.1, c5.2.1, c8.2.1, m3.2.1, m4.2.1, m7.2.1]
  refine And.intro (fun _ => ?_) (fun c => absurd rfl c)
  exact hk_stop2 (hk_call_m 60) (K R X ⟨_, _, _, _, _, _, _, _, _, _, C, M⟩ hX)
set_option maxHeartbeats 1000000 in
set_option maxRecDepth 16384 in
theorem lc_41 {R : Nat → Nat → Int32} {X : hk_D} {S : Nat × (Nat → Int32)} {p kk nn : Nat} (inv : INV R X) (hX : X.2.2.2.2.2.2 = S) (hS : S.1 ≤ 320) (hp : p + 5 ≤ S.1) (K : ∀ R' X', INV R' X' → X'.2.2.2.2.2.2 = S → hk_wp (some .boolean) 217 4215 hk_dft hcdLAW (hk_call 60) (fun r _ => r = some (.int 1)) 1117 [(3, .int (nI p)), (2, .ref 98), (1, .ref 38), (0, .ref 0)] [] (hw R' X') kk nn) : hk_wp (some .boolean) 217 4215 hk_dft hcdLAW (hk_call 60) (fun r _ => r = some (.int 1)) 1103 [(3, .int (nI p)), (2, .ref 98), (1, .ref 38), (0, .ref 0)] [] (hw R X) kk nn := by
  obtain ⟨P, z, n, T, L, B, G, H, l, kp, C, M⟩ := inv
  obtain ⟨c1, c2, c3, c4, c5, c6, c7, c8, c9⟩ := id C
  obtain ⟨m1, m2, m3, m4, m5, m6, m7, m8⟩ := id M
  refine hk_run2 (hk_call_m 60) 100 ?_
  refine sp_ckeep (by decide) c1 (fun R1 K2 z5 k3 f1 => ?_)
  have C1 : CI P z n T L B G H l (some (P, z)) R1 X := ⟨hf_K_fr c1 (fun a k q => f1 a k (by omega) (by omega)), c2, (f1 _ _ (by omega) (by omega)).trans c3, TC_f c4 (fun a k q => f1 a k (by omega) (by omega)), tc_f c5 (fun a k q => f1 a k (by omega) (by omega)), stC_f c6 (fun a k q => f1 a k (by omega) (by omega)) rfl, shC_f c7 (fun a k q => f1 a k (by omega) (by omega)) rfl, hf_tr_f c8 (f1 _ _ (by omega) (by omega)) (fun i => f1 _ _ (by omega) (by omega)), ⟨k3, K2, z5.trans c3, c2⟩⟩
  have M1 := MI_fr (X' := X) M (fun a k q => f1 a k (by omega) (by omega)) rfl
  obtain ⟨n1, n2, n3, n4, n5, n6, n7, n8⟩ := id M1
  refine sp_mkeep (by decide) (fun R2 sn k47 f2 => ?_)
  have M3 : MI P z n T L B G H l (some (P, z)) R2 X := ⟨hf_M_eq n1 (fun a k q => f2 a k (by omega) (by omega) (by omega)), (f2 _ _ (by omega) (by omega) (by omega)).trans n2, TM_f n3 (fun a k q => f2 a k (by omega) (by omega) (by omega)), tp_f n4 (fun a k q => f2 a k (by omega) (by omega) (by omega)), hf_stM_f n5 (fun a k q => f2 a k (by omega) (by omega) (by omega)) (fun _ => rfl), hf_shM_f n6 (fun a k q => f2 a k (by omega) (by omega) (by omega)), hf_tr_f n7 (f2 _ _ (by omega) (by omega) (by omega)) (fun i => f2 _ _ (by omega) (by omega) (by omega)), ⟨k47, R1, n1, n2, sn⟩⟩
  refine And.intro (fun _ => ?_) (fun c => absurd rfl c)
  exact hk_stop2 (hk_call_m 60) (K R2 X ⟨_, _, _, _, _, _, _, _, _, _, CI_fr C1 (fun a k q => f2 a k (by omega) (by omega) (by omega)) rfl, M3⟩ hX)
set_option maxHeartbeats 1000000 in
set_option maxRecDepth 16384 in
theorem lc_42 {R : Nat → Nat → Int32} {X : hk_D} {S : Nat × (Nat → Int32)} {p kk nn : Nat} (inv : INV R X) (hX : X.2.2.2.2.2.2 = S) (hS : S.1 ≤ 320) (hp : p + 5 ≤ S.1) (K : ∀ R' X', INV R' X' → X'.2.2.2.2.2.2 = S → hk_wp (some .boolean) 217 4215 hk_dft hcdLAW (hk_call 60) (fun r _ => r = some (.int 1)) 1117 [(3, .int (nI p)), (2, .ref 98), (1, .ref 38), (0, .ref 0)] [] (hw R' X') kk nn) : hk_wp (some .boolean) 217 4215 hk_dft hcdLAW (hk_call 60) (fun r _ => r = some (.int 1)) 1110 [(3, .int (nI p)), (2, .ref 98), (1, .ref 38), (0, .ref 0)] [] (hw R X) kk nn := by
  obtain ⟨P, z, n, T, L, B, G, H, l, kp, C, M⟩ := inv
  obtain ⟨c1, c2, c3, c4, c5, c6, c7, c8, c9⟩ := id C
  obtain ⟨m1, m2, m3, m4, m5, m6, m7, m8⟩ := id M
  refine hk_run2 (hk_call_m 60) 100 ?_
  cases kp with
  | none =>
    refine sp_cagain (P0 := P) (by decide) (fun _ => ?_) (fun c => absurd c9 c)
    refine sp_magain (P := P) (z := z) (by decide) m1.2.2.1 (fun _ => ?_) (fun c => absurd m8 c)
    refine And.intro (fun _ => ?_) (fun c => absurd rfl c)
    exact hk_stop2 (hk_call_m 60) (K R X ⟨_, _, _, _, _, _, _, _, _, _, C, M⟩ hX)
  | some q0 =>
    refine sp_cagain (P0 := q0.1) (by decide) (fun c => by rw [c9.1] at c; exact absurd c (by decide)) (fun _ => ⟨c9.2.1, fun R1 K1 z1 f1 => ?_⟩)
    have C1 : CI q0.1 q0.2 n T L B G H l (some q0) R1 X := ⟨K1, c9.2.2.2, z1.trans c9.2.2.1, TC_f c4 (fun a k q => f1 a k (by omega) (by omega)), tc_f c5 (fun a k q => f1 a k (by omega) (by omega)), stC_f c6 (fun a k q => f1 a k (by omega) (by omega)) rfl, shC_f c7 (fun a k q => f1 a k (by omega) (by omega)) rfl, hf_tr_f c8 (f1 _ _ (by omega) (by omega)) (fun i => f1 _ _ (by omega) (by omega)), CK_f c9 (fun a k q => f1 a k (by omega) (by omega))⟩
    have M1 := MI_fr (X' := X) M (fun a k q => f1 a k (by omega) (by omega)) rfl
    obtain ⟨n1, n2, n3, n4, n5, n6, n7, n8⟩ := id M1
    obtain ⟨y1, Rs, y2, y3, y4⟩ := id n8
    refine sp_magain (P := q0.1) (z := q0.2) (by decide) n1.2.2.1 (fun c => by rw [y1] at c; exact absurd c (by decide)) (fun _ => ⟨Rs, y2, y3, y4, fun R2 M2 z2 f2 => ?_⟩)
    have M3 : MI q0.1 q0.2 n T L B G H l (some q0) R2 X := ⟨M2, z2, TM_f n3 (fun a k q => f2 a k (by omega) (by omega) (by omega)), tp_f n4 (fun a k q => f2 a k (by omega) (by omega) (by omega)), hf_stM_f n5 (fun a k q => f2 a k (by omega) (by omega) (by omega)) (fun _ => rfl), hf_shM_f n6 (fun a k q => f2 a k (by omega) (by omega) (by omega)), hf_tr_f n7 (f2 _ _ (by omega) (by omega) (by omega)) (fun i => f2 _ _ (by omega) (by omega) (by omega)), MK_f n8 (fun a k q => f2 a k (by omega) (by omega) (by omega))⟩
    refine And.intro (fun _ => ?_) (fun c => absurd rfl c)
    exact hk_stop2 (hk_call_m 60) (K R2 X ⟨_, _, _, _, _, _, _, _, _, _, CI_fr C1 (fun a k q => f2 a k (by omega) (by omega) (by omega)) rfl, M3⟩ hX)
