/-! THE LAW: its cases, 2 -/
set_option maxHeartbeats 1000000 in
set_option maxRecDepth 16384 in
theorem lc_16 {R : Nat → Nat → Int32} {X : hk_D} {S : Nat × (Nat → Int32)} {p kk nn : Nat} (inv : INV R X) (hX : X.2.2.2.2.2.2 = S) (hS : S.1 ≤ 320) (hp : p + 5 ≤ S.1) (K : ∀ R' X', INV R' X' → X'.2.2.2.2.2.2 = S → hk_wp (some .boolean) 217 4215 hk_dft hcdLAW (hk_call 60) (fun r _ => r = some (.int 1)) 1117 [(3, .int (nI p)), (2, .ref 98), (1, .ref 38), (0, .ref 0)] [] (hw R' X') kk nn) : hk_wp (some .boolean) 217 4215 hk_dft hcdLAW (hk_call 60) (fun r _ => r = some (.int 1)) 468 [(3, .int (nI p)), (2, .ref 98), (1, .ref 38), (0, .ref 0)] [] (hw R X) kk nn := by
  obtain ⟨P, z, n, T, L, B, G, H, l, kp, C, M⟩ := inv
  obtain ⟨c1, c2, c3, c4, c5, c6, c7, c8, c9⟩ := id C
  obtain ⟨m1, m2, m3, m4, m5, m6, m7, m8⟩ := id M
  refine hk_run2 (hk_call_m 60) 100 ?_
  refine w_ldx (hn_add p 1) hX (by omega) hS ?_
  refine sp_cclock (by decide) c1 (fun R1 K1 f1 => ?_)
  have C1 := CI_P C K1 (now_clock c2) (f70 (by decide) f1)
  have M1 := MI_fr (X' := X) M (fC_c (by decide) f1) rfl
  refine w_ldx (hn_add p 1) hX (by omega) hS ?_
  refine sp_mclock (by decide) M1.1 (fun R2 M2 f2 => ?_)
  refine And.intro (fun _ => ?_) (fun c => absurd rfl c)
  exact hk_stop2 (hk_call_m 60) (K R2 X ⟨_, _, _, _, _, _, _, _, _, _, CI_fr C1 (fM_p f2) rfl, MI_P M1 M2 (mS_p f2) rfl⟩ hX)
set_option maxHeartbeats 1000000 in
set_option maxRecDepth 16384 in
theorem lc_17 {R : Nat → Nat → Int32} {X : hk_D} {S : Nat × (Nat → Int32)} {p kk nn : Nat} (inv : INV R X) (hX : X.2.2.2.2.2.2 = S) (hS : S.1 ≤ 320) (hp : p + 5 ≤ S.1) (K : ∀ R' X', INV R' X' → X'.2.2.2.2.2.2 = S → hk_wp (some .boolean) 217 4215 hk_dft hcdLAW (hk_call 60) (fun r _ => r = some (.int 1)) 1117 [(3, .int (nI p)), (2, .ref 98), (1, .ref 38), (0, .ref 0)] [] (hw R' X') kk nn) : hk_wp (some .boolean) 217 4215 hk_dft hcdLAW (hk_call 60) (fun r _ => r = some (.int 1)) 485 [(3, .int (nI p)), (2, .ref 98), (1, .ref 38), (0, .ref 0)] [] (hw R X) kk nn := by
  obtain ⟨P, z, n, T, L, B, G, H, l, kp, C, M⟩ := inv
  obtain ⟨c1, c2, c3, c4, c5, c6, c7, c8, c9⟩ := id C
  obtain ⟨m1, m2, m3, m4, m5, m6, m7, m8⟩ := id M
  refine hk_run2 (hk_call_m 60) 100 ?_
  refine w_ldx (hn_add p 1) hX (by omega) hS ?_
  refine w_ldx (hn_add p 2) hX (by omega) hS ?_
  refine sp_cowns (by decide) c1 (fun R1 f1 => ?_)
  have C1 := CI_P C (K0_t c1 f1) c2 (f70 (by decide) f1)
  have M1 := MI_fr (X' := X) M (fC_c (by decide) f1) rfl
  refine w_ldx (hn_add p 1) hX (by omega) hS ?_
  refine w_ldx (hn_add p 2) hX (by omega) hS ?_
  refine sp_mowns (by decide) M1.1 (fun R2 f2 => ?_)
  refine And.intro (fun _ => ?_) (fun c => absurd rfl c)
  exact hk_stop2 (hk_call_m 60) (K R2 X ⟨_, _, _, _, _, _, _, _, _, _, CI_fr C1 (fM_t f2) rfl, MI_P M1 (hf_M_t M1.1 f2) (mS_t f2) rfl⟩ hX)
set_option maxHeartbeats 1000000 in
set_option maxRecDepth 16384 in
theorem lc_18 {R : Nat → Nat → Int32} {X : hk_D} {S : Nat × (Nat → Int32)} {p kk nn : Nat} (inv : INV R X) (hX : X.2.2.2.2.2.2 = S) (hS : S.1 ≤ 320) (hp : p + 5 ≤ S.1) (K : ∀ R' X', INV R' X' → X'.2.2.2.2.2.2 = S → hk_wp (some .boolean) 217 4215 hk_dft hcdLAW (hk_call 60) (fun r _ => r = some (.int 1)) 1117 [(3, .int (nI p)), (2, .ref 98), (1, .ref 38), (0, .ref 0)] [] (hw R' X') kk nn) : hk_wp (some .boolean) 217 4215 hk_dft hcdLAW (hk_call 60) (fun r _ => r = some (.int 1)) 512 [(3, .int (nI p)), (2, .ref 98), (1, .ref 38), (0, .ref 0)] [] (hw R X) kk nn := by
  obtain ⟨P, z, n, T, L, B, G, H, l, kp, C, M⟩ := inv
  obtain ⟨c1, c2, c3, c4, c5, c6, c7, c8, c9⟩ := id C
  obtain ⟨m1, m2, m3, m4, m5, m6, m7, m8⟩ := id M
  refine hk_run2 (hk_call_m 60) 100 ?_
  refine w_ldx (hn_add p 1) hX (by omega) hS ?_
  refine w_ldx (hn_add p 2) hX (by omega) hS ?_
  refine sp_cwhere (by decide) c1 (fun R1 f1 => ?_)
  have C1 := CI_P C (K0_t c1 f1) c2 (f70 (by decide) f1)
  have M1 := MI_fr (X' := X) M (fC_c (by decide) f1) rfl
  refine w_ldx (hn_add p 1) hX (by omega) hS ?_
  refine w_ldx (hn_add p 2) hX (by omega) hS ?_
  refine sp_mwhere (by decide) M1.1 (fun R2 f2 => ?_)
  refine And.intro (fun _ => ?_) (fun c => absurd rfl c)
  exact hk_stop2 (hk_call_m 60) (K R2 X ⟨_, _, _, _, _, _, _, _, _, _, CI_fr C1 (fM_t f2) rfl, MI_P M1 (hf_M_t M1.1 f2) (mS_t f2) rfl⟩ hX)
set_option maxHeartbeats 1000000 in
set_option maxRecDepth 16384 in
theorem lc_19 {R : Nat → Nat → Int32} {X : hk_D} {S : Nat × (Nat → Int32)} {p kk nn : Nat} (inv : INV R X) (hX : X.2.2.2.2.2.2 = S) (hS : S.1 ≤ 320) (hp : p + 5 ≤ S.1) (K : ∀ R' X', INV R' X' → X'.2.2.2.2.2.2 = S → hk_wp (some .boolean) 217 4215 hk_dft hcdLAW (hk_call 60) (fun r _ => r = some (.int 1)) 1117 [(3, .int (nI p)), (2, .ref 98), (1, .ref 38), (0, .ref 0)] [] (hw R' X') kk nn) : hk_wp (some .boolean) 217 4215 hk_dft hcdLAW (hk_call 60) (fun r _ => r = some (.int 1)) 539 [(3, .int (nI p)), (2, .ref 98), (1, .ref 38), (0, .ref 0)] [] (hw R X) kk nn := by
  obtain ⟨P, z, n, T, L, B, G, H, l, kp, C, M⟩ := inv
  obtain ⟨c1, c2, c3, c4, c5, c6, c7, c8, c9⟩ := id C
  obtain ⟨m1, m2, m3, m4, m5, m6, m7, m8⟩ := id M
  refine hk_run2 (hk_call_m 60) 100 ?_
  refine w_ldx (hn_add p 1) hX (by omega) hS ?_
  refine w_ldx (hn_add p 2) hX (by omega) hS ?_
  refine sp_cwears (by decide) c1 (fun R1 f1 => ?_)
  have C1 := CI_P C (K0_t c1 f1) c2 (f70 (by decide) f1)
  have M1 := MI_fr (X' := X) M (fC_c (by decide) f1) rfl
  refine w_ldx (hn_add p 1) hX (by omega) hS ?_
  refine w_ldx (hn_add p 2) hX (by omega) hS ?_
  refine sp_mwears (by decide) M1.1 (fun R2 f2 => ?_)
  refine And.intro (fun _ => ?_) (fun c => absurd rfl c)
  exact hk_stop2 (hk_call_m 60) (K R2 X ⟨_, _, _, _, _, _, _, _, _, _, CI_fr C1 (fM_t f2) rfl, MI_P M1 (hf_M_t M1.1 f2) (mS_t f2) rfl⟩ hX)
set_option maxHeartbeats 1000000 in
set_option maxRecDepth 16384 in
theorem lc_20 {R : Nat → Nat → Int32} {X : hk_D} {S : Nat × (Nat → Int32)} {p kk nn : Nat} (inv : INV R X) (hX : X.2.2.2.2.2.2 = S) (hS : S.1 ≤ 320) (hp : p + 5 ≤ S.1) (K : ∀ R' X', INV R' X' → X'.2.2.2.2.2.2 = S → hk_wp (some .boolean) 217 4215 hk_dft hcdLAW (hk_call 60) (fun r _ => r = some (.int 1)) 1117 [(3, .int (nI p)), (2, .ref 98), (1, .ref 38), (0, .ref 0)] [] (hw R' X') kk nn) : hk_wp (some .boolean) 217 4215 hk_dft hcdLAW (hk_call 60) (fun r _ => r = some (.int 1)) 566 [(3, .int (nI p)), (2, .ref 98), (1, .ref 38), (0, .ref 0)] [] (hw R X) kk nn := by
  obtain ⟨P, z, n, T, L, B, G, H, l, kp, C, M⟩ := inv
  obtain ⟨c1, c2, c3, c4, c5, c6, c7, c8, c9⟩ := id C
  obtain ⟨m1, m2, m3, m4, m5, m6, m7, m8⟩ := id M
  refine hk_run2 (hk_call_m 60) 100 ?_
  refine w_ldx (hn_add p 1) hX (by omega) hS ?_
  refine sp_clost (by decide) c1 (fun R1 f1 => ?_)
  have C1 := CI_P C (K0_t c1 f1) c2 (f70 (by decide) f1)
  have M1 := MI_fr (X' := X) M (fC_c (by decide) f1) rfl
  refine w_ldx (hn_add p 1) hX (by omega) hS ?_
  refine sp_mlost (by decide) M1.1 (fun R2 f2 => ?_)
  refine And.intro (fun _ => ?_) (fun c => absurd rfl c)
  exact hk_stop2 (hk_call_m 60) (K R2 X ⟨_, _, _, _, _, _, _, _, _, _, CI_fr C1 (fM_t f2) rfl, MI_P M1 (hf_M_t M1.1 f2) (mS_t f2) rfl⟩ hX)
set_option maxHeartbeats 1000000 in
set_option maxRecDepth 16384 in
theorem lc_21 {R : Nat → Nat → Int32} {X : hk_D} {S : Nat × (Nat → Int32)} {p kk nn : Nat} (inv : INV R X) (hX : X.2.2.2.2.2.2 = S) (hS : S.1 ≤ 320) (hp : p + 5 ≤ S.1) (K : ∀ R' X', INV R' X' → X'.2.2.2.2.2.2 = S → hk_wp (some .boolean) 217 4215 hk_dft hcdLAW (hk_call 60) (fun r _ => r = some (.int 1)) 1117 [(3, .int (nI p)), (2, .ref 98), (1, .ref 38), (0, .ref 0)] [] (hw R' X') kk nn) : hk_wp (some .boolean) 217 4215 hk_dft hcdLAW (hk_call 60) (fun r _ => r = some (.int 1)) 583 [(3, .int (nI p)), (2, .ref 98), (1, .ref 38), (0, .ref 0)] [] (hw R X) kk nn := by
  obtain ⟨P, z, n, T, L, B, G, H, l, kp, C, M⟩ := inv
  obtain ⟨c1, c2, c3, c4, c5, c6, c7, c8, c9⟩ := id C
  obtain ⟨m1, m2, m3, m4, m5, m6, m7, m8⟩ := id M
  refine hk_run2 (hk_call_m 60) 100 ?_
  refine w_ldx (hn_add p 1) hX (by omega) hS ?_
  refine sp_cmaster (by decide) c1 (fun R1 f1 => ?_)
  have C1 := CI_P C (K0_t c1 f1) c2 (f70 (by decide) f1)
  have M1 := MI_fr (X' := X) M (fC_c (by decide) f1) rfl
  refine w_ldx (hn_add p 1) hX (by omega) hS ?_
  refine sp_mmaster (by decide) M1.1 (fun R2 f2 => ?_)
  refine And.intro (fun _ => ?_) (fun c => absurd rfl c)
  exact hk_stop2 (hk_call_m 60) (K R2 X ⟨_, _, _, _, _, _, _, _, _, _, CI_fr C1 (fM_t f2) rfl, MI_P M1 (hf_M_t M1.1 f2) (mS_t f2) rfl⟩ hX)
set_option maxHeartbeats 1000000 in
set_option maxRecDepth 16384 in
theorem lc_22 {R : Nat → Nat → Int32} {X : hk_D} {S : Nat × (Nat → Int32)} {p kk nn : Nat} (inv : INV R X) (hX : X.2.2.2.2.2.2 = S) (hS : S.1 ≤ 320) (hp : p + 5 ≤ S.1) (K : ∀ R' X', INV R' X' → X'.2.2.2.2.2.2 = S → hk_wp (some .boolean) 217 4215 hk_dft hcdLAW (hk_call 60) (fun r _ => r = some (.int 1)) 1117 [(3, .int (nI p)), (2, .ref 98), (1, .ref 38), (0, .ref 0)] [] (hw R' X') kk nn) : hk_wp (some .boolean) 217 4215 hk_dft hcdLAW (hk_call 60) (fun r _ => r = some (.int 1)) 600 [(3, .int (nI p)), (2, .ref 98), (1, .ref 38), (0, .ref 0)] [] (hw R X) kk nn := by
  obtain ⟨P, z, n, T, L, B, G, H, l, kp, C, M⟩ := inv
  obtain ⟨c1, c2, c3, c4, c5, c6, c7, c8, c9⟩ := id C
  obtain ⟨m1, m2, m3, m4, m5, m6, m7, m8⟩ := id M
  refine hk_run2 (hk_call_m 60) 100 ?_
  refine w_ldx (hn_add p 1) hX (by omega) hS ?_
  refine w_ldx (hn_add p 2) hX (by omega) hS ?_
  refine sp_cwish (by decide) c1 c2 (fun R1 f1 => ?_)
  have C1 := CI_P C (K0_t c1 f1) c2 (f70 (by decide) f1)
  have M1 := MI_fr (X' := X) M (fC_c (by decide) f1) rfl
  refine w_ldx (hn_add p 1) hX (by omega) hS ?_
  refine w_ldx (hn_add p 2) hX (by omega) hS ?_
  refine sp_mwish (by decide) M1.1 (fun R2 M2 f2 => ?_)
  refine And.intro (fun _ => ?_) (fun c => absurd rfl c)
  exact hk_stop2 (hk_call_m 60) (K R2 X ⟨_, _, _, _, _, _, _, _, _, _, CI_fr C1 (fM_p f2) rfl, MI_P M1 M2 (mS_p f2) rfl⟩ hX)
set_option maxHeartbeats 1000000 in
set_option maxRecDepth 16384 in
theorem lc_23 {R : Nat → Nat → Int32} {X : hk_D} {S : Nat × (Nat → Int32)} {p kk nn : Nat} (inv : INV R X) (hX : X.2.2.2.2.2.2 = S) (hS : S.1 ≤ 320) (hp : p + 5 ≤ S.1) (K : ∀ R' X', INV R' X' → X'.2.2.2.2.2.2 = S → hk_wp (some .boolean) 217 4215 hk_dft hcdLAW (hk_call 60) (fun r _ => r = some (.int 1)) 1117 [(3, .int (nI p)), (2, .ref 98), (1, .ref 38), (0, .ref 0)] [] (hw R' X') kk nn) : hk_wp (some .boolean) 217 4215 hk_dft hcdLAW (hk_call 60) (fun r _ => r = some (.int 1)) 627 [(3, .int (nI p)), (2, .ref 98), (1, .ref 38), (0, .ref 0)] [] (hw R X) kk nn := by
  obtain ⟨P, z, n, T, L, B, G, H, l, kp, C, M⟩ := inv
  obtain ⟨c1, c2, c3, c4, c5, c6, c7, c8, c9⟩ := id C
  obtain ⟨m1, m2, m3, m4, m5, m6, m7, m8⟩ := id M
  refine hk_run2 (hk_call_m 60) 100 ?_
  refine w_ldx (hn_add p 1) hX (by omega) hS ?_
  refine w_ldx (hn_add p 2) hX (by omega) hS ?_
  refine sp_cstart (by decide) c1 c2 (fun R1 f1 => ?_)
  have C1 := CI_P C (K0_t c1 f1) c2 (f70 (by decide) f1)
  have M1 := MI_fr (X' := X) M (fC_c (by decide) f1) rfl
  refine w_ldx (hn_add p 1) hX (by omega) hS ?_
  refine w_ldx (hn_add p 2) hX (by omega) hS ?_
  refine sp_mstart (by decide) M1.1 (fun R2 M2 f2 => ?_)
  refine And.intro (fun _ => ?_) (fun c => absurd rfl c)
  exact hk_stop2 (hk_call_m 60) (K R2 X ⟨_, _, _, _, _, _, _, _, _, _, CI_fr C1 (fM_p f2) rfl, MI_P M1 M2 (mS_p f2) rfl⟩ hX)
set_option maxHeartbeats 1000000 in
set_option maxRecDepth 16384 in
theorem lc_24 {R : Nat → Nat → Int32} {X : hk_D} {S : Nat × (Nat → Int32)} {p kk nn : Nat} (inv : INV R X) (hX : X.2.2.2.2.2.2 = S) (hS : S.1 ≤ 320) (hp : p + 5 ≤ S.1) (K : ∀ R' X', INV R' X' → X'.2.2.2.2.2.2 = S → hk_wp (some .boolean) 217 4215 hk_dft hcdLAW (hk_call 60) (fun r _ => r = some (.int 1)) 1117 [(3, .int (nI p)), (2, .ref 98), (1, .ref 38), (0, .ref 0)] [] (hw R' X') kk nn) : hk_wp (some .boolean) 217 4215 hk_dft hcdLAW (hk_call 60) (fun r _ => r = some (.int 1)) 654 [(3, .int (nI p)), (2, .ref 98), (1, .ref 38), (0, .ref 0)] [] (hw R X) kk nn := by
  obtain ⟨P, z, n, T, L, B, G, H, l, kp, C, M⟩ := inv
  obtain ⟨c1, c2, c3, c4, c5, c6, c7, c8, c9⟩ := id C
  obtain ⟨m1, m2, m3, m4, m5, m6, m7, m8⟩ := id M
  refine hk_run2 (hk_call_m 60) 100 ?_
  refine w_ldx (hn_add p 1) hX (by omega) hS ?_
  refine w_ldx (hn_add p 2) hX (by omega) hS ?_
  refine sp_ctie (by decide) c1 c2 (fun R1 f1 => ?_)
  have C1 := CI_P C (K0_t c1 f1) c2 (f70 (by decide) f1)
  have M1 := MI_fr (X' := X) M (fC_c (by decide) f1) rfl
  refine w_ldx (hn_add p 1) hX (by omega) hS ?_
  refine w_ldx (hn_add p 2) hX (by omega) hS ?_
  refine sp_mtie (by decide) M1.1 (fun R2 M2 f2 => ?_)
  refine And.intro (fun _ => ?_) (fun c => absurd rfl c)
  exact hk_stop2 (hk_call_m 60) (K R2 X ⟨_, _, _, _, _, _, _, _, _, _, CI_fr C1 (fM_p f2) rfl, MI_P M1 M2 (mS_p f2) rfl⟩ hX)
set_option maxHeartbeats 1000000 in
set_option maxRecDepth 16384 in
theorem lc_25 {R : Nat → Nat → Int32} {X : hk_D} {S : Nat × (Nat → Int32)} {p kk nn : Nat} (inv : INV R X) (hX : X.2.2.2.2.2.2 = S) (hS : S.1 ≤ 320) (hp : p + 5 ≤ S.1) (K : ∀ R' X', INV R' X' → X'.2.2.2.2.2.2 = S → hk_wp (some .boolean) 217 4215 hk_dft hcdLAW (hk_call 60) (fun r _ => r = some (.int 1)) 1117 [(3, .int (nI p)), (2, .ref 98), (1, .ref 38), (0, .ref 0)] [] (hw R' X') kk nn) : hk_wp (some .boolean) 217 4215 hk_dft hcdLAW (hk_call 60) (fun r _ => r = some (.int 1)) 681 [(3, .int (nI p)), (2, .ref 98), (1, .ref 38), (0, .ref 0)] [] (hw R X) kk nn := by
  obtain ⟨P, z, n, T, L, B, G, H, l, kp, C, M⟩ := inv
  obtain ⟨c1, c2, c3, c4, c5, c6, c7, c8, c9⟩ := id C
  obtain ⟨m1, m2, m3, m4, m5, m6, m7, m8⟩ := id M
  refine hk_run2 (hk_call_m 60) 100 ?_
  refine sp_ccalm (by decide) c1 c2 (fun R1 f1 => ?_)
  have C1 := CI_P C (K0_t c1 f1) c2 (f70 (by decide) f1)
  have M1 := MI_fr (X' := X) M (fC_c (by decide) f1) rfl
  refine sp_mcalm (by decide) M1.1 c2 (fun R2 f2 => ?_)
  refine And.intro (fun _ => ?_) (fun c => absurd rfl c)
  exact hk_stop2 (hk_call_m 60) (K R2 X ⟨_, _, _, _, _, _, _, _, _, _, CI_fr C1 (fM_t f2) rfl, MI_P M1 (hf_M_t M1.1 f2) (mS_t f2) rfl⟩ hX)
