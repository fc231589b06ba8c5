/-! THE LAW: its cases -/
set_option maxRecDepth 16384 in
theorem hf_M_j {P : hP} {R R' : Nat → Nat → Int32} (M : hf_M 0 P R) (h : hfj R R') : hf_M 0 P R' := by
  have e : hft R (fun a k => if a = 105 ∧ 18 ≤ k then R' a k else R a k) := fun a k q => if_neg q
  refine hf_M_eq (hf_M_t M e) (fun a k q => ?_)
  show R' a k = if a = 105 ∧ 18 ≤ k then R' a k else R a k
  by_cases z : a = 105 ∧ 18 ≤ k
  · rw [if_pos z]
  · rw [if_neg z]; exact h a k z (by omega) (by omega) (by omega)
set_option maxRecDepth 16384 in
theorem a_trace_eq {b : Nat} {f g : Nat → Int32} {v : Int32} (h : ∀ i, i < b → f i = g i) : a_trace b f v = a_trace b g v := by
  unfold a_trace hxi
  split
  · rfl
  · rename_i i e
    split at e
    · rename_i q
      cases e
      exact h _ (by omega)
    · cases e
set_option maxHeartbeats 1000000 in
set_option maxRecDepth 16384 in
theorem lc_0 {R : Nat → Nat → Int32} {X : hk_D} {S : Nat × (Nat → Int32)} {p kk nn : Nat} (inv : INV R X) (hX : X.2.2.2.2.2.2 = S) (hS : S.1 ≤ 320) (hp : p + 5 ≤ S.1) (K : ∀ R' X', INV R' X' → X'.2.2.2.2.2.2 = S → hk_wp (some .boolean) 217 4215 hk_dft hcdLAW (hk_call 60) (fun r _ => r = some (.int 1)) 1117 [(3, .int (nI p)), (2, .ref 98), (1, .ref 38), (0, .ref 0)] [] (hw R' X') kk nn) : hk_wp (some .boolean) 217 4215 hk_dft hcdLAW (hk_call 60) (fun r _ => r = some (.int 1)) 22 [(3, .int (nI p)), (2, .ref 98), (1, .ref 38), (0, .ref 0)] [] (hw R X) kk nn := by
  obtain ⟨P, z, n, T, L, B, G, H, l, kp, C, M⟩ := inv
  obtain ⟨c1, c2, c3, c4, c5, c6, c7, c8, c9⟩ := id C
  obtain ⟨m1, m2, m3, m4, m5, m6, m7, m8⟩ := id M
  refine hk_run2 (hk_call_m 60) 100 ?_
  refine w_ldx (hn_add p 1) hX (by omega) hS ?_
  refine w_ldx (hn_add p 2) hX (by omega) hS ?_
  refine w_ldx (hn_add p 3) hX (by omega) hS ?_
  refine sp_cfeed (by decide) c5 (fun R1 T1 f1 => ?_)
  have C1 : CI P z n T _ _ G H l kp R1 X := ⟨hf_K_fr c1 (fun a k q => f1 a k (by omega) (by omega)), c2, (f1 _ _ (by omega) (by omega)).trans c3, TC_f c4 (fun a k q => f1 a k (by omega) (by omega)), T1, stC_f c6 (fun a k q => f1 a k (by omega) (by omega)) rfl, shC_f c7 (fun a k q => f1 a k (by omega) (by omega)) rfl, hf_tr_f c8 (f1 _ _ (by omega) (by omega)) (fun i => f1 _ _ (by omega) (by omega)), CK_f c9 (fun a k q => f1 a k (by omega) (by omega))⟩
  have M1 := MI_fr (X' := X) M (fun a k q => f1 a k (by omega) (by omega)) rfl
  obtain ⟨n1, n2, n3, n4, n5, n6, n7, n8⟩ := id M1
  refine w_ldx (hn_add p 1) hX (by omega) hS ?_
  refine w_ldx (hn_add p 2) hX (by omega) hS ?_
  refine w_ldx (hn_add p 3) hX (by omega) hS ?_
  refine sp_mfeed (by decide) n4 (fun R2 T2 f2 => ?_)
  have M2 : MI P z n T _ _ G H l kp R2 X := ⟨hf_M_eq n1 (fun a k q => f2 a k (by omega) (by omega)), (f2 _ _ (by omega) (by omega)).trans n2, TM_f n3 (fun a k q => f2 a k (by omega) (by omega)), T2, hf_stM_f n5 (fun a k q => f2 a k (by omega) (by omega)) (fun _ => rfl), hf_shM_f n6 (fun a k q => f2 a k (by omega) (by omega)), hf_tr_f n7 (f2 _ _ (by omega) (by omega)) (fun i => f2 _ _ (by omega) (by omega)), MK_f n8 (fun a k q => f2 a k (by omega) (by omega))⟩
  refine And.intro (fun _ => ?_) (fun c => absurd rfl c)
  exact hk_stop2 (hk_call_m 60) (K R2 X ⟨_, _, _, _, _, _, _, _, _, _, CI_fr C1 (fun a k q => f2 a k (by omega) (by omega)) rfl, M2⟩ hX)
set_option maxHeartbeats 1000000 in
set_option maxRecDepth 16384 in
theorem lc_1 {R : Nat → Nat → Int32} {X : hk_D} {S : Nat × (Nat → Int32)} {p kk nn : Nat} (inv : INV R X) (hX : X.2.2.2.2.2.2 = S) (hS : S.1 ≤ 320) (hp : p + 5 ≤ S.1) (K : ∀ R' X', INV R' X' → X'.2.2.2.2.2.2 = S → hk_wp (some .boolean) 217 4215 hk_dft hcdLAW (hk_call 60) (fun r _ => r = some (.int 1)) 1117 [(3, .int (nI p)), (2, .ref 98), (1, .ref 38), (0, .ref 0)] [] (hw R' X') kk nn) : hk_wp (some .boolean) 217 4215 hk_dft hcdLAW (hk_call 60) (fun r _ => r = some (.int 1)) 73 [(3, .int (nI p)), (2, .ref 98), (1, .ref 38), (0, .ref 0)] [] (hw R X) kk nn := by
  obtain ⟨P, z, n, T, L, B, G, H, l, kp, C, M⟩ := inv
  obtain ⟨c1, c2, c3, c4, c5, c6, c7, c8, c9⟩ := id C
  obtain ⟨m1, m2, m3, m4, m5, m6, m7, m8⟩ := id M
  refine hk_run2 (hk_call_m 60) 100 ?_
  refine sp_cplain (by decide) c5 c1 c2 (fun R1 K1 h1 r1 t1 t0 f1 => ?_)
  have M1 := MI_fr (X' := X) M (fun a k q => f1 a k (by omega) (by omega) (by omega)) rfl
  obtain ⟨n', T', e'⟩ : ∃ n', hf_TC n' T R1 ∧ ((p_end L B).2.1 = 999 ∧ n' = 0 ∨ ¬ (p_end L B).2.1 = 999 ∧ n' = n) := by
    by_cases h : (p_end L B).2.1 = 999
    · exact ⟨0, ⟨by omega, t1 h, fun i hi => absurd hi (Nat.not_lt_zero i)⟩, Or.inl ⟨h, rfl⟩⟩
    · exact ⟨n, ⟨c4.1, (t0 h).trans c4.2.1, fun i hi => (f1 _ _ (by omega) (by omega) (by omega)).trans (c4.2.2 i hi)⟩, Or.inr ⟨h, rfl⟩⟩
  have C1 : CI _ z n' T 0 B G H l kp R1 X := ⟨K1, h1, (f1 _ _ (by omega) (by omega) (by omega)).trans c3, T', ⟨Nat.zero_le _, r1, fun i hi => absurd hi (Nat.not_lt_zero i), c5.2.2.2⟩, stC_f c6 (fun a k q => f1 a k (by omega) (by omega) (by omega)) rfl, shC_f c7 (fun a k q => f1 a k (by omega) (by omega) (by omega)) rfl, hf_tr_f c8 (f1 _ _ (by omega) (by omega) (by omega)) (fun i => f1 _ _ (by omega) (by omega) (by omega)), CK_f c9 (fun a k q => f1 a k (by omega) (by omega) (by omega))⟩
  obtain ⟨n1, n2, n3, n4, n5, n6, n7, n8⟩ := id M1
  refine sp_mplain (by decide) n4 n1 c2 (fun R2 X2 M2 h2 s1 s2 s3 f2 x2 => ?_)
  have T2 : hf_T n' T R2 := by
    rcases e' with ⟨h, e⟩ | ⟨h, e⟩
    · rw [e]; exact ⟨by omega, s2 h, fun i hi => absurd hi (Nat.not_lt_zero i)⟩
    · rw [e]; exact ⟨n3.1, (s3 h).trans n3.2.1, fun i hi => (f2 _ _ (by omega) (by omega) (by omega)).trans (n3.2.2 i hi)⟩
  have M3 : MI _ z n' T 0 B G H l kp R2 X2 := ⟨M2, (f2 _ _ (by omega) (by omega) (by omega)).trans n2, T2, ⟨Nat.zero_le _, s1, fun i hi => absurd hi (Nat.not_lt_zero i), c5.2.2.2⟩, hf_stM_f n5 (fun a k q => f2 a k (by omega) (by omega) (by omega)) (fun j => congrFun (congrArg Prod.fst x2) j), hf_shM_f n6 (fun a k q => f2 a k (by omega) (by omega) (by omega)), hf_tr_f n7 (f2 _ _ (by omega) (by omega) (by omega)) (fun i => f2 _ _ (by omega) (by omega) (by omega)), MK_f n8 (fun a k q => f2 a k (by omega) (by omega) (by omega))⟩
  refine And.intro (fun _ => ?_) (fun c => absurd rfl c)
  exact hk_stop2 (hk_call_m 60) (K R2 X2 ⟨_, _, _, _, _, _, _, _, _, _, CI_fr C1 (fun a k q => f2 a k (by omega) (by omega) (by omega)) (congrArg Prod.snd x2), M3⟩ ((congrArg (fun y => y.2.2.2.2.2) x2).trans hX))
set_option maxHeartbeats 1000000 in
set_option maxRecDepth 16384 in
theorem lc_2 {R : Nat → Nat → Int32} {X : hk_D} {S : Nat × (Nat → Int32)} {p kk nn : Nat} (inv : INV R X) (hX : X.2.2.2.2.2.2 = S) (hS : S.1 ≤ 320) (hp : p + 5 ≤ S.1) (K : ∀ R' X', INV R' X' → X'.2.2.2.2.2.2 = S → hk_wp (some .boolean) 217 4215 hk_dft hcdLAW (hk_call 60) (fun r _ => r = some (.int 1)) 1117 [(3, .int (nI p)), (2, .ref 98), (1, .ref 38), (0, .ref 0)] [] (hw R' X') kk nn) : hk_wp (some .boolean) 217 4215 hk_dft hcdLAW (hk_call 60) (fun r _ => r = some (.int 1)) 80 [(3, .int (nI p)), (2, .ref 98), (1, .ref 38), (0, .ref 0)] [] (hw R X) kk nn := by
  obtain ⟨P, z, n, T, L, B, G, H, l, kp, C, M⟩ := inv
  obtain ⟨c1, c2, c3, c4, c5, c6, c7, c8, c9⟩ := id C
  obtain ⟨m1, m2, m3, m4, m5, m6, m7, m8⟩ := id M
  refine hk_run2 (hk_call_m 60) 100 ?_
  refine w_ldx (hn_add p 1) hX (by omega) hS ?_
  refine w_ldx (hn_add p 2) hX (by omega) hS ?_
  refine w_ldx (hn_add p 3) hX (by omega) hS ?_
  refine sp_cwind (by decide) c1 (fun R1 K1 f1 => ?_)
  have C1 := CI_P C K1 (now_wind c2) (f70 (by decide) f1)
  have M1 := MI_fr (X' := X) M (fC_c (by decide) f1) rfl
  refine w_ldx (hn_add p 1) hX (by omega) hS ?_
  refine w_ldx (hn_add p 2) hX (by omega) hS ?_
  refine w_ldx (hn_add p 3) hX (by omega) hS ?_
  refine sp_mwind (by decide) M1.1 (fun R2 M2 f2 => ?_)
  refine And.intro (fun _ => ?_) (fun c => absurd rfl c)
  exact hk_stop2 (hk_call_m 60) (K R2 X ⟨_, _, _, _, _, _, _, _, _, _, CI_fr C1 (fM_p f2) rfl, MI_P M1 M2 (mS_p f2) rfl⟩ hX)
set_option maxHeartbeats 1000000 in
set_option maxRecDepth 16384 in
theorem lc_3 {R : Nat → Nat → Int32} {X : hk_D} {S : Nat × (Nat → Int32)} {p kk nn : Nat} (inv : INV R X) (hX : X.2.2.2.2.2.2 = S) (hS : S.1 ≤ 320) (hp : p + 5 ≤ S.1) (K : ∀ R' X', INV R' X' → X'.2.2.2.2.2.2 = S → hk_wp (some .boolean) 217 4215 hk_dft hcdLAW (hk_call 60) (fun r _ => r = some (.int 1)) 1117 [(3, .int (nI p)), (2, .ref 98), (1, .ref 38), (0, .ref 0)] [] (hw R' X') kk nn) : hk_wp (some .boolean) 217 4215 hk_dft hcdLAW (hk_call 60) (fun r _ => r = some (.int 1)) 117 [(3, .int (nI p)), (2, .ref 98), (1, .ref 38), (0, .ref 0)] [] (hw R X) kk nn := by
  obtain ⟨P, z, n, T, L, B, G, H, l, kp, C, M⟩ := inv
  obtain ⟨c1, c2, c3, c4, c5, c6, c7, c8, c9⟩ := id C
  obtain ⟨m1, m2, m3, m4, m5, m6, m7, m8⟩ := id M
  refine hk_run2 (hk_call_m 60) 100 ?_
  refine w_ldx (hn_add p 1) hX (by omega) hS ?_
  refine sp_cwindOf (by decide) c1 ?_
  refine w_ldx (hn_add p 1) hX (by omega) hS ?_
  refine sp_mwindOf (by decide) m1 ?_
  refine And.intro (fun _ => ?_) (fun c => absurd rfl c)
  exact hk_stop2 (hk_call_m 60) (K R X ⟨_, _, _, _, _, _, _, _, _, _, C, M⟩ hX)
set_option maxHeartbeats 1000000 in
set_option maxRecDepth 16384 in
theorem lc_4 {R : Nat → Nat → Int32} {X : hk_D} {S : Nat × (Nat → Int32)} {p kk nn : Nat} (inv : INV R X) (hX : X.2.2.2.2.2.2 = S) (hS : S.1 ≤ 320) (hp : p + 5 ≤ S.1) (K : ∀ R' X', INV R' X' → X'.2.2.2.2.2.2 = S → hk_wp (some .boolean) 217 4215 hk_dft hcdLAW (hk_call 60) (fun r _ => r = some (.int 1)) 1117 [(3, .int (nI p)), (2, .ref 98), (1, .ref 38), (0, .ref 0)] [] (hw R' X') kk nn) : hk_wp (some .boolean) 217 4215 hk_dft hcdLAW (hk_call 60) (fun r _ => r = some (.int 1)) 134 [(3, .int (nI p)), (2, .ref 98), (1, .ref 38), (0, .ref 0)] [] (hw R X) kk nn := by
  obtain ⟨P, z, n, T, L, B, G, H, l, kp, C, M⟩ := inv
  obtain ⟨c1, c2, c3, c4, c5, c6, c7, c8, c9⟩ := id C
  obtain ⟨m1, m2, m3, m4, m5, m6, m7, m8⟩ := id M
  refine hk_run2 (hk_call_m 60) 100 ?_
  refine w_ldx (hn_add p 1) hX (by omega) hS ?_
  refine w_ldx (hn_add p 2) hX (by omega) hS ?_
  refine sp_cperson (by decide) c1 (fun R1 K1 f1 => ?_)
  have C1 := CI_P C K1 (now_person c2) (f70 (by decide) f1)
  have M1 := MI_fr (X' := X) M (fC_c (by decide) f1) rfl
  refine w_ldx (hn_add p 1) hX (by omega) hS ?_
  refine w_ldx (hn_add p 2) hX (by omega) hS ?_
  refine sp_mperson (by decide) M1.1 (fun R2 M2 f2 => ?_)
  refine And.intro (fun _ => ?_) (fun c => absurd rfl c)
  exact hk_stop2 (hk_call_m 60) (K R2 X ⟨_, _, _, _, _, _, _, _, _, _, CI_fr C1 (fM_p f2) rfl, MI_P M1 M2 (mS_p f2) rfl⟩ hX)
set_option maxHeartbeats 1000000 in
set_option maxRecDepth 16384 in
theorem lc_5 {R : Nat → Nat → Int32} {X : hk_D} {S : Nat × (Nat → Int32)} {p kk nn : Nat} (inv : INV R X) (hX : X.2.2.2.2.2.2 = S) (hS : S.1 ≤ 320) (hp : p + 5 ≤ S.1) (K : ∀ R' X', INV R' X' → X'.2.2.2.2.2.2 = S → hk_wp (some .boolean) 217 4215 hk_dft hcdLAW (hk_call 60) (fun r _ => r = some (.int 1)) 1117 [(3, .int (nI p)), (2, .ref 98), (1, .ref 38), (0, .ref 0)] [] (hw R' X') kk nn) : hk_wp (some .boolean) 217 4215 hk_dft hcdLAW (hk_call 60) (fun r _ => r = some (.int 1)) 161 [(3, .int (nI p)), (2, .ref 98), (1, .ref 38), (0, .ref 0)] [] (hw R X) kk nn := by
  obtain ⟨P, z, n, T, L, B, G, H, l, kp, C, M⟩ := inv
  obtain ⟨c1, c2, c3, c4, c5, c6, c7, c8, c9⟩ := id C
  obtain ⟨m1, m2, m3, m4, m5, m6, m7, m8⟩ := id M
  refine hk_run2 (hk_call_m 60) 100 ?_
  refine w_ldx (hn_add p 1) hX (by omega) hS ?_
  refine w_ldx (hn_add p 2) hX (by omega) hS ?_
  refine sp_cpersonOf (by decide) c1 ?_
  refine w_ldx (hn_add p 1) hX (by omega) hS ?_
  refine w_ldx (hn_add p 2) hX (by omega) hS ?_
  refine sp_mpersonOf (by decide) m1 ?_
  refine And.intro (fun _ => ?_) (fun c => absurd rfl c)
  exact hk_stop2 (hk_call_m 60) (K R X ⟨_, _, _, _, _, _, _, _, _, _, C, M⟩ hX)
set_option maxHeartbeats 1000000 in
set_option maxRecDepth 16384 in
theorem lc_6 {R : Nat → Nat → Int32} {X : hk_D} {S : Nat × (Nat → Int32)} {p kk nn : Nat} (inv : INV R X) (hX : X.2.2.2.2.2.2 = S) (hS : S.1 ≤ 320) (hp : p + 5 ≤ S.1) (K : ∀ R' X', INV R' X' → X'.2.2.2.2.2.2 = S → hk_wp (some .boolean) 217 4215 hk_dft hcdLAW (hk_call 60) (fun r _ => r = some (.int 1)) 1117 [(3, .int (nI p)), (2, .ref 98), (1, .ref 38), (0, .ref 0)] [] (hw R' X') kk nn) : hk_wp (some .boolean) 217 4215 hk_dft hcdLAW (hk_call 60) (fun r _ => r = some (.int 1)) 188 [(3, .int (nI p)), (2, .ref 98), (1, .ref 38), (0, .ref 0)] [] (hw R X) kk nn := by
  obtain ⟨P, z, n, T, L, B, G, H, l, kp, C, M⟩ := inv
  obtain ⟨c1, c2, c3, c4, c5, c6, c7, c8, c9⟩ := id C
  obtain ⟨m1, m2, m3, m4, m5, m6, m7, m8⟩ := id M
  refine hk_run2 (hk_call_m 60) 100 ?_
  refine w_ldx (hn_add p 1) hX (by omega) hS ?_
  refine w_ldx (hn_add p 2) hX (by omega) hS ?_
  refine sp_cmoves (by decide) c1 (fun R1 K1 f1 => ?_)
  have C1 := CI_P C K1 (now_moves c2) (f70 (by decide) f1)
  have M1 := MI_fr (X' := X) M (fC_c (by decide) f1) rfl
  refine w_ldx (hn_add p 1) hX (by omega) hS ?_
  refine w_ldx (hn_add p 2) hX (by omega) hS ?_
  refine sp_mmoves (by decide) M1.1 (fun R2 M2 f2 => ?_)
  refine And.intro (fun _ => ?_) (fun c => absurd rfl c)
  exact hk_stop2 (hk_call_m 60) (K R2 X ⟨_, _, _, _, _, _, _, _, _, _, CI_fr C1 (fM_p f2) rfl, MI_P M1 M2 (mS_p f2) rfl⟩ hX)
set_option maxHeartbeats 1000000 in
set_option maxRecDepth 16384 in
theorem lc_7 {R : Nat → Nat → Int32} {X : hk_D} {S : Nat × (Nat → Int32)} {p kk nn : Nat} (inv : INV R X) (hX : X.2.2.2.2.2.2 = S) (hS : S.1 ≤ 320) (hp : p + 5 ≤ S.1) (K : ∀ R' X', INV R' X' → X'.2.2.2.2.2.2 = S → hk_wp (some .boolean) 217 4215 hk_dft hcdLAW (hk_call 60) (fun r _ => r = some (.int 1)) 1117 [(3, .int (nI p)), (2, .ref 98), (1, .ref 38), (0, .ref 0)] [] (hw R' X') kk nn) : hk_wp (some .boolean) 217 4215 hk_dft hcdLAW (hk_call 60) (fun r _ => r = some (.int 1)) 215 [(3, .int (nI p)), (2, .ref 98), (1, .ref 38), (0, .ref 0)] [] (hw R X) kk nn := by
  obtain ⟨P, z, n, T, L, B, G, H, l, kp, C, M⟩ := inv
  obtain ⟨c1, c2, c3, c4, c5, c6, c7, c8, c9⟩ := id C
  obtain ⟨m1, m2, m3, m4, m5, m6, m7, m8⟩ := id M
  refine hk_run2 (hk_call_m 60) 100 ?_
  refine w_ldx (hn_add p 1) hX (by omega) hS ?_
  refine w_ldx (hn_add p 2) hX (by omega) hS ?_
  refine sp_cspeed (by decide) c1 (fun R1 K1 f1 => ?_)
  have C1 := CI_P C K1 (now_speed c2) (f70 (by decide) f1)
  have M1 := MI_fr (X' := X) M (fC_c (by decide) f1) rfl
  refine w_ldx (hn_add p 1) hX (by omega) hS ?_
  refine w_ldx (hn_add p 2) hX (by omega) hS ?_
  refine sp_mspeed (by decide) M1.1 (fun R2 M2 f2 => ?_)
  refine And.intro (fun _ => ?_) (fun c => absurd rfl c)
  exact hk_stop2 (hk_call_m 60) (K R2 X ⟨_, _, _, _, _, _, _, _, _, _, CI_fr C1 (fM_p f2) rfl, MI_P M1 M2 (mS_p f2) rfl⟩ hX)
set_option maxHeartbeats 1000000 in
set_option maxRecDepth 16384 in
theorem lc_8 {R : Nat → Nat → Int32} {X : hk_D} {S : Nat × (Nat → Int32)} {p kk nn : Nat} (inv : INV R X) (hX : X.2.2.2.2.2.2 = S) (hS : S.1 ≤ 320) (hp : p + 5 ≤ S.1) (K : ∀ R' X', INV R' X' → X'.2.2.2.2.2.2 = S → hk_wp (some .boolean) 217 4215 hk_dft hcdLAW (hk_call 60) (fun r _ => r = some (.int 1)) 1117 [(3, .int (nI p)), (2, .ref 98), (1, .ref 38), (0, .ref 0)] [] (hw R' X') kk nn) : hk_wp (some .boolean) 217 4215 hk_dft hcdLAW (hk_call 60) (fun r _ => r = some (.int 1)) 242 [(3, .int (nI p)), (2, .ref 98), (1, .ref 38), (0, .ref 0)] [] (hw R X) kk nn := by
  obtain ⟨P, z, n, T, L, B, G, H, l, kp, C, M⟩ := inv
  obtain ⟨c1, c2, c3, c4, c5, c6, c7, c8, c9⟩ := id C
  obtain ⟨m1, m2, m3, m4, m5, m6, m7, m8⟩ := id M
  refine hk_run2 (hk_call_m 60) 100 ?_
  refine w_ldx (hn_add p 1) hX (by omega) hS ?_
  refine w_ldx (hn_add p 2) hX (by omega) hS ?_
  refine w_ldx (hn_add p 3) hX (by omega) hS ?_
  refine w_ldx (hn_add p 4) hX (by omega) hS ?_
  refine sp_chat (by decide) c1 (fun R1 K1 f1 => ?_)
  have C1 := CI_P C K1 (now_hat c2) (f70 (by decide) f1)
  have M1 := MI_fr (X' := X) M (fC_c (by decide) f1) rfl
  refine w_ldx (hn_add p 1) hX (by omega) hS ?_
  refine w_ldx (hn_add p 2) hX (by omega) hS ?_
  refine w_ldx (hn_add p 3) hX (by omega) hS ?_
  refine w_ldx (hn_add p 4) hX (by omega) hS ?_
  refine sp_mhat (by decide) M1.1 (fun R2 M2 f2 => ?_)
  refine And.intro (fun _ => ?_) (fun c => absurd rfl c)
  exact hk_stop2 (hk_call_m 60) (K R2 X ⟨_, _, _, _, _, _, _, _, _, _, CI_fr C1 (fM_p f2) rfl, MI_P M1 M2 (mS_p f2) rfl⟩ hX)
set_option maxHeartbeats 1000000 in
set_option maxRecDepth 16384 in
theorem lc_9 {R : Nat → Nat → Int32} {X : hk_D} {S : Nat × (Nat → Int32)} {p kk nn : Nat} (inv : INV R X) (hX : X.2.2.2.2.2.2 = S) (hS : S.1 ≤ 320) (hp : p + 5 ≤ S.1) (K : ∀ R' X', INV R' X' → X'.2.2.2.2.2.2 = S → hk_wp (some .boolean) 217 4215 hk_dft hcdLAW (hk_call 60) (fun r _ => r = some (.int 1)) 1117 [(3, .int (nI p)), (2, .ref 98), (1, .ref 38), (0, .ref 0)] [] (hw R' X') kk nn) : hk_wp (some .boolean) 217 4215 hk_dft hcdLAW (hk_call 60) (fun r _ => r = some (.int 1)) 289 [(3, .int (nI p)), (2, .ref 98), (1, .ref 38), (0, .ref 0)] [] (hw R X) kk nn := by
  obtain ⟨P, z, n, T, L, B, G, H, l, kp, C, M⟩ := inv
  obtain ⟨c1, c2, c3, c4, c5, c6, c7, c8, c9⟩ := id C
  obtain ⟨m1, m2, m3, m4, m5, m6, m7, m8⟩ := id M
  refine hk_run2 (hk_call_m 60) 100 ?_
  refine w_ldx (hn_add p 1) hX (by omega) hS ?_
  refine w_ldx (hn_add p 2) hX (by omega) hS ?_
  refine sp_chatOf (by decide) c1 ?_
  refine w_ldx (hn_add p 1) hX (by omega) hS ?_
  refine w_ldx (hn_add p 2) hX (by omega) hS ?_
  refine sp_mhatOf (by decide) m1 ?_
  refine And.intro (fun _ => ?_) (fun c => absurd rfl c)
  exact hk_stop2 (hk_call_m 60) (K R X ⟨_, _, _, _, _, _, _, _, _, _, C, M⟩ hX)
set_option maxHeartbeats 1000000 in
set_option maxRecDepth 16384 in
theorem lc_10 {R : Nat → Nat → Int32} {X : hk_D} {S : Nat × (Nat → Int32)} {p kk nn : Nat} (inv : INV R X) (hX : X.2.2.2.2.2.2 = S) (hS : S.1 ≤ 320) (hp : p + 5 ≤ S.1) (K : ∀ R' X', INV R' X' → X'.2.2.2.2.2.2 = S → hk_wp (some .boolean) 217 4215 hk_dft hcdLAW (hk_call 60) (fun r _ => r = some (.int 1)) 1117 [(3, .int (nI p)), (2, .ref 98), (1, .ref 38), (0, .ref 0)] [] (hw R' X') kk nn) : hk_wp (some .boolean) 217 4215 hk_dft hcdLAW (hk_call 60) (fun r _ => r = some (.int 1)) 316 [(3, .int (nI p)), (2, .ref 98), (1, .ref 38), (0, .ref 0)] [] (hw R X) kk nn := by
  obtain ⟨P, z, n, T, L, B, G, H, l, kp, C, M⟩ := inv
  obtain ⟨c1, c2, c3, c4, c5, c6, c7, c8, c9⟩ := id C
  obtain ⟨m1, m2, m3, m4, m5, m6, m7, m8⟩ := id M
  refine hk_run2 (hk_call_m 60) 100 ?_
  refine w_ldx (hn_add p 1) hX (by omega) hS ?_
  refine w_ldx (hn_add p 2) hX (by omega) hS ?_
  refine w_ldx (hn_add p 3) hX (by omega) hS ?_
  refine sp_cmake (by decide) c1 (fun R1 K1 f1 => ?_)
  have C1 := CI_P C K1 (now_make c2) (f70 (by decide) f1)
  have M1 := MI_fr (X' := X) M (fC_c (by decide) f1) rfl
  refine w_ldx (hn_add p 1) hX (by omega) hS ?_
  refine w_ldx (hn_add p 2) hX (by omega) hS ?_
  refine w_ldx (hn_add p 3) hX (by omega) hS ?_
  refine sp_mmake (by decide) M1.1 (fun R2 M2 f2 => ?_)
  refine And.intro (fun _ => ?_) (fun c => absurd rfl c)
  exact hk_stop2 (hk_call_m 60) (K R2 X ⟨_, _, _, _, _, _, _, _, _, _, CI_fr C1 (fM_p f2) rfl, MI_P M1 M2 (mS_p f2) rfl⟩ hX)
set_option maxHeartbeats 1000000 in
set_option maxRecDepth 16384 in
theorem lc_11 {R : Nat → Nat → Int32} {X : hk_D} {S : Nat × (Nat → Int32)} {p kk nn : Nat} (inv : INV R X) (hX : X.2.2.2.2.2.2 = S) (hS : S.1 ≤ 320) (hp : p + 5 ≤ S.1) (K : ∀ R' X', INV R' X' → X'.2.2.2.2.2.2 = S → hk_wp (some .boolean) 217 4215 hk_dft hcdLAW (hk_call 60) (fun r _ => r = some (.int 1)) 1117 [(3, .int (nI p)), (2, .ref 98), (1, .ref 38), (0, .ref 0)] [] (hw R' X') kk nn) : hk_wp (some .boolean) 217 4215 hk_dft hcdLAW (hk_call 60) (fun r _ => r = some (.int 1)) 353 [(3, .int (nI p)), (2, .ref 98), (1, .ref 38), (0, .ref 0)] [] (hw R X) kk nn := by
  obtain ⟨P, z, n, T, L, B, G, H, l, kp, C, M⟩ := inv
  obtain ⟨c1, c2, c3, c4, c5, c6, c7, c8, c9⟩ := id C
  obtain ⟨m1, m2, m3, m4, m5, m6, m7, m8⟩ := id M
  refine hk_run2 (hk_call_m 60) 100 ?_
  refine w_ldx (hn_add p 1) hX (by omega) hS ?_
  refine w_ldx (hn_add p 2) hX (by omega) hS ?_
  refine sp_cputs (by decide) c1 (fun R1 K1 f1 => ?_)
  have C1 := CI_P C K1 (now_puts c2) (f70 (by decide) f1)
  have M1 := MI_fr (X' := X) M (fC_c (by decide) f1) rfl
  refine w_ldx (hn_add p 1) hX (by omega) hS ?_
  refine w_ldx (hn_add p 2) hX (by omega) hS ?_
  refine sp_mputs (by decide) M1.1 (fun R2 M2 f2 => ?_)
  refine And.intro (fun _ => ?_) (fun c => absurd rfl c)
  exact hk_stop2 (hk_call_m 60) (K R2 X ⟨_, _, _, _, _, _, _, _, _, _, CI_fr C1 (fM_p f2) rfl, MI_P M1 M2 (mS_p f2) rfl⟩ hX)
set_option maxHeartbeats 1000000 in
set_option maxRecDepth 16384 in
theorem lc_12 {R : Nat → Nat → Int32} {X : hk_D} {S : Nat × (Nat → Int32)} {p kk nn : Nat} (inv : INV R X) (hX : X.2.2.2.2.2.2 = S) (hS : S.1 ≤ 320) (hp : p + 5 ≤ S.1) (K : ∀ R' X', INV R' X' → X'.2.2.2.2.2.2 = S → hk_wp (some .boolean) 217 4215 hk_dft hcdLAW (hk_call 60) (fun r _ => r = some (.int 1)) 1117 [(3, .int (nI p)), (2, .ref 98), (1, .ref 38), (0, .ref 0)] [] (hw R' X') kk nn) : hk_wp (some .boolean) 217 4215 hk_dft hcdLAW (hk_call 60) (fun r _ => r = some (.int 1)) 380 [(3, .int (nI p)), (2, .ref 98), (1, .ref 38), (0, .ref 0)] [] (hw R X) kk nn := by
  obtain ⟨P, z, n, T, L, B, G, H, l, kp, C, M⟩ := inv
  obtain ⟨c1, c2, c3, c4, c5, c6, c7, c8, c9⟩ := id C
  obtain ⟨m1, m2, m3, m4, m5, m6, m7, m8⟩ := id M
  refine hk_run2 (hk_call_m 60) 100 ?_
  refine w_ldx (hn_add p 1) hX (by omega) hS ?_
  refine sp_cdown (by decide) c1 (fun R1 K1 f1 => ?_)
  have C1 := CI_P C K1 (now_down c2) (f70 (by decide) f1)
  have M1 := MI_fr (X' := X) M (fC_c (by decide) f1) rfl
  refine w_ldx (hn_add p 1) hX (by omega) hS ?_
  refine sp_mdown (by decide) M1.1 (fun R2 M2 f2 => ?_)
  refine And.intro (fun _ => ?_) (fun c => absurd rfl c)
  exact hk_stop2 (hk_call_m 60) (K R2 X ⟨_, _, _, _, _, _, _, _, _, _, CI_fr C1 (fM_p f2) rfl, MI_P M1 M2 (mS_p f2) rfl⟩ hX)
set_option maxHeartbeats 1000000 in
set_option maxRecDepth 16384 in
theorem lc_13 {R : Nat → Nat → Int32} {X : hk_D} {S : Nat × (Nat → Int32)} {p kk nn : Nat} (inv : INV R X) (hX : X.2.2.2.2.2.2 = S) (hS : S.1 ≤ 320) (hp : p + 5 ≤ S.1) (K : ∀ R' X', INV R' X' → X'.2.2.2.2.2.2 = S → hk_wp (some .boolean) 217 4215 hk_dft hcdLAW (hk_call 60) (fun r _ => r = some (.int 1)) 1117 [(3, .int (nI p)), (2, .ref 98), (1, .ref 38), (0, .ref 0)] [] (hw R' X') kk nn) : hk_wp (some .boolean) 217 4215 hk_dft hcdLAW (hk_call 60) (fun r _ => r = some (.int 1)) 397 [(3, .int (nI p)), (2, .ref 98), (1, .ref 38), (0, .ref 0)] [] (hw R X) kk nn := by
  obtain ⟨P, z, n, T, L, B, G, H, l, kp, C, M⟩ := inv
  obtain ⟨c1, c2, c3, c4, c5, c6, c7, c8, c9⟩ := id C
  obtain ⟨m1, m2, m3, m4, m5, m6, m7, m8⟩ := id M
  refine hk_run2 (hk_call_m 60) 100 ?_
  refine w_ldx (hn_add p 1) hX (by omega) hS ?_
  refine w_ldx (hn_add p 2) hX (by omega) hS ?_
  refine sp_cfound (by decide) c1 (fun R1 K1 f1 => ?_)
  have C1 := CI_P C K1 (now_found c2) (f70 (by decide) f1)
  have M1 := MI_fr (X' := X) M (fC_c (by decide) f1) rfl
  refine w_ldx (hn_add p 1) hX (by omega) hS ?_
  refine w_ldx (hn_add p 2) hX (by omega) hS ?_
  refine sp_mfound (by decide) M1.1 (fun R2 M2 f2 => ?_)
  refine And.intro (fun _ => ?_) (fun c => absurd rfl c)
  exact hk_stop2 (hk_call_m 60) (K R2 X ⟨_, _, _, _, _, _, _, _, _, _, CI_fr C1 (fM_p f2) rfl, MI_P M1 M2 (mS_p f2) rfl⟩ hX)
set_option maxHeartbeats 1000000 in
set_option maxRecDepth 16384 in
theorem lc_14 {R : Nat → Nat → Int32} {X : hk_D} {S : Nat × (Nat → Int32)} {p kk nn : Nat} (inv : INV R X) (hX : X.2.2.2.2.2.2 = S) (hS : S.1 ≤ 320) (hp : p + 5 ≤ S.1) (K : ∀ R' X', INV R' X' → X'.2.2.2.2.2.2 = S → hk_wp (some .boolean) 217 4215 hk_dft hcdLAW (hk_call 60) (fun r _ => r = some (.int 1)) 1117 [(3, .int (nI p)), (2, .ref 98), (1, .ref 38), (0, .ref 0)] [] (hw R' X') kk nn) : hk_wp (some .boolean) 217 4215 hk_dft hcdLAW (hk_call 60) (fun r _ => r = some (.int 1)) 424 [(3, .int (nI p)), (2, .ref 98), (1, .ref 38), (0, .ref 0)] [] (hw R X) kk nn := by
  obtain ⟨P, z, n, T, L, B, G, H, l, kp, C, M⟩ := inv
  obtain ⟨c1, c2, c3, c4, c5, c6, c7, c8, c9⟩ := id C
  obtain ⟨m1, m2, m3, m4, m5, m6, m7, m8⟩ := id M
  refine hk_run2 (hk_call_m 60) 100 ?_
  refine w_ldx (hn_add p 1) hX (by omega) hS ?_
  refine w_ldx (hn_add p 2) hX (by omega) hS ?_
  refine sp_cbow (by decide) c1 (fun R1 K1 f1 => ?_)
  have C1 := CI_P C K1 (now_bow c2) (f70 (by decide) f1)
  have M1 := MI_fr (X' := X) M (fC_c (by decide) f1) rfl
  refine w_ldx (hn_add p 1) hX (by omega) hS ?_
  refine w_ldx (hn_add p 2) hX (by omega) hS ?_
  refine sp_mbow (by decide) M1.1 (fun R2 M2 f2 => ?_)
  refine And.intro (fun _ => ?_) (fun c => absurd rfl c)
  exact hk_stop2 (hk_call_m 60) (K R2 X ⟨_, _, _, _, _, _, _, _, _, _, CI_fr C1 (fM_p f2) rfl, MI_P M1 M2 (mS_p f2) rfl⟩ hX)
set_option maxHeartbeats 1000000 in
set_option maxRecDepth 16384 in
theorem lc_15 {R : Nat → Nat → Int32} {X : hk_D} {S : Nat × (Nat → Int32)} {p kk nn : Nat} (inv : INV R X) (hX : X.2.2.2.2.2.2 = S) (hS : S.1 ≤ 320) (hp : p + 5 ≤ S.1) (K : ∀ R' X', INV R' X' → X'.2.2.2.2.2.2 = S → hk_wp (some .boolean) 217 4215 hk_dft hcdLAW (hk_call 60) (fun r _ => r = some (.int 1)) 1117 [(3, .int (nI p)), (2, .ref 98), (1, .ref 38), (0, .ref 0)] [] (hw R' X') kk nn) : hk_wp (some .boolean) 217 4215 hk_dft hcdLAW (hk_call 60) (fun r _ => r = some (.int 1)) 451 [(3, .int (nI p)), (2, .ref 98), (1, .ref 38), (0, .ref 0)] [] (hw R X) kk nn := by
  obtain ⟨P, z, n, T, L, B, G, H, l, kp, C, M⟩ := inv
  obtain ⟨c1, c2, c3, c4, c5, c6, c7, c8, c9⟩ := id C
  obtain ⟨m1, m2, m3, m4, m5, m6, m7, m8⟩ := id M
  refine hk_run2 (hk_call_m 60) 100 ?_
  refine w_ldx (hn_add p 1) hX (by omega) hS ?_
  refine sp_chours (by decide) c1 (fun R1 K1 f1 => ?_)
  have C1 := CI_P C K1 (now_hours c2) (f70 (by decide) f1)
  have M1 := MI_fr (X' := X) M (fC_c (by decide) f1) rfl
  refine w_ldx (hn_add p 1) hX (by omega) hS ?_
  refine sp_mhours (by decide) M1.1 (fun R2 M2 f2 => ?_)
  refine And.intro (fun _ => ?_) (fun c => absurd rfl c)
  exact hk_stop2 (hk_call_m 60) (K R2 X ⟨_, _, _, _, _, _, _, _, _, _, CI_fr C1 (fM_p f2) rfl, MI_P M1 M2 (mS_p f2) rfl⟩ hX)
