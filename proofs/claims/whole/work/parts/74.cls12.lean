/-! THE CLASS: it reads -/
set_option maxHeartbeats 400000 in
theorem sp_tword {d : Nat} (hd : 5 < d) {R : Nat → Nat → Int32} {X : hk_D} {Q : hk_Q} {L : Nat} {B : Nat → Nat} {σ : hPs} {i : Nat} (T : hf_tc L B R) (C : hf_CT L B σ R) (hi : i < 17) (hQ : ∀ R', hf_CT L B (p_word L B i σ) R' → hf87 R R' → Q none (hw R' X)) : hk_call d mT_word [.ref 87, .ref (4 + i)] (hw R X) Q := by
  obtain ⟨d, rfl⟩ : ∃ e, d = e + 1 := ⟨d - 1, by omega⟩
  refine hk_run2 (hk_call_m d) 100 ?_
  refine sp_tspells (by omega) T C hi (fun q => ?_) (fun q => ?_)
  · refine And.intro (fun c => absurd c (by decide)) (fun _ => ?_)
    rw [show p_word L B i σ = p_step L B σ from if_pos q] at hQ
    exact sp_tstep2 (by omega) T C (fun R' C' f => hk_qe_of (hQ R' C' f))
  · refine And.intro (fun _ => ?_) (fun c => absurd rfl c)
    rw [show p_word L B i σ = p_fail σ from if_neg q] at hQ
    exact sp_tfail (by omega) T.1 C (fun R' C' f => hk_qe_of (hQ R' C' f))
set_option maxHeartbeats 400000 in
theorem sp_tsemi {d : Nat} (hd : 2 < d) {R : Nat → Nat → Int32} {X : hk_D} {Q : hk_Q} {L : Nat} {B : Nat → Nat} {σ : hPs} (T : hf_tc L B R) (C : hf_CT L B σ R) (hQ : ∀ R', hf_CT L B (p_semi L B σ) R' → hf87 R R' → Q none (hw R' X)) : hk_call d mT_semicolon [.ref 87] (hw R X) Q := by
  obtain ⟨d, rfl⟩ : ∃ e, d = e + 1 := ⟨d - 1, by omega⟩
  have hL := T.1
  obtain ⟨c2, c3, c4, c5, w, hf⟩ := C
  have C : hf_CT L B σ R := ⟨c2, c3, c4, c5, w, hf⟩
  have s3 := w.2.2.1
  refine hk_run2 (hk_call_m d) 100 ?_
  refine And.intro (fun c => ?_) (fun c => ?_)
  · rw [c2] at c
    have s1 : σ.1.2.1 = 3 := (nI_eq (b := 3) (by omega) (by omega)).mp c
    have bl := w.2.2.2.2.2.2 s1
    refine w_ld (j := σ.1.1) (n := 200) c3 rfl (by omega) (by omega) rfl (T.2.2.1 _ bl) ?_
    have h59 := (hb_c (B σ.1.1) (T.2.2.2 _)).2.1
    refine And.intro (fun c1 => ?_) (fun c1 => ?_)
    · rw [show p_semi L B σ = p_step L B σ from if_pos ⟨s1, h59.mp c1⟩] at hQ
      exact sp_tstep2 (by omega) T C (fun R' C' f => hk_qe_of (hQ R' C' f))
    · rw [show p_semi L B σ = p_fail σ from if_neg (fun z => c1 (h59.mpr z.2))] at hQ
      exact sp_tfail (by omega) T.1 C (fun R' C' f => hk_qe_of (hQ R' C' f))
  · rw [c2] at c
    rw [show p_semi L B σ = p_fail σ from if_neg (fun z => c (by rw [z.1]; rfl))] at hQ
    exact sp_tfail (by omega) T.1 C (fun R' C' f => hk_qe_of (hQ R' C' f))
set_option maxHeartbeats 1000000 in
theorem sp_tnumber {d : Nat} (hd : 2 < d) {R : Nat → Nat → Int32} {X : hk_D} {Q : hk_Q} {L : Nat} {B : Nat → Nat} {σ : hPs} {M : Nat} {v : Int32} (T : hf_tc L B R) (C : hf_CT L B σ R) (ev : v = nI M - 1) (hM : M ≤ 100) (hQ : ∀ R', hf_CT L B (p_num L B M σ).2 R' → hf87 R R' → Q (some (.int (nI (p_num L B M σ).1))) (hw R' X)) : hk_call d mT_number [.ref 87, .int v] (hw R X) Q := by
  obtain ⟨d, rfl⟩ : ∃ e, d = e + 1 := ⟨d - 1, by omega⟩
  subst ev
  have hL := T.1
  obtain ⟨c2, c3, c4, c5, w, hf⟩ := C
  have C : hf_CT L B σ R := ⟨c2, c3, c4, c5, w, hf⟩
  have s3 := w.2.2.1
  have b1 := w.1
  have b2 := w.2.1
  have bad : hf_nu B σ.1 = 1000 → ∀ R', hf_CT L B (p_fail σ) R' → hf87 R R' → Q (some (.int 0)) (hw R' X) := fun e R' C' f => by
    rw [show p_num L B M σ = (0, p_fail σ) from if_neg (by omega)] at hQ
    exact hQ R' C' f
  refine hk_run2 (hk_call_m d) 100 ?_
  refine And.intro (fun c => ?_) (fun c => ?_)
  · rw [c2] at c
    have s2 : σ.1.2.1 = 2 := (nI_eq (b := 2) (by omega) (by omega)).mp c
    have lt := w.2.2.2.1 (by omega)
    obtain ⟨v1, v2⟩ := vv_nu w s2
    refine And.intro (fun c1 => ?_) (fun c1 => ?_)
    · rw [c4, c3, hn_sub b1 (by omega)] at c1
      have c1 : nI (σ.1.2.2 - σ.1.1) ≤ nI 2 := c1
      rw [nI_leI (by omega) (by omega)] at c1
      obtain ⟨e1, e2⟩ := v1 c1
      have dg : ∀ j, j < σ.1.2.2 - σ.1.1 → B (σ.1.1 + j) < 128 := fun j hj => by
        have z := ts_2.mp ((w.2.2.2.2.1 (Or.inr s2) (σ.1.1 + j) (by omega) (by omega)).trans s2)
        omega
      have Lp : ∀ j, j ≤ σ.1.2.2 - σ.1.1 → hk_wp (some .int) 0 0 hk_dft cT_number (hk_call d) (hk_qe Q) 20 [(3, .int (nI (σ.1.1 + j))), (2, .int (vv B σ.1.1 j)), (0, .ref 87), (1, .int (nI M - 1))] [] (hw R X) 0 0 := by
        refine hk_for ?_ ?_
        · refine hk_run2 (hk_call_m d) 100 ?_
          refine And.intro (fun c => ?_) (fun c => absurd (by rw [c4]; exact nI_le (by omega) (by omega)) c)
          have sb : (nI M - 1).toInt = (M : Int) - 1 := pk_sub_toInt (a := M) (b := 1) (by omega) (by omega)
          refine And.intro (fun c5 => ?_) (fun c5 => ?_)
          · rw [e1, hn_le, hn_i (by omega), sb] at c5
            rw [show p_num L B M σ = (hf_nu B σ.1, p_step L B σ) from if_pos (by omega)] at hQ
            refine sp_tstep2 (by omega) T C (fun R' C' f => ?_)
            refine hk_qe_of ?_
            rw [e1]
            exact hQ R' C' f
          · rw [e1, hn_le, hn_i (by omega), sb] at c5
            rw [show p_num L B M σ = (0, p_fail σ) from if_neg (by omega)] at hQ
            exact sp_tfail (by omega) T.1 C (fun R' C' f => hk_qe_of (hQ R' C' f))
        · intro j hj ih
          refine hk_run2 (hk_call_m d) 100 ?_
          refine And.intro (fun c => absurd c (by rw [c4]; exact nI_ge (by omega) (by omega))) (fun c => ?_)
          refine w_ld (j := σ.1.1 + j) (n := 200) rfl rfl (by omega) (by omega) rfl (T.2.2.1 _ (by omega)) ?_
          refine Exists.intro [0, 1, 2, 3] ?_
          rw [nI_1, (hb_c (B (σ.1.1 + j)) (T.2.2.2 _)).2.2.2.2.1 (dg j hj)]
          rw [vv, if_pos (by omega)] at ih
          exact hk_stop2 (hk_call_m d) ih
      refine hk_stop2 (hk_call_m d) (hk_run2 (hk_call_m d) 5 ?_)
      have l0 := Lp 0 (Nat.zero_le _)
      rw [Nat.add_zero, ← c3] at l0
      exact l0
    · rw [c4, c3, hn_sub b1 (by omega)] at c1
      have c1 : ¬ nI (σ.1.2.2 - σ.1.1) ≤ nI 2 := c1
      rw [nI_leI (by omega) (by omega)] at c1
      exact sp_tfail (by omega) T.1 C (fun R' C' f => hk_qe_of (bad (v2 c1).2 R' C' f))
  · rw [c2] at c
    have s2 : ¬ σ.1.2.1 = 2 := fun z => c (by rw [z]; rfl)
    refine sp_tfail (by omega) T.1 C (fun R' C' f => hk_qe_of (bad ?_ R' C' f))
    unfold hf_nu
    rw [if_neg (fun z => s2 z.1)]
set_option maxHeartbeats 400000 in
theorem sp_tkindNamed {d : Nat} (hd : 5 < d) {R : Nat → Nat → Int32} {X : hk_D} {Q : hk_Q} {L : Nat} {B : Nat → Nat} {σ : hPs} (T : hf_tc L B R) (C : hf_CT L B σ R) (hQ : Q (some (.int (hf_bI (hf_kn B σ.1)))) (hw R X)) : hk_call d mT_kindNamed [.ref 87] (hw R X) Q := by
  obtain ⟨d, rfl⟩ : ∃ e, d = e + 1 := ⟨d - 1, by omega⟩
  unfold hf_kn at hQ
  refine hk_run2 (hk_call_m d) 100 ?_
  refine sp_tspells (i := 0) (by omega) T C (by omega) (fun q0 => ?_) (fun q0 => ?_)
  · refine And.intro (fun c => absurd c (by decide)) (fun _ => ?_)
    rw [q0] at hQ
    exact hk_qe_of hQ
  · refine And.intro (fun _ => ?_) (fun c => absurd rfl c)
    refine sp_tspells (i := 1) (by omega) T C (by omega) (fun q1 => ?_) (fun q1 => ?_)
    · refine And.intro (fun c => absurd c (by decide)) (fun _ => ?_)
      rw [q1] at hQ
      exact hk_qe_of hQ
    · refine And.intro (fun _ => ?_) (fun c => absurd rfl c)
      refine sp_tspells (i := 2) (by omega) T C (by omega) (fun q2 => ?_) (fun q2 => ?_)
      · refine And.intro (fun c => absurd c (by decide)) (fun _ => ?_)
        rw [q2] at hQ
        exact hk_qe_of hQ
      · refine And.intro (fun _ => ?_) (fun c => absurd rfl c)
        refine sp_tspells (i := 3) (by omega) T C (by omega) (fun q3 => ?_) (fun q3 => ?_)
        · refine And.intro (fun c => absurd c (by decide)) (fun _ => ?_)
          rw [q3] at hQ
          exact hk_qe_of hQ
        · refine And.intro (fun _ => ?_) (fun c => absurd rfl c)
          refine sp_tspells (i := 4) (by omega) T C (by omega) (fun q4 => ?_) (fun q4 => ?_)
          · refine And.intro (fun c => absurd c (by decide)) (fun _ => ?_)
            rw [q4] at hQ
            exact hk_qe_of hQ
          · refine And.intro (fun _ => ?_) (fun c => absurd rfl c)
            refine sp_tspells (i := 5) (by omega) T C (by omega) (fun q5 => ?_) (fun q5 => ?_)
            · refine And.intro (fun c => absurd c (by decide)) (fun _ => ?_)
              rw [q5] at hQ
              exact hk_qe_of hQ
            · refine And.intro (fun _ => ?_) (fun c => absurd rfl c)
              rw [if_neg (by omega)] at hQ
              exact hk_qe_of hQ
set_option maxHeartbeats 400000 in
theorem sp_tdirNamed {d : Nat} (hd : 5 < d) {R : Nat → Nat → Int32} {X : hk_D} {Q : hk_Q} {L : Nat} {B : Nat → Nat} {σ : hPs} (T : hf_tc L B R) (C : hf_CT L B σ R) (hQ : Q (some (.int (hf_bI (hf_dn B σ.1)))) (hw R X)) : hk_call d mT_directionNamed [.ref 87] (hw R X) Q := by
  obtain ⟨d, rfl⟩ : ∃ e, d = e + 1 := ⟨d - 1, by omega⟩
  unfold hf_dn at hQ
  refine hk_run2 (hk_call_m d) 100 ?_
  refine sp_tspells (i := 12) (by omega) T C (by omega) (fun q0 => ?_) (fun q0 => ?_)
  · refine And.intro (fun c => absurd c (by decide)) (fun _ => ?_)
    rw [q0] at hQ
    exact hk_qe_of hQ
  · refine And.intro (fun _ => ?_) (fun c => absurd rfl c)
    refine sp_tspells (i := 13) (by omega) T C (by omega) (fun q1 => ?_) (fun q1 => ?_)
    · refine And.intro (fun c => absurd c (by decide)) (fun _ => ?_)
      rw [q1] at hQ
      exact hk_qe_of hQ
    · refine And.intro (fun _ => ?_) (fun c => absurd rfl c)
      refine sp_tspells (i := 14) (by omega) T C (by omega) (fun q2 => ?_) (fun q2 => ?_)
      · refine And.intro (fun c => absurd c (by decide)) (fun _ => ?_)
        rw [q2] at hQ
        exact hk_qe_of hQ
      · refine And.intro (fun _ => ?_) (fun c => absurd rfl c)
        refine sp_tspells (i := 15) (by omega) T C (by omega) (fun q3 => ?_) (fun q3 => ?_)
        · refine And.intro (fun c => absurd c (by decide)) (fun _ => ?_)
          rw [q3] at hQ
          exact hk_qe_of hQ
        · refine And.intro (fun _ => ?_) (fun c => absurd rfl c)
          rw [if_neg (by omega)] at hQ
          exact hk_qe_of hQ
/-- only the tape's place and the trial have changed -/
def hfT (R R' : Nat → Nat → Int32) : Prop := ∀ a k, ¬ (a = 87 ∧ 2 ≤ k) → ¬ (55 ≤ a ∧ a ≤ 70) → R' a k = R a k
theorem hfT_rf {R : Nat → Nat → Int32} : hfT R R := fun _ _ _ _ => rfl
theorem hfT_tr {R R1 R2 : Nat → Nat → Int32} (h1 : hfT R R1) (h2 : hfT R1 R2) : hfT R R2 := fun a k q1 q2 => (h2 a k q1 q2).trans (h1 a k q1 q2)
theorem hfT_7 {R R' : Nat → Nat → Int32} (h : hf87 R R') : hfT R R' := fun a k q _ => h a k q
theorem hfT_c {R R' : Nat → Nat → Int32} (h : hfc 1 R R') : hfT R R' := fun a k _ q => h a k (by omega)
theorem hf_tc_T {L : Nat} {B : Nat → Nat} {R R' : Nat → Nat → Int32} (T : hf_tc L B R) (f : hfT R R') : hf_tc L B R' := ⟨T.1, (f _ _ (by omega) (by omega)).trans T.2.1, fun j hj => (f _ _ (by omega) (by omega)).trans (T.2.2.1 j hj), T.2.2.2⟩
theorem hf_K_7 {P : hP} {R R' : Nat → Nat → Int32} (K : hf_K 1 P R) (f : hf87 R R') : hf_K 1 P R' := hf_K_fr K (fun a k z => f a k (by omega))
theorem hf_CT_c {L : Nat} {B : Nat → Nat} {σ : hPs} {R R' : Nat → Nat → Int32} (C : hf_CT L B σ R) (f : ∀ k, R' 87 k = R 87 k) : hf_CT L B σ R' := ⟨(f _).trans C.1, (f _).trans C.2.1, (f _).trans C.2.2.1, (f _).trans C.2.2.2.1, C.2.2.2.2⟩
theorem hf_CT_s {L : Nat} {B : Nat → Nat} {σ σ' : hPs} {R : Nat → Nat → Int32} (C : hf_CT L B σ R) (e1 : σ'.1 = σ.1) (e2 : σ'.2.1 = σ.2.1) : hf_CT L B σ' R := by
  unfold hf_CT at C ⊢
  rw [e1, e2]; exact C
set_option maxHeartbeats 400000 in
theorem sp_treadPerson {d : Nat} (hd : 5 < d) {R : Nat → Nat → Int32} {X : hk_D} {Q : hk_Q} {L : Nat} {B : Nat → Nat} {σ : hPs} (T : hf_tc L B R) (C : hf_CT L B σ R) (K : hf_K 1 σ.2.2 R) (hn : σ.2.2 2 0 < 5) (hQ : ∀ R', hf_CT L B (p_perT L B (p_step L B σ)) R' → hf_K 1 (p_perT L B (p_step L B σ)).2.2 R' → hfT R R' → Q none (hw R' X)) : hk_call d mT_readPerson [.ref 87, .ref 55] (hw R X) Q := by
  obtain ⟨d, rfl⟩ : ∃ e, d = e + 1 := ⟨d - 1, by omega⟩
  unfold p_perT at hQ
  refine hk_run2 (hk_call_m d) 100 ?_
  refine sp_tstep2 (by omega) T C (fun R1 C1 f1 => ?_)
  have K1 : hf_K 1 (p_step L B σ).2.2 R1 := hf_K_7 K f1
  have hn1 : (p_step L B σ).2.2 2 0 < 5 := hn
  generalize p_step L B σ = S1 at C1 K1 hn1 hQ
  refine sp_tnumber (M := 25) (by omega) (hf_tc_f T f1) C1 (by decide) (by omega) (fun R2 C2 f2 => ?_)
  have l2 := p_num_lt (L := L) (B := B) (M := 25) (σ := S1) (by decide)
  have P2 := p_num_P (L := L) (B := B) (M := 25) (σ := S1)
  generalize p_num L B 25 S1 = N1 at C2 l2 P2 hQ
  have f02 := hf87_tr f1 f2
  have K2 := hf_K_7 K1 f2
  have tail : ∀ R3, hf_CT L B (p_sp L B N1.2).2 R3 → hf87 R R3 → hk_wp none 0 0 hk_dft cT_readPerson (hk_call d) (hk_qe Q) 18 [(3, .int (nI (p_sp L B N1.2).1)), (2, .int (nI N1.1)), (0, .ref 87), (1, .ref 55)] [] (hw R3 X) 0 0 := by
    intro R3 C3 f3
    have l3 := p_sp_lt (L := L) (B := B) (σ := N1.2)
    have P3 := p_sp_P (L := L) (B := B) (σ := N1.2)
    generalize p_sp L B N1.2 = N2 at C3 l3 P3 hQ ⊢
    refine hk_run2 (hk_call_m d) 100 ?_
    refine sp_tsemi (by omega) (hf_tc_f T f3) C3 (fun R4 C4 f4 => ?_)
    have K4 := hf_K_7 K (hf87_tr f3 f4)
    have PP : (p_semi L B N2.2).2.2 = S1.2.2 := (p_semi_P (L := L) (B := B) (σ := N2.2)).trans (P3.trans P2)
    generalize p_semi L B N2.2 = S4 at C4 PP hQ
    have e0 : σ.2.2 = S1.2.2 ∨ True := Or.inr trivial
    have K4' : hf_K 1 S1.2.2 R4 := hf_K_fr K1 (fun a k z => by rw [f4 a k (by omega), f3 a k (by omega), f1 a k (by omega)])
    refine sp_paddPerson_1 (by omega) K4' hn1 rfl rfl l2 l3 (fun R5 K5 f5 => ?_)
    refine hk_qe_of (hQ R5 (hf_CT_s (hf_CT_c C4 (fun k => f5 87 k (by omega))) rfl rfl) ?_ (hfT_tr (hfT_7 (hf87_tr f3 f4)) (hfT_c f5)))
    show hf_K 1 (hf_addp S4.2.2 N1.1 N2.1) R5
    rw [PP]; exact K5
  refine sp_tspells (i := 10) (by omega) (hf_tc_f T f02) C2 (by omega) (fun q => ?_) (fun q => ?_)
  · refine And.intro (fun c => absurd c (by decide)) (fun _ => ?_)
    refine sp_tstep2 (by omega) (hf_tc_f T f02) C2 (fun R3 C3 f3 => ?_)
    refine sp_tnumber (M := 4) (by omega) (hf_tc_f T (hf87_tr f02 f3)) C3 (by decide) (by omega) (fun R4 C4 f4 => ?_)
    have es : p_sp L B N1.2 = p_num L B 4 (p_step L B N1.2) := if_pos q
    rw [← es] at C4 ⊢
    exact w_rv (hk_stop2 (hk_call_m d) (hk_run2 (hk_call_m d) 1 (tail R4 C4 (hf87_tr (hf87_tr f02 f3) f4))))
  · refine And.intro (fun _ => ?_) (fun c => absurd rfl c)
    have es : p_sp L B N1.2 = (1, N1.2) := if_neg q
    have t := tail R2 (by rw [es]; exact C2) f02
    rw [es] at t
    exact hk_stop2 (hk_call_m d) t
set_option maxHeartbeats 400000 in
theorem sp_treadWind {d : Nat} (hd : 6 < d) {R : Nat → Nat → Int32} {X : hk_D} {Q : hk_Q} {L : Nat} {B : Nat → Nat} {σ : hPs} (T : hf_tc L B R) (C : hf_CT L B σ R) (K : hf_K 1 σ.2.2 R) (hQ : ∀ R', hf_CT L B (p_winT L B (p_step L B σ)) R' → hf_K 1 (p_winT L B (p_step L B σ)).2.2 R' → (p_winT L B (p_step L B σ)).2.2 4 0 = σ.2.2 4 0 → hfT R R' → Q none (hw R' X)) : hk_call d mT_readWind [.ref 87, .ref 55] (hw R X) Q := by
  obtain ⟨d, rfl⟩ : ∃ e, d = e + 1 := ⟨d - 1, by omega⟩
  unfold p_winT at hQ
  refine hk_run2 (hk_call_m d) 100 ?_
  refine sp_tstep2 (by omega) T C (fun R1 C1 f1 => ?_)
  have K1 : hf_K 1 (p_step L B σ).2.2 R1 := hf_K_7 K f1
  have e4 : (p_step L B σ).2.2 4 0 = σ.2.2 4 0 := rfl
  generalize p_step L B σ = S1 at C1 K1 hQ e4
  refine sp_tnumber (M := 24) (by omega) (hf_tc_f T f1) C1 (by decide) (by omega) (fun R2 C2 f2 => ?_)
  have l2 := p_num_lt (L := L) (B := B) (M := 24) (σ := S1) (by decide)
  have P2 := p_num_P (L := L) (B := B) (M := 24) (σ := S1)
  generalize p_num L B 24 S1 = N1 at C2 l2 P2 hQ
  have f02 := hf87_tr f1 f2
  have K2 : hf_K 1 N1.2.2.2 R2 := by rw [P2]; exact hf_K_7 K1 f2
  rw [← P2] at e4
  refine sp_tdirNamed (by omega) (hf_tc_f T f02) C2 ?_
  by_cases q : hf_dn B N1.2.1 = 99
  · rw [if_pos q] at hQ
    rw [q]
    refine And.intro (fun c => absurd c (by decide)) (fun _ => ?_)
    refine sp_tfail (by omega) T.1 C2 (fun R3 C3 f3 => ?_)
    exact hk_qe_of (hQ R3 C3 (hf_K_7 K2 f3) e4 (hfT_7 (hf87_tr f02 f3)))
  · rw [if_neg q] at hQ
    unfold p_winU at hQ
    have dl := hf_dn_lt q
    rw [show hf_bI (hf_dn B N1.2.1) = nI (hf_dn B N1.2.1) from if_neg q]
    generalize hf_dn B N1.2.1 = dn at dl hQ ⊢
    refine And.intro (fun _ => ?_) (fun c => absurd (hn_pos (by omega)) c)
    refine sp_tstep2 (by omega) (hf_tc_f T f02) C2 (fun R3 C3 f3 => ?_)
    have K3 : hf_K 1 (p_step L B N1.2).2.2 R3 := hf_K_7 K2 f3
    have e4' : (p_step L B N1.2).2.2 4 0 = σ.2.2 4 0 := e4
    generalize p_step L B N1.2 = S2 at C3 K3 hQ e4'
    refine sp_tnumber (M := 10) (by omega) (hf_tc_f T (hf87_tr f02 f3)) C3 (by decide) (by omega) (fun R4 C4 f4 => ?_)
    have l4 := p_num_lt (L := L) (B := B) (M := 10) (σ := S2) (by decide)
    have P4 := p_num_P (L := L) (B := B) (M := 10) (σ := S2)
    generalize p_num L B 10 S2 = N2 at C4 l4 P4 hQ
    have K4 : hf_K 1 N2.2.2.2 R4 := by rw [P4]; exact hf_K_7 K3 f4
    rw [← P4] at e4'
    refine sp_psetWind_1 (by omega) rfl l2 ?_
    have f5 : hfc 1 R4 (up2 (up2 R4 56 N1.1 (nI dn)) 57 N1.1 (nI N2.1)) := hfc_tr (hfc_up (by omega)) (hfc_up (by omega))
    have K5 : hf_K 1 (hf_w N2.2.2.2 N1.1 dn N2.1) (up2 (up2 R4 56 N1.1 (nI dn)) 57 N1.1 (nI N2.1)) := hf_K_wind K4 dl l4
    have C5 : hf_CT L B (p_set (fun P => hf_w P N1.1 dn N2.1) N2.2) (up2 (up2 R4 56 N1.1 (nI dn)) 57 N1.1 (nI N2.1)) := hf_CT_s (hf_CT_c C4 (fun k => f5 87 k (by omega))) rfl rfl
    have fT : hfT R (up2 (up2 R4 56 N1.1 (nI dn)) 57 N1.1 (nI N2.1)) := hfT_tr (hfT_7 (hf87_tr (hf87_tr f02 f3) f4)) (hfT_c f5)
    refine sp_tsemi (by omega) (hf_tc_T T fT) C5 (fun R6 C6 f6 => ?_)
    refine hk_qe_of (hQ R6 C6 ?_ ?_ (hfT_tr fT (hfT_7 f6)))
    · rw [p_semi_P]; exact hf_K_7 K5 f6
    · rw [p_semi_P]; exact e4'
set_option maxHeartbeats 1000000 in
theorem sp_treadHat {d : Nat} (hd : 6 < d) {R : Nat → Nat → Int32} {X : hk_D} {Q : hk_Q} {L : Nat} {B : Nat → Nat} {σ : hPs} {v : Int32} {k : Nat} (T : hf_tc L B R) (C : hf_CT L B σ R) (K : hf_K 1 σ.2.2 R) (hn : σ.2.2 3 0 < 6) (ev : v = nI k) (hk : k < 6) (hQ : ∀ R', hf_CT L B (p_hatT L B k (p_step L B σ)) R' → ((p_hatT L B k (p_step L B σ)).2.1 = 999 → hf_K 1 (p_hatT L B k (p_step L B σ)).2.2 R') → (p_hatT L B k (p_step L B σ)).2.2 4 0 = σ.2.2 4 0 → hfT R R' → Q none (hw R' X)) : hk_call d mT_readHat [.ref 87, .ref 55, .int v] (hw R X) Q := by
  obtain ⟨d, rfl⟩ : ∃ e, d = e + 1 := ⟨d - 1, by omega⟩
  subst ev
  have hL := T.1
  unfold p_hatT at hQ
  refine hk_run2 (hk_call_m d) 200 ?_
  refine sp_tstep2 (by omega) T C (fun R1 C1 f1 => ?_)
  have K1 : hf_K 1 (p_step L B σ).2.2 R1 := hf_K_7 K f1
  have e4 : (p_step L B σ).2.2 = σ.2.2 := rfl
  generalize p_step L B σ = S1 at C1 K1 hQ e4
  refine sp_tnumber (M := 10) (by omega) (hf_tc_f T f1) C1 (by decide) (by omega) (fun R2 C2 f2 => ?_)
  have l2 := p_num_lt (L := L) (B := B) (M := 10) (σ := S1) (by decide)
  have P2 := p_num_P (L := L) (B := B) (M := 10) (σ := S1)
  generalize p_num L B 10 S1 = N1 at C2 l2 P2 hQ
  have f02 := hf87_tr f1 f2
  refine sp_tword (i := 6) (by omega) (hf_tc_f T f02) C2 (by omega) (fun R3 C3 f3 => ?_)
  have P3 := p_word_P (L := L) (B := B) (i := 6) (σ := N1.2)
  generalize p_word L B 6 N1.2 = W1 at C3 P3 hQ
  have f03 := hf87_tr f02 f3
  refine sp_tnumber (M := 100) (by omega) (hf_tc_f T f03) C3 (by decide) (by omega) (fun R4 C4 f4 => ?_)
  have l4 := p_num_lt (L := L) (B := B) (M := 100) (σ := W1) (by decide)
  have P4 := p_num_P (L := L) (B := B) (M := 100) (σ := W1)
  generalize p_num L B 100 W1 = N2 at C4 l4 P4 hQ
  have f04 := hf87_tr f03 f4
  have PP : N2.2.2.2 = σ.2.2 := by rw [P4, P3, P2, e4]
  clear P2 P3 P4 e4 K1 C1 C2 C3
  have K4 := hf_K_7 K f04
  have n5 := K.2.1
  have ha : hHat (65 + σ.2.2 3 0) := by unfold hHat; omega
  refine sp_paddHat_1 (by omega) K4 hn (fun R5 fr5 r5 r0 r1 r2 => ?_)
  refine And.intro (vp_in_nI (N := 6) (by omega) (by omega)) ?_
  rw [nI_clamp (by omega)]
  have f45 : hfc 1 R4 R5 := fun a j z => fr5 a j (by omega) (by omega)
  have fT5 : hfT R R5 := hfT_tr (hfT_7 f04) (hfT_c f45)
  have C5 : hf_CT L B N2.2 R5 := hf_CT_c C4 (fun k => f45 87 k (by omega))
  have r4 : R5 55 4 = nI (N2.2.2.2 2 0) := by rw [PP, fr5 55 4 (by omega) (by omega)]; exact K4.1.1
  -- the end
  have tail : ∀ R6, hf_CT L B (p_wh L B N2.2).2 R6 → hfT R R6 → (∀ b l, ¬ b = 65 + σ.2.2 3 0 → ¬ (b = 87 ∧ 2 ≤ l) → R6 b l = R5 b l) → R6 (65 + σ.2.2 3 0) 0 = nI k → R6 (65 + σ.2.2 3 0) 1 = nI N1.1 → R6 (65 + σ.2.2 3 0) 2 = nI N2.1 → R6 (65 + σ.2.2 3 0) 3 = hf_cw (p_wh L B N2.2).1 → R6 (65 + σ.2.2 3 0) 4 = hf_cs (p_wh L B N2.2).1 → hk_wp none 0 0 hk_dft cT_readHat (hk_call d) (hk_qe Q) 43 [(4, .ref (65 + σ.2.2 3 0)), (3, .int (nI N1.1)), (0, .ref 87), (1, .ref 55), (2, .int (nI k))] [] (hw R6 X) 0 0 := by
    intro R6 C6 fT6 fr6 q0 q1 q2 q3 q4
    have oW := fun z => p_ok_wh (L := L) (B := B) (σ := N2.2) z
    have bW := fun z => p_wh_b (L := L) (B := B) (σ := N2.2) z C5.2.2.2.2.1 hL
    have PW := (p_wh_P (L := L) (B := B) (σ := N2.2)).trans PP
    rw [PP] at bW
    generalize p_wh L B N2.2 = N3 at C6 q3 q4 oW bW PW hQ
    refine hk_run2 (hk_call_m d) 100 ?_
    refine sp_tsemi (by omega) (hf_tc_T T fT6) C6 (fun R7 C7 f7 => ?_)
    have oS := fun z => p_ok_semi (L := L) (B := B) (σ := N3.2) z
    have PS := (p_semi_P (L := L) (B := B) (σ := N3.2)).trans PW
    generalize p_semi L B N3.2 = S4 at C7 oS PS hQ
    refine hk_qe_of (hQ R7 (hf_CT_s C7 rfl rfl) (fun h => ?_) ?_ (hfT_tr fT6 (hfT_7 f7)))
    · show hf_K 1 (hf_addh S4.2.2 k N1.1 N2.1 N3.1) R7
      rw [PS]
      have bb := bW (oS h)
      have Kk : hf_K 1 σ.2.2 (fun b l => if b = 87 then R7 b l else R4 b l) := hf_K_fr K4 (fun a k z => if_neg (by omega))
      refine hf_K_addh Kk hn hk l2 l4 (by rcases bb with z | z; exact Or.inl z; exact Or.inr (Or.inl z)) (fun b l z1 z2 => ?_) ?_ ?_ ?_ ?_ ?_ ?_
      · show R7 b l = if b = 87 then R7 b l else R4 b l
        by_cases h87 : b = 87
        · rw [if_pos h87]
        · rw [if_neg h87, f7 b l (by omega), fr6 b l z1 (by omega)]; exact fr5 b l z1 z2
      · rw [f7 _ _ (by omega), fr6 _ _ (by omega) (by omega)]; exact r5
      · rw [f7 _ _ (by omega)]; exact q0
      · rw [f7 _ _ (by omega)]; exact q1
      · rw [f7 _ _ (by omega)]; exact q2
      · rw [f7 _ _ (by omega)]; exact q3
      · rw [f7 _ _ (by omega)]; exact q4
    · show hf_addh S4.2.2 k N1.1 N2.1 N3.1 4 0 = σ.2.2 4 0
      rw [PS, hf_addh_r (by decide) (by decide) (by decide) (by decide) (by decide)]
  refine sp_tspells (i := 7) (by omega) (hf_tc_T T fT5) C5 (by omega) (fun q => ?_) (fun q => ?_)
  · refine And.intro (fun c => absurd c (by decide)) (fun _ => ?_)
    have es : p_wh L B N2.2 = (25 + (p_num L B (N2.2.2.2 2 0) (p_step L B N2.2)).1, (p_num L B (N2.2.2.2 2 0) (p_step L B N2.2)).2) := if_pos q
    refine sp_tstep2 (by omega) (hf_tc_T T fT5) C5 (fun R6 C6 f6 => ?_)
    have r46 : R6 55 4 - 1 = nI (N2.2.2.2 2 0) - 1 := by rw [f6 55 4 (by omega), r4]
    refine sp_tnumber (M := N2.2.2.2 2 0) (by omega) (hf_tc_T T (hfT_tr fT5 (hfT_7 f6))) C6 r46 (by rw [PP]; omega) (fun R7 C7 f7 => ?_)
    have l7 : (p_num L B (N2.2.2.2 2 0) (p_step L B N2.2)).1 < 5 := by
      by_cases z : 0 < N2.2.2.2 2 0
      · have := p_num_lt (L := L) (B := B) (σ := p_step L B N2.2) z
        rw [PP] at this ⊢; omega
      · unfold p_num; rw [if_neg (by omega)]; show 0 < 5; decide
    have f57 := hf87_tr f6 f7
    have rr : ∀ j, R7 (65 + σ.2.2 3 0) j = R5 (65 + σ.2.2 3 0) j := fun j => f57 _ _ (by omega)
    refine w_recv (hHat_t ha) ?_
    refine sp_hgoOn (by omega) ha ?_
    refine w_rn (hk_stop2 (hk_call_m d) (hk_run2 (hk_call_m d) 1 (tail _ ?_ (hfT_tr fT5 (hfT_tr (hfT_7 f57) (hfT_tr (hfT_c (hfc_up (by omega))) (hfT_c (hfc_up (by omega)))))) (fun b l z1 z2 => ?_) ?_ ?_ ?_ ?_ ?_)))
    · rw [es]; exact hf_CT_c C7 (fun k => by rw [up2_a (by omega), up2_a (by omega)])
    · rw [up2_a z1, up2_a z1]; exact f57 b l z2
    · rw [up2_k (by decide), up2_k (by decide), rr]; exact r0
    · rw [up2_k (by decide), up2_k (by decide), rr]; exact r1
    · rw [up2_k (by decide), up2_k (by decide), rr]; exact r2
    · rw [es, up2_k (by decide), up2_s, hf_cw_w (by show 25 ≤ 25 + _ ∧ 25 + _ < 30; omega)]; congr 1; show _ = 25 + _ - 25; omega
    · rw [es, up2_s, hf_cs_n (by show ¬ 25 + _ < 25; omega)]
  · refine And.intro (fun _ => ?_) (fun c => absurd rfl c)
    have es : p_wh L B N2.2 = p_num L B 25 (p_word L B 8 N2.2) := if_neg q
    refine sp_tword (i := 8) (by omega) (hf_tc_T T fT5) C5 (by omega) (fun R6 C6 f6 => ?_)
    refine sp_tnumber (M := 25) (by omega) (hf_tc_T T (hfT_tr fT5 (hfT_7 f6))) C6 (by decide) (by omega) (fun R7 C7 f7 => ?_)
    have l7 := p_num_lt (L := L) (B := B) (M := 25) (σ := p_word L B 8 N2.2) (by decide)
    have f57 := hf87_tr f6 f7
    have rr : ∀ j, R7 (65 + σ.2.2 3 0) j = R5 (65 + σ.2.2 3 0) j := fun j => f57 _ _ (by omega)
    refine w_recv (hHat_t ha) ?_
    refine sp_hlieIn (by omega) ha ?_
    refine w_rn (hk_stop2 (hk_call_m d) (tail _ ?_ (hfT_tr fT5 (hfT_tr (hfT_7 f57) (hfT_tr (hfT_c (hfc_up (by omega))) (hfT_c (hfc_up (by omega)))))) (fun b l z1 z2 => ?_) ?_ ?_ ?_ ?_ ?_))
    · rw [es]; exact hf_CT_c C7 (fun k => by rw [up2_a (by omega), up2_a (by omega)])
    · rw [up2_a z1, up2_a z1]; exact f57 b l z2
    · rw [up2_k (by decide), up2_k (by decide), rr]; exact r0
    · rw [up2_k (by decide), up2_k (by decide), rr]; exact r1
    · rw [up2_k (by decide), up2_k (by decide), rr]; exact r2
    · rw [es, up2_k (by decide), up2_s, hf_cw_n (by omega)]
    · rw [es, up2_s, hf_cs_l l7]
theorem p_perT_4 {L : Nat} {B : Nat → Nat} {σ : hPs} : (p_perT L B σ).2.2 4 0 = σ.2.2 4 0 := by
  unfold p_perT
  show (p_semi L B (p_sp L B (p_num L B 25 σ).2).2).2.2 4 0 = _
  rw [p_semi_P, p_sp_P, p_num_P]
set_option maxHeartbeats 1000000 in
theorem sp_treadOne {d : Nat} (hd : 7 < d) {R : Nat → Nat → Int32} {X : hk_D} {Q : hk_Q} {L : Nat} {B : Nat → Nat} {σ : hPs} (T : hf_tc L B R) (C : hf_CT L B σ R) (K : hf_K 1 σ.2.2 R) (h96 : σ.2.2 4 0 ≤ 96) (hQ : ∀ R', hf_CT L B (p_one L B σ) R' → ((p_one L B σ).2.1 = 999 → hf_K 1 (p_one L B σ).2.2 R' ∧ (p_one L B σ).2.2 4 0 ≤ 96) → hfT R R' → Q none (hw R' X)) : hk_call d mT_readOne [.ref 87, .ref 55] (hw R X) Q := by
  obtain ⟨d, rfl⟩ : ∃ e, d = e + 1 := ⟨d - 1, by omega⟩
  have n5 := K.2.1
  have n6 := K.2.2.1
  have c4 : R 55 4 = nI (σ.2.2 2 0) := K.1.1
  have c5 : R 55 5 = nI (σ.2.2 3 0) := K.1.2.1
  unfold p_one at hQ
  have rest : ¬ (¬ hf_kn B σ.1 = 99 ∧ σ.2.2 3 0 < 6) → ∀ v, hk_wp none 0 0 hk_dft cT_readOne (hk_call d) (hk_qe Q) 14 [(2, .int v), (0, .ref 87), (1, .ref 55)] [] (hw R X) 0 0 := by
    intro n1 v
    rw [if_neg n1] at hQ
    have rest2 : ¬ (hf_id B σ.1 = 9 ∧ σ.2.2 2 0 < 5) → hk_wp none 0 0 hk_dft cT_readOne (hk_call d) (hk_qe Q) 26 [(2, .int v), (0, .ref 87), (1, .ref 55)] [] (hw R X) 0 0 := by
      intro n2
      rw [if_neg n2] at hQ
      refine hk_run2 (hk_call_m d) 100 ?_
      refine sp_tspells (i := 11) (by omega) T C (by omega) (fun q11 => ?_) (fun q11 => ?_)
      · refine And.intro (fun c => absurd c (by decide)) (fun _ => ?_)
        rw [if_pos q11] at hQ
        exact sp_treadWind (by omega) T C K (fun R' C' K' e' f' => hk_qe_of (hQ R' C' (fun _ => ⟨K', by rw [e']; exact h96⟩) f'))
      · refine And.intro (fun _ => ?_) (fun c => absurd rfl c)
        rw [if_neg q11] at hQ
        refine sp_tspells (i := 16) (by omega) T C (by omega) (fun q16 => ?_) (fun q16 => ?_)
        · refine And.intro (fun c => absurd c (by decide)) (fun _ => ?_)
          rw [if_pos q16] at hQ
          unfold p_nowT at hQ
          refine sp_tstep2 (by omega) T C (fun R1 C1 f1 => ?_)
          have K1 : hf_K 1 (p_step L B σ).2.2 R1 := hf_K_7 K f1
          generalize p_step L B σ = S1 at C1 K1 hQ
          refine sp_tnumber (M := 97) (by omega) (hf_tc_f T f1) C1 (by decide) (by omega) (fun R2 C2 f2 => ?_)
          have l2 := p_num_lt (L := L) (B := B) (M := 97) (σ := S1) (by decide)
          have P2 := p_num_P (L := L) (B := B) (M := 97) (σ := S1)
          generalize p_num L B 97 S1 = N1 at C2 l2 P2 hQ
          have K2 : hf_K 1 N1.2.2.2 R2 := by rw [P2]; exact hf_K_7 K1 f2
          refine w_put trivial rfl rfl ?_
          have f3 : hfc 1 R2 (up2 R2 55 6 (nI N1.1)) := hfc_up (by omega)
          have K3 : hf_K 1 (hf_up N1.2.2.2 4 0 N1.1) (up2 R2 55 6 (nI N1.1)) := hf_K_now K2 (by omega) (fun a k z => up2_n z) (up2_s _ _ _ _)
          have C3 : hf_CT L B (p_set (fun P => hf_up P 4 0 N1.1) N1.2) (up2 R2 55 6 (nI N1.1)) := hf_CT_s (hf_CT_c C2 (fun k => f3 87 k (by omega))) rfl rfl
          have fT : hfT R (up2 R2 55 6 (nI N1.1)) := hfT_tr (hfT_7 (hf87_tr f1 f2)) (hfT_c f3)
          refine sp_tsemi (by omega) (hf_tc_T T fT) C3 (fun R4 C4 f4 => ?_)
          refine hk_qe_of (hQ R4 C4 (fun _ => ⟨?_, ?_⟩) (hfT_tr fT (hfT_7 f4)))
          · rw [p_semi_P]; exact hf_K_7 K3 f4
          · rw [p_semi_P]
            show hf_up N1.2.2.2 4 0 N1.1 4 0 ≤ 96
            rw [hf_up_s]; omega
        · refine And.intro (fun _ => ?_) (fun c => absurd rfl c)
          rw [if_neg q16] at hQ
          refine sp_tfail (by omega) T.1 C (fun R1 C1 f1 => ?_)
          exact hk_qe_of (hQ R1 C1 (fun _ => ⟨hf_K_7 K f1, h96⟩) (hfT_7 f1))
    refine hk_run2 (hk_call_m d) 100 ?_
    refine sp_tspells (i := 9) (by omega) T C (by omega) (fun q9 => ?_) (fun q9 => ?_)
    · refine And.intro (fun c => absurd c (by decide)) (fun _ => ?_)
      refine And.intro (fun c => ?_) (fun c => ?_)
      · rw [c4] at c
        have c : nI 5 ≤ nI (σ.2.2 2 0) := c
        rw [nI_leI (by omega) (by omega)] at c
        exact hk_stop2 (hk_call_m d) (rest2 (fun z => by omega))
      · rw [c4] at c
        have c : ¬ nI 5 ≤ nI (σ.2.2 2 0) := c
        rw [nI_leI (by omega) (by omega)] at c
        rw [if_pos ⟨q9, by omega⟩] at hQ
        refine sp_treadPerson (by omega) T C K (by omega) (fun R' C' K' f' => hk_qe_of (hQ R' C' (fun _ => ⟨K', ?_⟩) f'))
        rw [p_perT_4]
        exact h96
    · refine And.intro (fun _ => ?_) (fun c => absurd rfl c)
      exact hk_stop2 (hk_call_m d) (rest2 (fun z => q9 z.1))
  refine hk_run2 (hk_call_m d) 100 ?_
  refine sp_tkindNamed (by omega) T C ?_
  by_cases kn : hf_kn B σ.1 = 99
  · rw [kn]
    refine And.intro (fun _ => ?_) (fun c => absurd (by decide) c)
    exact hk_stop2 (hk_call_m d) (rest (fun z => z.1 kn) _)
  · have k6 : hf_kn B σ.1 < 6 := by
      unfold hf_kn at kn ⊢
      split
      · assumption
      · rename_i q; rw [if_neg q] at kn; exact absurd rfl kn
    rw [show hf_bI (hf_kn B σ.1) = nI (hf_kn B σ.1) from if_neg kn]
    refine And.intro (fun c => absurd c (hn_npos (by omega))) (fun _ => ?_)
    refine And.intro (fun c => ?_) (fun c => ?_)
    · rw [c5] at c
      have c : nI 6 ≤ nI (σ.2.2 3 0) := c
      rw [nI_leI (by omega) (by omega)] at c
      exact hk_stop2 (hk_call_m d) (rest (fun z => by omega) _)
    · rw [c5] at c
      have c : ¬ nI 6 ≤ nI (σ.2.2 3 0) := c
      rw [nI_leI (by omega) (by omega)] at c
      rw [if_pos ⟨kn, by omega⟩] at hQ
      exact sp_treadHat (by omega) T C K (by omega) rfl k6 (fun R' C' K' e' f' => hk_qe_of (hQ R' C' (fun h => ⟨K' h, by rw [e']; exact h96⟩) f'))
set_option maxHeartbeats 1000000 in
theorem sp_ttellTo {d : Nat} (hd : 8 < d) {R0 : Nat → Nat → Int32} {X : hk_D} {Q : hk_Q} {L : Nat} {B : Nat → Nat} (T0 : hf_tc L B R0) (hQ : ∀ R', ((p_end L B).2.1 = 999 → hf_K 1 (p_end L B).2.2 R' ∧ (p_end L B).2.2 4 0 ≤ 96) → R' 87 1 = 0 → (∀ a k, ¬ (a = 87 ∧ 1 ≤ k) → ¬ (55 ≤ a ∧ a ≤ 70) → R' a k = R0 a k) → ((p_end L B).2.1 = 999 ∨ (p_end L B).2.1 ≤ 200) → Q (some (.int (hf_bf (p_end L B).2.1))) (hw R' X)) : hk_call d mT_tellTo [.ref 87, .ref 55] (hw R0 X) Q := by
  obtain ⟨d, rfl⟩ : ∃ e, d = e + 1 := ⟨d - 1, by omega⟩
  have hL := T0.1
  have Lp : ∀ i, i ≤ 200 → ∀ (σ : hPs) R, hf_CT L B σ R → (σ.2.1 = 999 → hf_K 1 σ.2.2 R ∧ σ.2.2 4 0 ≤ 96) → hfT R0 R → p_all L B (200 - i) σ = p_end L B → hk_wp (some .int) 0 0 hk_dft cT_tellTo (hk_call d) (hk_qe Q) 12 [(2, .int (nI i)), (0, .ref 87), (1, .ref 55)] [] (hw R X) 0 0 := by
    have fin : ∀ i (σ : hPs) R, hf_CT L B σ R → (σ.2.1 = 999 → hf_K 1 σ.2.2 R ∧ σ.2.2 4 0 ≤ 96) → hfT R0 R → σ = p_end L B → hk_wp (some .int) 0 0 hk_dft cT_tellTo (hk_call d) (hk_qe Q) 27 [(2, .int (nI i)), (0, .ref 87), (1, .ref 55)] [] (hw R X) 0 0 := by
      intro i σ R C K fr es
      subst es
      refine hk_run2 (hk_call_m d) 100 ?_
      refine w_put trivial rfl rfl ?_
      refine hk_qe_of ?_
      rw [up2_k (show 5 ≠ 1 by decide), C.2.2.2.1]
      refine hQ _ (fun h => ⟨hf_K_fr (K h).1 (fun a k z => up2_a (by omega)), (K h).2⟩) (up2_s _ _ _ _) (fun a k z1 z2 => ?_) C.2.2.2.2.2
      rw [up2_n (by omega)]; exact fr a k (by omega) z2
    refine hk_for ?_ ?_
    · intro σ R C K fr es
      refine hk_run2 (hk_call_m d) 100 ?_
      refine And.intro (fun c => ?_) (fun c => absurd (by decide) c)
      exact hk_stop2 (hk_call_m d) (fin 200 σ R C K fr es)
    · intro i hi ih σ R C K fr es
      have s3 := C.2.2.2.2.1.2.2.1
      rw [show 200 - i = (200 - (i + 1)) + 1 by omega, p_all] at es
      refine hk_run2 (hk_call_m d) 100 ?_
      refine And.intro (fun c => absurd c (show ¬ nI 200 ≤ nI i from nI_ge hi (by omega))) (fun c => ?_)
      by_cases h : σ.2.1 = 999
      · refine And.intro (fun _ => ?_) (fun c => absurd (C.2.2.2.1.trans (if_pos h)) c)
        by_cases z : σ.1.2.1 = 0
        · refine And.intro (fun _ => ?_) (fun c => absurd (by rw [C.1, z]; rfl) c)
          rw [if_neg (fun y => y.2 z)] at es
          exact hk_stop2 (hk_call_m d) (fin i σ R C K fr es)
        · refine And.intro (fun c => by rw [C.1] at c; exact absurd ((nI_eq (b := 0) (by omega) (by omega)).mp c) z) (fun _ => ?_)
          rw [if_pos ⟨h, z⟩] at es
          refine sp_treadOne (by omega) (hf_tc_T T0 fr) C (K h).1 (K h).2 (fun R2 C2 K2 f2 => ?_)
          refine Exists.intro [0, 1, 2] ?_
          rw [nI_1]
          exact hk_stop2 (hk_call_m d) (ih _ R2 C2 K2 (hfT_tr fr f2) es)
      · have c5 : R 87 5 = nI σ.2.1 := C.2.2.2.1.trans (if_neg h)
        have l5 : σ.2.1 ≤ 200 := C.2.2.2.2.2.resolve_left h
        refine And.intro (fun c => by rw [c5] at c; exact absurd (show (0 : Int32) ≤ -1 by rw [← c]; exact hn_pos (by omega)) (by decide)) (fun _ => ?_)
        rw [if_neg (fun y => h y.1)] at es
        exact hk_stop2 (hk_call_m d) (fin i σ R C K fr es)
  refine hk_run2 (hk_call_m d) 100 ?_
  refine w_put trivial rfl rfl ?_
  refine w_put trivial rfl rfl ?_
  have f1 : hfT R0 (up2 (up2 R0 87 4 0) 87 5 (-1)) := hfT_tr (hfT_7 (hf87_up (by omega))) (hfT_7 (hf87_up (by omega)))
  have r4 : up2 (up2 R0 87 4 0) 87 5 (-1) 87 4 = nI 0 := by rw [up2_k (by decide), up2_s]; rfl
  have r5 : up2 (up2 R0 87 4 0) 87 5 (-1) 87 5 = -1 := up2_s _ _ _ _
  generalize up2 (up2 R0 87 4 0) 87 5 (-1) = R1 at f1 r4 r5
  refine sp_pclear_1 (by omega) (fun R2 K2 f2 => ?_)
  have f02 := hfT_tr f1 (hfT_c f2)
  refine sp_tstep (e := 0) (by omega) (hf_tc_T T0 f02) (by rw [f2 87 4 (by omega)]; exact r4) (Nat.zero_le _) (fun R3 q2 q3 q4 f3 => ?_)
  refine w_rn (hk_stop2 (hk_call_m d) (hk_run2 (hk_call_m d) 2 ?_))
  refine Lp 0 (Nat.zero_le _) (tk L B 0, 999, hf_nil) R3 ⟨q2, q3, q4, ?_, (tk_w 0 (Nat.zero_le _) hL).1, Or.inl rfl⟩ (fun _ => ⟨hf_K_fr K2 (fun a k z => f3 a k (by omega)), Nat.zero_le _⟩) (hfT_tr f02 (fun a k z1 z2 => f3 a k (by omega))) rfl
  rw [f3 87 5 (by omega), f2 87 5 (by omega)]; exact r5
set_option maxHeartbeats 400000 in
theorem sp_cplain {d : Nat} (hd : 9 < d) {R0 : Nat → Nat → Int32} {X : hk_D} {Q : hk_Q} {L : Nat} {B : Nat → Nat} {P : hP} (T0 : hf_tc L B R0) (K : hf_K 0 P R0) (h96 : P 4 0 ≤ 96) (hQ : ∀ R', hf_K 0 (o_plain P L B).2 R' → (o_plain P L B).2 4 0 ≤ 96 → R' 87 1 = 0 → ((p_end L B).2.1 = 999 → R' 38 8 = 0) → (¬ (p_end L B).2.1 = 999 → R' 38 8 = R0 38 8) → (∀ a k, ¬ (39 ≤ a ∧ a ≤ 70) → ¬ (a = 87 ∧ 1 ≤ k) → ¬ (a = 38 ∧ k = 8) → R' a k = R0 a k) → Q (some (.int (o_plain P L B).1)) (hw R' X)) : hk_call d mC_plain [.ref 38] (hw R0 X) Q := by
  obtain ⟨d, rfl⟩ : ∃ e, d = e + 1 := ⟨d - 1, by omega⟩
  unfold o_plain at hQ
  refine hk_run2 (hk_call_m d) 100 ?_
  refine sp_ttellTo (by omega) T0 (fun R1 K1 r1 f1 b1 => ?_)
  by_cases h : (p_end L B).2.1 = 999
  · rw [if_pos h] at hQ
    rw [show hf_bf (p_end L B).2.1 = -1 from if_pos h]
    refine And.intro (fun _ => ?_) (fun c => absurd (by decide) c)
    refine sp_pcopyFrom_01 (by omega) (K1 h).1 (fun R2 K2 f2 => ?_)
    refine w_put trivial rfl rfl ?_
    have K3 : hf_K 0 (p_end L B).2.2 (up2 R2 38 8 0) := hf_K_fr K2 (fun a k z => up2_a (by omega))
    refine hk_qe_of ?_
    rw [show up2 R2 38 8 0 39 5 = nI ((p_end L B).2.2 3 0) from K3.1.2.1]
    refine hQ _ K3 (K1 h).2 ?_ (fun _ => up2_s _ _ _ _) (fun z => absurd h z) (fun a k z1 z2 z3 => ?_)
    · rw [up2_a (by decide), f2 87 1 (by omega)]; exact r1
    · rw [up2_n z3, f2 a k (by omega)]; exact f1 a k z2 (by omega)
  · rw [if_neg h] at hQ
    rw [show hf_bf (p_end L B).2.1 = nI (p_end L B).2.1 from if_neg h]
    have l5 := b1.resolve_left h
    refine And.intro (fun c => absurd c (hn_npos (by omega))) (fun _ => ?_)
    exact hk_qe_of (hQ R1 (hf_K_fr K (fun a k z => f1 a k (by omega) (by omega))) h96 r1 (fun z => absurd z h) (fun _ => f1 38 8 (by omega) (by omega)) (fun a k z1 z2 z3 => f1 a k z2 (by omega)))
theorem w_stb {R : Nat → Nat → Int32} {X : hk_D} {Xc : hk_X} {ip q m : Nat} {ls : hk_Ls} {j : Nat} {i v : Int32} {r : List Value} (hi : i = nI j) (hj : j < 200) (g : Xc ip ls r (hw (up2 R 88 j v.toInt8.toInt32) X) q m) : vp_in i ((hw R X).2 88).2.1 ∧ hk_astv 12 (.int v) (fun v' => Xc ip ls r (hk_up (hw R X) 88 (12, ((hw R X).2 88).2.1, va_up ((hw R X).2 88).2.2 i.toNatClampNeg v')) q m) := by
  subst hi
  refine And.intro (vp_in_nI (N := 200) hj (by omega)) ?_
  show Xc ip ls r (hk_up (hw R X) 88 (12, ((hw R X).2 88).2.1, va_up ((hw R X).2 88).2.2 (nI j).toNatClampNeg (.int v.toInt8.toInt32))) q m
  rw [nI_clamp (by omega), hw_up (t := 12) rfl rfl]; exact g
theorem sp_troom {d : Nat} (hd : 0 < d) {R : Nat → Nat → Int32} {X : hk_D} {Q : hk_Q} {L : Nat} (h : R 87 1 = nI L) (hL : L ≤ 200) (hQ : Q (some (.int (nI (200 - L)))) (hw R X)) : hk_call d mT_room [.ref 87] (hw R X) Q := by
  obtain ⟨d, rfl⟩ : ∃ e, d = e + 1 := ⟨d - 1, by omega⟩
  refine hk_run2 (hk_call_m d) 100 ?_
  refine hk_qe_of ?_
  rw [h, show (200 : Int32) - nI L = nI (200 - L) from hn_sub (a := 200) hL (by decide)]; exact hQ
theorem sp_ttake {d : Nat} (hd : 0 < d) {R : Nat → Nat → Int32} {X : hk_D} {Q : hk_Q} {L : Nat} {v : Int32} (h : R 87 1 = nI L) (hL : L < 200) (hQ : Q none (hw (up2 (up2 R 88 L v.toInt8.toInt32) 87 1 (nI (L + 1))) X)) : hk_call d mT_take [.ref 87, .int v] (hw R X) Q := by
  obtain ⟨d, rfl⟩ : ∃ e, d = e + 1 := ⟨d - 1, by omega⟩
  refine hk_run2 (hk_call_m d) 100 ?_
  refine And.intro (fun c => absurd c (by rw [h]; exact nI_ge (b := 200) hL (by omega))) (fun _ => ?_)
  refine w_stb h hL ?_
  refine w_put trivial rfl rfl ?_
  rw [up2_a (by decide), h, nI_1]
  exact hk_qe_of hQ
theorem hb_i : ∀ b, b < 256 → (hf_sb b).toInt8.toInt32 = hf_sb b := by decide +kernel
set_option maxHeartbeats 1000000 in
theorem sp_cfeed {d : Nat} (hd : 1 < d) {R0 : Nat → Nat → Int32} {X : hk_D} {Q : hk_Q} {x : Int64} {n : Int32} {L : Nat} {B : Nat → Nat} (T : hf_tc L B R0) (hQ : ∀ R', hf_tc (o_feed L B x n).2.1 (o_feed L B x n).2.2 R' → (∀ a k, ¬ a = 88 → ¬ (a = 87 ∧ k = 1) → R' a k = R0 a k) → Q (some (.int (o_feed L B x n).1)) (hw R' X)) : hk_call d mC_feed [.ref 38, .long x, .int n] (hw R0 X) Q := by
  obtain ⟨d, rfl⟩ : ∃ e, d = e + 1 := ⟨d - 1, by omega⟩
  obtain ⟨hL, tl, tb, t256⟩ := T
  unfold o_feed at hQ
  have i1 : (1 : Int32).toInt = 1 := rfl
  have i0 : (0 : Int32).toInt = 0 := rfl
  have i8 : (8 : Int32).toInt = 8 := rfl
  have bad : (n < 1 ∨ ¬ n ≤ 8) → Q (some (.int (-1))) (hw R0 X) := by
    intro g
    cases e : hxi 9 n with
    | none => rw [e] at hQ; exact hQ R0 ⟨hL, tl, tb, t256⟩ (fun _ _ _ _ => rfl)
    | some m =>
      have y := hxi_e (by omega) e
      rw [e] at hQ
      dsimp only at hQ
      have m0 : m = 0 := by
        rcases g with g | g
        · rw [y.2, hn_lt, hn_i (by omega)] at g; omega
        · rw [y.2, hn_le, hn_i (by omega)] at g; omega
      rw [if_pos m0] at hQ
      exact hQ R0 ⟨hL, tl, tb, t256⟩ (fun _ _ _ _ => rfl)
  refine hk_run2 (hk_call_m d) 200 ?_
  refine And.intro (fun g1 => hk_qe_of (bad (Or.inl g1))) (fun g1 => ?_)
  refine And.intro (fun g2 => ?_) (fun g2 => hk_qe_of (bad (Or.inr g2)))
  obtain ⟨m, hm, em⟩ := hn_in (v := n) (n := 8) (by omega) (fun q => g1 (by rw [hn_lt] at q ⊢; omega)) (fun q => by rw [hn_lt] at q; rw [hn_le] at g2; have : (nI 8).toInt = 8 := rfl; omega)
  have m1 : ¬ m = 0 := fun z => g1 (by rw [em, z]; decide)
  rw [em, hxi_s hm (by omega)] at hQ
  dsimp only at hQ
  rw [if_neg m1] at hQ
  subst em
  refine sp_troom (by omega) tl hL ?_
  refine And.intro (fun c => ?_) (fun c => ?_)
  · rw [nI_leI (by omega) (by omega)] at c
    have cl : L + m ≤ 200 := by omega
    rw [if_neg (by omega)] at hQ
    have Lp : ∀ j, j ≤ m → ∀ R, R 87 1 = nI (L + j) → (∀ i, i < L + j → R 88 i = hf_sb (if L ≤ i ∧ i < L + m then hf_by x (i - L) else B i)) → (∀ a k, ¬ a = 88 → ¬ (a = 87 ∧ k = 1) → R a k = R0 a k) → hk_wp (some .int) 0 0 hk_dft cC_feed (hk_call d) (hk_qe Q) 17 [(4, .int (nI j)), (0, .ref 38), (1, .long x), (3, .int (nI m))] [] (hw R X) 0 0 := by
      refine hk_for ?_ ?_
      · intro R h1 h2 h3
        refine hk_run2 (hk_call_m d) 100 ?_
        refine And.intro (fun c => ?_) (fun c => absurd (nI_le (Nat.le_refl _) (by omega)) c)
        refine hk_qe_of ?_
        rw [h1]
        refine hQ R ⟨cl, h1, h2, fun j => ?_⟩ h3
        show (if L ≤ j ∧ j < L + m then hf_by x (j - L) else B j) < 256
        split
        · exact hf_by_lt _ _
        · exact t256 j
      · intro j hj ih R h1 h2 h3
        refine hk_run2 (hk_call_m d) 100 ?_
        refine And.intro (fun c => absurd c (nI_ge hj (by omega))) (fun c => ?_)
        refine sp_ttake (by omega) h1 (by omega) ?_
        refine Exists.intro [0, 1, 2, 3] ?_
        rw [nI_1]
        refine hk_stop2 (hk_call_m d) (ih _ (up2_s _ _ _ _) (fun i hi => ?_) (fun a k q1 q2 => ?_))
        · rw [up2_a (by decide)]
          by_cases e : i = L + j
          · rw [e, up2_s, if_pos ⟨by omega, by omega⟩, show L + j - L = j by omega, hf_by_c x (by omega), hb_i _ (hf_by_lt _ _)]
          · rw [up2_k e]; exact h2 i (by omega)
        · rw [up2_n q2, up2_a q1]; exact h3 a k q1 q2
    refine hk_stop2 (hk_call_m d) (hk_run2 (hk_call_m d) 2 ?_)
    refine Lp 0 (Nat.zero_le _) R0 tl (fun i hi => ?_) (fun _ _ _ _ => rfl)
    rw [if_neg (by omega)]; exact tb i hi
  · rw [nI_leI (by omega) (by omega)] at c
    rw [if_pos (by omega)] at hQ
    exact hk_qe_of (hQ R0 ⟨hL, tl, tb, t256⟩ (fun _ _ _ _ => rfl))
