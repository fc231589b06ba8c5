/-! THE REFERENCE: make, puts, down -/
def o_make (P : hP) (v1 v2 v3 : Int32) : Int32 × hP := match hxi (P 3 0) v1 with
  | none => (-1, P)
  | some h => match hxi 6 v2 with
    | none => (-1, P)
    | some k => match hxi 10 v3 with
      | none => (-1, P)
      | some a => (nI (P 7 h), hf_k P h k a)
set_option maxHeartbeats 400000 in
theorem sp_mmake {d : Nat} (hd : 2 < d) {R : Nat → Nat → Int32} {X : hk_D} {Q : hk_Q} {v1 v2 v3 : Int32} {P : hP} (M : hf_M 0 P R) (hQ : ∀ R', hf_M 0 (o_make P v1 v2 v3).2 R' → hfp R R' → Q (some (.int (o_make P v1 v2 v3).1)) (hw R' X)) : hk_call d mM_make [.ref 98, .int v1, .int v2, .int v3] (hw R X) Q := by
  obtain ⟨d, rfl⟩ : ∃ e, d = e + 1 := ⟨d - 1, by omega⟩
  have h6 := M.2.2.2.2.2.1
  unfold o_make at hQ
  refine hk_run2 (hk_call_m d) 100 ?_
  refine sp_misHat (by omega) M.1.2.1 h6 (fun h hh eh => ?_) (fun nn => ?_)
  · refine And.intro (fun c => absurd c (by decide)) (fun _ => ?_)
    rw [eh, hxi_s hh (by omega)] at hQ
    dsimp only at hQ
    refine sp_in (by omega) (n := 6) (by omega) (by decide) (fun k hk ek => ?_) (fun nn => ?_)
    · refine And.intro (fun c => absurd c (by decide)) (fun _ => ?_)
      rw [ek, hxi_s hk (by omega)] at hQ
      dsimp only at hQ
      refine sp_in (by omega) (n := 10) (by omega) (by decide) (fun a ha ea => ?_) (fun nn => ?_)
      · refine And.intro (fun c => absurd c (by decide)) (fun _ => ?_)
        rw [ea, hxi_s ha (by omega)] at hQ
        dsimp only at hQ
        refine w_ld (j := h) (n := 6) eh rfl (by omega) (by omega) rfl (hf_M_h M h hh).1.1 ?_
        refine w_st (t := 0) (j := h) (n := 6) eh rfl (by omega) (by omega) rfl rfl ?_
        refine w_st (t := 0) (j := h) (n := 6) eh rfl (by omega) (by omega) rfl rfl ?_
        refine hk_qe_of (hQ _ ?_ (hfp_tr (hfp_up (by omega)) (hfp_up (by omega))))
        rw [ek, ea]
        exact hf_M_k M hh hk ha
      · refine And.intro (fun _ => ?_) (fun c => absurd rfl c)
        rw [hxi_n (by omega) nn] at hQ
        exact hk_qe_of (hQ R M hfp_rf)
    · refine And.intro (fun _ => ?_) (fun c => absurd rfl c)
      rw [hxi_n (by omega) nn] at hQ
      exact hk_qe_of (hQ R M hfp_rf)
  · refine And.intro (fun _ => ?_) (fun c => absurd rfl c)
    rw [hxi_n (by omega) nn] at hQ
    exact hk_qe_of (hQ R M hfp_rf)
def o_puts (P : hP) (v w : Int32) : Int32 × hP := match hxi (P 3 0) v with
  | none => (-1, P)
  | some h => match hxi (P 2 0) w with
    | none => (-1, P)
    | some p => if P 10 h < 25 ∧ P 10 h = P 5 p then (1, hf_up P 10 h (25 + p)) else (-4, P)
set_option maxHeartbeats 400000 in
theorem sp_mputs {d : Nat} (hd : 2 < d) {R : Nat → Nat → Int32} {X : hk_D} {Q : hk_Q} {v w : Int32} {P : hP} (M : hf_M 0 P R) (hQ : ∀ R', hf_M 0 (o_puts P v w).2 R' → hfp R R' → Q (some (.int (o_puts P v w).1)) (hw R' X)) : hk_call d mM_puts [.ref 98, .int v, .int w] (hw R X) Q := by
  obtain ⟨d, rfl⟩ : ∃ e, d = e + 1 := ⟨d - 1, by omega⟩
  have h6 := M.2.2.2.2.2.1
  have h5 := M.2.2.2.2.1
  unfold o_puts at hQ
  refine hk_run2 (hk_call_m d) 100 ?_
  refine sp_misHat (by omega) M.1.2.1 h6 (fun h hh eh => ?_) (fun nn => ?_)
  · refine And.intro (fun c => absurd c (by decide)) (fun _ => ?_)
    rw [eh, hxi_s hh (by omega)] at hQ
    dsimp only at hQ
    refine sp_misPerson (by omega) M.1.1 h5 (fun p hp ep => ?_) (fun nn => ?_)
    · refine And.intro (fun c => absurd c (by decide)) (fun _ => ?_)
      rw [ep, hxi_s hp (by omega)] at hQ
      dsimp only at hQ
      have mp := hf_M_p M p hp
      have mh := hf_M_h M h hh
      rw [Nat.zero_add] at mp
      rw [Nat.zero_add, Nat.zero_add] at mh
      refine sp_isLying (by omega) M hh eh (fun hl => ?_) (fun hl => ?_)
      · refine And.intro (fun c => absurd c (by decide)) (fun _ => ?_)
        refine w_ld (j := 12 + h) (n := 36) (by rw [eh, ← nI_add]; rfl) rfl (by omega) (by omega) rfl (mh.2.1.2.1 hl) ?_
        refine w_ld (j := 1 + p) (n := 36) (by rw [ep, ← nI_add]; rfl) rfl (by omega) (by omega) rfl mp.2.1 ?_
        refine And.intro (fun c => ?_) (fun c => ?_)
        · have e := (nI_eq (by omega) (by omega)).mp c
          rw [if_pos ⟨hl, e⟩] at hQ
          refine w_st (t := 0) (j := 6 + h) (n := 36) (by rw [eh, ← nI_add]; rfl) rfl (by omega) (by omega) rfl rfl ?_
          refine hk_qe_of (hQ _ ?_ (hfp_up (by omega)))
          rw [ep]
          refine hf_M_hat M hh (Or.inr (Or.inl ⟨by omega, by omega⟩)) (fun a k z => up2_n (by omega)) ?_ (fun z => by omega) (fun z => by omega)
          rw [Nat.zero_add, up2_s, hf_mw_w (by omega)]
          congr 1; omega
        · rw [if_neg (fun z => c (by rw [z.2]))] at hQ
          exact hk_qe_of (hQ R M hfp_rf)
      · refine And.intro (fun _ => ?_) (fun c => absurd rfl c)
        rw [if_neg (fun z => hl z.1)] at hQ
        exact hk_qe_of (hQ R M hfp_rf)
    · refine And.intro (fun _ => ?_) (fun c => absurd rfl c)
      rw [hxi_n (by omega) nn] at hQ
      exact hk_qe_of (hQ R M hfp_rf)
  · refine And.intro (fun _ => ?_) (fun c => absurd rfl c)
    rw [hxi_n (by omega) nn] at hQ
    exact hk_qe_of (hQ R M hfp_rf)
def o_down (P : hP) (v : Int32) : Int32 × hP := match hxi (P 3 0) v with
  | none => (-1, P)
  | some h => if 25 ≤ P 10 h ∧ P 10 h < 30 then (nI (P 5 (P 10 h - 25)), hf_up P 10 h (P 5 (P 10 h - 25))) else (-4, P)
set_option maxHeartbeats 400000 in
theorem sp_mdown {d : Nat} (hd : 3 < d) {R : Nat → Nat → Int32} {X : hk_D} {Q : hk_Q} {v : Int32} {P : hP} (M : hf_M 0 P R) (hQ : ∀ R', hf_M 0 (o_down P v).2 R' → hfp R R' → Q (some (.int (o_down P v).1)) (hw R' X)) : hk_call d mM_down [.ref 98, .int v] (hw R X) Q := by
  obtain ⟨d, rfl⟩ : ∃ e, d = e + 1 := ⟨d - 1, by omega⟩
  have h6 := M.2.2.2.2.2.1
  unfold o_down at hQ
  refine hk_run2 (hk_call_m d) 100 ?_
  refine sp_misHat (by omega) M.1.2.1 h6 (fun h hh eh => ?_) (fun nn => ?_)
  · refine And.intro (fun c => absurd c (by decide)) (fun _ => ?_)
    rw [eh, hxi_s hh (by omega)] at hQ
    dsimp only at hQ
    have mh := hf_M_h M h hh
    rw [Nat.zero_add, Nat.zero_add] at mh
    by_cases hw1 : 25 ≤ P 10 h ∧ P 10 h < 30
    · rw [if_pos hw1] at hQ
      refine w_ld (j := 6 + h) (n := 36) (by rw [eh, ← nI_add]; rfl) rfl (by omega) (by omega) rfl (mh.2.1.1.trans (hf_mw_w hw1)) ?_
      refine And.intro (fun _ => ?_) (fun c => absurd (hn_pos (by omega)) c)
      refine sp_mlays (by omega) M hh eh hw1 (fun R' M' f e12 => ?_)
      rw [Nat.zero_add] at e12
      refine w_ld (j := 12 + h) (n := 36) (by rw [eh, ← nI_add]; rfl) rfl (by omega) (by omega) rfl e12 ?_
      exact hk_qe_of (hQ R' M' (hfp_r f))
    · rw [if_neg hw1] at hQ
      refine w_ld (j := 6 + h) (n := 36) (by rw [eh, ← nI_add]; rfl) rfl (by omega) (by omega) rfl (mh.2.1.1.trans (hf_mw_n hw1)) ?_
      refine And.intro (fun c => absurd c hn_neg1) (fun _ => ?_)
      exact hk_qe_of (hQ R M hfp_rf)
  · refine And.intro (fun _ => ?_) (fun c => absurd rfl c)
    rw [hxi_n (by omega) nn] at hQ
    exact hk_qe_of (hQ R M hfp_rf)
