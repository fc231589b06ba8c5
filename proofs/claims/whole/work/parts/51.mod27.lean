/-! THE TEXT: how it is read, and the reference's reading -/
/-- the sign looked at, the fault (999: none), the plain told so far -/
abbrev hPs : Type := hTk × Nat × hP
def p_step (L : Nat) (B : Nat → Nat) (σ : hPs) : hPs := (tk L B σ.1.2.2, σ.2)
def p_fail (σ : hPs) : hPs := (σ.1, (if σ.2.1 = 999 then σ.1.1 else σ.2.1), σ.2.2)
def p_semi (L : Nat) (B : Nat → Nat) (σ : hPs) : hPs := if σ.1.2.1 = 3 ∧ B σ.1.1 = 59 then p_step L B σ else p_fail σ
def p_word (L : Nat) (B : Nat → Nat) (i : Nat) (σ : hPs) : hPs := if hf_id B σ.1 = i then p_step L B σ else p_fail σ
def p_num (L : Nat) (B : Nat → Nat) (M : Nat) (σ : hPs) : Nat × hPs := if hf_nu B σ.1 < M then (hf_nu B σ.1, p_step L B σ) else (0, p_fail σ)
def p_set (f : hP → hP) (σ : hPs) : hPs := (σ.1, σ.2.1, f σ.2.2)
def hf_kn (B : Nat → Nat) (t : hTk) : Nat := if hf_id B t < 6 then hf_id B t else 99
def hf_dn (B : Nat → Nat) (t : hTk) : Nat := if 12 ≤ hf_id B t ∧ hf_id B t < 16 then hf_id B t - 12 else 99
def p_sp (L : Nat) (B : Nat → Nat) (σ : hPs) : Nat × hPs := if hf_id B σ.1 = 10 then p_num L B 4 (p_step L B σ) else (1, σ)
def p_perT (L : Nat) (B : Nat → Nat) (σ : hPs) : hPs := p_set (fun P => hf_addp P (p_num L B 25 σ).1 (p_sp L B (p_num L B 25 σ).2).1) (p_semi L B (p_sp L B (p_num L B 25 σ).2).2)
def p_wh (L : Nat) (B : Nat → Nat) (σ : hPs) : Nat × hPs := if hf_id B σ.1 = 7 then (25 + (p_num L B (σ.2.2 2 0) (p_step L B σ)).1, (p_num L B (σ.2.2 2 0) (p_step L B σ)).2) else p_num L B 25 (p_word L B 8 σ)
def p_hatT (L : Nat) (B : Nat → Nat) (k : Nat) (σ : hPs) : hPs := p_set (fun P => hf_addh P k (p_num L B 10 σ).1 (p_num L B 100 (p_word L B 6 (p_num L B 10 σ).2)).1 (p_wh L B (p_num L B 100 (p_word L B 6 (p_num L B 10 σ).2)).2).1) (p_semi L B (p_wh L B (p_num L B 100 (p_word L B 6 (p_num L B 10 σ).2)).2).2)
def p_winU (L : Nat) (B : Nat → Nat) (h dn : Nat) (σ : hPs) : hPs := p_semi L B (p_set (fun P => hf_w P h dn (p_num L B 10 σ).1) (p_num L B 10 σ).2)
def p_winT (L : Nat) (B : Nat → Nat) (σ : hPs) : hPs := if hf_dn B (p_num L B 24 σ).2.1 = 99 then p_fail (p_num L B 24 σ).2 else p_winU L B (p_num L B 24 σ).1 (hf_dn B (p_num L B 24 σ).2.1) (p_step L B (p_num L B 24 σ).2)
def p_nowT (L : Nat) (B : Nat → Nat) (σ : hPs) : hPs := p_semi L B (p_set (fun P => hf_up P 4 0 (p_num L B 97 σ).1) (p_num L B 97 σ).2)
def p_one (L : Nat) (B : Nat → Nat) (σ : hPs) : hPs :=
  if ¬ hf_kn B σ.1 = 99 ∧ σ.2.2 3 0 < 6 then p_hatT L B (hf_kn B σ.1) (p_step L B σ) else
  if hf_id B σ.1 = 9 ∧ σ.2.2 2 0 < 5 then p_perT L B (p_step L B σ) else
  if hf_id B σ.1 = 11 then p_winT L B (p_step L B σ) else
  if hf_id B σ.1 = 16 then p_nowT L B (p_step L B σ) else p_fail σ
def p_all (L : Nat) (B : Nat → Nat) : Nat → hPs → hPs
  | 0, σ => σ
  | f + 1, σ => if σ.2.1 = 999 ∧ ¬ σ.1.2.1 = 0 then p_all L B f (p_one L B σ) else σ
/-! once a fault, always that fault -/
theorem p_fail_s {σ : hPs} (h : ¬ σ.2.1 = 999) : (p_fail σ).2.1 = σ.2.1 := if_neg h
theorem p_num_s {L : Nat} {B : Nat → Nat} {M : Nat} {σ : hPs} (h : ¬ σ.2.1 = 999) : (p_num L B M σ).2.2.1 = σ.2.1 := by
  unfold p_num; split
  · rfl
  · exact p_fail_s h
theorem p_semi_s {L : Nat} {B : Nat → Nat} {σ : hPs} (h : ¬ σ.2.1 = 999) : (p_semi L B σ).2.1 = σ.2.1 := by
  unfold p_semi; split
  · rfl
  · exact p_fail_s h
theorem p_word_s {L : Nat} {B : Nat → Nat} {i : Nat} {σ : hPs} (h : ¬ σ.2.1 = 999) : (p_word L B i σ).2.1 = σ.2.1 := by
  unfold p_word; split
  · rfl
  · exact p_fail_s h
theorem p_sp_s {L : Nat} {B : Nat → Nat} {σ : hPs} (h : ¬ σ.2.1 = 999) : (p_sp L B σ).2.2.1 = σ.2.1 := by
  unfold p_sp; split
  · exact p_num_s (σ := p_step L B σ) h
  · rfl
theorem p_wh_s {L : Nat} {B : Nat → Nat} {σ : hPs} (h : ¬ σ.2.1 = 999) : (p_wh L B σ).2.2.1 = σ.2.1 := by
  unfold p_wh; split
  · exact p_num_s (σ := p_step L B σ) h
  · rw [p_num_s (by rw [p_word_s h]; exact h), p_word_s h]
theorem p_set_s {f : hP → hP} {σ : hPs} : (p_set f σ).2.1 = σ.2.1 := rfl
theorem p_perT_s {L : Nat} {B : Nat → Nat} {σ : hPs} (h : ¬ σ.2.1 = 999) : (p_perT L B σ).2.1 = σ.2.1 := by
  unfold p_perT
  have h1 := p_num_s (L := L) (B := B) (M := 25) h
  have h2 := p_sp_s (L := L) (B := B) (σ := (p_num L B 25 σ).2) (by rw [h1]; exact h)
  rw [p_set_s, p_semi_s (by rw [h2, h1]; exact h), h2, h1]
theorem p_hatT_s {L : Nat} {B : Nat → Nat} {k : Nat} {σ : hPs} (h : ¬ σ.2.1 = 999) : (p_hatT L B k σ).2.1 = σ.2.1 := by
  unfold p_hatT
  have h1 := p_num_s (L := L) (B := B) (M := 10) h
  have h2 := p_word_s (L := L) (B := B) (i := 6) (σ := (p_num L B 10 σ).2) (by rw [h1]; exact h)
  have h3 := p_num_s (L := L) (B := B) (M := 100) (σ := p_word L B 6 (p_num L B 10 σ).2) (by rw [h2, h1]; exact h)
  have h4 := p_wh_s (L := L) (B := B) (σ := (p_num L B 100 (p_word L B 6 (p_num L B 10 σ).2)).2) (by rw [h3, h2, h1]; exact h)
  rw [p_set_s, p_semi_s (by rw [h4, h3, h2, h1]; exact h), h4, h3, h2, h1]
theorem p_winU_s {L : Nat} {B : Nat → Nat} {h0 dn : Nat} {σ : hPs} (h : ¬ σ.2.1 = 999) : (p_winU L B h0 dn σ).2.1 = σ.2.1 := by
  unfold p_winU
  have h1 := p_num_s (L := L) (B := B) (M := 10) h
  rw [p_semi_s (by rw [p_set_s, h1]; exact h), p_set_s, h1]
theorem p_winT_s {L : Nat} {B : Nat → Nat} {σ : hPs} (h : ¬ σ.2.1 = 999) : (p_winT L B σ).2.1 = σ.2.1 := by
  unfold p_winT
  have h1 := p_num_s (L := L) (B := B) (M := 24) h
  have h1' : ¬ (p_num L B 24 σ).2.2.1 = 999 := by rw [h1]; exact h
  split
  · rw [p_fail_s h1', h1]
  · rw [p_winU_s (σ := p_step L B (p_num L B 24 σ).2) h1']; exact h1
theorem p_nowT_s {L : Nat} {B : Nat → Nat} {σ : hPs} (h : ¬ σ.2.1 = 999) : (p_nowT L B σ).2.1 = σ.2.1 := by
  unfold p_nowT
  have h1 := p_num_s (L := L) (B := B) (M := 97) h
  rw [p_semi_s (by rw [p_set_s, h1]; exact h), p_set_s, h1]
/-- what the reference has read -/
def hf_F (P : hP) (R : Nat → Nat → Int32) : Prop := R 98 19 = nI (P 2 0) ∧ R 98 20 = nI (P 3 0) ∧ R 98 21 = nI (P 4 0) ∧ (∀ j, j < 24 → R 114 j = nI (P 0 j) ∧ R 115 j = nI (P 1 j)) ∧ (∀ p, p < P 2 0 → R 107 p = nI (P 5 p) ∧ R 108 p = nI (P 6 p)) ∧ (∀ h, h < P 3 0 → R 109 h = nI (P 7 h) ∧ R 110 h = nI (P 8 h) ∧ R 111 h = nI (P 9 h) ∧ R 112 h = hf_mw (P 10 h) ∧ (P 10 h < 25 → R 113 h = nI (P 10 h)) ∧ P 10 h < 30) ∧ hf_ok P ∧ P 4 0 ≤ 96
theorem hf_F_f {P : hP} {R R' : Nat → Nat → Int32} (F : hf_F P R) (f : ∀ a k, (107 ≤ a ∧ a ≤ 115) ∨ (a = 98 ∧ 19 ≤ k ∧ k ≤ 21) → R' a k = R a k) : hf_F P R' := by
  obtain ⟨f1, f2, f3, f4, f5, f6, f7⟩ := F
  refine ⟨(f _ _ (by omega)).trans f1, (f _ _ (by omega)).trans f2, (f _ _ (by omega)).trans f3, fun j hj => ⟨(f _ _ (by omega)).trans (f4 j hj).1, (f _ _ (by omega)).trans (f4 j hj).2⟩, fun p hp => ⟨(f _ _ (by omega)).trans (f5 p hp).1, (f _ _ (by omega)).trans (f5 p hp).2⟩, fun h hh => ?_, f7⟩
  obtain ⟨g1, g2, g3, g4, g5, g6⟩ := f6 h hh
  exact ⟨(f _ _ (by omega)).trans g1, (f _ _ (by omega)).trans g2, (f _ _ (by omega)).trans g3, (f _ _ (by omega)).trans g4, fun q => (f _ _ (by omega)).trans (g5 q), g6⟩
/-- the reference stands where the reading stands -/
def hf_RL (L : Nat) (B : Nat → Nat) (σ : hPs) (R : Nat → Nat → Int32) (X : hk_D) : Prop := (σ.2.1 = 999 → R 98 18 = 1 ∧ hf_tok B σ.1 R X ∧ tkw L B σ.1 ∧ hf_F σ.2.2 R) ∧ (¬ σ.2.1 = 999 → R 98 18 = 0 ∧ R 98 14 = nI σ.2.1 ∧ σ.2.1 ≤ 200)
theorem hf_RL_f {L : Nat} {B : Nat → Nat} {σ σ' : hPs} {R : Nat → Nat → Int32} {X : hk_D} (H : hf_RL L B σ R X) (h : ¬ σ.2.1 = 999) (e : σ'.2.1 = σ.2.1) : hf_RL L B σ' R X := ⟨fun q => absurd (e.symm.trans q) h, fun _ => by rw [e]; exact H.2 h⟩
def hfy (R R' : Nat → Nat → Int32) : Prop := ∀ a k, ¬ (107 ≤ a ∧ a ≤ 115) → ¬ (a = 98 ∧ 13 ≤ k ∧ k ≤ 21) → R' a k = R a k
theorem hfy_rf {R : Nat → Nat → Int32} : hfy R R := fun _ _ _ _ => rfl
theorem hfy_tr {R R1 R2 : Nat → Nat → Int32} (h1 : hfy R R1) (h2 : hfy R1 R2) : hfy R R2 := fun a k q1 q2 => (h2 a k q1 q2).trans (h1 a k q1 q2)
theorem hfy_z {R R' : Nat → Nat → Int32} (h : hfz R R') : hfy R R' := fun a k _ q => h a k (by omega)
theorem hfy_98 {R : Nat → Nat → Int32} {k : Nat} {v : Int32} (h : 13 ≤ k ∧ k ≤ 21) : hfy R (up2 R 98 k v) := fun a j _ q => up2_n (by omega)
theorem hfy_a {R : Nat → Nat → Int32} {b k : Nat} {v : Int32} (h : 107 ≤ b ∧ b ≤ 115) : hfy R (up2 R b k v) := fun a j q _ => up2_a (by omega)
theorem hf_tp_y {L : Nat} {B : Nat → Nat} {R R' : Nat → Nat → Int32} (T : hf_tp L B R) (f : hfy R R') : hf_tp L B R' := ⟨T.1, (f _ _ (by omega) (by omega)).trans T.2.1, fun j hj => (f _ _ (by omega) (by omega)).trans (T.2.2.1 j hj), T.2.2.2⟩
theorem hf_tok_f {B : Nat → Nat} {t : hTk} {R R' : Nat → Nat → Int32} {X X' : hk_D} (H : hf_tok B t R X) (f : ∀ k, k = 13 ∨ k = 14 ∨ k = 15 ∨ k = 17 → R' 98 k = R 98 k) (x : X'.1 = X.1) : hf_tok B t R' X' := ⟨(f _ (by omega)).trans H.1, (f _ (by omega)).trans H.2.1, (f _ (by omega)).trans H.2.2.1, (f _ (by omega)).trans H.2.2.2.1, fun q => x.trans (H.2.2.2.2 q)⟩
/-- good is written, then maybe the next sign is looked at -/
theorem hf_RL_fail {L : Nat} {B : Nat → Nat} {σ : hPs} {R : Nat → Nat → Int32} {X : hk_D} (hL : L ≤ 200) (H : hf_RL L B σ R X) : hf_RL L B (p_fail σ) (up2 R 98 18 0) X := by
  by_cases h : σ.2.1 = 999
  · obtain ⟨g, t, w, f⟩ := H.1 h
    have e : (p_fail σ).2.1 = σ.1.1 := if_pos h
    have b200 : σ.1.1 ≤ 200 := by have := w.1; have := w.2.1; omega
    refine ⟨fun q => by omega, fun _ => ⟨up2_s _ _ _ _, ?_, by omega⟩⟩
    rw [up2_k (by decide), e]; exact t.2.1
  · obtain ⟨g, t, w⟩ := H.2 h
    refine ⟨fun q => absurd ((p_fail_s h).symm.trans q) h, fun _ => ?_⟩
    rw [p_fail_s h]
    exact ⟨up2_s _ _ _ _, by rw [up2_k (by decide)]; exact t, w⟩
theorem hf_RL_step {L : Nat} {B : Nat → Nat} {σ : hPs} {R R' : Nat → Nat → Int32} {X X' : hk_D} (hL : L ≤ 200) (H : hf_RL L B σ R X) (h : σ.2.1 = 999) (t' : hf_tok B (tk L B σ.1.2.2) R' X') (f : hfz (up2 R 98 18 1) R') : hf_RL L B (p_step L B σ) R' X' := by
  obtain ⟨g, t, w, F⟩ := H.1 h
  refine ⟨fun _ => ⟨?_, t', (tk_w _ w.2.1 hL).1, ?_⟩, fun q => absurd h q⟩
  · rw [f 98 18 (by omega), up2_s]
  · refine hf_F_f F (fun a k q => ?_)
    rw [f a k (by omega), up2_n (by omega)]
theorem lg_eq {x y : Int64} : lg_cmp x y = (0 : Int32) ↔ x = y := by
  unfold lg_cmp
  by_cases h : x > y
  · rw [if_pos h]
    refine ⟨fun z => absurd z (by decide), fun z => ?_⟩
    have := Int64.lt_iff_toInt_lt.mp h
    rw [z] at this; omega
  · rw [if_neg h]
    by_cases e : x = y
    · rw [if_pos e]; exact ⟨fun _ => e, fun _ => rfl⟩
    · rw [if_neg e]; exact ⟨fun z => absurd z (by decide), fun z => absurd z e⟩
theorem sp_misWord {d : Nat} (hd : 0 < d) {R : Nat → Nat → Int32} {X : hk_D} {Q : hk_Q} {w : Int64} {L : Nat} {B : Nat → Nat} {t : hTk} {i : Nat} (H : hf_tok B t R X) (hw1 : tkw L B t) (ew : w = nmw i) (hi : i < 17) (h1 : hf_id B t = i → Q (some (.int 1)) (hw R X)) (h0 : ¬ hf_id B t = i → Q (some (.int 0)) (hw R X)) : hk_call d mM_isWord [.ref 98, .long w] (hw R X) Q := by
  obtain ⟨d, rfl⟩ : ∃ e, d = e + 1 := ⟨d - 1, by omega⟩
  have s3 := hw1.2.2.1
  refine hk_run2 (hk_call_m d) 100 ?_
  refine And.intro (fun c => ?_) (fun c => ?_)
  · rw [H.1] at c
    have s1 : t.2.1 = 1 := (nI_eq (b := 1) (by omega) (by omega)).mp c
    have hv := hf_wv hw1 s1 hi
    rw [← H.2.2.2.2 s1, ← ew] at hv
    refine And.intro (fun c2 => ?_) (fun c2 => ?_)
    · exact And.intro (by decide) (hk_qe_of (h1 ((hf_id_i hi).mpr (hv.mp (lg_eq.mp c2)))))
    · exact And.intro (by decide) (hk_qe_of (h0 (fun q => c2 (lg_eq.mpr (hv.mpr ((hf_id_i hi).mp q))))))
  · rw [H.1] at c
    refine And.intro (by decide) (hk_qe_of (h0 (fun q => c ?_)))
    rw [((hf_id_i hi).mp q).1]; rfl
theorem sp_misMark {d : Nat} (hd : 0 < d) {R : Nat → Nat → Int32} {X : hk_D} {Q : hk_Q} {L : Nat} {B : Nat → Nat} {t : hTk} (h256 : ∀ j, B j < 256) (H : hf_tok B t R X) (hw1 : tkw L B t) (h1 : t.2.1 = 3 ∧ B t.1 = 59 → Q (some (.int 1)) (hw R X)) (h0 : ¬ (t.2.1 = 3 ∧ B t.1 = 59) → Q (some (.int 0)) (hw R X)) : hk_call d mM_isMark [.ref 98, .int 59] (hw R X) Q := by
  obtain ⟨d, rfl⟩ : ∃ e, d = e + 1 := ⟨d - 1, by omega⟩
  have s3 := hw1.2.2.1
  have b6 := h256 t.1
  refine hk_run2 (hk_call_m d) 100 ?_
  refine And.intro (fun c => ?_) (fun c => ?_)
  · rw [H.1] at c
    have s1 : t.2.1 = 3 := (nI_eq (b := 3) (by omega) (by omega)).mp c
    have ev : hf_vl B t = nI (B t.1) := by unfold hf_vl; rw [if_neg (by omega), if_neg (by omega)]
    refine And.intro (fun c2 => ?_) (fun c2 => ?_)
    · rw [H.2.2.2.1, ev] at c2
      exact And.intro (by decide) (hk_qe_of (h1 ⟨s1, (nI_eq (b := 59) (by omega) (by omega)).mp c2⟩))
    · rw [H.2.2.2.1, ev] at c2
      exact And.intro (by decide) (hk_qe_of (h0 (fun q => c2 (by rw [q.2]; rfl))))
  · rw [H.1] at c
    exact And.intro (by decide) (hk_qe_of (h0 (fun q => c (by rw [q.1]; rfl))))
set_option maxHeartbeats 400000 in
theorem sp_mkindHere {d : Nat} (hd : 1 < d) {R : Nat → Nat → Int32} {X : hk_D} {Q : hk_Q} {L : Nat} {B : Nat → Nat} {t : hTk} (H : hf_tok B t R X) (hw1 : tkw L B t) (hQ : Q (some (.int (hf_bI (hf_kn B t)))) (hw R X)) : hk_call d mM_kindHere [.ref 98] (hw R X) Q := by
  obtain ⟨d, rfl⟩ : ∃ e, d = e + 1 := ⟨d - 1, by omega⟩
  unfold hf_kn at hQ
  refine hk_run2 (hk_call_m d) 100 ?_
  refine sp_misWord (i := 0) (by omega) H hw1 rfl (by omega) (fun q0 => ?_) (fun q0 => ?_)
  · refine And.intro (fun c => absurd c (by decide)) (fun _ => ?_)
    rw [q0] at hQ
    exact hk_qe_of hQ
  · refine And.intro (fun _ => ?_) (fun c => absurd rfl c)
    refine sp_misWord (i := 1) (by omega) H hw1 rfl (by omega) (fun q1 => ?_) (fun q1 => ?_)
    · refine And.intro (fun c => absurd c (by decide)) (fun _ => ?_)
      rw [q1] at hQ
      exact hk_qe_of hQ
    · refine And.intro (fun _ => ?_) (fun c => absurd rfl c)
      refine sp_misWord (i := 2) (by omega) H hw1 rfl (by omega) (fun q2 => ?_) (fun q2 => ?_)
      · refine And.intro (fun c => absurd c (by decide)) (fun _ => ?_)
        rw [q2] at hQ
        exact hk_qe_of hQ
      · refine And.intro (fun _ => ?_) (fun c => absurd rfl c)
        refine sp_misWord (i := 3) (by omega) H hw1 rfl (by omega) (fun q3 => ?_) (fun q3 => ?_)
        · refine And.intro (fun c => absurd c (by decide)) (fun _ => ?_)
          rw [q3] at hQ
          exact hk_qe_of hQ
        · refine And.intro (fun _ => ?_) (fun c => absurd rfl c)
          refine sp_misWord (i := 4) (by omega) H hw1 rfl (by omega) (fun q4 => ?_) (fun q4 => ?_)
          · refine And.intro (fun c => absurd c (by decide)) (fun _ => ?_)
            rw [q4] at hQ
            exact hk_qe_of hQ
          · refine And.intro (fun _ => ?_) (fun c => absurd rfl c)
            refine sp_misWord (i := 5) (by omega) H hw1 rfl (by omega) (fun q5 => ?_) (fun q5 => ?_)
            · refine And.intro (fun c => absurd c (by decide)) (fun _ => ?_)
              rw [q5] at hQ
              exact hk_qe_of hQ
            · refine And.intro (fun _ => ?_) (fun c => absurd rfl c)
              rw [if_neg (by omega)] at hQ
              exact hk_qe_of hQ
set_option maxHeartbeats 400000 in
theorem sp_mdirectionHere {d : Nat} (hd : 1 < d) {R : Nat → Nat → Int32} {X : hk_D} {Q : hk_Q} {L : Nat} {B : Nat → Nat} {t : hTk} (H : hf_tok B t R X) (hw1 : tkw L B t) (hQ : Q (some (.int (hf_bI (hf_dn B t)))) (hw R X)) : hk_call d mM_directionHere [.ref 98] (hw R X) Q := by
  obtain ⟨d, rfl⟩ : ∃ e, d = e + 1 := ⟨d - 1, by omega⟩
  unfold hf_dn at hQ
  refine hk_run2 (hk_call_m d) 100 ?_
  refine sp_misWord (i := 12) (by omega) H hw1 rfl (by omega) (fun q0 => ?_) (fun q0 => ?_)
  · refine And.intro (fun c => absurd c (by decide)) (fun _ => ?_)
    rw [q0] at hQ
    exact hk_qe_of hQ
  · refine And.intro (fun _ => ?_) (fun c => absurd rfl c)
    refine sp_misWord (i := 13) (by omega) H hw1 rfl (by omega) (fun q1 => ?_) (fun q1 => ?_)
    · refine And.intro (fun c => absurd c (by decide)) (fun _ => ?_)
      rw [q1] at hQ
      exact hk_qe_of hQ
    · refine And.intro (fun _ => ?_) (fun c => absurd rfl c)
      refine sp_misWord (i := 14) (by omega) H hw1 rfl (by omega) (fun q2 => ?_) (fun q2 => ?_)
      · refine And.intro (fun c => absurd c (by decide)) (fun _ => ?_)
        rw [q2] at hQ
        exact hk_qe_of hQ
      · refine And.intro (fun _ => ?_) (fun c => absurd rfl c)
        refine sp_misWord (i := 15) (by omega) H hw1 rfl (by omega) (fun q3 => ?_) (fun q3 => ?_)
        · refine And.intro (fun c => absurd c (by decide)) (fun _ => ?_)
          rw [q3] at hQ
          exact hk_qe_of hQ
        · refine And.intro (fun _ => ?_) (fun c => absurd rfl c)
          rw [if_neg (by omega)] at hQ
          exact hk_qe_of hQ
set_option maxHeartbeats 400000 in
theorem sp_mwantNumber {d : Nat} (hd : 3 < d) {R : Nat → Nat → Int32} {X : hk_D} {Q : hk_Q} {L M : Nat} {B : Nat → Nat} {σ : hPs} {w : Int32} (T : hf_tp L B R) (H : hf_RL L B σ R X) (ew : σ.2.1 = 999 → w = nI M - 1) (hM : M ≤ 100) (hQ : ∀ R' X' y, hf_RL L B (p_num L B M σ).2 R' X' → hfy R R' → X'.2 = X.2 → ((p_num L B M σ).2.2.1 = 999 → y = nI (p_num L B M σ).1) → Q (some (.int y)) (hw R' X')) : hk_call d mM_wantNumber [.ref 98, .int 0, .int w] (hw R X) Q := by
  obtain ⟨d, rfl⟩ : ∃ e, d = e + 1 := ⟨d - 1, by omega⟩
  have hL := T.1
  have bad : ∀ y, (p_num L B M σ).2.2.1 = (p_fail σ).2.1 → ¬ (p_fail σ).2.1 = 999 → Q (some (.int y)) (hw (up2 R 98 18 0) X) := fun y e n => hQ _ X y (hf_RL_f (hf_RL_fail hL H) n e) (hfy_98 (by omega)) rfl (fun q => absurd (e.symm.trans q) n)
  refine hk_run2 (hk_call_m d) 200 ?_
  by_cases h : σ.2.1 = 999
  · obtain ⟨g, t, w1, F⟩ := H.1 h
    have s3 := w1.2.2.1
    have b200 : ¬ (p_fail σ).2.1 = 999 := by
      rw [show (p_fail σ).2.1 = σ.1.1 from if_pos h]; have := w1.1; have := w1.2.1; omega
    refine And.intro (fun c => by rw [g] at c; exact absurd c (by decide)) (fun _ => ?_)
    have fail : ¬ hf_nu B σ.1 < M → ∀ y, Q (some (.int y)) (hw (up2 R 98 18 0) X) := fun n y => bad y (by unfold p_num; rw [if_neg n]) b200
    refine And.intro (fun c => ?_) (fun c => ?_)
    · rw [t.1] at c
      have s2 : σ.1.2.1 = 2 := (nI_eq (b := 2) (by omega) (by omega)).mp c
      obtain ⟨v1, v2⟩ := vv_nu w1 s2
      have ev : R 98 17 = vv B σ.1.1 (σ.1.2.2 - σ.1.1) := t.2.2.2.1.trans (if_pos s2)
      rw [ev]
      refine sp_in (by omega) (n := M) (by omega) (ew h) (fun j hj ej => ?_) (fun nn => ?_)
      · refine And.intro (fun c => absurd c (by decide)) (fun _ => ?_)
        have n2 : σ.1.2.2 - σ.1.1 ≤ 2 := Classical.byContradiction (fun z => by
          rw [(v2 z).1] at ej
          exact absurd (show (0 : Int32) ≤ -1 by rw [ej]; exact hn_pos (by omega)) (by decide))
        have ejn : hf_nu B σ.1 = j := by
          have := (v1 n2).1
          rw [ej] at this
          have l := (v1 n2).2
          exact ((nI_eq (by omega) (by omega)).mp this).symm
        have pn : p_num L B M σ = (hf_nu B σ.1, p_step L B σ) := if_pos (by omega)
        rw [pn] at hQ
        refine w_put (by decide) rfl rfl ?_
        refine And.intro (fun c => absurd ((up2_s _ _ _ _).symm.trans c) (by decide)) (fun _ => ?_)
        have T1 := hf_tp_y T (hfy_98 (R := R) (k := 18) (v := 1) (by omega))
        refine sp_madvance (by omega) T1 ((up2_k (by decide)).trans t.2.2.1) w1.2.1 (fun R' X' t' f x => ?_)
        refine hk_qe_of (hQ R' X' _ (hf_RL_step hL H h t' f) (hfy_tr (hfy_98 (by omega)) (hfy_z f)) x (fun _ => ?_))
        rw [ej]; congr 1; omega
      · refine And.intro (fun _ => ?_) (fun c => absurd rfl c)
        refine w_put (by decide) rfl rfl ?_
        refine And.intro (fun _ => ?_) (fun c => absurd (up2_s _ _ _ _) c)
        refine hk_qe_of (fail (fun z => ?_) _)
        by_cases n2 : σ.1.2.2 - σ.1.1 ≤ 2
        · exact nn _ z (v1 n2).1
        · have := (v2 n2).2; omega
    · rw [t.1] at c
      have s2 : ¬ σ.1.2.1 = 2 := fun z => c (by rw [z]; rfl)
      refine w_put (by decide) rfl rfl ?_
      refine And.intro (fun _ => ?_) (fun c => absurd (up2_s _ _ _ _) c)
      refine hk_qe_of (fail (fun z => ?_) _)
      unfold hf_nu at z
      rw [if_neg (fun y => s2 y.1)] at z
      omega
  · obtain ⟨g, t, w1⟩ := H.2 h
    refine And.intro (fun _ => ?_) (fun c => absurd g c)
    refine w_put (by decide) rfl rfl ?_
    refine And.intro (fun _ => ?_) (fun c => absurd (up2_s _ _ _ _) c)
    exact hk_qe_of (bad _ (by rw [p_num_s h, p_fail_s h]) (by rw [p_fail_s h]; exact h))
set_option maxHeartbeats 400000 in
theorem sp_mwantEnd {d : Nat} (hd : 3 < d) {R : Nat → Nat → Int32} {X : hk_D} {Q : hk_Q} {L : Nat} {B : Nat → Nat} {σ : hPs} (T : hf_tp L B R) (H : hf_RL L B σ R X) (hQ : ∀ R' X', hf_RL L B (p_semi L B σ) R' X' → hfy R R' → X'.2 = X.2 → Q none (hw R' X')) : hk_call d mM_wantEnd [.ref 98] (hw R X) Q := by
  obtain ⟨d, rfl⟩ : ∃ e, d = e + 1 := ⟨d - 1, by omega⟩
  have hL := T.1
  refine hk_run2 (hk_call_m d) 200 ?_
  by_cases h : σ.2.1 = 999
  · obtain ⟨g, t, w1, F⟩ := H.1 h
    refine And.intro (fun c => by rw [g] at c; exact absurd c (by decide)) (fun _ => ?_)
    refine sp_misMark (by omega) T.2.2.2 t w1 (fun q => ?_) (fun q => ?_)
    · refine And.intro (fun c => absurd c (by decide)) (fun _ => ?_)
      rw [show p_semi L B σ = p_step L B σ from if_pos q] at hQ
      refine w_put (by decide) rfl rfl ?_
      refine And.intro (fun c => absurd ((up2_s _ _ _ _).symm.trans c) (by decide)) (fun _ => ?_)
      have T1 := hf_tp_y T (hfy_98 (R := R) (k := 18) (v := 1) (by omega))
      refine sp_madvance (by omega) T1 ((up2_k (by decide)).trans t.2.2.1) w1.2.1 (fun R' X' t' f x => ?_)
      exact hk_qe_of (hQ R' X' (hf_RL_step hL H h t' f) (hfy_tr (hfy_98 (by omega)) (hfy_z f)) x)
    · refine And.intro (fun _ => ?_) (fun c => absurd rfl c)
      rw [show p_semi L B σ = p_fail σ from if_neg q] at hQ
      refine w_put (by decide) rfl rfl ?_
      refine And.intro (fun _ => ?_) (fun c => absurd (up2_s _ _ _ _) c)
      exact hk_qe_of (hQ _ X (hf_RL_fail hL H) (hfy_98 (by omega)) rfl)
  · obtain ⟨g, t, w1⟩ := H.2 h
    refine And.intro (fun _ => ?_) (fun c => absurd g c)
    refine w_put (by decide) rfl rfl ?_
    refine And.intro (fun _ => ?_) (fun c => absurd (up2_s _ _ _ _) c)
    exact hk_qe_of (hQ _ X (hf_RL_f (hf_RL_fail hL H) (by rw [p_fail_s h]; exact h) (by rw [p_semi_s h, p_fail_s h])) (hfy_98 (by omega)) rfl)
set_option maxHeartbeats 400000 in
theorem sp_mtakes {d : Nat} (hd : 3 < d) {R : Nat → Nat → Int32} {X : hk_D} {Q : hk_Q} {L i : Nat} {B : Nat → Nat} {σ : hPs} {w : Int64} (T : hf_tp L B R) (H : hf_RL L B σ R X) (ew : w = nmw i) (hi : i < 17) (h1 : σ.2.1 = 999 → hf_id B σ.1 = i → ∀ R' X', hf_RL L B (p_step L B σ) R' X' → hfy R R' → X'.2 = X.2 → Q (some (.int 1)) (hw R' X')) (h0 : ¬ (σ.2.1 = 999 ∧ hf_id B σ.1 = i) → Q (some (.int 0)) (hw R X)) : hk_call d mM_takes [.ref 98, .long w] (hw R X) Q := by
  obtain ⟨d, rfl⟩ : ∃ e, d = e + 1 := ⟨d - 1, by omega⟩
  have hL := T.1
  refine hk_run2 (hk_call_m d) 200 ?_
  by_cases h : σ.2.1 = 999
  · obtain ⟨g, t, w1, F⟩ := H.1 h
    refine And.intro (fun c => by rw [g] at c; exact absurd c (by decide)) (fun _ => ?_)
    refine sp_misWord (by omega) t w1 ew hi (fun q => ?_) (fun q => ?_)
    · refine And.intro (fun c => absurd c (by decide)) (fun _ => ?_)
      refine And.intro (fun c => absurd c (by decide)) (fun _ => ?_)
      refine sp_madvance (by omega) T t.2.2.1 w1.2.1 (fun R' X' t' f x => ?_)
      have e1 : up2 R 98 18 1 = R := by
        funext a k; unfold up2; split
        · rename_i z; rw [z.1, z.2, g]
        · rfl
      exact And.intro (by decide) (hk_qe_of (h1 h q R' X' (hf_RL_step hL H h t' (by rw [e1]; exact f)) (hfy_z f) x))
    · refine And.intro (fun _ => ?_) (fun c => absurd rfl c)
      refine And.intro (fun _ => ?_) (fun c => absurd rfl c)
      exact And.intro (by decide) (hk_qe_of (h0 (fun z => q z.2)))
  · obtain ⟨g, t, w1⟩ := H.2 h
    refine And.intro (fun _ => ?_) (fun c => absurd g c)
    refine And.intro (fun _ => ?_) (fun c => absurd rfl c)
    exact And.intro (by decide) (hk_qe_of (h0 (fun z => h z.1)))
