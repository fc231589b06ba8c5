/-! THE REFERENCE: the rows that must be -/
theorem hf_hours_s : ∀ m (P : hP), hf_hours (m + 1) P = if hf_hours m P 4 0 < 96 then hf_pass (hf_hours m P) else hf_hours m P
  | 0, P => rfl
  | m + 1, P => by
    by_cases h : P 4 0 < 96
    · have e1 : hf_hours (m + 1 + 1) P = hf_hours (m + 1) (hf_pass P) := if_pos h
      have e2 : hf_hours (m + 1) P = hf_hours m (hf_pass P) := if_pos h
      rw [e1, e2]; exact hf_hours_s m (hf_pass P)
    · have e1 : hf_hours (m + 1 + 1) P = P := if_neg h
      have e2 : hf_hours (m + 1) P = P := if_neg h
      rw [e1, e2, if_neg h]
def hf_rn : Nat → hP → Nat
  | 0, _ => 0
  | k + 1, P => if P 4 0 < 96 then hf_rn k (hf_pass P) + 1 else 0
theorem hf_rn_le : ∀ k P, hf_rn k P ≤ k
  | 0, _ => Nat.le_refl _
  | k + 1, P => by
    have := hf_rn_le k (hf_pass P)
    unfold hf_rn
    split <;> omega
def hf_wa (P : hP) : Nat → Bool := fun h => Nat.ble 25 (P 10 h) && Nat.ble (P 10 h) 29
def hf_rw (S : hP) : Nat → Nat
  | 0 => S 4 0
  | 1 => hf_bits (hf_wa S) (S 3 0)
  | _ => hf_bits (hf_gb S) (S 3 0)
def hf_must (P : hP) (n : Nat) (R : Nat → Nat → Int32) : Prop := R 98 34 = nI n ∧ ∀ m, m < n → ∀ i, i < 3 → R 117 (3 * m + i) = nI (hf_rw (hf_hours (m + 1) P) i)
/-- only the trial's row, the rows that must be and their number have changed -/
def hfm (R R' : Nat → Nat → Int32) : Prop := ∀ a k, ¬ (a = 105 ∧ 18 ≤ k) → ¬ a = 117 → ¬ (a = 98 ∧ k = 34) → R' a k = R a k
def hfm2 (R R' : Nat → Nat → Int32) : Prop := ∀ a k, ¬ (a = 105 ∧ 18 ≤ k) → ¬ a = 117 → ¬ (a = 98 ∧ k = 34) → ¬ (a = 98 ∧ k = 9) → R' a k = R a k
theorem hfm2_end {R R1 : Nat → Nat → Int32} (h0 : R 98 9 = nI 0) (h : hfm2 R R1) : hfm R (up2 R1 98 9 0) := by
  intro a k q1 q2 q3
  by_cases z : a = 98 ∧ k = 9
  · obtain ⟨rfl, rfl⟩ := z
    rw [up2_s, h0]; rfl
  · rw [up2_n z]; exact h a k q1 q2 q3 z
/-- the plain's cells are as they were -/
theorem hf_M_eq {o : Nat} {P : hP} {R R' : Nat → Nat → Int32} (M : hf_M o P R) (h : ∀ a k, (99 ≤ a ∧ a ≤ 105) ∨ (a = 98 ∧ (k = 2 ∨ k = 4 ∨ k = 9)) → R' a k = R a k) : hf_M o P R' := by
  obtain ⟨MS, MD, ho, h18, ok⟩ := M
  refine ⟨⟨?_, ?_, ?_, ?_, ?_⟩, ⟨?_, ?_, ?_⟩, ?_, h18, ok⟩
  · rw [h _ _ (by omega)]; exact MS.1
  · rw [h _ _ (by omega)]; exact MS.2.1
  · intro i hi
    rw [h _ _ (by omega), h _ _ (by omega)]; exact MS.2.2.1 i hi
  · intro p hp
    rw [h _ _ (by omega)]; exact MS.2.2.2.1 p hp
  · intro i hi
    rw [h _ _ (by omega), h _ _ (by omega), h _ _ (by omega)]; exact MS.2.2.2.2 i hi
  · rw [h _ _ (by omega)]; exact MD.1
  · intro p hp
    rw [h _ _ (by omega)]; exact MD.2.1 p hp
  · intro i hi
    rw [h _ _ (by omega), h _ _ (by omega)]; exact MD.2.2 i hi
  · rw [h _ _ (by omega)]; exact ho
theorem hf_wa_t {P : hP} {j : Nat} (h : 25 ≤ P 10 j ∧ P 10 j < 30) : hf_wa P j = true := by
  unfold hf_wa
  rw [show Nat.ble 25 (P 10 j) = true from Nat.ble_eq_true_of_le h.1, show Nat.ble (P 10 j) 29 = true from Nat.ble_eq_true_of_le (by omega)]; rfl
theorem hf_wa_f {P : hP} {j : Nat} (h : ¬ (25 ≤ P 10 j ∧ P 10 j < 30)) : hf_wa P j = false := by
  cases q : hf_wa P j
  · rfl
  · unfold hf_wa at q
    have q' := Bool.and_eq_true_iff.mp q
    exact absurd ⟨Nat.le_of_ble_eq_true q'.1, by have := Nat.le_of_ble_eq_true q'.2; omega⟩ h
set_option maxHeartbeats 1000000 in
theorem sp_mfindRows {d : Nat} (hd : 7 < d) {R0 : Nat → Nat → Int32} {X : hk_D} {Q : hk_Q} {v : Int32} {k : Nat} {P : hP} (M : hf_M 0 P R0) (ev : v = nI k) (hk : k ≤ 20) (hQ : ∀ R', hf_must P (hf_rn k P) R' → hfm R0 R' → Q none (hw R' X)) : hk_call d mM_findRows [.ref 98, .int v] (hw R0 X) Q := by
  obtain ⟨d, rfl⟩ : ∃ e, d = e + 1 := ⟨d - 1, by omega⟩
  subst ev
  have h6 := M.2.2.2.2.2.1
  have L : ∀ m, m ≤ k → ∀ R, hf_M 18 (hf_hours m P) R → hf_must P m R → hfm2 R0 R → hf_rn k P = m + hf_rn (k - m) (hf_hours m P) → hk_wp none 0 0 hk_dft cM_findRows (hk_call d) (hk_qe Q) 5 [(0, .ref 98), (1, .int (nI k))] [] (hw R X) 0 0 := by
    refine hk_for ?_ ?_
    · intro R MR mu fr er
      rw [Nat.sub_self, show hf_rn 0 (hf_hours k P) = 0 from rfl, Nat.add_zero] at er
      refine hk_run2 (hk_call_m d) 100 ?_
      refine And.intro (fun c => ?_) (fun c => absurd (by rw [mu.1]; exact nI_le (Nat.le_refl _) (by omega)) c)
      refine w_put trivial rfl rfl ?_
      refine hk_qe_of (hQ _ ?_ (hfm2_end M.2.2.1 fr))
      rw [er]
      exact ⟨by rw [up2_k (by decide)]; exact mu.1, fun m hm i hi => by rw [up2_a (by decide)]; exact mu.2 m hm i hi⟩
    · intro m hm ih R MR mu fr er
      have h200 := MR.2.2.2.2.2.2.1
      have e3 : hf_hours m P 3 0 = P 3 0 := hf_hours_r (by decide) (by decide) (by decide) _ _
      rw [show k - m = (k - (m + 1)) + 1 from by omega, hf_rn] at er
      refine hk_run2 (hk_call_m d) 300 ?_
      refine And.intro (fun c => absurd c (by rw [mu.1]; exact nI_ge hm (by omega))) (fun c => ?_)
      refine sp_its (by omega) MR.2.2.1 (j := 0) rfl (by omega) ?_
      rw [hn_now MR]
      refine And.intro (fun c => ?_) (fun c => ?_)
      · have : 96 ≤ hf_hours m P 4 0 := (nI_leI (b := hf_hours m P 4 0) (a := 96) (by omega) (by omega)).mp c
        rw [if_neg (by omega), Nat.add_zero] at er
        refine w_put trivial rfl rfl ?_
        refine hk_qe_of (hQ _ ?_ (hfm2_end M.2.2.1 fr))
        rw [er]
        exact ⟨by rw [up2_k (by decide)]; exact mu.1, fun m hm i hi => by rw [up2_a (by decide)]; exact mu.2 m hm i hi⟩
      · have hlt : hf_hours m P 4 0 < 96 := by
          rcases Nat.lt_or_ge (hf_hours m P 4 0) 96 with q | q
          · exact q
          · exact absurd (nI_le (a := 96) q (by omega)) c
        rw [if_pos hlt] at er
        have eS : hf_hours (m + 1) P = hf_pass (hf_hours m P) := by rw [hf_hours_s, if_pos hlt]
        refine sp_mgo (by omega) MR (n := 1) rfl (by omega) (fun R2 M2 f2 => ?_)
        rw [show hf_hours 1 (hf_hours m P) = hf_hours (m + 1) P from (if_pos hlt).trans eS.symm] at M2
        rw [← eS] at er
        have mu2 : hf_must P m R2 := ⟨(f2 _ _ (by omega)).trans mu.1, fun i hi j hj => (f2 _ _ (by omega)).trans (mu.2 i hi j hj)⟩
        have fr2 : hfm2 R0 R2 := fun a k q1 q2 q3 q4 => (f2 a k (by omega)).trans (fr a k q1 q2 q3 q4)
        have e3' : hf_hours (m + 1) P 3 0 = P 3 0 := hf_hours_r (by decide) (by decide) (by decide) _ _
        have hrwd : ∀ i, hf_rw (hf_hours (m + 1) P) i = hf_rw (hf_hours (m + 1) P) i := fun _ => rfl
        generalize eSS : hf_hours (m + 1) P = S at *
        have eh : R2 98 4 = nI (P 3 0) := by rw [← e3']; exact M2.1.2.1
        have I : ∀ j, j ≤ P 3 0 → hk_wp none 0 0 hk_dft cM_findRows (hk_call d) (hk_qe Q) 21 [(3, .int (nI j)), (2, .int (nI (hf_bits (hf_wa S) j))), (0, .ref 98), (1, .int (nI k))] [] (hw R2 X) 0 0 := by
          refine hk_for ?_ ?_
          · refine hk_run2 (hk_call_m d) 200 ?_
            refine And.intro (fun c => ?_) (fun c => absurd (by rw [eh]; exact nI_le (Nat.le_refl _) (by omega)) c)
            have ix : (3 : Int32) * R2 98 34 = nI (3 * m + 0) := by rw [mu2.1]; exact hn_mul 3 m
            refine sp_its (by omega) M2.2.2.1 (j := 0) rfl (by omega) ?_
            rw [hn_now M2]
            refine w_st (t := 0) (j := 3 * m + 0) (n := 60) ix rfl (by omega) (by omega) rfl rfl ?_
            refine w_st (t := 0) (j := 3 * m + 1) (n := 60) (by rw [up2_a (by decide), ix]; exact hn_add _ 1) rfl (by omega) (by omega) rfl rfl ?_
            refine sp_mgoneSet (by omega) (o := 18) (P := S) (hf_M_eq M2 (fun a k z => by rw [up2_a (by omega), up2_a (by omega)])) ?_
            refine w_st (t := 0) (j := 3 * m + 2) (n := 60) (by rw [up2_a (by decide), up2_a (by decide), ix]; exact hn_add _ 2) rfl (by omega) (by omega) rfl rfl ?_
            refine w_put trivial rfl rfl ?_
            refine Exists.intro [2, 3] ?_
            refine hk_stop2 (hk_call_m d) (ih _ (hf_M_eq M2 (fun a k z => by rw [up2_n (by omega), up2_a (by omega), up2_a (by omega), up2_a (by omega)])) ⟨?_, ?_⟩ ?_ (by omega))
            · rw [up2_s, up2_a (by decide), up2_a (by decide), up2_a (by decide), mu2.1, nI_1]
            · intro m' hm' i hi
              rw [up2_a (by decide)]
              by_cases z : m' = m
              · subst z
                rw [eSS]
                have hi3 : i = 0 ∨ i = 1 ∨ i = 2 := by omega
                rcases hi3 with rfl | rfl | rfl
                · rw [up2_k (by omega), up2_k (by omega), up2_s]; rfl
                · rw [up2_k (by omega), up2_s, ← e3']; rfl
                · rw [up2_s]; rfl
              · rw [up2_k (by omega), up2_k (by omega), up2_k (by omega)]
                exact mu2.2 m' (by omega) i hi
            · intro a k q1 q2 q3 q4
              rw [up2_n q3, up2_a q2, up2_a q2, up2_a q2]; exact fr2 a k q1 q2 q3 q4
          · intro j hj ih2
            refine hk_run2 (hk_call_m d) 200 ?_
            refine And.intro (fun c => absurd c (by rw [eh]; exact nI_ge hj (by omega))) (fun c => ?_)
            refine sp_its (by omega) M2.2.2.1 (j := 6 + j) (by rw [← nI_add]; rfl) (by omega) ?_
            rw [(M2.2.1.2.2 j (by omega)).1]
            unfold hf_bits at ih2
            by_cases hw1 : 25 ≤ S 10 j ∧ S 10 j < 30
            · rw [hf_wa_t hw1] at ih2
              rw [hf_mw_w hw1]
              refine And.intro (fun c => absurd c (hn_npos (by omega))) (fun _ => ?_)
              refine Exists.intro [0, 1, 2, 3] ?_
              rw [nI_1, show nI (hf_bits (hf_wa S) j) ||| hk_shl 1 (nI j) = nI (hf_bits (hf_wa S) j + 2 ^ j) from hf_or j (by omega) _ (hf_bits_lt _ j)]
              exact hk_stop2 (hk_call_m d) ih2
            · rw [hf_wa_f hw1] at ih2
              rw [hf_mw_n hw1]
              refine And.intro (fun _ => ?_) (fun c => absurd (by decide) c)
              refine Exists.intro [0, 1, 2, 3] ?_
              rw [nI_1, hf_or0]
              exact hk_stop2 (hk_call_m d) ih2
        refine w_rn (hk_stop2 (hk_call_m d) (hk_run2 (hk_call_m d) 4 ?_))
        exact I 0 (Nat.zero_le _)
  refine hk_run2 (hk_call_m d) 100 ?_
  refine sp_mlends (by omega) M (fun R1 M1 f1 => ?_)
  refine w_put trivial rfl rfl ?_
  refine hk_stop2 (hk_call_m d) (hk_run2 (hk_call_m d) 0 ?_)
  refine L 0 (Nat.zero_le _) _ (hf_M_eq M1 (fun a k z => up2_n (by omega))) ⟨up2_s _ _ _ _, fun m hm => absurd hm (Nat.not_lt_zero m)⟩ (fun a k q1 q2 q3 q4 => ?_) (Nat.zero_add _).symm
  rw [up2_n q3]; exact f1 a k q1 q4
