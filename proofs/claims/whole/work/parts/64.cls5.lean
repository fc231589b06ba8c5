/-! THE CLASS: plains are copied, cleared, filled -/
/-- the first n of cell a stand in cell b too -/
def cp2 (R : Nat → Nat → Int32) (a b n : Nat) : Nat → Nat → Int32 := fun c k => if c = b ∧ k < n then R a k else R c k
theorem cp2_s {R : Nat → Nat → Int32} {a b n k : Nat} (h : k < n) : cp2 R a b n b k = R a k := if_pos ⟨rfl, h⟩
theorem cp2_a {R : Nat → Nat → Int32} {a b n c k : Nat} (h : c ≠ b) : cp2 R a b n c k = R c k := if_neg (fun q => h q.1)
theorem hw_cp {R : Nat → Nat → Int32} {X : hk_D} {a b n : Nat} (ka : ∀ k, hk_kI X a k = true) (kb : ∀ k, hk_kI X b k = true) (ht : ((hw R X).2 b).1 = 10) : hk_up (hw R X) b (10, ((hw R X).2 b).2.1, va_cpy ((hw R X).2 a).2.2 ((hw R X).2 b).2.2 0 0 n) = hw (cp2 R a b n) X := by
  refine Prod.ext rfl (funext fun c => ?_)
  by_cases hb : c = b
  · subst hb
    rw [hk_up_self]
    refine Prod.ext (ht.symm.trans hw_sh.1) (Prod.ext hw_sh.2 (funext fun j => ?_))
    show va_cpy ((hw R X).2 a).2.2 ((hw R X).2 c).2.2 0 0 n j = _
    rw [hw_int (kb j)]
    unfold va_cpy
    by_cases hj : j < n
    · rw [if_pos ⟨Nat.zero_le _, by omega⟩, cp2_s hj, Nat.zero_add, Nat.sub_zero, hw_int (ka j)]
    · rw [if_neg (by omega), hw_int (kb j), show cp2 R a c n c j = R c j from if_neg (fun q => hj q.2)]
  · rw [hk_up_ne hb]
    refine Prod.ext hw_sh.1 (Prod.ext hw_sh.2 (funext fun j => ?_))
    exact hw_val (cp2_a hb).symm
theorem w_cpy {R : Nat → Nat → Int32} {X : hk_D} {Xc : hk_X} {ip q m : Nat} {ls : hk_Ls} {a b : Nat} {r : List Value} {c : Prop} (hc : c) (ka : ∀ k, hk_kI X a k = true) (kb : ∀ k, hk_kI X b k = true) (ht : ((hw R X).2 b).1 = 10) (g : Xc ip ls r (hw (cp2 R a b 24) X) q m) : c ∧ Xc ip ls r (hk_up (hw R X) b (10, ((hw R X).2 b).2.1, va_cpy ((hw R X).2 a).2.2 ((hw R X).2 b).2.2 (Int32.toNatClampNeg 0) (Int32.toNatClampNeg 0) (Int32.toNatClampNeg 24))) q m := by
  refine And.intro hc ?_
  rw [show Int32.toNatClampNeg 0 = 0 from rfl, show Int32.toNatClampNeg 24 = 24 from rfl, hw_cp ka kb ht]
  exact g
theorem hf_ok_addp {P : hP} {q s : Nat} (ok : hf_ok P) (hn : P 2 0 < 5) (hq : q < 25) (hs : s < 4) : hf_ok (hf_addp P q s) := by
  have e2 : hf_addp P q s 2 0 = P 2 0 + 1 := hf_up_s _ _ _ _
  refine ⟨by rw [e2]; omega, ok.2.1, ok.2.2.1, ok.2.2.2.1, fun p hp => ?_, fun h hh => ?_⟩
  · rw [e2] at hp
    show hf_up (hf_up (hf_up P 5 (P 2 0) q) 6 (P 2 0) s) 2 0 (P 2 0 + 1) 5 p < 25 ∧ hf_up (hf_up (hf_up P 5 (P 2 0) q) 6 (P 2 0) s) 2 0 (P 2 0 + 1) 6 p < 4
    rw [hf_up_r (show 5 ≠ 2 by decide), hf_up_r (show 5 ≠ 6 by decide), hf_up_r (show 6 ≠ 2 by decide)]
    by_cases e : p = P 2 0
    · rw [e, hf_up_s, hf_up_s]; exact ⟨hq, hs⟩
    · rw [hf_up_j e, hf_up_j e, hf_up_r (by decide)]; exact ok.2.2.2.2.1 p (by omega)
  · have z := ok.2.2.2.2.2 h hh
    refine ⟨z.1, z.2.1, z.2.2.1, ?_⟩
    rw [e2]
    rcases z.2.2.2 with y | y | y
    · exact Or.inl y
    · exact Or.inr (Or.inl ⟨y.1, show P 10 h < _ by omega⟩)
    · exact Or.inr (Or.inr y)
theorem hf_addh_r {P : hP} {k a w q r j : Nat} (h : r ≠ 3) (h7 : r ≠ 7) (h8 : r ≠ 8) (h9 : r ≠ 9) (h10 : r ≠ 10) : hf_addh P k a w q r j = P r j := by
  unfold hf_addh; rw [hf_up_r h, hf_up_r h10, hf_up_r h9, hf_up_r h8, hf_up_r h7]
theorem hf_addh_j {P : hP} {k a w q r j : Nat} (h : r ≠ 3) (hj : j ≠ P 3 0) : hf_addh P k a w q r j = P r j := by
  unfold hf_addh; rw [hf_up_r h, hf_up_j hj, hf_up_j hj, hf_up_j hj, hf_up_j hj]
theorem hf_addh_s {P : hP} {k a w q : Nat} : hf_addh P k a w q 7 (P 3 0) = k ∧ hf_addh P k a w q 8 (P 3 0) = a ∧ hf_addh P k a w q 9 (P 3 0) = w ∧ hf_addh P k a w q 10 (P 3 0) = q ∧ hf_addh P k a w q 3 0 = P 3 0 + 1 := by
  unfold hf_addh
  refine ⟨?_, ?_, ?_, ?_, hf_up_s _ _ _ _⟩
  · rw [hf_up_r (by decide), hf_up_r (by decide), hf_up_r (by decide), hf_up_r (by decide), hf_up_s]
  · rw [hf_up_r (by decide), hf_up_r (by decide), hf_up_r (by decide), hf_up_s]
  · rw [hf_up_r (by decide), hf_up_r (by decide), hf_up_s]
  · rw [hf_up_r (by decide), hf_up_s]
theorem hf_ok_addh {P : hP} {k a w q : Nat} (ok : hf_ok P) (hn : P 3 0 < 6) (hk : k < 6) (ha : a < 10) (hw : w < 100) (hq : q < 25 ∨ (25 ≤ q ∧ q < 25 + P 2 0) ∨ q = 30) : hf_ok (hf_addh P k a w q) := by
  obtain ⟨s7, s8, s9, s10, s3⟩ := hf_addh_s (P := P) (k := k) (a := a) (w := w) (q := q)
  refine ⟨ok.1, by rw [s3]; omega, ok.2.2.1, ok.2.2.2.1, ok.2.2.2.2.1, fun h hh => ?_⟩
  rw [s3] at hh
  by_cases e : h = P 3 0
  · rw [e, s7, s8, s9, s10]; exact ⟨hk, ha, hw, hq⟩
  · rw [hf_addh_j (by decide) e, hf_addh_j (by decide) e, hf_addh_j (by decide) e, hf_addh_j (by decide) e]
    exact ok.2.2.2.2.2 h (by omega)
theorem hf_K_addp {i q s : Nat} {P : hP} {R : Nat → Nat → Int32} (K : hf_K i P R) (hn : P 2 0 < 5) (hq : q < 25) (hs : s < 4) : hf_K i (hf_addp P q s) (up2 (up2 (up2 R (44 + 16 * i + P 2 0) 0 (nI q)) (44 + 16 * i + P 2 0) 1 (nI s)) (39 + 16 * i) 4 (nI (P 2 0 + 1))) := by
  have okn := hf_ok_addp K.2 hn hq hs
  obtain ⟨⟨c1, c2, c3, c4, c5, c6⟩, ok⟩ := K
  have n6 := ok.2.1
  have e2 : hf_addp P q s 2 0 = P 2 0 + 1 := hf_up_s _ _ _ _
  have fr : ∀ a k, ¬ (a = 44 + 16 * i + P 2 0 ∧ (k = 0 ∨ k = 1)) → ¬ (a = 39 + 16 * i ∧ k = 4) → up2 (up2 (up2 R (44 + 16 * i + P 2 0) 0 (nI q)) (44 + 16 * i + P 2 0) 1 (nI s)) (39 + 16 * i) 4 (nI (P 2 0 + 1)) a k = R a k := by
    intro a k z1 z2
    rw [up2_n z2, up2_n (by omega), up2_n (by omega)]
  refine ⟨⟨by rw [up2_s, e2], (fr _ _ (by omega) (by omega)).trans c2, (fr _ _ (by omega) (by omega)).trans c3, fun k hk => ⟨(fr _ _ (by omega) (by omega)).trans (c4 k hk).1, (fr _ _ (by omega) (by omega)).trans (c4 k hk).2⟩, fun p hp => ?_, fun h hh => ?_⟩, okn⟩
  · rw [e2] at hp
    show _ = nI (hf_up (hf_up (hf_up P 5 (P 2 0) q) 6 (P 2 0) s) 2 0 (P 2 0 + 1) 5 p) ∧ _ = nI (hf_up (hf_up (hf_up P 5 (P 2 0) q) 6 (P 2 0) s) 2 0 (P 2 0 + 1) 6 p)
    rw [hf_up_r (show 5 ≠ 2 by decide), hf_up_r (show 5 ≠ 6 by decide), hf_up_r (show 6 ≠ 2 by decide)]
    by_cases e : p = P 2 0
    · rw [e, hf_up_s, hf_up_s, up2_a (show 44 + 16 * i + P 2 0 ≠ 39 + 16 * i by omega), up2_a (show 44 + 16 * i + P 2 0 ≠ 39 + 16 * i by omega), up2_s, up2_k (by decide), up2_s]; exact ⟨rfl, rfl⟩
    · rw [hf_up_j e, hf_up_j e, hf_up_r (by decide), fr _ _ (by omega) (by omega), fr _ _ (by omega) (by omega)]; exact c5 p (by omega)
  · have hh : h < P 3 0 := hh
    obtain ⟨z1, z2, z3, z4, z5⟩ := c6 h hh
    exact ⟨(fr _ _ (by omega) (by omega)).trans z1, (fr _ _ (by omega) (by omega)).trans z2, (fr _ _ (by omega) (by omega)).trans z3, (fr _ _ (by omega) (by omega)).trans z4, (fr _ _ (by omega) (by omega)).trans z5⟩
theorem hf_K_addh {i k a w q : Nat} {P : hP} {R R' : Nat → Nat → Int32} (K : hf_K i P R) (hn : P 3 0 < 6) (hk : k < 6) (ha : a < 10) (hw : w < 100) (hq : q < 25 ∨ (25 ≤ q ∧ q < 25 + P 2 0) ∨ q = 30) (fr : ∀ b l, ¬ b = 49 + 16 * i + P 3 0 → ¬ (b = 39 + 16 * i ∧ l = 5) → R' b l = R b l) (r5 : R' (39 + 16 * i) 5 = nI (P 3 0 + 1)) (r0 : R' (49 + 16 * i + P 3 0) 0 = nI k) (r1 : R' (49 + 16 * i + P 3 0) 1 = nI a) (r2 : R' (49 + 16 * i + P 3 0) 2 = nI w) (r3 : R' (49 + 16 * i + P 3 0) 3 = hf_cw q) (r4 : R' (49 + 16 * i + P 3 0) 4 = hf_cs q) : hf_K i (hf_addh P k a w q) R' := by
  have okn := hf_ok_addh K.2 hn hk ha hw hq
  obtain ⟨s7, s8, s9, s10, s3⟩ := hf_addh_s (P := P) (k := k) (a := a) (w := w) (q := q)
  obtain ⟨⟨c1, c2, c3, c4, c5, c6⟩, ok⟩ := K
  have n5 := ok.1
  refine ⟨⟨(fr _ _ (by omega) (by omega)).trans c1, by rw [s3]; exact r5, (fr _ _ (by omega) (by omega)).trans c3, fun k hk => ⟨(fr _ _ (by omega) (by omega)).trans (c4 k hk).1, (fr _ _ (by omega) (by omega)).trans (c4 k hk).2⟩, fun p hp => ?_, fun h hh => ?_⟩, okn⟩
  · have hp : p < P 2 0 := hp
    exact ⟨(fr _ _ (by omega) (by omega)).trans (c5 p hp).1, (fr _ _ (by omega) (by omega)).trans (c5 p hp).2⟩
  · rw [s3] at hh
    by_cases e : h = P 3 0
    · rw [e, s7, s8, s9, s10]; exact ⟨r0, r1, r2, r3, r4⟩
    · rw [hf_addh_j (by decide) e, hf_addh_j (by decide) e, hf_addh_j (by decide) e, hf_addh_j (by decide) e]
      obtain ⟨z1, z2, z3, z4, z5⟩ := c6 h (by omega)
      exact ⟨(fr _ _ (by omega) (by omega)).trans z1, (fr _ _ (by omega) (by omega)).trans z2, (fr _ _ (by omega) (by omega)).trans z3, (fr _ _ (by omega) (by omega)).trans z4, (fr _ _ (by omega) (by omega)).trans z5⟩
set_option maxHeartbeats 400000 in
theorem sp_pcopyFrom_10 {d : Nat} (hd : 1 < d) {R0 : Nat → Nat → Int32} {X : hk_D} {Q : hk_Q} {P : hP} (K : hf_K 0 P R0) (hQ : ∀ R', hf_K 1 P R' → hfc 1 R0 R' → Q none (hw R' X)) : hk_call d mP_copyFrom [.ref 55, .ref 39] (hw R0 X) Q := by
  obtain ⟨d, rfl⟩ : ∃ e, d = e + 1 := ⟨d - 1, by omega⟩
  obtain ⟨⟨c1, c2, c3, c4, c5, c6⟩, ok⟩ := K
  have n5 := ok.1
  have n6 := ok.2.1
  have c1 : R0 39 4 = nI (P 2 0) := c1
  have c2 : R0 39 5 = nI (P 3 0) := c2
  have c3 : R0 39 6 = nI (P 4 0) := c3
  have c4 : ∀ j, j < 24 → R0 40 j = nI (P 0 j) ∧ R0 41 j = nI (P 1 j) := c4
  have c5 : ∀ p, p < P 2 0 → R0 (44 + p) 0 = nI (P 5 p) ∧ R0 (44 + p) 1 = nI (P 6 p) := c5
  have c6 : ∀ h, h < P 3 0 → R0 (49 + h) 0 = nI (P 7 h) ∧ R0 (49 + h) 1 = nI (P 8 h) ∧ R0 (49 + h) 2 = nI (P 9 h) ∧ R0 (49 + h) 3 = hf_cw (P 10 h) ∧ R0 (49 + h) 4 = hf_cs (P 10 h) := c6
  have L2 : ∀ j, j ≤ P 3 0 → ∀ R, hfc 1 R0 R → R 55 4 = nI (P 2 0) → R 55 5 = nI (P 3 0) → (∀ j, j < 24 → R 56 j = nI (P 0 j) ∧ R 57 j = nI (P 1 j)) → (∀ p, p < P 2 0 → R (60 + p) 0 = nI (P 5 p) ∧ R (60 + p) 1 = nI (P 6 p)) → (∀ h, h < j → R (65 + h) 0 = nI (P 7 h) ∧ R (65 + h) 1 = nI (P 8 h) ∧ R (65 + h) 2 = nI (P 9 h) ∧ R (65 + h) 3 = hf_cw (P 10 h) ∧ R (65 + h) 4 = hf_cs (P 10 h)) → hk_wp none 0 0 hk_dft cP_copyFrom (hk_call d) (hk_qe Q) 43 [(2, .int (nI j)), (0, .ref 55), (1, .ref 39)] [] (hw R X) 0 0 := by
    refine hk_for ?_ ?_
    · intro R fr r4 r5 rw0 rp rh
      refine hk_run2 (hk_call_m d) 100 ?_
      refine And.intro (fun c => ?_) (fun c => absurd (by rw [r5]; exact nI_le (Nat.le_refl _) (by omega)) c)
      refine w_put trivial rfl rfl ?_
      have fr2 : ∀ a k, ¬ (a = 55 ∧ k = 6) → up2 R 55 6 (R 39 6) a k = R a k := fun a k z => up2_n z
      refine hk_qe_of (hQ _ ⟨⟨?_, ?_, ?_, ?_, ?_, ?_⟩, ok⟩ (hfc_tr fr (hfc_up (by omega))))
      · exact (fr2 _ _ (by omega)).trans r4
      · exact (fr2 _ _ (by omega)).trans r5
      · exact (up2_s _ _ _ _).trans ((fr 39 6 (by omega)).trans c3)
      · exact fun j hj => ⟨(fr2 _ _ (by omega)).trans (rw0 j hj).1, (fr2 _ _ (by omega)).trans (rw0 j hj).2⟩
      · exact fun p hp => ⟨(fr2 _ _ (by omega)).trans (rp p hp).1, (fr2 _ _ (by omega)).trans (rp p hp).2⟩
      · exact fun h hh => ⟨(fr2 _ _ (by omega)).trans (rh h hh).1, (fr2 _ _ (by omega)).trans (rh h hh).2.1, (fr2 _ _ (by omega)).trans (rh h hh).2.2.1, (fr2 _ _ (by omega)).trans (rh h hh).2.2.2.1, (fr2 _ _ (by omega)).trans (rh h hh).2.2.2.2⟩
    · intro j hj ih R fr r4 r5 rw0 rp rh
      have ha : hHat (65 + j) := by unfold hHat; omega
      have hb : hHat (49 + j) := by unfold hHat; omega
      obtain ⟨s0, s1, s2, s3, s4⟩ := c6 j hj
      refine hk_run2 (hk_call_m d) 100 ?_
      refine And.intro (fun c => absurd c (by rw [r5]; exact nI_ge hj (by omega))) (fun c => ?_)
      refine And.intro (vp_in_nI (N := 6) (by omega) (by omega)) ?_
      refine And.intro (vp_in_nI (N := 6) (by omega) (by omega)) ?_
      rw [nI_clamp (by omega)]
      refine w_recv (hHat_t ha) ?_
      refine sp_hcopyFrom (by omega) ha hb (by omega) ?_
      have fr2 : ∀ a k, a ≠ 65 + j → up2 (up2 (up2 (up2 (up2 R (65 + j) 0 (R (49 + j) 0)) (65 + j) 1 (R (49 + j) 1)) (65 + j) 2 (R (49 + j) 2)) (65 + j) 3 (R (49 + j) 3)) (65 + j) 4 (R (49 + j) 4) a k = R a k := fun a k z => by
        rw [up2_a z, up2_a z, up2_a z, up2_a z, up2_a z]
      refine Exists.intro [0, 1, 2] ?_
      rw [nI_1]
      refine hk_stop2 (hk_call_m d) (ih _ ?_ ?_ ?_ ?_ ?_ ?_)
      · exact hfc_tr fr (fun a k z => fr2 a k (by omega))
      · exact (fr2 _ _ (by omega)).trans r4
      · exact (fr2 _ _ (by omega)).trans r5
      · exact fun j hj => ⟨(fr2 _ _ (by omega)).trans (rw0 j hj).1, (fr2 _ _ (by omega)).trans (rw0 j hj).2⟩
      · exact fun p hp => ⟨(fr2 _ _ (by omega)).trans (rp p hp).1, (fr2 _ _ (by omega)).trans (rp p hp).2⟩
      · intro h hh
        by_cases e : h = j
        · subst e
          refine ⟨?_, ?_, ?_, ?_, ?_⟩
          · rw [up2_k (by decide), up2_k (by decide), up2_k (by decide), up2_k (by decide), up2_s, fr _ _ (by omega)]; exact s0
          · rw [up2_k (by decide), up2_k (by decide), up2_k (by decide), up2_s, fr _ _ (by omega)]; exact s1
          · rw [up2_k (by decide), up2_k (by decide), up2_s, fr _ _ (by omega)]; exact s2
          · rw [up2_k (by decide), up2_s, fr _ _ (by omega)]; exact s3
          · rw [up2_s, fr _ _ (by omega)]; exact s4
        · obtain ⟨t0, t1, t2, t3, t4⟩ := rh h (by omega)
          exact ⟨(fr2 _ _ (by omega)).trans t0, (fr2 _ _ (by omega)).trans t1, (fr2 _ _ (by omega)).trans t2, (fr2 _ _ (by omega)).trans t3, (fr2 _ _ (by omega)).trans t4⟩
  have L1 : ∀ j, j ≤ P 2 0 → ∀ R, hfc 1 R0 R → R 55 4 = nI (P 2 0) → (∀ j, j < 24 → R 56 j = nI (P 0 j) ∧ R 57 j = nI (P 1 j)) → (∀ p, p < j → R (60 + p) 0 = nI (P 5 p) ∧ R (60 + p) 1 = nI (P 6 p)) → hk_wp none 0 0 hk_dft cP_copyFrom (hk_call d) (hk_qe Q) 22 [(2, .int (nI j)), (0, .ref 55), (1, .ref 39)] [] (hw R X) 0 0 := by
    refine hk_for ?_ ?_
    · intro R fr r4 rw0 rp
      refine hk_run2 (hk_call_m d) 4 ?_
      refine And.intro (fun c => ?_) (fun c => absurd (by rw [r4]; exact nI_le (Nat.le_refl _) (by omega)) c)
      refine hk_stop2 (hk_call_m d) (hk_run2 (hk_call_m d) 6 ?_)
      refine w_put trivial rfl rfl ?_
      rw [fr 39 5 (by omega), c2]
      have fr2 : ∀ a k, ¬ (a = 55 ∧ k = 5) → up2 R 55 5 (nI (P 3 0)) a k = R a k := fun a k z => up2_n z
      refine L2 0 (Nat.zero_le _) _ (hfc_tr fr (hfc_up (by omega))) ?_ (up2_s _ _ _ _) ?_ ?_ (fun h hh => absurd hh (Nat.not_lt_zero h))
      · exact (fr2 _ _ (by omega)).trans r4
      · exact fun j hj => ⟨(fr2 _ _ (by omega)).trans (rw0 j hj).1, (fr2 _ _ (by omega)).trans (rw0 j hj).2⟩
      · exact fun p hp => ⟨(fr2 _ _ (by omega)).trans (rp p hp).1, (fr2 _ _ (by omega)).trans (rp p hp).2⟩
    · intro j hj ih R fr r4 rw0 rp
      have ha : hPer (60 + j) := by unfold hPer; omega
      have hb : hPer (44 + j) := by unfold hPer; omega
      obtain ⟨s0, s1⟩ := c5 j hj
      refine hk_run2 (hk_call_m d) 100 ?_
      refine And.intro (fun c => absurd c (by rw [r4]; exact nI_ge hj (by omega))) (fun c => ?_)
      refine And.intro (vp_in_nI (N := 5) (by omega) (by omega)) ?_
      refine And.intro (vp_in_nI (N := 5) (by omega) (by omega)) ?_
      rw [nI_clamp (by omega)]
      refine w_recv (hPer_t ha) ?_
      refine sp_ncopyFrom (by omega) ha hb (by omega) ?_
      have fr2 : ∀ a k, a ≠ 60 + j → up2 (up2 R (60 + j) 0 (R (44 + j) 0)) (60 + j) 1 (R (44 + j) 1) a k = R a k := fun a k z => by
        rw [up2_a z, up2_a z]
      refine Exists.intro [0, 1, 2] ?_
      rw [nI_1]
      refine hk_stop2 (hk_call_m d) (ih _ ?_ ?_ ?_ ?_)
      · exact hfc_tr fr (fun a k z => fr2 a k (by omega))
      · exact (fr2 _ _ (by omega)).trans r4
      · exact fun j hj => ⟨(fr2 _ _ (by omega)).trans (rw0 j hj).1, (fr2 _ _ (by omega)).trans (rw0 j hj).2⟩
      · intro h hh
        by_cases e : h = j
        · subst e
          refine ⟨?_, ?_⟩
          · rw [up2_k (by decide), up2_s, fr _ _ (by omega)]; exact s0
          · rw [up2_s, fr _ _ (by omega)]; exact s1
        · obtain ⟨t0, t1⟩ := rp h (by omega)
          exact ⟨(fr2 _ _ (by omega)).trans t0, (fr2 _ _ (by omega)).trans t1⟩
  refine hk_run2 (hk_call_m d) 22 ?_
  refine w_cpy (R := R0) (a := 40) (b := 56) ⟨by decide, by decide, by decide, Nat.le_refl 24, Nat.le_refl 24, fun j => ⟨_, hw_int (R := R0) (X := X) (a := 40) (j := j) rfl⟩⟩ (fun _ => rfl) (fun _ => rfl) rfl ?_
  refine w_cpy (R := cp2 R0 40 56 24) (a := 41) (b := 57) ⟨by decide, by decide, by decide, Nat.le_refl 24, Nat.le_refl 24, fun j => ⟨_, hw_int (X := X) (a := 41) (j := j) rfl⟩⟩ (fun _ => rfl) (fun _ => rfl) rfl ?_
  refine w_put trivial rfl rfl ?_
  have fr2 : ∀ a k, ¬ (a = 55 ∧ k = 4) → ¬ a = 56 → ¬ a = 57 → up2 (cp2 (cp2 R0 40 56 24) 41 57 24) 55 4 (cp2 (cp2 R0 40 56 24) 41 57 24 39 4) a k = R0 a k := fun a k z1 z2 z3 => by
    rw [up2_n z1, cp2_a z3, cp2_a z2]
  refine L1 0 (Nat.zero_le _) _ ?_ ?_ ?_ (fun h hh => absurd hh (Nat.not_lt_zero h))
  · exact fun a k z => fr2 a k (by omega) (by omega) (by omega)
  · rw [up2_s, cp2_a (by decide), cp2_a (by decide)]; exact c1
  · intro j hj
    rw [up2_a (by decide), up2_a (by decide), cp2_a (show 56 ≠ 57 by decide), cp2_s hj, cp2_s hj, cp2_a (by decide)]
    exact c4 j hj
set_option maxHeartbeats 400000 in
theorem sp_pcopyFrom_01 {d : Nat} (hd : 1 < d) {R0 : Nat → Nat → Int32} {X : hk_D} {Q : hk_Q} {P : hP} (K : hf_K 1 P R0) (hQ : ∀ R', hf_K 0 P R' → hfc 0 R0 R' → Q none (hw R' X)) : hk_call d mP_copyFrom [.ref 39, .ref 55] (hw R0 X) Q := by
  obtain ⟨d, rfl⟩ : ∃ e, d = e + 1 := ⟨d - 1, by omega⟩
  obtain ⟨⟨c1, c2, c3, c4, c5, c6⟩, ok⟩ := K
  have n5 := ok.1
  have n6 := ok.2.1
  have c1 : R0 55 4 = nI (P 2 0) := c1
  have c2 : R0 55 5 = nI (P 3 0) := c2
  have c3 : R0 55 6 = nI (P 4 0) := c3
  have c4 : ∀ j, j < 24 → R0 56 j = nI (P 0 j) ∧ R0 57 j = nI (P 1 j) := c4
  have c5 : ∀ p, p < P 2 0 → R0 (60 + p) 0 = nI (P 5 p) ∧ R0 (60 + p) 1 = nI (P 6 p) := c5
  have c6 : ∀ h, h < P 3 0 → R0 (65 + h) 0 = nI (P 7 h) ∧ R0 (65 + h) 1 = nI (P 8 h) ∧ R0 (65 + h) 2 = nI (P 9 h) ∧ R0 (65 + h) 3 = hf_cw (P 10 h) ∧ R0 (65 + h) 4 = hf_cs (P 10 h) := c6
  have L2 : ∀ j, j ≤ P 3 0 → ∀ R, hfc 0 R0 R → R 39 4 = nI (P 2 0) → R 39 5 = nI (P 3 0) → (∀ j, j < 24 → R 40 j = nI (P 0 j) ∧ R 41 j = nI (P 1 j)) → (∀ p, p < P 2 0 → R (44 + p) 0 = nI (P 5 p) ∧ R (44 + p) 1 = nI (P 6 p)) → (∀ h, h < j → R (49 + h) 0 = nI (P 7 h) ∧ R (49 + h) 1 = nI (P 8 h) ∧ R (49 + h) 2 = nI (P 9 h) ∧ R (49 + h) 3 = hf_cw (P 10 h) ∧ R (49 + h) 4 = hf_cs (P 10 h)) → hk_wp none 0 0 hk_dft cP_copyFrom (hk_call d) (hk_qe Q) 43 [(2, .int (nI j)), (0, .ref 39), (1, .ref 55)] [] (hw R X) 0 0 := by
    refine hk_for ?_ ?_
    · intro R fr r4 r5 rw0 rp rh
      refine hk_run2 (hk_call_m d) 100 ?_
      refine And.intro (fun c => ?_) (fun c => absurd (by rw [r5]; exact nI_le (Nat.le_refl _) (by omega)) c)
      refine w_put trivial rfl rfl ?_
      have fr2 : ∀ a k, ¬ (a = 39 ∧ k = 6) → up2 R 39 6 (R 55 6) a k = R a k := fun a k z => up2_n z
      refine hk_qe_of (hQ _ ⟨⟨?_, ?_, ?_, ?_, ?_, ?_⟩, ok⟩ (hfc_tr fr (hfc_up (by omega))))
      · exact (fr2 _ _ (by omega)).trans r4
      · exact (fr2 _ _ (by omega)).trans r5
      · exact (up2_s _ _ _ _).trans ((fr 55 6 (by omega)).trans c3)
      · exact fun j hj => ⟨(fr2 _ _ (by omega)).trans (rw0 j hj).1, (fr2 _ _ (by omega)).trans (rw0 j hj).2⟩
      · exact fun p hp => ⟨(fr2 _ _ (by omega)).trans (rp p hp).1, (fr2 _ _ (by omega)).trans (rp p hp).2⟩
      · exact fun h hh => ⟨(fr2 _ _ (by omega)).trans (rh h hh).1, (fr2 _ _ (by omega)).trans (rh h hh).2.1, (fr2 _ _ (by omega)).trans (rh h hh).2.2.1, (fr2 _ _ (by omega)).trans (rh h hh).2.2.2.1, (fr2 _ _ (by omega)).trans (rh h hh).2.2.2.2⟩
    · intro j hj ih R fr r4 r5 rw0 rp rh
      have ha : hHat (49 + j) := by unfold hHat; omega
      have hb : hHat (65 + j) := by unfold hHat; omega
      obtain ⟨s0, s1, s2, s3, s4⟩ := c6 j hj
      refine hk_run2 (hk_call_m d) 100 ?_
      refine And.intro (fun c => absurd c (by rw [r5]; exact nI_ge hj (by omega))) (fun c => ?_)
      refine And.intro (vp_in_nI (N := 6) (by omega) (by omega)) ?_
      refine And.intro (vp_in_nI (N := 6) (by omega) (by omega)) ?_
      rw [nI_clamp (by omega)]
      refine w_recv (hHat_t ha) ?_
      refine sp_hcopyFrom (by omega) ha hb (by omega) ?_
      have fr2 : ∀ a k, a ≠ 49 + j → up2 (up2 (up2 (up2 (up2 R (49 + j) 0 (R (65 + j) 0)) (49 + j) 1 (R (65 + j) 1)) (49 + j) 2 (R (65 + j) 2)) (49 + j) 3 (R (65 + j) 3)) (49 + j) 4 (R (65 + j) 4) a k = R a k := fun a k z => by
        rw [up2_a z, up2_a z, up2_a z, up2_a z, up2_a z]
      refine Exists.intro [0, 1, 2] ?_
      rw [nI_1]
      refine hk_stop2 (hk_call_m d) (ih _ ?_ ?_ ?_ ?_ ?_ ?_)
      · exact hfc_tr fr (fun a k z => fr2 a k (by omega))
      · exact (fr2 _ _ (by omega)).trans r4
      · exact (fr2 _ _ (by omega)).trans r5
      · exact fun j hj => ⟨(fr2 _ _ (by omega)).trans (rw0 j hj).1, (fr2 _ _ (by omega)).trans (rw0 j hj).2⟩
      · exact fun p hp => ⟨(fr2 _ _ (by omega)).trans (rp p hp).1, (fr2 _ _ (by omega)).trans (rp p hp).2⟩
      · intro h hh
        by_cases e : h = j
        · subst e
          refine ⟨?_, ?_, ?_, ?_, ?_⟩
          · rw [up2_k (by decide), up2_k (by decide), up2_k (by decide), up2_k (by decide), up2_s, fr _ _ (by omega)]; exact s0
          · rw [up2_k (by decide), up2_k (by decide), up2_k (by decide), up2_s, fr _ _ (by omega)]; exact s1
          · rw [up2_k (by decide), up2_k (by decide), up2_s, fr _ _ (by omega)]; exact s2
          · rw [up2_k (by decide), up2_s, fr _ _ (by omega)]; exact s3
          · rw [up2_s, fr _ _ (by omega)]; exact s4
        · obtain ⟨t0, t1, t2, t3, t4⟩ := rh h (by omega)
          exact ⟨(fr2 _ _ (by omega)).trans t0, (fr2 _ _ (by omega)).trans t1, (fr2 _ _ (by omega)).trans t2, (fr2 _ _ (by omega)).trans t3, (fr2 _ _ (by omega)).trans t4⟩
  have L1 : ∀ j, j ≤ P 2 0 → ∀ R, hfc 0 R0 R → R 39 4 = nI (P 2 0) → (∀ j, j < 24 → R 40 j = nI (P 0 j) ∧ R 41 j = nI (P 1 j)) → (∀ p, p < j → R (44 + p) 0 = nI (P 5 p) ∧ R (44 + p) 1 = nI (P 6 p)) → hk_wp none 0 0 hk_dft cP_copyFrom (hk_call d) (hk_qe Q) 22 [(2, .int (nI j)), (0, .ref 39), (1, .ref 55)] [] (hw R X) 0 0 := by
    refine hk_for ?_ ?_
    · intro R fr r4 rw0 rp
      refine hk_run2 (hk_call_m d) 4 ?_
      refine And.intro (fun c => ?_) (fun c => absurd (by rw [r4]; exact nI_le (Nat.le_refl _) (by omega)) c)
      refine hk_stop2 (hk_call_m d) (hk_run2 (hk_call_m d) 6 ?_)
      refine w_put trivial rfl rfl ?_
      rw [fr 55 5 (by omega), c2]
      have fr2 : ∀ a k, ¬ (a = 39 ∧ k = 5) → up2 R 39 5 (nI (P 3 0)) a k = R a k := fun a k z => up2_n z
      refine L2 0 (Nat.zero_le _) _ (hfc_tr fr (hfc_up (by omega))) ?_ (up2_s _ _ _ _) ?_ ?_ (fun h hh => absurd hh (Nat.not_lt_zero h))
      · exact (fr2 _ _ (by omega)).trans r4
      · exact fun j hj => ⟨(fr2 _ _ (by omega)).trans (rw0 j hj).1, (fr2 _ _ (by omega)).trans (rw0 j hj).2⟩
      · exact fun p hp => ⟨(fr2 _ _ (by omega)).trans (rp p hp).1, (fr2 _ _ (by omega)).trans (rp p hp).2⟩
    · intro j hj ih R fr r4 rw0 rp
      have ha : hPer (44 + j) := by unfold hPer; omega
      have hb : hPer (60 + j) := by unfold hPer; omega
      obtain ⟨s0, s1⟩ := c5 j hj
      refine hk_run2 (hk_call_m d) 100 ?_
      refine And.intro (fun c => absurd c (by rw [r4]; exact nI_ge hj (by omega))) (fun c => ?_)
      refine And.intro (vp_in_nI (N := 5) (by omega) (by omega)) ?_
      refine And.intro (vp_in_nI (N := 5) (by omega) (by omega)) ?_
      rw [nI_clamp (by omega)]
      refine w_recv (hPer_t ha) ?_
      refine sp_ncopyFrom (by omega) ha hb (by omega) ?_
      have fr2 : ∀ a k, a ≠ 44 + j → up2 (up2 R (44 + j) 0 (R (60 + j) 0)) (44 + j) 1 (R (60 + j) 1) a k = R a k := fun a k z => by
        rw [up2_a z, up2_a z]
      refine Exists.intro [0, 1, 2] ?_
      rw [nI_1]
      refine hk_stop2 (hk_call_m d) (ih _ ?_ ?_ ?_ ?_)
      · exact hfc_tr fr (fun a k z => fr2 a k (by omega))
      · exact (fr2 _ _ (by omega)).trans r4
      · exact fun j hj => ⟨(fr2 _ _ (by omega)).trans (rw0 j hj).1, (fr2 _ _ (by omega)).trans (rw0 j hj).2⟩
      · intro h hh
        by_cases e : h = j
        · subst e
          refine ⟨?_, ?_⟩
          · rw [up2_k (by decide), up2_s, fr _ _ (by omega)]; exact s0
          · rw [up2_s, fr _ _ (by omega)]; exact s1
        · obtain ⟨t0, t1⟩ := rp h (by omega)
          exact ⟨(fr2 _ _ (by omega)).trans t0, (fr2 _ _ (by omega)).trans t1⟩
  refine hk_run2 (hk_call_m d) 22 ?_
  refine w_cpy (R := R0) (a := 56) (b := 40) ⟨by decide, by decide, by decide, Nat.le_refl 24, Nat.le_refl 24, fun j => ⟨_, hw_int (R := R0) (X := X) (a := 56) (j := j) rfl⟩⟩ (fun _ => rfl) (fun _ => rfl) rfl ?_
  refine w_cpy (R := cp2 R0 56 40 24) (a := 57) (b := 41) ⟨by decide, by decide, by decide, Nat.le_refl 24, Nat.le_refl 24, fun j => ⟨_, hw_int (X := X) (a := 57) (j := j) rfl⟩⟩ (fun _ => rfl) (fun _ => rfl) rfl ?_
  refine w_put trivial rfl rfl ?_
  have fr2 : ∀ a k, ¬ (a = 39 ∧ k = 4) → ¬ a = 40 → ¬ a = 41 → up2 (cp2 (cp2 R0 56 40 24) 57 41 24) 39 4 (cp2 (cp2 R0 56 40 24) 57 41 24 55 4) a k = R0 a k := fun a k z1 z2 z3 => by
    rw [up2_n z1, cp2_a z3, cp2_a z2]
  refine L1 0 (Nat.zero_le _) _ ?_ ?_ ?_ (fun h hh => absurd hh (Nat.not_lt_zero h))
  · exact fun a k z => fr2 a k (by omega) (by omega) (by omega)
  · rw [up2_s, cp2_a (by decide), cp2_a (by decide)]; exact c1
  · intro j hj
    rw [up2_a (by decide), up2_a (by decide), cp2_a (show 40 ≠ 41 by decide), cp2_s hj, cp2_s hj, cp2_a (by decide)]
    exact c4 j hj
set_option maxHeartbeats 400000 in
theorem sp_pcopyFrom_20 {d : Nat} (hd : 1 < d) {R0 : Nat → Nat → Int32} {X : hk_D} {Q : hk_Q} {P : hP} (K : hf_K 0 P R0) (hQ : ∀ R', hf_K 2 P R' → hfc 2 R0 R' → Q none (hw R' X)) : hk_call d mP_copyFrom [.ref 71, .ref 39] (hw R0 X) Q := by
  obtain ⟨d, rfl⟩ : ∃ e, d = e + 1 := ⟨d - 1, by omega⟩
  obtain ⟨⟨c1, c2, c3, c4, c5, c6⟩, ok⟩ := K
  have n5 := ok.1
  have n6 := ok.2.1
  have c1 : R0 39 4 = nI (P 2 0) := c1
  have c2 : R0 39 5 = nI (P 3 0) := c2
  have c3 : R0 39 6 = nI (P 4 0) := c3
  have c4 : ∀ j, j < 24 → R0 40 j = nI (P 0 j) ∧ R0 41 j = nI (P 1 j) := c4
  have c5 : ∀ p, p < P 2 0 → R0 (44 + p) 0 = nI (P 5 p) ∧ R0 (44 + p) 1 = nI (P 6 p) := c5
  have c6 : ∀ h, h < P 3 0 → R0 (49 + h) 0 = nI (P 7 h) ∧ R0 (49 + h) 1 = nI (P 8 h) ∧ R0 (49 + h) 2 = nI (P 9 h) ∧ R0 (49 + h) 3 = hf_cw (P 10 h) ∧ R0 (49 + h) 4 = hf_cs (P 10 h) := c6
  have L2 : ∀ j, j ≤ P 3 0 → ∀ R, hfc 2 R0 R → R 71 4 = nI (P 2 0) → R 71 5 = nI (P 3 0) → (∀ j, j < 24 → R 72 j = nI (P 0 j) ∧ R 73 j = nI (P 1 j)) → (∀ p, p < P 2 0 → R (76 + p) 0 = nI (P 5 p) ∧ R (76 + p) 1 = nI (P 6 p)) → (∀ h, h < j → R (81 + h) 0 = nI (P 7 h) ∧ R (81 + h) 1 = nI (P 8 h) ∧ R (81 + h) 2 = nI (P 9 h) ∧ R (81 + h) 3 = hf_cw (P 10 h) ∧ R (81 + h) 4 = hf_cs (P 10 h)) → hk_wp none 0 0 hk_dft cP_copyFrom (hk_call d) (hk_qe Q) 43 [(2, .int (nI j)), (0, .ref 71), (1, .ref 39)] [] (hw R X) 0 0 := by
    refine hk_for ?_ ?_
    · intro R fr r4 r5 rw0 rp rh
      refine hk_run2 (hk_call_m d) 100 ?_
      refine And.intro (fun c => ?_) (fun c => absurd (by rw [r5]; exact nI_le (Nat.le_refl _) (by omega)) c)
      refine w_put trivial rfl rfl ?_
      have fr2 : ∀ a k, ¬ (a = 71 ∧ k = 6) → up2 R 71 6 (R 39 6) a k = R a k := fun a k z => up2_n z
      refine hk_qe_of (hQ _ ⟨⟨?_, ?_, ?_, ?_, ?_, ?_⟩, ok⟩ (hfc_tr fr (hfc_up (by omega))))
      · exact (fr2 _ _ (by omega)).trans r4
      · exact (fr2 _ _ (by omega)).trans r5
      · exact (up2_s _ _ _ _).trans ((fr 39 6 (by omega)).trans c3)
      · exact fun j hj => ⟨(fr2 _ _ (by omega)).trans (rw0 j hj).1, (fr2 _ _ (by omega)).trans (rw0 j hj).2⟩
      · exact fun p hp => ⟨(fr2 _ _ (by omega)).trans (rp p hp).1, (fr2 _ _ (by omega)).trans (rp p hp).2⟩
      · exact fun h hh => ⟨(fr2 _ _ (by omega)).trans (rh h hh).1, (fr2 _ _ (by omega)).trans (rh h hh).2.1, (fr2 _ _ (by omega)).trans (rh h hh).2.2.1, (fr2 _ _ (by omega)).trans (rh h hh).2.2.2.1, (fr2 _ _ (by omega)).trans (rh h hh).2.2.2.2⟩
    · intro j hj ih R fr r4 r5 rw0 rp rh
      have ha : hHat (81 + j) := by unfold hHat; omega
      have hb : hHat (49 + j) := by unfold hHat; omega
      obtain ⟨s0, s1, s2, s3, s4⟩ := c6 j hj
      refine hk_run2 (hk_call_m d) 100 ?_
      refine And.intro (fun c => absurd c (by rw [r5]; exact nI_ge hj (by omega))) (fun c => ?_)
      refine And.intro (vp_in_nI (N := 6) (by omega) (by omega)) ?_
      refine And.intro (vp_in_nI (N := 6) (by omega) (by omega)) ?_
      rw [nI_clamp (by omega)]
      refine w_recv (hHat_t ha) ?_
      refine sp_hcopyFrom (by omega) ha hb (by omega) ?_
      have fr2 : ∀ a k, a ≠ 81 + j → up2 (up2 (up2 (up2 (up2 R (81 + j) 0 (R (49 + j) 0)) (81 + j) 1 (R (49 + j) 1)) (81 + j) 2 (R (49 + j) 2)) (81 + j) 3 (R (49 + j) 3)) (81 + j) 4 (R (49 + j) 4) a k = R a k := fun a k z => by
        rw [up2_a z, up2_a z, up2_a z, up2_a z, up2_a z]
      refine Exists.intro [0, 1, 2] ?_
      rw [nI_1]
      refine hk_stop2 (hk_call_m d) (ih _ ?_ ?_ ?_ ?_ ?_ ?_)
      · exact hfc_tr fr (fun a k z => fr2 a k (by omega))
      · exact (fr2 _ _ (by omega)).trans r4
      · exact (fr2 _ _ (by omega)).trans r5
      · exact fun j hj => ⟨(fr2 _ _ (by omega)).trans (rw0 j hj).1, (fr2 _ _ (by omega)).trans (rw0 j hj).2⟩
      · exact fun p hp => ⟨(fr2 _ _ (by omega)).trans (rp p hp).1, (fr2 _ _ (by omega)).trans (rp p hp).2⟩
      · intro h hh
        by_cases e : h = j
        · subst e
          refine ⟨?_, ?_, ?_, ?_, ?_⟩
          · rw [up2_k (by decide), up2_k (by decide), up2_k (by decide), up2_k (by decide), up2_s, fr _ _ (by omega)]; exact s0
          · rw [up2_k (by decide), up2_k (by decide), up2_k (by decide), up2_s, fr _ _ (by omega)]; exact s1
          · rw [up2_k (by decide), up2_k (by decide), up2_s, fr _ _ (by omega)]; exact s2
          · rw [up2_k (by decide), up2_s, fr _ _ (by omega)]; exact s3
          · rw [up2_s, fr _ _ (by omega)]; exact s4
        · obtain ⟨t0, t1, t2, t3, t4⟩ := rh h (by omega)
          exact ⟨(fr2 _ _ (by omega)).trans t0, (fr2 _ _ (by omega)).trans t1, (fr2 _ _ (by omega)).trans t2, (fr2 _ _ (by omega)).trans t3, (fr2 _ _ (by omega)).trans t4⟩
  have L1 : ∀ j, j ≤ P 2 0 → ∀ R, hfc 2 R0 R → R 71 4 = nI (P 2 0) → (∀ j, j < 24 → R 72 j = nI (P 0 j) ∧ R 73 j = nI (P 1 j)) → (∀ p, p < j → R (76 + p) 0 = nI (P 5 p) ∧ R (76 + p) 1 = nI (P 6 p)) → hk_wp none 0 0 hk_dft cP_copyFrom (hk_call d) (hk_qe Q) 22 [(2, .int (nI j)), (0, .ref 71), (1, .ref 39)] [] (hw R X) 0 0 := by
    refine hk_for ?_ ?_
    · intro R fr r4 rw0 rp
      refine hk_run2 (hk_call_m d) 4 ?_
      refine And.intro (fun c => ?_) (fun c => absurd (by rw [r4]; exact nI_le (Nat.le_refl _) (by omega)) c)
      refine hk_stop2 (hk_call_m d) (hk_run2 (hk_call_m d) 6 ?_)
      refine w_put trivial rfl rfl ?_
      rw [fr 39 5 (by omega), c2]
      have fr2 : ∀ a k, ¬ (a = 71 ∧ k = 5) → up2 R 71 5 (nI (P 3 0)) a k = R a k := fun a k z => up2_n z
      refine L2 0 (Nat.zero_le _) _ (hfc_tr fr (hfc_up (by omega))) ?_ (up2_s _ _ _ _) ?_ ?_ (fun h hh => absurd hh (Nat.not_lt_zero h))
      · exact (fr2 _ _ (by omega)).trans r4
      · exact fun j hj => ⟨(fr2 _ _ (by omega)).trans (rw0 j hj).1, (fr2 _ _ (by omega)).trans (rw0 j hj).2⟩
      · exact fun p hp => ⟨(fr2 _ _ (by omega)).trans (rp p hp).1, (fr2 _ _ (by omega)).trans (rp p hp).2⟩
    · intro j hj ih R fr r4 rw0 rp
      have ha : hPer (76 + j) := by unfold hPer; omega
      have hb : hPer (44 + j) := by unfold hPer; omega
      obtain ⟨s0, s1⟩ := c5 j hj
      refine hk_run2 (hk_call_m d) 100 ?_
      refine And.intro (fun c => absurd c (by rw [r4]; exact nI_ge hj (by omega))) (fun c => ?_)
      refine And.intro (vp_in_nI (N := 5) (by omega) (by omega)) ?_
      refine And.intro (vp_in_nI (N := 5) (by omega) (by omega)) ?_
      rw [nI_clamp (by omega)]
      refine w_recv (hPer_t ha) ?_
      refine sp_ncopyFrom (by omega) ha hb (by omega) ?_
      have fr2 : ∀ a k, a ≠ 76 + j → up2 (up2 R (76 + j) 0 (R (44 + j) 0)) (76 + j) 1 (R (44 + j) 1) a k = R a k := fun a k z => by
        rw [up2_a z, up2_a z]
      refine Exists.intro [0, 1, 2] ?_
      rw [nI_1]
      refine hk_stop2 (hk_call_m d) (ih _ ?_ ?_ ?_ ?_)
      · exact hfc_tr fr (fun a k z => fr2 a k (by omega))
      · exact (fr2 _ _ (by omega)).trans r4
      · exact fun j hj => ⟨(fr2 _ _ (by omega)).trans (rw0 j hj).1, (fr2 _ _ (by omega)).trans (rw0 j hj).2⟩
      · intro h hh
        by_cases e : h = j
        · subst e
          refine ⟨?_, ?_⟩
          · rw [up2_k (by decide), up2_s, fr _ _ (by omega)]; exact s0
          · rw [up2_s, fr _ _ (by omega)]; exact s1
        · obtain ⟨t0, t1⟩ := rp h (by omega)
          exact ⟨(fr2 _ _ (by omega)).trans t0, (fr2 _ _ (by omega)).trans t1⟩
  refine hk_run2 (hk_call_m d) 22 ?_
  refine w_cpy (R := R0) (a := 40) (b := 72) ⟨by decide, by decide, by decide, Nat.le_refl 24, Nat.le_refl 24, fun j => ⟨_, hw_int (R := R0) (X := X) (a := 40) (j := j) rfl⟩⟩ (fun _ => rfl) (fun _ => rfl) rfl ?_
  refine w_cpy (R := cp2 R0 40 72 24) (a := 41) (b := 73) ⟨by decide, by decide, by decide, Nat.le_refl 24, Nat.le_refl 24, fun j => ⟨_, hw_int (X := X) (a := 41) (j := j) rfl⟩⟩ (fun _ => rfl) (fun _ => rfl) rfl ?_
  refine w_put trivial rfl rfl ?_
  have fr2 : ∀ a k, ¬ (a = 71 ∧ k = 4) → ¬ a = 72 → ¬ a = 73 → up2 (cp2 (cp2 R0 40 72 24) 41 73 24) 71 4 (cp2 (cp2 R0 40 72 24) 41 73 24 39 4) a k = R0 a k := fun a k z1 z2 z3 => by
    rw [up2_n z1, cp2_a z3, cp2_a z2]
  refine L1 0 (Nat.zero_le _) _ ?_ ?_ ?_ (fun h hh => absurd hh (Nat.not_lt_zero h))
  · exact fun a k z => fr2 a k (by omega) (by omega) (by omega)
  · rw [up2_s, cp2_a (by decide), cp2_a (by decide)]; exact c1
  · intro j hj
    rw [up2_a (by decide), up2_a (by decide), cp2_a (show 72 ≠ 73 by decide), cp2_s hj, cp2_s hj, cp2_a (by decide)]
    exact c4 j hj
set_option maxHeartbeats 400000 in
theorem sp_pcopyFrom_02 {d : Nat} (hd : 1 < d) {R0 : Nat → Nat → Int32} {X : hk_D} {Q : hk_Q} {P : hP} (K : hf_K 2 P R0) (hQ : ∀ R', hf_K 0 P R' → hfc 0 R0 R' → Q none (hw R' X)) : hk_call d mP_copyFrom [.ref 39, .ref 71] (hw R0 X) Q := by
  obtain ⟨d, rfl⟩ : ∃ e, d = e + 1 := ⟨d - 1, by omega⟩
  obtain ⟨⟨c1, c2, c3, c4, c5, c6⟩, ok⟩ := K
  have n5 := ok.1
  have n6 := ok.2.1
  have c1 : R0 71 4 = nI (P 2 0) := c1
  have c2 : R0 71 5 = nI (P 3 0) := c2
  have c3 : R0 71 6 = nI (P 4 0) := c3
  have c4 : ∀ j, j < 24 → R0 72 j = nI (P 0 j) ∧ R0 73 j = nI (P 1 j) := c4
  have c5 : ∀ p, p < P 2 0 → R0 (76 + p) 0 = nI (P 5 p) ∧ R0 (76 + p) 1 = nI (P 6 p) := c5
  have c6 : ∀ h, h < P 3 0 → R0 (81 + h) 0 = nI (P 7 h) ∧ R0 (81 + h) 1 = nI (P 8 h) ∧ R0 (81 + h) 2 = nI (P 9 h) ∧ R0 (81 + h) 3 = hf_cw (P 10 h) ∧ R0 (81 + h) 4 = hf_cs (P 10 h) := c6
  have L2 : ∀ j, j ≤ P 3 0 → ∀ R, hfc 0 R0 R → R 39 4 = nI (P 2 0) → R 39 5 = nI (P 3 0) → (∀ j, j < 24 → R 40 j = nI (P 0 j) ∧ R 41 j = nI (P 1 j)) → (∀ p, p < P 2 0 → R (44 + p) 0 = nI (P 5 p) ∧ R (44 + p) 1 = nI (P 6 p)) → (∀ h, h < j → R (49 + h) 0 = nI (P 7 h) ∧ R (49 + h) 1 = nI (P 8 h) ∧ R (49 + h) 2 = nI (P 9 h) ∧ R (49 + h) 3 = hf_cw (P 10 h) ∧ R (49 + h) 4 = hf_cs (P 10 h)) → hk_wp none 0 0 hk_dft cP_copyFrom (hk_call d) (hk_qe Q) 43 [(2, .int (nI j)), (0, .ref 39), (1, .ref 71)] [] (hw R X) 0 0 := by
    refine hk_for ?_ ?_
    · intro R fr r4 r5 rw0 rp rh
      refine hk_run2 (hk_call_m d) 100 ?_
      refine And.intro (fun c => ?_) (fun c => absurd (by rw [r5]; exact nI_le (Nat.le_refl _) (by omega)) c)
      refine w_put trivial rfl rfl ?_
      have fr2 : ∀ a k, ¬ (a = 39 ∧ k = 6) → up2 R 39 6 (R 71 6) a k = R a k := fun a k z => up2_n z
      refine hk_qe_of (hQ _ ⟨⟨?_, ?_, ?_, ?_, ?_, ?_⟩, ok⟩ (hfc_tr fr (hfc_up (by omega))))
      · exact (fr2 _ _ (by omega)).trans r4
      · exact (fr2 _ _ (by omega)).trans r5
      · exact (up2_s _ _ _ _).trans ((fr 71 6 (by omega)).trans c3)
      · exact fun j hj => ⟨(fr2 _ _ (by omega)).trans (rw0 j hj).1, (fr2 _ _ (by omega)).trans (rw0 j hj).2⟩
      · exact fun p hp => ⟨(fr2 _ _ (by omega)).trans (rp p hp).1, (fr2 _ _ (by omega)).trans (rp p hp).2⟩
      · exact fun h hh => ⟨(fr2 _ _ (by omega)).trans (rh h hh).1, (fr2 _ _ (by omega)).trans (rh h hh).2.1, (fr2 _ _ (by omega)).trans (rh h hh).2.2.1, (fr2 _ _ (by omega)).trans (rh h hh).2.2.2.1, (fr2 _ _ (by omega)).trans (rh h hh).2.2.2.2⟩
    · intro j hj ih R fr r4 r5 rw0 rp rh
      have ha : hHat (49 + j) := by unfold hHat; omega
      have hb : hHat (81 + j) := by unfold hHat; omega
      obtain ⟨s0, s1, s2, s3, s4⟩ := c6 j hj
      refine hk_run2 (hk_call_m d) 100 ?_
      refine And.intro (fun c => absurd c (by rw [r5]; exact nI_ge hj (by omega))) (fun c => ?_)
      refine And.intro (vp_in_nI (N := 6) (by omega) (by omega)) ?_
      refine And.intro (vp_in_nI (N := 6) (by omega) (by omega)) ?_
      rw [nI_clamp (by omega)]
      refine w_recv (hHat_t ha) ?_
      refine sp_hcopyFrom (by omega) ha hb (by omega) ?_
      have fr2 : ∀ a k, a ≠ 49 + j → up2 (up2 (up2 (up2 (up2 R (49 + j) 0 (R (81 + j) 0)) (49 + j) 1 (R (81 + j) 1)) (49 + j) 2 (R (81 + j) 2)) (49 + j) 3 (R (81 + j) 3)) (49 + j) 4 (R (81 + j) 4) a k = R a k := fun a k z => by
        rw [up2_a z, up2_a z, up2_a z, up2_a z, up2_a z]
      refine Exists.intro [0, 1, 2] ?_
      rw [nI_1]
      refine hk_stop2 (hk_call_m d) (ih _ ?_ ?_ ?_ ?_ ?_ ?_)
      · exact hfc_tr fr (fun a k z => fr2 a k (by omega))
      · exact (fr2 _ _ (by omega)).trans r4
      · exact (fr2 _ _ (by omega)).trans r5
      · exact fun j hj => ⟨(fr2 _ _ (by omega)).trans (rw0 j hj).1, (fr2 _ _ (by omega)).trans (rw0 j hj).2⟩
      · exact fun p hp => ⟨(fr2 _ _ (by omega)).trans (rp p hp).1, (fr2 _ _ (by omega)).trans (rp p hp).2⟩
      · intro h hh
        by_cases e : h = j
        · subst e
          refine ⟨?_, ?_, ?_, ?_, ?_⟩
          · rw [up2_k (by decide), up2_k (by decide), up2_k (by decide), up2_k (by decide), up2_s, fr _ _ (by omega)]; exact s0
          · rw [up2_k (by decide), up2_k (by decide), up2_k (by decide), up2_s, fr _ _ (by omega)]; exact s1
          · rw [up2_k (by decide), up2_k (by decide), up2_s, fr _ _ (by omega)]; exact s2
          · rw [up2_k (by decide), up2_s, fr _ _ (by omega)]; exact s3
          · rw [up2_s, fr _ _ (by omega)]; exact s4
        · obtain ⟨t0, t1, t2, t3, t4⟩ := rh h (by omega)
          exact ⟨(fr2 _ _ (by omega)).trans t0, (fr2 _ _ (by omega)).trans t1, (fr2 _ _ (by omega)).trans t2, (fr2 _ _ (by omega)).trans t3, (fr2 _ _ (by omega)).trans t4⟩
  have L1 : ∀ j, j ≤ P 2 0 → ∀ R, hfc 0 R0 R → R 39 4 = nI (P 2 0) → (∀ j, j < 24 → R 40 j = nI (P 0 j) ∧ R 41 j = nI (P 1 j)) → (∀ p, p < j → R (44 + p) 0 = nI (P 5 p) ∧ R (44 + p) 1 = nI (P 6 p)) → hk_wp none 0 0 hk_dft cP_copyFrom (hk_call d) (hk_qe Q) 22 [(2, .int (nI j)), (0, .ref 39), (1, .ref 71)] [] (hw R X) 0 0 := by
    refine hk_for ?_ ?_
    · intro R fr r4 rw0 rp
      refine hk_run2 (hk_call_m d) 4 ?_
      refine And.intro (fun c => ?_) (fun c => absurd (by rw [r4]; exact nI_le (Nat.le_refl _) (by omega)) c)
      refine hk_stop2 (hk_call_m d) (hk_run2 (hk_call_m d) 6 ?_)
      refine w_put trivial rfl rfl ?_
      rw [fr 71 5 (by omega), c2]
      have fr2 : ∀ a k, ¬ (a = 39 ∧ k = 5) → up2 R 39 5 (nI (P 3 0)) a k = R a k := fun a k z => up2_n z
      refine L2 0 (Nat.zero_le _) _ (hfc_tr fr (hfc_up (by omega))) ?_ (up2_s _ _ _ _) ?_ ?_ (fun h hh => absurd hh (Nat.not_lt_zero h))
      · exact (fr2 _ _ (by omega)).trans r4
      · exact fun j hj => ⟨(fr2 _ _ (by omega)).trans (rw0 j hj).1, (fr2 _ _ (by omega)).trans (rw0 j hj).2⟩
      · exact fun p hp => ⟨(fr2 _ _ (by omega)).trans (rp p hp).1, (fr2 _ _ (by omega)).trans (rp p hp).2⟩
    · intro j hj ih R fr r4 rw0 rp
      have ha : hPer (44 + j) := by unfold hPer; omega
      have hb : hPer (76 + j) := by unfold hPer; omega
      obtain ⟨s0, s1⟩ := c5 j hj
      refine hk_run2 (hk_call_m d) 100 ?_
      refine And.intro (fun c => absurd c (by rw [r4]; exact nI_ge hj (by omega))) (fun c => ?_)
      refine And.intro (vp_in_nI (N := 5) (by omega) (by omega)) ?_
      refine And.intro (vp_in_nI (N := 5) (by omega) (by omega)) ?_
      rw [nI_clamp (by omega)]
      refine w_recv (hPer_t ha) ?_
      refine sp_ncopyFrom (by omega) ha hb (by omega) ?_
      have fr2 : ∀ a k, a ≠ 44 + j → up2 (up2 R (44 + j) 0 (R (76 + j) 0)) (44 + j) 1 (R (76 + j) 1) a k = R a k := fun a k z => by
        rw [up2_a z, up2_a z]
      refine Exists.intro [0, 1, 2] ?_
      rw [nI_1]
      refine hk_stop2 (hk_call_m d) (ih _ ?_ ?_ ?_ ?_)
      · exact hfc_tr fr (fun a k z => fr2 a k (by omega))
      · exact (fr2 _ _ (by omega)).trans r4
      · exact fun j hj => ⟨(fr2 _ _ (by omega)).trans (rw0 j hj).1, (fr2 _ _ (by omega)).trans (rw0 j hj).2⟩
      · intro h hh
        by_cases e : h = j
        · subst e
          refine ⟨?_, ?_⟩
          · rw [up2_k (by decide), up2_s, fr _ _ (by omega)]; exact s0
          · rw [up2_s, fr _ _ (by omega)]; exact s1
        · obtain ⟨t0, t1⟩ := rp h (by omega)
          exact ⟨(fr2 _ _ (by omega)).trans t0, (fr2 _ _ (by omega)).trans t1⟩
  refine hk_run2 (hk_call_m d) 22 ?_
  refine w_cpy (R := R0) (a := 72) (b := 40) ⟨by decide, by decide, by decide, Nat.le_refl 24, Nat.le_refl 24, fun j => ⟨_, hw_int (R := R0) (X := X) (a := 72) (j := j) rfl⟩⟩ (fun _ => rfl) (fun _ => rfl) rfl ?_
  refine w_cpy (R := cp2 R0 72 40 24) (a := 73) (b := 41) ⟨by decide, by decide, by decide, Nat.le_refl 24, Nat.le_refl 24, fun j => ⟨_, hw_int (X := X) (a := 73) (j := j) rfl⟩⟩ (fun _ => rfl) (fun _ => rfl) rfl ?_
  refine w_put trivial rfl rfl ?_
  have fr2 : ∀ a k, ¬ (a = 39 ∧ k = 4) → ¬ a = 40 → ¬ a = 41 → up2 (cp2 (cp2 R0 72 40 24) 73 41 24) 39 4 (cp2 (cp2 R0 72 40 24) 73 41 24 71 4) a k = R0 a k := fun a k z1 z2 z3 => by
    rw [up2_n z1, cp2_a z3, cp2_a z2]
  refine L1 0 (Nat.zero_le _) _ ?_ ?_ ?_ (fun h hh => absurd hh (Nat.not_lt_zero h))
  · exact fun a k z => fr2 a k (by omega) (by omega) (by omega)
  · rw [up2_s, cp2_a (by decide), cp2_a (by decide)]; exact c1
  · intro j hj
    rw [up2_a (by decide), up2_a (by decide), cp2_a (show 40 ≠ 41 by decide), cp2_s hj, cp2_s hj, cp2_a (by decide)]
    exact c4 j hj
set_option maxHeartbeats 400000 in
theorem sp_paddPerson_0 {d : Nat} (hd : 0 < d) {R : Nat → Nat → Int32} {X : hk_D} {Q : hk_Q} {v w : Int32} {q s : Nat} {P : hP} (K : hf_K 0 P R) (hn : P 2 0 < 5) (ev : v = nI q) (ew : w = nI s) (hq : q < 25) (hs : s < 4) (hQ : ∀ R', hf_K 0 (hf_addp P q s) R' → hfc 0 R R' → Q (some (.int (nI (P 2 0)))) (hw R' X)) : hk_call d mP_addPerson [.ref 39, .int v, .int w] (hw R X) Q := by
  obtain ⟨d, rfl⟩ : ∃ e, d = e + 1 := ⟨d - 1, by omega⟩
  subst ev; subst ew
  have c1 : R 39 4 = nI (P 2 0) := K.1.1
  have hb : hPer (44 + P 2 0) := by unfold hPer; omega
  refine hk_run2 (hk_call_m d) 100 ?_
  refine And.intro (by rw [c1]; exact vp_in_nI (N := 5) (by omega) (by omega)) ?_
  rw [c1, nI_clamp (by omega)]
  refine w_puta (hPer_t hb) (hPer_38 hb) (hPer_k hb).1 trivial ?_
  have c1b : up2 R (44 + P 2 0) 0 (nI q) 39 4 = nI (P 2 0) := (up2_a (by omega)).trans c1
  refine And.intro (by rw [c1b]; exact vp_in_nI (N := 5) (by omega) (by omega)) ?_
  rw [c1b, nI_clamp (by omega)]
  refine w_puta (hPer_t hb) (hPer_38 hb) (hPer_k hb).2 trivial ?_
  refine w_put trivial rfl rfl ?_
  rw [up2_a (show 39 ≠ 44 + P 2 0 by omega), up2_a (show 39 ≠ 44 + P 2 0 by omega), c1, nI_1]
  refine hk_qe_of ?_
  rw [up2_s, show nI (P 2 0 + 1) - 1 = nI (P 2 0) from hn_sub1 _]
  exact hQ _ (hf_K_addp K hn hq hs) (hfc_tr (hfc_up (by omega)) (hfc_tr (hfc_up (by omega)) (hfc_up (by omega))))
set_option maxHeartbeats 400000 in
theorem sp_paddHat_0 {d : Nat} (hd : 1 < d) {R : Nat → Nat → Int32} {X : hk_D} {Q : hk_Q} {v1 v2 v3 : Int32} {P : hP} (K : hf_K 0 P R) (hn : P 3 0 < 6) (hQ : ∀ R', (∀ b l, ¬ b = 49 + P 3 0 → ¬ (b = 39 ∧ l = 5) → R' b l = R b l) → R' 39 5 = nI (P 3 0 + 1) → R' (49 + P 3 0) 0 = v1 → R' (49 + P 3 0) 1 = v2 → R' (49 + P 3 0) 2 = v3 → Q (some (.int (nI (P 3 0)))) (hw R' X)) : hk_call d mP_addHat [.ref 39, .int v1, .int v2, .int v3] (hw R X) Q := by
  obtain ⟨d, rfl⟩ : ∃ e, d = e + 1 := ⟨d - 1, by omega⟩
  have c1 : R 39 5 = nI (P 3 0) := K.1.2.1
  have hb : hHat (49 + P 3 0) := by unfold hHat; omega
  refine hk_run2 (hk_call_m d) 100 ?_
  refine And.intro (by rw [c1]; exact vp_in_nI (N := 6) (by omega) (by omega)) ?_
  rw [c1, nI_clamp (by omega)]
  refine w_recv (hHat_t hb) ?_
  refine sp_hbecome (by omega) hb ?_
  have c1b : up2 (up2 R (49 + P 3 0) 0 v1) (49 + P 3 0) 1 v2 39 5 = nI (P 3 0) := (up2_a (by omega)).trans ((up2_a (by omega)).trans c1)
  refine And.intro (by rw [c1b]; exact vp_in_nI (N := 6) (by omega) (by omega)) ?_
  rw [c1b, nI_clamp (by omega)]
  refine w_puta (hHat_t hb) (hHat_38 hb) (hHat_k hb).2.2.1 trivial ?_
  refine w_put trivial rfl rfl ?_
  rw [up2_a (show 39 ≠ 49 + P 3 0 by omega), up2_a (show 39 ≠ 49 + P 3 0 by omega), up2_a (show 39 ≠ 49 + P 3 0 by omega), c1, nI_1]
  refine hk_qe_of ?_
  rw [up2_s, show nI (P 3 0 + 1) - 1 = nI (P 3 0) from hn_sub1 _]
  refine hQ _ (fun b l z1 z2 => ?_) (up2_s _ _ _ _) ?_ ?_ ?_
  · rw [up2_n z2, up2_a z1, up2_a z1, up2_a z1]
  · rw [up2_a (by omega), up2_k (by decide), up2_k (by decide), up2_s]
  · rw [up2_a (by omega), up2_k (by decide), up2_s]
  · rw [up2_a (by omega), up2_s]
set_option maxHeartbeats 400000 in
theorem sp_paddPerson_1 {d : Nat} (hd : 0 < d) {R : Nat → Nat → Int32} {X : hk_D} {Q : hk_Q} {v w : Int32} {q s : Nat} {P : hP} (K : hf_K 1 P R) (hn : P 2 0 < 5) (ev : v = nI q) (ew : w = nI s) (hq : q < 25) (hs : s < 4) (hQ : ∀ R', hf_K 1 (hf_addp P q s) R' → hfc 1 R R' → Q (some (.int (nI (P 2 0)))) (hw R' X)) : hk_call d mP_addPerson [.ref 55, .int v, .int w] (hw R X) Q := by
  obtain ⟨d, rfl⟩ : ∃ e, d = e + 1 := ⟨d - 1, by omega⟩
  subst ev; subst ew
  have c1 : R 55 4 = nI (P 2 0) := K.1.1
  have hb : hPer (60 + P 2 0) := by unfold hPer; omega
  refine hk_run2 (hk_call_m d) 100 ?_
  refine And.intro (by rw [c1]; exact vp_in_nI (N := 5) (by omega) (by omega)) ?_
  rw [c1, nI_clamp (by omega)]
  refine w_puta (hPer_t hb) (hPer_38 hb) (hPer_k hb).1 trivial ?_
  have c1b : up2 R (60 + P 2 0) 0 (nI q) 55 4 = nI (P 2 0) := (up2_a (by omega)).trans c1
  refine And.intro (by rw [c1b]; exact vp_in_nI (N := 5) (by omega) (by omega)) ?_
  rw [c1b, nI_clamp (by omega)]
  refine w_puta (hPer_t hb) (hPer_38 hb) (hPer_k hb).2 trivial ?_
  refine w_put trivial rfl rfl ?_
  rw [up2_a (show 55 ≠ 60 + P 2 0 by omega), up2_a (show 55 ≠ 60 + P 2 0 by omega), c1, nI_1]
  refine hk_qe_of ?_
  rw [up2_s, show nI (P 2 0 + 1) - 1 = nI (P 2 0) from hn_sub1 _]
  exact hQ _ (hf_K_addp K hn hq hs) (hfc_tr (hfc_up (by omega)) (hfc_tr (hfc_up (by omega)) (hfc_up (by omega))))
set_option maxHeartbeats 400000 in
theorem sp_paddHat_1 {d : Nat} (hd : 1 < d) {R : Nat → Nat → Int32} {X : hk_D} {Q : hk_Q} {v1 v2 v3 : Int32} {P : hP} (K : hf_K 1 P R) (hn : P 3 0 < 6) (hQ : ∀ R', (∀ b l, ¬ b = 65 + P 3 0 → ¬ (b = 55 ∧ l = 5) → R' b l = R b l) → R' 55 5 = nI (P 3 0 + 1) → R' (65 + P 3 0) 0 = v1 → R' (65 + P 3 0) 1 = v2 → R' (65 + P 3 0) 2 = v3 → Q (some (.int (nI (P 3 0)))) (hw R' X)) : hk_call d mP_addHat [.ref 55, .int v1, .int v2, .int v3] (hw R X) Q := by
  obtain ⟨d, rfl⟩ : ∃ e, d = e + 1 := ⟨d - 1, by omega⟩
  have c1 : R 55 5 = nI (P 3 0) := K.1.2.1
  have hb : hHat (65 + P 3 0) := by unfold hHat; omega
  refine hk_run2 (hk_call_m d) 100 ?_
  refine And.intro (by rw [c1]; exact vp_in_nI (N := 6) (by omega) (by omega)) ?_
  rw [c1, nI_clamp (by omega)]
  refine w_recv (hHat_t hb) ?_
  refine sp_hbecome (by omega) hb ?_
  have c1b : up2 (up2 R (65 + P 3 0) 0 v1) (65 + P 3 0) 1 v2 55 5 = nI (P 3 0) := (up2_a (by omega)).trans ((up2_a (by omega)).trans c1)
  refine And.intro (by rw [c1b]; exact vp_in_nI (N := 6) (by omega) (by omega)) ?_
  rw [c1b, nI_clamp (by omega)]
  refine w_puta (hHat_t hb) (hHat_38 hb) (hHat_k hb).2.2.1 trivial ?_
  refine w_put trivial rfl rfl ?_
  rw [up2_a (show 55 ≠ 65 + P 3 0 by omega), up2_a (show 55 ≠ 65 + P 3 0 by omega), up2_a (show 55 ≠ 65 + P 3 0 by omega), c1, nI_1]
  refine hk_qe_of ?_
  rw [up2_s, show nI (P 3 0 + 1) - 1 = nI (P 3 0) from hn_sub1 _]
  refine hQ _ (fun b l z1 z2 => ?_) (up2_s _ _ _ _) ?_ ?_ ?_
  · rw [up2_n z2, up2_a z1, up2_a z1, up2_a z1]
  · rw [up2_a (by omega), up2_k (by decide), up2_k (by decide), up2_s]
  · rw [up2_a (by omega), up2_k (by decide), up2_s]
  · rw [up2_a (by omega), up2_s]
set_option maxHeartbeats 400000 in
theorem sp_pstillWinds_1 {d : Nat} (hd : 1 < d) {R0 : Nat → Nat → Int32} {X : hk_D} {Q : hk_Q} (hQ : ∀ R', (∀ k, k < 24 → R' 56 k = nI 0 ∧ R' 57 k = nI 0) → (∀ a k, ¬ (a = 56 ∨ a = 57) → R' a k = R0 a k) → Q none (hw R' X)) : hk_call d mP_stillWinds [.ref 55] (hw R0 X) Q := by
  obtain ⟨d, rfl⟩ : ∃ e, d = e + 1 := ⟨d - 1, by omega⟩
  have L : ∀ j, j ≤ 24 → ∀ R, (∀ k, k < j → R 56 k = nI 0 ∧ R 57 k = nI 0) → (∀ a k, ¬ (a = 56 ∨ a = 57) → R a k = R0 a k) → hk_wp none 0 0 hk_dft cP_stillWinds (hk_call d) (hk_qe Q) 2 [(1, .int (nI j)), (0, .ref 55)] [] (hw R X) 0 0 := by
    refine hk_for ?_ ?_
    · intro R h1 h2
      refine hk_run2 (hk_call_m d) 100 ?_
      refine And.intro (fun c => ?_) (fun c => absurd (nI_le (Nat.le_refl 24) (by omega)) c)
      exact hk_qe_of (hQ R h1 h2)
    · intro j hj ih R h1 h2
      refine hk_run2 (hk_call_m d) 100 ?_
      refine And.intro (fun c => absurd c (show ¬ nI 24 ≤ nI j from nI_ge hj (by omega))) (fun c => ?_)
      refine sp_psetWind_1 (by omega) rfl hj ?_
      refine Exists.intro [0, 1] ?_
      rw [nI_1]
      refine hk_stop2 (hk_call_m d) (ih _ (fun k hk => ?_) (fun a k z => ?_))
      · by_cases e : k = j
        · subst e; rw [up2_a (by decide), up2_s, up2_s]; exact ⟨rfl, rfl⟩
        · rw [up2_k e, up2_k e, up2_k e, up2_k e]; exact h1 k (by omega)
      · rw [up2_a (by omega), up2_a (by omega)]; exact h2 a k z
  refine hk_run2 (hk_call_m d) 2 ?_
  exact L 0 (Nat.zero_le _) R0 (fun k hk => absurd hk (Nat.not_lt_zero k)) (fun _ _ _ => rfl)
/-- nobody, nothing, no wind -/
def hf_nil : hP := fun _ _ => 0
theorem hf_ok_nil : hf_ok hf_nil := ⟨Nat.zero_le _, Nat.zero_le _, Nat.zero_le _, fun _ _ => ⟨show 0 < 4 by decide, show 0 < 10 by decide⟩, fun p hp => absurd hp (Nat.not_lt_zero p), fun p hp => absurd hp (Nat.not_lt_zero p)⟩
set_option maxHeartbeats 400000 in
theorem sp_pclear_1 {d : Nat} (hd : 2 < d) {R0 : Nat → Nat → Int32} {X : hk_D} {Q : hk_Q} (hQ : ∀ R', hf_K 1 hf_nil R' → hfc 1 R0 R' → Q none (hw R' X)) : hk_call d mP_clear [.ref 55] (hw R0 X) Q := by
  obtain ⟨d, rfl⟩ : ∃ e, d = e + 1 := ⟨d - 1, by omega⟩
  refine hk_run2 (hk_call_m d) 100 ?_
  refine sp_pstillWinds_1 (by omega) (fun R h1 h2 => ?_)
  refine w_put trivial rfl rfl ?_
  refine w_put trivial rfl rfl ?_
  refine w_put trivial rfl rfl ?_
  refine hk_qe_of (hQ _ ⟨⟨?_, ?_, ?_, ?_, fun p hp => absurd hp (Nat.not_lt_zero p), fun p hp => absurd hp (Nat.not_lt_zero p)⟩, hf_ok_nil⟩ (fun a k z => ?_))
  · rw [show 39 + 16 * 1 = 55 from rfl, up2_k (by decide), up2_k (by decide), up2_s]; rfl
  · rw [show 39 + 16 * 1 = 55 from rfl, up2_k (by decide), up2_s]; rfl
  · rw [show 39 + 16 * 1 = 55 from rfl, up2_s]; rfl
  · intro j hj
    rw [show 40 + 16 * 1 = 56 from rfl, show 41 + 16 * 1 = 57 from rfl, up2_a (by decide), up2_a (by decide), up2_a (by decide), up2_a (by decide), up2_a (by decide), up2_a (by decide)]
    exact h1 j hj
  · rw [up2_a (by omega), up2_a (by omega), up2_a (by omega)]; exact h2 a k (by omega)
