/-! THE REFERENCE: draw, trace, keep, again -/
theorem hz_ush (x : Int32) (s : Int32) (t : Nat) (hs : (s.toUInt32 &&& Int32.toUInt32 31).toNat = t) (ht : t < 32) : hk_ush x s = nI (x.toUInt32.toNat / 2 ^ t) := by
  unfold hk_ush
  have e : x.toUInt32 >>> (s.toUInt32 &&& Int32.toUInt32 31) = UInt32.ofNat (x.toUInt32.toNat / 2 ^ t) := by
    apply UInt32.toNat.inj
    have hx := x.toUInt32.toNat_lt
    rw [UInt32.toNat_shiftRight, hs, UInt32.toNat_ofNat', Nat.mod_eq_of_lt (a := t) ht, Nat.shiftRight_eq_div_pow]
    refine (Nat.mod_eq_of_lt ?_).symm
    exact Nat.lt_of_le_of_lt (Nat.div_le_self _ _) hx
  rw [e]
  rfl
def hf_zd (z : Int32) : Nat := z.toUInt32.toNat / 2 ^ 16 % 4
def hf_zf (z : Int32) : Nat := z.toUInt32.toNat / 2 ^ 20 % 10
theorem hf_zd_lt (z : Int32) : hf_zd z < 4 := Nat.mod_lt _ (by decide)
theorem hf_zf_lt (z : Int32) : hf_zf z < 10 := Nat.mod_lt _ (by decide)
theorem hf_zd_e (z : Int32) : hk_rem (hk_ush z 16) 4 = nI (hf_zd z) := by
  have hx := z.toUInt32.toNat_lt
  rw [hz_ush z 16 16 (by decide) (by decide)]
  refine hn_rem (b := 4) ?_ (by omega) (by omega)
  omega
theorem hf_zf_e (z : Int32) : hk_rem (hk_ush z 20) 10 = nI (hf_zf z) := by
  have hx := z.toUInt32.toNat_lt
  rw [hz_ush z 20 20 (by decide) (by decide)]
  refine hn_rem (b := 10) ?_ (by omega) (by omega)
  omega
def hf_zn (z : Int32) : Int32 := z * 1103515245 + 12345
def o_draw (P : hP) (z v : Int32) : Int32 × hP × Int32 := match hxi 24 v with
  | none => (-1, P, z)
  | some g => (nI (10 * hf_zd (hf_zn z) + hf_zf (hf_zn z)), hf_up (hf_up P 0 g (hf_zd (hf_zn z))) 1 g (hf_zf (hf_zn z)), hf_zn z)
set_option maxHeartbeats 400000 in
theorem sp_mdraw {d : Nat} (hd : 3 < d) {R : Nat → Nat → Int32} {X : hk_D} {Q : hk_Q} {v : Int32} {P : hP} (M : hf_M 0 P R) (hQ : ∀ R', hf_M 0 (o_draw P (R 98 10) v).2.1 R' → R' 98 10 = (o_draw P (R 98 10) v).2.2 → (∀ a k, ¬ (99 ≤ a ∧ a ≤ 105) → ¬ (a = 98 ∧ (k = 2 ∨ k = 4 ∨ k = 10)) → R' a k = R a k) → Q (some (.int (o_draw P (R 98 10) v).1)) (hw R' X)) : hk_call d mM_draw [.ref 98, .int v] (hw R X) Q := by
  obtain ⟨d, rfl⟩ : ∃ e, d = e + 1 := ⟨d - 1, by omega⟩
  unfold o_draw at hQ
  refine hk_run2 (hk_call_m d) 100 ?_
  refine sp_misHour (by omega) (fun g hg e => ?_) (fun ng => ?_)
  · refine And.intro (fun c => absurd c (by decide)) (fun _ => ?_)
    rw [e, hxi_s hg (by omega)] at hQ
    dsimp only at hQ
    subst e
    refine w_put trivial rfl rfl ?_
    refine And.intro (by decide) ?_
    refine w_st (t := 0) (j := g) (n := 24) rfl rfl hg (by omega) rfl rfl ?_
    refine And.intro (by decide) ?_
    refine w_st (t := 0) (j := g) (n := 24) rfl rfl hg (by omega) rfl rfl ?_
    rw [up2_a (show 98 ≠ 99 by decide), up2_s, show R 98 10 * 1103515245 + 12345 = hf_zn (R 98 10) from rfl, hf_zd_e, hf_zf_e]
    generalize hf_zn (R 98 10) = z at hQ ⊢
    have M1 : hf_M 0 P (up2 R 98 10 z) := hf_M_eq M (fun a k q => up2_n (by omega))
    have M2 := hf_M_wind M1 hg (hf_zd_lt z) (hf_zf_lt z)
    refine sp_mwindOf (by omega) M2 ?_
    refine hk_qe_of ?_
    have ea : a_windOf (hf_up (hf_up P 0 g (hf_zd z)) 1 g (hf_zf z)) (nI g) = nI (10 * hf_zd z + hf_zf z) := by
      unfold a_windOf
      rw [hxi_s hg (by omega)]
      show nI (10 * hf_up (hf_up P 0 g (hf_zd z)) 1 g (hf_zf z) 0 g + hf_up (hf_up P 0 g (hf_zd z)) 1 g (hf_zf z) 1 g) = _
      rw [hf_up_r (by decide), hf_up_s, hf_up_s]
    rw [ea]
    refine hQ _ M2 ?_ (fun a k q1 q2 => ?_)
    · rw [up2_a (by decide), up2_a (by decide), up2_s]
    · rw [up2_a (by omega), up2_a (by omega), up2_n (by omega)]
  · refine And.intro (fun _ => ?_) (fun c => absurd rfl c)
    rw [hxi_n (by omega) ng] at hQ
    exact hk_qe_of (hQ R M rfl (fun _ _ _ _ => rfl))
def a_trace (b : Nat) (f : Nat → Int32) (v : Int32) : Int32 := match hxi b v with
  | none => -3
  | some i => f i
theorem sp_mtrace {d : Nat} (hd : 1 < d) {R : Nat → Nat → Int32} {X : hk_D} {Q : hk_Q} {v : Int32} {b : Nat} (eb : R 98 45 = nI b) (hb : b ≤ 30) (hQ : Q (some (.int (a_trace b (R 124) v))) (hw R X)) : hk_call d mM_trace [.ref 98, .int v] (hw R X) Q := by
  obtain ⟨d, rfl⟩ : ∃ e, d = e + 1 := ⟨d - 1, by omega⟩
  unfold a_trace at hQ
  refine hk_run2 (hk_call_m d) 100 ?_
  refine sp_in (by omega) (n := b) (by omega) (by rw [eb]) (fun i hi ei => ?_) (fun nn => ?_)
  · refine And.intro (fun c => absurd c (by decide)) (fun _ => ?_)
    rw [ei, hxi_s hi (by omega)] at hQ
    refine w_ld (j := i) (n := 30) ei rfl (by omega) (by omega) rfl rfl ?_
    exact hk_qe_of hQ
  · refine And.intro (fun _ => ?_) (fun c => absurd rfl c)
    rw [hxi_n (by omega) nn] at hQ
    exact hk_qe_of hQ
/-! rows of any array of ints -/
theorem w_lds {R : Nat → Nat → Int32} {X : hk_D} {Xc : hk_X} {ip q m : Nat} {ls : hk_Ls} {a j n : Nat} {i x : Int32} {r : List Value} {h : hk_Hp} (ht : ((hw R X).2 a).1 = 10) (hi : i = nI j) (hn : ((hw R X).2 a).2.1 = n) (hj : j < n) (hb : n < 2 ^ 31) (hk : hk_kI X a j = true) (hx : R a j = x) (g : Xc ip ls (.int x :: r) h q m) : (bif Nat.beq ((hw R X).2 a).1 10 then vp_in i ((hw R X).2 a).2.1 ∧ hk_v (((hw R X).2 a).2.2 i.toNatClampNeg) (fun v => Xc ip ls (v :: r) h q m) else False) := by
  rw [ht]
  exact w_ld hi hn hj hb hk hx g
theorem w_sts {R : Nat → Nat → Int32} {X : hk_D} {Xc : hk_X} {ip q m : Nat} {ls : hk_Ls} {a j n : Nat} {i v : Int32} {r : List Value} (ht : ((hw R X).2 a).1 = 10) (h38 : 38 ≤ a) (hi : i = nI j) (hn : ((hw R X).2 a).2.1 = n) (hj : j < n) (hb : n < 2 ^ 31) (hk : hk_kI X a j = true) (g : Xc ip ls r (hw (up2 R a j v) X) q m) : (bif Nat.beq ((hw R X).2 a).1 10 && Nat.ble 38 a then vp_in i ((hw R X).2 a).2.1 ∧ hk_astv 10 (.int v) (fun v' => Xc ip ls r (hk_up (hw R X) a (10, ((hw R X).2 a).2.1, va_up ((hw R X).2 a).2.2 i.toNatClampNeg v')) q m) else False) := by
  have e : (Nat.beq ((hw R X).2 a).1 10 && Nat.ble 38 a) = true := by
    rw [ht, show Nat.ble 38 a = true from Nat.ble_eq_true_of_le h38]; rfl
  rw [e]
  exact w_st (t := 0) hi hn hj hb hk ht g
/-- an array of the reference with so many ints -/
def hAr (a n : Nat) : Prop := 99 ≤ a ∧ a ≤ 126 ∧ a ≠ 125 ∧ ∀ R X, ((hw R X).2 a).1 = 10 ∧ ((hw R X).2 a).2.1 = n ∧ ∀ k, hk_kI X a k = true
theorem hAr_126 : hAr 126 3 := ⟨by decide, by decide, by decide, fun _ _ => ⟨rfl, rfl, fun _ => rfl⟩⟩
theorem hAr_99 : hAr 99 24 := ⟨by decide, by decide, by decide, fun _ _ => ⟨rfl, rfl, fun _ => rfl⟩⟩
theorem hAr_100 : hAr 100 24 := ⟨by decide, by decide, by decide, fun _ _ => ⟨rfl, rfl, fun _ => rfl⟩⟩
theorem hAr_101 : hAr 101 5 := ⟨by decide, by decide, by decide, fun _ _ => ⟨rfl, rfl, fun _ => rfl⟩⟩
theorem hAr_102 : hAr 102 6 := ⟨by decide, by decide, by decide, fun _ _ => ⟨rfl, rfl, fun _ => rfl⟩⟩
theorem hAr_103 : hAr 103 6 := ⟨by decide, by decide, by decide, fun _ _ => ⟨rfl, rfl, fun _ => rfl⟩⟩
theorem hAr_104 : hAr 104 6 := ⟨by decide, by decide, by decide, fun _ _ => ⟨rfl, rfl, fun _ => rfl⟩⟩
theorem hAr_105 : hAr 105 36 := ⟨by decide, by decide, by decide, fun _ _ => ⟨rfl, rfl, fun _ => rfl⟩⟩
set_option maxHeartbeats 400000 in
theorem sp_mmove1 {d : Nat} (hd : 0 < d) {R0 : Nat → Nat → Int32} {X : hk_D} {Q : hk_Q} {w : Int32} {a N n o : Nat} (ha : hAr a N) (hn : n ≤ N) (ew : w = nI n) (hN : N ≤ 36) (ho : R0 98 49 = nI o) (hb : o + n ≤ 100) (hQ : ∀ R', (∀ k, k < n → R' 125 (o + k) = R0 a k) → R' 98 49 = nI (o + n) → (∀ b k, ¬ (b = 125 ∧ o ≤ k) → ¬ (b = 98 ∧ k = 49) → R' b k = R0 b k) → Q none (hw R' X)) : hk_call d mM_moveRow [.ref 98, .ref a, .int w, .int 1] (hw R0 X) Q := by
  obtain ⟨d, rfl⟩ : ∃ e, d = e + 1 := ⟨d - 1, by omega⟩
  subst ew
  obtain ⟨a1, a2, a3, a4⟩ := ha
  have L : ∀ j, j ≤ n → ∀ R, (∀ k, k < j → R 125 (o + k) = R0 a k) → R 98 49 = nI (o + j) → (∀ b k, ¬ (b = 125 ∧ o ≤ k) → ¬ (b = 98 ∧ k = 49) → R b k = R0 b k) → hk_wp none 0 0 hk_dft cM_moveRow (hk_call d) (hk_qe Q) 2 [(4, .int (nI j)), (0, .ref 98), (1, .ref a), (2, .int (nI n)), (3, .int 1)] [] (hw R X) 0 0 := by
    refine hk_for ?_ ?_
    · intro R h1 h2 h3
      refine hk_run2 (hk_call_m d) 100 ?_
      refine And.intro (fun c => ?_) (fun c => absurd (nI_le (Nat.le_refl _) (by omega)) c)
      exact hk_qe_of (hQ R h1 h2 h3)
    · intro j hj ih R h1 h2 h3
      obtain ⟨b1, b2, b3⟩ := a4 R X
      refine hk_run2 (hk_call_m d) 100 ?_
      refine And.intro (fun c => absurd c (nI_ge hj (by omega))) (fun c => ?_)
      refine And.intro (fun c => absurd c (by decide)) (fun _ => ?_)
      refine w_lds b1 rfl b2 (show j < N by omega) (by omega) (b3 j) rfl ?_
      refine w_st (t := 0) (j := o + j) (n := 100) h2 rfl (by omega) (by omega) rfl rfl ?_
      refine w_put trivial rfl rfl ?_
      refine Exists.intro [0, 1, 2, 3, 4] ?_
      rw [nI_1]
      refine hk_stop2 (hk_call_m d) (ih _ (fun k hk => ?_) ?_ (fun b k q1 q2 => ?_))
      · rw [up2_a (by decide)]
        by_cases e : k = j
        · subst e; rw [up2_s]; exact h3 _ _ (by omega) (by omega)
        · rw [up2_k (by omega)]; exact h1 k (by omega)
      · rw [up2_s, up2_a (by decide), h2, nI_1]; rfl
      · rw [up2_n q2, up2_n (by omega)]; exact h3 b k q1 q2
  refine hk_run2 (hk_call_m d) 2 ?_
  exact L 0 (Nat.zero_le _) R0 (fun k hk => absurd hk (Nat.not_lt_zero k)) ho (fun _ _ _ _ => rfl)
set_option maxHeartbeats 400000 in
theorem sp_mmove0 {d : Nat} (hd : 0 < d) {R0 : Nat → Nat → Int32} {X : hk_D} {Q : hk_Q} {w : Int32} {a N n o : Nat} (ha : hAr a N) (hn : n ≤ N) (ew : w = nI n) (hN : N ≤ 36) (ho : R0 98 49 = nI o) (hb : o + n ≤ 100) (hQ : ∀ R', (∀ k, k < n → R' a k = R0 125 (o + k)) → R' 98 49 = nI (o + n) → (∀ b k, ¬ (b = a ∧ k < n) → ¬ (b = 98 ∧ k = 49) → R' b k = R0 b k) → Q none (hw R' X)) : hk_call d mM_moveRow [.ref 98, .ref a, .int w, .int 0] (hw R0 X) Q := by
  obtain ⟨d, rfl⟩ : ∃ e, d = e + 1 := ⟨d - 1, by omega⟩
  subst ew
  obtain ⟨a1, a2, a3, a4⟩ := ha
  have L : ∀ j, j ≤ n → ∀ R, (∀ k, k < j → R a k = R0 125 (o + k)) → R 98 49 = nI (o + j) → (∀ b k, ¬ (b = a ∧ k < n) → ¬ (b = 98 ∧ k = 49) → R b k = R0 b k) → hk_wp none 0 0 hk_dft cM_moveRow (hk_call d) (hk_qe Q) 2 [(4, .int (nI j)), (0, .ref 98), (1, .ref a), (2, .int (nI n)), (3, .int 0)] [] (hw R X) 0 0 := by
    refine hk_for ?_ ?_
    · intro R h1 h2 h3
      refine hk_run2 (hk_call_m d) 100 ?_
      refine And.intro (fun c => ?_) (fun c => absurd (nI_le (Nat.le_refl _) (by omega)) c)
      exact hk_qe_of (hQ R h1 h2 h3)
    · intro j hj ih R h1 h2 h3
      obtain ⟨b1, b2, b3⟩ := a4 R X
      refine hk_run2 (hk_call_m d) 100 ?_
      refine And.intro (fun c => absurd c (nI_ge hj (by omega))) (fun c => ?_)
      refine And.intro (fun _ => ?_) (fun c => absurd rfl c)
      refine w_ld (j := o + j) (n := 100) h2 rfl (by omega) (by omega) rfl rfl ?_
      refine w_sts b1 (by omega) rfl b2 (show j < N by omega) (by omega) (b3 j) ?_
      refine w_put trivial rfl rfl ?_
      refine Exists.intro [0, 1, 2, 3, 4] ?_
      rw [nI_1]
      refine hk_stop2 (hk_call_m d) (ih _ (fun k hk => ?_) ?_ (fun b k q1 q2 => ?_))
      · rw [up2_a (by omega)]
        by_cases e : k = j
        · subst e; rw [up2_s]; exact h3 _ _ (by omega) (by omega)
        · rw [up2_k e]; exact h1 k (by omega)
      · rw [up2_s, up2_a (by omega), h2, nI_1]; rfl
      · rw [up2_n q2, up2_n (by omega)]; exact h3 b k q1 q2
  refine hk_run2 (hk_call_m d) 2 ?_
  exact L 0 (Nat.zero_le _) R0 (fun k hk => absurd hk (Nat.not_lt_zero k)) ho (fun _ _ _ _ => rfl)
/-- R's kept row is what R0 held -/
def hf_sn (R0 R : Nat → Nat → Int32) : Prop := R 125 0 = R0 98 2 ∧ R 125 1 = R0 98 4 ∧ R 125 2 = R0 98 10 ∧ (∀ k, k < 24 → R 125 (3 + k) = R0 99 k) ∧ (∀ k, k < 24 → R 125 (27 + k) = R0 100 k) ∧ (∀ k, k < 5 → R 125 (51 + k) = R0 101 k) ∧ (∀ k, k < 6 → R 125 (56 + k) = R0 102 k) ∧ (∀ k, k < 6 → R 125 (62 + k) = R0 103 k) ∧ (∀ k, k < 6 → R 125 (68 + k) = R0 104 k) ∧ (∀ k, k < 18 → R 125 (74 + k) = R0 105 k)
theorem hf_M_sn {P : hP} {R0 R' : Nat → Nat → Int32} (M : hf_M 0 P R0) (h9 : R' 98 9 = nI 0) (h2 : R' 98 2 = R0 98 2) (h4 : R' 98 4 = R0 98 4) (a99 : ∀ k, k < 24 → R' 99 k = R0 99 k) (a100 : ∀ k, k < 24 → R' 100 k = R0 100 k) (a101 : ∀ k, k < 5 → R' 101 k = R0 101 k) (a102 : ∀ k, k < 6 → R' 102 k = R0 102 k) (a103 : ∀ k, k < 6 → R' 103 k = R0 103 k) (a104 : ∀ k, k < 6 → R' 104 k = R0 104 k) (a105 : ∀ k, k < 18 → R' 105 k = R0 105 k) : hf_M 0 P R' := by
  have o4 := M.2.2.2.2
  have n5 := o4.1
  have n6 := o4.2.1
  refine hf_M_mk (P := P) (R := R0) h9 (by omega) (h2.trans M.1.1) (h4.trans M.1.2.1) o4.1 o4.2.1 ⟨o4.2.2.1, (a105 0 (by omega)).trans M.2.1.1⟩ (fun j hj => ?_) (fun p hp => ?_) (fun h hh => ?_)
  · have z := hf_M_w M j hj
    rw [a99 j hj, a100 j hj]; exact z
  · have z := hf_M_p M p hp
    rw [Nat.zero_add] at z ⊢
    rw [a101 p (by omega), a105 (1 + p) (by omega)]; exact z
  · have z := hf_M_h M h hh
    rw [Nat.zero_add, Nat.zero_add] at z ⊢
    rw [a102 h (by omega), a103 h (by omega), a104 h (by omega), a105 (6 + h) (by omega), a105 (12 + h) (by omega)]; exact z
set_option maxHeartbeats 1000000 in
theorem sp_mkeep {d : Nat} (hd : 2 < d) {R : Nat → Nat → Int32} {X : hk_D} {Q : hk_Q} (hQ : ∀ R', hf_sn R R' → R' 98 47 = 1 → (∀ b k, ¬ b = 125 → ¬ b = 126 → ¬ (b = 98 ∧ (k = 47 ∨ k = 49)) → R' b k = R b k) → Q (some (.int 1)) (hw R' X)) : hk_call d mM_keep [.ref 98] (hw R X) Q := by
  obtain ⟨d, rfl⟩ : ∃ e, d = e + 1 := ⟨d - 1, by omega⟩
  obtain ⟨d, rfl⟩ : ∃ e, d = e + 1 := ⟨d - 1, by omega⟩
  have key : ∀ Q' : hk_Q, (∀ R', hf_sn R R' → (∀ b k, ¬ b = 125 → ¬ b = 126 → ¬ (b = 98 ∧ k = 49) → R' b k = R b k) → Q' none (hw R' X)) → hk_call (d + 1) mM_moveAll [.ref 98, .int 1] (hw R X) Q' := by
    intro Q' hQ'
    refine hk_run2 (hk_call_m d) 100 ?_
    refine w_put trivial rfl rfl ?_
    refine w_st (t := 0) (j := 0) (n := 3) rfl rfl (by omega) (by omega) rfl rfl ?_
    refine w_st (t := 0) (j := 1) (n := 3) rfl rfl (by omega) (by omega) rfl rfl ?_
    refine w_st (t := 0) (j := 2) (n := 3) rfl rfl (by omega) (by omega) rfl rfl ?_
    rw [up2_a (show 98 ≠ 126 by decide), up2_a (show 98 ≠ 126 by decide), up2_a (show 98 ≠ 126 by decide), up2_k (show 2 ≠ 49 by decide), up2_k (show 4 ≠ 49 by decide), up2_k (show 10 ≠ 49 by decide)]
    generalize eS : up2 (up2 (up2 (up2 R 98 49 0) 126 0 (R 98 2)) 126 1 (R 98 4)) 126 2 (R 98 10) = S
    have s49 : S 98 49 = nI 0 := by rw [← eS, up2_a (by decide), up2_a (by decide), up2_a (by decide), up2_s]; rfl
    have sx : ∀ b k, ¬ b = 126 → ¬ (b = 98 ∧ k = 49) → S b k = R b k := fun b k z1 z2 => by rw [← eS, up2_a z1, up2_a z1, up2_a z1, up2_n z2]
    have s0 : S 126 0 = R 98 2 := by rw [← eS, up2_k (by decide), up2_k (by decide), up2_s]
    have s1 : S 126 1 = R 98 4 := by rw [← eS, up2_k (by decide), up2_s]
    have s2 : S 126 2 = R 98 10 := by rw [← eS, up2_s]
    clear eS
    refine sp_mmove1 (by omega) hAr_126 (n := 3) (o := 0) (by omega) rfl (by omega) s49 (by omega) (fun R0 f0 g0 x0 => ?_)
    refine sp_mmove1 (by omega) hAr_99 (n := 24) (o := 3) (by omega) rfl (by omega) g0 (by omega) (fun R1 f1 g1 x1 => ?_)
    refine sp_mmove1 (by omega) hAr_100 (n := 24) (o := 27) (by omega) rfl (by omega) g1 (by omega) (fun R2 f2 g2 x2 => ?_)
    refine sp_mmove1 (by omega) hAr_101 (n := 5) (o := 51) (by omega) rfl (by omega) g2 (by omega) (fun R3 f3 g3 x3 => ?_)
    refine sp_mmove1 (by omega) hAr_102 (n := 6) (o := 56) (by omega) rfl (by omega) g3 (by omega) (fun R4 f4 g4 x4 => ?_)
    refine sp_mmove1 (by omega) hAr_103 (n := 6) (o := 62) (by omega) rfl (by omega) g4 (by omega) (fun R5 f5 g5 x5 => ?_)
    refine sp_mmove1 (by omega) hAr_104 (n := 6) (o := 68) (by omega) rfl (by omega) g5 (by omega) (fun R6 f6 g6 x6 => ?_)
    refine sp_mmove1 (by omega) hAr_105 (n := 18) (o := 74) (by omega) rfl (by omega) g6 (by omega) (fun R7 f7 g7 x7 => ?_)
    have xs : ∀ b k, ¬ b = 125 → ¬ b = 126 → ¬ (b = 98 ∧ k = 49) → R7 b k = R b k := fun b k z1 z2 z3 => (x7 b k (by omega) (by omega)).trans ((x6 b k (by omega) (by omega)).trans ((x5 b k (by omega) (by omega)).trans ((x4 b k (by omega) (by omega)).trans ((x3 b k (by omega) (by omega)).trans ((x2 b k (by omega) (by omega)).trans ((x1 b k (by omega) (by omega)).trans ((x0 b k (by omega) (by omega)).trans (sx b k z2 z3))))))))
    refine hk_qe_of (hQ' R7 ⟨?_, ?_, ?_, ?_, ?_, ?_, ?_, ?_, ?_, ?_⟩ xs)
    · exact (x7 _ _ (by omega) (by omega)).trans ((x6 _ _ (by omega) (by omega)).trans ((x5 _ _ (by omega) (by omega)).trans ((x4 _ _ (by omega) (by omega)).trans ((x3 _ _ (by omega) (by omega)).trans ((x2 _ _ (by omega) (by omega)).trans ((x1 _ _ (by omega) (by omega)).trans ((f0 0 (by omega)).trans (s0))))))))
    · exact (x7 _ _ (by omega) (by omega)).trans ((x6 _ _ (by omega) (by omega)).trans ((x5 _ _ (by omega) (by omega)).trans ((x4 _ _ (by omega) (by omega)).trans ((x3 _ _ (by omega) (by omega)).trans ((x2 _ _ (by omega) (by omega)).trans ((x1 _ _ (by omega) (by omega)).trans ((f0 1 (by omega)).trans (s1))))))))
    · exact (x7 _ _ (by omega) (by omega)).trans ((x6 _ _ (by omega) (by omega)).trans ((x5 _ _ (by omega) (by omega)).trans ((x4 _ _ (by omega) (by omega)).trans ((x3 _ _ (by omega) (by omega)).trans ((x2 _ _ (by omega) (by omega)).trans ((x1 _ _ (by omega) (by omega)).trans ((f0 2 (by omega)).trans (s2))))))))
    · exact fun k hk => (x7 _ _ (by omega) (by omega)).trans ((x6 _ _ (by omega) (by omega)).trans ((x5 _ _ (by omega) (by omega)).trans ((x4 _ _ (by omega) (by omega)).trans ((x3 _ _ (by omega) (by omega)).trans ((x2 _ _ (by omega) (by omega)).trans ((f1 k (by omega)).trans ((x0 _ _ (by omega) (by omega)).trans (sx _ _ (by omega) (by omega)))))))))
    · exact fun k hk => (x7 _ _ (by omega) (by omega)).trans ((x6 _ _ (by omega) (by omega)).trans ((x5 _ _ (by omega) (by omega)).trans ((x4 _ _ (by omega) (by omega)).trans ((x3 _ _ (by omega) (by omega)).trans ((f2 k (by omega)).trans ((x1 _ _ (by omega) (by omega)).trans ((x0 _ _ (by omega) (by omega)).trans (sx _ _ (by omega) (by omega)))))))))
    · exact fun k hk => (x7 _ _ (by omega) (by omega)).trans ((x6 _ _ (by omega) (by omega)).trans ((x5 _ _ (by omega) (by omega)).trans ((x4 _ _ (by omega) (by omega)).trans ((f3 k (by omega)).trans ((x2 _ _ (by omega) (by omega)).trans ((x1 _ _ (by omega) (by omega)).trans ((x0 _ _ (by omega) (by omega)).trans (sx _ _ (by omega) (by omega)))))))))
    · exact fun k hk => (x7 _ _ (by omega) (by omega)).trans ((x6 _ _ (by omega) (by omega)).trans ((x5 _ _ (by omega) (by omega)).trans ((f4 k (by omega)).trans ((x3 _ _ (by omega) (by omega)).trans ((x2 _ _ (by omega) (by omega)).trans ((x1 _ _ (by omega) (by omega)).trans ((x0 _ _ (by omega) (by omega)).trans (sx _ _ (by omega) (by omega)))))))))
    · exact fun k hk => (x7 _ _ (by omega) (by omega)).trans ((x6 _ _ (by omega) (by omega)).trans ((f5 k (by omega)).trans ((x4 _ _ (by omega) (by omega)).trans ((x3 _ _ (by omega) (by omega)).trans ((x2 _ _ (by omega) (by omega)).trans ((x1 _ _ (by omega) (by omega)).trans ((x0 _ _ (by omega) (by omega)).trans (sx _ _ (by omega) (by omega)))))))))
    · exact fun k hk => (x7 _ _ (by omega) (by omega)).trans ((f6 k (by omega)).trans ((x5 _ _ (by omega) (by omega)).trans ((x4 _ _ (by omega) (by omega)).trans ((x3 _ _ (by omega) (by omega)).trans ((x2 _ _ (by omega) (by omega)).trans ((x1 _ _ (by omega) (by omega)).trans ((x0 _ _ (by omega) (by omega)).trans (sx _ _ (by omega) (by omega)))))))))
    · exact fun k hk => (f7 k (by omega)).trans ((x6 _ _ (by omega) (by omega)).trans ((x5 _ _ (by omega) (by omega)).trans ((x4 _ _ (by omega) (by omega)).trans ((x3 _ _ (by omega) (by omega)).trans ((x2 _ _ (by omega) (by omega)).trans ((x1 _ _ (by omega) (by omega)).trans ((x0 _ _ (by omega) (by omega)).trans (sx _ _ (by omega) (by omega)))))))))
  refine hk_run2 (hk_call_m (d + 1)) 100 ?_
  refine key _ (fun R1 h1 h2 => ?_)
  refine w_put (by decide) rfl rfl ?_
  refine hk_qe_of (hQ _ ?_ (up2_s _ _ _ _) (fun b k z1 z2 z3 => ?_))
  · obtain ⟨q0, q1, q2, q3, q4, q5, q6, q7, q8, q9⟩ := h1
    have e : ∀ k, up2 R1 98 47 1 125 k = R1 125 k := fun k => up2_a (by decide)
    exact ⟨(e _).trans q0, (e _).trans q1, (e _).trans q2, fun k hk => (e _).trans (q3 k hk), fun k hk => (e _).trans (q4 k hk), fun k hk => (e _).trans (q5 k hk), fun k hk => (e _).trans (q6 k hk), fun k hk => (e _).trans (q7 k hk), fun k hk => (e _).trans (q8 k hk), fun k hk => (e _).trans (q9 k hk)⟩
  · rw [up2_n (by omega)]; exact h2 b k z1 z2 (by omega)
set_option maxHeartbeats 1000000 in
theorem sp_magain {d : Nat} (hd : 2 < d) {R : Nat → Nat → Int32} {X : hk_D} {Q : hk_Q} {P : hP} {z : Int32} (h9 : R 98 9 = nI 0) (h0 : R 98 47 = 0 → Q (some (.int (-3))) (hw R X)) (h1 : ¬ R 98 47 = 0 → ∃ Rs, hf_M 0 P Rs ∧ Rs 98 10 = z ∧ hf_sn Rs R ∧ ∀ R', hf_M 0 P R' → R' 98 10 = z → (∀ b k, ¬ (99 ≤ b ∧ b ≤ 105) → ¬ b = 126 → ¬ (b = 98 ∧ (k = 2 ∨ k = 4 ∨ k = 10 ∨ k = 49)) → R' b k = R b k) → Q (some (.int (nI (P 4 0)))) (hw R' X)) : hk_call d mM_again [.ref 98] (hw R X) Q := by
  obtain ⟨d, rfl⟩ : ∃ e, d = e + 1 := ⟨d - 1, by omega⟩
  obtain ⟨d, rfl⟩ : ∃ e, d = e + 1 := ⟨d - 1, by omega⟩
  have key : ∀ Q' : hk_Q, (∀ R', (∀ k, k < 3 → R' 126 k = R 125 (0 + k)) → (∀ k, k < 24 → R' 99 k = R 125 (3 + k)) → (∀ k, k < 24 → R' 100 k = R 125 (27 + k)) → (∀ k, k < 5 → R' 101 k = R 125 (51 + k)) → (∀ k, k < 6 → R' 102 k = R 125 (56 + k)) → (∀ k, k < 6 → R' 103 k = R 125 (62 + k)) → (∀ k, k < 6 → R' 104 k = R 125 (68 + k)) → (∀ k, k < 18 → R' 105 k = R 125 (74 + k)) → (∀ b k, ¬ (99 ≤ b ∧ b ≤ 105) → ¬ b = 126 → ¬ (b = 98 ∧ k = 49) → R' b k = R b k) → Q' none (hw R' X)) → hk_call (d + 1) mM_moveAll [.ref 98, .int 0] (hw R X) Q' := by
    intro Q' hQ'
    refine hk_run2 (hk_call_m d) 100 ?_
    refine w_put trivial rfl rfl ?_
    refine w_st (t := 0) (j := 0) (n := 3) rfl rfl (by omega) (by omega) rfl rfl ?_
    refine w_st (t := 0) (j := 1) (n := 3) rfl rfl (by omega) (by omega) rfl rfl ?_
    refine w_st (t := 0) (j := 2) (n := 3) rfl rfl (by omega) (by omega) rfl rfl ?_
    generalize eS : up2 (up2 (up2 (up2 R 98 49 0) 126 0 (up2 R 98 49 0 98 2)) 126 1 _) 126 2 _ = S
    have s49 : S 98 49 = nI 0 := by rw [← eS, up2_a (by decide), up2_a (by decide), up2_a (by decide), up2_s]; rfl
    have sx : ∀ b k, ¬ b = 126 → ¬ (b = 98 ∧ k = 49) → S b k = R b k := fun b k z1 z2 => by rw [← eS, up2_a z1, up2_a z1, up2_a z1, up2_n z2]
    clear eS
    refine sp_mmove0 (by omega) hAr_126 (n := 3) (o := 0) (by omega) rfl (by omega) s49 (by omega) (fun R0 f0 g0 x0 => ?_)
    refine sp_mmove0 (by omega) hAr_99 (n := 24) (o := 3) (by omega) rfl (by omega) g0 (by omega) (fun R1 f1 g1 x1 => ?_)
    refine sp_mmove0 (by omega) hAr_100 (n := 24) (o := 27) (by omega) rfl (by omega) g1 (by omega) (fun R2 f2 g2 x2 => ?_)
    refine sp_mmove0 (by omega) hAr_101 (n := 5) (o := 51) (by omega) rfl (by omega) g2 (by omega) (fun R3 f3 g3 x3 => ?_)
    refine sp_mmove0 (by omega) hAr_102 (n := 6) (o := 56) (by omega) rfl (by omega) g3 (by omega) (fun R4 f4 g4 x4 => ?_)
    refine sp_mmove0 (by omega) hAr_103 (n := 6) (o := 62) (by omega) rfl (by omega) g4 (by omega) (fun R5 f5 g5 x5 => ?_)
    refine sp_mmove0 (by omega) hAr_104 (n := 6) (o := 68) (by omega) rfl (by omega) g5 (by omega) (fun R6 f6 g6 x6 => ?_)
    refine sp_mmove0 (by omega) hAr_105 (n := 18) (o := 74) (by omega) rfl (by omega) g6 (by omega) (fun R7 f7 g7 x7 => ?_)
    refine hk_qe_of (hQ' R7 ?_ ?_ ?_ ?_ ?_ ?_ ?_ ?_ ?_)
    · exact fun k hk => (x7 _ _ (by omega) (by omega)).trans ((x6 _ _ (by omega) (by omega)).trans ((x5 _ _ (by omega) (by omega)).trans ((x4 _ _ (by omega) (by omega)).trans ((x3 _ _ (by omega) (by omega)).trans ((x2 _ _ (by omega) (by omega)).trans ((x1 _ _ (by omega) (by omega)).trans ((f0 k hk).trans (sx _ _ (by omega) (by omega)))))))))
    · exact fun k hk => (x7 _ _ (by omega) (by omega)).trans ((x6 _ _ (by omega) (by omega)).trans ((x5 _ _ (by omega) (by omega)).trans ((x4 _ _ (by omega) (by omega)).trans ((x3 _ _ (by omega) (by omega)).trans ((x2 _ _ (by omega) (by omega)).trans ((f1 k hk).trans ((x0 _ _ (by omega) (by omega)).trans (sx _ _ (by omega) (by omega)))))))))
    · exact fun k hk => (x7 _ _ (by omega) (by omega)).trans ((x6 _ _ (by omega) (by omega)).trans ((x5 _ _ (by omega) (by omega)).trans ((x4 _ _ (by omega) (by omega)).trans ((x3 _ _ (by omega) (by omega)).trans ((f2 k hk).trans ((x1 _ _ (by omega) (by omega)).trans ((x0 _ _ (by omega) (by omega)).trans (sx _ _ (by omega) (by omega)))))))))
    · exact fun k hk => (x7 _ _ (by omega) (by omega)).trans ((x6 _ _ (by omega) (by omega)).trans ((x5 _ _ (by omega) (by omega)).trans ((x4 _ _ (by omega) (by omega)).trans ((f3 k hk).trans ((x2 _ _ (by omega) (by omega)).trans ((x1 _ _ (by omega) (by omega)).trans ((x0 _ _ (by omega) (by omega)).trans (sx _ _ (by omega) (by omega)))))))))
    · exact fun k hk => (x7 _ _ (by omega) (by omega)).trans ((x6 _ _ (by omega) (by omega)).trans ((x5 _ _ (by omega) (by omega)).trans ((f4 k hk).trans ((x3 _ _ (by omega) (by omega)).trans ((x2 _ _ (by omega) (by omega)).trans ((x1 _ _ (by omega) (by omega)).trans ((x0 _ _ (by omega) (by omega)).trans (sx _ _ (by omega) (by omega)))))))))
    · exact fun k hk => (x7 _ _ (by omega) (by omega)).trans ((x6 _ _ (by omega) (by omega)).trans ((f5 k hk).trans ((x4 _ _ (by omega) (by omega)).trans ((x3 _ _ (by omega) (by omega)).trans ((x2 _ _ (by omega) (by omega)).trans ((x1 _ _ (by omega) (by omega)).trans ((x0 _ _ (by omega) (by omega)).trans (sx _ _ (by omega) (by omega)))))))))
    · exact fun k hk => (x7 _ _ (by omega) (by omega)).trans ((f6 k hk).trans ((x5 _ _ (by omega) (by omega)).trans ((x4 _ _ (by omega) (by omega)).trans ((x3 _ _ (by omega) (by omega)).trans ((x2 _ _ (by omega) (by omega)).trans ((x1 _ _ (by omega) (by omega)).trans ((x0 _ _ (by omega) (by omega)).trans (sx _ _ (by omega) (by omega)))))))))
    · exact fun k hk => (f7 k hk).trans ((x6 _ _ (by omega) (by omega)).trans ((x5 _ _ (by omega) (by omega)).trans ((x4 _ _ (by omega) (by omega)).trans ((x3 _ _ (by omega) (by omega)).trans ((x2 _ _ (by omega) (by omega)).trans ((x1 _ _ (by omega) (by omega)).trans ((x0 _ _ (by omega) (by omega)).trans (sx _ _ (by omega) (by omega)))))))))
    · exact fun b k z1 z2 z3 => (x7 b k (by omega) (by omega)).trans ((x6 b k (by omega) (by omega)).trans ((x5 b k (by omega) (by omega)).trans ((x4 b k (by omega) (by omega)).trans ((x3 b k (by omega) (by omega)).trans ((x2 b k (by omega) (by omega)).trans ((x1 b k (by omega) (by omega)).trans ((x0 b k (by omega) (by omega)).trans (sx b k z2 z3))))))))
  refine hk_run2 (hk_call_m (d + 1)) 100 ?_
  refine And.intro (fun c => hk_qe_of (h0 c)) (fun c => ?_)
  obtain ⟨Rs, Ms, ez, ⟨q0, q1, q2, q3, q4, q5, q6, q7, q8, q9⟩, hQ⟩ := h1 c
  refine key _ (fun R1 y0 y3 y4 y5 y6 y7 y8 y9 yx => ?_)
  refine w_ld (j := 0) (n := 3) rfl rfl (by omega) (by omega) rfl ((y0 0 (by omega)).trans q0) ?_
  refine w_put trivial rfl rfl ?_
  refine w_ld (j := 1) (n := 3) rfl rfl (by omega) (by omega) rfl ((up2_a (by decide)).trans ((y0 1 (by omega)).trans q1)) ?_
  refine w_put trivial rfl rfl ?_
  refine w_ld (j := 2) (n := 3) rfl rfl (by omega) (by omega) rfl ((up2_a (by decide)).trans ((up2_a (by decide)).trans ((y0 2 (by omega)).trans q2))) ?_
  refine w_put trivial rfl rfl ?_
  have fr : ∀ b k, ¬ b = 98 → up2 (up2 (up2 R1 98 2 (Rs 98 2)) 98 4 (Rs 98 4)) 98 10 (Rs 98 10) b k = R1 b k := fun b k z => by rw [up2_a z, up2_a z, up2_a z]
  have M2 : hf_M 0 P (up2 (up2 (up2 R1 98 2 (Rs 98 2)) 98 4 (Rs 98 4)) 98 10 (Rs 98 10)) := by
    refine hf_M_sn Ms ?_ ?_ ?_ ?_ ?_ ?_ ?_ ?_ ?_ ?_
    · rw [up2_k (by decide), up2_k (by decide), up2_k (by decide), yx 98 9 (by omega) (by omega) (by omega)]; exact h9
    · rw [up2_k (by decide), up2_k (by decide), up2_s]
    · rw [up2_k (by decide), up2_s]
    · exact fun k hk => (fr _ _ (by decide)).trans ((y3 k hk).trans (q3 k hk))
    · exact fun k hk => (fr _ _ (by decide)).trans ((y4 k hk).trans (q4 k hk))
    · exact fun k hk => (fr _ _ (by decide)).trans ((y5 k hk).trans (q5 k hk))
    · exact fun k hk => (fr _ _ (by decide)).trans ((y6 k hk).trans (q6 k hk))
    · exact fun k hk => (fr _ _ (by decide)).trans ((y7 k hk).trans (q7 k hk))
    · exact fun k hk => (fr _ _ (by decide)).trans ((y8 k hk).trans (q8 k hk))
    · exact fun k hk => (fr _ _ (by decide)).trans ((y9 k hk).trans (q9 k hk))
  refine w_ld (j := 0) (n := 36) rfl rfl (by omega) (by omega) rfl M2.2.1.1 ?_
  refine hk_qe_of (hQ _ M2 ?_ (fun b k z1 z2 z3 => ?_))
  · rw [up2_s]; exact ez
  · rw [up2_n (by omega), up2_n (by omega), up2_n (by omega)]; exact yx b k z1 z2 (by omega)
