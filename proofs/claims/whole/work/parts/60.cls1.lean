/-! THE CLASS: hats and people, at any cell -/
def hHat (a : Nat) : Prop := (49 ≤ a ∧ a ≤ 54) ∨ (65 ≤ a ∧ a ≤ 70) ∨ (81 ≤ a ∧ a ≤ 86)
def hPer (a : Nat) : Prop := (44 ≤ a ∧ a ≤ 48) ∨ (60 ≤ a ∧ a ≤ 64) ∨ (76 ≤ a ∧ a ≤ 80)
theorem hHat_x {a : Nat} (h : hHat a) : a = 49 ∨ a = 50 ∨ a = 51 ∨ a = 52 ∨ a = 53 ∨ a = 54 ∨ a = 65 ∨ a = 66 ∨ a = 67 ∨ a = 68 ∨ a = 69 ∨ a = 70 ∨ a = 81 ∨ a = 82 ∨ a = 83 ∨ a = 84 ∨ a = 85 ∨ a = 86 := by
  unfold hHat at h; omega
theorem hPer_x {a : Nat} (h : hPer a) : a = 44 ∨ a = 45 ∨ a = 46 ∨ a = 47 ∨ a = 48 ∨ a = 60 ∨ a = 61 ∨ a = 62 ∨ a = 63 ∨ a = 64 ∨ a = 76 ∨ a = 77 ∨ a = 78 ∨ a = 79 ∨ a = 80 := by
  unfold hPer at h; omega
theorem hHat_38 {a : Nat} (h : hHat a) : 38 ≤ a := by unfold hHat at h; omega
theorem hPer_38 {a : Nat} (h : hPer a) : 38 ≤ a := by unfold hPer at h; omega
theorem hHat_t {a : Nat} (h : hHat a) {R : Nat → Nat → Int32} {X : hk_D} : ((hw R X).2 a).1 = 1 := by
  rcases hHat_x h with h | h | h | h | h | h | h | h | h | h | h | h | h | h | h | h | h | h <;> subst h <;> rfl
theorem hPer_t {a : Nat} (h : hPer a) {R : Nat → Nat → Int32} {X : hk_D} : ((hw R X).2 a).1 = 2 := by
  rcases hPer_x h with h | h | h | h | h | h | h | h | h | h | h | h | h | h | h <;> subst h <;> rfl
theorem hHat_k {a : Nat} (h : hHat a) {X : hk_D} : hk_kI X a 0 = true ∧ hk_kI X a 1 = true ∧ hk_kI X a 2 = true ∧ hk_kI X a 3 = true ∧ hk_kI X a 4 = true := by
  rcases hHat_x h with h | h | h | h | h | h | h | h | h | h | h | h | h | h | h | h | h | h <;> subst h <;> exact ⟨rfl, rfl, rfl, rfl, rfl⟩
theorem hPer_k {a : Nat} (h : hPer a) {X : hk_D} : hk_kI X a 0 = true ∧ hk_kI X a 1 = true := by
  rcases hPer_x h with h | h | h | h | h | h | h | h | h | h | h | h | h | h | h <;> subst h <;> exact ⟨rfl, rfl⟩
/-- a field of an int is written, of a cell at any place -/
theorem w_puta {R : Nat → Nat → Int32} {X : hk_D} {Xc : hk_X} {ip q m : Nat} {ls : hk_Ls} {a k t : Nat} {v : Int32} {r : List Value} {p : Prop} (ht : ((hw R X).2 a).1 = t) (h38 : 38 ≤ a) (hk : hk_kI X a k = true) (hp : p) (g : Xc ip ls r (hw (up2 R a k v) X) q m) : (bif Nat.beq ((hw R X).2 a).1 t && Nat.ble 38 a then (p ∧ Xc ip ls r (hk_up (hw R X) a (t, ((hw R X).2 a).2.1, va_up ((hw R X).2 a).2.2 k (.int v))) q m) else False) := by
  have e : (Nat.beq ((hw R X).2 a).1 t && Nat.ble 38 a) = true := by
    rw [ht, show Nat.beq t t = true from Nat.beq_refl t, show Nat.ble 38 a = true from Nat.ble_eq_true_of_le h38]; rfl
  rw [e]
  show p ∧ _
  refine And.intro hp ?_
  rw [hw_up hk ht]; exact g
theorem hf_cw_w {x : Nat} (h : 25 ≤ x ∧ x < 30) : hf_cw x = nI (x - 25) := if_pos h
theorem hf_cw_n {x : Nat} (h : ¬ (25 ≤ x ∧ x < 30)) : hf_cw x = -9 := if_neg h
theorem hf_cs_l {x : Nat} (h : x < 25) : hf_cs x = nI x := if_pos h
theorem hf_cs_n {x : Nat} (h : ¬ x < 25) : hf_cs x = -9 := if_neg h
theorem sp_hisWorn {d : Nat} (hd : 0 < d) {R : Nat → Nat → Int32} {X : hk_D} {Q : hk_Q} {a x : Nat} (ha : hHat a) (e : R a 3 = hf_cw x) (h1 : 25 ≤ x ∧ x < 30 → Q (some (.int 1)) (hw R X)) (h0 : ¬ (25 ≤ x ∧ x < 30) → Q (some (.int 0)) (hw R X)) : hk_call d mH_isWorn [.ref a] (hw R X) Q := by
  obtain ⟨d, rfl⟩ : ∃ e, d = e + 1 := ⟨d - 1, by omega⟩
  refine hk_run2 (hk_call_m d) 100 ?_
  refine w_get (hHat_t ha) (hHat_k ha).2.2.2.1 e ?_
  refine And.intro (fun c => ?_) (fun c => ?_)
  · refine And.intro (by decide) (hk_qe_of (h0 (fun q => ?_)))
    rw [hf_cw_w q] at c; exact absurd c (hn_npos (by omega))
  · refine And.intro (by decide) (hk_qe_of (h1 ?_))
    by_cases q : 25 ≤ x ∧ x < 30
    · exact q
    · rw [hf_cw_n q] at c; exact absurd (by decide) c
theorem sp_hlies {d : Nat} (hd : 0 < d) {R : Nat → Nat → Int32} {X : hk_D} {Q : hk_Q} {a x : Nat} (ha : hHat a) (e : R a 4 = hf_cs x) (h1 : x < 25 → Q (some (.int 1)) (hw R X)) (h0 : ¬ x < 25 → Q (some (.int 0)) (hw R X)) : hk_call d mH_lies [.ref a] (hw R X) Q := by
  obtain ⟨d, rfl⟩ : ∃ e, d = e + 1 := ⟨d - 1, by omega⟩
  refine hk_run2 (hk_call_m d) 100 ?_
  refine w_get (hHat_t ha) (hHat_k ha).2.2.2.2 e ?_
  refine And.intro (fun c => ?_) (fun c => ?_)
  · refine And.intro (by decide) (hk_qe_of (h0 (fun q => ?_)))
    rw [hf_cs_l q] at c; exact absurd c (hn_npos (by omega))
  · refine And.intro (by decide) (hk_qe_of (h1 ?_))
    by_cases q : x < 25
    · exact q
    · rw [hf_cs_n q] at c; exact absurd (by decide) c
theorem sp_hisGone {d : Nat} (hd : 0 < d) {R : Nat → Nat → Int32} {X : hk_D} {Q : hk_Q} {a x : Nat} (ha : hHat a) (e3 : R a 3 = hf_cw x) (e4 : R a 4 = hf_cs x) (hx : x < 25 ∨ (25 ≤ x ∧ x < 30) ∨ x = 30) (h1 : x = 30 → Q (some (.int 1)) (hw R X)) (h0 : ¬ x = 30 → Q (some (.int 0)) (hw R X)) : hk_call d mH_isGone [.ref a] (hw R X) Q := by
  obtain ⟨d, rfl⟩ : ∃ e, d = e + 1 := ⟨d - 1, by omega⟩
  refine hk_run2 (hk_call_m d) 100 ?_
  refine w_get (hHat_t ha) (hHat_k ha).2.2.2.1 e3 ?_
  refine And.intro (fun c => ?_) (fun c => ?_)
  · refine And.intro (by decide) (hk_qe_of (h0 (fun q => ?_)))
    rw [hf_cw_n (by omega)] at c; exact absurd c hn_neg9
  · refine w_get (hHat_t ha) (hHat_k ha).2.2.2.2 e4 ?_
    refine And.intro (fun c2 => ?_) (fun c2 => ?_)
    · refine And.intro (by decide) (hk_qe_of (h0 (fun q => ?_)))
      rw [hf_cs_n (by omega)] at c2; exact absurd c2 hn_neg9
    · refine And.intro (by decide) (hk_qe_of (h1 ?_))
      rcases hx with q | q | q
      · exact absurd (by rw [hf_cs_l q]; exact hn_pos (by omega)) c2
      · exact absurd (by rw [hf_cw_w q]; exact hn_pos (by omega)) c
      · exact q
theorem sp_hisOfKind {d : Nat} (hd : 0 < d) {R : Nat → Nat → Int32} {X : hk_D} {Q : hk_Q} {a k : Nat} {v : Int32} (ha : hHat a) (e : R a 0 = nI k) (hk : k < 6) (h1 : hf_und k v = true → Q (some (.int 1)) (hw R X)) (h0 : hf_und k v = false → Q (some (.int 0)) (hw R X)) : hk_call d mH_isOfKind [.ref a, .int v] (hw R X) Q := by
  obtain ⟨d, rfl⟩ : ∃ e, d = e + 1 := ⟨d - 1, by omega⟩
  unfold hf_und at h1 h0
  refine hk_run2 (hk_call_m d) 100 ?_
  refine w_get (hHat_t ha) (hHat_k ha).1 e ?_
  refine And.intro (fun c => ?_) (fun c => ?_)
  · refine And.intro (by decide) (hk_qe_of (h1 ?_))
    rw [decide_eq_true c]; rfl
  · refine w_get (hHat_t ha) (hHat_k ha).1 e ?_
    refine And.intro (vp_in_nI (N := 6) hk (by omega)) ?_
    rw [nI_clamp (by omega)]
    refine And.intro (fun c2 => ?_) (fun c2 => ?_)
    · refine And.intro (by decide) (hk_qe_of (h1 ?_))
      rw [decide_eq_false c, decide_eq_true c2]; rfl
    · refine And.intro (fun c3 => ?_) (fun c3 => ?_)
      · refine And.intro (by decide) (hk_qe_of (h1 ?_))
        rw [decide_eq_false c, decide_eq_false c2, decide_eq_true c3]; rfl
      · refine And.intro (by decide) (hk_qe_of (h0 ?_))
        rw [decide_eq_false c, decide_eq_false c2, decide_eq_false c3]; rfl
theorem sp_hbecome {d : Nat} (hd : 0 < d) {R : Nat → Nat → Int32} {X : hk_D} {Q : hk_Q} {a : Nat} {v w : Int32} (ha : hHat a) (hQ : Q none (hw (up2 (up2 R a 0 v) a 1 w) X)) : hk_call d mH_become [.ref a, .int v, .int w] (hw R X) Q := by
  obtain ⟨d, rfl⟩ : ∃ e, d = e + 1 := ⟨d - 1, by omega⟩
  refine hk_run2 (hk_call_m d) 100 ?_
  refine w_puta (hHat_t ha) (hHat_38 ha) (hHat_k ha).1 trivial ?_
  refine w_puta (hHat_t ha) (hHat_38 ha) (hHat_k ha).2.1 trivial ?_
  exact hk_qe_of hQ
theorem sp_hgoOn {d : Nat} (hd : 0 < d) {R : Nat → Nat → Int32} {X : hk_D} {Q : hk_Q} {a : Nat} {v : Int32} (ha : hHat a) (hQ : Q none (hw (up2 (up2 R a 3 v) a 4 (-9)) X)) : hk_call d mH_goOn [.ref a, .int v] (hw R X) Q := by
  obtain ⟨d, rfl⟩ : ∃ e, d = e + 1 := ⟨d - 1, by omega⟩
  refine hk_run2 (hk_call_m d) 100 ?_
  refine w_puta (hHat_t ha) (hHat_38 ha) (hHat_k ha).2.2.2.1 trivial ?_
  refine w_puta (hHat_t ha) (hHat_38 ha) (hHat_k ha).2.2.2.2 trivial ?_
  exact hk_qe_of hQ
theorem sp_hlieIn {d : Nat} (hd : 0 < d) {R : Nat → Nat → Int32} {X : hk_D} {Q : hk_Q} {a : Nat} {v : Int32} (ha : hHat a) (hQ : Q none (hw (up2 (up2 R a 3 (-9)) a 4 v) X)) : hk_call d mH_lieIn [.ref a, .int v] (hw R X) Q := by
  obtain ⟨d, rfl⟩ : ∃ e, d = e + 1 := ⟨d - 1, by omega⟩
  refine hk_run2 (hk_call_m d) 100 ?_
  refine w_puta (hHat_t ha) (hHat_38 ha) (hHat_k ha).2.2.2.1 trivial ?_
  refine w_puta (hHat_t ha) (hHat_38 ha) (hHat_k ha).2.2.2.2 trivial ?_
  exact hk_qe_of hQ
theorem sp_hcopyFrom {d : Nat} (hd : 0 < d) {R : Nat → Nat → Int32} {X : hk_D} {Q : hk_Q} {a b : Nat} (ha : hHat a) (hb : hHat b) (hab : b ≠ a) (hQ : Q none (hw (up2 (up2 (up2 (up2 (up2 R a 0 (R b 0)) a 1 (R b 1)) a 2 (R b 2)) a 3 (R b 3)) a 4 (R b 4)) X)) : hk_call d mH_copyFrom [.ref a, .ref b] (hw R X) Q := by
  obtain ⟨d, rfl⟩ : ∃ e, d = e + 1 := ⟨d - 1, by omega⟩
  refine hk_run2 (hk_call_m d) 100 ?_
  refine w_get (hHat_t hb) (hHat_k hb).1 rfl ?_
  refine w_puta (hHat_t ha) (hHat_38 ha) (hHat_k ha).1 trivial ?_
  refine w_get (hHat_t hb) (hHat_k hb).2.1 (up2_a hab) ?_
  refine w_puta (hHat_t ha) (hHat_38 ha) (hHat_k ha).2.1 trivial ?_
  refine w_get (hHat_t hb) (hHat_k hb).2.2.1 ((up2_a hab).trans (up2_a hab)) ?_
  refine w_puta (hHat_t ha) (hHat_38 ha) (hHat_k ha).2.2.1 trivial ?_
  refine w_get (hHat_t hb) (hHat_k hb).2.2.2.1 ((up2_a hab).trans ((up2_a hab).trans (up2_a hab))) ?_
  refine w_puta (hHat_t ha) (hHat_38 ha) (hHat_k ha).2.2.2.1 trivial ?_
  refine w_get (hHat_t hb) (hHat_k hb).2.2.2.2 ((up2_a hab).trans ((up2_a hab).trans ((up2_a hab).trans (up2_a hab)))) ?_
  refine w_puta (hHat_t ha) (hHat_38 ha) (hHat_k ha).2.2.2.2 trivial ?_
  exact hk_qe_of hQ
theorem sp_ncopyFrom {d : Nat} (hd : 0 < d) {R : Nat → Nat → Int32} {X : hk_D} {Q : hk_Q} {a b : Nat} (ha : hPer a) (hb : hPer b) (hab : b ≠ a) (hQ : Q none (hw (up2 (up2 R a 0 (R b 0)) a 1 (R b 1)) X)) : hk_call d mN_copyFrom [.ref a, .ref b] (hw R X) Q := by
  obtain ⟨d, rfl⟩ : ∃ e, d = e + 1 := ⟨d - 1, by omega⟩
  refine hk_run2 (hk_call_m d) 100 ?_
  refine w_get (hPer_t hb) (hPer_k hb).1 rfl ?_
  refine w_puta (hPer_t ha) (hPer_38 ha) (hPer_k ha).1 trivial ?_
  refine w_get (hPer_t hb) (hPer_k hb).2 (up2_a hab) ?_
  refine w_puta (hPer_t ha) (hPer_38 ha) (hPer_k ha).2 trivial ?_
  exact hk_qe_of hQ
theorem fm_1 : ∀ v, v < 10 → (3 : Int32) + nI v / 2 = nI (hf_holds 1 v) := by decide +kernel
theorem fm_3 : ∀ v, v < 10 → (2 : Int32) * (3 + nI v / 2) = nI (hf_holds 3 v) := by decide +kernel
theorem fm_4 : ∀ v, v < 10 → hk_max 0 (3 - 2 - hk_rem (nI v) 2) = nI (hf_holds 4 v) := by decide +kernel
theorem sp_hfirm {d : Nat} (hd : 0 < d) {R : Nat → Nat → Int32} {X : hk_D} {Q : hk_Q} {a k v : Nat} (ha : hHat a) (e0 : R a 0 = nI k) (e1 : R a 1 = nI v) (hk : k < 6) (hv : v < 10) (hQ : Q (some (.int (nI (hf_holds k v)))) (hw R X)) : hk_call d mH_firmness [.ref a] (hw R X) Q := by
  obtain ⟨d, rfl⟩ : ∃ e, d = e + 1 := ⟨d - 1, by omega⟩
  refine hk_run2 (hk_call_m d) 100 ?_
  refine w_get (hHat_t ha) (hHat_k ha).1 e0 ?_
  have ti : (nI k).toInt = k := nI_toInt (by omega)
  refine And.intro (fun c => ?_) (And.intro (fun c => ?_) (And.intro (fun c => ?_) (And.intro (fun c => ?_) (And.intro (fun c => ?_) (And.intro (fun c => ?_) trivial)))))
  · rw [ti] at c
    have : k = 0 := by simp at c; omega
    subst this
    exact hk_qe_of hQ
  · rw [ti] at c
    have : k = 1 := by omega
    subst this
    refine w_get (hHat_t ha) (hHat_k ha).2.1 e1 ?_
    refine And.intro (by decide) ?_
    rw [← fm_1 v hv] at hQ
    exact hk_qe_of hQ
  · rw [ti] at c
    have : k = 2 := by omega
    subst this
    have e2 : nI (hf_holds 2 v) = 3 - 2 := by show nI 1 = 3 - 2; decide
    rw [e2] at hQ
    exact hk_qe_of hQ
  · rw [ti] at c
    have : k = 3 := by omega
    subst this
    refine w_get (hHat_t ha) (hHat_k ha).2.1 e1 ?_
    refine And.intro (by decide) ?_
    rw [← fm_3 v hv] at hQ
    exact hk_qe_of hQ
  · rw [ti] at c
    have : k = 4 := by omega
    subst this
    refine w_get (hHat_t ha) (hHat_k ha).2.1 e1 ?_
    refine And.intro (by decide) ?_
    rw [← fm_4 v hv] at hQ
    exact hk_qe_of hQ
  · rw [ti] at c
    have : k = 5 := by omega
    subst this
    exact hk_qe_of hQ
theorem fg_p : ∀ f, f < 10 → ¬ nI f ≤ 0 → nI f / 3 + 1 = nI (hf_flies 2 f) ∧ 2 * (nI f / 3 + 1) = nI (hf_flies 4 f) := by decide +kernel
theorem fg_z : ∀ f, f < 10 → nI f ≤ 0 → nI f / 3 = nI (hf_flies 2 f) ∧ 2 * (nI f / 3) = nI (hf_flies 4 f) := by decide +kernel
theorem fg_o : ∀ f, f < 10 → nI f / 3 = nI (hf_flies 0 f) ∧ nI f / 3 = nI (hf_flies 1 f) ∧ nI f / 3 = nI (hf_flies 3 f) ∧ nI f / 3 / 2 = nI (hf_flies 5 f) := by decide +kernel
theorem sp_hflight {d : Nat} (hd : 0 < d) {R : Nat → Nat → Int32} {X : hk_D} {Q : hk_Q} {a k f : Nat} {w : Int32} (ha : hHat a) (e0 : R a 0 = nI k) (ew : w = nI f) (hk : k < 6) (hf : f < 10) (hQ : Q (some (.int (nI (hf_flies k f)))) (hw R X)) : hk_call d mH_flight [.ref a, .int w] (hw R X) Q := by
  obtain ⟨d, rfl⟩ : ∃ e, d = e + 1 := ⟨d - 1, by omega⟩
  subst ew
  refine hk_run2 (hk_call_m d) 100 ?_
  have ti : (nI k).toInt = k := nI_toInt (by omega)
  obtain ⟨o0, o1, o3, o5⟩ := fg_o f hf
  refine And.intro (by decide) ?_
  refine And.intro (fun c0 => ?_) (fun c0 => ?_)
  · obtain ⟨z2, z4⟩ := fg_z f hf c0
    refine w_get (hHat_t ha) (hHat_k ha).1 e0 ?_
    refine And.intro (fun c => ?_) (And.intro (fun c => ?_) (And.intro (fun c => ?_) (And.intro (fun c => ?_) (And.intro (fun c => ?_) trivial))))
    · rw [ti] at c
      have : k = 0 ∨ k = 1 := by simp at c; omega
      rcases this with this | this
      · subst this; rw [← o0] at hQ; exact hk_qe_of hQ
      · subst this; rw [← o1] at hQ; exact hk_qe_of hQ
    · rw [ti] at c
      have : k = 2 := by omega
      subst this; rw [← z2] at hQ; exact hk_qe_of hQ
    · rw [ti] at c
      have : k = 3 := by omega
      subst this; rw [← o3] at hQ; exact hk_qe_of hQ
    · rw [ti] at c
      have : k = 4 := by omega
      subst this; rw [← z4] at hQ; exact hk_qe_of hQ
    · rw [ti] at c
      have : k = 5 := by omega
      subst this; refine And.intro (by decide) ?_; rw [← o5] at hQ; exact hk_qe_of hQ
  · obtain ⟨z2, z4⟩ := fg_p f hf c0
    refine w_get (hHat_t ha) (hHat_k ha).1 e0 ?_
    refine And.intro (fun c => ?_) (And.intro (fun c => ?_) (And.intro (fun c => ?_) (And.intro (fun c => ?_) (And.intro (fun c => ?_) trivial))))
    · rw [ti] at c
      have : k = 0 ∨ k = 1 := by simp at c; omega
      rcases this with this | this
      · subst this; rw [← o0] at hQ; exact hk_qe_of hQ
      · subst this; rw [← o1] at hQ; exact hk_qe_of hQ
    · rw [ti] at c
      have : k = 2 := by omega
      subst this; rw [← z2] at hQ; exact hk_qe_of hQ
    · rw [ti] at c
      have : k = 3 := by omega
      subst this; rw [← o3] at hQ; exact hk_qe_of hQ
    · rw [ti] at c
      have : k = 4 := by omega
      subst this; rw [← z4] at hQ; exact hk_qe_of hQ
    · rw [ti] at c
      have : k = 5 := by omega
      subst this; refine And.intro (by decide) ?_; rw [← o5] at hQ; exact hk_qe_of hQ
