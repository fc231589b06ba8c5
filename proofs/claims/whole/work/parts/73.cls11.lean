/-! THE CLASS: the tape -/
def hf_tc (L : Nat) (B : Nat → Nat) (R : Nat → Nat → Int32) : Prop := L ≤ 200 ∧ R 87 1 = nI L ∧ (∀ j, j < L → R 88 j = hf_sb (B j)) ∧ ∀ j, B j < 256
theorem sp_coder {d : Nat} (hd : 0 < d) {R : Nat → Nat → Int32} {X : hk_D} {Q : hk_Q} {i : Nat} (hi : i < 17) (hQ : Q (some (.int 0)) (hw R X)) : hk_call d mJString_coder [.ref (4 + i)] (hw R X) Q := by
  obtain ⟨d, rfl⟩ : ∃ e, d = e + 1 := ⟨d - 1, by omega⟩
  have : i = 0 ∨ i = 1 ∨ i = 2 ∨ i = 3 ∨ i = 4 ∨ i = 5 ∨ i = 6 ∨ i = 7 ∨ i = 8 ∨ i = 9 ∨ i = 10 ∨ i = 11 ∨ i = 12 ∨ i = 13 ∨ i = 14 ∨ i = 15 ∨ i = 16 := by omega
  rcases this with h | h | h | h | h | h | h | h | h | h | h | h | h | h | h | h | h <;> subst h <;> (refine hk_run2 (hk_call_m d) 100 ?_; refine And.intro (fun c => absurd c (by decide)) (fun _ => ?_); exact And.intro (by decide) (hk_qe_of hQ))
theorem sp_isLatin1 {d : Nat} (hd : 0 < d) {R : Nat → Nat → Int32} {X : hk_D} {Q : hk_Q} {i : Nat} (hi : i < 17) (hQ : Q (some (.int 1)) (hw R X)) : hk_call d mJString_isLatin1 [.ref (4 + i)] (hw R X) Q := by
  obtain ⟨d, rfl⟩ : ∃ e, d = e + 1 := ⟨d - 1, by omega⟩
  have : i = 0 ∨ i = 1 ∨ i = 2 ∨ i = 3 ∨ i = 4 ∨ i = 5 ∨ i = 6 ∨ i = 7 ∨ i = 8 ∨ i = 9 ∨ i = 10 ∨ i = 11 ∨ i = 12 ∨ i = 13 ∨ i = 14 ∨ i = 15 ∨ i = 16 := by omega
  rcases this with h | h | h | h | h | h | h | h | h | h | h | h | h | h | h | h | h <;> subst h <;> (refine hk_run2 (hk_call_m d) 100 ?_; refine And.intro (fun c => absurd c (by decide)) (fun _ => ?_); refine And.intro (fun _ => ?_) (fun c => absurd rfl c); exact And.intro (by decide) (hk_qe_of hQ))
set_option maxHeartbeats 1000000 in
theorem sp_strlen {d : Nat} (hd : 1 < d) {R : Nat → Nat → Int32} {X : hk_D} {Q : hk_Q} {i : Nat} (hi : i < 17) (hQ : Q (some (.int (nI (nm i).length))) (hw R X)) : hk_call d mJString_length [.ref (4 + i)] (hw R X) Q := by
  obtain ⟨d, rfl⟩ : ∃ e, d = e + 1 := ⟨d - 1, by omega⟩
  have : i = 0 ∨ i = 1 ∨ i = 2 ∨ i = 3 ∨ i = 4 ∨ i = 5 ∨ i = 6 ∨ i = 7 ∨ i = 8 ∨ i = 9 ∨ i = 10 ∨ i = 11 ∨ i = 12 ∨ i = 13 ∨ i = 14 ∨ i = 15 ∨ i = 16 := by omega
  have s0 : ∀ n, n < 10 → hk_shr (nI n) 0 = nI n := by decide
  rcases this with h | h | h | h | h | h | h | h | h | h | h | h | h | h | h | h | h <;> subst h <;> (refine hk_run2 (hk_call_m d) 100 ?_; refine sp_coder (by omega) hi ?_; rw [← s0 _ (by decide)] at hQ; exact hk_qe_of hQ)
theorem sp_pcheck {d : Nat} (hd : 0 < d) {h : hk_Hp} {Q : hk_Q} {k n : Nat} {w : Int32} (ew : w = nI n) (hk : k < n) (hn : n < 1000) (hQ : Q (some (.int (nI k))) h) : hk_call d mJPreconditions_checkIndex [.int (nI k), .int w, .float 0] h Q := by
  obtain ⟨d, rfl⟩ : ∃ e, d = e + 1 := ⟨d - 1, by omega⟩
  subst ew
  refine hk_run2 (hk_call_m d) 100 ?_
  refine And.intro (fun c => absurd c (hn_npos (by omega))) (fun _ => ?_)
  refine And.intro (fun _ => ?_) (fun c => absurd (nI_lt hk (by omega)) c)
  exact hk_qe_of hQ
theorem sp_scheck {d : Nat} (hd : 1 < d) {h : hk_Hp} {Q : hk_Q} {k n : Nat} {w : Int32} (ew : w = nI n) (hk : k < n) (hn : n < 1000) (hQ : Q none h) : hk_call d mJString_checkIndex [.int (nI k), .int w] h Q := by
  obtain ⟨d, rfl⟩ : ∃ e, d = e + 1 := ⟨d - 1, by omega⟩
  refine hk_run2 (hk_call_m d) 100 ?_
  refine sp_pcheck (by omega) ew hk hn ?_
  exact hk_qe_of hQ
theorem nm_nr : ∀ c, c < 128 → narrow .char (.int (nI c)) = .int (nI c) := by decide
theorem nm_ch : ∀ c, c < 128 → ((nI c &&& 255).toUInt32 % 65536).toInt32 = nI c := by decide
set_option maxHeartbeats 2000000 in
theorem sp_lcharAt {d : Nat} (hd : 2 < d) {R : Nat → Nat → Int32} {X : hk_D} {Q : hk_Q} {i k : Nat} (hi : i < 17) (hk : k < (nm i).length) (hQ : Q (some (.int (nI ((nm i).getD k 0)))) (hw R X)) : hk_call d mJStringLatin1_charAt [.ref (21 + i), .int (nI k)] (hw R X) Q := by
  obtain ⟨d, rfl⟩ : ∃ e, d = e + 1 := ⟨d - 1, by omega⟩
  have n4 := (nm_ok i hi).2.2.2 k hk
  have n3 := (nm_ok i hi).2.2.1
  have e : ((nI ((nm i).getD k 0) &&& 255).toUInt32 % 65536).toInt32 = nI ((nm i).getD k 0) := nm_ch _ (by omega)
  have el : ((hw R X).2 (21 + i)).2.1 = (nm i).length ∧ ((hw R X).2 (21 + i)).2.2 k = .int (nI ((nm i).getD k 0)) := by
    have : i = 0 ∨ i = 1 ∨ i = 2 ∨ i = 3 ∨ i = 4 ∨ i = 5 ∨ i = 6 ∨ i = 7 ∨ i = 8 ∨ i = 9 ∨ i = 10 ∨ i = 11 ∨ i = 12 ∨ i = 13 ∨ i = 14 ∨ i = 15 ∨ i = 16 := by omega
    rcases this with h | h | h | h | h | h | h | h | h | h | h | h | h | h | h | h | h <;> subst h <;> (refine ⟨rfl, ?_⟩; match k, hk with
      | 0, _ => first | rfl | (exact absurd hk (by decide))
      | 1, _ => first | rfl | (exact absurd hk (by decide))
      | 2, _ => first | rfl | (exact absurd hk (by decide))
      | 3, _ => first | rfl | (exact absurd hk (by decide))
      | 4, _ => first | rfl | (exact absurd hk (by decide))
      | 5, _ => first | rfl | (exact absurd hk (by decide))
      | 6, _ => first | rfl | (exact absurd hk (by decide))
      | 7, _ => first | rfl | (exact absurd hk (by decide))
      | 8, _ => first | rfl | (exact absurd hk (by decide))
      | k + 9, h => exact absurd h (by simp only [nm, nmL]; simp))
  have : i = 0 ∨ i = 1 ∨ i = 2 ∨ i = 3 ∨ i = 4 ∨ i = 5 ∨ i = 6 ∨ i = 7 ∨ i = 8 ∨ i = 9 ∨ i = 10 ∨ i = 11 ∨ i = 12 ∨ i = 13 ∨ i = 14 ∨ i = 15 ∨ i = 16 := by omega
  rw [← e] at hQ
  rcases this with h | h | h | h | h | h | h | h | h | h | h | h | h | h | h | h | h <;> subst h <;> (refine hk_run2 (hk_call_m d) 100 ?_; refine sp_scheck (by omega) rfl hk (by omega) ?_; refine And.intro (vp_in_nI (N := (nm _).length) hk (by omega)) ?_; rw [nI_clamp (by omega), el.2]; exact And.intro (by rw [e]; exact nm_nr _ (by omega)) (hk_qe_of hQ))
set_option maxHeartbeats 1000000 in
theorem sp_charAt {d : Nat} (hd : 3 < d) {R : Nat → Nat → Int32} {X : hk_D} {Q : hk_Q} {i k : Nat} (hi : i < 17) (hk : k < (nm i).length) (hQ : Q (some (.int (nI ((nm i).getD k 0)))) (hw R X)) : hk_call d mJString_charAt [.ref (4 + i), .int (nI k)] (hw R X) Q := by
  obtain ⟨d, rfl⟩ : ∃ e, d = e + 1 := ⟨d - 1, by omega⟩
  have n4 := (nm_ok i hi).2.2.2 k hk
  have : i = 0 ∨ i = 1 ∨ i = 2 ∨ i = 3 ∨ i = 4 ∨ i = 5 ∨ i = 6 ∨ i = 7 ∨ i = 8 ∨ i = 9 ∨ i = 10 ∨ i = 11 ∨ i = 12 ∨ i = 13 ∨ i = 14 ∨ i = 15 ∨ i = 16 := by omega
  rcases this with h | h | h | h | h | h | h | h | h | h | h | h | h | h | h | h | h <;> subst h <;> (refine hk_run2 (hk_call_m d) 100 ?_; refine sp_isLatin1 (by omega) hi ?_; refine And.intro (fun c => absurd c (by decide)) (fun _ => ?_); refine sp_lcharAt (by omega) hi hk ?_; exact And.intro (nm_nr _ (by omega)) (hk_qe_of hQ))
def hf_bf (f : Nat) : Int32 := if f = 999 then -1 else nI f
/-- the class stands where the reading stands -/
def hf_CT (L : Nat) (B : Nat → Nat) (σ : hPs) (R : Nat → Nat → Int32) : Prop := R 87 2 = nI σ.1.2.1 ∧ R 87 3 = nI σ.1.1 ∧ R 87 4 = nI σ.1.2.2 ∧ R 87 5 = hf_bf σ.2.1 ∧ tkw L B σ.1 ∧ (σ.2.1 = 999 ∨ σ.2.1 ≤ 200)
def hf87 (R R' : Nat → Nat → Int32) : Prop := ∀ a k, ¬ (a = 87 ∧ 2 ≤ k) → R' a k = R a k
theorem hf87_rf {R : Nat → Nat → Int32} : hf87 R R := fun _ _ _ => rfl
theorem hf87_tr {R R1 R2 : Nat → Nat → Int32} (h1 : hf87 R R1) (h2 : hf87 R1 R2) : hf87 R R2 := fun a k q => (h2 a k q).trans (h1 a k q)
theorem hf87_up {R : Nat → Nat → Int32} {k : Nat} {v : Int32} (h : 2 ≤ k) : hf87 R (up2 R 87 k v) := fun a j q => up2_n (fun z => q ⟨z.1, by rw [z.2]; exact h⟩)
theorem hf_tc_f {L : Nat} {B : Nat → Nat} {R R' : Nat → Nat → Int32} (T : hf_tc L B R) (f : hf87 R R') : hf_tc L B R' := ⟨T.1, (f _ _ (by omega)).trans T.2.1, fun j hj => (f _ _ (by omega)).trans (T.2.2.1 j hj), T.2.2.2⟩
theorem sp_tfail {d : Nat} (hd : 0 < d) {R : Nat → Nat → Int32} {X : hk_D} {Q : hk_Q} {L : Nat} {B : Nat → Nat} {σ : hPs} (hL : L ≤ 200) (C : hf_CT L B σ R) (hQ : ∀ R', hf_CT L B (p_fail σ) R' → hf87 R R' → Q none (hw R' X)) : hk_call d mT_fail [.ref 87] (hw R X) Q := by
  obtain ⟨d, rfl⟩ : ∃ e, d = e + 1 := ⟨d - 1, by omega⟩
  obtain ⟨c2, c3, c4, c5, w, hf⟩ := C
  have b1 := w.1
  have b2 := w.2.1
  refine hk_run2 (hk_call_m d) 100 ?_
  by_cases h : σ.2.1 = 999
  · rw [show hf_bf σ.2.1 = -1 from if_pos h] at c5
    refine And.intro (fun _ => ?_) (fun c => absurd c5 c)
    refine w_put trivial rfl rfl ?_
    have e : (p_fail σ).2.1 = σ.1.1 := if_pos h
    refine hk_qe_of (hQ _ ⟨?_, ?_, ?_, ?_, w, ?_⟩ (hf87_up (by omega)))
    · rw [up2_k (by decide)]; exact c2
    · rw [up2_k (by decide)]; exact c3
    · rw [up2_k (by decide)]; exact c4
    · rw [up2_s, c3, e]; exact (if_neg (by omega)).symm
    · rw [e]; exact Or.inr (by omega)
  · rw [show hf_bf σ.2.1 = nI σ.2.1 from if_neg h] at c5
    refine And.intro (fun c => ?_) (fun c => ?_)
    · rw [c5] at c
      exact absurd (show (0 : Int32) ≤ -1 by rw [← c]; exact hn_pos (by omega)) (by decide)
    · have e := p_fail_s h
      refine hk_qe_of (hQ R ⟨c2, c3, c4, ?_, w, ?_⟩ hf87_rf)
      · rw [e, c5]; exact (if_neg h).symm
      · rw [e]; exact hf
theorem hn_cmp : ((97 : Int32).toInt = 97 ∧ (122 : Int32).toInt = 122 ∧ (48 : Int32).toInt = 48 ∧ (57 : Int32).toInt = 57) := by decide
set_option maxHeartbeats 400000 in
theorem sp_tsortAt {d : Nat} (hd : 0 < d) {R : Nat → Nat → Int32} {X : hk_D} {Q : hk_Q} {v : Int32} {L p : Nat} {B : Nat → Nat} (T : hf_tc L B R) (ev : v = nI p) (hp : p ≤ 300) (hQ : Q (some (.int (nI (ts L B p)))) (hw R X)) : hk_call d mT_sortAt [.ref 87, .int v] (hw R X) Q := by
  obtain ⟨d, rfl⟩ : ∃ e, d = e + 1 := ⟨d - 1, by omega⟩
  subst ev
  obtain ⟨hL, tl, tb, t6⟩ := T
  refine hk_run2 (hk_call_m d) 100 ?_
  refine And.intro (fun c => ?_) (fun c => ?_)
  · rw [tl, nI_ltI (by omega) (by omega)] at c
    have hb := hb_c (B p) (t6 p)
    have rb := tb p c
    obtain ⟨i97, i122, i48, i57⟩ := hn_cmp
    have a1 : (97 ≤ hf_sb (B p) ∧ hf_sb (B p) ≤ 122) ↔ (97 ≤ B p ∧ B p ≤ 122) := hb.2.2.1
    have a2 : (48 ≤ hf_sb (B p) ∧ hf_sb (B p) ≤ 57) ↔ (48 ≤ B p ∧ B p ≤ 57) := hb.2.2.2.1
    refine w_ld (j := p) (n := 200) rfl rfl (by omega) (by omega) rfl rb ?_
    have dig : ¬ (97 ≤ B p ∧ B p ≤ 122) → hk_wp (some .int) 0 0 hk_dft cT_sortAt (hk_call d) (hk_qe Q) 20 [(0, .ref 87), (1, .int (nI p))] [] (hw R X) 0 0 := by
      intro n1
      have e0 : ts L B p = if 48 ≤ B p ∧ B p ≤ 57 then 2 else 3 := by unfold ts; rw [if_neg (by omega), if_neg n1]
      rw [e0] at hQ
      refine hk_run2 (hk_call_m d) 100 ?_
      refine w_ld (j := p) (n := 200) rfl rfl (by omega) (by omega) rfl rb ?_
      refine And.intro (fun c1 => ?_) (fun c1 => ?_)
      · rw [if_neg (fun z => by have y := (a2.mpr z).1; rw [hn_lt] at c1; rw [hn_le] at y; omega)] at hQ
        exact hk_qe_of hQ
      · refine w_ld (j := p) (n := 200) rfl rfl (by omega) (by omega) rfl rb ?_
        refine And.intro (fun c2 => ?_) (fun c2 => ?_)
        · rw [if_neg (fun z => by have y := (a2.mpr z).2; rw [hn_lt] at c2; rw [hn_le] at y; omega)] at hQ
          exact hk_qe_of hQ
        · rw [if_pos (a2.mp ⟨by rw [hn_lt] at c1; rw [hn_le]; omega, by rw [hn_lt] at c2; rw [hn_le]; omega⟩)] at hQ
          exact hk_qe_of hQ
    refine And.intro (fun c1 => ?_) (fun c1 => ?_)
    · exact hk_stop2 (hk_call_m d) (dig (fun z => by have y := (a1.mpr z).1; rw [hn_lt] at c1; rw [hn_le] at y; omega))
    · refine w_ld (j := p) (n := 200) rfl rfl (by omega) (by omega) rfl rb ?_
      refine And.intro (fun c2 => ?_) (fun c2 => ?_)
      · exact hk_stop2 (hk_call_m d) (dig (fun z => by have y := (a1.mpr z).2; rw [hn_lt] at c2; rw [hn_le] at y; omega))
      · have z := a1.mp ⟨by rw [hn_lt] at c1; rw [hn_le]; omega, by rw [hn_lt] at c2; rw [hn_le]; omega⟩
        rw [show ts L B p = 1 from ts_1.mpr ⟨c, z⟩] at hQ
        exact hk_qe_of hQ
  · rw [tl, nI_ltI (by omega) (by omega)] at c
    rw [show ts L B p = 0 from ts_0.mpr (by omega)] at hQ
    exact hk_qe_of hQ
set_option maxHeartbeats 1000000 in
theorem sp_tstep {d : Nat} (hd : 1 < d) {R0 : Nat → Nat → Int32} {X : hk_D} {Q : hk_Q} {L e : Nat} {B : Nat → Nat} (T0 : hf_tc L B R0) (he : R0 87 4 = nI e) (hel : e ≤ L) (hQ : ∀ R', R' 87 2 = nI (tk L B e).2.1 → R' 87 3 = nI (tk L B e).1 → R' 87 4 = nI (tk L B e).2.2 → (∀ a k, ¬ (a = 87 ∧ (k = 2 ∨ k = 3 ∨ k = 4)) → R' a k = R0 a k) → Q none (hw R' X)) : hk_call d mT_step [.ref 87] (hw R0 X) Q := by
  obtain ⟨d, rfl⟩ : ∃ e, d = e + 1 := ⟨d - 1, by omega⟩
  have hL := T0.1
  have t6 := T0.2.2.2
  have hsk := sk_le (L := L) (B := B) 200 e hel
  unfold tk at hQ
  generalize hb : sk L B 200 e = b at hsk hQ
  have h3 := ts_3 L B b
  have TF : ∀ R, (∀ a k, ¬ (a = 87 ∧ (k = 2 ∨ k = 3 ∨ k = 4)) → R a k = R0 a k) → hf_tc L B R := fun R f => ⟨hL, (f _ _ (by omega)).trans T0.2.1, fun j hj => (f _ _ (by omega)).trans (T0.2.2.1 j hj), t6⟩
  have Le : ¬ ts L B b = 0 → ¬ ts L B b = 3 → ∀ f p R, L ≤ p + f → p ≤ L → (∀ a k, ¬ (a = 87 ∧ (k = 2 ∨ k = 3 ∨ k = 4)) → R a k = R0 a k) → R 87 2 = nI (ts L B b) → R 87 3 = nI b → R 87 4 = nI p → te L B (ts L B b) f p = te L B (ts L B b) 200 b → hk_wp none 0 0 hk_dft cT_step (hk_call d) (hk_qe Q) 47 [(0, .ref 87)] [] (hw R X) 0 0 := by
    intro n0 n3 f
    have fin : ∀ p R, (∀ a k, ¬ (a = 87 ∧ (k = 2 ∨ k = 3 ∨ k = 4)) → R a k = R0 a k) → R 87 2 = nI (ts L B b) → R 87 3 = nI b → R 87 4 = nI p → p = te L B (ts L B b) 200 b → hk_qe Q none (hw R X) := by
      intro p R fr r2 r3 r4 ep
      refine hk_qe_of (hQ R r2 r3 ?_ fr)
      unfold tkb
      rw [if_neg n0, if_neg n3, ← ep]; exact r4
    induction f with
    | zero =>
      intro p R hlp hp fr r2 r3 r4 et
      have TR := TF R fr
      refine hk_run2 (hk_call_m d) 100 ?_
      refine And.intro (fun c => fin p R fr r2 r3 r4 et) (fun c => ?_)
      rw [r4, TR.2.1, nI_leI (by omega) (by omega)] at c
      omega
    | succ f ih =>
      intro p R hlp hp fr r2 r3 r4 et
      have TR := TF R fr
      unfold te at et
      refine hk_run2 (hk_call_m d) 100 ?_
      refine And.intro (fun c => ?_) (fun c => ?_)
      · rw [r4, TR.2.1, nI_leI (by omega) (by omega)] at c
        rw [if_neg (fun z => n0 (by rw [← z]; exact ts_0.mpr c))] at et
        exact fin p R fr r2 r3 r4 et
      · rw [r4, TR.2.1, nI_leI (by omega) (by omega)] at c
        have tp3 := ts_3 L B p
        refine sp_tsortAt (by omega) TR r4 (by omega) ?_
        refine And.intro (fun c2 => ?_) (fun c2 => ?_)
        · rw [r2] at c2
          have q := (nI_eq (by omega) (by omega)).mp c2
          rw [if_pos q] at et
          refine w_put trivial rfl rfl ?_
          refine Exists.intro [0] ?_
          rw [r4, nI_1]
          refine hk_stop2 (hk_call_m d) (ih (p + 1) _ (by omega) (by omega) (fun a k z => by rw [up2_n (by omega)]; exact fr a k z) ?_ ?_ (up2_s _ _ _ _) et)
          · rw [up2_k (by decide)]; exact r2
          · rw [up2_k (by decide)]; exact r3
        · rw [r2] at c2
          rw [if_neg (fun q => c2 (by rw [q]))] at et
          exact fin p R fr r2 r3 r4 et
  have mid : ∀ R, (∀ a k, ¬ (a = 87 ∧ (k = 2 ∨ k = 3 ∨ k = 4)) → R a k = R0 a k) → R 87 3 = nI b → hk_wp none 0 0 hk_dft cT_step (hk_call d) (hk_qe Q) 23 [(0, .ref 87)] [] (hw R X) 0 0 := by
    intro R fr r3
    have TR := TF R fr
    refine hk_run2 (hk_call_m d) 100 ?_
    refine sp_tsortAt (by omega) TR r3 (by omega) ?_
    refine w_put trivial rfl rfl ?_
    refine w_put trivial rfl rfl ?_
    have fr2 : ∀ a k, ¬ (a = 87 ∧ (k = 2 ∨ k = 3 ∨ k = 4)) → up2 (up2 R 87 2 (nI (ts L B b))) 87 4 (up2 R 87 2 (nI (ts L B b)) 87 3) a k = R0 a k := fun a k z => by rw [up2_n (by omega), up2_n (by omega)]; exact fr a k z
    have p2 : up2 (up2 R 87 2 (nI (ts L B b))) 87 4 (up2 R 87 2 (nI (ts L B b)) 87 3) 87 2 = nI (ts L B b) := by rw [up2_k (by decide), up2_s]
    have p3 : up2 (up2 R 87 2 (nI (ts L B b))) 87 4 (up2 R 87 2 (nI (ts L B b)) 87 3) 87 3 = nI b := by rw [up2_k (by decide), up2_k (by decide)]; exact r3
    have p4 : up2 (up2 R 87 2 (nI (ts L B b))) 87 4 (up2 R 87 2 (nI (ts L B b)) 87 3) 87 4 = nI b := by rw [up2_s, up2_k (by decide)]; exact r3
    generalize up2 (up2 R 87 2 (nI (ts L B b))) 87 4 (up2 R 87 2 (nI (ts L B b)) 87 3) = R2 at fr2 p2 p3 p4
    refine And.intro (fun c => ?_) (fun c => ?_)
    · rw [p2] at c
      have q : ts L B b = 3 := (nI_eq (b := 3) (by omega) (by omega)).mp c
      refine w_put trivial rfl rfl ?_
      refine hk_qe_of (hQ _ ?_ ?_ ?_ (fun a k z => by rw [up2_n (by omega)]; exact fr2 a k z))
      · rw [up2_k (by decide)]; exact p2
      · rw [up2_k (by decide)]; exact p3
      · rw [up2_s, p4, nI_1]
        unfold tkb
        rw [if_neg (by omega), if_pos q]
    · rw [p2] at c
      have n3 : ¬ ts L B b = 3 := fun z => c (by rw [z]; rfl)
      refine And.intro (fun c2 => ?_) (fun c2 => ?_)
      · rw [p2] at c2
        have q : ts L B b = 0 := (nI_eq (b := 0) (by omega) (by omega)).mp c2
        refine hk_qe_of (hQ R2 p2 p3 ?_ fr2)
        unfold tkb
        rw [if_pos q]; exact p4
      · rw [p2] at c2
        have n0 : ¬ ts L B b = 0 := fun z => c2 (by rw [z]; rfl)
        exact hk_stop2 (hk_call_m d) (Le n0 n3 200 b R2 (by omega) hsk.2 fr2 p2 p3 p4 rfl)
  have L1 : ∀ f p R, L ≤ p + f → p ≤ L → (∀ a k, ¬ (a = 87 ∧ (k = 2 ∨ k = 3 ∨ k = 4)) → R a k = R0 a k) → R 87 3 = nI p → sk L B f p = b → hk_wp none 0 0 hk_dft cT_step (hk_call d) (hk_qe Q) 4 [(0, .ref 87)] [] (hw R X) 0 0 := by
    intro f
    induction f with
    | zero =>
      intro p R hlp hp fr r3 es
      have es : p = b := es
      have TR := TF R fr
      refine hk_run2 (hk_call_m d) 100 ?_
      refine And.intro (fun c => ?_) (fun c => ?_)
      · exact hk_stop2 (hk_call_m d) (mid R fr (by rw [← es]; exact r3))
      · rw [r3, TR.2.1, nI_leI (by omega) (by omega)] at c; omega
    | succ f ih =>
      intro p R hlp hp fr r3 es
      have TR := TF R fr
      unfold sk at es
      refine hk_run2 (hk_call_m d) 100 ?_
      refine And.intro (fun c => ?_) (fun c => ?_)
      · rw [r3, TR.2.1, nI_leI (by omega) (by omega)] at c
        rw [if_neg (fun z => by omega)] at es
        exact hk_stop2 (hk_call_m d) (mid R fr (by rw [← es]; exact r3))
      · rw [r3, TR.2.1, nI_leI (by omega) (by omega)] at c
        refine w_ld (j := p) (n := 200) r3 rfl (by omega) (by omega) rfl (TR.2.2.1 p (by omega)) ?_
        have h32 := (hb_c (B p) (t6 p)).1
        refine And.intro (fun c2 => ?_) (fun c2 => ?_)
        · rw [if_pos ⟨by omega, h32.mp c2⟩] at es
          refine w_put trivial rfl rfl ?_
          refine Exists.intro [0] ?_
          rw [r3, nI_1]
          exact hk_stop2 (hk_call_m d) (ih (p + 1) _ (by omega) (by omega) (fun a k z => by rw [up2_n (by omega)]; exact fr a k z) (up2_s _ _ _ _) es)
        · rw [if_neg (fun z => c2 (h32.mpr z.2))] at es
          exact hk_stop2 (hk_call_m d) (mid R fr (by rw [← es]; exact r3))
  refine hk_run2 (hk_call_m d) 4 ?_
  refine w_put trivial rfl rfl ?_
  exact L1 200 e _ (by omega) hel (fun a k z => up2_n (by omega)) (by rw [up2_s]; exact he) hb
theorem sp_tstep2 {d : Nat} (hd : 1 < d) {R : Nat → Nat → Int32} {X : hk_D} {Q : hk_Q} {L : Nat} {B : Nat → Nat} {σ : hPs} (T : hf_tc L B R) (C : hf_CT L B σ R) (hQ : ∀ R', hf_CT L B (p_step L B σ) R' → hf87 R R' → Q none (hw R' X)) : hk_call d mT_step [.ref 87] (hw R X) Q := by
  obtain ⟨c2, c3, c4, c5, w, hf⟩ := C
  refine sp_tstep hd T c4 w.2.1 (fun R' r2 r3 r4 fr => hQ R' ⟨r2, r3, r4, (fr _ _ (by omega)).trans c5, (tk_w _ w.2.1 T.1).1, hf⟩ (fun a k z => fr a k (by omega)))
set_option maxHeartbeats 1000000 in
theorem sp_tspells {d : Nat} (hd : 4 < d) {R : Nat → Nat → Int32} {X : hk_D} {Q : hk_Q} {L i : Nat} {B : Nat → Nat} {σ : hPs} (T : hf_tc L B R) (C : hf_CT L B σ R) (hi : i < 17) (h1 : hf_id B σ.1 = i → Q (some (.int 1)) (hw R X)) (h0 : ¬ hf_id B σ.1 = i → Q (some (.int 0)) (hw R X)) : hk_call d mT_spells [.ref 87, .ref (4 + i)] (hw R X) Q := by
  obtain ⟨d, rfl⟩ : ∃ e, d = e + 1 := ⟨d - 1, by omega⟩
  obtain ⟨c2, c3, c4, c5, w, hf⟩ := C
  have hL := T.1
  have s3 := w.2.2.1
  have b1 := w.1
  have b2 := w.2.1
  have nl := (nm_ok i hi).2.2.1
  rw [hf_id_i hi] at h1 h0
  have r9 : ((hw R X).2 (4 + i)).1 = 9 := by
    have : i = 0 ∨ i = 1 ∨ i = 2 ∨ i = 3 ∨ i = 4 ∨ i = 5 ∨ i = 6 ∨ i = 7 ∨ i = 8 ∨ i = 9 ∨ i = 10 ∨ i = 11 ∨ i = 12 ∨ i = 13 ∨ i = 14 ∨ i = 15 ∨ i = 16 := by omega
    rcases this with h | h | h | h | h | h | h | h | h | h | h | h | h | h | h | h | h <;> subst h <;> rfl
  refine hk_run2 (hk_call_m d) 100 ?_
  refine And.intro (fun c => ?_) (fun c => ?_)
  · rw [c2] at c
    have s1 : σ.1.2.1 = 1 := (nI_eq (b := 1) (by omega) (by omega)).mp c
    refine w_recv r9 ?_
    refine sp_strlen (by omega) hi ?_
    refine And.intro (fun c1 => ?_) (fun c1 => ?_)
    · rw [c4, c3, hn_sub b1 (by omega)] at c1
      have el : σ.1.2.2 - σ.1.1 = (nm i).length := (nI_eq (by omega) (by omega)).mp c1
      have Lp : ∀ k, k ≤ (nm i).length → (∀ j, j < k → B (σ.1.1 + j) = (nm i).getD j 0) → hk_wp (some .boolean) 0 0 hk_dft cT_spells (hk_call d) (hk_qe Q) 16 [(2, .int (nI k)), (0, .ref 87), (1, .ref (4 + i))] [] (hw R X) 0 0 := by
        refine hk_for ?_ ?_
        · intro all
          refine hk_run2 (hk_call_m d) 100 ?_
          refine w_recv r9 ?_
          refine sp_strlen (by omega) hi ?_
          refine And.intro (fun c => ?_) (fun c => absurd (nI_le (Nat.le_refl _) (by omega)) c)
          exact And.intro (by decide) (hk_qe_of (h1 ⟨s1, el, all⟩))
        · intro k hk ih all
          refine hk_run2 (hk_call_m d) 100 ?_
          refine w_recv r9 ?_
          refine sp_strlen (by omega) hi ?_
          refine And.intro (fun c => absurd c (nI_ge hk (by omega))) (fun c => ?_)
          have n4 := (nm_ok i hi).2.2.2 k hk
          refine w_ld (j := σ.1.1 + k) (n := 200) (by rw [c3, hn_add]) rfl (by omega) (by omega) rfl (T.2.2.1 _ (by omega)) ?_
          refine w_recv r9 ?_
          refine sp_charAt (by omega) hi hk ?_
          have hbb := hb_c (B (σ.1.1 + k)) (T.2.2.2 _)
          have iff : hf_sb (B (σ.1.1 + k)) = nI ((nm i).getD k 0) ↔ B (σ.1.1 + k) = (nm i).getD k 0 := by
            constructor
            · intro z
              obtain ⟨i97, i122, -, -⟩ := hn_cmp
              have y := hbb.2.2.1.mp (by rw [z]; exact ⟨by rw [hn_le, hn_i (by omega)]; omega, by rw [hn_le, hn_i (by omega)]; omega⟩)
              rw [hbb.2.2.2.2.1 (by omega)] at z
              exact (nI_eq (by omega) (by omega)).mp z
            · intro z; rw [hbb.2.2.2.2.1 (by omega), z]
          refine And.intro (fun c2 => ?_) (fun c2 => ?_)
          · refine Exists.intro [0, 1, 2] ?_
            rw [nI_1]
            exact hk_stop2 (hk_call_m d) (ih (fun j hj => if e : j = k then by rw [e]; exact iff.mp c2 else all j (by omega)))
          · exact And.intro (by decide) (hk_qe_of (h0 (fun z => c2 (iff.mpr (z.2.2 k hk)))))
      refine hk_stop2 (hk_call_m d) (hk_run2 (hk_call_m d) 2 ?_)
      exact Lp 0 (Nat.zero_le _) (fun j hj => absurd hj (Nat.not_lt_zero j))
    · rw [c4, c3, hn_sub b1 (by omega)] at c1
      exact And.intro (by decide) (hk_qe_of (h0 (fun z => c1 (by rw [z.2.1]))))
  · rw [c2] at c
    exact And.intro (by decide) (hk_qe_of (h0 (fun z => c (by rw [z.1]; rfl))))
