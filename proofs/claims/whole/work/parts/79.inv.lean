/-! THE LAW: what holds between its calls -/
def CK (kp : Option (hP × Int32)) (R : Nat → Nat → Int32) : Prop := match kp with
  | none => R 38 3 = 0
  | some q => R 38 3 = 1 ∧ hf_K 2 q.1 R ∧ R 38 5 = q.2 ∧ q.1 4 0 ≤ 96
def MK (kp : Option (hP × Int32)) (R : Nat → Nat → Int32) : Prop := match kp with
  | none => R 98 47 = 0
  | some q => R 98 47 = 1 ∧ ∃ Rs, hf_M 0 q.1 Rs ∧ Rs 98 10 = q.2 ∧ hf_sn Rs R
/-- the class holds it -/
def CI (P : hP) (z : Int32) (n : Nat) (T : Nat → Int32) (L : Nat) (B : Nat → Nat) (G : hSt) (H : hSh) (l : List Int32) (kp : Option (hP × Int32)) (R : Nat → Nat → Int32) (X : hk_D) : Prop :=
  hf_K 0 P R ∧ P 4 0 ≤ 96 ∧ R 38 4 = z ∧ hf_TC n T R ∧ hf_tc L B R ∧ hf_stC G R X ∧ hf_shC H R X ∧ hTC l R ∧ CK kp R
/-- the reference holds it -/
def MI (P : hP) (z : Int32) (n : Nat) (T : Nat → Int32) (L : Nat) (B : Nat → Nat) (G : hSt) (H : hSh) (l : List Int32) (kp : Option (hP × Int32)) (R : Nat → Nat → Int32) (X : hk_D) : Prop :=
  hf_M 0 P R ∧ R 98 10 = z ∧ hf_T n T R ∧ hf_tp L B R ∧ hf_stM G R X ∧ hf_shM H R ∧ hTM l R ∧ MK kp R
set_option maxRecDepth 16384 in
theorem CK_f {kp : Option (hP × Int32)} {R R' : Nat → Nat → Int32} (C : CK kp R) (f : ∀ a k, (71 ≤ a ∧ a ≤ 86) ∨ (a = 38 ∧ (k = 3 ∨ k = 5)) → R' a k = R a k) : CK kp R' := by
  cases kp with
  | none => exact (f 38 3 (by omega)).trans C
  | some q => exact ⟨(f 38 3 (by omega)).trans C.1, hf_K_fr C.2.1 (fun a k z => f a k (by omega)), (f 38 5 (by omega)).trans C.2.2.1, C.2.2.2⟩
set_option maxRecDepth 16384 in
theorem MK_f {kp : Option (hP × Int32)} {R R' : Nat → Nat → Int32} (C : MK kp R) (f : ∀ a k, a = 125 ∨ (a = 98 ∧ k = 47) → R' a k = R a k) : MK kp R' := by
  cases kp with
  | none => exact (f 98 47 (by omega)).trans C
  | some q =>
    obtain ⟨h1, Rs, h2, h3, q0, q1, q2, q3, q4, q5, q6, q7, q8, q9⟩ := C
    have e : ∀ k, R' 125 k = R 125 k := fun k => f 125 k (by omega)
    exact ⟨(f 98 47 (by omega)).trans h1, Rs, h2, h3, (e _).trans q0, (e _).trans q1, (e _).trans q2, fun k hk => (e _).trans (q3 k hk), fun k hk => (e _).trans (q4 k hk), fun k hk => (e _).trans (q5 k hk), fun k hk => (e _).trans (q6 k hk), fun k hk => (e _).trans (q7 k hk), fun k hk => (e _).trans (q8 k hk), fun k hk => (e _).trans (q9 k hk)⟩
set_option maxRecDepth 16384 in
theorem TC_f {n : Nat} {T : Nat → Int32} {R R' : Nat → Nat → Int32} (H : hf_TC n T R) (f : ∀ a k, a = 89 ∨ (a = 38 ∧ k = 8) → R' a k = R a k) : hf_TC n T R' := ⟨H.1, (f _ _ (by omega)).trans H.2.1, fun i hi => (f _ _ (by omega)).trans (H.2.2 i hi)⟩
set_option maxRecDepth 16384 in
theorem TM_f {n : Nat} {T : Nat → Int32} {R R' : Nat → Nat → Int32} (H : hf_T n T R) (f : ∀ a k, a = 116 ∨ (a = 98 ∧ k = 33) → R' a k = R a k) : hf_T n T R' := ⟨H.1, (f _ _ (by omega)).trans H.2.1, fun i hi => (f _ _ (by omega)).trans (H.2.2 i hi)⟩
set_option maxRecDepth 16384 in
theorem tc_f {L : Nat} {B : Nat → Nat} {R R' : Nat → Nat → Int32} (H : hf_tc L B R) (f : ∀ a k, a = 88 ∨ (a = 87 ∧ k = 1) → R' a k = R a k) : hf_tc L B R' := ⟨H.1, (f _ _ (by omega)).trans H.2.1, fun i hi => (f _ _ (by omega)).trans (H.2.2.1 i hi), H.2.2.2⟩
set_option maxRecDepth 16384 in
theorem tp_f {L : Nat} {B : Nat → Nat} {R R' : Nat → Nat → Int32} (H : hf_tp L B R) (f : ∀ a k, a = 106 ∨ (a = 98 ∧ k = 12) → R' a k = R a k) : hf_tp L B R' := ⟨H.1, (f _ _ (by omega)).trans H.2.1, fun i hi => (f _ _ (by omega)).trans (H.2.2.1 i hi), H.2.2.2⟩
set_option maxRecDepth 16384 in
theorem stC_f {G : hSt} {R R' : Nat → Nat → Int32} {X X' : hk_D} (S : hf_stC G R X) (f : ∀ a k, 127 ≤ a → R' a k = R a k) (x : X'.2.2 = X.2.2) : hf_stC G R' X' := by
  obtain ⟨x1, x2, x3⟩ := X'
  have x : x3 = X.2.2 := x
  subst x
  refine ⟨fun t ht => ?_, S.2⟩
  obtain ⟨z1, z2, z3, z4⟩ := S.1 t ht
  refine ⟨z1, z2, z3, fun j e => ?_⟩
  obtain ⟨y1, y2, y3, y4, y5⟩ := z4 j e
  exact ⟨y1, y2, (f _ _ (by omega)).trans y3, y4, fun k hk => (f _ _ (by omega)).trans (y5 k hk)⟩
set_option maxRecDepth 16384 in
theorem shC_f {H : hSh} {R R' : Nat → Nat → Int32} {X X' : hk_D} (S : hf_shC H R X) (f : ∀ a k, (94 ≤ a ∧ a ≤ 97) ∨ 127 ≤ a → R' a k = R a k) (x : X'.2.2 = X.2.2) : hf_shC H R' X' := by
  obtain ⟨x1, x2, x3⟩ := X'
  have x : x3 = X.2.2 := x
  subst x
  exact hf_shC_f S (fun s hs => f _ _ (by omega)) (fun j => f _ _ (by omega))
set_option maxRecDepth 16384 in
theorem CI_fr {P : hP} {z : Int32} {n : Nat} {T : Nat → Int32} {L : Nat} {B : Nat → Nat} {G : hSt} {H : hSh} {l : List Int32} {kp : Option (hP × Int32)} {R R' : Nat → Nat → Int32} {X X' : hk_D} (C : CI P z n T L B G H l kp R X) (f : ∀ a k, ¬ (98 ≤ a ∧ a ≤ 126) → R' a k = R a k) (x : X'.2.2 = X.2.2) : CI P z n T L B G H l kp R' X' := by
  obtain ⟨c1, c2, c3, c4, c5, c6, c7, c8, c9⟩ := C
  exact ⟨hf_K_fr c1 (fun a k z => f a k (by omega)), c2, (f _ _ (by omega)).trans c3, TC_f c4 (fun a k z => f a k (by omega)), tc_f c5 (fun a k z => f a k (by omega)), stC_f c6 (fun a k z => f a k (by omega)) x, shC_f c7 (fun a k z => f a k (by omega)) x, hf_tr_f c8 (f _ _ (by omega)) (fun i => f _ _ (by omega)), CK_f c9 (fun a k z => f a k (by omega))⟩
set_option maxRecDepth 16384 in
theorem MI_fr {P : hP} {z : Int32} {n : Nat} {T : Nat → Int32} {L : Nat} {B : Nat → Nat} {G : hSt} {H : hSh} {l : List Int32} {kp : Option (hP × Int32)} {R R' : Nat → Nat → Int32} {X X' : hk_D} (C : MI P z n T L B G H l kp R X) (f : ∀ a k, 98 ≤ a ∧ a ≤ 126 → R' a k = R a k) (x : X'.2.1 = X.2.1) : MI P z n T L B G H l kp R' X' := by
  obtain ⟨c1, c2, c3, c4, c5, c6, c7, c8⟩ := C
  exact ⟨hf_M_eq c1 (fun a k z => f a k (by omega)), (f _ _ (by omega)).trans c2, TM_f c3 (fun a k z => f a k (by omega)), tp_f c4 (fun a k z => f a k (by omega)), hf_stM_f c5 (fun a k z => f a k (by omega)) (fun j => congrFun x j), hf_shM_f c6 (fun a k z => f a k (by omega)), hf_tr_f c7 (f _ _ (by omega)) (fun i => f _ _ (by omega)), MK_f c8 (fun a k z => f a k (by omega))⟩
set_option maxRecDepth 16384 in
/-- plain and trial have changed -/
theorem CI_P {P P' : hP} {z : Int32} {n : Nat} {T : Nat → Int32} {L : Nat} {B : Nat → Nat} {G : hSt} {H : hSh} {l : List Int32} {kp : Option (hP × Int32)} {R R' : Nat → Nat → Int32} {X : hk_D} (C : CI P z n T L B G H l kp R X) (K : hf_K 0 P' R') (h96 : P' 4 0 ≤ 96) (f : ∀ a k, ¬ (39 ≤ a ∧ a ≤ 70) → R' a k = R a k) : CI P' z n T L B G H l kp R' X := by
  obtain ⟨c1, c2, c3, c4, c5, c6, c7, c8, c9⟩ := C
  exact ⟨K, h96, (f _ _ (by omega)).trans c3, TC_f c4 (fun a k z => f a k (by omega)), tc_f c5 (fun a k z => f a k (by omega)), stC_f c6 (fun a k z => f a k (by omega)) rfl, shC_f c7 (fun a k z => f a k (by omega)) rfl, hf_tr_f c8 (f _ _ (by omega)) (fun i => f _ _ (by omega)), CK_f c9 (fun a k z => f a k (by omega))⟩
def mS (a k : Nat) : Prop := a = 106 ∨ a = 116 ∨ a = 118 ∨ a = 119 ∨ a = 121 ∨ a = 122 ∨ a = 123 ∨ a = 124 ∨ a = 125 ∨ (a = 98 ∧ (k = 10 ∨ k = 12 ∨ k = 33 ∨ k = 45 ∨ k = 47))
set_option maxRecDepth 16384 in
theorem MI_P {P P' : hP} {z : Int32} {n : Nat} {T : Nat → Int32} {L : Nat} {B : Nat → Nat} {G : hSt} {H : hSh} {l : List Int32} {kp : Option (hP × Int32)} {R R' : Nat → Nat → Int32} {X X' : hk_D} (C : MI P z n T L B G H l kp R X) (M : hf_M 0 P' R') (f : ∀ a k, mS a k → R' a k = R a k) (x : X'.2.1 = X.2.1) : MI P' z n T L B G H l kp R' X' := by
  obtain ⟨c1, c2, c3, c4, c5, c6, c7, c8⟩ := C
  have f' : ∀ a k, (a = 106 ∨ a = 116 ∨ a = 118 ∨ a = 119 ∨ a = 121 ∨ a = 122 ∨ a = 123 ∨ a = 124 ∨ a = 125 ∨ (a = 98 ∧ (k = 10 ∨ k = 12 ∨ k = 33 ∨ k = 45 ∨ k = 47))) → R' a k = R a k := f
  exact ⟨M, (f' _ _ (by omega)).trans c2, TM_f c3 (fun a k z => f' a k (by omega)), tp_f c4 (fun a k z => f' a k (by omega)), hf_stM_f c5 (fun a k z => f' a k (by omega)) (fun j => congrFun x j), hf_shM_f c6 (fun a k z => f' a k (by omega)), hf_tr_f c7 (f' _ _ (by omega)) (fun i => f' _ _ (by omega)), MK_f c8 (fun a k z => f' a k (by omega))⟩
def INV (R : Nat → Nat → Int32) (X : hk_D) : Prop := ∃ P z n T L B G H l kp, CI P z n T L B G H l kp R X ∧ MI P z n T L B G H l kp R X
set_option maxRecDepth 16384 in
theorem mS_p {R R' : Nat → Nat → Int32} (f : hfp R R') : ∀ a k, mS a k → R' a k = R a k := fun a k q => f a k (by unfold mS at q; omega) (by unfold mS at q; omega)
set_option maxRecDepth 16384 in
theorem mS_t {R R' : Nat → Nat → Int32} (f : hft R R') : ∀ a k, mS a k → R' a k = R a k := fun a k q => f a k (by unfold mS at q; omega)
set_option maxRecDepth 16384 in
theorem fM_p {R R' : Nat → Nat → Int32} (f : hfp R R') : ∀ a k, ¬ (98 ≤ a ∧ a ≤ 126) → R' a k = R a k := fun a k q => f a k (by omega) (by omega)
set_option maxRecDepth 16384 in
theorem fM_t {R R' : Nat → Nat → Int32} (f : hft R R') : ∀ a k, ¬ (98 ≤ a ∧ a ≤ 126) → R' a k = R a k := fun a k q => f a k (by omega)
set_option maxRecDepth 16384 in
theorem fC_c {i : Nat} {R R' : Nat → Nat → Int32} (hi : i ≤ 2) (f : hfc i R R') : ∀ a k, 98 ≤ a ∧ a ≤ 126 → R' a k = R a k := fun a k q => f a k (by omega)
set_option maxRecDepth 16384 in
theorem f70 {i : Nat} {R R' : Nat → Nat → Int32} (hi : i ≤ 1) (f : hfc i R R') : ∀ a k, ¬ (39 ≤ a ∧ a ≤ 70) → R' a k = R a k := fun a k q => f a k (by omega)
set_option maxRecDepth 16384 in
theorem K0_t {P : hP} {R R' : Nat → Nat → Int32} (K : hf_K 0 P R) (f : hfc 1 R R') : hf_K 0 P R' := hf_K_fr K (fun a k q => f a k (by omega))
/-! the clock stays -/
set_option maxRecDepth 16384 in
theorem now_wind {P : hP} {a b c : Int32} (h : P 4 0 ≤ 96) : (o_wind P a b c).2 4 0 ≤ 96 := by unfold o_wind; split; exact h; split; exact h; split; exact h; exact h
set_option maxRecDepth 16384 in
theorem now_person {P : hP} {a b : Int32} (h : P 4 0 ≤ 96) : (o_person P a b).2 4 0 ≤ 96 := by unfold o_person; split; exact h; split; exact h; split; exact h; exact h
set_option maxRecDepth 16384 in
theorem now_moves {P : hP} {a b : Int32} (h : P 4 0 ≤ 96) : (o_moves P a b).2 4 0 ≤ 96 := by unfold o_moves; split; exact h; split; exact h; exact h
set_option maxRecDepth 16384 in
theorem now_speed {P : hP} {a b : Int32} (h : P 4 0 ≤ 96) : (o_speed P a b).2 4 0 ≤ 96 := by unfold o_speed; split; exact h; split; exact h; exact h
set_option maxRecDepth 16384 in
theorem now_hat {P : hP} {a b c e : Int32} (h : P 4 0 ≤ 96) : (o_hat P a b c e).2 4 0 ≤ 96 := by unfold o_hat; split; exact h; split; exact h; split; exact h; split; exact h; split; exact h; exact h
set_option maxRecDepth 16384 in
theorem now_make {P : hP} {a b c : Int32} (h : P 4 0 ≤ 96) : (o_make P a b c).2 4 0 ≤ 96 := by unfold o_make; split; exact h; split; exact h; split; exact h; exact h
set_option maxRecDepth 16384 in
theorem now_puts {P : hP} {a b : Int32} (h : P 4 0 ≤ 96) : (o_puts P a b).2 4 0 ≤ 96 := by unfold o_puts; split; exact h; split; exact h; split; exact h; exact h
set_option maxRecDepth 16384 in
theorem now_down {P : hP} {a : Int32} (h : P 4 0 ≤ 96) : (o_down P a).2 4 0 ≤ 96 := by unfold o_down; split; exact h; split; exact h; exact h
set_option maxRecDepth 16384 in
theorem now_found {P : hP} {a b : Int32} (h : P 4 0 ≤ 96) : (o_found P a b).2 4 0 ≤ 96 := by unfold o_found; split; exact h; split; exact h; split; exact h; exact h
set_option maxRecDepth 16384 in
theorem now_bow {P : hP} {a b : Int32} (h : P 4 0 ≤ 96) : (o_bow P a b).2 4 0 ≤ 96 := by unfold o_bow; split; exact h; split; exact h; split; exact h; split; exact h; exact h
set_option maxRecDepth 16384 in
theorem now_draw {P : hP} {z v : Int32} (h : P 4 0 ≤ 96) : (o_draw P z v).2.1 4 0 ≤ 96 := by unfold o_draw; split; exact h; exact h
set_option maxRecDepth 16384 in
theorem now_winds {P : hP} {G : hSt} {a b c e : Int32} (h : P 4 0 ≤ 96) : (o_winds P G a b c e).2 4 0 ≤ 96 := by unfold o_winds; split; exact h; split; exact h; split; exact h; split; exact h; split; exact h; split; split; exact h; split; exact h; exact h; exact h
set_option maxRecDepth 16384 in
theorem now_hh : ∀ n (P : hP), P 4 0 ≤ 96 → hf_hours n P 4 0 ≤ 96
  | 0, _, h => h
  | n + 1, P, h => by
    rw [hf_hours]
    split
    · rename_i q
      refine now_hh n _ ?_
      have : hf_pass P 4 0 = P 4 0 + 1 := by unfold hf_pass hf_hour; rw [hf_up_s]
      omega
    · exact h
set_option maxRecDepth 16384 in
theorem now_hours {P : hP} {a : Int32} (h : P 4 0 ≤ 96) : (o_hours P a).2 4 0 ≤ 96 := by unfold o_hours; split; exact h; exact now_hh _ _ h
set_option maxRecDepth 16384 in
theorem now_clock {P : hP} {a : Int32} (h : P 4 0 ≤ 96) : (o_clock P a).2 4 0 ≤ 96 := by
  unfold o_clock
  split
  · exact h
  · rename_i n e
    have := (hxi_e (by omega) e).1
    show hf_up P 4 0 n 4 0 ≤ 96
    rw [hf_up_s]; omega
/-! the script -/
set_option maxRecDepth 16384 in
theorem w_ldx {R : Nat → Nat → Int32} {X : hk_D} {S : Nat × (Nat → Int32)} {Xc : hk_X} {ip q m : Nat} {ls : hk_Ls} {p : Nat} {i : Int32} {r : List Value} {h : hk_Hp} (hi : i = nI p) (hX : X.2.2.2.2.2.2 = S) (hp : p < S.1) (hS : S.1 ≤ 320) (g : Xc ip ls (.int (S.2 p) :: r) h q m) : vp_in i ((hw R X).2 0).2.1 ∧ hk_v (((hw R X).2 0).2.2 i.toNatClampNeg) (fun v => Xc ip ls (v :: r) h q m) := by
  subst hi; subst hX
  refine And.intro (vp_in_nI (N := X.2.2.2.2.2.2.1) hp (by omega)) ?_
  rw [nI_clamp (by omega)]
  exact g
