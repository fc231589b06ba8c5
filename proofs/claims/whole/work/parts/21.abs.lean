/-! THE ABSTRACT PLAIN: rows 0 direction, 1 force (by hours), 2 people, 3 hats, 4 NOW (at 0), 5 place, 6 speed (by persons), 7 kind, 8 a, 9 worth, 10 where (by hats: 0 to 24 lies there, 25 + p worn by p, 30 gone) -/
abbrev hP : Type := Nat → Nat → Nat
def hf_up (P : hP) (r j v : Nat) : hP := fun r' j' => if r' = r ∧ j' = j then v else P r' j'
def hf_holds (kind a : Nat) : Nat := match kind with
  | 1 => 3 + a / 2
  | 2 => 1
  | 3 => 2 * (3 + a / 2)
  | 4 => 1 - a % 2
  | 5 => 4
  | _ => 3
def hf_flies (kind force : Nat) : Nat := match kind with
  | 2 => if 0 < force then force / 3 + 1 else force / 3
  | 4 => 2 * (if 0 < force then force / 3 + 1 else force / 3)
  | 5 => force / 3 / 2
  | _ => force / 3
def hf_fly (dir n q : Nat) : Nat := match dir with
  | 0 => if n ≤ q / 5 then 5 * (q / 5 - n) + q % 5 else 30
  | 1 => if q % 5 + n ≤ 4 then 5 * (q / 5) + (q % 5 + n) else 30
  | 2 => if q / 5 + n ≤ 4 then 5 * (q / 5 + n) + q % 5 else 30
  | _ => if n ≤ q % 5 then 5 * (q / 5) + (q % 5 - n) else 30
/-- a hat behind the first half of an hour's wind -/
def hf_drop (P : hP) (force j : Nat) : Nat := if 25 ≤ P 10 j ∧ P 10 j < 30 ∧ hf_holds (P 7 j) (P 8 j) < force then P 5 (P 10 j - 25) else P 10 j
def hf_air (P : hP) (dir force j q : Nat) : Nat := if q < 25 then hf_fly dir (hf_flies (P 7 j) force) q else q
/-- the first n hats have dropped -/
def hf_drops (P : hP) (force n : Nat) : hP := fun r j => if r = 10 ∧ j < n then hf_drop P force j else P r j
/-- the first n hats have dropped and flown -/
def hf_blow (P : hP) (dir force n : Nat) : hP := fun r j => if r = 10 ∧ j < n then hf_air P dir force j (hf_drop P force j) else P r j
def hf_ab (x y : Nat) : Nat := (x - y) + (y - x)
def hf_dist (a b : Nat) : Nat := hf_ab (a % 5) (b % 5) + hf_ab (a / 5) (b / 5)
/-- of the first n hats the nearest that lies; 99: none -/
def hf_near (P : hP) (at0 : Nat) : Nat → Nat
  | 0 => 99
  | n + 1 => if P 10 n < 25 ∧ (hf_near P at0 n = 99 ∨ hf_dist at0 (P 10 n) < hf_dist at0 (P 10 (hf_near P at0 n))) then n else hf_near P at0 n
def hf_st1 (f t : Nat) : Nat := if f % 5 < t % 5 then f + 1 else if t % 5 < f % 5 then f - 1 else if f < t then f + 5 else if t < f then f - 5 else f
def hf_runs : Nat → Nat → Nat → Nat
  | 0, f, _ => f
  | k + 1, f, t => hf_st1 (hf_runs k f t) t
/-- of the first n hats those that lie in a place are put on -/
def hf_puton (P : hP) (p t n : Nat) : hP := fun r j => if r = 10 ∧ j < n ∧ P 10 j = t then 25 + p else P r j
def hf_person (P : hP) (p : Nat) : hP :=
  if hf_near P (P 5 p) (P 3 0) = 99 then P else
  if hf_runs (P 6 p) (P 5 p) (P 10 (hf_near P (P 5 p) (P 3 0))) = P 10 (hf_near P (P 5 p) (P 3 0)) then
    hf_puton (hf_up P 5 p (P 10 (hf_near P (P 5 p) (P 3 0)))) p (P 10 (hf_near P (P 5 p) (P 3 0))) (P 3 0)
  else hf_up P 5 p (hf_runs (P 6 p) (P 5 p) (P 10 (hf_near P (P 5 p) (P 3 0))))
def hf_people (P : hP) : Nat → hP
  | 0 => P
  | n + 1 => hf_person (hf_people P n) n
def hf_hour (P : hP) (dir force : Nat) : hP := hf_up (hf_people (hf_blow P dir force (P 3 0)) (P 2 0)) 4 0 (P 4 0 + 1)
def hf_pass (P : hP) : hP := hf_hour P (P 0 (P 4 0 % 24)) (P 1 (P 4 0 % 24))
def hf_hours : Nat → hP → hP
  | 0, P => P
  | n + 1, P => if P 4 0 < 96 then hf_hours n (hf_pass P) else P
/-- what every plain keeps to -/
def hf_ok (P : hP) : Prop := P 2 0 ≤ 5 ∧ P 3 0 ≤ 6 ∧ P 4 0 ≤ 200 ∧ (∀ j, j < 24 → P 0 j < 4 ∧ P 1 j < 10) ∧ (∀ p, p < P 2 0 → P 5 p < 25 ∧ P 6 p < 4) ∧
  (∀ h, h < P 3 0 → P 7 h < 6 ∧ P 8 h < 10 ∧ P 9 h < 100 ∧ (P 10 h < 25 ∨ (25 ≤ P 10 h ∧ P 10 h < 25 + P 2 0) ∨ P 10 h = 30))
/-! how the class and the reference hold it -/
def hf_cw (x : Nat) : Int32 := if 25 ≤ x ∧ x < 30 then nI (x - 25) else -9
def hf_cs (x : Nat) : Int32 := if x < 25 then nI x else -9
def hf_mw (x : Nat) : Int32 := if 25 ≤ x ∧ x < 30 then nI (x - 25) else -1
/-- plain i of the class -/
def hf_C (i : Nat) (P : hP) (R : Nat → Nat → Int32) : Prop :=
  R (39 + 16 * i) 4 = nI (P 2 0) ∧ R (39 + 16 * i) 5 = nI (P 3 0) ∧ R (39 + 16 * i) 6 = nI (P 4 0) ∧
  (∀ j, j < 24 → R (40 + 16 * i) j = nI (P 0 j) ∧ R (41 + 16 * i) j = nI (P 1 j)) ∧
  (∀ p, p < P 2 0 → R (44 + 16 * i + p) 0 = nI (P 5 p) ∧ R (44 + 16 * i + p) 1 = nI (P 6 p)) ∧
  (∀ h, h < P 3 0 → R (49 + 16 * i + h) 0 = nI (P 7 h) ∧ R (49 + 16 * i + h) 1 = nI (P 8 h) ∧ R (49 + 16 * i + h) 2 = nI (P 9 h) ∧ R (49 + 16 * i + h) 3 = hf_cw (P 10 h) ∧ R (49 + 16 * i + h) 4 = hf_cs (P 10 h))
/-- the reference's: what an hour doesn't change -/
def hf_MS (P : hP) (R : Nat → Nat → Int32) : Prop :=
  R 98 2 = nI (P 2 0) ∧ R 98 4 = nI (P 3 0) ∧ (∀ j, j < 24 → R 99 j = nI (P 0 j) ∧ R 100 j = nI (P 1 j)) ∧ (∀ p, p < P 2 0 → R 101 p = nI (P 6 p)) ∧
  (∀ h, h < P 3 0 → R 102 h = nI (P 7 h) ∧ R 103 h = nI (P 8 h) ∧ R 104 h = nI (P 9 h))
/-- the reference's row that begins at o: what an hour changes -/
def hf_MD (o : Nat) (P : hP) (R : Nat → Nat → Int32) : Prop :=
  R 105 o = nI (P 4 0) ∧ (∀ p, p < P 2 0 → R 105 (o + (1 + p)) = nI (P 5 p)) ∧
  (∀ h, h < P 3 0 → R 105 (o + (6 + h)) = hf_mw (P 10 h) ∧ (P 10 h < 25 → R 105 (o + (12 + h)) = nI (P 10 h)) ∧ (P 10 h = 30 → R 105 (o + (12 + h)) = -1))
theorem hk_for {P : Nat → Prop} {n : Nat} (hx : P n) (hs : ∀ j, j < n → P (j + 1) → P j) : ∀ j, j ≤ n → P j := by
  intro j hj
  have key : ∀ k j, j ≤ n → n - j = k → P j := by
    intro k
    induction k with
    | zero => intro j h1 h2; have : j = n := by omega
              subst this; exact hx
    | succ k ih => intro j h1 h2; exact hs j (by omega) (ih (j + 1) (by omega) (by omega))
  exact key (n - j) j hj rfl
theorem hf_up_s (P : hP) (r j v : Nat) : hf_up P r j v r j = v := if_pos ⟨rfl, rfl⟩
theorem hf_up_r {P : hP} {r j v r' j' : Nat} (h : r' ≠ r) : hf_up P r j v r' j' = P r' j' := if_neg (fun q => h q.1)
theorem hf_up_j {P : hP} {r j v r' j' : Nat} (h : j' ≠ j) : hf_up P r j v r' j' = P r' j' := if_neg (fun q => h q.2)
theorem hf_fly_ok : ∀ d, d < 4 → ∀ n, n < 9 → ∀ q, q < 25 → hf_fly d n q < 25 ∨ hf_fly d n q = 30 := by decide +kernel
theorem hf_flies_lt : ∀ k, k < 6 → ∀ f, f < 10 → hf_flies k f < 9 := by decide +kernel
theorem hf_holds_lt : ∀ k, k < 6 → ∀ a, a < 10 → hf_holds k a < 20 := by decide +kernel
theorem hf_st1_lt : ∀ f, f < 25 → ∀ t, t < 25 → hf_st1 f t < 25 := by decide +kernel
theorem hf_dist_lt : ∀ f, f < 25 → ∀ t, t < 25 → hf_dist f t < 10 := by decide +kernel
theorem hf_runs_lt {f t : Nat} (hf : f < 25) (ht : t < 25) : ∀ k, hf_runs k f t < 25
  | 0 => hf
  | k + 1 => hf_st1_lt _ (hf_runs_lt hf ht k) t ht
theorem hf_drops_0 (P : hP) (f : Nat) : hf_drops P f 0 = P := by
  funext r j; exact if_neg (fun q => absurd q.2 (Nat.not_lt_zero j))
theorem hf_drops_s (P : hP) (f n : Nat) : hf_drops P f (n + 1) = hf_up (hf_drops P f n) 10 n (hf_drop P f n) := by
  funext r j
  unfold hf_up hf_drops
  by_cases hr : r = 10
  · subst hr
    by_cases hj : j = n
    · subst hj; simp
    · by_cases h2 : j < n
      · simp [hj, h2, Nat.lt_succ_of_lt h2]
      · have : ¬ j < n + 1 := by omega
        simp [hj, h2, this]
  · simp [hr]
def hf_mix (P : hP) (dir f m n : Nat) : hP := fun r j => if r = 10 ∧ j < n then hf_air P dir f j (hf_drop P f j) else hf_drops P f m r j
theorem hf_mix_0 (P : hP) (dir f m : Nat) : hf_mix P dir f m 0 = hf_drops P f m := by
  funext r j; exact if_neg (fun q => absurd q.2 (Nat.not_lt_zero j))
theorem hf_mix_s (P : hP) (dir f m n : Nat) : hf_mix P dir f m (n + 1) = hf_up (hf_mix P dir f m n) 10 n (hf_air P dir f n (hf_drop P f n)) := by
  funext r j
  unfold hf_up hf_mix
  by_cases hr : r = 10
  · subst hr
    by_cases hj : j = n
    · subst hj; simp
    · by_cases h2 : j < n
      · simp [hj, h2, Nat.lt_succ_of_lt h2]
      · have : ¬ j < n + 1 := by omega
        simp [hj, h2, this]
  · simp [hr]
theorem hf_mix_e (P : hP) (dir f m : Nat) : hf_mix P dir f m m = hf_blow P dir f m := by
  funext r j
  unfold hf_mix hf_blow hf_drops
  by_cases h : r = 10 ∧ j < m
  · rw [if_pos h, if_pos h]
  · rw [if_neg h, if_neg h, if_neg h]
theorem hf_blow_0 (P : hP) (dir f : Nat) : hf_blow P dir f 0 = P := by
  funext r j; exact if_neg (fun q => absurd q.2 (Nat.not_lt_zero j))
theorem hf_blow_s (P : hP) (dir f n : Nat) : hf_blow P dir f (n + 1) = hf_up (hf_blow P dir f n) 10 n (hf_air P dir f n (hf_drop P f n)) := by
  funext r j
  unfold hf_up hf_blow
  by_cases hr : r = 10
  · subst hr
    by_cases hj : j = n
    · subst hj; simp
    · by_cases h2 : j < n
      · simp [hj, h2, Nat.lt_succ_of_lt h2]
      · have : ¬ j < n + 1 := by omega
        simp [hj, h2, this]
  · simp [hr]
theorem hf_puton_0 (P : hP) (p t : Nat) : hf_puton P p t 0 = P := by
  funext r j; exact if_neg (fun q => absurd q.2.1 (Nat.not_lt_zero j))
theorem hf_puton_s (P : hP) (p t n : Nat) : hf_puton P p t (n + 1) = if P 10 n = t then hf_up (hf_puton P p t n) 10 n (25 + p) else hf_puton P p t n := by
  by_cases ht : P 10 n = t
  · rw [if_pos ht]
    funext r j
    unfold hf_up hf_puton
    by_cases hr : r = 10
    · subst hr
      by_cases hj : j = n
      · subst hj; simp [ht]
      · by_cases h2 : j < n
        · simp [hj, h2, Nat.lt_succ_of_lt h2]
        · have : ¬ j < n + 1 := by omega
          simp [hj, h2, this]
    · simp [hr]
  · rw [if_neg ht]
    funext r j
    unfold hf_puton
    by_cases hj : j = n
    · subst hj; simp [ht]
    · by_cases h2 : j < n
      · simp [h2, Nat.lt_succ_of_lt h2]
      · have : ¬ j < n + 1 := by omega
        simp [h2, this]
/-! rows for the walks: the form in which the machine's step stands when unification stops there -/
theorem w_ld {R : Nat → Nat → Int32} {X : hk_D} {Xc : hk_X} {ip q m : Nat} {ls : hk_Ls} {a j n : Nat} {i x : Int32} {r : List Value} {h : hk_Hp} (hi : i = nI j) (hn : ((hw R X).2 a).2.1 = n) (hj : j < n) (hb : n < 2 ^ 31) (hk : hk_kI X a j = true) (hx : R a j = x) (g : Xc ip ls (.int x :: r) h q m) : vp_in i ((hw R X).2 a).2.1 ∧ hk_v (((hw R X).2 a).2.2 i.toNatClampNeg) (fun v => Xc ip ls (v :: r) h q m) := by
  subst hi
  refine And.intro ?_ ?_
  · rw [hn]; exact vp_in_nI hj hb
  · rw [nI_clamp (by omega), hw_int hk, hx]; exact g
theorem w_st {R : Nat → Nat → Int32} {X : hk_D} {Xc : hk_X} {ip q m : Nat} {ls : hk_Ls} {a j n t : Nat} {i v : Int32} {r : List Value} (hi : i = nI j) (hn : ((hw R X).2 a).2.1 = n) (hj : j < n) (hb : n < 2 ^ 31) (hk : hk_kI X a j = true) (ht : ((hw R X).2 a).1 = 10) (g : Xc ip ls r (hw (up2 R a j v) X) q m) : vp_in i ((hw R X).2 a).2.1 ∧ hk_astv 10 (.int v) (fun v' => Xc ip ls r (hk_up (hw R X) a (10, ((hw R X).2 a).2.1, va_up ((hw R X).2 a).2.2 i.toNatClampNeg v')) q m) := by
  subst hi
  refine And.intro ?_ ?_
  · rw [hn]; exact vp_in_nI hj hb
  · show Xc ip ls r (hk_up (hw R X) a (10, ((hw R X).2 a).2.1, va_up ((hw R X).2 a).2.2 (nI j).toNatClampNeg (.int v))) q m
    rw [nI_clamp (by omega), hw_up hk ht]; exact g
theorem w_put {R : Nat → Nat → Int32} {X : hk_D} {Xc : hk_X} {ip q m : Nat} {ls : hk_Ls} {a k t : Nat} {v : Int32} {r : List Value} {p : Prop} (hp : p) (ht : ((hw R X).2 a).1 = t) (hk : hk_kI X a k = true) (g : Xc ip ls r (hw (up2 R a k v) X) q m) : p ∧ Xc ip ls r (hk_up (hw R X) a (t, ((hw R X).2 a).2.1, va_up ((hw R X).2 a).2.2 k (.int v))) q m := by
  refine And.intro hp ?_
  rw [hw_up hk ht]; exact g
/-- a field of an int, of a cell at any place -/
theorem w_get {R : Nat → Nat → Int32} {X : hk_D} {Xc : hk_X} {ip q m : Nat} {ls : hk_Ls} {a k t : Nat} {x : Int32} {r : List Value} {h : hk_Hp} (ht : ((hw R X).2 a).1 = t) (hk : hk_kI X a k = true) (hx : R a k = x) (g : Xc ip ls (.int x :: r) h q m) : (bif Nat.beq ((hw R X).2 a).1 t then hk_v (((hw R X).2 a).2.2 k) (fun v => Xc ip ls (v :: r) h q m) else False) := by
  rw [ht, show Nat.beq t t = true from Nat.beq_refl t]
  show hk_v (((hw R X).2 a).2.2 k) (fun v => Xc ip ls (v :: r) h q m)
  rw [hw_int hk, hx]
  exact g
/-- a field of a reference, of a cell at any place -/
theorem w_gref {h0 : hk_Hp} {Xc : hk_X} {ip q m : Nat} {ls : hk_Ls} {a k t b : Nat} {r : List Value} {h : hk_Hp} (ht : (h0.2 a).1 = t) (hv : (h0.2 a).2.2 k = .ref b) (g : Xc ip ls (.ref b :: r) h q m) : (bif Nat.beq (h0.2 a).1 t then hk_v ((h0.2 a).2.2 k) (fun v => Xc ip ls (v :: r) h q m) else False) := by
  rw [ht, show Nat.beq t t = true from Nat.beq_refl t]
  show hk_v ((h0.2 a).2.2 k) (fun v => Xc ip ls (v :: r) h q m)
  rw [hv]
  exact g
theorem w_recv {h : hk_Hp} {a t : Nat} {K : Prop} (ht : (h.2 a).1 = t) (g : K) : (bif Nat.beq (h.2 a).1 t then K else False) := by
  rw [ht, show Nat.beq t t = true from Nat.beq_refl t]
  exact g
theorem w_lda {h0 : hk_Hp} {Xc : hk_X} {ip q m : Nat} {ls : hk_Ls} {a j n b : Nat} {i : Int32} {r : List Value} {h : hk_Hp} (hi : i = nI j) (hn : (h0.2 a).2.1 = n) (hj : j < n) (hb : n < 2 ^ 31) (ht : 13 ≤ (h0.2 a).1 ∧ (h0.2 a).1 ≤ 16) (ha : 38 ≤ a) (hv : (h0.2 a).2.2 j = .ref b) (g : Xc ip ls (.ref b :: r) h q m) : (bif Nat.ble 13 (h0.2 a).1 && Nat.ble (h0.2 a).1 16 && Nat.ble 38 a then vp_in i (h0.2 a).2.1 ∧ hk_v ((h0.2 a).2.2 i.toNatClampNeg) (fun v => Xc ip ls (v :: r) h q m) else False) := by
  subst hi
  rw [show Nat.ble 13 (h0.2 a).1 = true from Nat.ble_eq_true_of_le ht.1, show Nat.ble (h0.2 a).1 16 = true from Nat.ble_eq_true_of_le ht.2, show Nat.ble 38 a = true from Nat.ble_eq_true_of_le ha]
  refine And.intro ?_ ?_
  · rw [hn]; exact vp_in_nI hj hb
  · rw [nI_clamp (by omega), hv]; exact g
