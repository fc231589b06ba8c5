/-! SOUNDNESS, 2: each step of the small machine is a step of the model's -/
section Snd2
variable {ex : Nat → Nat} {B : Nat} {vX : Value} {H0 : Heap} {dC : Nat → ClassId} {dI : Nat → Nat → Nat} {s U : State} {H H1 : Heap} {h : hk_Hp} {k a : Nat} {c : hk_Ce}
theorem hk_up_self : (hk_up h a c).2 a = c := by
  show (bif Nat.beq a a then c else h.2 a) = c
  rw [show Nat.beq a a = true from Nat.beq_refl a]; rfl
theorem hk_up_ne {b : Nat} (hb : b ≠ a) : (hk_up h a c).2 b = h.2 b := by
  show (bif Nat.beq b a then c else h.2 b) = h.2 b
  cases hq : Nat.beq b a
  · rfl
  · exact absurd (Nat.eq_of_beq_eq_true hq) hb
theorem hk_Rel_up (hex : ∀ k, k < 38 → ex k < B) (g : hk_Rel ex B vX H0 dC dI s H h) (ha : 38 ≤ a) (z : H1.size = H.size) (oq : ∀ q : Nat, q ≠ hk_ad ex B a → H1[q]? = H[q]?) (hc : hk_ok ex B vX dC dI s H1 a c) : hk_Rel ex B vX H0 dC dI s H1 (hk_up h a c) := by
  refine ⟨by rw [z]; exact g.1, g.2.1, fun q hq => ?_, fun b => ?_⟩
  · have := hk_ad_B (ex := ex) (B := B) ha
    rw [oq q (by omega)]
    exact g.2.2.1 q hq
  · by_cases hb : b = a
    · subst hb; rw [hk_up_self]; exact hc
    · rw [hk_up_ne hb]
      exact hk_ok_kept (g.2.2.2 b) (oq _ (hk_ad_ne hex ha hb))
theorem hk_Rel_nw (hex : ∀ k, k < 38 → ex k < B) (g : hk_Rel ex B vX H0 dC dI s H h) (z : H1.size = H.size + 1) (oq : ∀ q : Nat, q < H.size → H1[q]? = H[q]?) (hc : hk_ok ex B vX dC dI s H1 h.1 c) : hk_Rel ex B vX H0 dC dI s H1 (hk_nw h c) := by
  have hs := g.1
  have h38 := g.2.1
  refine ⟨by show H1.size = B + (h.1 + 1 - 38); omega, by show 38 ≤ h.1 + 1; omega, fun q hq => ?_, fun b => ?_⟩
  · rw [oq q (by omega)]
    exact g.2.2.1 q hq
  · by_cases hb : b = h.1
    · subst hb
      have e : (hk_nw h c).2 h.1 = c := by
        show (bif Nat.beq h.1 h.1 then c else h.2 h.1) = c
        rw [show Nat.beq h.1 h.1 = true from Nat.beq_refl _]; rfl
      rw [e]; exact hc
    · have e : (hk_nw h c).2 b = h.2 b := by
        show (bif Nat.beq b h.1 then c else h.2 b) = h.2 b
        cases hq : Nat.beq b h.1
        · rfl
        · exact absurd (Nat.eq_of_beq_eq_true hq) hb
      rw [e]
      refine hk_ok_kept (g.2.2.2 b) ?_
      by_cases hlt : hk_ad ex B b < H.size
      · exact oq _ hlt
      · have hne : hk_ad ex B b ≠ H.size := by
          by_cases h1 : b < 38
          · rw [hk_ad_lt h1]; have := hex b h1; omega
          · rw [hk_ad_ge (by omega)]; omega
        rw [Array.getElem?_eq_none (by omega), Array.getElem?_eq_none (by omega)]
theorem hk_Rel_ev {h' : hk_Hp} (g : hk_Rel ex B vX H0 dC dI s H h) (he : hk_ev h h') : hk_Rel ex B vX H0 dC dI s H h' :=
  ⟨by rw [← he.1]; exact g.1, by rw [← he.1]; exact g.2.1, g.2.2.1, fun k => hk_ok_ev (he.2 k).1 (he.2 k).2.1 (he.2 k).2.2 (g.2.2.2 k)⟩
theorem hk_lk_in {K : Value → Prop} : ∀ {l : hk_Ls} {i : Nat}, hk_lk l i K → ∃ v, (i, v) ∈ l ∧ K v
  | [], _, g => absurd g id
  | q :: l, i, g => by
    unfold hk_lk at g
    cases hb : Nat.beq q.1 i
    · rw [hb] at g
      obtain ⟨v, h1, h2⟩ := hk_lk_in (l := l) g
      exact ⟨v, List.mem_cons_of_mem _ h1, h2⟩
    · rw [hb] at g
      have e := Nat.eq_of_beq_eq_true hb
      subst e
      exact ⟨q.2, List.mem_cons_self, g⟩
theorem hk_v_sp {v : Value} {K : Value → Prop} (g : hk_v v K) : K v := by
  cases v <;> first | exact g | exact absurd g id
theorem hk_fil1 (hX : vX = .null ∨ ∃ a, vX = .ref a) (i : Nat) (l : hk_Ls) : (l.map (fun q => (q.1, hk_cv ex B vX q.2))).filter (fun q => !(q.1 == i) && !(q.1 + 1 == i && q.2.category == 2)) = (l.filter (hk_p1 i)).map (fun q => (q.1, hk_cv ex B vX q.2)) := by
  rw [List.filter_map]
  congr 1
  apply List.filter_congr
  intro q _
  simp only [Function.comp, hk_p1, hk_cv_cat hX]
theorem hk_fil2 (hX : vX = .null ∨ ∃ a, vX = .ref a) (i : Nat) (l : hk_Ls) : (l.map (fun q => (q.1, hk_cv ex B vX q.2))).filter (fun q => !(q.1 == i) && (!(q.1 == i + 1) && !(q.1 + 1 == i && q.2.category == 2))) = (l.filter (hk_p2 i)).map (fun q => (q.1, hk_cv ex B vX q.2)) := by
  rw [List.filter_map]
  congr 1
  apply List.filter_congr
  intro q _
  simp only [Function.comp, hk_p2, hk_cv_cat hX]
theorem hk_cs_eq (hX : vX = .null ∨ ∃ a, vX = .ref a) : ∀ (l : List Value), ((l.map (hk_cv ex B vX)).map fun v => v.category).sum = hk_cs l
  | [] => rfl
  | v :: l => by
    show (hk_cv ex B vX v).category + ((l.map (hk_cv ex B vX)).map fun v => v.category).sum = v.category + hk_cs l
    rw [hk_cs_eq hX l, hk_cv_cat hX]
theorem hk_pop_sp {K : List Value → List Value → Prop} : ∀ {n : Nat} {st as : List Value}, hk_pop n st as K → ∃ l r, st = l.reverse ++ r ∧ l.length = n ∧ K (l ++ as) r
  | 0, st, as, g => ⟨[], st, rfl, rfl, g⟩
  | n + 1, [], _, g => absurd g id
  | n + 1, v :: st, as, g => by
    obtain ⟨l, r, h1, h2, h3⟩ := hk_pop_sp (n := n) (st := st) (as := v :: as) g
    exact ⟨l ++ [v], r, by rw [h1]; simp, by simp [h2], by simpa using h3⟩
theorem hk_sws_get {x : Int32} {K : Nat → Prop} : ∀ {tl : List Nat} {v : Int}, hk_sws x K v tl → ∀ (j t : Nat), tl[j]? = some t → x.toInt = v + j → K t
  | [], _, _, j, t, h, _ => by simp at h
  | t0 :: tl, v, g, 0, t, h, e => by
    simp at h; subst h
    exact g.1 (by rw [e]; simp)
  | t0 :: tl, v, g, j + 1, t, h, e => by
    simp at h
    exact hk_sws_get g.2 j t h (by rw [e]; push_cast; omega)
/-- the arrays, read -/
theorem hk_arr (g : hk_ok ex B vX dC dI s H k c) (h1 : 10 ≤ c.1) (h2 : c.1 ≤ 16) (h3 : k < 38 → c.1 ≤ 12) : ∃ cell : Cell, H[hk_ad ex B k]? = some cell ∧ s.isArrayOf cell (hk_aty c.1) ∧ cell.vm ≠ .unknown ∧ c.2.1 ≤ cell.slots.size ∧ cell.slots.size.toInt32 = Int32.ofNat c.2.1 ∧ ∀ j, j < c.2.1 → cell.slots[j]? = some (hk_cv ex B vX (c.2.2 j)) := by
  by_cases hk : k < 38
  · exact g.2.2.1 h1 (h3 hk) hk
  · obtain ⟨cA, q1, q2, -⟩ := g.2.2.2 h1 h2 (by omega)
    exact ⟨_, q1, q2 _ _, fun q => by (cases q), by rw [arrV_size]; exact Nat.le_refl _, by rw [arrV_size], fun j hj => by rw [arrV_read _ _ hj]⟩
theorem hk_inb {i : Int32} {n N : Nat} (h : vp_in i n) (hn : n ≤ N) : ¬ (i < 0 ∨ N ≤ i.toNatClampNeg) := fun q => q.elim (fun z => h (Or.inl z)) (fun z => h (Or.inr (Nat.le_trans hn z)))
theorem hk_ilt {i : Int32} {n : Nat} (h : vp_in i n) : i.toNatClampNeg < n := Nat.not_le.mp fun q => h (Or.inr q)
theorem hk_cv_up (f : Nat → Value) (i : Nat) (v : Value) : (fun j => hk_cv ex B vX (va_up f i v j)) = updV (fun j => hk_cv ex B vX (f j)) i (hk_cv ex B vX v) := by
  funext j
  unfold va_up updV
  split <;> rfl
/-- an array of the small heap, written at one place -/
theorem hk_ok_ast {t n i : Nat} {f : Nat → Value} {v : Value} {cA : ClassId} (h1 : 10 ≤ t) (h2 : 38 ≤ k) (e : H1[hk_ad ex B k]? = some ((arrV cA n (fun j => hk_cv ex B vX (f j))).setSlot i (hk_cv ex B vX v))) (hA : ArrOfT s cA (hk_aty t)) (hB : 13 ≤ t → va_RA s cA (hk_aty t)) : hk_ok ex B vX dC dI s H1 k (t, n, va_up f i v) := by
  refine ⟨fun q => ?_, fun q => ?_, fun _ _ q => ?_, fun _ _ _ => ⟨cA, ?_, hA, hB⟩⟩
  · dsimp only at q; omega
  · dsimp only at q; omega
  · omega
  · rw [e, arrV_store]
    dsimp only
    rw [hk_cv_up]
theorem hk_ok_anw {t n : Nat} {f : Nat → Value} {cA : ClassId} (h1 : 10 ≤ t) (h2 : 38 ≤ k) (e : H1[hk_ad ex B k]? = some (arrV cA n (fun j => hk_cv ex B vX (f j)))) (hA : ArrOfT s cA (hk_aty t)) (hB : 13 ≤ t → va_RA s cA (hk_aty t)) : hk_ok ex B vX dC dI s H1 k (t, n, f) := by
  refine ⟨fun q => ?_, fun q => ?_, fun _ _ q => ?_, fun _ _ _ => ⟨cA, e, hA, hB⟩⟩
  · dsimp only at q; omega
  · dsimp only at q; omega
  · omega
theorem hk_ok_obj {t n : Nat} {f : Nat → Value} (h1 : t < 9) (hn : hk_nf t ≤ n) (e : t_OB (hk_ad ex B k) (dC t) (hk_nf t) (dI t) H1 (fun j => hk_cv ex B vX (f j))) : hk_ok ex B vX dC dI s H1 k (t, n, f) := by
  refine ⟨fun q => ⟨hn, e⟩, fun q => ?_, fun q => ?_, fun q => ?_⟩
  · dsimp only at q; omega
  · dsimp only at q; omega
  · dsimp only at q; omega
end Snd2
set_option maxRecDepth 100000 in
theorem hk_lay0 : ∀ t, t < 9 → ∀ w ∈ u_ws (hk_cn t) (hk_T t) (hk_nf t), w ∈ lw_tbl ∧ hk_good w = true := by decide +kernel
theorem hk_Tc : ∀ t, t < 9 → ∀ k, k < hk_nf t → (hk_T t k).1 = hk_cn t := by decide +kernel
theorem hk_Tty : ∀ t, t < 9 → ∀ k, k < hk_nf t → parseFieldDescriptor (hk_T t k).2.2.1 = some (hk_ty t k) := by decide +kernel
theorem hk_Tnm : ∀ t, t < 9 → ∀ a, a < hk_nf t → ∀ b, b < hk_nf t → a ≠ b → (hk_T t a).2.1 ≠ (hk_T t b).2.1 := by decide +kernel
theorem hk_arrc : (Cond.arrayClass .int ∈ lw_tbl ∧ Cond.arrayClass .long ∈ lw_tbl ∧ Cond.arrayClass .byte ∈ lw_tbl) := by decide +kernel
theorem hk_obji : Cond.instanceMethod objectInit ∈ lw_tbl ∧ Cond.code objectInit ⟨#[0xb1]⟩ 1 none ∈ lw_tbl := by decide +kernel
theorem hk_cpyi : Cond.native arraycopyName ∈ lw_tbl ∧ Cond.static arraycopyName ∈ lw_tbl ∧ Cond.initialized "java/lang/System" ∈ lw_tbl := by decide +kernel
