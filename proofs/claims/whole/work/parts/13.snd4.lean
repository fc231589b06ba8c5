/-! SOUNDNESS, 4: fields, arrays, new cells, calls -/
section Snd4
variable {p : Program} {l : Launch} {e : Env} {R : Room} {s : State} {m : MethodId} {args : Array Value} {below : List Frame} {meth : Method} {c : Code} {Qf : State → Prop} {ex : Nat → Nat} {B : Nat} {vX : Value} {H0 : Heap} {dC : Nat → ClassId} {dI : Nat → Nat → Nat} {d : Nat} {cd : hk_Cd} {call : hk_C} {own : Nat} {ini : Bool} {mx C S : Nat} {bs : ByteArray}
variable {H : Heap} {locs : List Loc} {la : Array Slot} {ls : hk_Ls} {st : List Value} {h : hk_Hp} {k n pc nx : Nat}
/-- a field's link -/
theorem hk_flink (X : hk_Cx p l R s m meth c ex B vX H0 dC dI d cd call own ini mx C S bs) {x a b : Nat} (hf : hk_fL.any (fun q => Nat.beq q.1 own && Nat.beq q.2.1 x && Nat.beq q.2.2.1 a && Nat.beq q.2.2.2.1 b) = true) :
    (Cond.fieldLink (hk_cn own) x (hk_cn a) (hk_T a b).2.1 (hk_T a b).2.2.1).before args s = true ∧ b < hk_nf a ∧ a ≤ 9 := by
  obtain ⟨q, -, h2, h3⟩ := hk_any hf hk_fL_ok
  simp only [Bool.and_eq_true] at h2
  obtain ⟨⟨⟨h4, h5⟩, h6⟩, h7⟩ := h2
  have e1 := Nat.eq_of_beq_eq_true h4
  have e2 := Nat.eq_of_beq_eq_true h5
  have e3 := Nat.eq_of_beq_eq_true h6
  have e4 := Nat.eq_of_beq_eq_true h7
  unfold hk_fOK at h3
  rw [Bool.and_eq_true, Bool.and_eq_true, e1, e2, e3, e4] at h3
  exact ⟨hk_word X (hk_w_in h3.1.1), Nat.lt_of_succ_le (Nat.le_of_ble_eq_true h3.1.2), Nat.le_of_ble_eq_true h3.2⟩
theorem hk_s_get (X : hk_Cx p l R s m meth c ex B vX H0 dC dI d cd call own ini mx C S bs) {x a b : Nat} (hf : hk_fL.any (fun q => Nat.beq q.1 own && Nat.beq q.2.1 x && Nat.beq q.2.2.1 a && Nat.beq q.2.2.2.1 b) = true) (hd : decode bs pc = .ok (.getfield x, 3)) (hR : hk_Rel ex B vX H0 dC dI s H h) {q : Nat} (ht : (h.2 q).1 = a) {rest : List Value}
    (kk : W p l e R s m args below meth c H locs k n Qf (F0 m (pc + 3) la (hk_cv ex B vX ((h.2 q).2.2 b) :: rest))) : W p l e R s m args below meth c H locs k n Qf (F0 m pc la (.ref (hk_ad ex B q) :: rest)) := by
  obtain ⟨hlink, hb, ha⟩ := hk_flink (args := args) X hf
  obtain ⟨hx, hbs, hml, hown, henv, -⟩ := X
  have ok := hR.2.2.2 q
  by_cases h9 : a < 9
  · obtain ⟨-, cell, q1, q2, q3, q4⟩ := ok.1 (by rw [ht]; exact h9)
    rw [ht] at q2 q4
    obtain ⟨hS, hfc, kC, hkC, hkind⟩ := henv.2.1 a h9
    obtain ⟨cf, kf, fi, f, hi, hsl⟩ := hS b hb
    have hst := (u_facts (args := args) hfc hkC (u_lays (ws := lw_tbl.filter hk_good) (fun w hw => henv.1 w (List.mem_filter.mp hw).1 (List.mem_filter.mp hw).2 args) (fun w hw => List.mem_filter.mpr (hk_lay0 a h9 w hw)) hb) hi).1
    rw [hk_Tc a h9 b hb] at hi
    exact W.getf hx hbs hown hlink hi hst q1 (by rw [q3]; exact fun z => by cases z) (v := hk_cv ex B vX ((h.2 q).2.2 b)) (by rw [hsl]; exact q4 b hb) rfl rfl hd kk
  · have e9 : a = 9 := by omega
    subst e9
    obtain ⟨-, -, g⟩ := ok.2.1 ht
    obtain ⟨cf, kc, i, f, cell, h1, h2, h3, h4, h5, -⟩ := g b hb
    exact W.getf hx hbs hown hlink h1 h2 h3 h4 h5 rfl rfl hd kk
theorem hk_s_put (X : hk_Cx p l R s m meth c ex B vX H0 dC dI d cd call own ini mx C S bs) {x a b tc : Nat} (hf : hk_fL.any (fun q => Nat.beq q.1 own && Nat.beq q.2.1 x && Nat.beq q.2.2.1 a && Nat.beq q.2.2.2.1 b) = true) (h9 : a < 9) (hfin : (!(hk_T a b).2.2.2 || (ini && Nat.beq own a)) = true) (htc : hk_tcq (hk_ty a b) tc = true) (hd : decode bs pc = .ok (.putfield x, 3)) (hR : hk_Rel ex B vX H0 dC dI s H h) {q : Nat} (h38 : 38 ≤ q) (ht : (h.2 q).1 = a) {v : Value} {rest : List Value} (hv : hk_pfv tc v True) (hq : ∀ q ∈ locs, B ≤ q.base)
    (kk : ∀ (H1 : Heap) (locs1 : List Loc), hk_Rel ex B vX H0 dC dI s H1 (hk_up h q (a, (h.2 q).2.1, va_up (h.2 q).2.2 b v)) → (∀ q ∈ locs1, B ≤ q.base) → W p l e R s m args below meth c H1 locs1 k n Qf (F0 m (pc + 3) la rest)) : W p l e R s m args below meth c H locs k n Qf (F0 m pc la (hk_cv ex B vX v :: .ref (hk_ad ex B q) :: rest)) := by
  obtain ⟨hlink, hb, -⟩ := hk_flink (args := args) X hf
  obtain ⟨hx, hbs, hml, hown, henv, hini, -⟩ := X
  have hty := hk_Tty a h9 b hb
  have hnf : narrow (hk_ty a b) (hk_cv ex B vX v) = hk_cv ex B vX v ∧ fits (hk_ty a b) (hk_cv ex B vX v) = true := by
    unfold hk_tcq at htc
    split at htc
    · rename_i e1; rw [e1]; cases v <;> first | exact absurd hv id | exact ⟨rfl, rfl⟩
    · rename_i e1; rw [e1]; cases v <;> first | exact absurd hv id | skip
      have h1 := hv.1
      refine ⟨?_, h1⟩
      rename_i z
      have : z = 0 ∨ z = 1 := by
        simp only [fits, Bool.or_eq_true, beq_iff_eq] at h1
        exact h1
      rcases this with rfl | rfl <;> rfl
    · rename_i e1; rw [e1]; cases v <;> first | exact absurd hv id | exact ⟨rfl, rfl⟩
    · rename_i e1; rw [e1]; cases v <;> first | exact absurd hv id | exact ⟨rfl, rfl⟩
    · rename_i e1; rw [e1]; cases v <;> first | exact absurd hv id | exact ⟨rfl, rfl⟩
    · exact absurd htc (by decide)
  obtain ⟨hlen, cell, q1, q2, q3, q4⟩ := (hR.2.2.2 q).1 (by rw [ht]; exact h9)
  rw [ht] at q2 q4 hlen
  have hts : ∀ w ∈ lw_tbl.filter hk_good, w.before args s = true := fun w hw => henv.1 w (List.mem_filter.mp hw).1 (List.mem_filter.mp hw).2 args
  have hin : ∀ w ∈ u_ws (hk_cn a) (hk_T a) (hk_nf a), w ∈ lw_tbl.filter hk_good := fun w hw => List.mem_filter.mpr (hk_lay0 a h9 w hw)
  obtain ⟨hS, hfc, kC, hkC, hkind⟩ := henv.2.1 a h9
  have hap : ∀ x y, x < hk_nf a → y < hk_nf a → x ≠ y → dI a x ≠ dI a y := by
    intro x y hx hy hne
    obtain ⟨_, _, _, fa, hia, ea⟩ := hS x hx
    obtain ⟨_, _, _, fb, hib, eb⟩ := hS y hy
    rw [← ea, ← eb]
    refine u_apart (u_lays hts hin hx) (u_lays hts hin hy) hia hib ?_
    rw [(State.fieldFound?_type hia (hk_Tty a h9 x hx)).1, (State.fieldFound?_type hib (hk_Tty a h9 y hy)).1]
    exact hk_Tnm a h9 x hx y hy hne
  obtain ⟨cf, kf, fi, f, hi, hsl⟩ := hS b hb
  have hst := (u_facts hfc hkC (u_lays hts hin hb) hi).1
  have hlay := hts _ (hin _ (u_in_lay hb))
  unfold u_lay at hlay
  have fin : ∀ H1 : Heap, H1[hk_ad ex B q]? = some (cell.setSlot f.slot (hk_cv ex B vX v)) → H1.size = H.size → (∀ z : Nat, z ≠ hk_ad ex B q → H1[z]? = H[z]?) → hk_Rel ex B vX H0 dC dI s H1 (hk_up h q (a, (h.2 q).2.1, va_up (h.2 q).2.2 b v)) := by
    intro H1 e1 e2 e3
    rw [hsl] at e1
    refine hk_Rel_up henv.2.2.2.2.2.1 hR h38 e2 e3 (hk_ok_obj h9 hlen ?_)
    rw [hk_cv_up]
    exact ⟨_, e1, q2, q3, t_set q4 hap hb _⟩
  have lo : ∀ z ∈ locs ++ [⟨hk_ad ex B q, f.slot⟩], B ≤ z.base := by
    intro z hz
    rcases List.mem_append.mp hz with w | w
    · exact hq z w
    · rw [List.mem_singleton.mp w]; exact hk_ad_B h38
  by_cases hfn : (hk_T a b).2.2.2 = true
  · rw [if_pos hfn] at hlay
    rw [hfn] at hfin
    simp only [Bool.not_true, Bool.false_or, Bool.and_eq_true] at hfin
    have eo : own = a := Nat.eq_of_beq_eq_true hfin.2
    have hcf : m.cls = cf := by
      obtain ⟨_, _, c', _, _, _, -, -, hf', -, -, -, hown2, -⟩ := Cond.laysFinal_spec hlay
      have e1 : c' = cf := by have := hi.symm.trans hf'; simp at this; exact this.1.symm
      rw [hk_Tc a h9 b hb] at hown2
      rw [← e1, ← eo] at *
      exact Option.some.inj (hown.symm.trans hown2)
    have h6 := u_fits hfc hkC hkind (Or.inr hlay) hi hty hnf.1 hnf.2
    rw [hk_Tc a h9 b hb] at hi
    exact W.putFinK hx hbs hown hlink hi hst hcf (hini hfin.1) (by rw [q2]; exact h6) q1 q3 (by rw [hsl]; exact k2_hasslot (q4 b hb)) rfl rfl hd fun H1 e1 e2 e3 => kk H1 _ (fin H1 e1 e2 e3) lo
  · rw [if_neg hfn] at hlay
    have h6 := u_store hfc hkC hkind hlay hi hty hnf.1 hnf.2
    rw [hk_Tc a h9 b hb] at hi
    exact W.putK hx hbs (f := f) ⟨hown, hlink, ⟨_, _, _, hi⟩, hst⟩ (by rw [q2]; exact h6) q1 q3 (by rw [hsl]; exact k2_hasslot (q4 b hb)) rfl rfl hd fun H1 e1 e2 e3 => kk H1 _ (fin H1 e1 e2 e3) lo
/-- a store into an array of numbers -/
theorem hk_s_ast (X : hk_Cx p l R s m meth c ex B vX H0 dC dI d cd call own ini mx C S bs) {t : Nat} {i : Int32} {q : Nat} (hd : (t = 10 ∧ decode bs pc = .ok (.iastore, 1)) ∨ (t = 11 ∧ decode bs pc = .ok (.lastore, 1)) ∨ (t = 12 ∧ decode bs pc = .ok (.bastore, 1))) (hR : hk_Rel ex B vX H0 dC dI s H h) (h38 : 38 ≤ q) (ht : (h.2 q).1 = t) (hi : vp_in i (h.2 q).2.1) {v : Value} {rest : List Value} {K : Value → Prop} (hv : hk_astv t v K) (hq : ∀ q ∈ locs, B ≤ q.base)
    (kk : ∀ (v' : Value) (H1 : Heap) (locs1 : List Loc), K v' → hk_Rel ex B vX H0 dC dI s H1 (hk_up h q (t, (h.2 q).2.1, va_up (h.2 q).2.2 i.toNatClampNeg v')) → (∀ q ∈ locs1, B ≤ q.base) → W p l e R s m args below meth c H1 locs1 k n Qf (F0 m (pc + 1) la rest)) : W p l e R s m args below meth c H locs k n Qf (F0 m pc la (hk_cv ex B vX v :: .int i :: .ref (hk_ad ex B q) :: rest)) := by
  obtain ⟨hx, hbs, hml, hown, henv, -⟩ := X
  have lo : ∀ z ∈ locs ++ [⟨hk_ad ex B q, i.toNatClampNeg⟩], B ≤ z.base := by
    intro z hz
    rcases List.mem_append.mp hz with w | w
    · exact hq z w
    · rw [List.mem_singleton.mp w]; exact hk_ad_B h38
  have ht2 : 10 ≤ t ∧ t ≤ 12 := by
    rcases hd with ⟨e, -⟩ | ⟨e, -⟩ | ⟨e, -⟩ <;> subst e <;> decide
  obtain ⟨cA, q1, q2, -⟩ := (hR.2.2.2 q).2.2.2 (by rw [ht]; exact ht2.1) (by rw [ht]; omega) h38
  rw [ht] at q2
  have hin : ¬ (i < 0 ∨ (arrV cA (h.2 q).2.1 (fun j => hk_cv ex B vX ((h.2 q).2.2 j))).slots.size ≤ i.toNatClampNeg) := by rw [arrV_size]; exact hi
  have fin : ∀ (v' : Value) (H1 : Heap), H1[hk_ad ex B q]? = some ((arrV cA (h.2 q).2.1 (fun j => hk_cv ex B vX ((h.2 q).2.2 j))).setSlot i.toNatClampNeg (hk_cv ex B vX v')) → H1.size = H.size → (∀ z : Nat, z ≠ hk_ad ex B q → H1[z]? = H[z]?) → hk_Rel ex B vX H0 dC dI s H1 (hk_up h q (t, (h.2 q).2.1, va_up (h.2 q).2.2 i.toNatClampNeg v')) := by
    intro v' H1 e1 e2 e3
    exact hk_Rel_up henv.2.2.2.2.2.1 hR h38 e2 e3 (hk_ok_ast ht2.1 h38 e1 q2 (fun z => by omega))
  rcases hd with ⟨e, hd⟩ | ⟨e, hd⟩ | ⟨e, hd⟩
  · subst e
    cases v <;> first | exact absurd hv id | skip
    exact W.iast hx hbs q1 (q2 _ _) (fun z => by cases z) hin rfl rfl hd fun H1 e1 e2 e3 => kk _ H1 _ hv (fin (.int _) H1 e1 e2 e3) lo
  · subst e
    cases v <;> first | exact absurd hv id | skip
    exact W.last hx hbs q1 (q2 _ _) (fun z => by cases z) hin rfl rfl hd fun H1 e1 e2 e3 => kk _ H1 _ hv (fin (.long _) H1 e1 e2 e3) lo
  · subst e
    cases v <;> first | exact absurd hv id | skip
    exact W.bast hx hbs q1 (q2 _ _) (fun z => by cases z) hin rfl rfl hd fun H1 e1 e2 e3 => kk _ H1 _ hv (fin (.int _) H1 e1 e2 e3) lo
end Snd4
section Snd4b
variable {p : Program} {l : Launch} {e : Env} {R : Room} {s : State} {m : MethodId} {args : Array Value} {below : List Frame} {meth : Method} {c : Code} {Qf : State → Prop} {ex : Nat → Nat} {B : Nat} {vX : Value} {H0 : Heap} {dC : Nat → ClassId} {dI : Nat → Nat → Nat} {d : Nat} {cd : hk_Cd} {call : hk_C} {own : Nat} {ini : Bool} {mx C S : Nat} {bs : ByteArray}
variable {H : Heap} {locs : List Loc} {la : Array Slot} {ls : hk_Ls} {st : List Value} {h : hk_Hp} {k n pc nx : Nat}
theorem hk_aty_r {t : Nat} (h1 : 13 ≤ t) (h2 : t ≤ 16) : hk_aty t = .object (hk_an t) := by
  have : t = 13 ∨ t = 14 ∨ t = 15 ∨ t = 16 := by omega
  rcases this with rfl | rfl | rfl | rfl <;> rfl
theorem hk_comp9 {t : Nat} (h1 : 13 ≤ t) (h2 : t ≤ 16) : hk_comp t < 9 := by
  have : t = 13 ∨ t = 14 ∨ t = 15 ∨ t = 16 := by omega
  rcases this with rfl | rfl | rfl | rfl <;> decide
/-- a store of a reference, or of null, into an array of references -/
theorem hk_s_ast2 (X : hk_Cx p l R s m meth c ex B vX H0 dC dI d cd call own ini mx C S bs) {i : Int32} {q : Nat} (hd : decode bs pc = .ok (.aastore, 1)) (hR : hk_Rel ex B vX H0 dC dI s H h) (h38 : 38 ≤ q) (h1 : 13 ≤ (h.2 q).1) (h2 : (h.2 q).1 ≤ 16) (hi : vp_in i (h.2 q).2.1) {v : Value} {rest : List Value} (hv : v = .null ∨ ∃ x, v = .ref x ∧ 38 ≤ x ∧ (h.2 x).1 = hk_comp (h.2 q).1) (hq : ∀ q ∈ locs, B ≤ q.base)
    (kk : ∀ (H1 : Heap) (locs1 : List Loc), hk_Rel ex B vX H0 dC dI s H1 (hk_up h q ((h.2 q).1, (h.2 q).2.1, va_up (h.2 q).2.2 i.toNatClampNeg v)) → (∀ q ∈ locs1, B ≤ q.base) → W p l e R s m args below meth c H1 locs1 k n Qf (F0 m (pc + 1) la rest)) : W p l e R s m args below meth c H locs k n Qf (F0 m pc la (hk_cv ex B vX v :: .int i :: .ref (hk_ad ex B q) :: rest)) := by
  obtain ⟨hx, hbs, hml, hown, henv, -⟩ := X
  have lo : ∀ z ∈ locs ++ [⟨hk_ad ex B q, i.toNatClampNeg⟩], B ≤ z.base := by
    intro z hz
    rcases List.mem_append.mp hz with w | w
    · exact hq z w
    · rw [List.mem_singleton.mp w]; exact hk_ad_B h38
  obtain ⟨cA, q1, q2, q3⟩ := (hR.2.2.2 q).2.2.2 (by omega) h2 h38
  have q3 := q3 h1
  have fin : ∀ (H1 : Heap), H1[hk_ad ex B q]? = some ((arrV cA (h.2 q).2.1 (fun j => hk_cv ex B vX ((h.2 q).2.2 j))).setSlot i.toNatClampNeg (hk_cv ex B vX v)) → H1.size = H.size → (∀ z : Nat, z ≠ hk_ad ex B q → H1[z]? = H[z]?) → hk_Rel ex B vX H0 dC dI s H1 (hk_up h q ((h.2 q).1, (h.2 q).2.1, va_up (h.2 q).2.2 i.toNatClampNeg v)) := by
    intro H1 e1 e2 e3
    exact hk_Rel_up henv.2.2.2.2.2.1 hR h38 e2 e3 (hk_ok_ast (by omega) h38 e1 q2 (fun _ => q3))
  rw [hk_aty_r h1 h2] at q2 q3
  rcases hv with rfl | ⟨x, rfl, hx38, hxt⟩
  · exact va_WaastN hx hbs q1 (q2 _ _) (fun z => by cases z) (by rw [arrV_size]; exact hi) rfl rfl hd fun H1 e1 e2 e3 => kk H1 _ (fin H1 e1 e2 e3) lo
  · obtain ⟨-, cellV, g1, g2, g3, -⟩ := (hR.2.2.2 x).1 (by rw [hxt]; exact hk_comp9 h1 h2)
    rw [hxt] at g2
    have hcls := (henv.2.1 _ (hk_comp9 h1 h2)).2
    obtain ⟨kA, comp, k1, k2, k3, -⟩ := q3
    have hcc : dC (hk_comp (h.2 q).1) = comp := Option.some.inj (hcls.1.symm.trans k3)
    obtain ⟨hf, kv, hkv, hkind⟩ := id hcls
    exact W.aast hx hbs q1 (fun z w => by cases w) (fun z => by cases z) k1 k2 rfl (kcomp := kv) (by rw [← hcc]; exact hkv) ⟨fun w => hi (Or.inl w), by rw [arrV_size]; exact hk_ilt hi⟩ g1 (fun z w => by rw [g3] at w; cases w) (kv := kv) (by rw [g2]; exact hkv) (by rw [g2, ← hcc]; exact va_assign hcls) rfl rfl hd fun H1 e1 e2 e3 => kk H1 _ (fin H1 e1 e2 e3) lo
theorem hk_def (t : FieldType) : hk_cv ex B vX (defaultValue t) = defaultValue t ∨ defaultValue t = .float 0 := by
  cases t <;> first | exact Or.inl rfl | exact Or.inr rfl
theorem hk_ty_nf : ∀ t, t < 9 → ∀ k, k < hk_nf t → defaultValue (hk_ty t k) ≠ .float 0 := by decide +kernel
/-- a new object -/
theorem hk_s_new (X : hk_Cx p l R s m meth c ex B vX H0 dC dI d cd call own ini mx C S bs) {x a b : Nat} (hf : hk_nL.any (fun q => Nat.beq q.1 own && Nat.beq q.2.1 x && Nat.beq q.2.2.1 a) = true) (hb : b = hk_nf a) (hd : decode bs pc = .ok (.new x, 3)) (hR : hk_Rel ex B vX H0 dC dI s H h) (hk : k + 1 ≤ C) (hn : n + b ≤ S) {rest : List Value}
    (kk : ∀ (H1 : Heap), hk_Rel ex B vX H0 dC dI s H1 (hk_nw h (a, b, hk_dft a)) → W p l e R s m args below meth c H1 locs (k + 1) (n + b) Qf (F0 m (pc + 3) la (.ref (hk_ad ex B h.1) :: rest))) : W p l e R s m args below meth c H locs k n Qf (F0 m pc la rest) := by
  subst hb
  obtain ⟨q, -, h2, h3⟩ := hk_any hf hk_nL_ok
  simp only [Bool.and_eq_true] at h2
  obtain ⟨⟨h4, h5⟩, h6⟩ := h2
  have e1 := Nat.eq_of_beq_eq_true h4
  have e2 := Nat.eq_of_beq_eq_true h5
  have e3 := Nat.eq_of_beq_eq_true h6
  unfold hk_nOK at h3
  rw [Bool.and_eq_true, Bool.and_eq_true, Bool.and_eq_true, e1, e2, e3] at h3
  have h9 : a < 9 := Nat.lt_of_succ_le (Nat.le_of_ble_eq_true h3.2)
  have w1 := hk_word (args := args) X (hk_w_in h3.1.1.1)
  have w2 := hk_word (args := args) X (hk_w_in h3.1.1.2)
  have w3 := hk_word (args := args) X (hk_w_in h3.1.2)
  obtain ⟨hx, hbs, hml, hown, henv, -, -, -, hroom⟩ := X
  have hts : ∀ w ∈ lw_tbl.filter hk_good, w.before args s = true := fun w hw => henv.1 w (List.mem_filter.mp hw).1 (List.mem_filter.mp hw).2 args
  have hin : ∀ w ∈ u_ws (hk_cn a) (hk_T a) (hk_nf a), w ∈ lw_tbl.filter hk_good := fun w hw => List.mem_filter.mpr (hk_lay0 a h9 w hw)
  have hKn := henv.2.1 a h9
  have hsz : H.size = hk_ad ex B h.1 := by rw [hk_ad_ge hR.2.1]; exact hR.1
  refine W.newcK hx hbs hown w1 w2 w3 rfl hd (Nat.le_trans hk hroom.2.2.1) (Nat.le_trans hn hroom.2.2.2) hKn.2.1 hsz fun H1 kC hkC e1 z1 o1 => ?_
  refine kk H1 (hk_Rel_nw henv.2.2.2.2.2.1 hR (by rw [z1, hsz]) (fun z hz => o1 z (by rw [← hsz]; exact hz)) (hk_ok_obj h9 (Nat.le_refl _) ?_))
  refine (u_born (hk_ty a) hts hin hKn hkC e1 (hk_Tty a h9)).to (fun j hj => ?_)
  rcases hk_def (ex := ex) (B := B) (vX := vX) (hk_ty a j) with z | z
  · exact z.symm
  · exact absurd z (hk_ty_nf a h9 j hj)
theorem hk_s_na (X : hk_Cx p l R s m meth c ex B vX H0 dC dI d cd call own ini mx C S bs) {a : Nat} (hd : (a = 10 ∧ decode bs pc = .ok (.newarray .int, 2)) ∨ (a = 11 ∧ decode bs pc = .ok (.newarray .long, 2)) ∨ (a = 12 ∧ decode bs pc = .ok (.newarray .byte, 2))) (hR : hk_Rel ex B vX H0 dC dI s H h) {i : Int32} (hi : ¬ i < 0 ∧ i.toNatClampNeg ≤ 1000 ∧ k + 1 ≤ C ∧ n + i.toNatClampNeg ≤ S) {rest : List Value}
    (kk : ∀ (H1 : Heap), hk_Rel ex B vX H0 dC dI s H1 (hk_nw h (a, i.toNatClampNeg, fun _ => hk_zero a)) → W p l e R s m args below meth c H1 locs (k + 1) (n + i.toNatClampNeg) Qf (F0 m (pc + 2) la (.ref (hk_ad ex B h.1) :: rest))) : W p l e R s m args below meth c H locs k n Qf (F0 m pc la (.int i :: rest)) := by
  obtain ⟨hx, hbs, hml, hown, henv, -, -, -, hroom⟩ := X
  have hsz : H.size = hk_ad ex B h.1 := by rw [hk_ad_ge hR.2.1]; exact hR.1
  have hc := Nat.le_trans hi.2.2.1 hroom.2.2.1
  have hs := Nat.le_trans hi.2.2.2 hroom.2.2.2
  rcases hd with ⟨rfl, hd⟩ | ⟨rfl, hd⟩ | ⟨rfl, hd⟩
  · refine va_newaK (atype := .int) hx hbs (henv.1 _ hk_arrc.1 rfl args) rfl hd rfl hi.1 rfl (by show _ * 4 ≤ _; omega) hc hs hsz fun H1 cA e1 z1 o1 hA _ => ?_
    exact kk H1 (hk_Rel_nw henv.2.2.2.2.2.1 hR (by rw [z1, hsz]) (fun z hz => o1 z (by rw [← hsz]; exact hz)) (hk_ok_anw (cA := cA) (by decide) hR.2.1 e1 hA (fun z => absurd z (by decide))))
  · refine va_newaK (atype := .long) hx hbs (henv.1 _ hk_arrc.2.1 rfl args) rfl hd rfl hi.1 rfl (by show _ * 8 ≤ _; omega) hc hs hsz fun H1 cA e1 z1 o1 hA _ => ?_
    exact kk H1 (hk_Rel_nw henv.2.2.2.2.2.1 hR (by rw [z1, hsz]) (fun z hz => o1 z (by rw [← hsz]; exact hz)) (hk_ok_anw (cA := cA) (by decide) hR.2.1 e1 hA (fun z => absurd z (by decide))))
  · refine va_newaK (atype := .byte) hx hbs (henv.1 _ hk_arrc.2.2 rfl args) rfl hd rfl hi.1 rfl (by show _ * 1 ≤ _; omega) hc hs hsz fun H1 cA e1 z1 o1 hA _ => ?_
    exact kk H1 (hk_Rel_nw henv.2.2.2.2.2.1 hR (by rw [z1, hsz]) (fun z hz => o1 z (by rw [← hsz]; exact hz)) (hk_ok_anw (cA := cA) (by decide) hR.2.1 e1 hA (fun z => absurd z (by decide))))
theorem hk_s_an (X : hk_Cx p l R s m meth c ex B vX H0 dC dI d cd call own ini mx C S bs) {x a : Nat} (hf : hk_aL.any (fun q => Nat.beq q.1 own && Nat.beq q.2.1 x && Nat.beq q.2.2.1 a) = true) (hd : decode bs pc = .ok (.anewarray x, 3)) (hR : hk_Rel ex B vX H0 dC dI s H h) {i : Int32} (hi : ¬ i < 0 ∧ i.toNatClampNeg ≤ 1000 ∧ k + 1 ≤ C ∧ n + i.toNatClampNeg ≤ S) {rest : List Value}
    (kk : ∀ (H1 : Heap), hk_Rel ex B vX H0 dC dI s H1 (hk_nw h (a, i.toNatClampNeg, fun _ => hk_zero a)) → W p l e R s m args below meth c H1 locs (k + 1) (n + i.toNatClampNeg) Qf (F0 m (pc + 3) la (.ref (hk_ad ex B h.1) :: rest))) : W p l e R s m args below meth c H locs k n Qf (F0 m pc la (.int i :: rest)) := by
  obtain ⟨q, -, h2, h3⟩ := hk_any hf hk_aL_ok
  simp only [Bool.and_eq_true] at h2
  obtain ⟨⟨h4, h5⟩, h6⟩ := h2
  have e1 := Nat.eq_of_beq_eq_true h4
  have e2 := Nat.eq_of_beq_eq_true h5
  have e3 := Nat.eq_of_beq_eq_true h6
  unfold hk_aOK at h3
  rw [Bool.and_eq_true, Bool.and_eq_true, Bool.and_eq_true, e1, e2, e3] at h3
  have g1 : 13 ≤ a := Nat.le_of_ble_eq_true h3.1.2
  have g2 : a ≤ 16 := Nat.le_of_ble_eq_true h3.2
  have w1 := hk_word (args := args) X (hk_w_in h3.1.1.1)
  have w2 := hk_word (args := args) X (hk_w_in h3.1.1.2)
  obtain ⟨hx, hbs, hml, hown, henv, -, -, -, hroom⟩ := X
  have hsz : H.size = hk_ad ex B h.1 := by rw [hk_ad_ge hR.2.1]; exact hR.1
  have hc := Nat.le_trans hi.2.2.1 hroom.2.2.1
  have hs := Nat.le_trans hi.2.2.2 hroom.2.2.2
  refine W.anew hx hbs hown w1 w2 rfl hd rfl hi.1 (by omega) hc hs fun cA kA comp f1 f2 f3 f4 => ?_
  rw [hsz]
  have hz : hk_zero a = .null := by
    have : a = 13 ∨ a = 14 ∨ a = 15 ∨ a = 16 := by omega
    rcases this with rfl | rfl | rfl | rfl <;> rfl
  refine kk _ (hk_Rel_nw henv.2.2.2.2.2.1 hR (by simp) (fun z hz => by rw [Array.getElem?_push, if_neg (Nat.ne_of_lt hz)]) (hk_ok_anw (cA := cA) (by omega) hR.2.1 ?_ ?_ (fun _ => ?_)))
  · rw [← hsz, hz]
    rw [show (fun _ : Nat => hk_cv ex B vX Value.null) = fun _ => Value.null from rfl, ← arrV_new]
    simp
  · rw [hk_aty_r g1 g2]
    exact fun n z => ⟨fun k h => (by cases h), kA, f2, comp, f3⟩
  · rw [hk_aty_r g1 g2]
    exact ⟨kA, comp, f2, f3, f4, f1⟩
end Snd4b
