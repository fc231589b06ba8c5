/-! SOUNDNESS, 5: calls, the copy of an array -/
section Snd5
variable {p : Program} {l : Launch} {e : Env} {R : Room} {s : State} {m : MethodId} {args : Array Value} {below : List Frame} {meth : Method} {c : Code} {Qf : State → Prop} {ex : Nat → Nat} {B : Nat} {vX : Value} {H0 : Heap} {dC : Nat → ClassId} {dI : Nat → Nat → Nat} {d : Nat} {cd : hk_Cd} {call : hk_C} {own : Nat} {ini : Bool} {mx C S : Nat} {bs : ByteArray}
variable {H : Heap} {locs : List Loc} {la : Array Slot} {ls : hk_Ls} {st : List Value} {h : hk_Hp} {k n pc nx : Nat}
/-- what the tables say of a callee -/
theorem hk_mlink {own x M : Nat} {kd : Nat → Bool} (hf : hk_mL.any (fun q => Nat.beq q.1 own && Nat.beq q.2.1 x && kd q.2.2.1 && Nat.beq q.2.2.2.1 M) = true) : ∃ kind p1 p2 p3 p4 p5, kd kind = true ∧ hk_mOK (own, x, kind, M, p1, p2, p3, p4, p5) = true ∧ hk_cP M := by
  obtain ⟨q, h1, h2, h3⟩ := hk_any hf hk_mL_ok
  have h8 := hk_mL_c q h1
  obtain ⟨o, x', kind, M', p1, p2, p3, p4, p5⟩ := q
  simp only [Bool.and_eq_true] at h2
  obtain ⟨⟨⟨h4, h5⟩, h6⟩, h7⟩ := h2
  have e1 := Nat.eq_of_beq_eq_true h4
  have e2 := Nat.eq_of_beq_eq_true h5
  have e4 := Nat.eq_of_beq_eq_true h7
  dsimp only at e1 e2 e4 h6 h8
  subst e1; subst e2; subst e4
  exact ⟨kind, p1, p2, p3, p4, p5, h6, h3, h8⟩
theorem hk_s_virt (X : hk_Cx p l R s m meth c ex B vX H0 dC dI d cd call own ini mx C S bs) {x M b : Nat} (hf : hk_mL.any (fun q => Nat.beq q.1 own && Nat.beq q.2.1 x && Nat.beq q.2.2.1 0 && Nat.beq q.2.2.2.1 M) = true) (hds : hk_dsc M = some b) {cd' : hk_Cd} {rt' : Option FieldType} {C' S' mx' : Nat} (hM : hk_nth hk_bds M = some (cd', rt', C', S', mx')) (hd : decode bs pc = .ok (.invokevirtual x, 3)) (hR : hk_Rel ex B vX H0 dC dI s H h) {q : Nat} (ht : (h.2 q).1 = hk_mo M) (h9 : hk_mo M ≤ 9) {as rest : List Value} {Q : hk_Q} (hlen : as.length = b) (hW : hk_cs rest ≤ 8) (hc : call M (.ref q :: as) h Q) (hl : la.size = mx) (hq : ∀ q ∈ locs, B ≤ q.base) (hk : k + C' ≤ C) (hn : n + S' ≤ S)
    (kk : ∀ (r : Option Value) (h' : hk_Hp) (H1 : Heap) (locs1 : List Loc), Q r h' → hk_Rel ex B vX H0 dC dI s H1 h' → (∀ q ∈ locs1, B ≤ q.base) → W p l e R s m args below meth c H1 locs1 (k + C') (n + S') Qf (F0 m (pc + 3) la ((r.map (hk_cv ex B vX)).toList ++ rest.map (hk_cv ex B vX)))) :
    W p l e R s m args below meth c H locs k n Qf (F0 m pc la ((as.map (hk_cv ex B vX)).reverse ++ .ref (hk_ad ex B q) :: rest.map (hk_cv ex B vX))) := by
  obtain ⟨kind, p1, p2, p3, p4, p5, hkd, hok, hcP⟩ := hk_mlink (kd := fun z => Nat.beq z 0) hf
  have ekd := Nat.eq_of_beq_eq_true hkd
  subst ekd
  simp only [hk_mOK, Bool.and_eq_true] at hok
  obtain ⟨⟨⟨⟨hmh, w4⟩, hml⟩, hcls⟩, ⟨w1, w2⟩, w3⟩ := hok
  have hmet := X.2.2.2.2.2.2.2.1 M _ h Q hc cd' rt' C' S' mx' hM
  have hcb := hk_callB (args := args) (C' := C') (S' := S') X hcP (hk_word X (hk_w_in w1)) (hk_word X (hk_w_in w4)) hmh (Nat.le_of_ble_eq_true hml) hds
  have hcw : CallW R s args (hk_cn own) (hk_my M).cls x (hk_my M) (hk_mb M) (hk_ml M) (hk_mr M) [.code (hk_my M) (hk_mb M) (hk_ml M) (hk_mr M)] (hk_rm d C' S') C' S' b := ⟨hcb, hk_word X (hk_w_in w2), hk_word X (hk_w_in w3)⟩
  have hroom := X.2.2.2.2.2.2.2.2
  have hX := X.2.2.2.2.1.2.2.2.2.2.2
  have hclsE : (hk_my M).cls = hk_cn (hk_mo M) := of_decide_eq_true hcls
  have hrecv : ∃ cellB : Cell, H[hk_ad ex B q]? = some cellB ∧ cellB.vm.isStatics = false ∧ s.vm.findClass (hk_my M).cls = some cellB.cls := by
    rw [hclsE]
    by_cases h8 : hk_mo M < 9
    · obtain ⟨-, cell, g1, g2, g3, -⟩ := (hR.2.2.2 q).1 (by rw [ht]; exact h8)
      rw [ht] at g2
      exact ⟨cell, g1, by rw [g3]; rfl, by rw [g2]; exact (X.2.2.2.2.1.2.1 _ h8).2.1⟩
    · have e9 : hk_mo M = 9 := by omega
      rw [e9] at ht ⊢
      obtain ⟨-, ⟨cell, g1, g2, g3, -⟩, -⟩ := (hR.2.2.2 q).2.1 ht
      exact ⟨cell, g1, g2, g3⟩
  refine hk_back (Q := Q) rfl (va_runV (b := hk_ad ex B q) (As := as.map (hk_cv ex B vX)) (rest := rest.map (hk_cv ex B vX)) (Ts := []) ⟨X.1, X.2.1, X.2.2.1, X.2.2.2.1, fun w hw => absurd hw List.not_mem_nil⟩ hmet hcw ⟨hk_blind _ _, hrecv, fun U hU hWm => ⟨rfl, hk_Env_warm hWm X.2.2.2.2.1, by rw [hU]; exact hk_Rel_moved hWm.alike hR⟩⟩ rfl (by rw [List.length_map, hlen]) hl rfl (lv_room (by rw [hk_cs_eq hX]; exact hW)) hd ⟨Nat.le_trans hk hroom.2.2.1, Nat.le_trans hn hroom.2.2.2⟩) hq kk
theorem hk_s_stat (X : hk_Cx p l R s m meth c ex B vX H0 dC dI d cd call own ini mx C S bs) {x M b : Nat} (hf : hk_mL.any (fun q => Nat.beq q.1 own && Nat.beq q.2.1 x && (Nat.beq q.2.2.1 1 || Nat.beq q.2.2.1 3) && Nat.beq q.2.2.2.1 M) = true) (hds : hk_dsc M = some b) {cd' : hk_Cd} {rt' : Option FieldType} {C' S' mx' : Nat} (hM : hk_nth hk_bds M = some (cd', rt', C', S', mx')) (hd : decode bs pc = .ok (.invokestatic x, 3)) (hR : hk_Rel ex B vX H0 dC dI s H h) {as rest : List Value} {Q : hk_Q} (hlen : as.length = b) (hW : hk_cs rest ≤ 8) (hc : call M as h Q) (hl : la.size = mx) (hq : ∀ q ∈ locs, B ≤ q.base) (hk : k + C' ≤ C) (hn : n + S' ≤ S)
    (kk : ∀ (r : Option Value) (h' : hk_Hp) (H1 : Heap) (locs1 : List Loc), Q r h' → hk_Rel ex B vX H0 dC dI s H1 h' → (∀ q ∈ locs1, B ≤ q.base) → W p l e R s m args below meth c H1 locs1 (k + C') (n + S') Qf (F0 m (pc + 3) la ((r.map (hk_cv ex B vX)).toList ++ rest.map (hk_cv ex B vX)))) :
    W p l e R s m args below meth c H locs k n Qf (F0 m pc la ((as.map (hk_cv ex B vX)).reverse ++ rest.map (hk_cv ex B vX))) := by
  obtain ⟨kind, p1, p2, p3, p4, p5, hkd, hok, hcP⟩ := hk_mlink (kd := fun z => Nat.beq z 1 || Nat.beq z 3) hf
  have hmet := X.2.2.2.2.2.2.2.1 M _ h Q hc cd' rt' C' S' mx' hM
  have hroom := X.2.2.2.2.2.2.2.2
  have hX := X.2.2.2.2.1.2.2.2.2.2.2
  have hpre : PreS s H (fun a U => a = (as.map (hk_cv ex B vX)).toArray ∧ hk_Env ex B vX H0 dC dI U ∧ hk_Rel ex B vX H0 dC dI U U.heap h) (as.map (hk_cv ex B vX)) := ⟨hk_blind _ _, fun U hU hWm => ⟨rfl, hk_Env_warm hWm X.2.2.2.2.1, by rw [hU]; exact hk_Rel_moved hWm.alike hR⟩⟩
  rw [Bool.or_eq_true] at hkd
  rcases hkd with hkd | hkd
  · have ekd := Nat.eq_of_beq_eq_true hkd
    subst ekd
    simp only [hk_mOK, Bool.and_eq_true] at hok
    obtain ⟨⟨⟨⟨hmh, w4⟩, hml⟩, hcls⟩, w1, w2⟩ := hok
    have hcb := hk_callB (args := args) (C' := C') (S' := S') X hcP (hk_word X (hk_w_in w1)) (hk_word X (hk_w_in w4)) hmh (Nat.le_of_ble_eq_true hml) hds
    exact hk_back (Q := Q) rfl (va_runS (As := as.map (hk_cv ex B vX)) (rest := rest.map (hk_cv ex B vX)) (Ts := []) ⟨X.1, X.2.1, X.2.2.1, X.2.2.2.1, fun w hw => absurd hw List.not_mem_nil⟩ hmet ⟨hcb, hk_word X (hk_w_in w2)⟩ hpre rfl (by rw [List.length_map, hlen]) hl rfl (lv_room (by rw [hk_cs_eq hX]; exact hW)) hd ⟨Nat.le_trans hk hroom.2.2.1, Nat.le_trans hn hroom.2.2.2⟩) hq kk
  · have ekd := Nat.eq_of_beq_eq_true hkd
    subst ekd
    simp only [hk_mOK, Bool.and_eq_true] at hok
    obtain ⟨⟨⟨⟨hmh, w4⟩, hml⟩, hcls⟩, w1, w2⟩ := hok
    have hw := X.2.2.2.2.1.1 _ hcP rfl
    have hcn : va_CN R s args (hk_cn own) x (hk_my M) "HatFields" (hk_mb M) (hk_ml M) (hk_mr M) [.code (hk_my M) (hk_mb M) (hk_ml M) (hk_mr M)] (hk_rm d C' S') C' S' b := by
      refine va_cnB (Ts := [.code (hk_my M) (hk_mb M) (hk_ml M) (hk_mr M)]) (ws' := []) b (fun w hw' => by rw [List.mem_singleton.mp hw']; exact hw args) (fun w hw' => ⟨hw', Or.inl (by rw [List.mem_singleton.mp hw']; rfl)⟩) rfl rfl rfl (va_Nw.of rfl (hk_word (args := args) X (hk_w_in w1))) (hk_word X (hk_w_in w4)) ?_ ⟨hroom.1, ?_⟩
      · have := of_decide_eq_true hmh
        exact ⟨this.1, this.2, hds⟩
      · have h1 : 8 + (hk_ml M + 11) + 100 * d ≤ 100 * (d + 1) := by have := Nat.le_of_ble_eq_true hml; omega
        exact Nat.le_trans h1 hroom.2.1
    exact hk_back (Q := Q) rfl (va_runSN (As := as.map (hk_cv ex B vX)) (rest := rest.map (hk_cv ex B vX)) (Ts := []) ⟨X.1, X.2.1, X.2.2.1, X.2.2.2.1, fun w hw => absurd hw List.not_mem_nil⟩ hmet ⟨hcn, hk_word X (hk_w_in w2), trivial⟩ hpre rfl (by rw [List.length_map, hlen]) hl rfl (lv_room (by rw [hk_cs_eq hX]; exact hW)) hd ⟨Nat.le_trans hk hroom.2.2.1, Nat.le_trans hn hroom.2.2.2⟩) hq kk
theorem hk_s_spec (X : hk_Cx p l R s m meth c ex B vX H0 dC dI d cd call own ini mx C S bs) {x M b : Nat} (hf : hk_mL.any (fun q => Nat.beq q.1 own && Nat.beq q.2.1 x && (Nat.beq q.2.2.1 2 || Nat.beq q.2.2.1 4) && Nat.beq q.2.2.2.1 M) = true) (hds : hk_dsc M = some b) {cd' : hk_Cd} {rt' : Option FieldType} {C' S' mx' : Nat} (hM : hk_nth hk_bds M = some (cd', rt', C', S', mx')) (hd : decode bs pc = .ok (.invokespecial x, 3)) (hR : hk_Rel ex B vX H0 dC dI s H h) {q : Nat} {as rest : List Value} {Q : hk_Q} (hlen : as.length = b) (hW : hk_cs rest ≤ 8) (hc : call M (.ref q :: as) h Q) (hl : la.size = mx) (hq : ∀ q ∈ locs, B ≤ q.base) (hk : k + C' ≤ C) (hn : n + S' ≤ S)
    (kk : ∀ (r : Option Value) (h' : hk_Hp) (H1 : Heap) (locs1 : List Loc), Q r h' → hk_Rel ex B vX H0 dC dI s H1 h' → (∀ q ∈ locs1, B ≤ q.base) → W p l e R s m args below meth c H1 locs1 (k + C') (n + S') Qf (F0 m (pc + 3) la ((r.map (hk_cv ex B vX)).toList ++ rest.map (hk_cv ex B vX)))) :
    W p l e R s m args below meth c H locs k n Qf (F0 m pc la ((as.map (hk_cv ex B vX)).reverse ++ .ref (hk_ad ex B q) :: rest.map (hk_cv ex B vX))) := by
  obtain ⟨kind, p1, p2, p3, p4, p5, hkd, hok, hcP⟩ := hk_mlink (kd := fun z => Nat.beq z 2 || Nat.beq z 4) hf
  have hmet := X.2.2.2.2.2.2.2.1 M _ h Q hc cd' rt' C' S' mx' hM
  have hroom := X.2.2.2.2.2.2.2.2
  have hX := X.2.2.2.2.1.2.2.2.2.2.2
  have hpre : PreS s H (fun a U => a = ((Value.ref q :: as).map (hk_cv ex B vX)).toArray ∧ hk_Env ex B vX H0 dC dI U ∧ hk_Rel ex B vX H0 dC dI U U.heap h) (.ref (hk_ad ex B q) :: as.map (hk_cv ex B vX)) := ⟨hk_blind _ _, fun U hU hWm => ⟨rfl, hk_Env_warm hWm X.2.2.2.2.1, by rw [hU]; exact hk_Rel_moved hWm.alike hR⟩⟩
  rw [Bool.or_eq_true] at hkd
  rcases hkd with hkd | hkd
  · have ekd := Nat.eq_of_beq_eq_true hkd
    subst ekd
    simp only [hk_mOK, Bool.and_eq_true] at hok
    obtain ⟨⟨⟨⟨hmh, w4⟩, hml⟩, hcls⟩, ⟨⟨w1, w2⟩, hnm⟩, hrn⟩ := hok
    have hrn : hk_mr M = none := of_decide_eq_true hrn
    have hcb := hk_callB (args := args) (C' := C') (S' := S') X hcP (hk_word X (hk_w_in w1)) (hk_word X (hk_w_in w4)) hmh (Nat.le_of_ble_eq_true hml) hds
    rw [hrn] at hcb hmet
    exact hk_back (Q := Q) rfl (va_runI (b := hk_ad ex B q) (As := as.map (hk_cv ex B vX)) (rest := rest.map (hk_cv ex B vX)) (Ts := []) ⟨X.1, X.2.1, X.2.2.1, X.2.2.2.1, fun w hw => absurd hw List.not_mem_nil⟩ hmet ⟨hcb, of_decide_eq_true hnm, hk_word X (hk_w_in w2)⟩ hpre rfl (by rw [List.length_map, hlen]) hl rfl (lv_room (by rw [hk_cs_eq hX]; exact hW)) hd ⟨Nat.le_trans hk hroom.2.2.1, Nat.le_trans hn hroom.2.2.2⟩) hq kk
  · have h4 : kind = 4 := Nat.eq_of_beq_eq_true hkd
    subst h4
    simp only [hk_mOK, Bool.and_eq_true] at hok
    obtain ⟨⟨⟨⟨hmh, w4⟩, hml⟩, hcls⟩, ⟨⟨w1, w2⟩, hnm⟩, hrn⟩ := hok
    have hrn : hk_mr M = none := of_decide_eq_true hrn
    have hw := X.2.2.2.2.1.1 _ hcP rfl
    have hcn : va_CN R s args (hk_cn own) x (hk_my M) "HatFields" (hk_mb M) (hk_ml M) (hk_mr M) [.code (hk_my M) (hk_mb M) (hk_ml M) (hk_mr M)] (hk_rm d C' S') C' S' b := by
      refine va_cnB (Ts := [.code (hk_my M) (hk_mb M) (hk_ml M) (hk_mr M)]) (ws' := []) b (fun w hw' => by rw [List.mem_singleton.mp hw']; exact hw args) (fun w hw' => ⟨hw', Or.inl (by rw [List.mem_singleton.mp hw']; rfl)⟩) rfl rfl rfl (va_Nw.of rfl (hk_word (args := args) X (hk_w_in w1))) (hk_word X (hk_w_in w4)) ?_ ⟨hroom.1, ?_⟩
      · have := of_decide_eq_true hmh
        exact ⟨this.1, this.2, hds⟩
      · have h1 : 8 + (hk_ml M + 11) + 100 * d ≤ 100 * (d + 1) := by have := Nat.le_of_ble_eq_true hml; omega
        exact Nat.le_trans h1 hroom.2.1
    rw [hrn] at hcn hmet
    exact hk_back (Q := Q) rfl (va_runIN (b := hk_ad ex B q) (As := as.map (hk_cv ex B vX)) (rest := rest.map (hk_cv ex B vX)) (Ts := []) ⟨X.1, X.2.1, X.2.2.1, X.2.2.2.1, fun w hw => absurd hw List.not_mem_nil⟩ hmet ⟨hcn, of_decide_eq_true hnm, hk_word X (hk_w_in w2)⟩ hpre rfl (by rw [List.length_map, hlen]) hl rfl (lv_room (by rw [hk_cs_eq hX]; exact hW)) hd ⟨Nat.le_trans hk hroom.2.2.1, Nat.le_trans hn hroom.2.2.2⟩) hq kk
/-- System.arraycopy between two arrays of ints -/
theorem hk_s_cpy (X : hk_Cx p l R s m meth c ex B vX H0 dC dI d cd call own ini mx C S bs) {x a b : Nat} (hf : hk_yL.any (fun q => Nat.beq q.1 own && Nat.beq q.2.1 x) = true) (hd : decode bs pc = .ok (.invokestatic x, 3)) (hR : hk_Rel ex B vX H0 dC dI s H h) (ta : (h.2 a).1 = 10) (tb : (h.2 b).1 = 10) (ha : 38 ≤ a) (hb : 38 ≤ b) {rest : List Value} (hW : hk_cs rest ≤ 8) {sp dp z : Int32} (h1 : ¬ sp < 0) (h2 : ¬ dp < 0) (h3 : ¬ z < 0) (h4 : sp.toNatClampNeg + z.toNatClampNeg ≤ (h.2 a).2.1) (h5 : dp.toNatClampNeg + z.toNatClampNeg ≤ (h.2 b).2.1) (hv : ∀ j, ∃ x, (h.2 a).2.2 j = .int x) (hl : la.size = mx) (hq : ∀ q ∈ locs, B ≤ q.base)
    (kk : ∀ (H1 : Heap) (locs1 : List Loc), hk_Rel ex B vX H0 dC dI s H1 (hk_up h b (10, (h.2 b).2.1, va_cpy (h.2 a).2.2 (h.2 b).2.2 sp.toNatClampNeg dp.toNatClampNeg z.toNatClampNeg)) → (∀ q ∈ locs1, B ≤ q.base) → W p l e R s m args below meth c H1 locs1 k n Qf (F0 m (pc + 3) la (rest.map (hk_cv ex B vX)))) :
    W p l e R s m args below meth c H locs k n Qf (F0 m pc la (.int z :: .int dp :: .ref (hk_ad ex B b) :: .int sp :: .ref (hk_ad ex B a) :: rest.map (hk_cv ex B vX))) := by
  obtain ⟨q, -, g2, g3⟩ := hk_any hf hk_yL_ok
  simp only [Bool.and_eq_true] at g2
  have e1 := Nat.eq_of_beq_eq_true g2.1
  have e2 := Nat.eq_of_beq_eq_true g2.2
  unfold hk_yOK at g3
  rw [e1, e2] at g3
  have hlink := hk_word (args := args) X (hk_w_in g3)
  obtain ⟨hx, hbs, hml, hown, henv, -, -, -, hroom⟩ := X
  have hX := henv.2.2.2.2.2.2
  have hnat := henv.1 _ hk_cpyi.1
  have nn : ∀ z : Int32, ¬ z < 0 → z.toInt = (z.toNatClampNeg : Int) := by
    intro z hz
    have hz0 : (0 : Int) ≤ z.toInt := by
      have := Int32.not_lt.mp hz
      simpa using Int32.le_iff_toInt_le.mp this
    show z.toInt = ((z.toInt.toNat : Nat) : Int)
    omega
  have hnw : nativeFrameWords "java/lang/System" "arraycopy" 5 ≤ 60 := by decide +kernel
  have hrl : 100 * (d + 1) ≤ R.locals := hroom.2.1
  obtain ⟨c0, hc0, hA0, -⟩ := (hR.2.2.2 a).2.2.2 (by omega) (by omega) ha
  obtain ⟨c1, hc1, hA1, -⟩ := (hR.2.2.2 b).2.2.2 (by omega) (by omega) hb
  rw [ta] at hA0
  rw [tb] at hA1
  intro T hT X
  obtain ⟨-, k0, hk0, cm0, hkk0⟩ := hA0 (h.2 a).2.1 (fun j => hk_cv ex B vX ((h.2 a).2.2 j))
  obtain ⟨-, k1, hk1, cm1, hkk1⟩ := hA1 (h.2 b).2.1 (fun j => hk_cv ex B vX ((h.2 b).2.2 j))
  obtain ⟨vm', X', step⟩ := X.arraycopy hx hown hlink (hnat rfl args) (henv.1 _ hk_cpyi.2.1 rfl args) (henv.1 _ hk_cpyi.2.2 rfl args) (src := hk_ad ex B a) (dst := hk_ad ex B b) (srcPos := sp) (destPos := dp) (n := z) (by rw [hT]; exact hc0) (by rw [hT]; exact hc1)
    (fun _ h => by cases h) (fun _ h => by cases h) (fun h => by cases h) (fun h => by cases h) hk0 hk1 hkk0 hkk1 (by decide) h1 h2 h3
    (by rw [nn sp h1, nn z h3, arrV_size]; omega)
    (by rw [nn dp h2, nn z h3, arrV_size]; omega)
    (fun vm₁ _ i hi => by
      obtain ⟨w, hw⟩ := hv (sp.toNatClampNeg + i)
      have e : (arrV c0 (h.2 a).2.1 (fun j => hk_cv ex B vX ((h.2 a).2.2 j))).slots.getD (sp.toNatClampNeg + i) .null = .int w := by
        rw [Array.getD_eq_getD_getElem?, arrV_read _ _ (by omega), hw]
        rfl
      refine ⟨?_, ?_⟩
      · rw [e]; rfl
      · rw [e]; exact trivial)
    (g := F0 m pc la (.int z :: .int dp :: .ref (hk_ad ex B b) :: .int sp :: .ref (hk_ad ex B a) :: rest.map (hk_cv ex B vX))) rfl (by rw [hml]; exact hl) (rest := rest.map (hk_cv ex B vX)) rfl (by rw [hbs]; exact hd) (by omega) (by rw [hk_cs_eq hX]; show 2 * 0 + _ + _ ≤ _; omega)
  have e1 : copied (arrV c0 (h.2 a).2.1 (fun j => hk_cv ex B vX ((h.2 a).2.2 j))) (arrV c1 (h.2 b).2.1 (fun j => hk_cv ex B vX ((h.2 b).2.2 j))) sp dp z = arrV c1 (h.2 b).2.1 (fun j => hk_cv ex B vX (va_cpy (h.2 a).2.2 (h.2 b).2.2 sp.toNatClampNeg dp.toNatClampNeg z.toNatClampNeg j)) := va_copied (hk_cv ex B vX) c0 c1 _ _ h4
  rw [e1] at X' step
  have hlt : hk_ad ex B b < H.size := (Array.getElem?_eq_some_iff.mp hc1).1
  have hheap : ∀ cell, ((T.setVm vm').setCell (hk_ad ex B b) cell).heap = H.setIfInBounds (hk_ad ex B b) cell := by intro cell; rw [← hT]; rfl
  have oq : ∀ cell, ∀ q : Nat, q ≠ hk_ad ex B b → (H.setIfInBounds (hk_ad ex B b) cell)[q]? = H[q]? := fun cell q hq => by simp [Array.getElem?_setIfInBounds, Ne.symm hq]
  obtain ⟨t, a1, b1⟩ := kk _ _ (hk_Rel_up (H1 := H.setIfInBounds (hk_ad ex B b) _) henv.2.2.2.2.2.1 hR hb (by simp) (oq _) (hk_ok_anw (cA := c1) (t := 10) (by decide) hb (by rw [Array.getElem?_setIfInBounds, if_pos rfl, if_pos hlt]) hA1 (fun w => absurd w (by decide)))) (fun q hq' => by
      rcases List.mem_append.mp hq' with w | w
      · exact hq q w
      · first
          | (rw [List.mem_singleton.mp w]; exact hk_ad_B hb)
          | (obtain ⟨i, -, rfl⟩ := List.mem_map.mp w; exact hk_ad_B hb)) _ (hheap _) X'
  exact ⟨t, step t a1, b1⟩
end Snd5
