/-! the small machine: its steps grow with what follows -/
theorem hk_lk_m {K K' : Value → Prop} (h : ∀ v, K v → K' v) : ∀ (l : hk_Ls) (i : Nat), hk_lk l i K → hk_lk l i K'
  | [], _, q => q
  | q :: l, i, g => by
    unfold hk_lk at g ⊢
    cases hb : Nat.beq q.1 i
    · rw [hb] at g; exact hk_lk_m h l i g
    · rw [hb] at g; exact h _ g
theorem hk_fl_eq (p : Nat × Value → Bool) : ∀ (l : hk_Ls) (K : hk_Ls → Prop), hk_fl p l K = K (l.filter p)
  | [], _ => rfl
  | q :: l, K => by
    unfold hk_fl
    cases hb : p q
    · rw [List.filter_cons_of_neg (by rw [hb]; decide)]; exact hk_fl_eq p l K
    · rw [List.filter_cons_of_pos hb]; exact hk_fl_eq p l _
theorem hk_fl_m {p : Nat × Value → Bool} {K K' : hk_Ls → Prop} (h : ∀ v, K v → K' v) (l : hk_Ls) (g : hk_fl p l K) : hk_fl p l K' := by
  rw [hk_fl_eq] at g ⊢
  exact h _ g
def hk_nthm (q : Nat × Value) (ls : hk_Ls) : Prop := ∃ i, hk_nth ls i = some q
theorem hk_pk_m {ls : hk_Ls} : ∀ {is : List Nat} {K K' : hk_Ls → Prop}, (∀ v, K v → K' v) → hk_pk is ls K → hk_pk is ls K'
  | [], _, _, h, g => h _ g
  | i :: is, K, K', h, g => by
    unfold hk_pk at g ⊢
    split at g
    · rename_i q hq; exact hk_pk_m (fun _ => h _) g
    · exact g
theorem hk_pk_sub {ls : hk_Ls} : ∀ {is : List Nat} {K : hk_Ls → Prop}, hk_pk is ls K → ∃ l, (∀ q ∈ l, hk_nthm q ls) ∧ K l
  | [], _, g => ⟨[], fun _ h => absurd h List.not_mem_nil, g⟩
  | i :: is, K, g => by
    unfold hk_pk at g
    split at g
    · rename_i q hq
      obtain ⟨l, h1, h2⟩ := hk_pk_sub g
      exact ⟨q :: l, List.forall_mem_cons.mpr ⟨⟨i, hq⟩, h1⟩, h2⟩
    · exact absurd g id
theorem hk_pop_m {K K' : List Value → List Value → Prop} (h : ∀ a b, K a b → K' a b) : ∀ (n : Nat) (st as : List Value), hk_pop n st as K → hk_pop n st as K'
  | 0, st, as, g => h _ _ g
  | n + 1, [], _, g => g
  | n + 1, v :: st, as, g => hk_pop_m h n st (v :: as) g
theorem hk_v_m {K K' : Value → Prop} (h : ∀ v, K v → K' v) (v : Value) (g : hk_v v K) : hk_v v K' := by
  cases v <;> first | exact g | exact h _ g
theorem hk_i1_m {f : Int32 → Value} {K K' : List Value → Prop} (h : ∀ v, K v → K' v) (st : List Value) (g : hk_i1 f st K) : hk_i1 f st K' := by
  unfold hk_i1 at g ⊢
  split at g
  · exact h _ g
  · exact g
theorem hk_i2_m {f : Int32 → Int32 → Int32} {K K' : List Value → Prop} (h : ∀ v, K v → K' v) (st : List Value) (g : hk_i2 f st K) : hk_i2 f st K' := by
  unfold hk_i2 at g ⊢
  split at g
  · exact h _ g
  · exact g
theorem hk_l2_m {f : Int64 → Int64 → Value} {K K' : List Value → Prop} (h : ∀ v, K v → K' v) (st : List Value) (g : hk_l2 f st K) : hk_l2 f st K' := by
  unfold hk_l2 at g ⊢
  split at g
  · exact h _ g
  · exact g
theorem hk_ls_m {f : Int64 → Int32 → Int64} {K K' : List Value → Prop} (h : ∀ v, K v → K' v) (st : List Value) (g : hk_ls f st K) : hk_ls f st K' := by
  unfold hk_ls at g ⊢
  split at g
  · exact h _ g
  · exact g
theorem hk_dv_m {f : Int32 → Int32 → Int32} {K K' : List Value → Prop} (h : ∀ v, K v → K' v) (st : List Value) (g : hk_dv f st K) : hk_dv f st K' := by
  unfold hk_dv at g ⊢
  split at g
  · exact ⟨g.1, h _ g.2⟩
  · exact g
theorem hk_bif_m0 {b : Bool} {A A' : Prop} (h : A → A') (g : bif b then A else False) : bif b then A' else False := by
  cases b
  · exact g
  · exact h g
theorem hk_m2_m {f : Int32 → Int32 → Int32} {K K' : List Value → Prop} (h : ∀ v, K v → K' v) (st : List Value) (g : hk_m2 f st K) : hk_m2 f st K' := by
  unfold hk_m2 at g ⊢
  split at g
  · exact hk_bif_m0 (h _) g
  · exact g
theorem hk_m1_m {f : Int32 → Int32} {K K' : List Value → Prop} (h : ∀ v, K v → K' v) (st : List Value) (g : hk_m1 f st K) : hk_m1 f st K' := by
  unfold hk_m1 at g ⊢
  split at g
  · exact hk_bif_m0 (h _) g
  · exact g
theorem hk_br_m {c A B A' B' : Prop} (ha : A → A') (hb : B → B') (g : hk_br c A B) : hk_br c A' B' := ⟨fun q => ha (g.1 q), fun q => hb (g.2 q)⟩
theorem hk_ift_m {cd : ClassFile.Cond} {x y : Int32} {A B A' B' : Prop} (ha : A → A') (hb : B → B') (g : hk_ift cd x y A B) : hk_ift cd x y A' B' := by
  cases cd
  · exact hk_br_m ha hb g
  · exact hk_br_m hb ha g
  · exact hk_br_m ha hb g
  · exact hk_br_m ha hb g
  · exact hk_br_m ha hb g
  · exact hk_br_m ha hb g
theorem hk_if1_m {cd : ClassFile.Cond} {A B A' B' : List Value → Prop} (ha : ∀ s, A s → A' s) (hb : ∀ s, B s → B' s) (st : List Value) (g : hk_if1 cd st A B) : hk_if1 cd st A' B' := by
  unfold hk_if1 at g ⊢
  split at g
  · exact hk_ift_m (ha _) (hb _) g
  · exact g
theorem hk_if2_m {cd : ClassFile.Cond} {A B A' B' : List Value → Prop} (ha : ∀ s, A s → A' s) (hb : ∀ s, B s → B' s) (st : List Value) (g : hk_if2 cd st A B) : hk_if2 cd st A' B' := by
  unfold hk_if2 at g ⊢
  split at g
  · exact hk_ift_m (ha _) (hb _) g
  · exact g
theorem hk_nul_m {A B A' B' : List Value → Prop} (ha : ∀ s, A s → A' s) (hb : ∀ s, B s → B' s) (st : List Value) (g : hk_nul st A B) : hk_nul st A' B' := by
  unfold hk_nul at g ⊢
  split at g
  · exact ha _ g
  · exact hb _ g
  · exact g
theorem hk_sws_m {x : Int32} {K K' : Nat → Prop} (h : ∀ t, K t → K' t) : ∀ (tl : List Nat) (v : Int), hk_sws x K v tl → hk_sws x K' v tl
  | [], _, g => g
  | _ :: tl, _, g => ⟨fun q => h _ (g.1 q), hk_sws_m h tl _ g.2⟩
theorem hk_sw_m {lo : Int} {d : Nat} {tl : List Nat} {K K' : Nat → List Value → Prop} (h : ∀ t s, K t s → K' t s) (st : List Value) (g : hk_sw lo d tl st K) : hk_sw lo d tl st K' := by
  unfold hk_sw at g ⊢
  split at g
  · exact ⟨fun q => h _ _ (g.1 q), hk_sws_m (fun t => h t _) _ _ g.2⟩
  · exact g
theorem hk_bif_m {b : Bool} {A A' : Prop} (h : A → A') (g : bif b then A else False) : bif b then A' else False := by
  cases b
  · exact g
  · exact h g
theorem hk_bif_1 {b : Bool} {A : Prop} (g : bif b then A else False) : b = true ∧ A := by
  cases b
  · exact absurd g id
  · exact ⟨rfl, g⟩
theorem hk_gf_m {h0 : hk_Hp} {t k : Nat} {K K' : List Value → Prop} (h : ∀ s, K s → K' s) (st : List Value) (g : hk_gf h0 t k st K) : hk_gf h0 t k st K' := by
  unfold hk_gf at g ⊢
  split at g
  · exact hk_bif_m (hk_v_m (fun _ => h _) _) g
  · exact g
theorem hk_pfv_m {tc : Nat} {v : Value} {K K' : Prop} (h : K → K') (g : hk_pfv tc v K) : hk_pfv tc v K' := by
  unfold hk_pfv at g ⊢
  split at g
  · exact ⟨trivial, h g.2⟩
  · exact ⟨g.1, h g.2⟩
  · exact ⟨trivial, h g.2⟩
  · exact ⟨trivial, h g.2⟩
  · exact ⟨trivial, h g.2⟩
  · exact g
theorem hk_pf_m {h0 : hk_Hp} {t k tc : Nat} {K K' : hk_Hp → List Value → Prop} (h : ∀ a s, K a s → K' a s) (st : List Value) (g : hk_pf h0 t k tc st K) : hk_pf h0 t k tc st K' := by
  unfold hk_pf at g ⊢
  split at g
  · exact hk_bif_m (hk_pfv_m (h _ _)) g
  · exact g
theorem hk_ald_m {h0 : hk_Hp} {t : Nat} {K K' : List Value → Prop} (h : ∀ s, K s → K' s) (st : List Value) (g : hk_ald h0 t st K) : hk_ald h0 t st K' := by
  unfold hk_ald at g ⊢
  split at g
  · exact hk_bif_m (fun q => ⟨q.1, hk_v_m (fun _ => h _) _ q.2⟩) g
  · exact g
theorem hk_ald2_m {h0 : hk_Hp} {K K' : List Value → Prop} (h : ∀ s, K s → K' s) (st : List Value) (g : hk_ald2 h0 st K) : hk_ald2 h0 st K' := by
  unfold hk_ald2 at g ⊢
  split at g
  · exact hk_bif_m (fun q => ⟨q.1, hk_v_m (fun _ => h _) _ q.2⟩) g
  · exact g
theorem hk_astv_m {t : Nat} {v : Value} {K K' : Value → Prop} (h : ∀ v, K v → K' v) (g : hk_astv t v K) : hk_astv t v K' := by
  unfold hk_astv at g ⊢
  split at g
  · exact h _ g
  · exact h _ g
  · exact h _ g
  · exact g
theorem hk_ast_m {h0 : hk_Hp} {t : Nat} {K K' : hk_Hp → List Value → Prop} (h : ∀ a s, K a s → K' a s) (st : List Value) (g : hk_ast h0 t st K) : hk_ast h0 t st K' := by
  unfold hk_ast at g ⊢
  split at g
  · exact hk_bif_m (fun q => ⟨q.1, hk_astv_m (fun _ => h _ _) q.2⟩) g
  · exact g
theorem hk_ast2_m {h0 : hk_Hp} {K K' : hk_Hp → List Value → Prop} (h : ∀ a s, K a s → K' a s) (st : List Value) (g : hk_ast2 h0 st K) : hk_ast2 h0 st K' := by
  unfold hk_ast2 at g ⊢
  split at g
  · exact hk_bif_m (fun q => ⟨q.1, h _ _ q.2⟩) g
  · exact hk_bif_m (fun q => ⟨q.1, h _ _ q.2⟩) g
  · exact g
theorem hk_len_m {h0 : hk_Hp} {K K' : List Value → Prop} (h : ∀ s, K s → K' s) (st : List Value) (g : hk_len h0 st K) : hk_len h0 st K' := by
  unfold hk_len at g ⊢
  split at g
  · exact hk_bif_m (h _) g
  · exact g
theorem hk_nar_m {h0 : hk_Hp} {t C S k n : Nat} {K K' : hk_Hp → List Value → Nat → Prop} (h : ∀ a s n, K a s n → K' a s n) (st : List Value) (g : hk_nar h0 t C S k n st K) : hk_nar h0 t C S k n st K' := by
  unfold hk_nar at g ⊢
  split at g
  · exact ⟨g.1, h _ _ _ g.2⟩
  · exact g
theorem hk_ret_m {rt : Option FieldType} {K K' : Option Value → Prop} (h : ∀ v, K v → K' v) (st : List Value) (g : hk_ret rt st K) : hk_ret rt st K' := by
  unfold hk_ret at g ⊢
  split at g
  · exact h _ g
  · exact ⟨g.1, h _ g.2⟩
  · exact g
theorem hk_rv_m {r : Option Value} {K K' : List Value → Prop} (h : ∀ v, K v → K' v) (st : List Value) (g : hk_rv r st K) : hk_rv r st K' := by
  cases r <;> exact h _ g
theorem hk_alc_m {tl : List Nat} {C S k n : Nat} {K K' : Nat → Nat → Prop} (h : ∀ a b, K a b → K' a b) (g : hk_alc tl C S k n K) : hk_alc tl C S k n K' := by
  unfold hk_alc at g ⊢
  split at g
  · exact h _ _ g
  · exact ⟨g.1, h _ _ g.2⟩
  · exact g
theorem hk_rc_m {h0 : hk_Hp} {as : List Value} {t : Nat} {K K' : Prop} (h : K → K') (g : hk_rc h0 as t K) : hk_rc h0 as t K' := by
  unfold hk_rc at g ⊢
  split at g
  · exact hk_bif_m h g
  · exact g
theorem hk_rn_m {as : List Value} {K K' : Prop} (h : K → K') (g : hk_rn as K) : hk_rn as K' := by
  unfold hk_rn at g ⊢
  split at g
  · exact hk_bif_m h g
  · exact g
theorem hk_cpy_m {h0 : hk_Hp} {K K' : hk_Hp → List Value → Prop} (h : ∀ a s, K a s → K' a s) (st : List Value) (g : hk_cpy h0 st K) : hk_cpy h0 st K' := by
  unfold hk_cpy at g ⊢
  split at g
  · exact hk_bif_m (fun q => ⟨q.1, h _ _ q.2⟩) g
  · exact g
def hk_cm (call : hk_C) : Prop := ∀ M as h (Q Q' : hk_Q), (∀ r h, Q r h → Q' r h) → call M as h Q → call M as h Q'
set_option maxHeartbeats 4000000 in
theorem hk_step_m {rt : Option FieldType} {C S : Nat} {dft : Nat → Nat → Value} {cd : hk_Cd} {call : hk_C} {Q Q' : hk_Q} {X X' : hk_X} (hc : hk_cm call) (hQ : ∀ r h, Q r h → Q' r h) (hX : ∀ ip ls st h k n, X ip ls st h k n → X' ip ls st h k n) (ip : Nat) (ls : hk_Ls) (st : List Value) (h : hk_Hp) (k n : Nat)
    (g : hk_step rt C S dft cd call Q X ip ls st h k n) : hk_step rt C S dft cd call Q' X' ip ls st h k n := by
  unfold hk_step at g ⊢
  cases he : hk_at cd ip with
  | none => rw [he] at g; exact g
  | some e =>
    rw [he] at g
    obtain ⟨pc, i, nx, a, b, c, tl⟩ := e
    dsimp only at g ⊢
    cases i
    case aconst_null => exact hX _ _ _ _ _ _ g
    case iconst => exact hX _ _ _ _ _ _ g
    case ldc => exact hX _ _ _ _ _ _ g
    case getstatic => exact hX _ _ _ _ _ _ g
    case goto =>
      dsimp only at g ⊢
      cases hb : Nat.ble a ip
      · rw [hb] at g; exact hX _ _ _ _ _ _ g
      · rw [hb] at g
        obtain ⟨is, g⟩ := g
        exact ⟨is, hk_pk_m (fun _ => hX _ _ _ _ _ _) g⟩
    case lconst => dsimp only at g ⊢; split at g <;> first | exact hX _ _ _ _ _ _ g | exact g
    case iload => exact hk_lk_m (fun v q => by cases v <;> first | exact hX _ _ _ _ _ _ q | exact q) _ _ g
    case lload => exact hk_lk_m (fun v q => by cases v <;> first | exact hX _ _ _ _ _ _ q | exact q) _ _ g
    case aload => exact hk_lk_m (fun v q => by cases v <;> first | exact hX _ _ _ _ _ _ q | exact q) _ _ g
    case istore => dsimp only at g ⊢; split at g <;> first | exact hk_fl_m (fun _ => hX _ _ _ _ _ _) _ g | exact g
    case lstore => dsimp only at g ⊢; split at g <;> first | exact hk_fl_m (fun _ => hX _ _ _ _ _ _) _ g | exact g
    case astore => dsimp only at g ⊢; split at g <;> first | exact hk_fl_m (fun _ => hX _ _ _ _ _ _) _ g | exact g
    case iinc => exact hk_lk_m (fun v q => by cases v <;> first | exact hk_fl_m (fun _ => hX _ _ _ _ _ _) _ q | exact q) _ _ g
    case pop => dsimp only at g ⊢; split at g <;> first | exact hX _ _ _ _ _ _ g | exact g
    case dup => dsimp only at g ⊢; split at g <;> first | exact hX _ _ _ _ _ _ g | exact g
    case l2i => dsimp only at g ⊢; split at g <;> first | exact hX _ _ _ _ _ _ g | exact g
    case iadd => exact hk_i2_m (fun _ => hX _ _ _ _ _ _) _ g
    case isub => exact hk_i2_m (fun _ => hX _ _ _ _ _ _) _ g
    case imul => exact hk_i2_m (fun _ => hX _ _ _ _ _ _) _ g
    case iand => exact hk_i2_m (fun _ => hX _ _ _ _ _ _) _ g
    case ior => exact hk_i2_m (fun _ => hX _ _ _ _ _ _) _ g
    case ixor => exact hk_i2_m (fun _ => hX _ _ _ _ _ _) _ g
    case ishl => exact hk_i2_m (fun _ => hX _ _ _ _ _ _) _ g
    case ishr => exact hk_i2_m (fun _ => hX _ _ _ _ _ _) _ g
    case iushr => exact hk_i2_m (fun _ => hX _ _ _ _ _ _) _ g
    case idiv => exact hk_dv_m (fun _ => hX _ _ _ _ _ _) _ g
    case irem => exact hk_dv_m (fun _ => hX _ _ _ _ _ _) _ g
    case fadd => exact hk_m2_m (fun _ => hX _ _ _ _ _ _) _ g
    case fsub => exact hk_m2_m (fun _ => hX _ _ _ _ _ _) _ g
    case fneg => exact hk_m1_m (fun _ => hX _ _ _ _ _ _) _ g
    case ineg => exact hk_i1_m (fun _ => hX _ _ _ _ _ _) _ g
    case i2l => exact hk_i1_m (fun _ => hX _ _ _ _ _ _) _ g
    case i2b => exact hk_i1_m (fun _ => hX _ _ _ _ _ _) _ g
    case i2s => exact hk_i1_m (fun _ => hX _ _ _ _ _ _) _ g
    case i2c => exact hk_i1_m (fun _ => hX _ _ _ _ _ _) _ g
    case ladd => exact hk_l2_m (fun _ => hX _ _ _ _ _ _) _ g
    case lsub => exact hk_l2_m (fun _ => hX _ _ _ _ _ _) _ g
    case lmul => exact hk_l2_m (fun _ => hX _ _ _ _ _ _) _ g
    case land => exact hk_l2_m (fun _ => hX _ _ _ _ _ _) _ g
    case lor => exact hk_l2_m (fun _ => hX _ _ _ _ _ _) _ g
    case lcmp => exact hk_l2_m (fun _ => hX _ _ _ _ _ _) _ g
    case lshl => exact hk_ls_m (fun _ => hX _ _ _ _ _ _) _ g
    case lshr => exact hk_ls_m (fun _ => hX _ _ _ _ _ _) _ g
    case lushr => exact hk_ls_m (fun _ => hX _ _ _ _ _ _) _ g
    case ifCond => exact hk_if1_m (fun _ => hX _ _ _ _ _ _) (fun _ => hX _ _ _ _ _ _) _ g
    case if_icmp => exact hk_if2_m (fun _ => hX _ _ _ _ _ _) (fun _ => hX _ _ _ _ _ _) _ g
    case ifnull => exact hk_nul_m (fun _ => hX _ _ _ _ _ _) (fun _ => hX _ _ _ _ _ _) _ g
    case ifnonnull => exact hk_nul_m (fun _ => hX _ _ _ _ _ _) (fun _ => hX _ _ _ _ _ _) _ g
    case tableswitch => exact hk_sw_m (fun _ _ => hX _ _ _ _ _ _) _ g
    case getfield => exact hk_gf_m (fun _ => hX _ _ _ _ _ _) _ g
    case putfield => dsimp only at g ⊢; split at g <;> first | exact hk_pf_m (fun _ _ => hX _ _ _ _ _ _) _ g | exact g
    case iaload => exact hk_ald_m (fun _ => hX _ _ _ _ _ _) _ g
    case laload => exact hk_ald_m (fun _ => hX _ _ _ _ _ _) _ g
    case baload => exact hk_ald_m (fun _ => hX _ _ _ _ _ _) _ g
    case aaload => exact hk_ald2_m (fun _ => hX _ _ _ _ _ _) _ g
    case iastore => exact hk_ast_m (fun _ _ => hX _ _ _ _ _ _) _ g
    case lastore => exact hk_ast_m (fun _ _ => hX _ _ _ _ _ _) _ g
    case bastore => exact hk_ast_m (fun _ _ => hX _ _ _ _ _ _) _ g
    case aastore => exact hk_ast2_m (fun _ _ => hX _ _ _ _ _ _) _ g
    case arraylength => exact hk_len_m (fun _ => hX _ _ _ _ _ _) _ g
    case new => exact ⟨g.1, hX _ _ _ _ _ _ g.2⟩
    case newarray => exact hk_nar_m (fun _ _ _ => hX _ _ _ _ _ _) _ g
    case anewarray => exact hk_nar_m (fun _ _ _ => hX _ _ _ _ _ _) _ g
    case invokedynamic => dsimp only at g ⊢; split at g <;> first | exact hk_bif_m (hX _ _ _ _ _ _) g | exact g
    case invokeinterface => exact hk_cpy_m (fun _ _ => hX _ _ _ _ _ _) _ g
    case invokevirtual => exact hk_pop_m (fun _ _ q => hk_bif_m (hk_rc_m (hk_alc_m (fun _ _ => hc _ _ _ _ _ (fun _ _ => hk_rv_m (fun _ => hX _ _ _ _ _ _) _)))) q) _ _ _ g
    case invokestatic => exact hk_pop_m (fun _ _ q => hk_bif_m (hk_alc_m (fun _ _ => hc _ _ _ _ _ (fun _ _ => hk_rv_m (fun _ => hX _ _ _ _ _ _) _))) q) _ _ _ g
    case invokespecial => exact hk_pop_m (fun _ _ q => hk_bif_m (hk_rn_m (hk_alc_m (fun _ _ => hc _ _ _ _ _ (fun _ _ => hk_rv_m (fun _ => hX _ _ _ _ _ _) _)))) q) _ _ _ g
    case ireturn => exact hk_ret_m (fun _ => hQ _ _) _ g
    case return_ => dsimp only at g ⊢; split at g <;> first | exact hQ _ _ g | exact g
    all_goals exact g
section Fix
variable {rt : Option FieldType} {C S : Nat} {dft : Nat → Nat → Value} {cd : hk_Cd} {call : hk_C} {Q Q' : hk_Q}
theorem hk_in (hc : hk_cm call) {ip : Nat} {ls : hk_Ls} {st : List Value} {h : hk_Hp} {k n : Nat} (g : hk_step rt C S dft cd call Q (hk_wp rt C S dft cd call Q) ip ls st h k n) : hk_wp rt C S dft cd call Q ip ls st h k n := by
  intro P hP
  exact hP _ _ _ _ _ _ (hk_step_m hc (fun _ _ q => q) (fun _ _ _ _ _ _ q => q P hP) _ _ _ _ _ _ g)
theorem hk_out (hc : hk_cm call) {ip : Nat} {ls : hk_Ls} {st : List Value} {h : hk_Hp} {k n : Nat} (g : hk_wp rt C S dft cd call Q ip ls st h k n) : hk_step rt C S dft cd call Q (hk_wp rt C S dft cd call Q) ip ls st h k n :=
  g _ (fun _ _ _ _ _ _ q => hk_step_m hc (fun _ _ q => q) (fun _ _ _ _ _ _ q => hk_in hc q) _ _ _ _ _ _ q)
theorem hk_run (hc : hk_cm call) : ∀ (f : Nat) {ip : Nat} {ls : hk_Ls} {st : List Value} {h : hk_Hp} {k n : Nat}, hk_go rt C S dft cd call Q f ip ls st h k n → hk_wp rt C S dft cd call Q ip ls st h k n
  | 0, _, _, _, _, _, _, g => g
  | f + 1, _, _, _, _, _, _, g => hk_in hc (hk_step_m hc (fun _ _ q => q) (fun _ _ _ _ _ _ q => hk_run hc f q) _ _ _ _ _ _ g)
theorem hk_stop (hc : hk_cm call) : ∀ (f : Nat) {ip : Nat} {ls : hk_Ls} {st : List Value} {h : hk_Hp} {k n : Nat}, hk_wp rt C S dft cd call Q ip ls st h k n → hk_go rt C S dft cd call Q f ip ls st h k n
  | 0, _, _, _, _, _, _, g => g
  | f + 1, _, _, _, _, _, _, g => hk_step_m hc (fun _ _ q => q) (fun _ _ _ _ _ _ q => hk_stop hc f q) _ _ _ _ _ _ (hk_out hc g)
theorem hk_wp_m (hc : hk_cm call) (hQ : ∀ r h, Q r h → Q' r h) {ip : Nat} {ls : hk_Ls} {st : List Value} {h : hk_Hp} {k n : Nat} (g : hk_wp rt C S dft cd call Q ip ls st h k n) : hk_wp rt C S dft cd call Q' ip ls st h k n :=
  g _ (fun _ _ _ _ _ _ q => hk_in hc (hk_step_m hc hQ (fun _ _ _ _ _ _ q => q) _ _ _ _ _ _ q))
end Fix
