/-! SOUNDNESS, 3: closed under the steps -/
def hk_rm (d C S : Nat) : Room := { frames := d, cells := C, slots := S, locals := 100 * d }
/-- what a call of a method of the table is to the model -/
def hk_Mt (l : Launch) (ex : Nat → Nat) (B : Nat) (vX : Value) (H0 : Heap) (dC : Nat → ClassId) (dI : Nat → Nat → Nat) (d M : Nat) (as : List Value) (h : hk_Hp) (Q : hk_Q) : Prop :=
  ∀ cd rt C S mx, hk_nth hk_bds M = some (cd, rt, C, S, mx) → Met l (hk_my M) [.code (hk_my M) (hk_mb M) (hk_ml M) (hk_mr M)] (hk_rm d C S)
    (fun a U => a = (as.map (hk_cv ex B vX)).toArray ∧ hk_Env ex B vX H0 dC dI U ∧ hk_Rel ex B vX H0 dC dI U U.heap h)
    (fun _ _ o t => ∃ r h', o = .returned (r.map (hk_cv ex B vX)) ∧ Q r h' ∧ hk_Rel ex B vX H0 dC dI t t.heap h') C S (fun q => B ≤ q)
/-- what stands around a method's body -/
def hk_Cx (p : Program) (l : Launch) (R : Room) (s : State) (m : MethodId) (meth : Method) (c : Code) (ex : Nat → Nat) (B : Nat) (vX : Value) (H0 : Heap) (dC : Nat → ClassId) (dI : Nat → Nat → Nat) (d : Nat) (cd : hk_Cd) (call : hk_C) (own : Nat) (ini : Bool) (mx C S : Nat) (bs : ByteArray) : Prop :=
  p.tables.exec = Jvm.exec ∧ c.code = bs ∧ c.maxLocals = mx ∧ s.vm.findClass (hk_cn own) = some m.cls ∧ hk_Env ex B vX H0 dC dI s ∧ (ini = true → meth.name = "<init>") ∧
  (∀ ip e, hk_at cd ip = some e → hk_chk cd own ini mx bs e = true) ∧ (∀ M as h Q, call M as h Q → hk_Mt l ex B vX H0 dC dI d M as h Q) ∧ (d + 1 ≤ R.frames ∧ 100 * (d + 1) ≤ R.locals ∧ C ≤ R.cells ∧ S ≤ R.slots)
def hk_cvl (ex : Nat → Nat) (B : Nat) (vX : Value) (ls : hk_Ls) : List (Nat × Value) := ls.map (fun q => (q.1, hk_cv ex B vX q.2))
def hk_PP (p : Program) (l : Launch) (e : Env) (R : Room) (s : State) (m : MethodId) (args : Array Value) (below : List Frame) (meth : Method) (c : Code) (Qf : State → Prop) (ex : Nat → Nat) (B : Nat) (vX : Value) (H0 : Heap) (dC : Nat → ClassId) (dI : Nat → Nat → Nat) (cd : hk_Cd) (mx C S : Nat) : hk_X := fun ip ls st h k n =>
  ∀ (H : Heap) (locs : List Loc) (la : Array Slot), lv_has la mx (hk_cvl ex B vX ls) → hk_Rel ex B vX H0 dC dI s H h → (∀ q ∈ locs, B ≤ q.base) → k ≤ C → n ≤ S → W p l e R s m args below meth c H locs k n Qf (F0 m (hk_pc cd ip) la (st.map (hk_cv ex B vX)))
theorem hk_dn {bs : ByteArray} {cd : hk_Cd} {pc nx k : Nat} {i : Instr} (h : (hk_dq bs pc i k && Nat.beq (hk_pc cd nx) (pc + k)) = true) : decode bs pc = .ok (i, k) ∧ hk_pc cd nx = pc + k := by
  rw [Bool.and_eq_true] at h
  exact ⟨of_decide_eq_true h.1, Nat.eq_of_beq_eq_true h.2⟩
theorem hk_any {α : Type} {l : List α} {p : α → Bool} {f : α → Bool} (h : l.any p = true) (hl : l.all f = true) : ∃ e, e ∈ l ∧ p e = true ∧ f e = true := by
  obtain ⟨e, h1, h2⟩ := List.any_eq_true.mp h
  exact ⟨e, h1, h2, List.all_eq_true.mp hl e h1⟩
section Snd3
variable {p : Program} {l : Launch} {e : Env} {R : Room} {s : State} {m : MethodId} {args : Array Value} {below : List Frame} {meth : Method} {c : Code} {Qf : State → Prop} {ex : Nat → Nat} {B : Nat} {vX : Value} {H0 : Heap} {dC : Nat → ClassId} {dI : Nat → Nat → Nat} {d : Nat} {cd : hk_Cd} {call : hk_C} {own : Nat} {ini : Bool} {mx C S : Nat} {bs : ByteArray}
variable {H : Heap} {locs : List Loc} {la : Array Slot} {ls : hk_Ls} {st : List Value} {h : hk_Hp} {k n pc nx : Nat}
theorem hk_word (X : hk_Cx p l R s m meth c ex B vX H0 dC dI d cd call own ini mx C S bs) {w : Cond} (h : w ∈ lw_tbl ∧ hk_good w = true) : w.before args s = true := X.2.2.2.2.1.1 w h.1 h.2 args
/-- on with the next place -/
theorem hk_nx {cat : Nat} (g : hk_PP p l e R s m args below meth c Qf ex B vX H0 dC dI cd mx C S nx ls st h k n) (hN : hk_pc cd nx = cat) (hl : lv_has la mx (hk_cvl ex B vX ls)) (hR : hk_Rel ex B vX H0 dC dI s H h) (hq : ∀ q ∈ locs, B ≤ q.base) (hk : k ≤ C) (hn : n ≤ S) : W p l e R s m args below meth c H locs k n Qf (F0 m cat la (st.map (hk_cv ex B vX))) := by
  have := g H locs la hl hR hq hk hn
  rwa [hN] at this
/-- a call that has come back: its outcome, and the heap behind it -/
theorem hk_back {Q : hk_Q} {mc ms : Nat} {g : JFrame} {rest : List Value} {la : Array Slot} {st0 : List Value} (hg : g = F0 m pc la st0) (hr : va_Run p l e R s m args below meth c H locs k n mc ms g rest (fun _ o t => ∃ r h', o = .returned (r.map (hk_cv ex B vX)) ∧ Q r h' ∧ hk_Rel ex B vX H0 dC dI t t.heap h') (fun q => B ≤ q)) (hq : ∀ q ∈ locs, B ≤ q.base)
    (kk : ∀ (r : Option Value) (h' : hk_Hp) (H1 : Heap) (locs1 : List Loc), Q r h' → hk_Rel ex B vX H0 dC dI s H1 h' → (∀ q ∈ locs1, B ≤ q.base) → W p l e R s m args below meth c H1 locs1 (k + mc) (n + ms) Qf (F0 m (pc + 3) la ((r.map (hk_cv ex B vX)).toList ++ rest))) : W p l e R s m args below meth c H locs k n Qf g := by
  intro T hT X
  obtain ⟨v, st₀, t, T', L, h0, X', hL, e1, e2, ⟨r, h', hv, hQ, hR⟩, go⟩ := hr T hT X
  cases hv
  have hR' : hk_Rel ex B vX H0 dC dI s T'.heap h' := by
    rw [e1]
    exact hk_Rel_moved (by rw [← e2]; exact X'.warmed.alike.symm) hR
  obtain ⟨t2, a1, b1⟩ := kk r h' T'.heap (locs ++ L) hQ hR' (fun q hq' => by
    rcases List.mem_append.mp hq' with z | z
    · exact hq q z
    · exact hL q z) T' rfl X'
  subst hg
  exact ⟨t2, go t2 a1, b1⟩
theorem hk_blind (as : List Value) (h : hk_Hp) : FrameBlind (fun a U => a = (as.map (hk_cv ex B vX)).toArray ∧ hk_Env ex B vX H0 dC dI U ∧ hk_Rel ex B vX H0 dC dI U U.heap h) := by
  intro a U g mk q
  exact ⟨q.1, hk_Env_warm (s := U) (U := U.calling g mk a) (State.WarmedH.refl U) q.2.1, hk_Rel_moved (s := U) (U := U.calling g mk a) (Vm.Alike.refl U.vm) q.2.2⟩
/-- the words of a callee -/
theorem hk_callB (X : hk_Cx p l R s m meth c ex B vX H0 dC dI d cd call own ini mx C S bs) {M idx b : Nat} {C' S' : Nat} (hc : hk_cP M) (hlink : (Cond.methodLink (hk_cn own) idx (hk_my M)).before args s = true) (hini : (Cond.initialized (hk_my M).cls).before args s = true) (hmh : hk_noMH (hk_my M) = true) (hml : hk_ml M ≤ 40) (hds : hk_dsc M = some b) :
    CallB R s args (hk_cn own) idx (hk_my M) (hk_mb M) (hk_ml M) (hk_mr M) [.code (hk_my M) (hk_mb M) (hk_ml M) (hk_mr M)] (hk_rm d C' S') C' S' b := by
  have hw := X.2.2.2.2.1.1 _ hc rfl
  have hroom := X.2.2.2.2.2.2.2.2
  refine ⟨rfl, rfl, hroom.1, ?_, fun w hw' a' U hU => ?_, List.mem_cons_self, hw args, hini, of_decide_eq_true hmh, fun sig hs => ?_, hlink⟩
  · have : 8 + (hk_ml M + 11) + 100 * d ≤ 100 * (d + 1) := by omega
    exact Nat.le_trans this hroom.2.1
  · rw [List.mem_singleton.mp hw']
    exact (hk_Env_warm hU X.2.2.2.2.1).1 _ hc rfl a'
  · unfold hk_dsc at hds
    rw [hs] at hds
    exact (Option.some.inj hds).symm
end Snd3
