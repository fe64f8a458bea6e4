/-! WORLDS BY ADDRESS: a world is a function from addresses to what lies there -/
abbrev gM : Type := Nat → Option va_E
abbrev gG : Type := va_G × (Nat → ClassId)
def tyL (cA : Nat → ClassId) : List (ClassId × FieldType) := [(cA 0, .int), (cA 1, .boolean), (cA 2, .long), (cA 3, .object "java/lang/Object"), (cA 4, .object "ObjectMapper$Session")]
def mu (M : gM) (a : Nat) (e : va_E) : gM := fun b => if b = a then some e else M b
theorem mu_s (M : gM) (a : Nat) (e : va_E) : mu M a e a = some e := by simp [mu]
theorem mu_n {M : gM} {a b : Nat} {e : va_E} (h : b ≠ a) : mu M a e b = M b := by simp [mu, h]
theorem mu_g {M : gM} {a b : Nat} {e x : va_E} (hb : M b = some x) (h : b ≠ a) : mu M a e b = some x := by rw [mu_n h]; exact hb
theorem mu_mu (M : gM) (a : Nat) (e f : va_E) : mu (mu M a e) a f = mu M a f := by
  funext b
  by_cases h : b = a <;> simp [mu, h]
theorem gM_ne {M : gM} {a b : Nat} {x y : va_E} (ha : M a = some x) (hb : M b = some y) (h : x ≠ y) : a ≠ b := fun e => h (by rw [e, hb] at ha; exact (Option.some.inj ha).symm)
theorem gM_nn {M : gM} {q b : Nat} {x : va_E} (hq : M q = none) (hb : M b = some x) : b ≠ q := fun e => by rw [e, hq] at hb; cases hb
def wd (G : gG) (A : Nat → Prop) (M : gM) (H : Heap) : Prop := ∃ ws : va_W, va_P G.1 vwCl ws H ∧ va_D A ws ∧ ∀ (a : Nat) (e : va_E), M a = some e ↔ (a, e) ∈ ws
def wA (M : gM) (sz : Nat) : Nat → Prop := fun q => (∃ e, M q = some e) ∨ sz ≤ q
abbrev wK (G : gG) (s : State) : Prop := va_K G.1 vwCl (tyL G.2) s
theorem wd.lt {G : gG} {A : Nat → Prop} {M : gM} {H : Heap} (h : wd G A M H) {a : Nat} {e : va_E} (ha : M a = some e) : a < H.size := by
  obtain ⟨ws, hP, hD, hM⟩ := h
  obtain ⟨k, hk⟩ := List.getElem?_of_mem ((hM a e).mp ha)
  exact (hP k _ hk).lt
theorem wd.in {G : gG} {A : Nat → Prop} {M : gM} {H : Heap} (h : wd G A M H) {a : Nat} {e : va_E} (ha : M a = some e) : A a := by
  obtain ⟨ws, hP, hD, hM⟩ := h
  obtain ⟨k, hk⟩ := List.getElem?_of_mem ((hM a e).mp ha)
  exact hD.2 k _ hk
theorem wd.fresh {G : gG} {A : Nat → Prop} {M : gM} {H : Heap} (h : wd G A M H) {a : Nat} (ha : H.size ≤ a) : M a = none := by
  cases e : M a with
  | none => rfl
  | some x => exact absurd (h.lt e) (by omega)
theorem wd.weaken {G : gG} {A B : Nat → Prop} {M : gM} {H : Heap} (h : wd G A M H) (hAB : ∀ q e, M q = some e → B q) : wd G B M H := by
  obtain ⟨ws, hP, hD, hM⟩ := h
  exact ⟨ws, hP, hD.weaken (fun k q hk _ => hAB q.1 q.2 ((hM q.1 q.2).mpr (List.mem_of_getElem? hk))), hM⟩
theorem wd.kept {G : gG} {A : Nat → Prop} {M : gM} {H H1 : Heap} (h : wd G A M H) (hk : ∀ q e, M q = some e → H1[q]? = H[q]?) : wd G A M H1 := by
  obtain ⟨ws, hP, hD, hM⟩ := h
  exact ⟨ws, hP.kept (fun k q hq => hk q.1 q.2 ((hM q.1 q.2).mpr (List.mem_of_getElem? hq))), hD, hM⟩
theorem wd.free {G : gG} {A : Nat → Prop} {M : gM} {H H0 : Heap} {locs : List Loc} (h : wd G A M H) (hS : va_S A H0 H locs) (hA : ∀ q, H0.size ≤ q → A q) : ∀ q, wA M H.size q → A q := by
  intro q hq
  rcases hq with ⟨e, hq⟩ | hq
  · exact h.in hq
  · exact hA q (Nat.le_trans hS.1 hq)
theorem wd_set {M : gM} {ws : va_W} {A : Nat → Prop} {k a : Nat} {e0 e' : va_E} (hD : va_D A ws) (hM : ∀ (a : Nat) (e : va_E), M a = some e ↔ (a, e) ∈ ws) (hk : ws[k]? = some (a, e0)) : ∀ (b : Nat) (e : va_E), mu M a e' b = some e ↔ (b, e) ∈ ws.set k (a, e') := by
  have hl := (List.getElem?_eq_some_iff.mp hk).1
  intro b e
  by_cases hb : b = a
  · subst hb
    rw [mu_s]
    constructor
    · intro h
      cases h
      exact List.mem_of_getElem? (List.getElem?_set_self hl)
    · intro h
      obtain ⟨j, hj⟩ := List.getElem?_of_mem h
      by_cases hjk : j = k
      · subst hjk
        rw [List.getElem?_set_self hl] at hj
        cases hj
        rfl
      · rw [List.getElem?_set_ne (Ne.symm hjk)] at hj
        exact absurd (hD.1 j k _ _ hj hk rfl) hjk
  · rw [mu_n hb, hM b e]
    constructor
    · intro h
      obtain ⟨j, hj⟩ := List.getElem?_of_mem h
      have hjk : j ≠ k := fun q => by
        subst q
        rw [hk] at hj
        cases hj
        exact hb rfl
      exact List.mem_of_getElem? (i := j) (by rw [List.getElem?_set_ne (Ne.symm hjk)]; exact hj)
    · intro h
      obtain ⟨j, hj⟩ := List.getElem?_of_mem h
      by_cases hjk : j = k
      · subst hjk
        rw [List.getElem?_set_self hl] at hj
        cases hj
        exact absurd rfl hb
      · rw [List.getElem?_set_ne (Ne.symm hjk)] at hj
        exact List.mem_of_getElem? hj
theorem wd_push {M : gM} {ws : va_W} {A : Nat → Prop} {a : Nat} {e' : va_E} (hD : va_D A (ws ++ [(a, e')])) (hM : ∀ (a : Nat) (e : va_E), M a = some e ↔ (a, e) ∈ ws) : M a = none ∧ ∀ (b : Nat) (e : va_E), mu M a e' b = some e ↔ (b, e) ∈ ws ++ [(a, e')] := by
  have hn : M a = none := by
    cases h : M a with
    | none => rfl
    | some x =>
      obtain ⟨j, hj⟩ := List.getElem?_of_mem ((hM a x).mp h)
      have hl := (List.getElem?_eq_some_iff.mp hj).1
      have h1 : (ws ++ [(a, e')])[j]? = some (a, x) := by rw [List.getElem?_append_left hl]; exact hj
      have h2 : (ws ++ [(a, e')])[ws.length]? = some (a, e') := by rw [List.getElem?_append_right (Nat.le_refl _), Nat.sub_self]; rfl
      exact absurd (hD.1 _ _ _ _ h1 h2 rfl) (by omega)
  refine ⟨hn, fun b e => ?_⟩
  rw [List.mem_append, List.mem_singleton]
  by_cases hb : b = a
  · subst hb
    rw [mu_s]
    constructor
    · intro h
      cases h
      exact Or.inr rfl
    · intro h
      rcases h with h | h
      · rw [(hM b e).mpr h] at hn
        cases hn
      · cases h
        rfl
  · rw [mu_n hb, hM b e]
    constructor
    · exact Or.inl
    · intro h
      rcases h with h | h
      · exact h
      · cases h
        exact absurd rfl hb
/-- what a method may take as given of the statics and the constants (none of them a cell of its world) -/
def envC : List (String × String) := [("java/lang/IllegalArgumentException", "java/lang/IllegalArgumentException"), ("java/lang/IllegalStateException", "java/lang/IllegalStateException"), ("java/lang/IndexOutOfBoundsException", "java/lang/IndexOutOfBoundsException"), ("ObjectMapper$Entity", "java/lang/Object"), ("ObjectMapper$Row", "java/lang/Object")]
def envN : List (String × String) := [("java/lang/IllegalArgumentException", "java/lang/IllegalStateException"), ("java/lang/IllegalArgumentException", "java/lang/IndexOutOfBoundsException"), ("java/lang/IllegalStateException", "java/lang/IllegalArgumentException"), ("java/lang/IllegalStateException", "java/lang/IndexOutOfBoundsException"), ("java/lang/IndexOutOfBoundsException", "java/lang/IllegalArgumentException"), ("java/lang/IndexOutOfBoundsException", "java/lang/IllegalStateException")]
def envT : List (Nat × String) := [(100, "a book needs an author"), (130, "too many writes"), (144, "the flush fails"), (179, "no such session"), (182, "no such kind"), (184, "name out of range"), (186, "object not known or removed"), (188, "no such row"), (190, "no such write")]
def envK : List (String × Nat × MethodName × String) := [(RX6, 9, yX5_init, RX6), (RX5, 18, yX3_init, RX6), (RX6, 21, yX2_init, RX6), (RX6, 32, yX4_init, RX6), (RX4, 23, yX0_init, RX6), (RX1, 67, yX6_otherKind, RX6)]
def envD : List MethodName := [⟨"java/lang/RuntimeException", "<init>", "(Ljava/lang/String;)V"⟩, ⟨"java/lang/Exception", "<init>", "(Ljava/lang/String;)V"⟩, ⟨"java/lang/Throwable", "<init>", "(Ljava/lang/String;)V"⟩, ⟨"java/lang/Object", "getClass", "()Ljava/lang/Class;"⟩]
def wE (U : State) : Prop := (∀ q ∈ envC, va_Nw (.castable q.1 q.2) U) ∧ (∀ q ∈ envN, va_Nc q.1 q.2 U) ∧ (∀ q ∈ envT, ∃ sa : Nat, vk_R RX6 q.1 q.2 sa U) ∧ va_AO "java/lang/Object" U ∧ va_AO "ObjectMapper$Session" U ∧ (∀ q ∈ envK, va_Nw (.methodLinkNest q.1 q.2.1 q.2.2.1 q.2.2.2) U) ∧ (∀ y ∈ envD, va_Nw (.declares y) U) ∧ ∃ mi : Nat, va_Mi "[Ljava/lang/Object;" mi U
theorem wE.warm {u U : State} (hW : u.WarmedH U.vm) (h : wE u) : wE U := ⟨fun q hq => (h.1 q hq).warmC hW, fun q hq => va_Nc.moved hW.alike (h.2.1 q hq), fun q hq => by obtain ⟨sa, h1⟩ := h.2.2.1 q hq; exact ⟨sa, vk_R.warm hW h1⟩, va_AO.moved hW.alike h.2.2.2.1, va_AO.moved hW.alike h.2.2.2.2.1, fun q hq => (h.2.2.2.2.2.1 q hq).warmM hW, fun q hq => (h.2.2.2.2.2.2.1 q hq).warmD hW, by obtain ⟨mi, h1⟩ := h.2.2.2.2.2.2.2; exact ⟨mi, h1.moved hW.alike⟩⟩
def wZ (dce : Nat) (A : Nat → Prop) (U : State) (H : Heap) : Prop := vx_Zq Bundle.tN "UNASSIGNED_STACK" Bundle.steD A U H ∧ vx_Zq Bundle.tN "SUPPRESSED_SENTINEL" Bundle.listD A U H ∧ va_Z "java/util/ArrayList" "DEFAULTCAPACITY_EMPTY_ELEMENTDATA" "[Ljava/lang/Object;" (.ref dce) A U H ∧ va_T (.object "java/lang/Object") dce 0 (fun _ => .null) A U H ∧ wE U
theorem wZ.warm {dce : Nat} {A : Nat → Prop} {u U : State} {H : Heap} (hW : u.WarmedH U.vm) (h : wZ dce A u H) : wZ dce A U H := ⟨h.1.moved hW.alike, h.2.1.moved hW.alike, h.2.2.1.moved hW.alike, h.2.2.2.1.moved hW.alike, h.2.2.2.2.warm hW⟩
theorem wZ.kept {dce : Nat} {A : Nat → Prop} {U : State} {H H1 : Heap} (h : wZ dce A U H) (hq : ∀ a : Nat, a < H.size → ¬ A a → H1[a]? = H[a]?) : wZ dce A U H1 := ⟨h.1.kept hq, h.2.1.kept hq, h.2.2.1.kept hq, h.2.2.2.1.kept hq, h.2.2.2.2⟩
theorem wZ.narrow {dce : Nat} {A B : Nat → Prop} {U : State} {H : Heap} (h : wZ dce A U H) (hAB : ∀ q, B q → A q) : wZ dce B U H := ⟨h.1.narrow hAB, h.2.1.narrow hAB, h.2.2.1.narrow hAB, h.2.2.2.1.narrow hAB, h.2.2.2.2⟩
/-- a method's start; its end -/
def wB (G : gG) (dce : Nat) (sz : Nat) (M : gM) (U : State) : Prop := U.heap.size = sz ∧ wd G (fun _ => True) M U.heap ∧ wK G U ∧ wZ dce (wA M sz) U U.heap
def wT (G : gG) (M0 : gM) (sz : Nat) (M : gM) (t : State) : Prop := wd G (wA M0 sz) M t.heap ∧ wK G t
theorem wB_blind {G : gG} {dce sz : Nat} {M : gM} {av : List Value} : FrameBlind (va_Pc av (wB G dce sz M)) := fun a U g mk q => by
  obtain ⟨q0, q1, q2, q3, q4⟩ := q
  exact ⟨q0, q1, q2, va_K.moved (u := U) (U := U.calling g mk a) (Vm.Alike.refl U.vm) q3, wZ.warm (u := U) (U := U.calling g mk a) (State.WarmedH.refl U) q4⟩
/-- what stands at a method's head, once for all rows -/
def cX (p : Program) (s : State) (m : MethodId) (meth : Method) (c : Code) (cc : ByteArray) (nL : Nat) (ret : Option FieldType) (Ts : List Cond) (own : String) (args : Array Value) : Prop := p.tables.exec = Jvm.exec ∧ c.code = cc ∧ meth.sig.returnType = ret ∧ (∀ w ∈ Ts, w.before args s = true) ∧ s.vm.findClass own = some m.cls ∧ meth.locks = false ∧ c.maxLocals = nL
theorem wMet {l : Launch} {y : MethodName} {ws ws' : List Cond} {rm : Room} {Qc : (Nat → Prop) → Array Value → State → Outcome → State → Prop} {mc ms : Nat} {cc : ByteArray} {maxL : Nat} {ret : Option FieldType} {G : gG} {dce sz : Nat} {M : gM} {av : List Value}
    (hy : plainName y.cls = true) (hw : ws = Cond.code y cc maxL ret :: ws') (hn : (lg_sl av).length ≤ maxL)
    (body : ∀ (p : Program) (e : Env) (s : State) (m : MethodId) (below : List Frame) (meth : Method) (c : Code) (A : Nat → Prop) (ls : Array Slot), cX p s m meth c cc maxL ret ws y.cls av.toArray → meth.name = y.name → wd G A M s.heap → wK G s → wZ dce A s s.heap → (∀ q : Nat, s.heap.size ≤ q → A q) → va_S A s.heap s.heap [] → sz = s.heap.size → A = wA M sz → lv_has ls maxL (lv_args 0 av) →
      W p l e rm s m av.toArray below meth c s.heap [] 0 0 (MQ below (Qc A) av.toArray s mc ms A) (F0 m 0 ls [])) : Met l y ws rm (va_Pc av (wB G dce sz M)) (Qc (wA M sz)) mc ms (wA M sz) := by
  refine Met.ofW (cc := cc) (maxL := maxL) (ret := ret) hy hw ?_
  intro p e s m args below meth c s₁ B hml hv
  obtain ⟨rfl, rfl, hD, hK, hZ⟩ := hv
  rw [lg_entry_eq]
  exact body p e s m below meth c (wA M s.heap.size) _ ⟨B.exec, B.bytes, B.returns, atoms_spec (ws := ws) B.pre, findClass_of_methodNamed B.named, B.notSynchronized, hml⟩ (name_of_methodNamed B.named B.method).1 (hD.weaken (fun q e h => Or.inl ⟨e, h⟩)) hK hZ (fun q h => Or.inr h) va_S.rf rfl rfl (lv_entry av hn)
theorem xMet {l : Launch} {y : MethodName} {ws ws' : List Cond} {rm : Room} {Qc : (Nat → Prop) → Array Value → State → Outcome → State → Prop} {XC : (Nat → Prop) → String → State → State → Prop} {mc ms : Nat} {cc : ByteArray} {maxL : Nat} {ret : Option FieldType} {G : gG} {dce sz : Nat} {M : gM} {av : List Value}
    (hy : plainName y.cls = true) (hw : ws = Cond.code y cc maxL ret :: ws') (hn : (lg_sl av).length ≤ maxL)
    (body : ∀ (p : Program) (e : Env) (s : State) (m : MethodId) (below : List Frame) (meth : Method) (c : Code) (A : Nat → Prop) (ls : Array Slot), cX p s m meth c cc maxL ret ws y.cls av.toArray → (∀ x ∈ c.exceptionTable.toList, False) → meth.name = y.name → wd G A M s.heap → wK G s → wZ dce A s s.heap → (∀ q : Nat, s.heap.size ≤ q → A q) → va_S A s.heap s.heap [] → sz = s.heap.size → A = wA M sz → lv_has ls maxL (lv_args 0 av) →
      W p l e rm s m av.toArray below meth c s.heap [] 0 0 (vx_MQ below (Qc A) (XC A) av.toArray s mc ms A) (F0 m 0 ls [])) : vx_Met l y ws rm (va_Pc av (wB G dce sz M)) (Qc (wA M sz)) (XC (wA M sz)) mc ms (wA M sz) := by
  refine vx_ofW (cc := cc) (maxL := maxL) (ret := ret) hy hw ?_
  intro p e s m args below meth c s₁ B hml hno hv
  obtain ⟨rfl, rfl, hD, hK, hZ⟩ := hv
  rw [lg_entry_eq]
  exact body p e s m below meth c (wA M s.heap.size) _ ⟨B.exec, B.bytes, B.returns, atoms_spec (ws := ws) B.pre, findClass_of_methodNamed B.named, B.notSynchronized, hml⟩ hno (name_of_methodNamed B.named B.method).1 (hD.weaken (fun q e h => Or.inl ⟨e, h⟩)) hK hZ (fun q h => Or.inr h) va_S.rf rfl rfl (lv_entry av hn)
section ROWS
variable {p : Program} {l : Launch} {e : Env} {R : Room} {s : State} {m : MethodId} {args : Array Value} {below : List Frame} {meth : Method} {c : Code} {H : Heap} {locs : List Loc} {cells slots : Nat} {Q : State → Prop}
variable {cc : ByteArray} {pc nL : Nat} {ls : Array Slot} {rest : List Value} {G : gG} {A : Nat → Prop} {a : Nat} {M : gM} {H0 : Heap} {ret : Option FieldType} {Ts : List Cond} {own : String}
theorem m_get (X : cX p s m meth c cc nL ret Ts own args) {ref C : String} {T : u_T} {N ci index : Nat} (hin : ∀ w ∈ u_ws C T N, w ∈ Ts) (hK : wK G s) (hw : wd G A M H) {fs : List Value} (he : M a = some (.inr (ci, fs))) (hc : vwCl[ci]? = some (C, T, N)) (k : Nat) (hk : k < N) (hlink : Cond.fieldLink own index ref (T k).2.1 (T k).2.2.1 ∈ Ts) (href : (T k).1 = ref ∨ Cond.sameField ref (T k).1 (T k).2.1 (T k).2.2.1 ∈ Ts) {v : Value} (hv : fs[k]? = some v) (hdg : decode cc pc = .ok (.getfield index, 3))
    (kk : W p l e R s m args below meth c H locs cells slots Q (F0 m (pc + 3) ls (v :: rest))) : W p l e R s m args below meth c H locs cells slots Q (F0 m pc ls (.ref a :: rest)) := by
  obtain ⟨hx, hb, hr, hts, hown, hlk, hml⟩ := X
  obtain ⟨ws, hP, hD, hM⟩ := hw
  obtain ⟨k0, hk0⟩ := List.getElem?_of_mem ((hM a _).mp he)
  exact va_get hx hb hts hin hown hK hP k0 hk0 hc k hk (hts _ hlink) (fun x h => href.elim (fun e => by rw [← e]; exact h) (fun e => u_same (hts _ e) x h)) hv hdg kk
theorem m_put (X : cX p s m meth c cc nL ret Ts own args) {ref C : String} {T : u_T} {N ci index : Nat} (hin : ∀ w ∈ u_ws C T N, w ∈ Ts) {ty0 : Nat → FieldType} (hty : ∀ k, k < N → parseFieldDescriptor (T k).2.2.1 = some (ty0 k)) (hnm : ∀ a, a < N → ∀ b, b < N → a ≠ b → (T a).2.1 ≠ (T b).2.1) (hK : wK G s) (hw : wd G A M H) (hS : va_S A H0 H locs) {fs : List Value} (he : M a = some (.inr (ci, fs))) (hc : vwCl[ci]? = some (C, T, N)) (k : Nat) (hk : k < N) (hlink : Cond.fieldLink own index ref (T k).2.1 (T k).2.2.1 ∈ Ts) (href : (T k).1 = ref ∨ Cond.sameField ref (T k).1 (T k).2.1 (T k).2.2.1 ∈ Ts) (hfin : (T k).2.2.2 = false) {v : Value} (hn : narrow (ty0 k) v = v) (hfit : fits (ty0 k) v = true) (hl : k < fs.length) {fs1 : List Value} (hfs1 : fs.set k v = fs1)
    (hdg : decode cc pc = .ok (.putfield index, 3)) (kk : ∀ (M1 : gM) (H1 : Heap) (locs1 : List Loc), M1 = mu M a (.inr (ci, fs1)) → wd G A M1 H1 → va_S A H0 H1 locs1 → W p l e R s m args below meth c H1 locs1 cells slots Q (F0 m (pc + 3) ls rest)) : W p l e R s m args below meth c H locs cells slots Q (F0 m pc ls (v :: .ref a :: rest)) := by
  obtain ⟨hx, hb, hr, hts, hown, hlk, hml⟩ := X
  obtain ⟨ws, hP, hD, hM⟩ := hw
  obtain ⟨k0, hk0⟩ := List.getElem?_of_mem ((hM a _).mp he)
  subst hfs1
  exact va_put hx hb hts hin ty0 hty hnm hown hK hP hD hS k0 hk0 hc k hk (hts _ hlink) (fun x h => href.elim (fun e => by rw [← e]; exact h) (fun e => u_same (hts _ e) x h)) hfin (hty k hk) hn hfit hl hdg (fun H1 locs1 hP1 hD1 hS1 => kk _ H1 locs1 rfl ⟨_, hP1, hD1, wd_set hD hM hk0⟩ hS1)
theorem m_putF (X : cX p s m meth c cc nL ret Ts own args) {ref C : String} {T : u_T} {N ci index : Nat} (hin : ∀ w ∈ u_ws C T N, w ∈ Ts) {ty0 : Nat → FieldType} (hty : ∀ k, k < N → parseFieldDescriptor (T k).2.2.1 = some (ty0 k)) (hnm : ∀ a, a < N → ∀ b, b < N → a ≠ b → (T a).2.1 ≠ (T b).2.1) (hK : wK G s) (hw : wd G A M H) (hS : va_S A H0 H locs) {fs : List Value} (he : M a = some (.inr (ci, fs))) (hc : vwCl[ci]? = some (C, T, N)) (k : Nat) (hk : k < N) (hlink : Cond.fieldLink own index ref (T k).2.1 (T k).2.2.1 ∈ Ts) (href : (T k).1 = ref ∨ Cond.sameField ref (T k).1 (T k).2.1 (T k).2.2.1 ∈ Ts) (hfin : (T k).2.2.2 = true) (hin2 : meth.name = "<init>") (hdecl : (T k).1 = own) {v : Value} (hn : narrow (ty0 k) v = v) (hfit : fits (ty0 k) v = true) (hl : k < fs.length) {fs1 : List Value} (hfs1 : fs.set k v = fs1)
    (hdg : decode cc pc = .ok (.putfield index, 3)) (kk : ∀ (M1 : gM) (H1 : Heap) (locs1 : List Loc), M1 = mu M a (.inr (ci, fs1)) → wd G A M1 H1 → va_S A H0 H1 locs1 → W p l e R s m args below meth c H1 locs1 cells slots Q (F0 m (pc + 3) ls rest)) : W p l e R s m args below meth c H locs cells slots Q (F0 m pc ls (v :: .ref a :: rest)) := by
  obtain ⟨hx, hb, hr, hts, hown, hlk, hml⟩ := X
  obtain ⟨ws, hP, hD, hM⟩ := hw
  obtain ⟨k0, hk0⟩ := List.getElem?_of_mem ((hM a _).mp he)
  subst hfs1
  exact va_putF hx hb hts hin ty0 hty hnm hown hK hP hD hS k0 hk0 hc k hk (hts _ hlink) (fun x h => href.elim (fun e => by rw [← e]; exact h) (fun e => u_same (hts _ e) x h)) hfin hin2 hdecl (hty k hk) hn hfit hl hdg (fun H1 locs1 hP1 hD1 hS1 => kk _ H1 locs1 rfl ⟨_, hP1, hD1, wd_set hD hM hk0⟩ hS1)
theorem m_new (X : cX p s m meth c cc nL ret Ts own args) {C : String} {T : u_T} {N ci index : Nat} (hin : ∀ w ∈ u_ws C T N, w ∈ Ts) {ty : Nat → FieldType} (hty : ∀ k, k < N → parseFieldDescriptor (T k).2.2.1 = some (ty k)) (hcl : Cond.classLink own index C ∈ Ts) (hinst : Cond.instantiable C N ∈ Ts) (hini : Cond.initialized C ∈ Ts)
    (hK : wK G s) (hw : wd G A M H) (hS : va_S A H0 H locs) (hA : ∀ q, H0.size ≤ q → A q) (hc : vwCl[ci]? = some (C, T, N)) {fs : List Value} (hfs : (List.range N).map (fun j => defaultValue (ty j)) = fs) (hcells : cells + 1 ≤ R.cells) (hslots : slots + N ≤ R.slots) (hdg : decode cc pc = .ok (.new index, 3))
    (kk : ∀ (q : Nat) (M1 : gM) (H1 : Heap), M q = none → M1 = mu M q (.inr (ci, fs)) → wd G A M1 H1 → va_S A H0 H1 locs →
      W p l e R s m args below meth c H1 locs (cells + 1) (slots + N) Q (F0 m (pc + 3) ls (.ref q :: rest))) : W p l e R s m args below meth c H locs cells slots Q (F0 m pc ls rest) := by
  obtain ⟨hx, hb, hr, hts, hown, hlk, hml⟩ := X
  obtain ⟨ws, hP, hD, hM⟩ := hw
  refine va_new hx hb hts hin ty hty hown (hts _ hcl) (hts _ hinst) (hts _ hini) hK hP hD hS hA hc (fs := fs) (fun j hj => ?_) hcells hslots hdg (fun q H1 hP1 hD1 hS1 => ?_)
  · subst hfs
    simp [vp_V, List.getD, hj]
  · obtain ⟨h1, h2⟩ := wd_push hD1 hM
    exact kk q _ H1 h1 rfl ⟨_, hP1, hD1, h2⟩ hS1
theorem m_iald (X : cX p s m meth c cc nL ret Ts own args) (hK : wK G s) (hw : wd G A M H) {n : Nat} {f : Nat → Int32} (he : M a = some (.inl (G.2 0, n, .inl f))) {i : Int32} (hin : vp_in i n) (hdg : decode cc pc = .ok (.iaload, 1))
    (kk : W p l e R s m args below meth c H locs cells slots Q (F0 m (pc + 1) ls (.int (f i.toNatClampNeg) :: rest))) : W p l e R s m args below meth c H locs cells slots Q (F0 m pc ls (.int i :: .ref a :: rest)) := by
  obtain ⟨ws, hP, hD, hM⟩ := hw
  obtain ⟨k0, hk0⟩ := List.getElem?_of_mem ((hM a _).mp he)
  exact va_iald X.1 X.2.1 hK hP k0 0 hk0 rfl hin hdg kk
theorem m_zald (X : cX p s m meth c cc nL ret Ts own args) (hK : wK G s) (hw : wd G A M H) {n : Nat} {f : Nat → Int32} (he : M a = some (.inl (G.2 1, n, .inl f))) {i : Int32} (hin : vp_in i n) (hdg : decode cc pc = .ok (.baload, 1))
    (kk : W p l e R s m args below meth c H locs cells slots Q (F0 m (pc + 1) ls (.int (f i.toNatClampNeg) :: rest))) : W p l e R s m args below meth c H locs cells slots Q (F0 m pc ls (.int i :: .ref a :: rest)) := by
  obtain ⟨ws, hP, hD, hM⟩ := hw
  obtain ⟨k0, hk0⟩ := List.getElem?_of_mem ((hM a _).mp he)
  exact va_zald X.1 X.2.1 hK hP k0 1 hk0 rfl hin hdg kk
theorem m_lald (X : cX p s m meth c cc nL ret Ts own args) (hK : wK G s) (hw : wd G A M H) {n : Nat} {f : Nat → Int64} (he : M a = some (.inl (G.2 2, n, .inr (.inl f)))) {i : Int32} (hin : vp_in i n) (hdg : decode cc pc = .ok (.laload, 1))
    (kk : W p l e R s m args below meth c H locs cells slots Q (F0 m (pc + 1) ls (.long (f i.toNatClampNeg) :: rest))) : W p l e R s m args below meth c H locs cells slots Q (F0 m pc ls (.int i :: .ref a :: rest)) := by
  obtain ⟨ws, hP, hD, hM⟩ := hw
  obtain ⟨k0, hk0⟩ := List.getElem?_of_mem ((hM a _).mp he)
  exact va_lald X.1 X.2.1 hK hP k0 2 hk0 rfl hin hdg kk
theorem m_alen (X : cX p s m meth c cc nL ret Ts own args) (hK : wK G s) (hw : wd G A M H) {cA : ClassId} {x : vp_A} (he : M a = some (.inl (cA, x))) (t0 : Nat) {ty : FieldType} (ht : (tyL G.2)[t0]? = some (cA, ty)) (hdg : decode cc pc = .ok (.arraylength, 1))
    (kk : W p l e R s m args below meth c H locs cells slots Q (F0 m (pc + 1) ls (.int (nI x.1) :: rest))) : W p l e R s m args below meth c H locs cells slots Q (F0 m pc ls (.ref a :: rest)) := by
  obtain ⟨ws, hP, hD, hM⟩ := hw
  obtain ⟨k0, hk0⟩ := List.getElem?_of_mem ((hM a _).mp he)
  exact va_alen X.1 X.2.1 hK hP k0 t0 hk0 ht rfl hdg kk
end ROWS

def bI (b : Bool) : Int32 := if b then 1 else 0
theorem bI_nar (b : Bool) : narrow .boolean (.int (bI b)) = .int (bI b) := by cases b <;> decide
theorem bI_fit (b : Bool) : fits .boolean (.int (bI b)) = true := by cases b <;> decide
theorem bI_vp (b : Bool) : vp_nar .boolean (bI b) = bI b := by cases b <;> decide
theorem bI_0 (b : Bool) : bI b = 0 ↔ b = false := by cases b <;> decide
theorem bI_1 (b : Bool) : bI b = 1 ↔ b = true := by cases b <;> decide
/-- an object of a session, a row -/
abbrev vE : Type := Bool × Bool × Bool × Int32 × Int32 × Int32 × Int32 × Int32
abbrev vR : Type := Bool × Int32 × Int32 × Int32
def eE : vE → va_E := fun (b1, b2, b3, nm, rf, sn, sr, sv) => .inr (1, [.int (bI b1), .int (bI b2), .int (bI b3), .int nm, .int rf, .int sn, .int sr, .int sv])
def eR : vR → va_E := fun (b, nm, rf, ve) => .inr (4, [.int (bI b), .int nm, .int rf, .int ve])
def fLive : vE → Bool := fun (b1, b2, _) => b1 && !b2
def fRefs : vE → Int32 → Bool := fun (b1, b2, _, _, rf, _) t => (b1 && !b2) && decide (rf = t)
def fNew : vE → Bool := fun (b1, _, b3, _) => b1 && !b3
def fChg : vE → Bool := fun (_, _, b3, nm, rf, sn, sr, _) => b3 && (decide (nm ≠ sn) || decide (rf ≠ sr))
def fClash : vE → vR → Bool := fun (b1, b2, b3, nm, rf, sn, sr, sv) (b, _, _, ve) => (fChg (b1, b2, b3, nm, rf, sn, sr, sv) || b2) && (!b || decide (ve ≠ sv))
def fMake : vE → Int32 → Int32 → vE := fun (_, b2, b3, _, _, sn, sr, sv) nm rf => (true, b2, b3, nm, rf, sn, sr, sv)
def fSnap : vE → vR → vE := fun (b1, b2, _, nm, rf, _, _, _) (_, rn, rr, rv) => (b1, b2, true, nm, rf, rn, rr, rv)
def fLoad : vE → vR → vE := fun v r => fSnap (fMake v r.2.1 r.2.2.1) r
def fForget : vE → vE := fun (_, _, _, nm, rf, sn, sr, sv) => (false, false, false, nm, rf, sn, sr, sv)
def fStrike : vE → vE := fun (b1, b2, b3, nm, rf, sn, sr, sv) => if b3 then (b1, true, b3, nm, rf, sn, sr, sv) else (false, false, false, nm, rf, sn, sr, sv)
def fIns : vR → Int32 → Int32 → vR := fun _ nm rf => (true, nm, rf, 0)
def fUpd : vR → Int32 → Int32 → vR := fun (b, _, _, ve) nm rf => (b, nm, rf, ve + 1)
theorem fr_none {M Mi : gM} {h q : Nat} {x : va_E} (f : ∀ b e, M b = some e → b ≠ h → Mi b = some e) (hq : Mi q = none) (hh : Mi h = some x) : M q = none := by
  cases e : M q with
  | none => rfl
  | some y =>
    by_cases q9 : q = h
    · rw [q9, hh] at hq
      cases hq
    · rw [f q y e q9] at hq
      cases hq
