section ROWS3
variable {p : Program} {l : Launch} {e : Env} {R : Room} {s : State} {m : MethodId} {args : Array Value} {below : List Frame} {meth : Method} {c : Code} {H : Heap} {locs : List Loc} {cells slots : Nat} {Q : State → Prop}
variable {cc : ByteArray} {pc nL : Nat} {ls : Array Slot} {rest : List Value} {G : gG} {A : Nat → Prop} {a : Nat} {M : gM} {H0 : Heap} {ret : Option FieldType} {Ts : List Cond} {own : String}
theorem m_copyi (X : cX p s m meth c cc nL ret Ts own args) {index : Nat} (hsz : ls.size = nL) (hlink : Cond.methodLink own index arraycopyName ∈ Ts) (hnat : Cond.native arraycopyName ∈ Ts) (hstat : Cond.static arraycopyName ∈ Ts) (hini : Cond.initialized "java/lang/System" ∈ Ts) (hK : wK G s) (hw : wd G A M H) (hS : va_S A H0 H locs) {a0 n0 n1 : Nat} {f g : Nat → Int32} (he0 : M a0 = some (.inl (G.2 0, n0, .inl f))) (he1 : M a = some (.inl (G.2 0, n1, .inl g)))
    {sp dp n : Int32} (h1 : ¬ sp < 0) (h2 : ¬ dp < 0) (h3 : ¬ n < 0) (h4 : sp.toNatClampNeg + n.toNatClampNeg ≤ n0) (h5 : dp.toNatClampNeg + n.toNatClampNeg ≤ n1) (hframes : 1 ≤ R.frames) (hlocals : (rest.map fun v => v.category).sum + (nativeFrameWords "java/lang/System" "arraycopy" 5 + 11) ≤ R.locals) (hdg : decode cc pc = .ok (.invokestatic index, 3))
    (kk : ∀ (M1 : gM) (H1 : Heap) (locs1 : List Loc), M1 = mu M a (.inl (G.2 0, n1, .inl (va_cpy f g sp.toNatClampNeg dp.toNatClampNeg n.toNatClampNeg))) → wd G A M1 H1 → va_S A H0 H1 locs1 → W p l e R s m args below meth c H1 locs1 cells slots Q (F0 m (pc + 3) ls rest)) : W p l e R s m args below meth c H locs cells slots Q (F0 m pc ls (.int n :: .int dp :: .ref a :: .int sp :: .ref a0 :: rest)) := by
  obtain ⟨ws, hP, hD, hM⟩ := hw
  obtain ⟨k0, hk0⟩ := List.getElem?_of_mem ((hM a0 _).mp he0)
  obtain ⟨k1, hk1⟩ := List.getElem?_of_mem ((hM a _).mp he1)
  exact va_copyi X.1 X.2.1 (X.2.2.2.2.2.2.trans hsz.symm) X.2.2.2.2.1 (X.2.2.2.1 _ hlink) (X.2.2.2.1 _ hnat) (X.2.2.2.1 _ hstat) (X.2.2.2.1 _ hini) hK hP hD hS k0 k1 0 0 hk0 hk1 rfl rfl rfl h1 h2 h3 h4 h5 (fun _ _ => rfl) hframes hlocals hdg (fun H1 locs1 hP1 hD1 hS1 => kk _ H1 locs1 rfl ⟨_, hP1, hD1, wd_set hD hM hk1⟩ hS1)
theorem m_copyq (X : cX p s m meth c cc nL ret Ts own args) {index : Nat} (hsz : ls.size = nL) (hlink : Cond.methodLink own index arraycopyName ∈ Ts) (hnat : Cond.native arraycopyName ∈ Ts) (hstat : Cond.static arraycopyName ∈ Ts) (hini : Cond.initialized "java/lang/System" ∈ Ts) (hK : wK G s) (hw : wd G A M H) (hS : va_S A H0 H locs) {a0 n0 n1 : Nat} {f g : Nat → Option Nat} (he0 : M a0 = some (.inl (G.2 3, n0, .inr (.inr (.inr (.inr f)))))) (he1 : M a = some (.inl (G.2 3, n1, .inr (.inr (.inr (.inr g))))))
    {sp dp n : Int32} (h1 : ¬ sp < 0) (h2 : ¬ dp < 0) (h3 : ¬ n < 0) (h4 : sp.toNatClampNeg + n.toNatClampNeg ≤ n0) (h5 : dp.toNatClampNeg + n.toNatClampNeg ≤ n1) (hel : ∀ i : Nat, i < n.toNatClampNeg → ∀ y : Nat, f (sp.toNatClampNeg + i) = some y → ∃ (ci : Nat) (fs : List Value) (nm : String) (T9 : u_T) (N9 : Nat), M y = some (.inr (ci, fs)) ∧ vwCl[ci]? = some (nm, T9, N9) ∧ va_Nw (.castable nm "java/lang/Object") s)
    (hframes : 1 ≤ R.frames) (hlocals : (rest.map fun v => v.category).sum + (nativeFrameWords "java/lang/System" "arraycopy" 5 + 11) ≤ R.locals) (hdg : decode cc pc = .ok (.invokestatic index, 3))
    (kk : ∀ (M1 : gM) (H1 : Heap) (locs1 : List Loc), M1 = mu M a (.inl (G.2 3, n1, .inr (.inr (.inr (.inr (va_cpy f g sp.toNatClampNeg dp.toNatClampNeg n.toNatClampNeg)))))) → wd G A M1 H1 → va_S A H0 H1 locs1 → W p l e R s m args below meth c H1 locs1 cells slots Q (F0 m (pc + 3) ls rest)) : W p l e R s m args below meth c H locs cells slots Q (F0 m pc ls (.int n :: .int dp :: .ref a :: .int sp :: .ref a0 :: rest)) := by
  obtain ⟨ws, hP, hD, hM⟩ := hw
  obtain ⟨k0, hk0⟩ := List.getElem?_of_mem ((hM a0 _).mp he0)
  obtain ⟨k1, hk1⟩ := List.getElem?_of_mem ((hM a _).mp he1)
  refine va_copyM X.1 X.2.1 (X.2.2.2.2.2.2.trans hsz.symm) X.2.2.2.2.1 (X.2.2.2.1 _ hlink) (X.2.2.2.1 _ hnat) (X.2.2.2.1 _ hstat) (X.2.2.2.1 _ hini) hK hP hD hS k0 k1 3 3 hk0 hk1 rfl rfl h1 h2 h3 h4 h5 (fun i hi y hy => ?_) hframes hlocals hdg (fun H1 locs1 hP1 hD1 hS1 => kk _ H1 locs1 rfl ⟨_, hP1, hD1, wd_set hD hM hk1⟩ hS1)
  obtain ⟨ci, fs, nm, T9, N9, q1, q2, q3⟩ := hel i hi y hy
  obtain ⟨k2, hk2⟩ := List.getElem?_of_mem ((hM y _).mp q1)
  obtain ⟨c3, c4, hc3, hc4, hasg⟩ := Cond.castable_spec (va_Nw.use (A := args) rfl q3)
  exact va_rAny hK hP hk2 q2 (fun comp c0 e1 e2 => by cases Option.some.inj (e1.symm.trans hc4); cases Option.some.inj (e2.symm.trans hc3); exact hasg)
theorem m_getC (X : cX p s m meth c cc nL ret Ts own args) {index mi n : Nat} {f : Nat → Option Nat} (hsz : ls.size = nL) (hlink : Cond.methodLink own index ⟨"java/lang/Object", "getClass", "()Ljava/lang/Class;"⟩ ∈ Ts) (hsel : Cond.selects "[Ljava/lang/Object;" ⟨"java/lang/Object", "getClass", "()Ljava/lang/Class;"⟩ ⟨"java/lang/Object", "getClass", "()Ljava/lang/Class;"⟩ ∈ Ts) (hinst : Cond.instanceMethod ⟨"java/lang/Object", "getClass", "()Ljava/lang/Class;"⟩ ∈ Ts) (hnat : Cond.native ⟨"java/lang/Object", "getClass", "()Ljava/lang/Class;"⟩ ∈ Ts) (hdec : va_Nw (.declares ⟨"java/lang/Object", "getClass", "()Ljava/lang/Class;"⟩) s) (hM : va_Mi "[Ljava/lang/Object;" mi s) (hK : wK G s) (hw : wd G A M H) (he : M a = some (.inl (G.2 3, n, .inr (.inr (.inr (.inr f)))))) (hframes : 1 ≤ R.frames) (hlocals : (rest.map fun v => v.category).sum + 14 ≤ R.locals) (hdg : decode cc pc = .ok (.invokevirtual index, 3))
    (kk : W p l e R s m args below meth c H locs cells slots Q (F0 m (pc + 3) ls (.ref mi :: rest))) : W p l e R s m args below meth c H locs cells slots Q (F0 m pc ls (.ref a :: rest)) := by
  obtain ⟨ws, hP, hD, hM0⟩ := hw
  obtain ⟨k0, hk0⟩ := List.getElem?_of_mem ((hM0 a _).mp he)
  exact va_getC X.1 X.2.1 (X.2.2.2.2.2.2.trans hsz.symm) X.2.2.2.2.1 (X.2.2.2.1 _ hlink) (va_Nw.use (A := args) rfl hdec) (X.2.2.2.1 _ hsel) (X.2.2.2.1 _ hinst) (X.2.2.2.1 _ hnat) hM ⟨_, hP k0 _ hk0, rfl, va_nmO (hK.2 3 (G.2 3, .object "java/lang/Object") rfl).2 (by decide)⟩ hframes hlocals hdg kk
/-- a start that knows the class object of Object[] -/
def wB9 (G : gG) (dce mi : Nat) (sz : Nat) (M : gM) (U : State) : Prop := wB G dce sz M U ∧ va_Mi "[Ljava/lang/Object;" mi U
theorem wB9_blind {G : gG} {dce mi sz : Nat} {M : gM} {av : List Value} : FrameBlind (va_Pc av (wB9 G dce mi sz M)) := fun a U g mk q => by
  obtain ⟨q0, ⟨q1, q2, q3, q4⟩, q5⟩ := q
  exact ⟨q0, ⟨q1, q2, va_K.moved (u := U) (U := U.calling g mk a) (Vm.Alike.refl U.vm) q3, wZ.warm (u := U) (U := U.calling g mk a) (State.WarmedH.refl U) q4⟩, va_Mi.moved (u := U) (U := U.calling g mk a) (Vm.Alike.refl U.vm) q5⟩
abbrev mR9 (l : Launch) (y : MethodName) (ws : List Cond) (rm : Room) (G : gG) (dce mi sz : Nat) (M : gM) (av : List Value) (post : Nat → gM → Prop) (mc ms : Nat) : Prop := Met l y ws rm (va_Pc av (wB9 G dce mi sz M)) (QR G post (wA M sz)) mc ms (wA M sz)
theorem m_callSr9 (X : cX p s m meth c cc nL ret Ts own args) {dce mi : Nat} {y : MethodName} {bytes : ByteArray} {maxL mc ms n index : Nat} {ret9 : Option FieldType} {ws : List Cond} {rm : Room} {st0 As : List Value} {post : Nat → gM → Prop} (hK : wK G s) (hw : wd G A M H) (hZ : wZ dce A s s.heap) (hmi : va_Mi "[Ljava/lang/Object;" mi s) (hS : va_S A s.heap H locs) (hA : ∀ q : Nat, s.heap.size ≤ q → A q) (hM : Met l y ws rm (va_Pc (As) (wB9 G dce mi H.size M)) (QR G post (wA M H.size)) mc ms (wA M H.size)) (cw : CallB R s args own index y bytes maxL ret9 ws rm mc ms n ∧ (Cond.static y).before args s = true) (hn : As.length = n) (hsz : ls.size = nL) (hst : st0 = As.reverse ++ rest) (hW9 : (rest.map fun v => v.category).sum ≤ 8) (hdg : decode cc pc = .ok (.invokestatic index, 3)) (hcl : cells + mc ≤ R.cells) (hsl : slots + ms ≤ R.slots)
    (kk : ∀ (r : Nat) (M1 : gM) (H1 : Heap) (locs1 : List Loc), post r M1 → wd G A M1 H1 → va_S A s.heap H1 locs1 → H.size ≤ H1.size → (∀ q : Nat, q < H.size → ¬ wA M H.size q → H1[q]? = H[q]?) → W p l e R s m args below meth c H1 locs1 (cells + mc) (slots + ms) Q (F0 m (pc + 3) ls (.ref r :: rest))) : W p l e R s m args below meth c H locs cells slots Q (F0 m pc ls st0) := by
  have hf9 := hw.free hS hA
  exact va_callr (va_runS (As := As) (rest := rest) ⟨X.1, X.2.1, X.2.2.2.2.2.2, X.2.2.2.2.1, X.2.2.2.1⟩ hM cw ⟨wB9_blind, fun U hU hW => ⟨rfl, wB_at hK hw hZ hS hA hU hW, hmi.moved hW.alike⟩⟩ rfl hn hsz hst (by simpa [JFrame.monitorRoom] using hW9) hdg ⟨hcl, hsl⟩) hS (fun q _ h => hf9 q h) hf9 (fun M1 r t H1 locs1 ht hvm hp hB hz hk hS1 => kk r M1 H1 locs1 hB.1 (by have h9 := hB.2.1; rw [ht] at h9; exact h9.weaken (fun q e hq => hf9 q (h9.in hq))) hS1 hz hk)
end ROWS3
theorem wMet9 {l : Launch} {y : MethodName} {ws ws' : List Cond} {rm : Room} {Qc : (Nat → Prop) → Array Value → State → Outcome → State → Prop} {mc ms : Nat} {cc : ByteArray} {maxL : Nat} {ret : Option FieldType} {G : gG} {dce mi sz : Nat} {M : gM} {av : List Value}
    (hy : plainName y.cls = true) (hw : ws = Cond.code y cc maxL ret :: ws') (hn : (lg_sl av).length ≤ maxL)
    (body : ∀ (p : Program) (e : Env) (s : State) (m : MethodId) (below : List Frame) (meth : Method) (c : Code) (A : Nat → Prop) (ls : Array Slot), va_Mi "[Ljava/lang/Object;" mi s → cX p s m meth c cc maxL ret ws y.cls av.toArray → meth.name = y.name → wd G A M s.heap → wK G s → wZ dce A s s.heap → (∀ q : Nat, s.heap.size ≤ q → A q) → va_S A s.heap s.heap [] → sz = s.heap.size → A = wA M sz → lv_has ls maxL (lv_args 0 av) →
      W p l e rm s m av.toArray below meth c s.heap [] 0 0 (MQ below (Qc A) av.toArray s mc ms A) (F0 m 0 ls [])) : Met l y ws rm (va_Pc av (wB9 G dce mi sz M)) (Qc (wA M sz)) mc ms (wA M sz) := by
  refine Met.ofW (cc := cc) (maxL := maxL) (ret := ret) hy hw ?_
  intro p e s m args below meth c s₁ B hml hv
  obtain ⟨rfl, ⟨rfl, hD, hK, hZ⟩, hmi⟩ := hv
  rw [lg_entry_eq]
  exact body p e s m below meth c (wA M s.heap.size) _ hmi ⟨B.exec, B.bytes, B.returns, atoms_spec (ws := ws) B.pre, findClass_of_methodNamed B.named, B.notSynchronized, hml⟩ (name_of_methodNamed B.named B.method).1 (hD.weaken (fun q e h => Or.inl ⟨e, h⟩)) hK hZ (fun q h => Or.inr h) va_S.rf rfl rfl (lv_entry av hn)
theorem nI_max {a b : Nat} (ha : a < 2 ^ 31) (hb : b < 2 ^ 31) : (if nI a < nI b then nI b else nI a) = nI (max a b) := by
  by_cases h : a < b
  · rw [if_pos (nI_lt h hb), Nat.max_eq_right (by omega)]
  · rw [if_neg (nI_nlt (by omega) ha), Nat.max_eq_left (by omega)]
theorem nI_min {a b : Nat} (ha : a < 2 ^ 31) (hb : b < 2 ^ 31) : (if nI b < nI a then nI b else nI a) = nI (min a b) := by
  by_cases h : b < a
  · rw [if_pos (nI_lt h ha), Nat.min_eq_right (by omega)]
  · rw [if_neg (nI_nlt (by omega) hb), Nat.min_eq_left (by omega)]
theorem nI_sub1 (n : Nat) : nI (n + 1) - nI n = nI 1 := by
  rw [Nat.add_comm, ← nI_add]
  exact Int32.add_sub_cancel _ _
def gEl (M : gM) (g : Nat → Option Nat) (n : Nat) : Prop := ∀ k, k < n → ∀ y, g k = some y → ∃ (ci : Nat) (fs : List Value) (nm : String) (T9 : u_T) (N9 : Nat), M y = some (.inr (ci, fs)) ∧ vwCl[ci]? = some (nm, T9, N9) ∧ (nm, "java/lang/Object") ∈ envC
set_option maxHeartbeats 4000000 in
set_option maxRecDepth 100000 in
theorem c_J7_copyOf_6403c (l : Launch) (G : gG) (dce mi sz : Nat) (M : gM) (ex cap N : Nat) (g : Nat → Option Nat) (hex : M ex = some (oA G cap g)) (hN : cap ≤ N) (hN2 : N ≤ 1536) (hel : gEl M g cap) : mR9 l yJ7_copyOf_6403c wsJ7_copyOf_6403c ({ frames := 1, cells := 1, slots := 1536, locals := 50 }) G dce mi sz M [.ref ex, .int (nI N), .ref mi] (fun r M' => M r = none ∧ M' = mu M r (oA G N (va_cpy g (fun _ => none) 0 0 cap))) (1) (1536) := by
  have hex : M ex = some (.inl (G.2 3, cap, .inr (.inr (.inr (.inr g))))) := hex
  refine wMet9 (Qc := QR G _) (cc := cJ7_copyOf_6403c) (maxL := 4) (ret := (some (.array (.object "java/lang/Object")))) (by decide) rfl (Nat.le_of_ble_eq_true rfl) ?_
  intro p e s m below meth c A ls hmi X hnm hw hK hZ hA hS hsz eA hl
  obtain ⟨hx, hb, hr, hts, hown, hlk, hml⟩ := id X
  have hl : lv_has ls 4 [(0, .ref ex), (1, .int (nI N)), (2, .ref mi)] := hl
  refine lv_aload_n hx hb dJ7_copyOf_6403c_0 rfl (lv_at hl 2 rfl) ?_
  refine va_ldcM hx hb hown (hts (.classLink RJ7 110 "[Ljava/lang/Object;") (by decide +kernel)) hmi dJ7_copyOf_6403c_1 ?_
  refine lv_acmp_ne (rx := some mi) (ry := some mi) (tgt := 13) hx hb dJ7_copyOf_6403c_3 (by decide) (fun q => absurd rfl q) (fun _ => ?_)
  refine lv_iload_n hx hb dJ7_copyOf_6403c_6 rfl (lv_at hl 1 rfl) ?_
  refine m_newq X (C := "java/lang/Object") (by decide +kernel) hZ.2.2.2.2.2.2.2.1 3 rfl hK hw hS hA (N' := N) (nI_pos (by omega)) (nI_clamp (by omega)) (by omega) (by dsimp only; omega) (by dsimp only; omega) dJ7_copyOf_6403c_7 (fun q M1 H nq eM1 hw hS => ?_)
  have d_ex_q : ex ≠ q := gM_nn nq hex
  have k2 := (congrFun eM1 ex).trans (mu_g hex d_ex_q)
  have k3 : M1 q = some (.inl (G.2 3, N, .inr (.inr (.inr (.inr (fun _ => none)))))) := by rw [eM1]; exact mu_s _ _ _
  refine lv_goto (tgt := 24) hx hb dJ7_copyOf_6403c_10 (by decide) ?_
  refine lv_astore_n (lv' := [(3, .ref q), (0, .ref ex), (1, .int (nI N)), (2, .ref mi)]) hx hb dJ7_copyOf_6403c_24 rfl hl (by decide) rfl (fun ls hl => ?_)
  refine lv_aload_n hx hb dJ7_copyOf_6403c_25 rfl (lv_at hl 1 rfl) ?_
  refine lv_iconst (v := 0) hx hb dJ7_copyOf_6403c_26 (by decide) ?_
  refine lv_aload_n hx hb dJ7_copyOf_6403c_27 rfl (lv_at hl 0 rfl) ?_
  refine lv_iconst (v := 0) hx hb dJ7_copyOf_6403c_28 (by decide) ?_
  refine lv_aload_n hx hb dJ7_copyOf_6403c_29 rfl (lv_at hl 1 rfl) ?_
  refine m_alen X hK hw k2 3 rfl dJ7_copyOf_6403c_30 ?_
  refine W.eq (g2 := F0 m 31 ls [.int (nI cap), .int 0, .ref q, .int 0, .ref ex]) rfl ?_
  refine lv_iload_n hx hb dJ7_copyOf_6403c_31 rfl (lv_at hl 2 rfl) ?_
  refine va_mmin hx hb (by rw [hml]; exact hl.1.symm) hown (hts (.methodLink RJ7 304 Lib.Math.min.name) (by decide +kernel)) (hts (.static Lib.Math.min.name) (by decide +kernel)) (hts (.initialized "java/lang/Math") (by decide +kernel)) (hts (.code Lib.Math.min.name Lib.Math.min.code 2 (some .int)) (by decide +kernel)) (Nat.le_of_ble_eq_true rfl) (Nat.le_of_ble_eq_true rfl) (by dsimp only; omega) (by dsimp only; omega) dJ7_copyOf_6403c_32 ?_
  rw [show (if nI N < nI cap then nI N else nI cap) = nI cap from (nI_min (by omega) (by omega)).trans (congrArg nI (by omega))]
  refine m_copyq X hl.1 (by decide +kernel) (by decide +kernel) (by decide +kernel) (by decide +kernel) hK hw hS k2 k3 (by decide) (by decide) (nI_pos (by omega)) (by rw [nI_clamp (by omega)]; show 0 + _ ≤ _; omega) (by rw [nI_clamp (by omega)]; show 0 + _ ≤ _; omega) (fun i hi y hy => ?_) (Nat.le_of_ble_eq_true rfl) (by decide) dJ7_copyOf_6403c_35 (fun M4 H locs eM4 hw hS => ?_)
  · rw [nI_clamp (by omega)] at hi
    have hy : g (0 + i) = some y := hy
    rw [Nat.zero_add] at hy
    obtain ⟨ci, fs, nm, T9, N9, q1, q2, q3⟩ := hel i hi y hy
    exact ⟨ci, fs, nm, T9, N9, (congrFun eM1 y).trans (mu_g q1 (gM_nn nq q1)), q2, hZ.2.2.2.2.1 _ q3⟩
  rw [nI_clamp (by omega)] at eM4
  refine lv_aload_n hx hb dJ7_copyOf_6403c_38 rfl (lv_at hl 0 rfl) ?_
  exact m_aret X (Or.inr ⟨_, rfl⟩) hK hw hS ⟨nq, by rw [eM4, eM1, mu_mu]; rfl⟩ (by omega) (by omega) dJ7_copyOf_6403c_39
set_option maxHeartbeats 4000000 in
set_option maxRecDepth 100000 in
theorem c_J7_copyOf_1904c (l : Launch) (G : gG) (dce sz : Nat) (M : gM) (ex cap N : Nat) (g : Nat → Option Nat) (hex : M ex = some (oA G cap g)) (hN : cap ≤ N) (hN2 : N ≤ 1536) (hel : gEl M g cap) : mR l yJ7_copyOf_1904c wsJ7_copyOf_1904c ({ frames := 2, cells := 1, slots := 1536, locals := 73 }) G dce sz M [.ref ex, .int (nI N)] (fun r M' => M r = none ∧ M' = mu M r (oA G N (va_cpy g (fun _ => none) 0 0 cap))) (1) (1536) := by
  have hex : M ex = some (.inl (G.2 3, cap, .inr (.inr (.inr (.inr g))))) := hex
  refine wMet (Qc := QR G _) (cc := cJ7_copyOf_1904c) (maxL := 2) (ret := (some (.array (.object "java/lang/Object")))) (by decide) rfl (Nat.le_of_ble_eq_true rfl) ?_
  intro p e s m below meth c A ls X hnm hw hK hZ hA hS hsz eA hl
  obtain ⟨hx, hb, hr, hts, hown, hlk, hml⟩ := id X
  have hl : lv_has ls 2 [(0, .ref ex), (1, .int (nI N))] := hl
  obtain ⟨mi, hmi⟩ := hZ.2.2.2.2.2.2.2.2.2.2.2
  refine lv_aload_n hx hb dJ7_copyOf_1904c_0 rfl (lv_at hl 0 rfl) ?_
  refine lv_iload_n hx hb dJ7_copyOf_1904c_1 rfl (lv_at hl 1 rfl) ?_
  refine lv_aload_n hx hb dJ7_copyOf_1904c_2 rfl (lv_at hl 0 rfl) ?_
  refine m_getC X hl.1 (by decide +kernel) (by decide +kernel) (by decide +kernel) (by decide +kernel) (hZ.2.2.2.2.2.2.2.2.2.2.1 _ (by decide +kernel)) hmi hK hw hex (Nat.le_of_ble_eq_true rfl) (Nat.le_of_ble_eq_true rfl) dJ7_copyOf_1904c_3 ?_
  refine m_callSr9 X hK hw hZ hmi hS hA (As := [.ref ex, .int (nI N), .ref mi]) (rest := []) (c_J7_copyOf_6403c l G dce mi _ M ex cap N g hex hN hN2 hel) (va_cwS 3 hts gJ7_copyOf_1904c_J7_copyOf_6403c rfl rfl rfl (by decide +kernel) ⟨Nat.le_of_ble_eq_true rfl, Nat.le_of_ble_eq_true rfl⟩) rfl hl.1 rfl (Nat.le_of_ble_eq_true rfl) dJ7_copyOf_1904c_6 (Nat.le_of_ble_eq_true rfl) (Nat.le_of_ble_eq_true rfl) (fun r2 M1 H locs hp hw hS hz hk => ?_)
  exact m_aret X (Or.inr ⟨_, rfl⟩) hK hw hS hp (by omega) (by omega) dJ7_copyOf_1904c_9
set_option maxHeartbeats 4000000 in
set_option maxRecDepth 100000 in
theorem c_J8_newLength_cabcc (l : Launch) (G : gG) (dce sz : Nat) (M : gM) (a b9 c9 : Nat) (ha : a ≤ 65536) (hb9 : b9 ≤ 65536) (hc9 : c9 ≤ 65536) (h0 : 0 < b9) : mI l yJ8_newLength_cabcc wsJ8_newLength_cabcc ({ frames := 1, cells := 0, slots := 0, locals := 15 }) G dce sz M [.int (nI a), .int (nI b9), .int (nI c9)] (fun r M' => r = nI (a + max b9 c9) ∧ M' = M) (0) (0) := by
  refine wMet (Qc := QI G _) (cc := cJ8_newLength_cabcc) (maxL := 4) (ret := (some .int)) (by decide) rfl (Nat.le_of_ble_eq_true rfl) ?_
  intro p e s m below meth c A ls X hnm hw hK hZ hA hS hsz eA hl
  obtain ⟨hx, hb, hr, hts, hown, hlk, hml⟩ := id X
  have hl : lv_has ls 4 [(0, .int (nI a)), (1, .int (nI b9)), (2, .int (nI c9))] := hl
  refine lv_iload_n hx hb dJ8_newLength_cabcc_0 rfl (lv_at hl 0 rfl) ?_
  refine lv_iload_n hx hb dJ8_newLength_cabcc_1 rfl (lv_at hl 1 rfl) ?_
  refine lv_iload_n hx hb dJ8_newLength_cabcc_2 rfl (lv_at hl 2 rfl) ?_
  refine va_mmax hx hb (by rw [hml]; exact hl.1.symm) hown (hts (.methodLink RJ8 194 Lib.Math.max.name) (by decide +kernel)) (hts (.static Lib.Math.max.name) (by decide +kernel)) (hts (.initialized "java/lang/Math") (by decide +kernel)) (hts (.code Lib.Math.max.name Lib.Math.max.code 2 (some .int)) (by decide +kernel)) (Nat.le_of_ble_eq_true rfl) (Nat.le_of_ble_eq_true rfl) (Nat.le_of_ble_eq_true rfl) (Nat.le_of_ble_eq_true rfl) dJ8_newLength_cabcc_3 ?_
  rw [show (if nI b9 < nI c9 then nI c9 else nI b9) = nI (max b9 c9) from nI_max (by omega) (by omega)]
  refine lv_iadd hx hb dJ8_newLength_cabcc_6 ?_
  rw [nI_add]
  refine lv_istore_n (lv' := [(3, .int (nI (a + max b9 c9))), (0, .int (nI a)), (1, .int (nI b9)), (2, .int (nI c9))]) hx hb dJ8_newLength_cabcc_7 rfl hl (by decide) rfl (fun ls hl => ?_)
  refine lv_iconst (v := 0) hx hb dJ8_newLength_cabcc_8 (by decide) ?_
  refine lv_iload_n hx hb dJ8_newLength_cabcc_9 rfl (lv_at hl 0 rfl) ?_
  refine lv_icmp_ge (tgt := 21) hx hb dJ8_newLength_cabcc_10 (by decide) (fun c_10 => ?_) (fun c_10 => ?_)
  · exact (by exfalso; first | exact nI_nle (n := a + max b9 c9) (by omega) (by omega) c_10 | exact nI_nlt (a := 2147483639) (b := a + max b9 c9) (by omega) (by decide) c_16)
  · refine lv_iload_n hx hb dJ8_newLength_cabcc_13 rfl (lv_at hl 0 rfl) ?_
    refine lv_ldc hx hb hown (hts (.constant RJ8 200 (2147483639)) (by decide +kernel)) dJ8_newLength_cabcc_14 ?_
    refine lv_icmp_gt (tgt := 21) hx hb dJ8_newLength_cabcc_16 (by decide) (fun c_16 => ?_) (fun c_16 => ?_)
    · exact (by exfalso; first | exact nI_nle (n := a + max b9 c9) (by omega) (by omega) c_10 | exact nI_nlt (a := 2147483639) (b := a + max b9 c9) (by omega) (by decide) c_16)
    · refine lv_iload_n hx hb dJ8_newLength_cabcc_19 rfl (lv_at hl 0 rfl) ?_
      exact m_iret X hK hw hS (by exact ⟨rfl, rfl⟩) (by omega) (by omega) dJ8_newLength_cabcc_20
set_option maxHeartbeats 4000000 in
set_option maxRecDepth 100000 in
theorem c_grow_92f84_1 (l : Launch) (G : gG) (dce sz : Nat) (M : gM) (h ex n cap : Nat) (mc : Int32) (g : Nat → Option Nat) (hv : M h = some (oL mc ex (nI n))) (hex : M ex = some (oA G cap g)) (hc0 : 0 < cap) (hc1 : cap ≤ 1023) (hel : gEl M g cap) : mR l yJx4a65c_grow_92f84 wsJx4a65c_grow_92f84 ({ frames := 3, cells := 1, slots := 1536, locals := 94 }) G dce sz M [.ref h, .int (nI (cap + 1))] (fun r M' => M r = none ∧ M' = mu (mu M r (oA G (cap + max 1 (cap / 2 ^ 1)) (va_cpy g (fun _ => none) 0 0 cap))) h (oL mc r (nI n))) (1) (1536) := by
  have hv : M h = some (.inr (0, [.int mc, .ref ex, .int (nI n)])) := hv
  have hex : M ex = some (.inl (G.2 3, cap, .inr (.inr (.inr (.inr g))))) := hex
  refine wMet (Qc := QR G _) (cc := cJx4a65c_grow_92f84) (maxL := 4) (ret := (some (.array (.object "java/lang/Object")))) (by decide) rfl (Nat.le_of_ble_eq_true rfl) ?_
  intro p e s m below meth c A ls X hnm hw hK hZ hA hS hsz eA hl
  obtain ⟨hx, hb, hr, hts, hown, hlk, hml⟩ := id X
  have hl : lv_has ls 4 [(0, .ref h), (1, .int (nI (cap + 1)))] := hl
  have iJx4a65c : ∀ w ∈ wsJx4a65c0, w ∈ wsJx4a65c_grow_92f84 := by decide +kernel
  refine lv_aload_n hx hb dJx4a65c_grow_92f84_0 rfl (lv_at hl 0 rfl) ?_
  refine m_get X iJx4a65c hK hw hv rfl 1 (by decide) (ref := "java/util/ArrayList") (by decide +kernel) (Or.inl rfl) rfl dJx4a65c_grow_92f84_1 ?_
  refine m_alen X hK hw hex 3 rfl dJx4a65c_grow_92f84_4 ?_
  refine W.eq (g2 := F0 m 5 ls [.int (nI cap)]) rfl ?_
  refine lv_istore_n (lv' := [(2, .int (nI cap)), (0, .ref h), (1, .int (nI (cap + 1)))]) hx hb dJx4a65c_grow_92f84_5 rfl hl (by decide) rfl (fun ls hl => ?_)
  refine lv_iload_n hx hb dJx4a65c_grow_92f84_6 rfl (lv_at hl 0 rfl) ?_
  refine lv_if_gt (tgt := 20) hx hb dJx4a65c_grow_92f84_7 (by decide) (fun c_7 => ?_) (fun c_7 => ?_)
  · refine lv_iload_n hx hb dJx4a65c_grow_92f84_20 rfl (lv_at hl 0 rfl) ?_
    refine lv_iload_n hx hb dJx4a65c_grow_92f84_21 rfl (lv_at hl 2 rfl) ?_
    refine lv_iload_n hx hb dJx4a65c_grow_92f84_22 rfl (lv_at hl 0 rfl) ?_
    refine lv_isub hx hb dJx4a65c_grow_92f84_23 ?_
    rw [nI_sub1]
    refine lv_iload_n hx hb dJx4a65c_grow_92f84_24 rfl (lv_at hl 0 rfl) ?_
    refine lv_iconst (v := 1) hx hb dJx4a65c_grow_92f84_25 (by decide) ?_
    refine lv_ishr hx hb dJx4a65c_grow_92f84_26 ?_
    rw [pk_shrN (n := cap) (by omega) ((1 : Int32) &&& 31) 1 (by decide)]
    refine m_callSi X hK hw hZ hS hA (As := [.int (nI cap), .int (nI 1), .int (nI (cap / 2 ^ 1))]) (rest := []) (c_J8_newLength_cabcc l G dce _ M cap 1 (cap / 2 ^ 1) (by omega) (by omega) (by omega) (by omega)) (va_cwS 3 hts gJx4a65c_grow_92f84_J8_newLength_cabcc rfl rfl rfl (by decide +kernel) ⟨Nat.le_of_ble_eq_true rfl, Nat.le_of_ble_eq_true rfl⟩) rfl hl.1 rfl (Nat.le_of_ble_eq_true rfl) dJx4a65c_grow_92f84_27 (Nat.le_of_ble_eq_true rfl) (Nat.le_of_ble_eq_true rfl) (fun r2 M1 H locs hp hw hS hz hk => ?_)
    rw [hp.2] at hw
    rw [hp.1]
    refine lv_istore_n (lv' := [(3, .int (nI (cap + max 1 (cap / 2 ^ 1)))), (2, .int (nI cap)), (0, .ref h), (1, .int (nI (cap + 1)))]) hx hb dJx4a65c_grow_92f84_30 rfl hl (by decide) rfl (fun ls hl => ?_)
    refine lv_aload_n hx hb dJx4a65c_grow_92f84_31 rfl (lv_at hl 2 rfl) ?_
    refine lv_aload_n hx hb dJx4a65c_grow_92f84_32 rfl (lv_at hl 2 rfl) ?_
    refine m_get X iJx4a65c hK hw hv rfl 1 (by decide) (ref := "java/util/ArrayList") (by decide +kernel) (Or.inl rfl) rfl dJx4a65c_grow_92f84_33 ?_
    refine lv_iload_n hx hb dJx4a65c_grow_92f84_36 rfl (lv_at hl 0 rfl) ?_
    refine m_callSr X hK hw hZ hS hA (As := [.ref ex, .int (nI (cap + max 1 (cap / 2 ^ 1)))]) (rest := [.ref h]) (c_J7_copyOf_1904c l G dce _ M ex cap (cap + max 1 (cap / 2 ^ 1)) g hex (by omega) (by omega) hel) (va_cwS 2 hts gJx4a65c_grow_92f84_J7_copyOf_1904c rfl rfl rfl (by decide +kernel) ⟨Nat.le_of_ble_eq_true rfl, Nat.le_of_ble_eq_true rfl⟩) rfl hl.1 rfl (Nat.le_of_ble_eq_true rfl) dJx4a65c_grow_92f84_37 (Nat.le_of_ble_eq_true rfl) (Nat.le_of_ble_eq_true rfl) (fun r4 M3 H locs hp hw hS hz hk => ?_)
    obtain ⟨nr4, eM3⟩ := hp
    have dh : h ≠ r4 := gM_nn nr4 hv
    have kh : M3 h = some (.inr (0, [.int mc, .ref ex, .int (nI n)])) := (congrFun eM3 h).trans (mu_g hv dh)
    refine lv_dup_x1 hx hb dJx4a65c_grow_92f84_40 rfl rfl ?_
    refine m_put X iJx4a65c tyJx4a65c_ok nmJx4a65c hK hw hS kh rfl 1 (by decide) (ref := "java/util/ArrayList") (by decide +kernel) (Or.inl rfl) rfl (v := .ref r4) rfl rfl (Nat.le_of_ble_eq_true rfl) (fs1 := [.int mc, .ref r4, .int (nI n)]) rfl dJx4a65c_grow_92f84_41 (fun M5 H locs eM5 hw hS => ?_)
    have k6 : M5 h = some (.inr (0, [.int mc, .ref r4, .int (nI n)])) := by rw [eM5]; exact mu_s _ _ _
    exact m_aret X (Or.inr ⟨_, rfl⟩) hK hw hS ⟨nr4, by rw [eM5, eM3]; rfl⟩ (by omega) (by omega) dJx4a65c_grow_92f84_44
  · exact (by exfalso; exact c_7 (nI_lt (a := 0) hc0 (by omega)))
set_option maxHeartbeats 4000000 in
set_option maxRecDepth 100000 in
theorem c_grow_d5877_1 (l : Launch) (G : gG) (dce sz : Nat) (M : gM) (h ex cap : Nat) (mc : Int32) (g : Nat → Option Nat) (hv : M h = some (oL mc ex (nI cap))) (hex : M ex = some (oA G cap g)) (hc0 : 0 < cap) (hc1 : cap ≤ 1023) (hel : gEl M g cap) : mR l yJx4a65c_grow_d5877 wsJx4a65c_grow_d5877 ({ frames := 4, cells := 1, slots := 1536, locals := 117 }) G dce sz M [.ref h] (fun r M' => M r = none ∧ M' = mu (mu M r (oA G (cap + max 1 (cap / 2 ^ 1)) (va_cpy g (fun _ => none) 0 0 cap))) h (oL mc r (nI cap))) (1) (1536) := by
  have hv : M h = some (.inr (0, [.int mc, .ref ex, .int (nI cap)])) := hv
  have hex : M ex = some (.inl (G.2 3, cap, .inr (.inr (.inr (.inr g))))) := hex
  refine wMet (Qc := QR G _) (cc := cJx4a65c_grow_d5877) (maxL := 1) (ret := (some (.array (.object "java/lang/Object")))) (by decide) rfl (Nat.le_of_ble_eq_true rfl) ?_
  intro p e s m below meth c A ls X hnm hw hK hZ hA hS hsz eA hl
  obtain ⟨hx, hb, hr, hts, hown, hlk, hml⟩ := id X
  have hl : lv_has ls 1 [(0, .ref h)] := hl
  have iJx4a65c : ∀ w ∈ wsJx4a65c0, w ∈ wsJx4a65c_grow_d5877 := by decide +kernel
  refine lv_aload_n hx hb dJx4a65c_grow_d5877_0 rfl (lv_at hl 0 rfl) ?_
  refine lv_aload_n hx hb dJx4a65c_grow_d5877_1 rfl (lv_at hl 0 rfl) ?_
  refine m_get X iJx4a65c hK hw hv rfl 2 (by decide) (ref := "java/util/ArrayList") (by decide +kernel) (Or.inl rfl) rfl dJx4a65c_grow_d5877_2 ?_
  refine lv_iconst (v := 1) hx hb dJx4a65c_grow_d5877_5 (by decide) ?_
  refine lv_iadd hx hb dJx4a65c_grow_d5877_6 ?_
  rw [nI_1]
  refine m_callVr X (ci := 0) rfl hv hK hw hZ hS hA (As := [.int (nI (cap + 1))]) (rest := []) (c_grow_92f84_1 l G dce _ M h ex cap cap mc g hv hex hc0 hc1 hel) (cwV 1 hts gJx4a65c_grow_d5877_Jx4a65c_grow_92f84 rfl rfl rfl (by decide +kernel) ⟨Nat.le_of_ble_eq_true rfl, Nat.le_of_ble_eq_true rfl⟩) rfl hl.1 rfl (Nat.le_of_ble_eq_true rfl) dJx4a65c_grow_d5877_7 (Nat.le_of_ble_eq_true rfl) (Nat.le_of_ble_eq_true rfl) (fun r2 M1 H locs hp hw hS hz hk => ?_)
  exact m_aret X (Or.inr ⟨_, rfl⟩) hK hw hS hp (by omega) (by omega) dJx4a65c_grow_d5877_10
