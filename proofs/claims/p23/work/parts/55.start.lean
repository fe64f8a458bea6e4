/-! THE CLAIM OUT OF ONE WALK OF THE LAW'S BODY. Your part is whole_start (and what it stands on); all else here is the same for every law, but numbers. -/
def R_law : String := "ObjectMapperLaw"
def lw_P (b : Addr) (xs : List Int32) (args : Array Value) (s : State) : Prop := args = #[.ref b] ∧ s.IntsAt b xs ∧ xs.length ≤ 260 ∧ (Jvm.Cond.and given_1 narrow_1).before args s = true
def lw_Q (_ : Array Value) (s : State) (o : Outcome) (t : State) : Prop := o = .returned (some (.int 1)) ∧ Framed s o t [] 600104 7301314
def lw_Z (below : List Frame) (a : Array Value) (s : State) : State → Prop := fun t => ∃ o, t.status = .running ∧ Ended t below o ∧ lw_Q a s o t
/-- the law's own end, with 1 on the stack, nothing written that was there before, its room as the claim has it -/
theorem lw_ret {p : Program} {l : Launch} {e : Env} {s : State} {m : MethodId} {below : List Frame} {meth : Method} {c : Code} {b : Nat} (hx : p.tables.exec = Jvm.exec) (hb : c.code = code) (hr : meth.sig.returnType = ret) (hlocks : meth.locks = false) {pc : Nat} {H : Heap} {ls : Array Slot} (hdg : decode code pc = .ok (.ireturn, 1)) : W p l e room_1 s m #[Value.ref b] below meth c H [] 600104 7301314 (lw_Z below #[Value.ref b] s) (F0 m pc ls [.int 1]) := by
  intro T hT X
  obtain ⟨fs, hret, hrun, hended, hW, hframe⟩ := X.leave (v := some (.int 1)) (hlocks := hlocks) (fun h => by rw [hr] at h; cases h)
  have hmeth' : T.vm.method? m = some meth := X.method'
  refine ⟨T.setFrames fs, ?_, .returned (some (.int 1)), hrun, hended, rfl, ⟨_, rfl⟩, hW, hframe⟩
  jvm_step X.here [X.here.top, hx, hb, hdg, hmeth', hr, ret, narrow_b1]
  (try refine ⟨rfl, ?_⟩); (try refine ⟨rfl, ?_⟩)
  first | (intro acts; rw [hret _ acts rfl rfl rfl]) | rw [hret _ _ rfl rfl rfl]
  exact Steps.refl _
/-- what holds at the law's entry: the machine, the code, the tables' words (any of lw_tbl by 'hts w (by decide +kernel)'), the script of L ints xs at the cell b, what the Statement gives of the start (any of its parts by flat_of_before) -/
def lw_At (p : Program) (s : State) (m : MethodId) (meth : Method) (c : Code) (b L : Nat) (xs : Nat → Int32) : Prop :=
  p.tables.exec = Jvm.exec ∧ c.code = code ∧ meth.sig.returnType = ret ∧ c.maxLocals = 6 ∧ s.vm.findClass R_law = some m.cls ∧ (∀ w ∈ lw_tbl, w.before #[Value.ref b] s = true) ∧ va_X b L xs s s.heap ∧ b < s.heap.size ∧ meth.locks = false ∧ (Jvm.Cond.and given_1 narrow_1).before #[Value.ref b] s = true

set_option maxHeartbeats 4000000 in
set_option maxRecDepth 100000 in
/-- what the start gives of statics and constants -/
theorem env0 {s : State} {b : Nat} {A : Nat → Prop} (hts : ∀ w ∈ lw_tbl, w.before #[Value.ref b] s = true) (hgv : (Jvm.Cond.and given_1 narrow_1).before #[Value.ref b] s = true) (hA : ∀ a : Nat, a < s.heap.size → ¬ A a) : ∃ dce : Nat, wZ dce A s s.heap := by
  have hs := flat_of_before _ hgv
  obtain ⟨dce, hd, hT⟩ := va_Tof (tm := .static "java/util/ArrayList" "DEFAULTCAPACITY_EMPTY_ELEMENTDATA" "[Ljava/lang/Object;") (ty := .object "java/lang/Object") (N := 0) (f := fun _ => .null) (A := A) (by decide) (hs _ (by decide +kernel)) (va_eqt (hs _ (by decide +kernel))) (fun j hj => absurd hj (Nat.not_lt_zero _)) hA
  refine ⟨dce, vx_Zqof (hts _ (List.mem_of_getElem? (i := 245) (by decide +kernel))) (hts _ (List.mem_of_getElem? (i := 33) (by decide +kernel))) (hs _ (by decide +kernel)) hA, vx_Zqof (hts _ (List.mem_of_getElem? (i := 247) (by decide +kernel))) (hts _ (List.mem_of_getElem? (i := 33) (by decide +kernel))) (hs _ (by decide +kernel)) hA, va_Zof (hts _ (List.mem_of_getElem? (i := 73) (by decide +kernel))) (hts _ (List.mem_of_getElem? (i := 28) (by decide +kernel))) hd hA, hT, ?_, ?_, ?_, va_AO.of (A := #[Value.ref b]) (hts _ (List.mem_of_getElem? (i := 442) (by decide +kernel))), va_AO.of (A := #[Value.ref b]) (hts _ (List.mem_of_getElem? (i := 142) (by decide +kernel))), ?_, ?_, ?_⟩
  · exact List.forall_mem_cons.mpr ⟨va_Nw.of rfl (hts _ (List.mem_of_getElem? (i := 333) (by decide +kernel))), List.forall_mem_cons.mpr ⟨va_Nw.of rfl (hts _ (List.mem_of_getElem? (i := 472) (by decide +kernel))), List.forall_mem_cons.mpr ⟨va_Nw.of rfl (hts _ (List.mem_of_getElem? (i := 220) (by decide +kernel))), List.forall_mem_cons.mpr ⟨va_Nw.of rfl (hts _ (List.mem_of_getElem? (i := 763) (by decide +kernel))), List.forall_mem_cons.mpr ⟨va_Nw.of rfl (hts _ (List.mem_of_getElem? (i := 761) (by decide +kernel))), fun _ h => absurd h List.not_mem_nil⟩⟩⟩⟩⟩
  · exact fun _ h => absurd h List.not_mem_nil
  · exact List.forall_mem_cons.mpr ⟨(by obtain ⟨a9, c9, cA9, kA9, q9, -⟩ := Cond.exactly_spec (args := #[Value.ref b]) (first := s) (o := none) (s := s) (idx := []) (t := .string "ObjectMapper" 100) (cls := "java/lang/String") (hs _ (by decide +kernel)); exact ⟨a9, vk_R.of (A := #[Value.ref b]) (hts _ (List.mem_of_getElem? (i := 548) (by decide +kernel))) q9⟩), List.forall_mem_cons.mpr ⟨(by obtain ⟨a9, c9, cA9, kA9, q9, -⟩ := Cond.exactly_spec (args := #[Value.ref b]) (first := s) (o := none) (s := s) (idx := []) (t := .string "ObjectMapper" 130) (cls := "java/lang/String") (hs _ (by decide +kernel)); exact ⟨a9, vk_R.of (A := #[Value.ref b]) (hts _ (List.mem_of_getElem? (i := 595) (by decide +kernel))) q9⟩), List.forall_mem_cons.mpr ⟨(by obtain ⟨a9, c9, cA9, kA9, q9, -⟩ := Cond.exactly_spec (args := #[Value.ref b]) (first := s) (o := none) (s := s) (idx := []) (t := .string "ObjectMapper" 144) (cls := "java/lang/String") (hs _ (by decide +kernel)); exact ⟨a9, vk_R.of (A := #[Value.ref b]) (hts _ (List.mem_of_getElem? (i := 657) (by decide +kernel))) q9⟩), List.forall_mem_cons.mpr ⟨(by obtain ⟨a9, c9, cA9, kA9, q9, -⟩ := Cond.exactly_spec (args := #[Value.ref b]) (first := s) (o := none) (s := s) (idx := []) (t := .string "ObjectMapper" 179) (cls := "java/lang/String") (hs _ (by decide +kernel)); exact ⟨a9, vk_R.of (A := #[Value.ref b]) (hts _ (List.mem_of_getElem? (i := 259) (by decide +kernel))) q9⟩), List.forall_mem_cons.mpr ⟨(by obtain ⟨a9, c9, cA9, kA9, q9, -⟩ := Cond.exactly_spec (args := #[Value.ref b]) (first := s) (o := none) (s := s) (idx := []) (t := .string "ObjectMapper" 182) (cls := "java/lang/String") (hs _ (by decide +kernel)); exact ⟨a9, vk_R.of (A := #[Value.ref b]) (hts _ (List.mem_of_getElem? (i := 340) (by decide +kernel))) q9⟩), List.forall_mem_cons.mpr ⟨(by obtain ⟨a9, c9, cA9, kA9, q9, -⟩ := Cond.exactly_spec (args := #[Value.ref b]) (first := s) (o := none) (s := s) (idx := []) (t := .string "ObjectMapper" 184) (cls := "java/lang/String") (hs _ (by decide +kernel)); exact ⟨a9, vk_R.of (A := #[Value.ref b]) (hts _ (List.mem_of_getElem? (i := 381) (by decide +kernel))) q9⟩), List.forall_mem_cons.mpr ⟨(by obtain ⟨a9, c9, cA9, kA9, q9, -⟩ := Cond.exactly_spec (args := #[Value.ref b]) (first := s) (o := none) (s := s) (idx := []) (t := .string "ObjectMapper" 186) (cls := "java/lang/String") (hs _ (by decide +kernel)); exact ⟨a9, vk_R.of (A := #[Value.ref b]) (hts _ (List.mem_of_getElem? (i := 479) (by decide +kernel))) q9⟩), List.forall_mem_cons.mpr ⟨(by obtain ⟨a9, c9, cA9, kA9, q9, -⟩ := Cond.exactly_spec (args := #[Value.ref b]) (first := s) (o := none) (s := s) (idx := []) (t := .string "ObjectMapper" 188) (cls := "java/lang/String") (hs _ (by decide +kernel)); exact ⟨a9, vk_R.of (A := #[Value.ref b]) (hts _ (List.mem_of_getElem? (i := 741) (by decide +kernel))) q9⟩), List.forall_mem_cons.mpr ⟨(by obtain ⟨a9, c9, cA9, kA9, q9, -⟩ := Cond.exactly_spec (args := #[Value.ref b]) (first := s) (o := none) (s := s) (idx := []) (t := .string "ObjectMapper" 190) (cls := "java/lang/String") (hs _ (by decide +kernel)); exact ⟨a9, vk_R.of (A := #[Value.ref b]) (hts _ (List.mem_of_getElem? (i := 720) (by decide +kernel))) q9⟩), fun _ h => absurd h List.not_mem_nil⟩⟩⟩⟩⟩⟩⟩⟩⟩
  · exact List.forall_mem_cons.mpr ⟨va_Nw.of rfl (hts _ (List.mem_of_getElem? (i := 56) (by decide +kernel))), List.forall_mem_cons.mpr ⟨va_Nw.of rfl (hts _ (List.mem_of_getElem? (i := 88) (by decide +kernel))), List.forall_mem_cons.mpr ⟨va_Nw.of rfl (hts _ (List.mem_of_getElem? (i := 125) (by decide +kernel))), List.forall_mem_cons.mpr ⟨va_Nw.of rfl (hts _ (List.mem_of_getElem? (i := 144) (by decide +kernel))), List.forall_mem_cons.mpr ⟨va_Nw.of rfl (hts _ (List.mem_of_getElem? (i := 152) (by decide +kernel))), List.forall_mem_cons.mpr ⟨va_Nw.of rfl (hts _ (List.mem_of_getElem? (i := 656) (by decide +kernel))), fun _ h => absurd h List.not_mem_nil⟩⟩⟩⟩⟩⟩
  · exact List.forall_mem_cons.mpr ⟨va_Nw.of rfl (hts _ (List.mem_of_getElem? (i := 222) (by decide +kernel))), List.forall_mem_cons.mpr ⟨va_Nw.of rfl (hts _ (List.mem_of_getElem? (i := 224) (by decide +kernel))), List.forall_mem_cons.mpr ⟨va_Nw.of rfl (hts _ (List.mem_of_getElem? (i := 226) (by decide +kernel))), List.forall_mem_cons.mpr ⟨va_Nw.of rfl (hts _ (List.mem_of_getElem? (i := 772) (by decide +kernel))), fun _ h => absurd h List.not_mem_nil⟩⟩⟩⟩
  · exact va_Mi.of (hs (.isRef (.mirror "[Ljava/lang/Object;")) (by decide +kernel))
set_option maxHeartbeats 4000000 in
set_option maxRecDepth 100000 in
/-- the classes and the array classes -/
theorem known0 {s : State} {b : Nat} (hts : ∀ w ∈ lw_tbl, w.before #[Value.ref b] s = true) : ∃ G : gG, wK G s := by
  obtain ⟨c0, i0, k0⟩ := u_known (C := RJx4a65c) (T := TJx4a65c) (N := 3) (n := 3) hts inJx4a65c (hts (.instantiable RJx4a65c 3) (List.mem_of_getElem? (i := 61) (by decide +kernel)))
  obtain ⟨c1, i1, k1⟩ := u_known (C := RX0) (T := TX0) (N := 8) (n := 8) hts inX0 (hts (.instantiable RX0 8) (List.mem_of_getElem? (i := 151) (by decide +kernel)))
  obtain ⟨c2, i2, k2⟩ := u_known (C := RX1) (T := TX1) (N := 4) (n := 4) hts inX1 (hts (.instantiable RX1 4) (List.mem_of_getElem? (i := 597) (by decide +kernel)))
  obtain ⟨c3, i3, k3⟩ := u_known (C := RX2) (T := TX2) (N := 3) (n := 3) hts inX2 (hts (.instantiable RX2 3) (List.mem_of_getElem? (i := 124) (by decide +kernel)))
  obtain ⟨c4, i4, k4⟩ := u_known (C := RX3) (T := TX3) (N := 4) (n := 4) hts inX3 (hts (.instantiable RX3 4) (List.mem_of_getElem? (i := 87) (by decide +kernel)))
  obtain ⟨c5, i5, k5⟩ := u_known (C := RX4) (T := TX4) (N := 3) (n := 3) hts inX4 (hts (.instantiable RX4 3) (List.mem_of_getElem? (i := 143) (by decide +kernel)))
  obtain ⟨c6, i6, k6⟩ := u_known (C := RX5) (T := TX5) (N := 2) (n := 2) hts inX5 (hts (.instantiable RX5 2) (List.mem_of_getElem? (i := 55) (by decide +kernel)))
  obtain ⟨c7, i7, k7⟩ := u_known (C := RX6) (T := TX6) (N := 4) (n := 4) hts inX6 (hts (.instantiable RX6 4) (List.mem_of_getElem? (i := 47) (by decide +kernel)))
  obtain ⟨a0, ka0, co0, f0, g0, e0⟩ := Cond.arrayClass_spec (args := #[Value.ref b]) (first := s) (o := none) (s := s) (idx := []) (type := .int) (hts _ (List.mem_of_getElem? (i := 140) (by decide +kernel)))
  obtain ⟨a1, ka1, co1, f1, g1, e1⟩ := Cond.arrayClass_spec (args := #[Value.ref b]) (first := s) (o := none) (s := s) (idx := []) (type := .int) (hts _ (List.mem_of_getElem? (i := 140) (by decide +kernel)))
  obtain ⟨a2, ka2, co2, f2, g2, e2⟩ := Cond.arrayClass_spec (args := #[Value.ref b]) (first := s) (o := none) (s := s) (idx := []) (type := .int) (hts _ (List.mem_of_getElem? (i := 140) (by decide +kernel)))
  obtain ⟨co3, a3, ka3, p3, q3, g3, e3, f3⟩ := Cond.arrayOver_spec (args := #[Value.ref b]) (first := s) (o := none) (s := s) (idx := []) (n := "java/lang/Object") (hts _ (List.mem_of_getElem? (i := 442) (by decide +kernel)))
  obtain ⟨co4, a4, ka4, p4, q4, g4, e4, f4⟩ := Cond.arrayOver_spec (args := #[Value.ref b]) (first := s) (o := none) (s := s) (idx := []) (n := "ObjectMapper$Session") (hts _ (List.mem_of_getElem? (i := 142) (by decide +kernel)))
  refine ⟨((fun k => [c0, c1, c2, c3, c4, c5, c6, c7].getD k c0, fun k => [i0, i1, i2, i3, i4, i5, i6, i7].getD k i0), fun k => [a0, a0, a0, a3, a4].getD k a0), ?_, ?_⟩
  · intro k q hq
    match k, hq with
    | 0, hq => cases hq; exact k0
    | 1, hq => cases hq; exact k1
    | 2, hq => cases hq; exact k2
    | 3, hq => cases hq; exact k3
    | 4, hq => cases hq; exact k4
    | 5, hq => cases hq; exact k5
    | 6, hq => cases hq; exact k6
    | 7, hq => cases hq; exact k7
    | k + 8, hq => simp [vwCl] at hq
  · intro k q hq
    match k, hq with
    | 0, hq => cases hq; exact ⟨fun n z => ⟨fun k h => (by cases h), ka0, g0, co0, e0⟩, f0⟩
    | 1, hq => cases hq; exact ⟨fun n z => ⟨fun k h => (by cases h), ka0, g0, co0, e0⟩, f0⟩
    | 2, hq => cases hq; exact ⟨fun n z => ⟨fun k h => (by cases h), ka0, g0, co0, e0⟩, f0⟩
    | 3, hq => cases hq; exact ⟨fun n z => ⟨fun k h => (by cases h), ka3, g3, co3, e3⟩, ka3, co3, g3, e3, p3, f3⟩
    | 4, hq => cases hq; exact ⟨fun n z => ⟨fun k h => (by cases h), ka4, g4, co4, e4⟩, ka4, co4, g4, e4, p4, f4⟩
    | k + 5, hq => simp [tyL] at hq
/-- the script's int at a place, or one that is made from the place -/
theorem draw_blind {av : List Value} {b L : Nat} {xs : Nat → Int32} : FrameBlind (va_Pc av (fun U => va_X b L xs U U.heap ∧ b < U.heap.size)) := fun a U g mk q => by
  obtain ⟨q0, q1, q2⟩ := q
  exact ⟨q0, va_X.moved (u := U) (U := U.calling g mk a) (Vm.Alike.refl U.vm) q1, q2⟩
set_option maxHeartbeats 4000000 in
set_option maxRecDepth 100000 in
theorem c_draw (l : Launch) {b L : Nat} {xs : Nat → Int32} (k : Nat) (hk : k ≤ 200) (hL : L < 2 ^ 31) : Met l yL_draw wsL_draw ({ frames := 0, cells := 0, slots := 0, locals := 0 }) (va_Pc [.ref b, .int (nI k)] (fun U => va_X b L xs U U.heap ∧ b < U.heap.size)) (va_Qi (S := Unit) (fun r _ => ∃ v, v < 2 ^ 31 ∧ r = nI v) (fun _ _ => True) (fun _ => False)) 0 0 (fun _ => False) := by
  refine Met.ofW (cc := cL_draw) (maxL := 2) (ret := (some .int)) (by decide) rfl ?_
  intro p e s m args below meth c s₁ B hml hv
  obtain ⟨rfl, hX, hbl⟩ := hv
  have hl := lv_entry [.ref b, .int (nI k)] (n := 2) (Nat.le_of_ble_eq_true rfl)
  rw [lg_entry_eq]
  generalize (lg_sl [.ref b, .int (nI k)] ++ List.replicate (2 - (lg_sl [.ref b, .int (nI k)]).length) Slot.unset).toArray = ls at hl ⊢
  have hl : lv_has ls 2 [(0, .ref b), (1, .int (nI k))] := hl
  have X : cX p s m meth c cL_draw 2 (some .int) wsL_draw yL_draw.cls ([.ref b, .int (nI k)] : List Value).toArray := ⟨B.exec, B.bytes, B.returns, atoms_spec (ws := wsL_draw) B.pre, findClass_of_methodNamed B.named, B.notSynchronized, hml⟩
  obtain ⟨hx, hb, hr, hts, hown, hlk, hml9⟩ := id X
  have hS : va_S (fun _ => False) s.heap s.heap [] := va_S.rf
  refine lv_iload_n hx hb dL_draw_0 rfl (lv_at hl 1 rfl) ?_
  refine lv_aload_n hx hb dL_draw_1 rfl (lv_at hl 0 rfl) ?_
  refine va_slen hx hb hX hbl id hS dL_draw_2 ?_
  refine lv_icmp_ge (tgt := 15) hx hb dL_draw_3 (by decide) (fun c_3 => ?_) (fun c_3 => ?_)
  · refine lv_ldc hx hb hown (hts (.constant RL 8 104729) (by decide +kernel)) dL_draw_15 ?_
    refine lv_iload_n hx hb dL_draw_17 rfl (lv_at hl 1 rfl) ?_
    refine lv_iconst (v := 2) hx hb dL_draw_18 (by decide) ?_
    refine lv_iadd hx hb dL_draw_19 ?_
    refine lv_imul hx hb dL_draw_20 ?_
    rw [show (104729 : Int32) * (nI k + 2) = nI (104729 * (k + 2)) from (congrArg (fun q => (104729 : Int32) * q) (nI_add k 2)).trans (nI_mul 104729 (k + 2))]
    refine lv_ldc hx hb hown (hts (.constant RL 9 65521) (by decide +kernel)) dL_draw_21 ?_
    refine lv_irem hx hb dL_draw_23 (by decide) ?_
    rw [rem_l (q := 65521) (a := 104729 * (k + 2)) (b := 65521) (by omega) (by decide) (by decide) rfl]
    refine W.widen (k := 0) (n := 0) (Nat.le_refl _) (Nat.le_refl _) ?_
    exact W.iret (v := nI (104729 * (k + 2) % 65521)) X.1 X.2.1 X.2.2.1 (fun t ht hW => ⟨⟨_, (), rfl, ⟨_, by omega, rfl⟩, trivial⟩, hS.F ht⟩) hS.2.2 dL_draw_24 X.2.2.2.2.2.1
  · have hkl : k < L := Nat.lt_of_not_le (fun q => c_3 (nI_le q (by omega)))
    refine lv_aload_n hx hb dL_draw_6 rfl (lv_at hl 0 rfl) ?_
    refine lv_iload_n hx hb dL_draw_7 rfl (lv_at hl 1 rfl) ?_
    refine va_sld hx hb hX hbl id hS (vp_in_nI hkl hL) dL_draw_8 ?_
    refine lv_ldc hx hb hown (hts (.constant RL 7 2147483647) (by decide +kernel)) dL_draw_9 ?_
    refine lv_iand hx hb dL_draw_11 ?_
    obtain ⟨v1, hv1, ev1⟩ := and31 (xs (nI k).toNatClampNeg)
    rw [ev1]
    refine lv_goto (tgt := 24) hx hb dL_draw_12 (by decide) ?_
    refine W.widen (k := 0) (n := 0) (Nat.le_refl _) (Nat.le_refl _) ?_
    exact W.iret (v := nI v1) X.1 X.2.1 X.2.2.1 (fun t ht hW => ⟨⟨_, (), rfl, ⟨v1, hv1, rfl⟩, trivial⟩, hS.F ht⟩) hS.2.2 dL_draw_24 X.2.2.2.2.2.1
set_option maxHeartbeats 4000000 in
set_option maxRecDepth 100000 in
theorem m_draw {p : Program} {l : Launch} {e : Env} {s : State} {m : MethodId} {below : List Frame} {meth : Method} {c : Code} {b L : Nat} {xs : Nat → Int32} {G : gG} {A : Nat → Prop} {Q : State → Prop} {M : gM} {H : Heap} {locs : List Loc} {cells slots : Nat} (X : cX p s m meth c cL_law 6 ret wsL_law RL #[Value.ref b]) (hXs : va_X b L xs s s.heap) (hbl : b < s.heap.size) (hbA : ¬ A b) (hL : L ≤ 260) (hw : wd G A M H) (hS : va_S A s.heap H locs) {k pc : Nat} (hk : k ≤ 200) {ls : Array Slot} (hsz : ls.size = 6) {rest : List Value} (hW9 : (rest.map fun v => v.category).sum ≤ 8) (hdg : decode cL_law pc = .ok (.invokestatic 111, 3)) (hcl : cells ≤ 600104) (hsl : slots ≤ 7301314)
    (kk : ∀ (v : Nat) (H1 : Heap) (locs1 : List Loc), v < 2 ^ 31 → wd G A M H1 → va_S A s.heap H1 locs1 → W p l e room_1 s m #[Value.ref b] below meth c H1 locs1 cells slots Q (F0 m (pc + 3) ls (.int (nI v) :: rest))) : W p l e room_1 s m #[Value.ref b] below meth c H locs cells slots Q (F0 m pc ls (.int (nI k) :: .ref b :: rest)) := by
  refine va_calli (S := Unit) (mc := 0) (ms := 0) (va_runS (As := [.ref b, .int (nI k)]) (rest := rest) ⟨X.1, X.2.1, X.2.2.2.2.2.2, X.2.2.2.2.1, X.2.2.2.1⟩ (c_draw l (b := b) (L := L) (xs := xs) k hk (by omega)) (va_cwS 2 X.2.2.2.1 gL_law_L_draw rfl rfl rfl (by decide +kernel) ⟨Nat.le_of_ble_eq_true rfl, Nat.le_of_ble_eq_true rfl⟩) ⟨draw_blind, fun U hU hW => ⟨rfl, ?_, ?_⟩⟩ rfl rfl hsz rfl (by simpa [JFrame.monitorRoom] using hW9) hdg ⟨hcl, hsl⟩) hS (fun q _ h => h.elim) (fun q h => h.elim) (fun r u t H1 locs1 ht hvm hp hB hz hk9 hS1 => ?_)
  · rw [hU]
    exact (hXs.kept (hS.2.1 b hbl hbA)).moved hW.alike
  · rw [hU]
    exact Nat.lt_of_lt_of_le hbl hS.1
  · obtain ⟨v, hv, ev⟩ := hp
    rw [ev]
    exact kk v H1 locs1 hv (hw.kept (fun q e hq => hk9 q (hw.lt hq) id)) hS1
set_option maxHeartbeats 4000000 in
set_option maxRecDepth 100000 in
/-- the law's loop: n steps are done -/
theorem law_loop {p : Program} {l : Launch} {e : Env} {s : State} {m : MethodId} {below : List Frame} {meth : Method} {c : Code} {b L : Nat} {xs : Nat → Int32} {G : gG} {dce : Nat} (hlt : l.stackTraces = false) (X : cX p s m meth c cL_law 6 ret wsL_law RL #[Value.ref b]) (hXs : va_X b L xs s s.heap) (hbl : b < s.heap.size) (hbA : ¬ (fun q : Nat => s.heap.size ≤ q) b) (hL0 : L ≤ 260) (hK : wK G s) (hZ : wZ dce (fun q : Nat => s.heap.size ≤ q) s s.heap) {x ca N9 : Nat} {ad : Nat → Nat} (hN9 : N9 ≤ 50) : ∀ (d : Nat) {n : Nat} (hn : n ≤ N9) (hd : N9 + 1 ≤ n + d) {M : gM} {y : cY} {z : cZ} (hls : LSt G dce x ad ca n (8 * n) M y z) {H : Heap} {locs : List Loc} (hw : wd G (fun q : Nat => s.heap.size ≤ q) M H) (hS : va_S (fun q : Nat => s.heap.size ≤ q) s.heap H locs) {cells slots : Nat} (hC : cells ≤ 200 + 5000 * n) (hS2 : slots ≤ 80000 + 30000 * n) {ls : Array Slot} (hl : lv_has ls 6 [(5, .int (nI n)), (4, .int (nI N9)), (3, .int 1), (2, .ref ca), (1, .ref x), (0, .ref b)]), W p l e room_1 s m #[Value.ref b] below meth c H locs cells slots (lw_Z below #[Value.ref b] s) (F0 m 72 ls []) := by
  obtain ⟨hx, hb, hr, hts, hown, hlk, hml⟩ := id X
  have hA : ∀ q : Nat, s.heap.size ≤ q → (fun q : Nat => s.heap.size ≤ q) q := fun _ h => h
  intro d
  induction d with
  | zero => intro n hn hd; omega
  | succ d ih =>
    intro n hn hd M y z hls H locs hw hS cells slots hC hS2 ls hl
    refine lv_iload hx hb dL_law_72 (lv_at hl 0 rfl) ?_
    refine lv_iload hx hb dL_law_74 (lv_at hl 1 rfl) ?_
    refine lv_icmp_ge (tgt := 123) hx hb dL_law_76 (by decide) (fun c_76 => ?_) (fun c_76 => ?_)
    · refine lv_iload_n hx hb dL_law_123 rfl (lv_at hl 2 rfl) ?_
      refine va_forget (fun q hq => hS.2.2 q hq) ?_
      refine W.widen (k := 600104) (n := 7301314) (by omega) (by omega) ?_
      exact lw_ret hx hb hr hlk dL_law_124
    have hlt9 : n < N9 := Nat.lt_of_not_le (fun q => c_76 (nI_le q (by omega)))
    refine lv_iload_n hx hb dL_law_79 rfl (lv_at hl 2 rfl) ?_
    refine lv_if_eq (tgt := 123) hx hb dL_law_80 (by decide) (fun c_80 => absurd c_80 (by decide)) (fun _ => ?_)
    refine lv_aload_n hx hb dL_law_83 rfl (lv_at hl 4 rfl) ?_
    refine lv_aload_n hx hb dL_law_84 rfl (lv_at hl 3 rfl) ?_
    refine lv_aload_n hx hb dL_law_85 rfl (lv_at hl 5 rfl) ?_
    refine lv_iconst (v := 3) hx hb dL_law_86 (by decide) ?_
    refine lv_iload hx hb dL_law_87 (lv_at hl 0 rfl) ?_
    refine lv_imul hx hb dL_law_89 ?_
    rw [show (3 : Int32) * nI n = nI (3 * n) from nI_mul 3 n]
    refine m_draw X hXs hbl hbA hL0 hw hS (by omega) hl.1 (Nat.le_of_ble_eq_true rfl) dL_law_90 (by omega) (by omega) (fun v1 H locs hv1 hw hS => ?_)
    refine lv_aload_n hx hb dL_law_93 rfl (lv_at hl 5 rfl) ?_
    refine lv_iconst (v := 3) hx hb dL_law_94 (by decide) ?_
    refine lv_iload hx hb dL_law_95 (lv_at hl 0 rfl) ?_
    refine lv_imul hx hb dL_law_97 ?_
    rw [show (3 : Int32) * nI n = nI (3 * n) from nI_mul 3 n]
    refine lv_iconst (v := 1) hx hb dL_law_98 (by decide) ?_
    refine lv_iadd hx hb dL_law_99 ?_
    rw [show nI (3 * n) + (1 : Int32) = nI (3 * n + 1) from nI_add (3 * n) 1]
    refine m_draw X hXs hbl hbA hL0 hw hS (by omega) hl.1 (Nat.le_of_ble_eq_true rfl) dL_law_100 (by omega) (by omega) (fun v2 H locs hv2 hw hS => ?_)
    refine lv_aload_n hx hb dL_law_103 rfl (lv_at hl 5 rfl) ?_
    refine lv_iconst (v := 3) hx hb dL_law_104 (by decide) ?_
    refine lv_iload hx hb dL_law_105 (lv_at hl 0 rfl) ?_
    refine lv_imul hx hb dL_law_107 ?_
    rw [show (3 : Int32) * nI n = nI (3 * n) from nI_mul 3 n]
    refine lv_iconst (v := 2) hx hb dL_law_108 (by decide) ?_
    refine lv_iadd hx hb dL_law_109 ?_
    rw [show nI (3 * n) + (2 : Int32) = nI (3 * n + 2) from nI_add (3 * n) 2]
    refine m_draw X hXs hbl hbA hL0 hw hS (by omega) hl.1 (Nat.le_of_ble_eq_true rfl) dL_law_110 (by omega) (by omega) (fun v3 H locs hv3 hw hS => ?_)
    obtain ⟨f, bm, hLC, hf0, hf1, hf3, hcb⟩ := hls
    refine m_callSi X hK hw hZ hS hA (As := [.ref x, .ref ca, .int (nI v1), .int (nI v2), .int (nI v3)]) (rest := []) (c_step l G dce _ M hlt x ad ca f bm n (8 * n) y z hLC (by omega) hf0 hf1 hf3 hcb (by omega) (by omega) v2 v3 v1 hv2 hv3 hv1) (va_cwS 5 hts gL_law_L_step rfl rfl rfl (by decide +kernel) ⟨Nat.le_of_ble_eq_true rfl, Nat.le_of_ble_eq_true rfl⟩) rfl hl.1 rfl (Nat.le_of_ble_eq_true rfl) dL_law_113 (by show _ ≤ (600104 : Nat); omega) (by show _ ≤ (7301314 : Nat); omega) (fun r9 M1 H locs hp hw hS hz hk => ?_)
    obtain ⟨er9, y1, z1, hls1⟩ := hp
    rw [er9]
    refine lv_istore_n (lv' := [(3, .int 1), (5, .int (nI n)), (4, .int (nI N9)), (2, .ref ca), (1, .ref x), (0, .ref b)]) hx hb dL_law_116 rfl hl (by decide) rfl (fun ls hl => ?_)
    refine lv_iinc (v := (nI (n + 1))) (lv' := [(5, .int (nI (n + 1))), (3, .int 1), (4, .int (nI N9)), (2, .ref ca), (1, .ref x), (0, .ref b)]) hx hb dL_law_117 hl (k := 1) rfl (nI_1 _) (by decide) rfl (fun ls hl => ?_)
    refine lv_goto (tgt := 72) hx hb dL_law_120 (by decide) ?_
    exact ih (n := n + 1) (by omega) (by omega) hls1 hw hS (by omega) (by omega) (lv_sub hl [0, 2, 1, 3, 4, 5] rfl)
set_option maxHeartbeats 4000000 in
set_option maxRecDepth 100000 in
theorem whole_start {p : Program} {e : Env} {s : State} {m : MethodId} {below : List Frame} {meth : Method} {c : Code} (l : Launch) (hflags : l.flags = flags0) {b L : Nat} {xs : Nat → Int32} (hL : L ≤ 260) (C0 : lw_At p s m meth c b L xs) : W p l e room_1 s m #[Value.ref b] below meth c s.heap [] 0 0 (lw_Z below #[Value.ref b] s) (entryFrame m ([Value.ref b] : List Value).toArray 6) := by
  obtain ⟨hx, hb, hr, hml, hown, hts0, hX, hbl, hlk, hgv⟩ := id C0
  have hA : ∀ q : Nat, s.heap.size ≤ q → (fun q : Nat => s.heap.size ≤ q) q := fun _ h => h
  have hbA : ¬ (fun q : Nat => s.heap.size ≤ q) b := Nat.not_le.mpr hbl
  obtain ⟨dce, hZ⟩ := env0 (A := fun q : Nat => s.heap.size ≤ q) hts0 hgv (fun a h => Nat.not_le.mpr h)
  obtain ⟨G, hK⟩ := known0 hts0
  have X : cX p s m meth c cL_law 6 ret wsL_law RL #[Value.ref b] := ⟨hx, hb, hr, fun w h => hts0 w (wsL_law_in w h), hown, hlk, hml⟩
  have hts := X.2.2.2.1
  have iX6 := inlX6
  have hlt : l.stackTraces = false := by
    unfold Launch.stackTraces
    rw [hflags]
    decide +kernel
  have hS : va_S (fun q : Nat => s.heap.size ≤ q) s.heap s.heap [] := va_S.rf
  obtain ⟨M0, hM0⟩ : ∃ z : gM, z = fun _ => none := ⟨_, rfl⟩
  have hw : wd G (fun q : Nat => s.heap.size ≤ q) M0 s.heap := ⟨[], fun k q h => by simp at h, ⟨fun i j p q h => by simp at h, fun k q h => by simp at h⟩, fun a e => by rw [hM0]; simp⟩
  have hl := lv_entry ([.ref b]) (n := 6) (Nat.le_of_ble_eq_true rfl)
  rw [lg_entry_eq]
  generalize (lg_sl ([.ref b]) ++ List.replicate (6 - (lg_sl ([.ref b])).length) Slot.unset).toArray = ls at hl ⊢
  have hl : lv_has ls 6 [(0, .ref b)] := hl
  refine m_new X iX6 tyX6_ok (ci := 7) (by decide +kernel) (by decide +kernel) (by decide +kernel) hK hw hS hA rfl (fs := [.null, .null, .null, .null]) rfl (Nat.le_of_ble_eq_true rfl) (Nat.le_of_ble_eq_true rfl) dL_law_0 (fun x M1 H nx eM1 hw hS => ?_)
  have k2 : M1 x = some (.inr (7, [.null, .null, .null, .null])) := by rw [eM1]; exact mu_s _ _ _
  refine lv_dup hx hb dL_law_3 rfl ?_
  refine m_callIv (ret9 := none) X hK hw hZ hS hA (As := []) (rest := [.ref x]) (c_X6_init l G dce _ M1 x k2) (cwI 0 hts gL_law_X6_init rfl rfl rfl (hts (.initialized RX6) (by decide +kernel)) (hts (.methodLink RL 110 yX6_init) (by decide +kernel)) (hts (.instanceMethod yX6_init) (by decide +kernel)) rfl (by decide +kernel) ⟨Nat.le_of_ble_eq_true rfl, Nat.le_of_ble_eq_true rfl⟩) rfl hl.1 rfl (Nat.le_of_ble_eq_true rfl) dL_law_4 (Nat.le_of_ble_eq_true rfl) (Nat.le_of_ble_eq_true rfl) (fun M3 H locs hp hw hS hz hk => ?_)
  obtain ⟨ad, hc0, hc1, hc2⟩ := hp
  obtain ⟨y, z, hcw, hzN, hzW, hzC, hy8, hy9⟩ := cS0_CW hc0 hc1 hc2
  refine lv_astore_n (lv' := [(1, .ref x), (0, .ref b)]) hx hb dL_law_7 rfl hl (by decide) rfl (fun ls hl => ?_)
  refine lv_iconst (v := 4) hx hb dL_law_8 (by decide) ?_
  refine m_newa_int X (by decide +kernel) hK hw hS hA (N' := 4) (by decide) (by decide) (by decide) (Nat.le_of_ble_eq_true rfl) (Nat.le_of_ble_eq_true rfl) dL_law_9 (fun ca M4 H nca eM4 hw hS => ?_)
  have fr1 : ∀ b e, M3 b = some e → M4 b = some e := fun b e hb => (congrFun eM4 b).trans (mu_g hb (gM_nn nca hb))
  have hLC : LC G dce x ad ca (fun _ => 0) (fun a => (fun _ : Nat => false) a = false) 0 0 M4 y z := ⟨hcw.mono fr1, jH0 hzN hzW hzC, by rw [eM4]; exact mu_s _ _ _, hcw.nNew nca⟩
  have hls : LSt G dce x ad ca 0 (8 * 0) M4 y z := ⟨fun _ => 0, fun _ => false, hLC, by rw [hzN]; rfl, by rw [hzN]; rfl, rfl, Or.inl (by rw [hzC]; exact Nat.le_refl _)⟩
  have hx9 : M4 x = some (.inr (7, [.ref (ad 0), .ref (ad 1), .ref (ad 2), .ref (ad 3)])) := hLC.1.1.1
  refine lv_astore_n (lv' := [(2, .ref ca), (1, .ref x), (0, .ref b)]) hx hb dL_law_11 rfl hl (by decide) rfl (fun ls hl => ?_)
  refine lv_aload_n hx hb dL_law_12 rfl (lv_at hl 1 rfl) ?_
  refine lv_iconst (v := 0) hx hb dL_law_13 (by decide) ?_
  refine m_callVi X (ci := 7) rfl hx9 hK hw hZ hS hA (As := [.int 0]) (rest := []) (n_rows l G dce _ M4 hlt x ad ca (fun _ => 0) (fun a => (fun _ : Nat => false) a = false) 0 0 y z hLC (by decide) (k := 0) (by decide)) (cwV 1 hts gL_law_X6_rows rfl rfl rfl (by decide +kernel) ⟨Nat.le_of_ble_eq_true rfl, Nat.le_of_ble_eq_true rfl⟩) rfl hl.1 rfl (Nat.le_of_ble_eq_true rfl) dL_law_14 (Nat.le_of_ble_eq_true rfl) (Nat.le_of_ble_eq_true rfl) (fun r6 M5 H locs hp hw hS hz hk => ?_)
  rw [hp.2] at hw
  rw [hp.1]
  rw [show cnt (fun j => (zR z 0 j).1) (zN z 0) = 0 from by rw [hzN]; rfl, nI_0]
  refine lv_if_ne (tgt := 47) hx hb dL_law_17 (by decide) (fun c_17 => absurd (by decide) c_17) (fun _ => ?_)
  refine lv_aload_n hx hb dL_law_20 rfl (lv_at hl 1 rfl) ?_
  refine lv_iconst (v := 1) hx hb dL_law_21 (by decide) ?_
  refine m_callVi X (ci := 7) rfl hx9 hK hw hZ hS hA (As := [.int 1]) (rest := []) (n_rows l G dce _ M4 hlt x ad ca (fun _ => 0) (fun a => (fun _ : Nat => false) a = false) 0 0 y z hLC (by decide) (k := 1) (by decide)) (cwV 1 hts gL_law_X6_rows rfl rfl rfl (by decide +kernel) ⟨Nat.le_of_ble_eq_true rfl, Nat.le_of_ble_eq_true rfl⟩) rfl hl.1 rfl (Nat.le_of_ble_eq_true rfl) dL_law_22 (Nat.le_of_ble_eq_true rfl) (Nat.le_of_ble_eq_true rfl) (fun r8 M7 H locs hp hw hS hz hk => ?_)
  rw [hp.2] at hw
  rw [hp.1]
  rw [show cnt (fun j => (zR z 1 j).1) (zN z 1) = 0 from by rw [hzN]; rfl, nI_0]
  refine lv_if_ne (tgt := 47) hx hb dL_law_25 (by decide) (fun c_25 => absurd (by decide) c_25) (fun _ => ?_)
  refine lv_aload_n hx hb dL_law_28 rfl (lv_at hl 1 rfl) ?_
  refine m_callVi X (ci := 7) rfl hx9 hK hw hZ hS hA (As := []) (rest := []) (c_writes l G dce _ M4 x ad y z hLC.1) (cwV 0 hts gL_law_X6_writes rfl rfl rfl (by decide +kernel) ⟨Nat.le_of_ble_eq_true rfl, Nat.le_of_ble_eq_true rfl⟩) rfl hl.1 rfl (Nat.le_of_ble_eq_true rfl) dL_law_29 (Nat.le_of_ble_eq_true rfl) (Nat.le_of_ble_eq_true rfl) (fun r10 M9 H locs hp hw hS hz hk => ?_)
  rw [hp.2] at hw
  rw [hp.1]
  rw [hzW, nI_0]
  refine lv_if_ne (tgt := 47) hx hb dL_law_32 (by decide) (fun c_32 => absurd (by decide) c_32) (fun _ => ?_)
  refine lv_aload_n hx hb dL_law_35 rfl (lv_at hl 1 rfl) ?_
  refine lv_iconst (v := 2) hx hb dL_law_36 (by decide) ?_
  refine m_callVi X (ci := 7) rfl hx9 hK hw hZ hS hA (As := [.int 2]) (rest := []) (n_known l G dce _ M4 hlt x ad ca (fun _ => 0) (fun a => (fun _ : Nat => false) a = false) 0 0 y z hLC (by decide) (i := 2) (by decide)) (cwV 1 hts gL_law_X6_known rfl rfl rfl (by decide +kernel) ⟨Nat.le_of_ble_eq_true rfl, Nat.le_of_ble_eq_true rfl⟩) rfl hl.1 rfl (Nat.le_of_ble_eq_true rfl) dL_law_37 (Nat.le_of_ble_eq_true rfl) (Nat.le_of_ble_eq_true rfl) (fun r12 M11 H locs hp hw hS hz hk => ?_)
  rw [hp.2] at hw
  rw [hp.1]
  rw [tot_z hzN, nI_0]
  refine lv_if_ne (tgt := 47) hx hb dL_law_40 (by decide) (fun c_40 => absurd (by decide) c_40) (fun _ => ?_)
  refine lv_iconst (v := 1) hx hb dL_law_43 (by decide) ?_
  refine lv_goto (tgt := 48) hx hb dL_law_44 (by decide) ?_
  refine lv_istore_n (lv' := [(3, .int 1), (2, .ref ca), (1, .ref x), (0, .ref b)]) hx hb dL_law_48 rfl hl (by decide) rfl (fun ls hl => ?_)
  refine lv_aload_n hx hb dL_law_49 rfl (lv_at hl 3 rfl) ?_
  refine va_slen hx hb hX hbl hbA hS dL_law_50 ?_
  refine lv_iconst (v := 3) hx hb dL_law_51 (by decide) ?_
  refine lv_idiv hx hb dL_law_52 (by decide) ?_
  rw [show Int32.ofNat L = nI L from rfl, div_l (q := 3) (a := L) (b := 3) (by omega) (by decide) (by decide) rfl]
  refine lv_bipush (v := 50) hx hb dL_law_53 (by decide) ?_
  refine lv_icmp_le (tgt := 63) hx hb dL_law_55 (by decide) (fun c_55 => ?_) (fun c_55 => ?_)
  · refine lv_aload_n hx hb dL_law_63 rfl (lv_at hl 3 rfl) ?_
    refine va_slen hx hb hX hbl hbA hS dL_law_64 ?_
    refine lv_iconst (v := 3) hx hb dL_law_65 (by decide) ?_
    refine lv_idiv hx hb dL_law_66 (by decide) ?_
    rw [show Int32.ofNat L = nI L from rfl, div_l (q := 3) (a := L) (b := 3) (by omega) (by decide) (by decide) rfl]
    refine lv_istore (lv' := [(4, .int (nI (L / 3))), (3, .int 1), (2, .ref ca), (1, .ref x), (0, .ref b)]) hx hb dL_law_67 hl (by decide) rfl (fun ls hl => ?_)
    refine lv_iconst (v := 0) hx hb dL_law_69 (by decide) ?_
    refine lv_istore (lv' := [(5, .int 0), (4, .int (nI (L / 3))), (3, .int 1), (2, .ref ca), (1, .ref x), (0, .ref b)]) hx hb dL_law_70 hl (by decide) rfl (fun ls hl => ?_)
    have hlt : l.stackTraces = false := by
      unfold Launch.stackTraces
      rw [hflags]
      decide +kernel
    exact law_loop hlt X hX hbl hbA hL hK hZ (N9 := (L / 3)) ((nI_leI (b := 50) (by omega) (by decide)).mp c_55) ((L / 3) + 1) (n := 0) (Nat.zero_le _) (by omega) hls hw hS (by decide) (by decide) (lv_sub hl [0, 1, 2, 3, 4, 5] rfl)
  · refine lv_bipush (v := 50) hx hb dL_law_58 (by decide) ?_
    refine lv_goto (tgt := 67) hx hb dL_law_60 (by decide) ?_
    refine lv_istore (lv' := [(4, .int 50), (3, .int 1), (2, .ref ca), (1, .ref x), (0, .ref b)]) hx hb dL_law_67 hl (by decide) rfl (fun ls hl => ?_)
    refine lv_iconst (v := 0) hx hb dL_law_69 (by decide) ?_
    refine lv_istore (lv' := [(5, .int 0), (4, .int 50), (3, .int 1), (2, .ref ca), (1, .ref x), (0, .ref b)]) hx hb dL_law_70 hl (by decide) rfl (fun ls hl => ?_)
    have hlt : l.stackTraces = false := by
      unfold Launch.stackTraces
      rw [hflags]
      decide +kernel
    exact law_loop hlt X hX hbl hbA hL hK hZ (N9 := 50) (Nat.le_refl _) (50 + 1) (n := 0) (Nat.zero_le _) (by omega) hls hw hS (by decide) (by decide) (lv_sub hl [0, 1, 2, 3, 4, 5] rfl)
-- ===== YOUR PART ENDS =====
set_option maxHeartbeats 4000000 in
theorem lw_walk (l : Launch) (hflags : l.flags = flags0) (b : Addr) (xs : List Int32) : MetFree l x (headSpec (Jvm.Cond.code x code maxLocals ret :: tables_1) room_1) (lw_P b xs) (fun _ _ _ _ _ => True) lw_Q := by
  refine MetFree.of_bodyS (code := code) (maxLocals := maxLocals) (ret := ret) (by decide) ?_ ?_
  · intro args s m h hn
    obtain ⟨meth, c, h1, h2, h3, h4, h5, h6, -, -⟩ := Cond.code_spec hn (atoms_spec (ws := Jvm.Cond.code x code maxLocals ret :: tables_1) h _ List.mem_cons_self)
    exact ⟨meth, c, h1, h2, h3, h4, h5, h6⟩
  · intro p e s m args below meth c s₁ B hml0 hP _
    obtain ⟨rfl, hx, hbd, hgv⟩ := hP
    obtain ⟨scr, harrAt, hlist, hof, hsmall⟩ := hx
    obtain ⟨hcb, hkn, -, -⟩ := State.arrayAt?_spec harrAt
    have hown : s.vm.findClass R_law = some m.cls := findClass_of_methodNamed B.named
    have hts0 : ∀ c ∈ (Jvm.Cond.code x code maxLocals ret :: tables_1), c.before #[Value.ref b] s = true := atoms_spec (ws := Jvm.Cond.code x code maxLocals ret :: tables_1) B.pre
    have hts : ∀ w ∈ lw_tbl, w.before #[Value.ref b] s = true := k2_hts_sels lw_privs (fun w hw => hts0 w (List.mem_cons_of_mem _ hw)) lw_privs_ok
    have hml : c.maxLocals = 6 := B.maxLocals_eq (hts0 _ List.mem_cons_self)
    have X₀ : Stand p l e room_1 s m #[Value.ref b] below meth c s₁ [] 0 0 := Stand.of_body B
    have hh0 : s₁.heap = s.heap := by rw [B.state]; rfl
    have hsz : scr.slots.size = xs.length := by rw [← Array.length_toList, hlist, List.length_map]
    have hval : ∀ j : Nat, j < xs.length → scr.slots[j]? = some (.int (xs.getD j 0)) := fun j hj => by
      rw [← Array.getElem?_toList, hlist]
      simp [hj]
    have hbl : b < s.heap.size := (Array.getElem?_eq_some_iff.mp hcb).1
    have hX : va_X b xs.length (fun j => xs.getD j 0) s s.heap := ⟨scr, hcb, hof, hkn, hsz, hval⟩
    have K : W p l e room_1 s m #[Value.ref b] below meth c s₁.heap [] 0 0 (lw_Z below #[Value.ref b] s) (entryFrame m ([Value.ref b] : List Value).toArray 6) := by
      rw [hh0]
      exact whole_start l hflags hbd ⟨B.exec, B.bytes, B.returns, hml, hown, hts, hX, hbl, B.notSynchronized, hgv⟩
    obtain ⟨t, a1, o, b1, b2, b3⟩ := K s₁ rfl X₀
    exact ⟨t, o, a1, b1, b2, b3⟩
theorem lw_pre_spec {args : Array Value} {s : State} (h : (Jvm.Cond.and given_1 narrow_1).before args s = true) (hr : rest_1_c.before args s = true) : ∃ (b : Addr) (xs : List Int32), lw_P b xs args s := by
  have hs := flat_of_before _ h
  have hq := flat_of_before _ hr
  have hc : (Cond.count 1).before args s = true := hs _ (by decide +kernel)
  have harr : (Cond.arrayOf (.arg 0) .int).before args s = true := hs _ (by decide +kernel)
  have hle : (Cond.le (.length (.arg 0)) (.int 260)).before args s = true := hs _ (by decide +kernel)
  have hlen : (Cond.isInt (.length (.arg 0))).before args s = true := hq _ (by decide +kernel)
  have hall : (Cond.all (.arg 0) (.isInt (.elem (.arg 0) (.index 0)))).before args s = true := hq _ (by decide +kernel)
  obtain ⟨b, xs, hb, hx⟩ := State.ints_of_pre rfl harr hlen hall
  have hsm : xs.length < 2 ^ 31 := hx.choose_spec.2.2.2
  have hev : (Term.length (.arg 0)).eval args s none [] s = some (.int xs.length.toInt32) := hx.length_eval hb
  have hv := Cond.le_ints hev (show (Term.int 260).eval args s none [] s = some (.int 260) from rfl)
  have hd : xs.length.toInt32 ≤ 260 := by
    simpa [Cond.before, Cond.holds, hv] using hle
  have hN : xs.length ≤ 260 := (Int32.ofNat_le_ofNat hsm (by decide)).mp (show Int32.ofNat xs.length ≤ Int32.ofNat 260 from hd)
  exact ⟨b, xs, Cond.one_arg hc (show args[0]? = some (.ref b) from hb), hx, hN, h⟩
theorem lw_comes (l : Launch) (hflags : l.flags = flags0) : Comes l x (Jvm.Cond.code x code maxLocals ret :: tables_1) room_1 (fun tb e args s => Calls_1 tb e args s ∧ rest_1 tb e args s ∧ Pre_1 tb e args s)
    (fun _ _ args s o t => lw_Q args s o t) := by
  intro p e ha hc hk s m args below hf hfit hheap happ hpre
  obtain ⟨b, xs, hP⟩ := lw_pre_spec hpre.2.2 hpre.2.1
  obtain ⟨k, o, h1, h2, h3, hQ⟩ := lw_walk l hflags b xs p e ha hc hk s m args below hf ((Spec.applies_iff_loose hf).mp happ).1 hP trivial
  exact ⟨k, o, h1, h2, h3, hQ⟩
theorem lw_frame {s t : State} {o : Outcome} {args : Array Value} (h : Framed s o t [] 600104 7301314) :
    Framed s o t (fieldLocs frame_1_writes args s ++ arrayLocs frame_1_arrays args s ++ staticLocs frame_1_statics s) 600104 7301314 := h
theorem lw_limb (L : Cond) (hL : ∀ (args : Array Value) (s t : State), L.after args s (.returned (some (.int 1))) t = true) :
    ArmFor flags0 classFile x code maxLocals ret World_1 tables_1 room_1 Calls_1 rest_1 Pre_1
      (fun tb e a s o t => postC L tb e a s o t ∧ Framed s o t (fieldLocs frame_1_writes a s ++ arrayLocs frame_1_arrays a s ++ staticLocs frame_1_statics s) 600104 7301314) := by
  intro l hflags _ _ p e ha hc hk s m args below hf hfit hheap happ hpre
  obtain ⟨k, o, h1, h2, h3, rfl, hF⟩ := lw_comes l hflags p e ha hc hk s m args below hf hfit hheap happ hpre
  exact ⟨k, _, h1, h2, h3, hL args s _, lw_frame hF⟩
theorem i_vc : Claimed_1_1 ∧ Claimed_1_2 := ⟨lw_limb limb_1_1 (fun args s t => by simp [limb_1_1, Cond.after, Cond.holds, Cond.value]), lw_limb limb_1_2 (fun args s t => Cond.after_iff.mpr (by
  first | (rw [show limb_1_2 = Cond.eq .result (.int 1) from rfl, Cond.eq_ints (x := 1) (y := 1) rfl rfl]; simp; done) | (simp [limb_1_2, Cond.value, Term.eval]; done)))⟩

