/-! THE CLAIM OUT OF ONE WALK OF THE LAW'S BODY. Your part is whole_start (and what it stands on); all else here is the same for every law, but numbers. -/
def R_law : String := "ObjectMapperLaw"
def lw_P (b : Addr) (xs : List Int32) (args : Array Value) (s : State) : Prop := args = #[.ref b] ∧ s.IntsAt b xs ∧ xs.length ≤ 2560 ∧ (Jvm.Cond.and given_1 narrow_1).before args s = true
def lw_Q (_ : Array Value) (s : State) (o : Outcome) (t : State) : Prop := o = .returned (some (.int 1)) ∧ Framed s o t [] 601024 7293034
def lw_Z (below : List Frame) (a : Array Value) (s : State) : State → Prop := fun t => ∃ o, t.status = .running ∧ Ended t below o ∧ lw_Q a s o t
/-- the law's own end, with 1 on the stack, nothing written that was there before, its room as the claim has it -/
theorem lw_ret {p : Program} {l : Launch} {e : Env} {s : State} {m : MethodId} {below : List Frame} {meth : Method} {c : Code} {b : Nat} (hx : p.tables.exec = Jvm.exec) (hb : c.code = code) (hr : meth.sig.returnType = ret) (hlocks : meth.locks = false) {pc : Nat} {H : Heap} {ls : Array Slot} (hdg : decode code pc = .ok (.ireturn, 1)) : W p l e room_1 s m #[Value.ref b] below meth c H [] 601024 7293034 (lw_Z below #[Value.ref b] s) (F0 m pc ls [.int 1]) := by
  intro T hT X
  obtain ⟨fs, hret, hrun, hended, hW, hframe⟩ := X.leave (v := some (.int 1)) (hlocks := hlocks) (fun h => by rw [hr] at h; cases h)
  have hmeth' : T.vm.method? m = some meth := X.method'
  refine ⟨T.setFrames fs, ?_, .returned (some (.int 1)), hrun, hended, rfl, ⟨_, rfl⟩, hW, hframe⟩
  jvm_step X.here [X.here.top, hx, hb, hdg, hmeth', hr, ret, narrow_b1]
  (try refine ⟨rfl, ?_⟩); (try refine ⟨rfl, ?_⟩)
  first | (intro acts; rw [hret _ acts rfl rfl rfl]) | rw [hret _ _ rfl rfl rfl]
  exact Steps.refl _
/-- what holds at the law's entry: the machine, the code, the tables' words (any of lw_tbl by 'hts w (by decide +kernel)'), the script of L ints xs at the cell b, what the Statement gives of the start (any of its parts by flat_of_before) -/
def lw_At (p : Program) (s : State) (m : MethodId) (meth : Method) (c : Code) (b L : Nat) (xs : Nat → Int32) : Prop :=
  p.tables.exec = Jvm.exec ∧ c.code = code ∧ meth.sig.returnType = ret ∧ c.maxLocals = 7 ∧ s.vm.findClass R_law = some m.cls ∧ (∀ w ∈ lw_tbl, w.before #[Value.ref b] s = true) ∧ va_X b L xs s s.heap ∧ b < s.heap.size ∧ meth.locks = false ∧ (Jvm.Cond.and given_1 narrow_1).before #[Value.ref b] s = true

set_option maxHeartbeats 4000000 in
set_option maxRecDepth 100000 in
/-- what the start gives of statics and constants -/
theorem env0 {s : State} {b : Nat} {A : Nat → Prop} (hts : ∀ w ∈ lw_tbl, w.before #[Value.ref b] s = true) (hgv : (Jvm.Cond.and given_1 narrow_1).before #[Value.ref b] s = true) (hA : ∀ a : Nat, a < s.heap.size → ¬ A a) : ∃ dce : Nat, wZ dce A s s.heap := by
  have hs := flat_of_before _ hgv
  obtain ⟨dce, hd, hT⟩ := va_Tof (tm := .static "java/util/ArrayList" "DEFAULTCAPACITY_EMPTY_ELEMENTDATA" "[Ljava/lang/Object;") (ty := .object "java/lang/Object") (N := 0) (f := fun _ => .null) (A := A) (by decide) (hs _ (by decide +kernel)) (va_eqt (hs _ (by decide +kernel))) (fun j hj => absurd hj (Nat.not_lt_zero _)) hA
  refine ⟨dce, vx_Zqof (hts _ (List.mem_of_getElem? (i := 277) (by decide +kernel))) (hts _ (List.mem_of_getElem? (i := 56) (by decide +kernel))) (hs _ (by decide +kernel)) hA, vx_Zqof (hts _ (List.mem_of_getElem? (i := 279) (by decide +kernel))) (hts _ (List.mem_of_getElem? (i := 56) (by decide +kernel))) (hs _ (by decide +kernel)) hA, va_Zof (hts _ (List.mem_of_getElem? (i := 96) (by decide +kernel))) (hts _ (List.mem_of_getElem? (i := 50) (by decide +kernel))) hd hA, hT, ?_, ?_, ?_, va_AO.of (A := #[Value.ref b]) (hts _ (List.mem_of_getElem? (i := 406) (by decide +kernel))), va_AO.of (A := #[Value.ref b]) (hts _ (List.mem_of_getElem? (i := 165) (by decide +kernel))), ?_, ?_, ?_⟩
  · exact List.forall_mem_cons.mpr ⟨va_Nw.of rfl (hts _ (List.mem_of_getElem? (i := 323) (by decide +kernel))), List.forall_mem_cons.mpr ⟨va_Nw.of rfl (hts _ (List.mem_of_getElem? (i := 465) (by decide +kernel))), List.forall_mem_cons.mpr ⟨va_Nw.of rfl (hts _ (List.mem_of_getElem? (i := 252) (by decide +kernel))), List.forall_mem_cons.mpr ⟨va_Nw.of rfl (hts _ (List.mem_of_getElem? (i := 1058) (by decide +kernel))), List.forall_mem_cons.mpr ⟨va_Nw.of rfl (hts _ (List.mem_of_getElem? (i := 1056) (by decide +kernel))), fun _ h => absurd h List.not_mem_nil⟩⟩⟩⟩⟩
  · exact List.forall_mem_cons.mpr ⟨va_Nc.of (hs (.not (.castable "java/lang/IllegalArgumentException" "java/lang/IllegalStateException")) (by decide +kernel)), List.forall_mem_cons.mpr ⟨va_Nc.of (hs (.not (.castable "java/lang/IllegalArgumentException" "java/lang/IndexOutOfBoundsException")) (by decide +kernel)), List.forall_mem_cons.mpr ⟨va_Nc.of (hs (.not (.castable "java/lang/IllegalStateException" "java/lang/IllegalArgumentException")) (by decide +kernel)), List.forall_mem_cons.mpr ⟨va_Nc.of (hs (.not (.castable "java/lang/IllegalStateException" "java/lang/IndexOutOfBoundsException")) (by decide +kernel)), List.forall_mem_cons.mpr ⟨va_Nc.of (hs (.not (.castable "java/lang/IndexOutOfBoundsException" "java/lang/IllegalArgumentException")) (by decide +kernel)), List.forall_mem_cons.mpr ⟨va_Nc.of (hs (.not (.castable "java/lang/IndexOutOfBoundsException" "java/lang/IllegalStateException")) (by decide +kernel)), fun _ h => absurd h List.not_mem_nil⟩⟩⟩⟩⟩⟩
  · exact List.forall_mem_cons.mpr ⟨(by obtain ⟨a9, c9, cA9, kA9, q9, -⟩ := Cond.exactly_spec (args := #[Value.ref b]) (first := s) (o := none) (s := s) (idx := []) (t := .string "ObjectMapper" 100) (cls := "java/lang/String") (hs _ (by decide +kernel)); exact ⟨a9, vk_R.of (A := #[Value.ref b]) (hts _ (List.mem_of_getElem? (i := 538) (by decide +kernel))) q9⟩), List.forall_mem_cons.mpr ⟨(by obtain ⟨a9, c9, cA9, kA9, q9, -⟩ := Cond.exactly_spec (args := #[Value.ref b]) (first := s) (o := none) (s := s) (idx := []) (t := .string "ObjectMapper" 130) (cls := "java/lang/String") (hs _ (by decide +kernel)); exact ⟨a9, vk_R.of (A := #[Value.ref b]) (hts _ (List.mem_of_getElem? (i := 619) (by decide +kernel))) q9⟩), List.forall_mem_cons.mpr ⟨(by obtain ⟨a9, c9, cA9, kA9, q9, -⟩ := Cond.exactly_spec (args := #[Value.ref b]) (first := s) (o := none) (s := s) (idx := []) (t := .string "ObjectMapper" 144) (cls := "java/lang/String") (hs _ (by decide +kernel)); exact ⟨a9, vk_R.of (A := #[Value.ref b]) (hts _ (List.mem_of_getElem? (i := 681) (by decide +kernel))) q9⟩), List.forall_mem_cons.mpr ⟨(by obtain ⟨a9, c9, cA9, kA9, q9, -⟩ := Cond.exactly_spec (args := #[Value.ref b]) (first := s) (o := none) (s := s) (idx := []) (t := .string "ObjectMapper" 179) (cls := "java/lang/String") (hs _ (by decide +kernel)); exact ⟨a9, vk_R.of (A := #[Value.ref b]) (hts _ (List.mem_of_getElem? (i := 291) (by decide +kernel))) q9⟩), List.forall_mem_cons.mpr ⟨(by obtain ⟨a9, c9, cA9, kA9, q9, -⟩ := Cond.exactly_spec (args := #[Value.ref b]) (first := s) (o := none) (s := s) (idx := []) (t := .string "ObjectMapper" 182) (cls := "java/lang/String") (hs _ (by decide +kernel)); exact ⟨a9, vk_R.of (A := #[Value.ref b]) (hts _ (List.mem_of_getElem? (i := 489) (by decide +kernel))) q9⟩), List.forall_mem_cons.mpr ⟨(by obtain ⟨a9, c9, cA9, kA9, q9, -⟩ := Cond.exactly_spec (args := #[Value.ref b]) (first := s) (o := none) (s := s) (idx := []) (t := .string "ObjectMapper" 184) (cls := "java/lang/String") (hs _ (by decide +kernel)); exact ⟨a9, vk_R.of (A := #[Value.ref b]) (hts _ (List.mem_of_getElem? (i := 330) (by decide +kernel))) q9⟩), List.forall_mem_cons.mpr ⟨(by obtain ⟨a9, c9, cA9, kA9, q9, -⟩ := Cond.exactly_spec (args := #[Value.ref b]) (first := s) (o := none) (s := s) (idx := []) (t := .string "ObjectMapper" 186) (cls := "java/lang/String") (hs _ (by decide +kernel)); exact ⟨a9, vk_R.of (A := #[Value.ref b]) (hts _ (List.mem_of_getElem? (i := 472) (by decide +kernel))) q9⟩), List.forall_mem_cons.mpr ⟨(by obtain ⟨a9, c9, cA9, kA9, q9, -⟩ := Cond.exactly_spec (args := #[Value.ref b]) (first := s) (o := none) (s := s) (idx := []) (t := .string "ObjectMapper" 188) (cls := "java/lang/String") (hs _ (by decide +kernel)); exact ⟨a9, vk_R.of (A := #[Value.ref b]) (hts _ (List.mem_of_getElem? (i := 765) (by decide +kernel))) q9⟩), List.forall_mem_cons.mpr ⟨(by obtain ⟨a9, c9, cA9, kA9, q9, -⟩ := Cond.exactly_spec (args := #[Value.ref b]) (first := s) (o := none) (s := s) (idx := []) (t := .string "ObjectMapper" 190) (cls := "java/lang/String") (hs _ (by decide +kernel)); exact ⟨a9, vk_R.of (A := #[Value.ref b]) (hts _ (List.mem_of_getElem? (i := 791) (by decide +kernel))) q9⟩), fun _ h => absurd h List.not_mem_nil⟩⟩⟩⟩⟩⟩⟩⟩⟩
  · exact List.forall_mem_cons.mpr ⟨va_Nw.of rfl (hts _ (List.mem_of_getElem? (i := 79) (by decide +kernel))), List.forall_mem_cons.mpr ⟨va_Nw.of rfl (hts _ (List.mem_of_getElem? (i := 111) (by decide +kernel))), List.forall_mem_cons.mpr ⟨va_Nw.of rfl (hts _ (List.mem_of_getElem? (i := 148) (by decide +kernel))), List.forall_mem_cons.mpr ⟨va_Nw.of rfl (hts _ (List.mem_of_getElem? (i := 167) (by decide +kernel))), List.forall_mem_cons.mpr ⟨va_Nw.of rfl (hts _ (List.mem_of_getElem? (i := 175) (by decide +kernel))), List.forall_mem_cons.mpr ⟨va_Nw.of rfl (hts _ (List.mem_of_getElem? (i := 680) (by decide +kernel))), fun _ h => absurd h List.not_mem_nil⟩⟩⟩⟩⟩⟩
  · exact List.forall_mem_cons.mpr ⟨va_Nw.of rfl (hts _ (List.mem_of_getElem? (i := 254) (by decide +kernel))), List.forall_mem_cons.mpr ⟨va_Nw.of rfl (hts _ (List.mem_of_getElem? (i := 256) (by decide +kernel))), List.forall_mem_cons.mpr ⟨va_Nw.of rfl (hts _ (List.mem_of_getElem? (i := 258) (by decide +kernel))), List.forall_mem_cons.mpr ⟨va_Nw.of rfl (hts _ (List.mem_of_getElem? (i := 1068) (by decide +kernel))), fun _ h => absurd h List.not_mem_nil⟩⟩⟩⟩
  · exact va_Mi.of (hs (.isRef (.mirror "[Ljava/lang/Object;")) (by decide +kernel))
set_option maxHeartbeats 4000000 in
set_option maxRecDepth 100000 in
/-- the classes and the array classes -/
theorem known0 {s : State} {b : Nat} (hts : ∀ w ∈ lw_tbl, w.before #[Value.ref b] s = true) : ∃ G : gG, wK G s := by
  obtain ⟨c0, i0, k0⟩ := u_known (C := RJx4a65c) (T := TJx4a65c) (N := 3) (n := 3) hts inJx4a65c (hts (.instantiable RJx4a65c 3) (List.mem_of_getElem? (i := 84) (by decide +kernel)))
  obtain ⟨c1, i1, k1⟩ := u_known (C := RX0) (T := TX0) (N := 8) (n := 8) hts inX0 (hts (.instantiable RX0 8) (List.mem_of_getElem? (i := 174) (by decide +kernel)))
  obtain ⟨c2, i2, k2⟩ := u_known (C := RX1) (T := TX1) (N := 4) (n := 4) hts inX1 (hts (.instantiable RX1 4) (List.mem_of_getElem? (i := 621) (by decide +kernel)))
  obtain ⟨c3, i3, k3⟩ := u_known (C := RX2) (T := TX2) (N := 3) (n := 3) hts inX2 (hts (.instantiable RX2 3) (List.mem_of_getElem? (i := 147) (by decide +kernel)))
  obtain ⟨c4, i4, k4⟩ := u_known (C := RX3) (T := TX3) (N := 4) (n := 4) hts inX3 (hts (.instantiable RX3 4) (List.mem_of_getElem? (i := 110) (by decide +kernel)))
  obtain ⟨c5, i5, k5⟩ := u_known (C := RX4) (T := TX4) (N := 3) (n := 3) hts inX4 (hts (.instantiable RX4 3) (List.mem_of_getElem? (i := 166) (by decide +kernel)))
  obtain ⟨c6, i6, k6⟩ := u_known (C := RX5) (T := TX5) (N := 2) (n := 2) hts inX5 (hts (.instantiable RX5 2) (List.mem_of_getElem? (i := 78) (by decide +kernel)))
  obtain ⟨c7, i7, k7⟩ := u_known (C := RX6) (T := TX6) (N := 4) (n := 4) hts inX6 (hts (.instantiable RX6 4) (List.mem_of_getElem? (i := 70) (by decide +kernel)))
  obtain ⟨c8, i8, k8⟩ := u_known (C := RX7) (T := TX7) (N := 16) (n := 16) hts inX7 (hts (.instantiable RX7 16) (List.mem_of_getElem? (i := 808) (by decide +kernel)))
  obtain ⟨a0, ka0, co0, f0, g0, e0⟩ := Cond.arrayClass_spec (args := #[Value.ref b]) (first := s) (o := none) (s := s) (idx := []) (type := .int) (hts _ (List.mem_of_getElem? (i := 163) (by decide +kernel)))
  obtain ⟨a1, ka1, co1, f1, g1, e1⟩ := Cond.arrayClass_spec (args := #[Value.ref b]) (first := s) (o := none) (s := s) (idx := []) (type := .boolean) (hts _ (List.mem_of_getElem? (i := 862) (by decide +kernel)))
  obtain ⟨a2, ka2, co2, f2, g2, e2⟩ := Cond.arrayClass_spec (args := #[Value.ref b]) (first := s) (o := none) (s := s) (idx := []) (type := .long) (hts _ (List.mem_of_getElem? (i := 1050) (by decide +kernel)))
  obtain ⟨co3, a3, ka3, p3, q3, g3, e3, f3⟩ := Cond.arrayOver_spec (args := #[Value.ref b]) (first := s) (o := none) (s := s) (idx := []) (n := "java/lang/Object") (hts _ (List.mem_of_getElem? (i := 406) (by decide +kernel)))
  obtain ⟨co4, a4, ka4, p4, q4, g4, e4, f4⟩ := Cond.arrayOver_spec (args := #[Value.ref b]) (first := s) (o := none) (s := s) (idx := []) (n := "ObjectMapper$Session") (hts _ (List.mem_of_getElem? (i := 165) (by decide +kernel)))
  refine ⟨((fun k => [c0, c1, c2, c3, c4, c5, c6, c7, c8].getD k c0, fun k => [i0, i1, i2, i3, i4, i5, i6, i7, i8].getD k i0), fun k => [a0, a1, a2, a3, a4].getD k a0), ?_, ?_⟩
  · intro k q hq
    match k, hq with
    | 0, hq => cases hq; exact k0
    | 1, hq => cases hq; exact k1
    | 2, hq => cases hq; exact k2
    | 3, hq => cases hq; exact k3
    | 4, hq => cases hq; exact k4
    | 5, hq => cases hq; exact k5
    | 6, hq => cases hq; exact k6
    | 7, hq => cases hq; exact k7
    | 8, hq => cases hq; exact k8
    | k + 9, hq => simp [vwCl] at hq
  · intro k q hq
    match k, hq with
    | 0, hq => cases hq; exact ⟨fun n z => ⟨fun k h => (by cases h), ka0, g0, co0, e0⟩, f0⟩
    | 1, hq => cases hq; exact ⟨fun n z => ⟨fun k h => (by cases h), ka1, g1, co1, e1⟩, f1⟩
    | 2, hq => cases hq; exact ⟨fun n z => ⟨fun k h => (by cases h), ka2, g2, co2, e2⟩, f2⟩
    | 3, hq => cases hq; exact ⟨fun n z => ⟨fun k h => (by cases h), ka3, g3, co3, e3⟩, ka3, co3, g3, e3, p3, f3⟩
    | 4, hq => cases hq; exact ⟨fun n z => ⟨fun k h => (by cases h), ka4, g4, co4, e4⟩, ka4, co4, g4, e4, p4, f4⟩
    | k + 5, hq => simp [tyL] at hq
set_option maxHeartbeats 4000000 in
set_option maxRecDepth 100000 in
/-- the law's loop: n calls are done -/
theorem law_loop {p : Program} {l : Launch} {e : Env} {s : State} {m : MethodId} {below : List Frame} {meth : Method} {c : Code} {b L : Nat} {xs : Nat → Int32} {G : gG} {dce : Nat} (hlt : l.stackTraces = false) (X : cX p s m meth c cL_law 7 ret wsL_law RL #[Value.ref b]) (hXs : va_X b L xs s s.heap) (hbl : b < s.heap.size) (hbA : ¬ (fun q : Nat => s.heap.size ≤ q) b) (hL0 : L ≤ 2560) (hK : wK G s) (hZ : wZ dce (fun q : Nat => s.heap.size ≤ q) s s.heap) {x xm oa : Nat} {ad adm : Nat → Nat} : ∀ (d : Nat) {n : Nat} (hn : n ≤ 512) (hd : 513 ≤ n + d) {M : gM} {y : cY} {z : cZ} {w : mW} (hI : LI G dce x ad xm adm oa M y z w) (hR : RI n z w) {H : Heap} {locs : List Loc} (hw : wd G (fun q : Nat => s.heap.size ≤ q) M H) (hS : va_S (fun q : Nat => s.heap.size ≤ q) s.heap H locs) {cells slots : Nat} (hC : cells ≤ 100 + 11 * n + zC z) (hS2 : slots ≤ 80000 + 6190 * n + 4 * zC z) {ls : Array Slot} (hl : lv_has ls 7 [(4, .int (nI (5 * n))), (3, .ref oa), (2, .ref xm), (1, .ref x), (0, .ref b)]), W p l e room_1 s m #[Value.ref b] below meth c H locs cells slots (lw_Z below #[Value.ref b] s) (F0 m 23 ls []) := by
  obtain ⟨hx, hb, hr, hts, hown, hlk, hml⟩ := id X
  have hA : ∀ q : Nat, s.heap.size ≤ q → (fun q : Nat => s.heap.size ≤ q) q := fun _ h => h
  intro d
  induction d with
  | zero => intro n hn hd; omega
  | succ d ih =>
    intro n hn hd M y z w hI hR H locs hw hS cells slots hC hS2 ls hl
    have hzc : zC z ≤ 32768 := hI.1.2.2.2.1.2.1.2.2.2.2
    refine lv_iload hx hb dL_law_23 (lv_at hl 0 rfl) ?_
    refine lv_aload_n hx hb dL_law_25 rfl (lv_at hl 4 rfl) ?_
    refine va_slen hx hb hXs hbl hbA hS dL_law_26 ?_
    refine lv_iconst (v := 5) hx hb dL_law_27 (by decide) ?_
    refine lv_isub hx hb dL_law_28 ?_
    refine lv_icmp_gt (tgt := 940) hx hb dL_law_29 (by decide) (fun c_29 => ?_) (fun c_29 => ?_)
    · refine lv_iconst (v := 1) hx hb dL_law_940 (by decide) ?_
      refine va_forget (fun q hq => hS.2.2 q hq) ?_
      refine W.widen (k := 601024) (n := 7293034) (by omega) (by omega) ?_
      exact lw_ret hx hb hr hlk dL_law_941
    · have hle : 5 * n + 5 ≤ L := Nat.le_of_not_lt (fun q => c_29 ((law_lt hL0 hn).mpr q))
      have hn5 : n < 512 := by omega
      refine lv_aload_n hx hb dL_law_32 rfl (lv_at hl 4 rfl) ?_
      refine lv_iload hx hb dL_law_33 (lv_at hl 0 rfl) ?_
      refine va_sld hx hb hXs hbl hbA hS (vp_in_nI (by omega) (by omega)) dL_law_35 ?_
      refine lv_bipush (v := 31) hx hb dL_law_36 (by decide) ?_
      refine lv_iand hx hb dL_law_38 ?_
      refine lv_topi (fun v ev => ?_)
      have tl : ∀ (M : gM) (y : cY) (z : cZ) (w : mW) (H : Heap) (locs : List Loc) (cells slots : Nat) (ls : Array Slot), LI G dce x ad xm adm oa M y z w → RI (n + 1) z w → wd G (fun q : Nat => s.heap.size ≤ q) M H → va_S (fun q : Nat => s.heap.size ≤ q) s.heap H locs → lv_has ls 7 [(4, .int (nI (5 * n))), (3, .ref oa), (2, .ref xm), (1, .ref x), (0, .ref b)] → cells ≤ 100 + 11 * (n + 1) + zC z → slots ≤ 80000 + 6190 * (n + 1) + 4 * zC z → W p l e room_1 s m #[Value.ref b] below meth c H locs cells slots (lw_Z below #[Value.ref b] s) (F0 m 934 ls []) := by
        intro M y z w H locs cells slots ls hI hR hw hS hl hC hS2
        refine lv_iinc (v := nI (5 * (n + 1))) (lv' := [(4, .int (nI (5 * (n + 1)))), (3, .ref oa), (2, .ref xm), (1, .ref x), (0, .ref b)]) hx hb dL_law_934 hl (k := 0) rfl (show nI (5 * n) + 5 = nI (5 * (n + 1)) from nI_add (5 * n) 5) (by decide) rfl (fun ls hl => ?_)
        refine lv_goto (tgt := 23) hx hb dL_law_937 (by decide) ?_
        exact ih (by omega) (by omega) hI hR hw hS hC hS2 hl
      have tl0 := tl M y z w H locs cells slots ls hI (st_none hR) hw hS hl (by omega) (by omega)
      by_cases h1 : v.toInt < 0
      · exact lv_tableOut (tgt := 934) hx hb dL_law_39 (Or.inl h1) (by decide) tl0
      by_cases h2 : 19 < v.toInt
      · exact lv_tableOut (tgt := 934) hx hb dL_law_39 (Or.inr h2) (by decide) tl0
      rcases (show v.toInt = 0 ∨ v.toInt = 1 ∨ v.toInt = 2 ∨ v.toInt = 3 ∨ v.toInt = 4 ∨ v.toInt = 5 ∨ v.toInt = 6 ∨ v.toInt = 7 ∨ v.toInt = 8 ∨ v.toInt = 9 ∨ v.toInt = 10 ∨ v.toInt = 11 ∨ v.toInt = 12 ∨ v.toInt = 13 ∨ v.toInt = 14 ∨ v.toInt = 15 ∨ v.toInt = 16 ∨ v.toInt = 17 ∨ v.toInt = 18 ∨ v.toInt = 19 by omega) with h9 | h9 | h9 | h9 | h9 | h9 | h9 | h9 | h9 | h9 | h9 | h9 | h9 | h9 | h9 | h9 | h9 | h9 | h9 | h9
      · exact lv_tableIn (off := 93) (tgt := 132) hx hb dL_law_39 h1 h2 (by rw [h9]; rfl) (by decide) (law_makeAuthor hlt X hXs hbl hbA hL0 hK hZ hA hn5 hle hI hR hw hS hC hS2 hl tl)
      · exact lv_tableIn (off := 133) (tgt := 172) hx hb dL_law_39 h1 h2 (by rw [h9]; rfl) (by decide) (law_makeBook hlt X hXs hbl hbA hL0 hK hZ hA hn5 hle hI hR hw hS hC hS2 hl tl)
      · exact lv_tableIn (off := 185) (tgt := 224) hx hb dL_law_39 h1 h2 (by rw [h9]; rfl) (by decide) (law_find hlt X hXs hbl hbA hL0 hK hZ hA hn5 hle hI hR hw hS hC hS2 hl tl)
      · exact lv_tableIn (off := 237) (tgt := 276) hx hb dL_law_39 h1 h2 (by rw [h9]; rfl) (by decide) (law_books hlt X hXs hbl hbA hL0 hK hZ hA hn5 hle hI hR hw hS hC hS2 hl tl)
      · exact lv_tableIn (off := 277) (tgt := 316) hx hb dL_law_39 h1 h2 (by rw [h9]; rfl) (by decide) (law_setName hlt X hXs hbl hbA hL0 hK hZ hA hn5 hle hI hR hw hS hC hS2 hl tl)
      · exact lv_tableIn (off := 338) (tgt := 377) hx hb dL_law_39 h1 h2 (by rw [h9]; rfl) (by decide) (law_setReference hlt X hXs hbl hbA hL0 hK hZ hA hn5 hle hI hR hw hS hC hS2 hl tl)
      · exact lv_tableIn (off := 410) (tgt := 449) hx hb dL_law_39 h1 h2 (by rw [h9]; rfl) (by decide) (law_remove hlt X hXs hbl hbA hL0 hK hZ hA hn5 hle hI hR hw hS hC hS2 hl tl)
      · exact lv_tableIn (off := 462) (tgt := 501) hx hb dL_law_39 h1 h2 (by rw [h9]; rfl) (by decide) (law_name hlt X hXs hbl hbA hL0 hK hZ hA hn5 hle hI hR hw hS hC hS2 hl tl)
      · exact lv_tableIn (off := 514) (tgt := 553) hx hb dL_law_39 h1 h2 (by rw [h9]; rfl) (by decide) (law_reference hlt X hXs hbl hbA hL0 hK hZ hA hn5 hle hI hR hw hS hC hS2 hl tl)
      · exact lv_tableIn (off := 566) (tgt := 605) hx hb dL_law_39 h1 h2 (by rw [h9]; rfl) (by decide) (law_known hlt X hXs hbl hbA hL0 hK hZ hA hn5 hle hI hR hw hS hC hS2 hl tl)
      · exact lv_tableIn (off := 594) (tgt := 633) hx hb dL_law_39 h1 h2 (by rw [h9]; rfl) (by decide) (law_dirty hlt X hXs hbl hbA hL0 hK hZ hA hn5 hle hI hR hw hS hC hS2 hl tl)
      · exact lv_tableIn (off := 622) (tgt := 661) hx hb dL_law_39 h1 h2 (by rw [h9]; rfl) (by decide) (law_flush hlt X hXs hbl hbA hL0 hK hZ hA hn5 hle hI hR hw hS hC hS2 hl tl)
      · exact lv_tableIn (off := 650) (tgt := 689) hx hb dL_law_39 h1 h2 (by rw [h9]; rfl) (by decide) (law_clear hlt X hXs hbl hbA hL0 hK hZ hA hn5 hle hI hR hw hS hC hS2 hl tl)
      · exact lv_tableIn (off := 678) (tgt := 717) hx hb dL_law_39 h1 h2 (by rw [h9]; rfl) (by decide) (law_rows hlt X hXs hbl hbA hL0 hK hZ hA hn5 hle hI hR hw hS hC hS2 hl tl)
      · exact lv_tableIn (off := 706) (tgt := 745) hx hb dL_law_39 h1 h2 (by rw [h9]; rfl) (by decide) (law_rowName hlt X hXs hbl hbA hL0 hK hZ hA hn5 hle hI hR hw hS hC hS2 hl tl)
      · exact lv_tableIn (off := 746) (tgt := 785) hx hb dL_law_39 h1 h2 (by rw [h9]; rfl) (by decide) (law_rowReference hlt X hXs hbl hbA hL0 hK hZ hA hn5 hle hI hR hw hS hC hS2 hl tl)
      · exact lv_tableIn (off := 786) (tgt := 825) hx hb dL_law_39 h1 h2 (by rw [h9]; rfl) (by decide) (law_rowVersion hlt X hXs hbl hbA hL0 hK hZ hA hn5 hle hI hR hw hS hC hS2 hl tl)
      · exact lv_tableIn (off := 826) (tgt := 865) hx hb dL_law_39 h1 h2 (by rw [h9]; rfl) (by decide) (law_writes hlt X hXs hbl hbA hL0 hK hZ hA hn5 hle hI hR hw hS hC hS2 hl tl)
      · exact lv_tableIn (off := 839) (tgt := 878) hx hb dL_law_39 h1 h2 (by rw [h9]; rfl) (by decide) (law_write hlt X hXs hbl hbA hL0 hK hZ hA hn5 hle hI hR hw hS hC hS2 hl tl)
      · exact lv_tableIn (off := 867) (tgt := 906) hx hb dL_law_39 h1 h2 (by rw [h9]; rfl) (by decide) (law_written hlt X hXs hbl hbA hL0 hK hZ hA hn5 hle hI hR hw hS hC hS2 hl tl)
theorem LI_D {G : gG} {dce x xm : Nat} {ad adm : Nat → Nat} {M : gM} {y : cY} {z : cZ} {w : mW} (hc : CW G dce x ad M y z) (h64 : zC z = 64) (hm : MW G M xm adm w) (h14 : adm 14 = xm) : ∀ a, 0 < a → a < 16 → yX y 8 ≠ adm a ∧ yX y 9 ≠ adm a := by
  have h8 := hc.2.2.2.1.2.1.1
  have h9 := hc.2.2.2.1.2.1.2.1
  rw [h64] at h8 h9
  intro a h0 h1
  rcases (show a = 14 ∨ a = 1 ∨ a = 2 ∨ a = 3 ∨ a = 4 ∨ a = 5 ∨ a = 6 ∨ a = 7 ∨ a = 8 ∨ a = 9 ∨ a = 10 ∨ a = 11 ∨ a = 12 ∨ a = 13 ∨ a = 15 by omega) with rfl | rfl | rfl | rfl | rfl | rfl | rfl | rfl | rfl | rfl | rfl | rfl | rfl | rfl | rfl
  · rw [h14]
    exact ⟨gM_ne h8 hm.1 (by simp [oI, oM]), gM_ne h9 hm.1 (by simp [oI, oM])⟩
  · exact ⟨gM_ne h8 hm.a1 (by simp [oI]), gM_ne h9 hm.a1 (by simp [oI])⟩
  · exact ⟨gM_ne h8 hm.a2 (by simp [oI]), gM_ne h9 hm.a2 (by simp [oI])⟩
  · exact ⟨gM_ne h8 hm.a3 (by simp [oI]), gM_ne h9 hm.a3 (by simp [oI])⟩
  · exact ⟨gM_ne h8 hm.a4 (by simp [oI]), gM_ne h9 hm.a4 (by simp [oI])⟩
  · exact ⟨gM_ne h8 hm.a5 (by simp [oI]), gM_ne h9 hm.a5 (by simp [oI])⟩
  · exact ⟨gM_ne h8 hm.a6 (by simp [oI]), gM_ne h9 hm.a6 (by simp [oI])⟩
  · exact ⟨gM_ne h8 hm.a7 (by simp [oI]), gM_ne h9 hm.a7 (by simp [oI])⟩
  · exact ⟨gM_ne h8 hm.a8 (by simp [oI]), gM_ne h9 hm.a8 (by simp [oI])⟩
  · exact ⟨gM_ne h8 hm.a9 (by simp [oI]), gM_ne h9 hm.a9 (by simp [oI])⟩
  · exact ⟨gM_ne h8 hm.a10 (by simp [oI]), gM_ne h9 hm.a10 (by simp [oI])⟩
  · exact ⟨gM_ne h8 hm.a11 (by simp [oI]), gM_ne h9 hm.a11 (by simp [oI])⟩
  · exact ⟨gM_ne h8 hm.a12 (by simp [oI]), gM_ne h9 hm.a12 (by simp [oI])⟩
  · exact ⟨gM_ne h8 hm.a13 (by simp [oI]), gM_ne h9 hm.a13 (by simp [oI])⟩
  · exact ⟨gM_ne h8 hm.a15 (by simp [oI]), gM_ne h9 hm.a15 (by simp [oI])⟩
set_option maxHeartbeats 4000000 in
set_option maxRecDepth 100000 in
theorem whole_start {p : Program} {e : Env} {s : State} {m : MethodId} {below : List Frame} {meth : Method} {c : Code} (l : Launch) (hflags : l.flags = flags0) {b L : Nat} {xs : Nat → Int32} (hL : L ≤ 2560) (C0 : lw_At p s m meth c b L xs) : W p l e room_1 s m #[Value.ref b] below meth c s.heap [] 0 0 (lw_Z below #[Value.ref b] s) (entryFrame m ([Value.ref b] : List Value).toArray 7) := by
  obtain ⟨hx, hb, hr, hml, hown, hts0, hX, hbl, hlk, hgv⟩ := id C0
  have hA : ∀ q : Nat, s.heap.size ≤ q → (fun q : Nat => s.heap.size ≤ q) q := fun _ h => h
  have hbA : ¬ (fun q : Nat => s.heap.size ≤ q) b := Nat.not_le.mpr hbl
  obtain ⟨dce, hZ⟩ := env0 (A := fun q : Nat => s.heap.size ≤ q) hts0 hgv (fun a h => Nat.not_le.mpr h)
  obtain ⟨G, hK⟩ := known0 hts0
  have X : cX p s m meth c cL_law 7 ret wsL_law RL #[Value.ref b] := ⟨hx, hb, hr, fun w h => hts0 w (wsL_law_in w h), hown, hlk, hml⟩
  have hts := X.2.2.2.1
  have iX6 := inlX6
  have iX7 := inlX7
  have hS : va_S (fun q : Nat => s.heap.size ≤ q) s.heap s.heap [] := va_S.rf
  obtain ⟨M0, hM0⟩ : ∃ z : gM, z = fun _ => none := ⟨_, rfl⟩
  have hw : wd G (fun q : Nat => s.heap.size ≤ q) M0 s.heap := ⟨[], fun k q h => by simp at h, ⟨fun i j p q h => by simp at h, fun k q h => by simp at h⟩, fun a e => by rw [hM0]; simp⟩
  have hl := lv_entry ([.ref b]) (n := 7) (Nat.le_of_ble_eq_true rfl)
  rw [lg_entry_eq]
  generalize (lg_sl ([.ref b]) ++ List.replicate (7 - (lg_sl ([.ref b])).length) Slot.unset).toArray = ls at hl ⊢
  have hl : lv_has ls 7 [(0, .ref b)] := hl
  refine m_new X iX6 tyX6_ok (ci := 7) (by decide +kernel) (by decide +kernel) (by decide +kernel) hK hw hS hA rfl (fs := [.null, .null, .null, .null]) rfl (Nat.le_of_ble_eq_true rfl) (Nat.le_of_ble_eq_true rfl) dL_law_0 (fun x M1 H nx eM1 hw hS => ?_)
  have k2 : M1 x = some (.inr (7, [.null, .null, .null, .null])) := by rw [eM1]; exact mu_s _ _ _
  refine lv_dup hx hb dL_law_3 rfl ?_
  refine m_callIv (ret9 := none) X hK hw hZ hS hA (As := []) (rest := [.ref x]) (c_X6_init l G dce _ M1 x k2) (cwI 0 hts gL_law_X6_init rfl rfl rfl (hts (.initialized RX6) (by decide +kernel)) (hts (.methodLink RL 77 yX6_init) (by decide +kernel)) (hts (.instanceMethod yX6_init) (by decide +kernel)) rfl (by decide +kernel) ⟨Nat.le_of_ble_eq_true rfl, Nat.le_of_ble_eq_true rfl⟩) rfl hl.1 rfl (Nat.le_of_ble_eq_true rfl) dL_law_4 (Nat.le_of_ble_eq_true rfl) (Nat.le_of_ble_eq_true rfl) (fun M3 H locs hp hw hS hz hk => ?_)
  obtain ⟨ad, hc0, hc1, hc2⟩ := hp
  obtain ⟨y, z, hcw, hzN, hzW, hzC, hy8, hy9⟩ := cS0_CW hc0 hc1 hc2
  refine lv_astore_n (lv' := [(1, .ref x), (0, .ref b)]) hx hb dL_law_7 rfl hl (by decide) rfl (fun ls hl => ?_)
  refine m_new X iX7 tyX7_ok (ci := 8) (by decide +kernel) (by decide +kernel) (by decide +kernel) hK hw hS hA rfl (fs := [.int 0, .null, .null, .null, .null, .null, .null, .null, .null, .null, .null, .null, .null, .null, .int 0, .null]) rfl (Nat.le_of_ble_eq_true rfl) (Nat.le_of_ble_eq_true rfl) dL_law_8 (fun xm M4 H nxm eM4 hw hS => ?_)
  have k5 : M4 xm = some (.inr (8, [.int 0, .null, .null, .null, .null, .null, .null, .null, .null, .null, .null, .null, .null, .null, .int 0, .null])) := by rw [eM4]; exact mu_s _ _ _
  have fr1 : ∀ b e, M3 b = some e → M4 b = some e := fun b e hb => (congrFun eM4 b).trans (mu_g hb (gM_nn nxm hb))
  refine lv_dup hx hb dL_law_11 rfl ?_
  refine m_callIv (ret9 := none) X hK hw hZ hS hA (As := []) (rest := [.ref xm]) (c_X7_init l G dce _ M4 xm k5) (cwI 0 hts gL_law_X7_init rfl rfl rfl (hts (.initialized RX7) (by decide +kernel)) (hts (.methodLink RL 80 yX7_init) (by decide +kernel)) (hts (.instanceMethod yX7_init) (by decide +kernel)) rfl (by decide +kernel) ⟨Nat.le_of_ble_eq_true rfl, Nat.le_of_ble_eq_true rfl⟩) rfl hl.1 rfl (Nat.le_of_ble_eq_true rfl) dL_law_12 (Nat.le_of_ble_eq_true rfl) (Nat.le_of_ble_eq_true rfl) (fun M6 H locs hp hw hS hz hk => ?_)
  obtain ⟨⟨adm0, hmF⟩, fr7⟩ := hp
  have fr2 : ∀ b e, M3 b = some e → M6 b = some e := fun b e hb => fr7 b e (fr1 b e hb) (gM_nn nxm hb)
  have hcw2 := hcw.mono fr2
  have hmw := mF_MW hmF
  obtain ⟨adm, eadm⟩ : ∃ f : Nat → Nat, f = (fun k => if k = 14 then xm else adm0 k) := ⟨_, rfl⟩
  rw [← eadm] at hmw
  have h14 : adm 14 = xm := by rw [eadm]; rfl
  have hD : ∀ a, 0 < a → a < 16 → yX y 8 ≠ adm a ∧ yX y 9 ≠ adm a := LI_D hcw2 hzC hmw h14
  refine lv_astore_n (lv' := [(2, .ref xm), (1, .ref x), (0, .ref b)]) hx hb dL_law_15 rfl hl (by decide) rfl (fun ls hl => ?_)
  refine lv_iconst (v := 1) hx hb dL_law_16 (by decide) ?_
  refine m_newa_long X (by decide +kernel) hK hw hS hA (N' := 1) (by decide) (by decide) (by decide) (Nat.le_of_ble_eq_true rfl) (Nat.le_of_ble_eq_true rfl) dL_law_17 (fun oa M7 H noa eM7 hw hS => ?_)
  have fr3 : ∀ b e, M6 b = some e → M7 b = some e := fun b e hb => (congrFun eM7 b).trans (mu_g hb (gM_nn noa hb))
  have hI : LI G dce x ad xm adm oa M7 y z w0M := ⟨hcw2.mono fr3, hmw.mono (fun b e hb _ => fr3 b e hb), ⟨fun _ => 0, by rw [eM7]; exact mu_s _ _ _⟩, hD, h14⟩
  refine lv_astore_n (lv' := [(3, .ref oa), (2, .ref xm), (1, .ref x), (0, .ref b)]) hx hb dL_law_19 rfl hl (by decide) rfl (fun ls hl => ?_)
  refine lv_iconst (v := 0) hx hb dL_law_20 (by decide) ?_
  refine lv_istore (lv' := [(4, .int 0), (3, .ref oa), (2, .ref xm), (1, .ref x), (0, .ref b)]) hx hb dL_law_21 hl (by decide) rfl (fun ls hl => ?_)
  have hlt : l.stackTraces = false := by
    unfold Launch.stackTraces
    rw [hflags]
    decide +kernel
  exact law_loop hlt X hX hbl hbA hL hK hZ 513 (Nat.zero_le _) (by decide) hI (RI_0 hzN hzW) hw hS (by rw [hzC]; decide) (by rw [hzC]; decide) (lv_sub hl [0, 1, 2, 3, 4] rfl)
-- ===== YOUR PART ENDS =====
set_option maxHeartbeats 4000000 in
theorem lw_walk (l : Launch) (hflags : l.flags = flags0) (b : Addr) (xs : List Int32) : MetFree l x (headSpec (Jvm.Cond.code x code maxLocals ret :: tables_1) room_1) (lw_P b xs) (fun _ _ _ _ _ => True) lw_Q := by
  refine MetFree.of_bodyS (code := code) (maxLocals := maxLocals) (ret := ret) (by decide) ?_ ?_
  · intro args s m h hn
    obtain ⟨meth, c, h1, h2, h3, h4, h5, h6, -, -⟩ := Cond.code_spec hn (atoms_spec (ws := Jvm.Cond.code x code maxLocals ret :: tables_1) h _ List.mem_cons_self)
    exact ⟨meth, c, h1, h2, h3, h4, h5, h6⟩
  · intro p e s m args below meth c s₁ B hml0 hP _
    obtain ⟨rfl, hx, hbd, hgv⟩ := hP
    obtain ⟨scr, harrAt, hlist, hof, hsmall⟩ := hx
    obtain ⟨hcb, hkn, -, -⟩ := State.arrayAt?_spec harrAt
    have hown : s.vm.findClass R_law = some m.cls := findClass_of_methodNamed B.named
    have hts0 : ∀ c ∈ (Jvm.Cond.code x code maxLocals ret :: tables_1), c.before #[Value.ref b] s = true := atoms_spec (ws := Jvm.Cond.code x code maxLocals ret :: tables_1) B.pre
    have hts : ∀ w ∈ lw_tbl, w.before #[Value.ref b] s = true := k2_hts_sels lw_privs (fun w hw => hts0 w (List.mem_cons_of_mem _ hw)) lw_privs_ok
    have hml : c.maxLocals = 7 := B.maxLocals_eq (hts0 _ List.mem_cons_self)
    have X₀ : Stand p l e room_1 s m #[Value.ref b] below meth c s₁ [] 0 0 := Stand.of_body B
    have hh0 : s₁.heap = s.heap := by rw [B.state]; rfl
    have hsz : scr.slots.size = xs.length := by rw [← Array.length_toList, hlist, List.length_map]
    have hval : ∀ j : Nat, j < xs.length → scr.slots[j]? = some (.int (xs.getD j 0)) := fun j hj => by
      rw [← Array.getElem?_toList, hlist]
      simp [hj]
    have hbl : b < s.heap.size := (Array.getElem?_eq_some_iff.mp hcb).1
    have hX : va_X b xs.length (fun j => xs.getD j 0) s s.heap := ⟨scr, hcb, hof, hkn, hsz, hval⟩
    have K : W p l e room_1 s m #[Value.ref b] below meth c s₁.heap [] 0 0 (lw_Z below #[Value.ref b] s) (entryFrame m ([Value.ref b] : List Value).toArray 7) := by
      rw [hh0]
      exact whole_start l hflags hbd ⟨B.exec, B.bytes, B.returns, hml, hown, hts, hX, hbl, B.notSynchronized, hgv⟩
    obtain ⟨t, a1, o, b1, b2, b3⟩ := K s₁ rfl X₀
    exact ⟨t, o, a1, b1, b2, b3⟩
theorem lw_pre_spec {args : Array Value} {s : State} (h : (Jvm.Cond.and given_1 narrow_1).before args s = true) (hr : rest_1_c.before args s = true) : ∃ (b : Addr) (xs : List Int32), lw_P b xs args s := by
  have hs := flat_of_before _ h
  have hq := flat_of_before _ hr
  have hc : (Cond.count 1).before args s = true := hs _ (by decide +kernel)
  have harr : (Cond.arrayOf (.arg 0) .int).before args s = true := hs _ (by decide +kernel)
  have hle : (Cond.le (.length (.arg 0)) (.int 2560)).before args s = true := hs _ (by decide +kernel)
  have hlen : (Cond.isInt (.length (.arg 0))).before args s = true := hq _ (by decide +kernel)
  have hall : (Cond.all (.arg 0) (.isInt (.elem (.arg 0) (.index 0)))).before args s = true := hq _ (by decide +kernel)
  obtain ⟨b, xs, hb, hx⟩ := State.ints_of_pre rfl harr hlen hall
  have hsm : xs.length < 2 ^ 31 := hx.choose_spec.2.2.2
  have hev : (Term.length (.arg 0)).eval args s none [] s = some (.int xs.length.toInt32) := hx.length_eval hb
  have hv := Cond.le_ints hev (show (Term.int 2560).eval args s none [] s = some (.int 2560) from rfl)
  have hd : xs.length.toInt32 ≤ 2560 := by
    simpa [Cond.before, Cond.holds, hv] using hle
  have hN : xs.length ≤ 2560 := (Int32.ofNat_le_ofNat hsm (by decide)).mp (show Int32.ofNat xs.length ≤ Int32.ofNat 2560 from hd)
  exact ⟨b, xs, Cond.one_arg hc (show args[0]? = some (.ref b) from hb), hx, hN, h⟩
theorem lw_comes (l : Launch) (hflags : l.flags = flags0) : Comes l x (Jvm.Cond.code x code maxLocals ret :: tables_1) room_1 (fun tb e args s => Calls_1 tb e args s ∧ rest_1 tb e args s ∧ Pre_1 tb e args s)
    (fun _ _ args s o t => lw_Q args s o t) := by
  intro p e ha hc hk s m args below hf hfit hheap happ hpre
  obtain ⟨b, xs, hP⟩ := lw_pre_spec hpre.2.2 hpre.2.1
  obtain ⟨k, o, h1, h2, h3, hQ⟩ := lw_walk l hflags b xs p e ha hc hk s m args below hf ((Spec.applies_iff_loose hf).mp happ).1 hP trivial
  exact ⟨k, o, h1, h2, h3, hQ⟩
theorem lw_frame {s t : State} {o : Outcome} {args : Array Value} (h : Framed s o t [] 601024 7293034) :
    Framed s o t (fieldLocs frame_1_writes args s ++ arrayLocs frame_1_arrays args s ++ staticLocs frame_1_statics s) 601024 7293034 := h
theorem lw_limb (L : Cond) (hL : ∀ (args : Array Value) (s t : State), L.after args s (.returned (some (.int 1))) t = true) :
    ArmFor flags0 classFile x code maxLocals ret World_1 tables_1 room_1 Calls_1 rest_1 Pre_1
      (fun tb e a s o t => postC L tb e a s o t ∧ Framed s o t (fieldLocs frame_1_writes a s ++ arrayLocs frame_1_arrays a s ++ staticLocs frame_1_statics s) 601024 7293034) := by
  intro l hflags _ _ p e ha hc hk s m args below hf hfit hheap happ hpre
  obtain ⟨k, o, h1, h2, h3, rfl, hF⟩ := lw_comes l hflags p e ha hc hk s m args below hf hfit hheap happ hpre
  exact ⟨k, _, h1, h2, h3, hL args s _, lw_frame hF⟩
theorem i_vc : Claimed_1_1 ∧ Claimed_1_2 := ⟨lw_limb limb_1_1 (fun args s t => by simp [limb_1_1, Cond.after, Cond.holds, Cond.value]), lw_limb limb_1_2 (fun args s t => Cond.after_iff.mpr (by
  first | (rw [show limb_1_2 = Cond.eq .result (.int 1) from rfl, Cond.eq_ints (x := 1) (y := 1) rfl rfl]; simp; done) | (simp [limb_1_2, Cond.value, Term.eval]; done)))⟩

