theorem wMetW {l : Launch} {y : MethodName} {ws ws' : List Cond} {rm : Room} {Qc : (Nat → Prop) → Array Value → State → Outcome → State → Prop} {mc ms : Nat} {cc : ByteArray} {maxL : Nat} {ret : Option FieldType} {hh : List (Nat × Nat × Nat × Nat)} {G : gG} {dce sz : Nat} {M : gM} {av : List Value}
    (hy : plainName y.cls = true) (hw : ws = Cond.codeWith y cc maxL ret hh :: ws') (hn : (lg_sl av).length ≤ maxL)
    (body : ∀ (p : Program) (e : Env) (s : State) (m : MethodId) (below : List Frame) (meth : Method) (c : Code) (A : Nat → Prop) (ls : Array Slot), cX p s m meth c cc maxL ret ws y.cls av.toArray → c.exceptionTable.toList = tableOf hh → meth.name = y.name → wd G A M s.heap → wK G s → wZ dce A s s.heap → (∀ q : Nat, s.heap.size ≤ q → A q) → va_S A s.heap s.heap [] → sz = s.heap.size → A = wA M sz → lv_has ls maxL (lv_args 0 av) →
      W p l e rm s m av.toArray below meth c s.heap [] 0 0 (MQ below (Qc A) av.toArray s mc ms A) (F0 m 0 ls [])) : Met l y ws rm (va_Pc av (wB G dce sz M)) (Qc (wA M sz)) mc ms (wA M sz) := by
  refine va_MetW (cc := cc) (maxL := maxL) (ret := ret) (hh := hh) hy hw ?_
  intro p e s m args below meth c s₁ B hml hv
  obtain ⟨rfl, rfl, hD, hK, hZ⟩ := hv
  have htab := vx_table (x := y) B (atoms_spec (ws := ws) B.pre _ (by rw [hw]; exact List.mem_cons_self))
  rw [lg_entry_eq]
  exact body p e s m below meth c (wA M s.heap.size) _ ⟨B.exec, B.bytes, B.returns, atoms_spec (ws := ws) B.pre, findClass_of_methodNamed B.named, B.notSynchronized, hml⟩ htab (name_of_methodNamed B.named B.method).1 (hD.weaken (fun q e h => Or.inl ⟨e, h⟩)) hK hZ (fun q h => Or.inr h) va_S.rf rfl rfl (lv_entry av hn)
set_option maxHeartbeats 4000000 in
set_option maxRecDepth 100000 in
theorem c_L_known_0 (l : Launch) (G : gG) (dce sz : Nat) (M : gM) (hlt : l.stackTraces = false) (x : Nat) (ad : Nat → Nat) (hc : cS0 G dce M x ad) (oa : Nat) (g0 : Nat → Int64) (hoa : M oa = some (.inl (G.2 2, 1, .inr (.inl g0)))) (si : Int32) : mI l yL_known wsL_known ({ frames := 8, cells := 1, slots := 6, locals := 125 }) G dce sz M [.ref x, .int si, .ref oa] (fun k M' => k = (if sOK si then (0 : Int32) else 1) ∧ (∃ g, M' oa = some (.inl (G.2 2, 1, .inr (.inl g))) ∧ (k = 0 → g 0 = 0)) ∧ ∀ b e, M b = some e → b ≠ oa → (∀ fs, e ≠ .inr (0, fs)) → M' b = some e) (1) (6) := by
  have hX9 := hc.1
  refine wMetW (Qc := QI G _) (cc := cL_known) (maxL := 4) (ret := (some .int)) (hh := [(0, 9, 12, 13)]) (by decide) rfl (Nat.le_of_ble_eq_true rfl) ?_
  intro p e s m below meth c A ls X htab hnm hw hK hZ hA hS hsz eA hl
  obtain ⟨hx, hb, hr, hts, hown, hlk, hml⟩ := id X
  have hl : lv_has ls 4 [(0, .ref x), (1, .int si), (2, .ref oa)] := hl
  refine lv_aload_n hx hb dL_known_0 rfl (lv_at hl 2 rfl) ?_
  refine lv_iconst (v := 0) hx hb dL_known_1 (by decide) ?_
  refine lv_aload_n hx hb dL_known_2 rfl (lv_at hl 0 rfl) ?_
  refine lv_iload_n hx hb dL_known_3 rfl (lv_at hl 1 rfl) ?_
  refine x_callVi X (ci := 7) rfl hX9 hK hw hZ hS hA (As := [.int si]) (rest := [.int 0, .ref oa]) (c_X6_known_0 l G dce _ M hlt x ad hc si) (cwV 1 hts gL_known_X6_known rfl rfl rfl (by decide +kernel) ⟨Nat.le_of_ble_eq_true rfl, Nat.le_of_ble_eq_true rfl⟩) rfl hl.1 rfl (Nat.le_of_ble_eq_true rfl) dL_known_4 (Nat.le_of_ble_eq_true rfl) (Nat.le_of_ble_eq_true rfl) (fun E ce q9 M1 H locs hp hw hS hz hk hce hcv hcl9 => ?_) (fun r2 M1 H locs hp hw hS hz hk => ?_)
  · have hM9 := hp.2
    rw [hM9] at hw
    have hE := hp.1.1
    cases h1 : sOK si
    · have hE : E = "java/lang/IndexOutOfBoundsException" := hE.trans (by first | rfl | (rw [h1]; rfl) | (rw [h1]; rfl))
      subst hE
      refine vx_catch (name := "java/lang/IndexOutOfBoundsException") hown [] ⟨0, 9, 12, 13⟩ [] (htab.trans rfl) (fun _ h => absurd h List.not_mem_nil) rfl (by decide) (hts (.classLink RL 13 "java/lang/IndexOutOfBoundsException") (by decide +kernel)) (va_Nw.use rfl (hZ.2.2.2.2.1 ("java/lang/IndexOutOfBoundsException", "java/lang/IndexOutOfBoundsException") (by decide))) hce hcv hcl9 ?_
      refine lv_astore_n (lv' := [(3, .ref q9), (0, .ref x), (1, .int si), (2, .ref oa)]) hx hb dL_known_12 rfl hl (by decide) rfl (fun ls hl => ?_)
      refine lv_iconst (v := 1) hx hb dL_known_13 (by decide) ?_
      exact m_iret X hK hw hS (⟨by simp [h1], ⟨g0, hoa, fun h => absurd h (by decide)⟩, fun b e hb _ _ => hb⟩) (by omega) (by omega) dL_known_14
    · exact absurd hp.1.2 (by rw [h1]; decide)
  have hcd := hp.2.1
  rw [hp.2.2] at hw
  rw [hp.1]
  refine lv_i2l hx hb dL_known_7 rfl ?_
  refine m_last X hK hw hS hoa (i := 0) (by unfold vp_in; decide) dL_known_8 (fun M3 H locs eM3 hw hS => ?_)
  refine lv_goto (tgt := 15) hx hb dL_known_9 (by decide) ?_
  refine lv_iconst (v := 0) hx hb dL_known_15 (by decide) ?_
  exact m_iret X hK hw hS (⟨by simp [hcd], ⟨_, by rw [eM3]; exact mu_s _ _ _, fun _ => by first | rfl | decide | simp [vp_updL]⟩, fun b e hb hne _ => by rw [eM3]; exact mu_g hb hne⟩) (by omega) (by omega) dL_known_16
set_option maxHeartbeats 4000000 in
set_option maxRecDepth 100000 in
theorem c_L_dirty_0 (l : Launch) (G : gG) (dce sz : Nat) (M : gM) (hlt : l.stackTraces = false) (x : Nat) (ad : Nat → Nat) (hc : cS0 G dce M x ad) (oa : Nat) (g0 : Nat → Int64) (hoa : M oa = some (.inl (G.2 2, 1, .inr (.inl g0)))) (si : Int32) : mI l yL_dirty wsL_dirty ({ frames := 8, cells := 1, slots := 6, locals := 125 }) G dce sz M [.ref x, .int si, .ref oa] (fun k M' => k = (if sOK si then (0 : Int32) else 1) ∧ (∃ g, M' oa = some (.inl (G.2 2, 1, .inr (.inl g))) ∧ (k = 0 → g 0 = 0)) ∧ ∀ b e, M b = some e → b ≠ oa → (∀ fs, e ≠ .inr (0, fs)) → M' b = some e) (1) (6) := by
  have hX9 := hc.1
  refine wMetW (Qc := QI G _) (cc := cL_dirty) (maxL := 4) (ret := (some .int)) (hh := [(0, 9, 12, 13)]) (by decide) rfl (Nat.le_of_ble_eq_true rfl) ?_
  intro p e s m below meth c A ls X htab hnm hw hK hZ hA hS hsz eA hl
  obtain ⟨hx, hb, hr, hts, hown, hlk, hml⟩ := id X
  have hl : lv_has ls 4 [(0, .ref x), (1, .int si), (2, .ref oa)] := hl
  refine lv_aload_n hx hb dL_dirty_0 rfl (lv_at hl 2 rfl) ?_
  refine lv_iconst (v := 0) hx hb dL_dirty_1 (by decide) ?_
  refine lv_aload_n hx hb dL_dirty_2 rfl (lv_at hl 0 rfl) ?_
  refine lv_iload_n hx hb dL_dirty_3 rfl (lv_at hl 1 rfl) ?_
  refine x_callVi X (ci := 7) rfl hX9 hK hw hZ hS hA (As := [.int si]) (rest := [.int 0, .ref oa]) (c_X6_dirty_0 l G dce _ M hlt x ad hc si) (cwV 1 hts gL_dirty_X6_dirty rfl rfl rfl (by decide +kernel) ⟨Nat.le_of_ble_eq_true rfl, Nat.le_of_ble_eq_true rfl⟩) rfl hl.1 rfl (Nat.le_of_ble_eq_true rfl) dL_dirty_4 (Nat.le_of_ble_eq_true rfl) (Nat.le_of_ble_eq_true rfl) (fun E ce q9 M1 H locs hp hw hS hz hk hce hcv hcl9 => ?_) (fun r2 M1 H locs hp hw hS hz hk => ?_)
  · have hM9 := hp.2
    rw [hM9] at hw
    have hE := hp.1.1
    cases h1 : sOK si
    · have hE : E = "java/lang/IndexOutOfBoundsException" := hE.trans (by first | rfl | (rw [h1]; rfl) | (rw [h1]; rfl))
      subst hE
      refine vx_catch (name := "java/lang/IndexOutOfBoundsException") hown [] ⟨0, 9, 12, 13⟩ [] (htab.trans rfl) (fun _ h => absurd h List.not_mem_nil) rfl (by decide) (hts (.classLink RL 13 "java/lang/IndexOutOfBoundsException") (by decide +kernel)) (va_Nw.use rfl (hZ.2.2.2.2.1 ("java/lang/IndexOutOfBoundsException", "java/lang/IndexOutOfBoundsException") (by decide))) hce hcv hcl9 ?_
      refine lv_astore_n (lv' := [(3, .ref q9), (0, .ref x), (1, .int si), (2, .ref oa)]) hx hb dL_dirty_12 rfl hl (by decide) rfl (fun ls hl => ?_)
      refine lv_iconst (v := 1) hx hb dL_dirty_13 (by decide) ?_
      exact m_iret X hK hw hS (⟨by simp [h1], ⟨g0, hoa, fun h => absurd h (by decide)⟩, fun b e hb _ _ => hb⟩) (by omega) (by omega) dL_dirty_14
    · exact absurd hp.1.2 (by rw [h1]; decide)
  have hcd := hp.2.1
  rw [hp.2.2] at hw
  rw [hp.1]
  refine lv_i2l hx hb dL_dirty_7 rfl ?_
  refine m_last X hK hw hS hoa (i := 0) (by unfold vp_in; decide) dL_dirty_8 (fun M3 H locs eM3 hw hS => ?_)
  refine lv_goto (tgt := 15) hx hb dL_dirty_9 (by decide) ?_
  refine lv_iconst (v := 0) hx hb dL_dirty_15 (by decide) ?_
  exact m_iret X hK hw hS (⟨by simp [hcd], ⟨_, by rw [eM3]; exact mu_s _ _ _, fun _ => by first | rfl | decide | simp [vp_updL]⟩, fun b e hb hne _ => by rw [eM3]; exact mu_g hb hne⟩) (by omega) (by omega) dL_dirty_16
set_option maxHeartbeats 4000000 in
set_option maxRecDepth 100000 in
theorem c_L_clear_0 (l : Launch) (G : gG) (dce sz : Nat) (M : gM) (hlt : l.stackTraces = false) (x : Nat) (ad : Nat → Nat) (hc : cS0 G dce M x ad) (oa : Nat) (g0 : Nat → Int64) (hoa : M oa = some (.inl (G.2 2, 1, .inr (.inl g0)))) (si : Int32) : mI l yL_clear wsL_clear ({ frames := 8, cells := 1, slots := 6, locals := 126 }) G dce sz M [.ref x, .int si, .ref oa] (fun k M' => k = (if sOK si then (0 : Int32) else 1) ∧ (∃ g, M' oa = some (.inl (G.2 2, 1, .inr (.inl g))) ∧ (k = 0 → g 0 = 0)) ∧ ∀ b e, M b = some e → b ≠ oa → (∀ fs, e ≠ .inr (0, fs)) → M' b = some e) (1) (6) := by
  have hX9 := hc.1
  refine wMetW (Qc := QI G _) (cc := cL_clear) (maxL := 4) (ret := (some .int)) (hh := [(0, 9, 12, 13)]) (by decide) rfl (Nat.le_of_ble_eq_true rfl) ?_
  intro p e s m below meth c A ls X htab hnm hw hK hZ hA hS hsz eA hl
  obtain ⟨hx, hb, hr, hts, hown, hlk, hml⟩ := id X
  have hl : lv_has ls 4 [(0, .ref x), (1, .int si), (2, .ref oa)] := hl
  refine lv_aload_n hx hb dL_clear_0 rfl (lv_at hl 2 rfl) ?_
  refine lv_iconst (v := 0) hx hb dL_clear_1 (by decide) ?_
  refine lv_aload_n hx hb dL_clear_2 rfl (lv_at hl 0 rfl) ?_
  refine lv_iload_n hx hb dL_clear_3 rfl (lv_at hl 1 rfl) ?_
  refine x_callVi X (ci := 7) rfl hX9 hK hw hZ hS hA (As := [.int si]) (rest := [.int 0, .ref oa]) (c_X6_clear_0 l G dce _ M hlt x ad hc si) (cwV 1 hts gL_clear_X6_clear rfl rfl rfl (by decide +kernel) ⟨Nat.le_of_ble_eq_true rfl, Nat.le_of_ble_eq_true rfl⟩) rfl hl.1 rfl (Nat.le_of_ble_eq_true rfl) dL_clear_4 (Nat.le_of_ble_eq_true rfl) (Nat.le_of_ble_eq_true rfl) (fun E ce q9 M1 H locs hp hw hS hz hk hce hcv hcl9 => ?_) (fun r2 M1 H locs hp hw hS hz hk => ?_)
  · have hM9 := hp.2
    rw [hM9] at hw
    have hE := hp.1.1
    cases h1 : sOK si
    · have hE : E = "java/lang/IndexOutOfBoundsException" := hE.trans (by first | rfl | (rw [h1]; rfl) | (rw [h1]; rfl))
      subst hE
      refine vx_catch (name := "java/lang/IndexOutOfBoundsException") hown [] ⟨0, 9, 12, 13⟩ [] (htab.trans rfl) (fun _ h => absurd h List.not_mem_nil) rfl (by decide) (hts (.classLink RL 13 "java/lang/IndexOutOfBoundsException") (by decide +kernel)) (va_Nw.use rfl (hZ.2.2.2.2.1 ("java/lang/IndexOutOfBoundsException", "java/lang/IndexOutOfBoundsException") (by decide))) hce hcv hcl9 ?_
      refine lv_astore_n (lv' := [(3, .ref q9), (0, .ref x), (1, .int si), (2, .ref oa)]) hx hb dL_clear_12 rfl hl (by decide) rfl (fun ls hl => ?_)
      refine lv_iconst (v := 1) hx hb dL_clear_13 (by decide) ?_
      exact m_iret X hK hw hS (⟨by simp [h1], ⟨g0, hoa, fun h => absurd h (by decide)⟩, fun b e hb _ _ => hb⟩) (by omega) (by omega) dL_clear_14
    · exact absurd hp.1.2 (by rw [h1]; decide)
  have hcd := hp.2.1
  rw [hp.2.2] at hw
  rw [hp.1]
  refine lv_i2l hx hb dL_clear_7 rfl ?_
  refine m_last X hK hw hS hoa (i := 0) (by unfold vp_in; decide) dL_clear_8 (fun M3 H locs eM3 hw hS => ?_)
  refine lv_goto (tgt := 15) hx hb dL_clear_9 (by decide) ?_
  refine lv_iconst (v := 0) hx hb dL_clear_15 (by decide) ?_
  exact m_iret X hK hw hS (⟨by simp [hcd], ⟨_, by rw [eM3]; exact mu_s _ _ _, fun _ => by first | rfl | decide | simp [vp_updL]⟩, fun b e hb hne _ => by rw [eM3]; exact mu_g hb hne⟩) (by omega) (by omega) dL_clear_16
set_option maxHeartbeats 4000000 in
set_option maxRecDepth 100000 in
theorem c_L_flush_0 (l : Launch) (G : gG) (dce sz : Nat) (M : gM) (hlt : l.stackTraces = false) (x : Nat) (ad : Nat → Nat) (hc : cS0 G dce M x ad) (oa : Nat) (g0 : Nat → Int64) (hoa : M oa = some (.inl (G.2 2, 1, .inr (.inl g0)))) (si : Int32) : mI l yL_flush wsL_flush ({ frames := 8, cells := 2, slots := 10, locals := 127 }) G dce sz M [.ref x, .int si, .ref oa] (fun k M' => k = (if sOK si then (0 : Int32) else 1) ∧ (∃ g, M' oa = some (.inl (G.2 2, 1, .inr (.inl g))) ∧ (k = 0 → g 0 = 0)) ∧ ∀ b e, M b = some e → b ≠ oa → (∀ fs, e ≠ .inr (0, fs)) → M' b = some e) (2) (10) := by
  have hX9 := hc.1
  refine wMetW (Qc := QI G _) (cc := cL_flush) (maxL := 4) (ret := (some .int)) (hh := [(0, 9, 12, 13), (0, 9, 15, 21)]) (by decide) rfl (Nat.le_of_ble_eq_true rfl) ?_
  intro p e s m below meth c A ls X htab hnm hw hK hZ hA hS hsz eA hl
  obtain ⟨hx, hb, hr, hts, hown, hlk, hml⟩ := id X
  have hl : lv_has ls 4 [(0, .ref x), (1, .int si), (2, .ref oa)] := hl
  refine lv_aload_n hx hb dL_flush_0 rfl (lv_at hl 2 rfl) ?_
  refine lv_iconst (v := 0) hx hb dL_flush_1 (by decide) ?_
  refine lv_aload_n hx hb dL_flush_2 rfl (lv_at hl 0 rfl) ?_
  refine lv_iload_n hx hb dL_flush_3 rfl (lv_at hl 1 rfl) ?_
  refine x_callVi X (ci := 7) rfl hX9 hK hw hZ hS hA (As := [.int si]) (rest := [.int 0, .ref oa]) (c_X6_flush_0 l G dce _ M hlt x ad hc si) (cwV 1 hts gL_flush_X6_flush rfl rfl rfl (by decide +kernel) ⟨Nat.le_of_ble_eq_true rfl, Nat.le_of_ble_eq_true rfl⟩) rfl hl.1 rfl (Nat.le_of_ble_eq_true rfl) dL_flush_4 (Nat.le_of_ble_eq_true rfl) (Nat.le_of_ble_eq_true rfl) (fun E ce q9 M1 H locs hp hw hS hz hk hce hcv hcl9 => ?_) (fun r2 M1 H locs hp hw hS hz hk => ?_)
  · have hM9 := hp.2
    rw [hM9] at hw
    have hE := hp.1.1
    cases h1 : sOK si
    · have hE : E = "java/lang/IndexOutOfBoundsException" := hE.trans (by first | rfl | (rw [h1]; rfl) | (rw [h1]; rfl))
      subst hE
      refine vx_catch (name := "java/lang/IndexOutOfBoundsException") hown [] ⟨0, 9, 12, 13⟩ [⟨0, 9, 15, 21⟩] (htab.trans rfl) (fun _ h => absurd h List.not_mem_nil) rfl (by decide) (hts (.classLink RL 13 "java/lang/IndexOutOfBoundsException") (by decide +kernel)) (va_Nw.use rfl (hZ.2.2.2.2.1 ("java/lang/IndexOutOfBoundsException", "java/lang/IndexOutOfBoundsException") (by decide))) hce hcv hcl9 ?_
      refine lv_astore_n (lv' := [(3, .ref q9), (0, .ref x), (1, .int si), (2, .ref oa)]) hx hb dL_flush_12 rfl hl (by decide) rfl (fun ls hl => ?_)
      refine lv_iconst (v := 1) hx hb dL_flush_13 (by decide) ?_
      exact m_iret X hK hw hS (⟨by simp [h1], ⟨g0, hoa, fun h => absurd h (by decide)⟩, fun b e hb _ _ => hb⟩) (by omega) (by omega) dL_flush_14
    · exact absurd hp.1.2 (by rw [h1]; decide)
  have hcd := hp.2.1
  have hfr := hp.2.2
  have ho1 := hfr oa _ hoa
  rw [hp.1]
  refine lv_i2l hx hb dL_flush_7 rfl ?_
  refine m_last X hK hw hS ho1 (i := 0) (by unfold vp_in; decide) dL_flush_8 (fun M3 H locs eM3 hw hS => ?_)
  refine lv_goto (tgt := 18) hx hb dL_flush_9 (by decide) ?_
  refine lv_iconst (v := 0) hx hb dL_flush_18 (by decide) ?_
  exact m_iret X hK hw hS (⟨by simp [hcd], ⟨_, by rw [eM3]; exact mu_s _ _ _, fun _ => by first | rfl | decide | simp [vp_updL]⟩, fun b e hb hne _ => by rw [eM3]; exact mu_g (hfr b e hb) hne⟩) (by omega) (by omega) dL_flush_19
set_option maxHeartbeats 4000000 in
set_option maxRecDepth 100000 in
theorem c_L_rows_0 (l : Launch) (G : gG) (dce sz : Nat) (M : gM) (hlt : l.stackTraces = false) (x : Nat) (ad : Nat → Nat) (hc : cS0 G dce M x ad) (oa : Nat) (g0 : Nat → Int64) (hoa : M oa = some (.inl (G.2 2, 1, .inr (.inl g0)))) (kd : Int32) : mI l yL_rows wsL_rows ({ frames := 8, cells := 1, slots := 6, locals := 123 }) G dce sz M [.ref x, .int kd, .ref oa] (fun k M' => k = (if kOK kd then (0 : Int32) else 1) ∧ (∃ g, M' oa = some (.inl (G.2 2, 1, .inr (.inl g))) ∧ (k = 0 → g 0 = 0)) ∧ ∀ b e, M b = some e → b ≠ oa → (∀ fs, e ≠ .inr (0, fs)) → M' b = some e) (1) (6) := by
  have hX9 := hc.1
  refine wMetW (Qc := QI G _) (cc := cL_rows) (maxL := 4) (ret := (some .int)) (hh := [(0, 9, 12, 15)]) (by decide) rfl (Nat.le_of_ble_eq_true rfl) ?_
  intro p e s m below meth c A ls X htab hnm hw hK hZ hA hS hsz eA hl
  obtain ⟨hx, hb, hr, hts, hown, hlk, hml⟩ := id X
  have hl : lv_has ls 4 [(0, .ref x), (1, .int kd), (2, .ref oa)] := hl
  refine lv_aload_n hx hb dL_rows_0 rfl (lv_at hl 2 rfl) ?_
  refine lv_iconst (v := 0) hx hb dL_rows_1 (by decide) ?_
  refine lv_aload_n hx hb dL_rows_2 rfl (lv_at hl 0 rfl) ?_
  refine lv_iload_n hx hb dL_rows_3 rfl (lv_at hl 1 rfl) ?_
  refine x_callVi X (ci := 7) rfl hX9 hK hw hZ hS hA (As := [.int kd]) (rest := [.int 0, .ref oa]) (c_X6_rows_0 l G dce _ M hlt x ad hc kd) (cwV 1 hts gL_rows_X6_rows rfl rfl rfl (by decide +kernel) ⟨Nat.le_of_ble_eq_true rfl, Nat.le_of_ble_eq_true rfl⟩) rfl hl.1 rfl (Nat.le_of_ble_eq_true rfl) dL_rows_4 (Nat.le_of_ble_eq_true rfl) (Nat.le_of_ble_eq_true rfl) (fun E ce q9 M1 H locs hp hw hS hz hk hce hcv hcl9 => ?_) (fun r2 M1 H locs hp hw hS hz hk => ?_)
  · have hM9 := hp.2
    rw [hM9] at hw
    have hE := hp.1.1
    cases h1 : kOK kd
    · have hE : E = "java/lang/IllegalArgumentException" := hE.trans (by first | rfl | (rw [h1]; rfl) | (rw [h1]; rfl))
      subst hE
      refine vx_catch (name := "java/lang/IllegalArgumentException") hown [] ⟨0, 9, 12, 15⟩ [] (htab.trans rfl) (fun _ h => absurd h List.not_mem_nil) rfl (by decide) (hts (.classLink RL 15 "java/lang/IllegalArgumentException") (by decide +kernel)) (va_Nw.use rfl (hZ.2.2.2.2.1 ("java/lang/IllegalArgumentException", "java/lang/IllegalArgumentException") (by decide))) hce hcv hcl9 ?_
      refine lv_astore_n (lv' := [(3, .ref q9), (0, .ref x), (1, .int kd), (2, .ref oa)]) hx hb dL_rows_12 rfl hl (by decide) rfl (fun ls hl => ?_)
      refine lv_iconst (v := 1) hx hb dL_rows_13 (by decide) ?_
      exact m_iret X hK hw hS (⟨by simp [h1], ⟨g0, hoa, fun h => absurd h (by decide)⟩, fun b e hb _ _ => hb⟩) (by omega) (by omega) dL_rows_14
    · exact absurd hp.1.2 (by rw [h1]; decide)
  have hcd := hp.2.1
  rw [hp.2.2] at hw
  rw [hp.1]
  refine lv_i2l hx hb dL_rows_7 rfl ?_
  refine m_last X hK hw hS hoa (i := 0) (by unfold vp_in; decide) dL_rows_8 (fun M3 H locs eM3 hw hS => ?_)
  refine lv_goto (tgt := 15) hx hb dL_rows_9 (by decide) ?_
  refine lv_iconst (v := 0) hx hb dL_rows_15 (by decide) ?_
  exact m_iret X hK hw hS (⟨by simp [hcd], ⟨_, by rw [eM3]; exact mu_s _ _ _, fun _ => by first | rfl | decide | simp [vp_updL]⟩, fun b e hb hne _ => by rw [eM3]; exact mu_g hb hne⟩) (by omega) (by omega) dL_rows_16
set_option maxHeartbeats 4000000 in
set_option maxRecDepth 100000 in
theorem c_L_rowName_0 (l : Launch) (G : gG) (dce sz : Nat) (M : gM) (hlt : l.stackTraces = false) (x : Nat) (ad : Nat → Nat) (hc : cS0 G dce M x ad) (oa : Nat) (g0 : Nat → Int64) (hoa : M oa = some (.inl (G.2 2, 1, .inr (.inl g0)))) (kd ky : Int32) : mI l yL_rowName wsL_rowName ({ frames := 9, cells := 2, slots := 12, locals := 147 }) G dce sz M [.ref x, .int kd, .int ky, .ref oa] (fun k M' => k = (if kOK kd then (2 : Int32) else 1) ∧ (∃ g, M' oa = some (.inl (G.2 2, 1, .inr (.inl g))) ∧ (k = 0 → g 0 = 0)) ∧ ∀ b e, M b = some e → b ≠ oa → (∀ fs, e ≠ .inr (0, fs)) → M' b = some e) (2) (12) := by
  have hX9 := hc.1
  refine wMetW (Qc := QI G _) (cc := cL_rowName) (maxL := 5) (ret := (some .int)) (hh := [(0, 10, 13, 15), (0, 10, 17, 13)]) (by decide) rfl (Nat.le_of_ble_eq_true rfl) ?_
  intro p e s m below meth c A ls X htab hnm hw hK hZ hA hS hsz eA hl
  obtain ⟨hx, hb, hr, hts, hown, hlk, hml⟩ := id X
  have hl : lv_has ls 5 [(0, .ref x), (1, .int kd), (2, .int ky), (3, .ref oa)] := hl
  refine lv_aload_n hx hb dL_rowName_0 rfl (lv_at hl 3 rfl) ?_
  refine lv_iconst (v := 0) hx hb dL_rowName_1 (by decide) ?_
  refine lv_aload_n hx hb dL_rowName_2 rfl (lv_at hl 0 rfl) ?_
  refine lv_iload_n hx hb dL_rowName_3 rfl (lv_at hl 1 rfl) ?_
  refine lv_iload_n hx hb dL_rowName_4 rfl (lv_at hl 2 rfl) ?_
  refine x_callVi X (ci := 7) rfl hX9 hK hw hZ hS hA (As := [.int kd, .int ky]) (rest := [.int 0, .ref oa]) (c_X6_rowName_0 l G dce _ M hlt x ad hc kd ky) (cwV 2 hts gL_rowName_X6_rowName rfl rfl rfl (by decide +kernel) ⟨Nat.le_of_ble_eq_true rfl, Nat.le_of_ble_eq_true rfl⟩) rfl hl.1 rfl (Nat.le_of_ble_eq_true rfl) dL_rowName_5 (Nat.le_of_ble_eq_true rfl) (Nat.le_of_ble_eq_true rfl) (fun E ce q9 M1 H locs hp hw hS hz hk hce hcv hcl9 => ?_) (fun r2 M1 H locs hp hw hS hz hk => ?_)
  · have hM9 := hp.2
    rw [hM9] at hw
    have hE := hp.1
    cases h1 : kOK kd
    · have hE : E = "java/lang/IllegalArgumentException" := hE.trans (by first | rfl | (rw [h1]; rfl) | (rw [h1]; rfl))
      subst hE
      refine vx_catch (name := "java/lang/IllegalArgumentException") hown [] ⟨0, 10, 13, 15⟩ [⟨0, 10, 17, 13⟩] (htab.trans rfl) (fun _ h => absurd h List.not_mem_nil) rfl (by decide) (hts (.classLink RL 15 "java/lang/IllegalArgumentException") (by decide +kernel)) (va_Nw.use rfl (hZ.2.2.2.2.1 ("java/lang/IllegalArgumentException", "java/lang/IllegalArgumentException") (by decide))) hce hcv hcl9 ?_
      refine lv_astore (lv' := [(4, .ref q9), (0, .ref x), (1, .int kd), (2, .int ky), (3, .ref oa)]) hx hb dL_rowName_13 hl (by decide) rfl (fun ls hl => ?_)
      refine lv_iconst (v := 1) hx hb dL_rowName_15 (by decide) ?_
      exact m_iret X hK hw hS (⟨by simp [h1], ⟨g0, hoa, fun h => absurd h (by decide)⟩, fun b e hb _ _ => hb⟩) (by omega) (by omega) dL_rowName_16
    · have hE : E = "java/lang/IndexOutOfBoundsException" := hE.trans (by first | rfl | (rw [h1]; rfl) | (rw [h1]; rfl))
      subst hE
      refine vx_catch (name := "java/lang/IndexOutOfBoundsException") hown [⟨0, 10, 13, 15⟩] ⟨0, 10, 17, 13⟩ [] (htab.trans rfl) (List.forall_mem_cons.mpr ⟨Or.inr ⟨by decide, "java/lang/IllegalArgumentException", hts (.classLink RL 15 "java/lang/IllegalArgumentException") (by decide +kernel), hZ.2.2.2.2.2.1 ("java/lang/IndexOutOfBoundsException", "java/lang/IllegalArgumentException") (by decide)⟩, fun _ h => absurd h List.not_mem_nil⟩) rfl (by decide) (hts (.classLink RL 13 "java/lang/IndexOutOfBoundsException") (by decide +kernel)) (va_Nw.use rfl (hZ.2.2.2.2.1 ("java/lang/IndexOutOfBoundsException", "java/lang/IndexOutOfBoundsException") (by decide))) hce hcv hcl9 ?_
      refine lv_astore (lv' := [(4, .ref q9), (0, .ref x), (1, .int kd), (2, .int ky), (3, .ref oa)]) hx hb dL_rowName_17 hl (by decide) rfl (fun ls hl => ?_)
      refine lv_iconst (v := 2) hx hb dL_rowName_19 (by decide) ?_
      exact m_iret X hK hw hS (⟨by simp [h1], ⟨g0, hoa, fun h => absurd h (by decide)⟩, fun b e hb _ _ => hb⟩) (by omega) (by omega) dL_rowName_20
  exact hp.elim
set_option maxHeartbeats 4000000 in
set_option maxRecDepth 100000 in
theorem c_L_rowReference_0 (l : Launch) (G : gG) (dce sz : Nat) (M : gM) (hlt : l.stackTraces = false) (x : Nat) (ad : Nat → Nat) (hc : cS0 G dce M x ad) (oa : Nat) (g0 : Nat → Int64) (hoa : M oa = some (.inl (G.2 2, 1, .inr (.inl g0)))) (kd ky : Int32) : mI l yL_rowReference wsL_rowReference ({ frames := 9, cells := 2, slots := 12, locals := 147 }) G dce sz M [.ref x, .int kd, .int ky, .ref oa] (fun k M' => k = (if kOK kd then (2 : Int32) else 1) ∧ (∃ g, M' oa = some (.inl (G.2 2, 1, .inr (.inl g))) ∧ (k = 0 → g 0 = 0)) ∧ ∀ b e, M b = some e → b ≠ oa → (∀ fs, e ≠ .inr (0, fs)) → M' b = some e) (2) (12) := by
  have hX9 := hc.1
  refine wMetW (Qc := QI G _) (cc := cL_rowReference) (maxL := 5) (ret := (some .int)) (hh := [(0, 10, 13, 15), (0, 10, 17, 13)]) (by decide) rfl (Nat.le_of_ble_eq_true rfl) ?_
  intro p e s m below meth c A ls X htab hnm hw hK hZ hA hS hsz eA hl
  obtain ⟨hx, hb, hr, hts, hown, hlk, hml⟩ := id X
  have hl : lv_has ls 5 [(0, .ref x), (1, .int kd), (2, .int ky), (3, .ref oa)] := hl
  refine lv_aload_n hx hb dL_rowReference_0 rfl (lv_at hl 3 rfl) ?_
  refine lv_iconst (v := 0) hx hb dL_rowReference_1 (by decide) ?_
  refine lv_aload_n hx hb dL_rowReference_2 rfl (lv_at hl 0 rfl) ?_
  refine lv_iload_n hx hb dL_rowReference_3 rfl (lv_at hl 1 rfl) ?_
  refine lv_iload_n hx hb dL_rowReference_4 rfl (lv_at hl 2 rfl) ?_
  refine x_callVi X (ci := 7) rfl hX9 hK hw hZ hS hA (As := [.int kd, .int ky]) (rest := [.int 0, .ref oa]) (c_X6_rowReference_0 l G dce _ M hlt x ad hc kd ky) (cwV 2 hts gL_rowReference_X6_rowReference rfl rfl rfl (by decide +kernel) ⟨Nat.le_of_ble_eq_true rfl, Nat.le_of_ble_eq_true rfl⟩) rfl hl.1 rfl (Nat.le_of_ble_eq_true rfl) dL_rowReference_5 (Nat.le_of_ble_eq_true rfl) (Nat.le_of_ble_eq_true rfl) (fun E ce q9 M1 H locs hp hw hS hz hk hce hcv hcl9 => ?_) (fun r2 M1 H locs hp hw hS hz hk => ?_)
  · have hM9 := hp.2
    rw [hM9] at hw
    have hE := hp.1
    cases h1 : kOK kd
    · have hE : E = "java/lang/IllegalArgumentException" := hE.trans (by first | rfl | (rw [h1]; rfl) | (rw [h1]; rfl))
      subst hE
      refine vx_catch (name := "java/lang/IllegalArgumentException") hown [] ⟨0, 10, 13, 15⟩ [⟨0, 10, 17, 13⟩] (htab.trans rfl) (fun _ h => absurd h List.not_mem_nil) rfl (by decide) (hts (.classLink RL 15 "java/lang/IllegalArgumentException") (by decide +kernel)) (va_Nw.use rfl (hZ.2.2.2.2.1 ("java/lang/IllegalArgumentException", "java/lang/IllegalArgumentException") (by decide))) hce hcv hcl9 ?_
      refine lv_astore (lv' := [(4, .ref q9), (0, .ref x), (1, .int kd), (2, .int ky), (3, .ref oa)]) hx hb dL_rowReference_13 hl (by decide) rfl (fun ls hl => ?_)
      refine lv_iconst (v := 1) hx hb dL_rowReference_15 (by decide) ?_
      exact m_iret X hK hw hS (⟨by simp [h1], ⟨g0, hoa, fun h => absurd h (by decide)⟩, fun b e hb _ _ => hb⟩) (by omega) (by omega) dL_rowReference_16
    · have hE : E = "java/lang/IndexOutOfBoundsException" := hE.trans (by first | rfl | (rw [h1]; rfl) | (rw [h1]; rfl))
      subst hE
      refine vx_catch (name := "java/lang/IndexOutOfBoundsException") hown [⟨0, 10, 13, 15⟩] ⟨0, 10, 17, 13⟩ [] (htab.trans rfl) (List.forall_mem_cons.mpr ⟨Or.inr ⟨by decide, "java/lang/IllegalArgumentException", hts (.classLink RL 15 "java/lang/IllegalArgumentException") (by decide +kernel), hZ.2.2.2.2.2.1 ("java/lang/IndexOutOfBoundsException", "java/lang/IllegalArgumentException") (by decide)⟩, fun _ h => absurd h List.not_mem_nil⟩) rfl (by decide) (hts (.classLink RL 13 "java/lang/IndexOutOfBoundsException") (by decide +kernel)) (va_Nw.use rfl (hZ.2.2.2.2.1 ("java/lang/IndexOutOfBoundsException", "java/lang/IndexOutOfBoundsException") (by decide))) hce hcv hcl9 ?_
      refine lv_astore (lv' := [(4, .ref q9), (0, .ref x), (1, .int kd), (2, .int ky), (3, .ref oa)]) hx hb dL_rowReference_17 hl (by decide) rfl (fun ls hl => ?_)
      refine lv_iconst (v := 2) hx hb dL_rowReference_19 (by decide) ?_
      exact m_iret X hK hw hS (⟨by simp [h1], ⟨g0, hoa, fun h => absurd h (by decide)⟩, fun b e hb _ _ => hb⟩) (by omega) (by omega) dL_rowReference_20
  exact hp.elim
set_option maxHeartbeats 4000000 in
set_option maxRecDepth 100000 in
theorem c_L_rowVersion_0 (l : Launch) (G : gG) (dce sz : Nat) (M : gM) (hlt : l.stackTraces = false) (x : Nat) (ad : Nat → Nat) (hc : cS0 G dce M x ad) (oa : Nat) (g0 : Nat → Int64) (hoa : M oa = some (.inl (G.2 2, 1, .inr (.inl g0)))) (kd ky : Int32) : mI l yL_rowVersion wsL_rowVersion ({ frames := 9, cells := 2, slots := 12, locals := 147 }) G dce sz M [.ref x, .int kd, .int ky, .ref oa] (fun k M' => k = (if kOK kd then (2 : Int32) else 1) ∧ (∃ g, M' oa = some (.inl (G.2 2, 1, .inr (.inl g))) ∧ (k = 0 → g 0 = 0)) ∧ ∀ b e, M b = some e → b ≠ oa → (∀ fs, e ≠ .inr (0, fs)) → M' b = some e) (2) (12) := by
  have hX9 := hc.1
  refine wMetW (Qc := QI G _) (cc := cL_rowVersion) (maxL := 5) (ret := (some .int)) (hh := [(0, 10, 13, 15), (0, 10, 17, 13)]) (by decide) rfl (Nat.le_of_ble_eq_true rfl) ?_
  intro p e s m below meth c A ls X htab hnm hw hK hZ hA hS hsz eA hl
  obtain ⟨hx, hb, hr, hts, hown, hlk, hml⟩ := id X
  have hl : lv_has ls 5 [(0, .ref x), (1, .int kd), (2, .int ky), (3, .ref oa)] := hl
  refine lv_aload_n hx hb dL_rowVersion_0 rfl (lv_at hl 3 rfl) ?_
  refine lv_iconst (v := 0) hx hb dL_rowVersion_1 (by decide) ?_
  refine lv_aload_n hx hb dL_rowVersion_2 rfl (lv_at hl 0 rfl) ?_
  refine lv_iload_n hx hb dL_rowVersion_3 rfl (lv_at hl 1 rfl) ?_
  refine lv_iload_n hx hb dL_rowVersion_4 rfl (lv_at hl 2 rfl) ?_
  refine x_callVi X (ci := 7) rfl hX9 hK hw hZ hS hA (As := [.int kd, .int ky]) (rest := [.int 0, .ref oa]) (c_X6_rowVersion_0 l G dce _ M hlt x ad hc kd ky) (cwV 2 hts gL_rowVersion_X6_rowVersion rfl rfl rfl (by decide +kernel) ⟨Nat.le_of_ble_eq_true rfl, Nat.le_of_ble_eq_true rfl⟩) rfl hl.1 rfl (Nat.le_of_ble_eq_true rfl) dL_rowVersion_5 (Nat.le_of_ble_eq_true rfl) (Nat.le_of_ble_eq_true rfl) (fun E ce q9 M1 H locs hp hw hS hz hk hce hcv hcl9 => ?_) (fun r2 M1 H locs hp hw hS hz hk => ?_)
  · have hM9 := hp.2
    rw [hM9] at hw
    have hE := hp.1
    cases h1 : kOK kd
    · have hE : E = "java/lang/IllegalArgumentException" := hE.trans (by first | rfl | (rw [h1]; rfl) | (rw [h1]; rfl))
      subst hE
      refine vx_catch (name := "java/lang/IllegalArgumentException") hown [] ⟨0, 10, 13, 15⟩ [⟨0, 10, 17, 13⟩] (htab.trans rfl) (fun _ h => absurd h List.not_mem_nil) rfl (by decide) (hts (.classLink RL 15 "java/lang/IllegalArgumentException") (by decide +kernel)) (va_Nw.use rfl (hZ.2.2.2.2.1 ("java/lang/IllegalArgumentException", "java/lang/IllegalArgumentException") (by decide))) hce hcv hcl9 ?_
      refine lv_astore (lv' := [(4, .ref q9), (0, .ref x), (1, .int kd), (2, .int ky), (3, .ref oa)]) hx hb dL_rowVersion_13 hl (by decide) rfl (fun ls hl => ?_)
      refine lv_iconst (v := 1) hx hb dL_rowVersion_15 (by decide) ?_
      exact m_iret X hK hw hS (⟨by simp [h1], ⟨g0, hoa, fun h => absurd h (by decide)⟩, fun b e hb _ _ => hb⟩) (by omega) (by omega) dL_rowVersion_16
    · have hE : E = "java/lang/IndexOutOfBoundsException" := hE.trans (by first | rfl | (rw [h1]; rfl) | (rw [h1]; rfl))
      subst hE
      refine vx_catch (name := "java/lang/IndexOutOfBoundsException") hown [⟨0, 10, 13, 15⟩] ⟨0, 10, 17, 13⟩ [] (htab.trans rfl) (List.forall_mem_cons.mpr ⟨Or.inr ⟨by decide, "java/lang/IllegalArgumentException", hts (.classLink RL 15 "java/lang/IllegalArgumentException") (by decide +kernel), hZ.2.2.2.2.2.1 ("java/lang/IndexOutOfBoundsException", "java/lang/IllegalArgumentException") (by decide)⟩, fun _ h => absurd h List.not_mem_nil⟩) rfl (by decide) (hts (.classLink RL 13 "java/lang/IndexOutOfBoundsException") (by decide +kernel)) (va_Nw.use rfl (hZ.2.2.2.2.1 ("java/lang/IndexOutOfBoundsException", "java/lang/IndexOutOfBoundsException") (by decide))) hce hcv hcl9 ?_
      refine lv_astore (lv' := [(4, .ref q9), (0, .ref x), (1, .int kd), (2, .int ky), (3, .ref oa)]) hx hb dL_rowVersion_17 hl (by decide) rfl (fun ls hl => ?_)
      refine lv_iconst (v := 2) hx hb dL_rowVersion_19 (by decide) ?_
      exact m_iret X hK hw hS (⟨by simp [h1], ⟨g0, hoa, fun h => absurd h (by decide)⟩, fun b e hb _ _ => hb⟩) (by omega) (by omega) dL_rowVersion_20
  exact hp.elim
set_option maxHeartbeats 4000000 in
set_option maxRecDepth 100000 in
theorem c_L_write_0 (l : Launch) (G : gG) (dce sz : Nat) (M : gM) (hlt : l.stackTraces = false) (x : Nat) (ad : Nat → Nat) (hc : cS0 G dce M x ad) (oa : Nat) (g0 : Nat → Int64) (hoa : M oa = some (.inl (G.2 2, 1, .inr (.inl g0)))) (nu : Int32) : mI l yL_write wsL_write ({ frames := 8, cells := 1, slots := 6, locals := 124 }) G dce sz M [.ref x, .int nu, .ref oa] (fun k M' => k = (1 : Int32) ∧ (∃ g, M' oa = some (.inl (G.2 2, 1, .inr (.inl g))) ∧ (k = 0 → g 0 = 0)) ∧ ∀ b e, M b = some e → b ≠ oa → (∀ fs, e ≠ .inr (0, fs)) → M' b = some e) (1) (6) := by
  have hX9 := hc.1
  refine wMetW (Qc := QI G _) (cc := cL_write) (maxL := 4) (ret := (some .int)) (hh := [(0, 9, 12, 13)]) (by decide) rfl (Nat.le_of_ble_eq_true rfl) ?_
  intro p e s m below meth c A ls X htab hnm hw hK hZ hA hS hsz eA hl
  obtain ⟨hx, hb, hr, hts, hown, hlk, hml⟩ := id X
  have hl : lv_has ls 4 [(0, .ref x), (1, .int nu), (2, .ref oa)] := hl
  refine lv_aload_n hx hb dL_write_0 rfl (lv_at hl 2 rfl) ?_
  refine lv_iconst (v := 0) hx hb dL_write_1 (by decide) ?_
  refine lv_aload_n hx hb dL_write_2 rfl (lv_at hl 0 rfl) ?_
  refine lv_iload_n hx hb dL_write_3 rfl (lv_at hl 1 rfl) ?_
  refine x_callVi X (ci := 7) rfl hX9 hK hw hZ hS hA (As := [.int nu]) (rest := [.int 0, .ref oa]) (c_X6_write_0 l G dce _ M hlt x ad hc nu) (cwV 1 hts gL_write_X6_write rfl rfl rfl (by decide +kernel) ⟨Nat.le_of_ble_eq_true rfl, Nat.le_of_ble_eq_true rfl⟩) rfl hl.1 rfl (Nat.le_of_ble_eq_true rfl) dL_write_4 (Nat.le_of_ble_eq_true rfl) (Nat.le_of_ble_eq_true rfl) (fun E ce q9 M1 H locs hp hw hS hz hk hce hcv hcl9 => ?_) (fun r2 M1 H locs hp hw hS hz hk => ?_)
  · have hM9 := hp.2
    rw [hM9] at hw
    have hE := hp.1
    have hE : E = "java/lang/IndexOutOfBoundsException" := hE.trans (by first | rfl | (rw [if_pos rfl]; rfl) | (rw [if_pos rfl]; rfl))
    subst hE
    refine vx_catch (name := "java/lang/IndexOutOfBoundsException") hown [] ⟨0, 9, 12, 13⟩ [] (htab.trans rfl) (fun _ h => absurd h List.not_mem_nil) rfl (by decide) (hts (.classLink RL 13 "java/lang/IndexOutOfBoundsException") (by decide +kernel)) (va_Nw.use rfl (hZ.2.2.2.2.1 ("java/lang/IndexOutOfBoundsException", "java/lang/IndexOutOfBoundsException") (by decide))) hce hcv hcl9 ?_
    refine lv_astore_n (lv' := [(3, .ref q9), (0, .ref x), (1, .int nu), (2, .ref oa)]) hx hb dL_write_12 rfl hl (by decide) rfl (fun ls hl => ?_)
    refine lv_iconst (v := 1) hx hb dL_write_13 (by decide) ?_
    exact m_iret X hK hw hS (⟨rfl, ⟨g0, hoa, fun h => absurd h (by decide)⟩, fun b e hb _ _ => hb⟩) (by omega) (by omega) dL_write_14
  exact hp.elim
set_option maxHeartbeats 4000000 in
set_option maxRecDepth 100000 in
theorem c_L_written_0 (l : Launch) (G : gG) (dce sz : Nat) (M : gM) (hlt : l.stackTraces = false) (x : Nat) (ad : Nat → Nat) (hc : cS0 G dce M x ad) (oa : Nat) (g0 : Nat → Int64) (hoa : M oa = some (.inl (G.2 2, 1, .inr (.inl g0)))) (nu : Int32) : mI l yL_written wsL_written ({ frames := 8, cells := 1, slots := 6, locals := 124 }) G dce sz M [.ref x, .int nu, .ref oa] (fun k M' => k = (1 : Int32) ∧ (∃ g, M' oa = some (.inl (G.2 2, 1, .inr (.inl g))) ∧ (k = 0 → g 0 = 0)) ∧ ∀ b e, M b = some e → b ≠ oa → (∀ fs, e ≠ .inr (0, fs)) → M' b = some e) (1) (6) := by
  have hX9 := hc.1
  refine wMetW (Qc := QI G _) (cc := cL_written) (maxL := 4) (ret := (some .int)) (hh := [(0, 9, 12, 13)]) (by decide) rfl (Nat.le_of_ble_eq_true rfl) ?_
  intro p e s m below meth c A ls X htab hnm hw hK hZ hA hS hsz eA hl
  obtain ⟨hx, hb, hr, hts, hown, hlk, hml⟩ := id X
  have hl : lv_has ls 4 [(0, .ref x), (1, .int nu), (2, .ref oa)] := hl
  refine lv_aload_n hx hb dL_written_0 rfl (lv_at hl 2 rfl) ?_
  refine lv_iconst (v := 0) hx hb dL_written_1 (by decide) ?_
  refine lv_aload_n hx hb dL_written_2 rfl (lv_at hl 0 rfl) ?_
  refine lv_iload_n hx hb dL_written_3 rfl (lv_at hl 1 rfl) ?_
  refine x_callVi X (ci := 7) rfl hX9 hK hw hZ hS hA (As := [.int nu]) (rest := [.int 0, .ref oa]) (c_X6_written_0 l G dce _ M hlt x ad hc nu) (cwV 1 hts gL_written_X6_written rfl rfl rfl (by decide +kernel) ⟨Nat.le_of_ble_eq_true rfl, Nat.le_of_ble_eq_true rfl⟩) rfl hl.1 rfl (Nat.le_of_ble_eq_true rfl) dL_written_4 (Nat.le_of_ble_eq_true rfl) (Nat.le_of_ble_eq_true rfl) (fun E ce q9 M1 H locs hp hw hS hz hk hce hcv hcl9 => ?_) (fun r2 M1 H locs hp hw hS hz hk => ?_)
  · have hM9 := hp.2
    rw [hM9] at hw
    have hE := hp.1
    have hE : E = "java/lang/IndexOutOfBoundsException" := hE.trans (by first | rfl | (rw [if_pos rfl]; rfl) | (rw [if_pos rfl]; rfl))
    subst hE
    refine vx_catch (name := "java/lang/IndexOutOfBoundsException") hown [] ⟨0, 9, 12, 13⟩ [] (htab.trans rfl) (fun _ h => absurd h List.not_mem_nil) rfl (by decide) (hts (.classLink RL 13 "java/lang/IndexOutOfBoundsException") (by decide +kernel)) (va_Nw.use rfl (hZ.2.2.2.2.1 ("java/lang/IndexOutOfBoundsException", "java/lang/IndexOutOfBoundsException") (by decide))) hce hcv hcl9 ?_
    refine lv_astore_n (lv' := [(3, .ref q9), (0, .ref x), (1, .int nu), (2, .ref oa)]) hx hb dL_written_12 rfl hl (by decide) rfl (fun ls hl => ?_)
    refine lv_iconst (v := 1) hx hb dL_written_13 (by decide) ?_
    exact m_iret X hK hw hS (⟨rfl, ⟨g0, hoa, fun h => absurd h (by decide)⟩, fun b e hb _ _ => hb⟩) (by omega) (by omega) dL_written_14
  exact hp.elim
set_option maxHeartbeats 4000000 in
set_option maxRecDepth 100000 in
theorem c_L_find_0 (l : Launch) (G : gG) (dce sz : Nat) (M : gM) (hlt : l.stackTraces = false) (x : Nat) (ad : Nat → Nat) (hc : cS0 G dce M x ad) (oa : Nat) (g0 : Nat → Int64) (hoa : M oa = some (.inl (G.2 2, 1, .inr (.inl g0)))) (si kd ky : Int32) : mI l yL_find wsL_find ({ frames := 8, cells := 2, slots := 12, locals := 129 }) G dce sz M [.ref x, .int si, .int kd, .int ky, .ref oa] (fun k M' => k = (if sOK si then (if kOK kd then (0 : Int32) else 2) else 1) ∧ (∃ g, M' oa = some (.inl (G.2 2, 1, .inr (.inl g))) ∧ (k = 0 → g 0 = 0)) ∧ ∀ b e, M b = some e → b ≠ oa → (∀ fs, e ≠ .inr (0, fs)) → M' b = some e) (2) (12) := by
  have hX9 := hc.1
  refine wMetW (Qc := QI G _) (cc := cL_find) (maxL := 6) (ret := (some .int)) (hh := [(0, 19, 22, 13), (0, 19, 26, 15)]) (by decide) rfl (Nat.le_of_ble_eq_true rfl) ?_
  intro p e s m below meth c A ls X htab hnm hw hK hZ hA hS hsz eA hl
  obtain ⟨hx, hb, hr, hts, hown, hlk, hml⟩ := id X
  have hl : lv_has ls 6 [(0, .ref x), (1, .int si), (2, .int kd), (3, .int ky), (4, .ref oa)] := hl
  refine lv_aload hx hb dL_find_0 (lv_at hl 4 rfl) ?_
  refine lv_iconst (v := 0) hx hb dL_find_2 (by decide) ?_
  refine lv_aload_n hx hb dL_find_3 rfl (lv_at hl 0 rfl) ?_
  refine lv_iload_n hx hb dL_find_4 rfl (lv_at hl 1 rfl) ?_
  refine lv_iload_n hx hb dL_find_5 rfl (lv_at hl 2 rfl) ?_
  refine lv_iload_n hx hb dL_find_6 rfl (lv_at hl 3 rfl) ?_
  refine x_callVi X (ci := 7) rfl hX9 hK hw hZ hS hA (As := [.int si, .int kd, .int ky]) (rest := [.int 0, .ref oa]) (c_X6_find_0 l G dce _ M hlt x ad hc si kd ky) (cwV 3 hts gL_find_X6_find rfl rfl rfl (by decide +kernel) ⟨Nat.le_of_ble_eq_true rfl, Nat.le_of_ble_eq_true rfl⟩) rfl hl.1 rfl (Nat.le_of_ble_eq_true rfl) dL_find_7 (Nat.le_of_ble_eq_true rfl) (Nat.le_of_ble_eq_true rfl) (fun E ce q9 M1 H locs hp hw hS hz hk hce hcv hcl9 => ?_) (fun r2 M1 H locs hp hw hS hz hk => ?_)
  · have hM9 := hp.2
    rw [hM9] at hw
    have hE := hp.1.1
    cases h1 : sOK si
    · have hE : E = "java/lang/IndexOutOfBoundsException" := hE.trans (by first | rfl | (rw [h1]; rfl) | (rw [h1]; rfl))
      subst hE
      refine vx_catch (name := "java/lang/IndexOutOfBoundsException") hown [] ⟨0, 19, 22, 13⟩ [⟨0, 19, 26, 15⟩] (htab.trans rfl) (fun _ h => absurd h List.not_mem_nil) rfl (by decide) (hts (.classLink RL 13 "java/lang/IndexOutOfBoundsException") (by decide +kernel)) (va_Nw.use rfl (hZ.2.2.2.2.1 ("java/lang/IndexOutOfBoundsException", "java/lang/IndexOutOfBoundsException") (by decide))) hce hcv hcl9 ?_
      refine lv_astore (lv' := [(5, .ref q9), (0, .ref x), (1, .int si), (2, .int kd), (3, .int ky), (4, .ref oa)]) hx hb dL_find_22 hl (by decide) rfl (fun ls hl => ?_)
      refine lv_iconst (v := 1) hx hb dL_find_24 (by decide) ?_
      exact m_iret X hK hw hS (⟨by simp [h1], ⟨g0, hoa, fun h => absurd h (by decide)⟩, fun b e hb _ _ => hb⟩) (by omega) (by omega) dL_find_25
    · cases h2 : kOK kd
      · have hE : E = "java/lang/IllegalArgumentException" := hE.trans (by first | rfl | (rw [h1, h2]; rfl) | (rw [h1]; rfl))
        subst hE
        refine vx_catch (name := "java/lang/IllegalArgumentException") hown [⟨0, 19, 22, 13⟩] ⟨0, 19, 26, 15⟩ [] (htab.trans rfl) (List.forall_mem_cons.mpr ⟨Or.inr ⟨by decide, "java/lang/IndexOutOfBoundsException", hts (.classLink RL 13 "java/lang/IndexOutOfBoundsException") (by decide +kernel), hZ.2.2.2.2.2.1 ("java/lang/IllegalArgumentException", "java/lang/IndexOutOfBoundsException") (by decide)⟩, fun _ h => absurd h List.not_mem_nil⟩) rfl (by decide) (hts (.classLink RL 15 "java/lang/IllegalArgumentException") (by decide +kernel)) (va_Nw.use rfl (hZ.2.2.2.2.1 ("java/lang/IllegalArgumentException", "java/lang/IllegalArgumentException") (by decide))) hce hcv hcl9 ?_
        refine lv_astore (lv' := [(5, .ref q9), (0, .ref x), (1, .int si), (2, .int kd), (3, .int ky), (4, .ref oa)]) hx hb dL_find_26 hl (by decide) rfl (fun ls hl => ?_)
        refine lv_iconst (v := 2) hx hb dL_find_28 (by decide) ?_
        exact m_iret X hK hw hS (⟨by simp [h1, h2], ⟨g0, hoa, fun h => absurd h (by decide)⟩, fun b e hb _ _ => hb⟩) (by omega) (by omega) dL_find_29
      · exact absurd hp.1.2 (by rw [h1, h2]; decide)
  have hcd := hp.2.1
  rw [hp.2.2] at hw
  rw [hp.1]
  refine lv_if_eq (tgt := 17) hx hb dL_find_10 (by decide) (fun _ => ?_) (fun c_10 => absurd (by decide) c_10)
  refine lv_lconst (v := 0) hx hb dL_find_17 (by decide) ?_
  refine m_last X hK hw hS hoa (i := 0) (by unfold vp_in; decide) dL_find_18 (fun M3 H locs eM3 hw hS => ?_)
  refine lv_goto (tgt := 30) hx hb dL_find_19 (by decide) ?_
  refine lv_iconst (v := 0) hx hb dL_find_30 (by decide) ?_
  exact m_iret X hK hw hS (⟨by simp [hcd], ⟨_, by rw [eM3]; exact mu_s _ _ _, fun _ => by first | rfl | decide | simp [vp_updL]⟩, fun b e hb hne _ => by rw [eM3]; exact mu_g hb hne⟩) (by omega) (by omega) dL_find_31
set_option maxHeartbeats 4000000 in
set_option maxRecDepth 100000 in
theorem c_L_books_0 (l : Launch) (G : gG) (dce sz : Nat) (M : gM) (hlt : l.stackTraces = false) (x : Nat) (ad : Nat → Nat) (hc : cS0 G dce M x ad) (oa : Nat) (g0 : Nat → Int64) (hoa : M oa = some (.inl (G.2 2, 1, .inr (.inl g0)))) (si au : Int32) : mI l yL_books wsL_books ({ frames := 8, cells := 2, slots := 12, locals := 129 }) G dce sz M [.ref x, .int si, .int au, .ref oa] (fun k M' => k = (if sOK si then (2 : Int32) else 1) ∧ (∃ g, M' oa = some (.inl (G.2 2, 1, .inr (.inl g))) ∧ (k = 0 → g 0 = 0)) ∧ ∀ b e, M b = some e → b ≠ oa → (∀ fs, e ≠ .inr (0, fs)) → M' b = some e) (2) (12) := by
  have hX9 := hc.1
  refine wMetW (Qc := QI G _) (cc := cL_books) (maxL := 5) (ret := (some .int)) (hh := [(0, 10, 13, 13), (0, 10, 17, 21)]) (by decide) rfl (Nat.le_of_ble_eq_true rfl) ?_
  intro p e s m below meth c A ls X htab hnm hw hK hZ hA hS hsz eA hl
  obtain ⟨hx, hb, hr, hts, hown, hlk, hml⟩ := id X
  have hl : lv_has ls 5 [(0, .ref x), (1, .int si), (2, .int au), (3, .ref oa)] := hl
  refine lv_aload_n hx hb dL_books_0 rfl (lv_at hl 3 rfl) ?_
  refine lv_iconst (v := 0) hx hb dL_books_1 (by decide) ?_
  refine lv_aload_n hx hb dL_books_2 rfl (lv_at hl 0 rfl) ?_
  refine lv_iload_n hx hb dL_books_3 rfl (lv_at hl 1 rfl) ?_
  refine lv_iload_n hx hb dL_books_4 rfl (lv_at hl 2 rfl) ?_
  refine x_callVi X (ci := 7) rfl hX9 hK hw hZ hS hA (As := [.int si, .int au]) (rest := [.int 0, .ref oa]) (c_X6_books_0 l G dce _ M hlt x ad hc si au) (cwV 2 hts gL_books_X6_books rfl rfl rfl (by decide +kernel) ⟨Nat.le_of_ble_eq_true rfl, Nat.le_of_ble_eq_true rfl⟩) rfl hl.1 rfl (Nat.le_of_ble_eq_true rfl) dL_books_5 (Nat.le_of_ble_eq_true rfl) (Nat.le_of_ble_eq_true rfl) (fun E ce q9 M1 H locs hp hw hS hz hk hce hcv hcl9 => ?_) (fun r2 M1 H locs hp hw hS hz hk => ?_)
  · have hM9 := hp.2
    rw [hM9] at hw
    have hE := hp.1
    cases h1 : sOK si
    · have hE : E = "java/lang/IndexOutOfBoundsException" := hE.trans (by first | rfl | (rw [h1]; rfl) | (rw [h1]; rfl))
      subst hE
      refine vx_catch (name := "java/lang/IndexOutOfBoundsException") hown [] ⟨0, 10, 13, 13⟩ [⟨0, 10, 17, 21⟩] (htab.trans rfl) (fun _ h => absurd h List.not_mem_nil) rfl (by decide) (hts (.classLink RL 13 "java/lang/IndexOutOfBoundsException") (by decide +kernel)) (va_Nw.use rfl (hZ.2.2.2.2.1 ("java/lang/IndexOutOfBoundsException", "java/lang/IndexOutOfBoundsException") (by decide))) hce hcv hcl9 ?_
      refine lv_astore (lv' := [(4, .ref q9), (0, .ref x), (1, .int si), (2, .int au), (3, .ref oa)]) hx hb dL_books_13 hl (by decide) rfl (fun ls hl => ?_)
      refine lv_iconst (v := 1) hx hb dL_books_15 (by decide) ?_
      exact m_iret X hK hw hS (⟨by simp [h1], ⟨g0, hoa, fun h => absurd h (by decide)⟩, fun b e hb _ _ => hb⟩) (by omega) (by omega) dL_books_16
    · have hE : E = "java/lang/IllegalStateException" := hE.trans (by first | rfl | (rw [h1]; rfl) | (rw [h1]; rfl))
      subst hE
      refine vx_catch (name := "java/lang/IllegalStateException") hown [⟨0, 10, 13, 13⟩] ⟨0, 10, 17, 21⟩ [] (htab.trans rfl) (List.forall_mem_cons.mpr ⟨Or.inr ⟨by decide, "java/lang/IndexOutOfBoundsException", hts (.classLink RL 13 "java/lang/IndexOutOfBoundsException") (by decide +kernel), hZ.2.2.2.2.2.1 ("java/lang/IllegalStateException", "java/lang/IndexOutOfBoundsException") (by decide)⟩, fun _ h => absurd h List.not_mem_nil⟩) rfl (by decide) (hts (.classLink RL 21 "java/lang/IllegalStateException") (by decide +kernel)) (va_Nw.use rfl (hZ.2.2.2.2.1 ("java/lang/IllegalStateException", "java/lang/IllegalStateException") (by decide))) hce hcv hcl9 ?_
      refine lv_astore (lv' := [(4, .ref q9), (0, .ref x), (1, .int si), (2, .int au), (3, .ref oa)]) hx hb dL_books_17 hl (by decide) rfl (fun ls hl => ?_)
      refine lv_iconst (v := 2) hx hb dL_books_19 (by decide) ?_
      exact m_iret X hK hw hS (⟨by simp [h1], ⟨g0, hoa, fun h => absurd h (by decide)⟩, fun b e hb _ _ => hb⟩) (by omega) (by omega) dL_books_20
  exact hp.elim
set_option maxHeartbeats 4000000 in
set_option maxRecDepth 100000 in
theorem c_L_remove_0 (l : Launch) (G : gG) (dce sz : Nat) (M : gM) (hlt : l.stackTraces = false) (x : Nat) (ad : Nat → Nat) (hc : cS0 G dce M x ad) (oa : Nat) (g0 : Nat → Int64) (hoa : M oa = some (.inl (G.2 2, 1, .inr (.inl g0)))) (si kd ky : Int32) : mI l yL_remove wsL_remove ({ frames := 8, cells := 3, slots := 18, locals := 128 }) G dce sz M [.ref x, .int si, .int kd, .int ky, .ref oa] (fun k M' => k = (if sOK si then (if kOK kd then (3 : Int32) else 2) else 1) ∧ (∃ g, M' oa = some (.inl (G.2 2, 1, .inr (.inl g))) ∧ (k = 0 → g 0 = 0)) ∧ ∀ b e, M b = some e → b ≠ oa → (∀ fs, e ≠ .inr (0, fs)) → M' b = some e) (3) (18) := by
  have hX9 := hc.1
  refine wMetW (Qc := QI G _) (cc := cL_remove) (maxL := 6) (ret := (some .int)) (hh := [(0, 12, 15, 13), (0, 12, 19, 15), (0, 12, 23, 21)]) (by decide) rfl (Nat.le_of_ble_eq_true rfl) ?_
  intro p e s m below meth c A ls X htab hnm hw hK hZ hA hS hsz eA hl
  obtain ⟨hx, hb, hr, hts, hown, hlk, hml⟩ := id X
  have hl : lv_has ls 6 [(0, .ref x), (1, .int si), (2, .int kd), (3, .int ky), (4, .ref oa)] := hl
  refine lv_aload hx hb dL_remove_0 (lv_at hl 4 rfl) ?_
  refine lv_iconst (v := 0) hx hb dL_remove_2 (by decide) ?_
  refine lv_aload_n hx hb dL_remove_3 rfl (lv_at hl 0 rfl) ?_
  refine lv_iload_n hx hb dL_remove_4 rfl (lv_at hl 1 rfl) ?_
  refine lv_iload_n hx hb dL_remove_5 rfl (lv_at hl 2 rfl) ?_
  refine lv_iload_n hx hb dL_remove_6 rfl (lv_at hl 3 rfl) ?_
  refine x_callVi X (ci := 7) rfl hX9 hK hw hZ hS hA (As := [.int si, .int kd, .int ky]) (rest := [.int 0, .ref oa]) (c_X6_remove_0 l G dce _ M hlt x ad hc si kd ky) (cwV 3 hts gL_remove_X6_remove rfl rfl rfl (by decide +kernel) ⟨Nat.le_of_ble_eq_true rfl, Nat.le_of_ble_eq_true rfl⟩) rfl hl.1 rfl (Nat.le_of_ble_eq_true rfl) dL_remove_7 (Nat.le_of_ble_eq_true rfl) (Nat.le_of_ble_eq_true rfl) (fun E ce q9 M1 H locs hp hw hS hz hk hce hcv hcl9 => ?_) (fun r2 M1 H locs hp hw hS hz hk => ?_)
  · have hM9 := hp.2
    rw [hM9] at hw
    have hE := hp.1
    cases h1 : sOK si
    · have hE : E = "java/lang/IndexOutOfBoundsException" := hE.trans (by first | rfl | (rw [h1]; rfl) | (rw [h1]; rfl))
      subst hE
      refine vx_catch (name := "java/lang/IndexOutOfBoundsException") hown [] ⟨0, 12, 15, 13⟩ [⟨0, 12, 19, 15⟩, ⟨0, 12, 23, 21⟩] (htab.trans rfl) (fun _ h => absurd h List.not_mem_nil) rfl (by decide) (hts (.classLink RL 13 "java/lang/IndexOutOfBoundsException") (by decide +kernel)) (va_Nw.use rfl (hZ.2.2.2.2.1 ("java/lang/IndexOutOfBoundsException", "java/lang/IndexOutOfBoundsException") (by decide))) hce hcv hcl9 ?_
      refine lv_astore (lv' := [(5, .ref q9), (0, .ref x), (1, .int si), (2, .int kd), (3, .int ky), (4, .ref oa)]) hx hb dL_remove_15 hl (by decide) rfl (fun ls hl => ?_)
      refine lv_iconst (v := 1) hx hb dL_remove_17 (by decide) ?_
      exact m_iret X hK hw hS (⟨by simp [h1], ⟨g0, hoa, fun h => absurd h (by decide)⟩, fun b e hb _ _ => hb⟩) (by omega) (by omega) dL_remove_18
    · cases h2 : kOK kd
      · have hE : E = "java/lang/IllegalArgumentException" := hE.trans (by first | rfl | (rw [h1, h2]; rfl) | (rw [h1]; rfl))
        subst hE
        refine vx_catch (name := "java/lang/IllegalArgumentException") hown [⟨0, 12, 15, 13⟩] ⟨0, 12, 19, 15⟩ [⟨0, 12, 23, 21⟩] (htab.trans rfl) (List.forall_mem_cons.mpr ⟨Or.inr ⟨by decide, "java/lang/IndexOutOfBoundsException", hts (.classLink RL 13 "java/lang/IndexOutOfBoundsException") (by decide +kernel), hZ.2.2.2.2.2.1 ("java/lang/IllegalArgumentException", "java/lang/IndexOutOfBoundsException") (by decide)⟩, fun _ h => absurd h List.not_mem_nil⟩) rfl (by decide) (hts (.classLink RL 15 "java/lang/IllegalArgumentException") (by decide +kernel)) (va_Nw.use rfl (hZ.2.2.2.2.1 ("java/lang/IllegalArgumentException", "java/lang/IllegalArgumentException") (by decide))) hce hcv hcl9 ?_
        refine lv_astore (lv' := [(5, .ref q9), (0, .ref x), (1, .int si), (2, .int kd), (3, .int ky), (4, .ref oa)]) hx hb dL_remove_19 hl (by decide) rfl (fun ls hl => ?_)
        refine lv_iconst (v := 2) hx hb dL_remove_21 (by decide) ?_
        exact m_iret X hK hw hS (⟨by simp [h1, h2], ⟨g0, hoa, fun h => absurd h (by decide)⟩, fun b e hb _ _ => hb⟩) (by omega) (by omega) dL_remove_22
      · have hE : E = "java/lang/IllegalStateException" := hE.trans (by first | rfl | (rw [h1, h2]; rfl) | (rw [h1]; rfl))
        subst hE
        refine vx_catch (name := "java/lang/IllegalStateException") hown [⟨0, 12, 15, 13⟩, ⟨0, 12, 19, 15⟩] ⟨0, 12, 23, 21⟩ [] (htab.trans rfl) (List.forall_mem_cons.mpr ⟨Or.inr ⟨by decide, "java/lang/IndexOutOfBoundsException", hts (.classLink RL 13 "java/lang/IndexOutOfBoundsException") (by decide +kernel), hZ.2.2.2.2.2.1 ("java/lang/IllegalStateException", "java/lang/IndexOutOfBoundsException") (by decide)⟩, List.forall_mem_cons.mpr ⟨Or.inr ⟨by decide, "java/lang/IllegalArgumentException", hts (.classLink RL 15 "java/lang/IllegalArgumentException") (by decide +kernel), hZ.2.2.2.2.2.1 ("java/lang/IllegalStateException", "java/lang/IllegalArgumentException") (by decide)⟩, fun _ h => absurd h List.not_mem_nil⟩⟩) rfl (by decide) (hts (.classLink RL 21 "java/lang/IllegalStateException") (by decide +kernel)) (va_Nw.use rfl (hZ.2.2.2.2.1 ("java/lang/IllegalStateException", "java/lang/IllegalStateException") (by decide))) hce hcv hcl9 ?_
        refine lv_astore (lv' := [(5, .ref q9), (0, .ref x), (1, .int si), (2, .int kd), (3, .int ky), (4, .ref oa)]) hx hb dL_remove_23 hl (by decide) rfl (fun ls hl => ?_)
        refine lv_iconst (v := 3) hx hb dL_remove_25 (by decide) ?_
        exact m_iret X hK hw hS (⟨by simp [h1, h2], ⟨g0, hoa, fun h => absurd h (by decide)⟩, fun b e hb _ _ => hb⟩) (by omega) (by omega) dL_remove_26
  exact hp.elim
set_option maxHeartbeats 4000000 in
set_option maxRecDepth 100000 in
theorem c_L_name_0 (l : Launch) (G : gG) (dce sz : Nat) (M : gM) (hlt : l.stackTraces = false) (x : Nat) (ad : Nat → Nat) (hc : cS0 G dce M x ad) (oa : Nat) (g0 : Nat → Int64) (hoa : M oa = some (.inl (G.2 2, 1, .inr (.inl g0)))) (si kd ky : Int32) : mI l yL_name wsL_name ({ frames := 8, cells := 3, slots := 18, locals := 128 }) G dce sz M [.ref x, .int si, .int kd, .int ky, .ref oa] (fun k M' => k = (if sOK si then (if kOK kd then (3 : Int32) else 2) else 1) ∧ (∃ g, M' oa = some (.inl (G.2 2, 1, .inr (.inl g))) ∧ (k = 0 → g 0 = 0)) ∧ ∀ b e, M b = some e → b ≠ oa → (∀ fs, e ≠ .inr (0, fs)) → M' b = some e) (3) (18) := by
  have hX9 := hc.1
  refine wMetW (Qc := QI G _) (cc := cL_name) (maxL := 6) (ret := (some .int)) (hh := [(0, 12, 15, 13), (0, 12, 19, 15), (0, 12, 23, 21)]) (by decide) rfl (Nat.le_of_ble_eq_true rfl) ?_
  intro p e s m below meth c A ls X htab hnm hw hK hZ hA hS hsz eA hl
  obtain ⟨hx, hb, hr, hts, hown, hlk, hml⟩ := id X
  have hl : lv_has ls 6 [(0, .ref x), (1, .int si), (2, .int kd), (3, .int ky), (4, .ref oa)] := hl
  refine lv_aload hx hb dL_name_0 (lv_at hl 4 rfl) ?_
  refine lv_iconst (v := 0) hx hb dL_name_2 (by decide) ?_
  refine lv_aload_n hx hb dL_name_3 rfl (lv_at hl 0 rfl) ?_
  refine lv_iload_n hx hb dL_name_4 rfl (lv_at hl 1 rfl) ?_
  refine lv_iload_n hx hb dL_name_5 rfl (lv_at hl 2 rfl) ?_
  refine lv_iload_n hx hb dL_name_6 rfl (lv_at hl 3 rfl) ?_
  refine x_callVi X (ci := 7) rfl hX9 hK hw hZ hS hA (As := [.int si, .int kd, .int ky]) (rest := [.int 0, .ref oa]) (c_X6_name_0 l G dce _ M hlt x ad hc si kd ky) (cwV 3 hts gL_name_X6_name rfl rfl rfl (by decide +kernel) ⟨Nat.le_of_ble_eq_true rfl, Nat.le_of_ble_eq_true rfl⟩) rfl hl.1 rfl (Nat.le_of_ble_eq_true rfl) dL_name_7 (Nat.le_of_ble_eq_true rfl) (Nat.le_of_ble_eq_true rfl) (fun E ce q9 M1 H locs hp hw hS hz hk hce hcv hcl9 => ?_) (fun r2 M1 H locs hp hw hS hz hk => ?_)
  · have hM9 := hp.2
    rw [hM9] at hw
    have hE := hp.1
    cases h1 : sOK si
    · have hE : E = "java/lang/IndexOutOfBoundsException" := hE.trans (by first | rfl | (rw [h1]; rfl) | (rw [h1]; rfl))
      subst hE
      refine vx_catch (name := "java/lang/IndexOutOfBoundsException") hown [] ⟨0, 12, 15, 13⟩ [⟨0, 12, 19, 15⟩, ⟨0, 12, 23, 21⟩] (htab.trans rfl) (fun _ h => absurd h List.not_mem_nil) rfl (by decide) (hts (.classLink RL 13 "java/lang/IndexOutOfBoundsException") (by decide +kernel)) (va_Nw.use rfl (hZ.2.2.2.2.1 ("java/lang/IndexOutOfBoundsException", "java/lang/IndexOutOfBoundsException") (by decide))) hce hcv hcl9 ?_
      refine lv_astore (lv' := [(5, .ref q9), (0, .ref x), (1, .int si), (2, .int kd), (3, .int ky), (4, .ref oa)]) hx hb dL_name_15 hl (by decide) rfl (fun ls hl => ?_)
      refine lv_iconst (v := 1) hx hb dL_name_17 (by decide) ?_
      exact m_iret X hK hw hS (⟨by simp [h1], ⟨g0, hoa, fun h => absurd h (by decide)⟩, fun b e hb _ _ => hb⟩) (by omega) (by omega) dL_name_18
    · cases h2 : kOK kd
      · have hE : E = "java/lang/IllegalArgumentException" := hE.trans (by first | rfl | (rw [h1, h2]; rfl) | (rw [h1]; rfl))
        subst hE
        refine vx_catch (name := "java/lang/IllegalArgumentException") hown [⟨0, 12, 15, 13⟩] ⟨0, 12, 19, 15⟩ [⟨0, 12, 23, 21⟩] (htab.trans rfl) (List.forall_mem_cons.mpr ⟨Or.inr ⟨by decide, "java/lang/IndexOutOfBoundsException", hts (.classLink RL 13 "java/lang/IndexOutOfBoundsException") (by decide +kernel), hZ.2.2.2.2.2.1 ("java/lang/IllegalArgumentException", "java/lang/IndexOutOfBoundsException") (by decide)⟩, fun _ h => absurd h List.not_mem_nil⟩) rfl (by decide) (hts (.classLink RL 15 "java/lang/IllegalArgumentException") (by decide +kernel)) (va_Nw.use rfl (hZ.2.2.2.2.1 ("java/lang/IllegalArgumentException", "java/lang/IllegalArgumentException") (by decide))) hce hcv hcl9 ?_
        refine lv_astore (lv' := [(5, .ref q9), (0, .ref x), (1, .int si), (2, .int kd), (3, .int ky), (4, .ref oa)]) hx hb dL_name_19 hl (by decide) rfl (fun ls hl => ?_)
        refine lv_iconst (v := 2) hx hb dL_name_21 (by decide) ?_
        exact m_iret X hK hw hS (⟨by simp [h1, h2], ⟨g0, hoa, fun h => absurd h (by decide)⟩, fun b e hb _ _ => hb⟩) (by omega) (by omega) dL_name_22
      · have hE : E = "java/lang/IllegalStateException" := hE.trans (by first | rfl | (rw [h1, h2]; rfl) | (rw [h1]; rfl))
        subst hE
        refine vx_catch (name := "java/lang/IllegalStateException") hown [⟨0, 12, 15, 13⟩, ⟨0, 12, 19, 15⟩] ⟨0, 12, 23, 21⟩ [] (htab.trans rfl) (List.forall_mem_cons.mpr ⟨Or.inr ⟨by decide, "java/lang/IndexOutOfBoundsException", hts (.classLink RL 13 "java/lang/IndexOutOfBoundsException") (by decide +kernel), hZ.2.2.2.2.2.1 ("java/lang/IllegalStateException", "java/lang/IndexOutOfBoundsException") (by decide)⟩, List.forall_mem_cons.mpr ⟨Or.inr ⟨by decide, "java/lang/IllegalArgumentException", hts (.classLink RL 15 "java/lang/IllegalArgumentException") (by decide +kernel), hZ.2.2.2.2.2.1 ("java/lang/IllegalStateException", "java/lang/IllegalArgumentException") (by decide)⟩, fun _ h => absurd h List.not_mem_nil⟩⟩) rfl (by decide) (hts (.classLink RL 21 "java/lang/IllegalStateException") (by decide +kernel)) (va_Nw.use rfl (hZ.2.2.2.2.1 ("java/lang/IllegalStateException", "java/lang/IllegalStateException") (by decide))) hce hcv hcl9 ?_
        refine lv_astore (lv' := [(5, .ref q9), (0, .ref x), (1, .int si), (2, .int kd), (3, .int ky), (4, .ref oa)]) hx hb dL_name_23 hl (by decide) rfl (fun ls hl => ?_)
        refine lv_iconst (v := 3) hx hb dL_name_25 (by decide) ?_
        exact m_iret X hK hw hS (⟨by simp [h1, h2], ⟨g0, hoa, fun h => absurd h (by decide)⟩, fun b e hb _ _ => hb⟩) (by omega) (by omega) dL_name_26
  exact hp.elim
set_option maxHeartbeats 4000000 in
set_option maxRecDepth 100000 in
theorem c_L_reference_0 (l : Launch) (G : gG) (dce sz : Nat) (M : gM) (hlt : l.stackTraces = false) (x : Nat) (ad : Nat → Nat) (hc : cS0 G dce M x ad) (oa : Nat) (g0 : Nat → Int64) (hoa : M oa = some (.inl (G.2 2, 1, .inr (.inl g0)))) (si kd ky : Int32) : mI l yL_reference wsL_reference ({ frames := 8, cells := 3, slots := 18, locals := 128 }) G dce sz M [.ref x, .int si, .int kd, .int ky, .ref oa] (fun k M' => k = (if sOK si then (if kOK kd then (3 : Int32) else 2) else 1) ∧ (∃ g, M' oa = some (.inl (G.2 2, 1, .inr (.inl g))) ∧ (k = 0 → g 0 = 0)) ∧ ∀ b e, M b = some e → b ≠ oa → (∀ fs, e ≠ .inr (0, fs)) → M' b = some e) (3) (18) := by
  have hX9 := hc.1
  refine wMetW (Qc := QI G _) (cc := cL_reference) (maxL := 6) (ret := (some .int)) (hh := [(0, 12, 15, 13), (0, 12, 19, 15), (0, 12, 23, 21)]) (by decide) rfl (Nat.le_of_ble_eq_true rfl) ?_
  intro p e s m below meth c A ls X htab hnm hw hK hZ hA hS hsz eA hl
  obtain ⟨hx, hb, hr, hts, hown, hlk, hml⟩ := id X
  have hl : lv_has ls 6 [(0, .ref x), (1, .int si), (2, .int kd), (3, .int ky), (4, .ref oa)] := hl
  refine lv_aload hx hb dL_reference_0 (lv_at hl 4 rfl) ?_
  refine lv_iconst (v := 0) hx hb dL_reference_2 (by decide) ?_
  refine lv_aload_n hx hb dL_reference_3 rfl (lv_at hl 0 rfl) ?_
  refine lv_iload_n hx hb dL_reference_4 rfl (lv_at hl 1 rfl) ?_
  refine lv_iload_n hx hb dL_reference_5 rfl (lv_at hl 2 rfl) ?_
  refine lv_iload_n hx hb dL_reference_6 rfl (lv_at hl 3 rfl) ?_
  refine x_callVi X (ci := 7) rfl hX9 hK hw hZ hS hA (As := [.int si, .int kd, .int ky]) (rest := [.int 0, .ref oa]) (c_X6_reference_0 l G dce _ M hlt x ad hc si kd ky) (cwV 3 hts gL_reference_X6_reference rfl rfl rfl (by decide +kernel) ⟨Nat.le_of_ble_eq_true rfl, Nat.le_of_ble_eq_true rfl⟩) rfl hl.1 rfl (Nat.le_of_ble_eq_true rfl) dL_reference_7 (Nat.le_of_ble_eq_true rfl) (Nat.le_of_ble_eq_true rfl) (fun E ce q9 M1 H locs hp hw hS hz hk hce hcv hcl9 => ?_) (fun r2 M1 H locs hp hw hS hz hk => ?_)
  · have hM9 := hp.2
    rw [hM9] at hw
    have hE := hp.1
    cases h1 : sOK si
    · have hE : E = "java/lang/IndexOutOfBoundsException" := hE.trans (by first | rfl | (rw [h1]; rfl) | (rw [h1]; rfl))
      subst hE
      refine vx_catch (name := "java/lang/IndexOutOfBoundsException") hown [] ⟨0, 12, 15, 13⟩ [⟨0, 12, 19, 15⟩, ⟨0, 12, 23, 21⟩] (htab.trans rfl) (fun _ h => absurd h List.not_mem_nil) rfl (by decide) (hts (.classLink RL 13 "java/lang/IndexOutOfBoundsException") (by decide +kernel)) (va_Nw.use rfl (hZ.2.2.2.2.1 ("java/lang/IndexOutOfBoundsException", "java/lang/IndexOutOfBoundsException") (by decide))) hce hcv hcl9 ?_
      refine lv_astore (lv' := [(5, .ref q9), (0, .ref x), (1, .int si), (2, .int kd), (3, .int ky), (4, .ref oa)]) hx hb dL_reference_15 hl (by decide) rfl (fun ls hl => ?_)
      refine lv_iconst (v := 1) hx hb dL_reference_17 (by decide) ?_
      exact m_iret X hK hw hS (⟨by simp [h1], ⟨g0, hoa, fun h => absurd h (by decide)⟩, fun b e hb _ _ => hb⟩) (by omega) (by omega) dL_reference_18
    · cases h2 : kOK kd
      · have hE : E = "java/lang/IllegalArgumentException" := hE.trans (by first | rfl | (rw [h1, h2]; rfl) | (rw [h1]; rfl))
        subst hE
        refine vx_catch (name := "java/lang/IllegalArgumentException") hown [⟨0, 12, 15, 13⟩] ⟨0, 12, 19, 15⟩ [⟨0, 12, 23, 21⟩] (htab.trans rfl) (List.forall_mem_cons.mpr ⟨Or.inr ⟨by decide, "java/lang/IndexOutOfBoundsException", hts (.classLink RL 13 "java/lang/IndexOutOfBoundsException") (by decide +kernel), hZ.2.2.2.2.2.1 ("java/lang/IllegalArgumentException", "java/lang/IndexOutOfBoundsException") (by decide)⟩, fun _ h => absurd h List.not_mem_nil⟩) rfl (by decide) (hts (.classLink RL 15 "java/lang/IllegalArgumentException") (by decide +kernel)) (va_Nw.use rfl (hZ.2.2.2.2.1 ("java/lang/IllegalArgumentException", "java/lang/IllegalArgumentException") (by decide))) hce hcv hcl9 ?_
        refine lv_astore (lv' := [(5, .ref q9), (0, .ref x), (1, .int si), (2, .int kd), (3, .int ky), (4, .ref oa)]) hx hb dL_reference_19 hl (by decide) rfl (fun ls hl => ?_)
        refine lv_iconst (v := 2) hx hb dL_reference_21 (by decide) ?_
        exact m_iret X hK hw hS (⟨by simp [h1, h2], ⟨g0, hoa, fun h => absurd h (by decide)⟩, fun b e hb _ _ => hb⟩) (by omega) (by omega) dL_reference_22
      · have hE : E = "java/lang/IllegalStateException" := hE.trans (by first | rfl | (rw [h1, h2]; rfl) | (rw [h1]; rfl))
        subst hE
        refine vx_catch (name := "java/lang/IllegalStateException") hown [⟨0, 12, 15, 13⟩, ⟨0, 12, 19, 15⟩] ⟨0, 12, 23, 21⟩ [] (htab.trans rfl) (List.forall_mem_cons.mpr ⟨Or.inr ⟨by decide, "java/lang/IndexOutOfBoundsException", hts (.classLink RL 13 "java/lang/IndexOutOfBoundsException") (by decide +kernel), hZ.2.2.2.2.2.1 ("java/lang/IllegalStateException", "java/lang/IndexOutOfBoundsException") (by decide)⟩, List.forall_mem_cons.mpr ⟨Or.inr ⟨by decide, "java/lang/IllegalArgumentException", hts (.classLink RL 15 "java/lang/IllegalArgumentException") (by decide +kernel), hZ.2.2.2.2.2.1 ("java/lang/IllegalStateException", "java/lang/IllegalArgumentException") (by decide)⟩, fun _ h => absurd h List.not_mem_nil⟩⟩) rfl (by decide) (hts (.classLink RL 21 "java/lang/IllegalStateException") (by decide +kernel)) (va_Nw.use rfl (hZ.2.2.2.2.1 ("java/lang/IllegalStateException", "java/lang/IllegalStateException") (by decide))) hce hcv hcl9 ?_
        refine lv_astore (lv' := [(5, .ref q9), (0, .ref x), (1, .int si), (2, .int kd), (3, .int ky), (4, .ref oa)]) hx hb dL_reference_23 hl (by decide) rfl (fun ls hl => ?_)
        refine lv_iconst (v := 3) hx hb dL_reference_25 (by decide) ?_
        exact m_iret X hK hw hS (⟨by simp [h1, h2], ⟨g0, hoa, fun h => absurd h (by decide)⟩, fun b e hb _ _ => hb⟩) (by omega) (by omega) dL_reference_26
  exact hp.elim
set_option maxHeartbeats 4000000 in
set_option maxRecDepth 100000 in
theorem c_L_setName_0 (l : Launch) (G : gG) (dce sz : Nat) (M : gM) (hlt : l.stackTraces = false) (x : Nat) (ad : Nat → Nat) (hc : cS0 G dce M x ad) (si kd ky nm : Int32) : mI l yL_setName wsL_setName ({ frames := 8, cells := 4, slots := 24, locals := 129 }) G dce sz M [.ref x, .int si, .int kd, .int ky, .int nm] (fun k M' => k = (if sOK si then (if kOK kd && nOK nm then (3 : Int32) else 2) else 1) ∧ M' = M) (4) (24) := by
  have hX9 := hc.1
  refine wMetW (Qc := QI G _) (cc := cL_setName) (maxL := 6) (ret := (some .int)) (hh := [(0, 9, 12, 13), (0, 9, 16, 15), (0, 9, 20, 21)]) (by decide) rfl (Nat.le_of_ble_eq_true rfl) ?_
  intro p e s m below meth c A ls X htab hnm hw hK hZ hA hS hsz eA hl
  obtain ⟨hx, hb, hr, hts, hown, hlk, hml⟩ := id X
  have hl : lv_has ls 6 [(0, .ref x), (1, .int si), (2, .int kd), (3, .int ky), (4, .int nm)] := hl
  refine lv_aload_n hx hb dL_setName_0 rfl (lv_at hl 0 rfl) ?_
  refine lv_iload_n hx hb dL_setName_1 rfl (lv_at hl 1 rfl) ?_
  refine lv_iload_n hx hb dL_setName_2 rfl (lv_at hl 2 rfl) ?_
  refine lv_iload_n hx hb dL_setName_3 rfl (lv_at hl 3 rfl) ?_
  refine lv_iload hx hb dL_setName_4 (lv_at hl 4 rfl) ?_
  refine x_callVv X (ci := 7) rfl hX9 hK hw hZ hS hA (As := [.int si, .int kd, .int ky, .int nm]) (rest := []) (c_X6_setName_0 l G dce _ M hlt x ad hc si kd ky nm) (cwV 4 hts gL_setName_X6_setName rfl rfl rfl (by decide +kernel) ⟨Nat.le_of_ble_eq_true rfl, Nat.le_of_ble_eq_true rfl⟩) rfl hl.1 rfl (Nat.le_of_ble_eq_true rfl) dL_setName_6 (Nat.le_of_ble_eq_true rfl) (Nat.le_of_ble_eq_true rfl) (fun E ce q9 M1 H locs hp hw hS hz hk hce hcv hcl9 => ?_) (fun M1 H locs hp hw hS hz hk => ?_)
  · have hM9 := hp.2
    rw [hM9] at hw
    have hE := hp.1
    cases h1 : sOK si
    · have hE : E = "java/lang/IndexOutOfBoundsException" := hE.trans (by first | rfl | (rw [h1]; rfl) | (rw [h1]; rfl))
      subst hE
      refine vx_catch (name := "java/lang/IndexOutOfBoundsException") hown [] ⟨0, 9, 12, 13⟩ [⟨0, 9, 16, 15⟩, ⟨0, 9, 20, 21⟩] (htab.trans rfl) (fun _ h => absurd h List.not_mem_nil) rfl (by decide) (hts (.classLink RL 13 "java/lang/IndexOutOfBoundsException") (by decide +kernel)) (va_Nw.use rfl (hZ.2.2.2.2.1 ("java/lang/IndexOutOfBoundsException", "java/lang/IndexOutOfBoundsException") (by decide))) hce hcv hcl9 ?_
      refine lv_astore (lv' := [(5, .ref q9), (0, .ref x), (1, .int si), (2, .int kd), (3, .int ky), (4, .int nm)]) hx hb dL_setName_12 hl (by decide) rfl (fun ls hl => ?_)
      refine lv_iconst (v := 1) hx hb dL_setName_14 (by decide) ?_
      exact m_iret X hK hw hS (⟨by simp [h1], rfl⟩) (by omega) (by omega) dL_setName_15
    · cases h2 : kOK kd && nOK nm
      · have hE : E = "java/lang/IllegalArgumentException" := hE.trans (by first | rfl | (rw [h1, h2]; rfl) | (rw [h1]; rfl))
        subst hE
        refine vx_catch (name := "java/lang/IllegalArgumentException") hown [⟨0, 9, 12, 13⟩] ⟨0, 9, 16, 15⟩ [⟨0, 9, 20, 21⟩] (htab.trans rfl) (List.forall_mem_cons.mpr ⟨Or.inr ⟨by decide, "java/lang/IndexOutOfBoundsException", hts (.classLink RL 13 "java/lang/IndexOutOfBoundsException") (by decide +kernel), hZ.2.2.2.2.2.1 ("java/lang/IllegalArgumentException", "java/lang/IndexOutOfBoundsException") (by decide)⟩, fun _ h => absurd h List.not_mem_nil⟩) rfl (by decide) (hts (.classLink RL 15 "java/lang/IllegalArgumentException") (by decide +kernel)) (va_Nw.use rfl (hZ.2.2.2.2.1 ("java/lang/IllegalArgumentException", "java/lang/IllegalArgumentException") (by decide))) hce hcv hcl9 ?_
        refine lv_astore (lv' := [(5, .ref q9), (0, .ref x), (1, .int si), (2, .int kd), (3, .int ky), (4, .int nm)]) hx hb dL_setName_16 hl (by decide) rfl (fun ls hl => ?_)
        refine lv_iconst (v := 2) hx hb dL_setName_18 (by decide) ?_
        exact m_iret X hK hw hS (⟨by simp [h1, h2], rfl⟩) (by omega) (by omega) dL_setName_19
      · have hE : E = "java/lang/IllegalStateException" := hE.trans (by first | rfl | (rw [h1, h2]; rfl) | (rw [h1]; rfl))
        subst hE
        refine vx_catch (name := "java/lang/IllegalStateException") hown [⟨0, 9, 12, 13⟩, ⟨0, 9, 16, 15⟩] ⟨0, 9, 20, 21⟩ [] (htab.trans rfl) (List.forall_mem_cons.mpr ⟨Or.inr ⟨by decide, "java/lang/IndexOutOfBoundsException", hts (.classLink RL 13 "java/lang/IndexOutOfBoundsException") (by decide +kernel), hZ.2.2.2.2.2.1 ("java/lang/IllegalStateException", "java/lang/IndexOutOfBoundsException") (by decide)⟩, List.forall_mem_cons.mpr ⟨Or.inr ⟨by decide, "java/lang/IllegalArgumentException", hts (.classLink RL 15 "java/lang/IllegalArgumentException") (by decide +kernel), hZ.2.2.2.2.2.1 ("java/lang/IllegalStateException", "java/lang/IllegalArgumentException") (by decide)⟩, fun _ h => absurd h List.not_mem_nil⟩⟩) rfl (by decide) (hts (.classLink RL 21 "java/lang/IllegalStateException") (by decide +kernel)) (va_Nw.use rfl (hZ.2.2.2.2.1 ("java/lang/IllegalStateException", "java/lang/IllegalStateException") (by decide))) hce hcv hcl9 ?_
        refine lv_astore (lv' := [(5, .ref q9), (0, .ref x), (1, .int si), (2, .int kd), (3, .int ky), (4, .int nm)]) hx hb dL_setName_20 hl (by decide) rfl (fun ls hl => ?_)
        refine lv_iconst (v := 3) hx hb dL_setName_22 (by decide) ?_
        exact m_iret X hK hw hS (⟨by simp [h1, h2], rfl⟩) (by omega) (by omega) dL_setName_23
  exact hp.elim
set_option maxHeartbeats 4000000 in
set_option maxRecDepth 100000 in
theorem c_L_setReference_0 (l : Launch) (G : gG) (dce sz : Nat) (M : gM) (hlt : l.stackTraces = false) (x : Nat) (ad : Nat → Nat) (hc : cS0 G dce M x ad) (si kd ky rf : Int32) : mI l yL_setReference wsL_setReference ({ frames := 8, cells := 3, slots := 18, locals := 129 }) G dce sz M [.ref x, .int si, .int kd, .int ky, .int rf] (fun k M' => k = (if sOK si then (if kOK kd && !(decide (kd = 1) && decide (rf = -1)) then (3 : Int32) else 2) else 1) ∧ M' = M) (3) (18) := by
  have hX9 := hc.1
  refine wMetW (Qc := QI G _) (cc := cL_setReference) (maxL := 6) (ret := (some .int)) (hh := [(0, 9, 12, 13), (0, 9, 16, 15), (0, 9, 20, 21)]) (by decide) rfl (Nat.le_of_ble_eq_true rfl) ?_
  intro p e s m below meth c A ls X htab hnm hw hK hZ hA hS hsz eA hl
  obtain ⟨hx, hb, hr, hts, hown, hlk, hml⟩ := id X
  have hl : lv_has ls 6 [(0, .ref x), (1, .int si), (2, .int kd), (3, .int ky), (4, .int rf)] := hl
  refine lv_aload_n hx hb dL_setReference_0 rfl (lv_at hl 0 rfl) ?_
  refine lv_iload_n hx hb dL_setReference_1 rfl (lv_at hl 1 rfl) ?_
  refine lv_iload_n hx hb dL_setReference_2 rfl (lv_at hl 2 rfl) ?_
  refine lv_iload_n hx hb dL_setReference_3 rfl (lv_at hl 3 rfl) ?_
  refine lv_iload hx hb dL_setReference_4 (lv_at hl 4 rfl) ?_
  refine x_callVv X (ci := 7) rfl hX9 hK hw hZ hS hA (As := [.int si, .int kd, .int ky, .int rf]) (rest := []) (c_X6_setReference_0 l G dce _ M hlt x ad hc si kd ky rf) (cwV 4 hts gL_setReference_X6_setReference rfl rfl rfl (by decide +kernel) ⟨Nat.le_of_ble_eq_true rfl, Nat.le_of_ble_eq_true rfl⟩) rfl hl.1 rfl (Nat.le_of_ble_eq_true rfl) dL_setReference_6 (Nat.le_of_ble_eq_true rfl) (Nat.le_of_ble_eq_true rfl) (fun E ce q9 M1 H locs hp hw hS hz hk hce hcv hcl9 => ?_) (fun M1 H locs hp hw hS hz hk => ?_)
  · have hM9 := hp.2
    rw [hM9] at hw
    have hE := hp.1
    cases h1 : sOK si
    · have hE : E = "java/lang/IndexOutOfBoundsException" := hE.trans (by first | rfl | (rw [h1]; rfl) | (rw [h1]; rfl))
      subst hE
      refine vx_catch (name := "java/lang/IndexOutOfBoundsException") hown [] ⟨0, 9, 12, 13⟩ [⟨0, 9, 16, 15⟩, ⟨0, 9, 20, 21⟩] (htab.trans rfl) (fun _ h => absurd h List.not_mem_nil) rfl (by decide) (hts (.classLink RL 13 "java/lang/IndexOutOfBoundsException") (by decide +kernel)) (va_Nw.use rfl (hZ.2.2.2.2.1 ("java/lang/IndexOutOfBoundsException", "java/lang/IndexOutOfBoundsException") (by decide))) hce hcv hcl9 ?_
      refine lv_astore (lv' := [(5, .ref q9), (0, .ref x), (1, .int si), (2, .int kd), (3, .int ky), (4, .int rf)]) hx hb dL_setReference_12 hl (by decide) rfl (fun ls hl => ?_)
      refine lv_iconst (v := 1) hx hb dL_setReference_14 (by decide) ?_
      exact m_iret X hK hw hS (⟨by simp [h1], rfl⟩) (by omega) (by omega) dL_setReference_15
    · cases h2 : kOK kd && !(decide (kd = 1) && decide (rf = -1))
      · have hE : E = "java/lang/IllegalArgumentException" := hE.trans (by first | rfl | (rw [h1, h2]; rfl) | (rw [h1]; rfl))
        subst hE
        refine vx_catch (name := "java/lang/IllegalArgumentException") hown [⟨0, 9, 12, 13⟩] ⟨0, 9, 16, 15⟩ [⟨0, 9, 20, 21⟩] (htab.trans rfl) (List.forall_mem_cons.mpr ⟨Or.inr ⟨by decide, "java/lang/IndexOutOfBoundsException", hts (.classLink RL 13 "java/lang/IndexOutOfBoundsException") (by decide +kernel), hZ.2.2.2.2.2.1 ("java/lang/IllegalArgumentException", "java/lang/IndexOutOfBoundsException") (by decide)⟩, fun _ h => absurd h List.not_mem_nil⟩) rfl (by decide) (hts (.classLink RL 15 "java/lang/IllegalArgumentException") (by decide +kernel)) (va_Nw.use rfl (hZ.2.2.2.2.1 ("java/lang/IllegalArgumentException", "java/lang/IllegalArgumentException") (by decide))) hce hcv hcl9 ?_
        refine lv_astore (lv' := [(5, .ref q9), (0, .ref x), (1, .int si), (2, .int kd), (3, .int ky), (4, .int rf)]) hx hb dL_setReference_16 hl (by decide) rfl (fun ls hl => ?_)
        refine lv_iconst (v := 2) hx hb dL_setReference_18 (by decide) ?_
        exact m_iret X hK hw hS (⟨by simp [h1, h2], rfl⟩) (by omega) (by omega) dL_setReference_19
      · have hE : E = "java/lang/IllegalStateException" := hE.trans (by first | rfl | (rw [h1, h2]; rfl) | (rw [h1]; rfl))
        subst hE
        refine vx_catch (name := "java/lang/IllegalStateException") hown [⟨0, 9, 12, 13⟩, ⟨0, 9, 16, 15⟩] ⟨0, 9, 20, 21⟩ [] (htab.trans rfl) (List.forall_mem_cons.mpr ⟨Or.inr ⟨by decide, "java/lang/IndexOutOfBoundsException", hts (.classLink RL 13 "java/lang/IndexOutOfBoundsException") (by decide +kernel), hZ.2.2.2.2.2.1 ("java/lang/IllegalStateException", "java/lang/IndexOutOfBoundsException") (by decide)⟩, List.forall_mem_cons.mpr ⟨Or.inr ⟨by decide, "java/lang/IllegalArgumentException", hts (.classLink RL 15 "java/lang/IllegalArgumentException") (by decide +kernel), hZ.2.2.2.2.2.1 ("java/lang/IllegalStateException", "java/lang/IllegalArgumentException") (by decide)⟩, fun _ h => absurd h List.not_mem_nil⟩⟩) rfl (by decide) (hts (.classLink RL 21 "java/lang/IllegalStateException") (by decide +kernel)) (va_Nw.use rfl (hZ.2.2.2.2.1 ("java/lang/IllegalStateException", "java/lang/IllegalStateException") (by decide))) hce hcv hcl9 ?_
        refine lv_astore (lv' := [(5, .ref q9), (0, .ref x), (1, .int si), (2, .int kd), (3, .int ky), (4, .int rf)]) hx hb dL_setReference_20 hl (by decide) rfl (fun ls hl => ?_)
        refine lv_iconst (v := 3) hx hb dL_setReference_22 (by decide) ?_
        exact m_iret X hK hw hS (⟨by simp [h1, h2], rfl⟩) (by omega) (by omega) dL_setReference_23
  exact hp.elim
set_option maxHeartbeats 4000000 in
set_option maxRecDepth 100000 in
theorem c_L_makeBook_0 (l : Launch) (G : gG) (dce sz : Nat) (M : gM) (hlt : l.stackTraces = false) (x : Nat) (ad : Nat → Nat) (hc : cS0 G dce M x ad) (oa : Nat) (g0 : Nat → Int64) (hoa : M oa = some (.inl (G.2 2, 1, .inr (.inl g0)))) (si nm au : Int32) : mI l yL_makeBook wsL_makeBook ({ frames := 8, cells := 3, slots := 18, locals := 128 }) G dce sz M [.ref x, .int si, .int nm, .int au, .ref oa] (fun k M' => k = (if sOK si then (if nOK nm then (3 : Int32) else 2) else 1) ∧ (∃ g, M' oa = some (.inl (G.2 2, 1, .inr (.inl g))) ∧ (k = 0 → g 0 = 0)) ∧ ∀ b e, M b = some e → b ≠ oa → (∀ fs, e ≠ .inr (0, fs)) → M' b = some e) (3) (18) := by
  have hX9 := hc.1
  refine wMetW (Qc := QI G _) (cc := cL_makeBook) (maxL := 6) (ret := (some .int)) (hh := [(0, 12, 15, 13), (0, 12, 19, 15), (0, 12, 23, 21)]) (by decide) rfl (Nat.le_of_ble_eq_true rfl) ?_
  intro p e s m below meth c A ls X htab hnm hw hK hZ hA hS hsz eA hl
  obtain ⟨hx, hb, hr, hts, hown, hlk, hml⟩ := id X
  have hl : lv_has ls 6 [(0, .ref x), (1, .int si), (2, .int nm), (3, .int au), (4, .ref oa)] := hl
  refine lv_aload hx hb dL_makeBook_0 (lv_at hl 4 rfl) ?_
  refine lv_iconst (v := 0) hx hb dL_makeBook_2 (by decide) ?_
  refine lv_aload_n hx hb dL_makeBook_3 rfl (lv_at hl 0 rfl) ?_
  refine lv_iload_n hx hb dL_makeBook_4 rfl (lv_at hl 1 rfl) ?_
  refine lv_iload_n hx hb dL_makeBook_5 rfl (lv_at hl 2 rfl) ?_
  refine lv_iload_n hx hb dL_makeBook_6 rfl (lv_at hl 3 rfl) ?_
  refine x_callVi X (ci := 7) rfl hX9 hK hw hZ hS hA (As := [.int si, .int nm, .int au]) (rest := [.int 0, .ref oa]) (c_X6_makeBook_0 l G dce _ M hlt x ad hc si nm au) (cwV 3 hts gL_makeBook_X6_makeBook rfl rfl rfl (by decide +kernel) ⟨Nat.le_of_ble_eq_true rfl, Nat.le_of_ble_eq_true rfl⟩) rfl hl.1 rfl (Nat.le_of_ble_eq_true rfl) dL_makeBook_7 (Nat.le_of_ble_eq_true rfl) (Nat.le_of_ble_eq_true rfl) (fun E ce q9 M1 H locs hp hw hS hz hk hce hcv hcl9 => ?_) (fun r2 M1 H locs hp hw hS hz hk => ?_)
  · have hM9 := hp.2
    rw [hM9] at hw
    have hE := hp.1
    cases h1 : sOK si
    · have hE : E = "java/lang/IndexOutOfBoundsException" := hE.trans (by first | rfl | (rw [h1]; rfl) | (rw [h1]; rfl))
      subst hE
      refine vx_catch (name := "java/lang/IndexOutOfBoundsException") hown [] ⟨0, 12, 15, 13⟩ [⟨0, 12, 19, 15⟩, ⟨0, 12, 23, 21⟩] (htab.trans rfl) (fun _ h => absurd h List.not_mem_nil) rfl (by decide) (hts (.classLink RL 13 "java/lang/IndexOutOfBoundsException") (by decide +kernel)) (va_Nw.use rfl (hZ.2.2.2.2.1 ("java/lang/IndexOutOfBoundsException", "java/lang/IndexOutOfBoundsException") (by decide))) hce hcv hcl9 ?_
      refine lv_astore (lv' := [(5, .ref q9), (0, .ref x), (1, .int si), (2, .int nm), (3, .int au), (4, .ref oa)]) hx hb dL_makeBook_15 hl (by decide) rfl (fun ls hl => ?_)
      refine lv_iconst (v := 1) hx hb dL_makeBook_17 (by decide) ?_
      exact m_iret X hK hw hS (⟨by simp [h1], ⟨g0, hoa, fun h => absurd h (by decide)⟩, fun b e hb _ _ => hb⟩) (by omega) (by omega) dL_makeBook_18
    · cases h2 : nOK nm
      · have hE : E = "java/lang/IllegalArgumentException" := hE.trans (by first | rfl | (rw [h1, h2]; rfl) | (rw [h1]; rfl))
        subst hE
        refine vx_catch (name := "java/lang/IllegalArgumentException") hown [⟨0, 12, 15, 13⟩] ⟨0, 12, 19, 15⟩ [⟨0, 12, 23, 21⟩] (htab.trans rfl) (List.forall_mem_cons.mpr ⟨Or.inr ⟨by decide, "java/lang/IndexOutOfBoundsException", hts (.classLink RL 13 "java/lang/IndexOutOfBoundsException") (by decide +kernel), hZ.2.2.2.2.2.1 ("java/lang/IllegalArgumentException", "java/lang/IndexOutOfBoundsException") (by decide)⟩, fun _ h => absurd h List.not_mem_nil⟩) rfl (by decide) (hts (.classLink RL 15 "java/lang/IllegalArgumentException") (by decide +kernel)) (va_Nw.use rfl (hZ.2.2.2.2.1 ("java/lang/IllegalArgumentException", "java/lang/IllegalArgumentException") (by decide))) hce hcv hcl9 ?_
        refine lv_astore (lv' := [(5, .ref q9), (0, .ref x), (1, .int si), (2, .int nm), (3, .int au), (4, .ref oa)]) hx hb dL_makeBook_19 hl (by decide) rfl (fun ls hl => ?_)
        refine lv_iconst (v := 2) hx hb dL_makeBook_21 (by decide) ?_
        exact m_iret X hK hw hS (⟨by simp [h1, h2], ⟨g0, hoa, fun h => absurd h (by decide)⟩, fun b e hb _ _ => hb⟩) (by omega) (by omega) dL_makeBook_22
      · have hE : E = "java/lang/IllegalStateException" := hE.trans (by first | rfl | (rw [h1, h2]; rfl) | (rw [h1]; rfl))
        subst hE
        refine vx_catch (name := "java/lang/IllegalStateException") hown [⟨0, 12, 15, 13⟩, ⟨0, 12, 19, 15⟩] ⟨0, 12, 23, 21⟩ [] (htab.trans rfl) (List.forall_mem_cons.mpr ⟨Or.inr ⟨by decide, "java/lang/IndexOutOfBoundsException", hts (.classLink RL 13 "java/lang/IndexOutOfBoundsException") (by decide +kernel), hZ.2.2.2.2.2.1 ("java/lang/IllegalStateException", "java/lang/IndexOutOfBoundsException") (by decide)⟩, List.forall_mem_cons.mpr ⟨Or.inr ⟨by decide, "java/lang/IllegalArgumentException", hts (.classLink RL 15 "java/lang/IllegalArgumentException") (by decide +kernel), hZ.2.2.2.2.2.1 ("java/lang/IllegalStateException", "java/lang/IllegalArgumentException") (by decide)⟩, fun _ h => absurd h List.not_mem_nil⟩⟩) rfl (by decide) (hts (.classLink RL 21 "java/lang/IllegalStateException") (by decide +kernel)) (va_Nw.use rfl (hZ.2.2.2.2.1 ("java/lang/IllegalStateException", "java/lang/IllegalStateException") (by decide))) hce hcv hcl9 ?_
        refine lv_astore (lv' := [(5, .ref q9), (0, .ref x), (1, .int si), (2, .int nm), (3, .int au), (4, .ref oa)]) hx hb dL_makeBook_23 hl (by decide) rfl (fun ls hl => ?_)
        refine lv_iconst (v := 3) hx hb dL_makeBook_25 (by decide) ?_
        exact m_iret X hK hw hS (⟨by simp [h1, h2], ⟨g0, hoa, fun h => absurd h (by decide)⟩, fun b e hb _ _ => hb⟩) (by omega) (by omega) dL_makeBook_26
  exact hp.elim
set_option maxHeartbeats 4000000 in
set_option maxRecDepth 100000 in
theorem c_L_makeAuthor_0 (l : Launch) (G : gG) (dce sz : Nat) (M : gM) (hlt : l.stackTraces = false) (x : Nat) (ad : Nat → Nat) (hc : cS0 G dce M x ad) (oa : Nat) (g0 : Nat → Int64) (hoa : M oa = some (.inl (G.2 2, 1, .inr (.inl g0)))) (si nm : Int32) : mI l yL_makeAuthor wsL_makeAuthor ({ frames := 8, cells := 10, slots := 80, locals := 172 }) G dce sz M [.ref x, .int si, .int nm, .ref oa] (fun k M' => k = (if sOK si then (if nOK nm then (0 : Int32) else 2) else 1) ∧ (∃ g, M' oa = some (.inl (G.2 2, 1, .inr (.inl g))) ∧ (k = 0 → g 0 = 0)) ∧ ∀ b e, M b = some e → b ≠ oa → (∀ fs, e ≠ .inr (0, fs)) → M' b = some e) (10) (80) := by
  have hX9 := hc.1
  refine wMetW (Qc := QI G _) (cc := cL_makeAuthor) (maxL := 5) (ret := (some .int)) (hh := [(0, 10, 13, 13), (0, 10, 17, 15)]) (by decide) rfl (Nat.le_of_ble_eq_true rfl) ?_
  intro p e s m below meth c A ls X htab hnm hw hK hZ hA hS hsz eA hl
  obtain ⟨hx, hb, hr, hts, hown, hlk, hml⟩ := id X
  have hl : lv_has ls 5 [(0, .ref x), (1, .int si), (2, .int nm), (3, .ref oa)] := hl
  refine lv_aload_n hx hb dL_makeAuthor_0 rfl (lv_at hl 3 rfl) ?_
  refine lv_iconst (v := 0) hx hb dL_makeAuthor_1 (by decide) ?_
  refine lv_aload_n hx hb dL_makeAuthor_2 rfl (lv_at hl 0 rfl) ?_
  refine lv_iload_n hx hb dL_makeAuthor_3 rfl (lv_at hl 1 rfl) ?_
  refine lv_iload_n hx hb dL_makeAuthor_4 rfl (lv_at hl 2 rfl) ?_
  refine x_callVi X (ci := 7) rfl hX9 hK hw hZ hS hA (As := [.int si, .int nm]) (rest := [.int 0, .ref oa]) (c_X6_makeAuthor_0 l G dce _ M hlt x ad hc si nm) (cwV 2 hts gL_makeAuthor_X6_makeAuthor rfl rfl rfl (by decide +kernel) ⟨Nat.le_of_ble_eq_true rfl, Nat.le_of_ble_eq_true rfl⟩) rfl hl.1 rfl (Nat.le_of_ble_eq_true rfl) dL_makeAuthor_5 (Nat.le_of_ble_eq_true rfl) (Nat.le_of_ble_eq_true rfl) (fun E ce q9 M1 H locs hp hw hS hz hk hce hcv hcl9 => ?_) (fun r2 M1 H locs hp hw hS hz hk => ?_)
  · have hM9 := hp.2.2
    rw [hM9] at hw
    have hE := hp.1
    cases h1 : sOK si
    · have hE : E = "java/lang/IndexOutOfBoundsException" := hE.trans (by first | rfl | (rw [h1]; rfl) | (rw [h1]; rfl))
      subst hE
      refine vx_catch (name := "java/lang/IndexOutOfBoundsException") hown [] ⟨0, 10, 13, 13⟩ [⟨0, 10, 17, 15⟩] (htab.trans rfl) (fun _ h => absurd h List.not_mem_nil) rfl (by decide) (hts (.classLink RL 13 "java/lang/IndexOutOfBoundsException") (by decide +kernel)) (va_Nw.use rfl (hZ.2.2.2.2.1 ("java/lang/IndexOutOfBoundsException", "java/lang/IndexOutOfBoundsException") (by decide))) hce hcv hcl9 ?_
      refine lv_astore (lv' := [(4, .ref q9), (0, .ref x), (1, .int si), (2, .int nm), (3, .ref oa)]) hx hb dL_makeAuthor_13 hl (by decide) rfl (fun ls hl => ?_)
      refine lv_iconst (v := 1) hx hb dL_makeAuthor_15 (by decide) ?_
      exact m_iret X hK hw hS (⟨by simp [h1], ⟨g0, hoa, fun h => absurd h (by decide)⟩, fun b e hb _ _ => hb⟩) (by omega) (by omega) dL_makeAuthor_16
    · cases h2 : nOK nm
      · have hE : E = "java/lang/IllegalArgumentException" := hE.trans (by first | rfl | (rw [h1, h2]; rfl) | (rw [h1]; rfl))
        subst hE
        refine vx_catch (name := "java/lang/IllegalArgumentException") hown [⟨0, 10, 13, 13⟩] ⟨0, 10, 17, 15⟩ [] (htab.trans rfl) (List.forall_mem_cons.mpr ⟨Or.inr ⟨by decide, "java/lang/IndexOutOfBoundsException", hts (.classLink RL 13 "java/lang/IndexOutOfBoundsException") (by decide +kernel), hZ.2.2.2.2.2.1 ("java/lang/IllegalArgumentException", "java/lang/IndexOutOfBoundsException") (by decide)⟩, fun _ h => absurd h List.not_mem_nil⟩) rfl (by decide) (hts (.classLink RL 15 "java/lang/IllegalArgumentException") (by decide +kernel)) (va_Nw.use rfl (hZ.2.2.2.2.1 ("java/lang/IllegalArgumentException", "java/lang/IllegalArgumentException") (by decide))) hce hcv hcl9 ?_
        refine lv_astore (lv' := [(4, .ref q9), (0, .ref x), (1, .int si), (2, .int nm), (3, .ref oa)]) hx hb dL_makeAuthor_17 hl (by decide) rfl (fun ls hl => ?_)
        refine lv_iconst (v := 2) hx hb dL_makeAuthor_19 (by decide) ?_
        exact m_iret X hK hw hS (⟨by simp [h1, h2], ⟨g0, hoa, fun h => absurd h (by decide)⟩, fun b e hb _ _ => hb⟩) (by omega) (by omega) dL_makeAuthor_20
      · exact absurd hp.2.1 (by rw [h1, h2]; decide)
  have hcd := hp.2.1
  have hfr := hp.2.2
  have ho1 := hfr oa _ hoa (by simp)
  rw [hp.1]
  refine lv_i2l hx hb dL_makeAuthor_8 rfl ?_
  refine m_last X hK hw hS ho1 (i := 0) (by unfold vp_in; decide) dL_makeAuthor_9 (fun M3 H locs eM3 hw hS => ?_)
  refine lv_goto (tgt := 21) hx hb dL_makeAuthor_10 (by decide) ?_
  refine lv_iconst (v := 0) hx hb dL_makeAuthor_21 (by decide) ?_
  exact m_iret X hK hw hS (⟨by simp [hcd], ⟨_, by rw [eM3]; exact mu_s _ _ _, fun _ => by first | rfl | decide | simp [vp_updL]⟩, fun b e hb hne hl9 => by rw [eM3]; exact mu_g (hfr b e hb hl9) hne⟩) (by omega) (by omega) dL_makeAuthor_22
