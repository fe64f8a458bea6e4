section ROWS4
variable {p : Program} {l : Launch} {e : Env} {R : Room} {s : State} {m : MethodId} {args : Array Value} {below : List Frame} {meth : Method} {c : Code} {H : Heap} {locs : List Loc} {cells slots : Nat} {Q : State → Prop}
variable {cc : ByteArray} {pc nL : Nat} {ls : Array Slot} {rest st0 : List Value} {G : gG} {A : Nat → Prop} {M : gM} {ret : Option FieldType} {Ts : List Cond} {own : String}
theorem m_callSWi (X : cX p s m meth c cc nL ret Ts own args) {dce : Nat} {y : MethodName} {bytes : ByteArray} {maxL mc ms n index : Nat} {ret9 : Option FieldType} {hh : List (Nat × Nat × Nat × Nat)} {ws : List Cond} {rm : Room} {As : List Value} {post : Int32 → gM → Prop} (hK : wK G s) (hw : wd G A M H) (hZ : wZ dce A s s.heap) (hS : va_S A s.heap H locs) (hA : ∀ q : Nat, s.heap.size ≤ q → A q) (hM : Met l y ws rm (va_Pc As (wB G dce H.size M)) (QI G post (wA M H.size)) mc ms (wA M H.size)) (cw : vx_CSW R s args own index y bytes maxL ret9 hh ws rm mc ms n) (hn : As.length = n) (hsz : ls.size = nL) (hst : st0 = As.reverse ++ rest) (hW9 : (rest.map fun v => v.category).sum ≤ 8) (hdg : decode cc pc = .ok (.invokestatic index, 3)) (hcl : cells + mc ≤ R.cells) (hsl : slots + ms ≤ R.slots)
    (kk : ∀ (r : Int32) (M1 : gM) (H1 : Heap) (locs1 : List Loc), post r M1 → wd G A M1 H1 → va_S A s.heap H1 locs1 → W p l e R s m args below meth c H1 locs1 (cells + mc) (slots + ms) Q (F0 m (pc + 3) ls (.int r :: rest))) : W p l e R s m args below meth c H locs cells slots Q (F0 m pc ls st0) := by
  have hf9 := hw.free hS hA
  exact va_calli (vx_runSW (As := As) (rest := rest) ⟨X.1, X.2.1, X.2.2.2.2.2.2, X.2.2.2.2.1, X.2.2.2.1⟩ hM cw ⟨wB_blind, fun U hU hW => ⟨rfl, wB_at hK hw hZ hS hA hU hW⟩⟩ rfl hn hsz hst (by simpa [JFrame.monitorRoom] using hW9) hdg ⟨hcl, hsl⟩) hS (fun q _ h => hf9 q h) hf9 (fun r M1 t H1 locs1 ht hvm hp hB hz hk hS1 => kk r M1 H1 locs1 hp (by have h9 := hB.1; rw [ht] at h9; exact h9.weaken (fun q e hq => hf9 q (h9.in hq))) hS1)
end ROWS4
theorem mF_fr {G : gG} {M M1 : gM} {x oa : Nat} {ad : Nat → Nat} {th : Int32} {g : Nat → Int64} (h : mF G M x ad th) (ho : M oa = some (.inl (G.2 2, 1, .inr (.inl g)))) (f : ∀ b e, M b = some e → b ≠ oa → (∀ fs, e ≠ .inr (0, fs)) → M1 b = some e) : mF G M1 x ad th := by
  obtain ⟨hm, h1, m2, m3, m4, m5, m6, m7, m8, m9, m10, m11, m12, m13, m15, hdd⟩ := h
  have t : ∀ (b : Nat) (c : ClassId) (n : Nat) (f : Nat → Int32), M b = some (.inl (c, n, .inl f)) → M1 b = some (.inl (c, n, .inl f)) := fun b c n f9 hb => f b _ hb (gM_ne hb ho (by simp)) (by simp)
  exact ⟨f _ _ hm (gM_ne hm ho (by simp [oM])) (by simp [oM]), t _ _ _ _ h1, t _ _ _ _ m2, t _ _ _ _ m3, t _ _ _ _ m4, t _ _ _ _ m5, t _ _ _ _ m6, t _ _ _ _ m7, t _ _ _ _ m8, t _ _ _ _ m9, t _ _ _ _ m10, t _ _ _ _ m11, t _ _ _ _ m12, t _ _ _ _ m13, t _ _ _ _ m15, hdd⟩
theorem setR_code (si kd rf : Int32) : (if sOK si then (if kOK kd && !(decide (kd = 1) && decide (rf = -1)) then (3 : Int32) else 2) else 1) = aC si kd (!decide (rf = -1) || decide (kd = 0)) := by
  unfold aC kOK
  by_cases h0 : kd = 0
  · subst h0
    by_cases h : rf = -1 <;> simp [h]
  · by_cases h1 : kd = 1
    · subst h1
      by_cases h : rf = -1 <;> simp [h]
    · simp [h0, h1]
set_option maxHeartbeats 4000000 in
set_option maxRecDepth 100000 in
theorem law_makeAuthor {p : Program} {l : Launch} {e : Env} {s : State} {m : MethodId} {below : List Frame} {meth : Method} {c : Code} {b : Nat} {xs : Nat → Int32} {G : gG} {dce : Nat} {A : Nat → Prop} {Q : State → Prop} (hlt : l.stackTraces = false) (X : cX p s m meth c cL_law 7 ret wsL_law RL #[Value.ref b]) (hXs : va_X b 5 xs s s.heap) (hbl : b < s.heap.size) (hbA : ¬ A b) (hK : wK G s) (hZ : wZ dce A s s.heap) (hA : ∀ q : Nat, s.heap.size ≤ q → A q) {M : gM} {x xm oa : Nat} {ad adm : Nat → Nat} {g0 : Nat → Int64} (hc : cS0 G dce M x ad) (hmF : mF G M xm adm 0) (hoa : M oa = some (.inl (G.2 2, 1, .inr (.inl g0)))) {H : Heap} {locs : List Loc} (hw : wd G A M H) (hS : va_S A s.heap H locs) {ls : Array Slot} (hl : lv_has ls 7 [(4, .int 0), (3, .ref oa), (2, .ref xm), (1, .ref x), (0, .ref b)])
    (tail : ∀ (H : Heap) (locs : List Loc) (cells slots : Nat) (ls : Array Slot), va_S A s.heap H locs → lv_has ls 7 [(4, .int 0), (0, .ref b)] → cells ≤ 600002 → slots ≤ 7302232 → W p l e room_1 s m #[Value.ref b] below meth c H locs cells slots Q (F0 m 1428 ls [])) : W p l e room_1 s m #[Value.ref b] below meth c H locs 100 80000 Q (F0 m 132 ls []) := by
  obtain ⟨hx, hb, hr, hts, hown, hlk, hml⟩ := id X
  have hX9 := hc.1
  obtain ⟨a1, ea1⟩ : ∃ z, z = xs (1 : Int32).toNatClampNeg := ⟨_, rfl⟩
  obtain ⟨a2, ea2⟩ : ∃ z, z = xs (2 : Int32).toNatClampNeg := ⟨_, rfl⟩
  obtain ⟨a3, ea3⟩ : ∃ z, z = xs (3 : Int32).toNatClampNeg := ⟨_, rfl⟩
  obtain ⟨a4, ea4⟩ : ∃ z, z = xs (4 : Int32).toNatClampNeg := ⟨_, rfl⟩
  refine lv_aload_n hx hb dL_law_132 rfl (lv_at hl 3 rfl) ?_
  refine lv_aload_n hx hb dL_law_133 rfl (lv_at hl 4 rfl) ?_
  refine lv_iload hx hb dL_law_134 (lv_at hl 0 rfl) ?_
  refine lv_iconst (v := 1) hx hb dL_law_136 (by decide) ?_
  refine lv_iadd hx hb dL_law_137 ?_
  rw [show (0 : Int32) + 1 = 1 from by decide]
  refine va_sld hx hb hXs hbl hbA hS (by unfold vp_in; decide) dL_law_138 ?_
  rw [← ea1]
  refine lv_aload_n hx hb dL_law_139 rfl (lv_at hl 4 rfl) ?_
  refine lv_iload hx hb dL_law_140 (lv_at hl 0 rfl) ?_
  refine lv_iconst (v := 2) hx hb dL_law_142 (by decide) ?_
  refine lv_iadd hx hb dL_law_143 ?_
  rw [show (0 : Int32) + 2 = 2 from by decide]
  refine va_sld hx hb hXs hbl hbA hS (by unfold vp_in; decide) dL_law_144 ?_
  rw [← ea2]
  refine lv_aload_n hx hb dL_law_145 rfl (lv_at hl 1 rfl) ?_
  refine m_callSWi X hK hw hZ hS hA (As := [.ref x, .int a1, .int a2, .ref oa]) (rest := []) (c_L_makeAuthor_0 l G dce _ M hlt x ad hc oa g0 hoa a1 a2) (vx_cwSW 4 hts gL_law_L_makeAuthor rfl rfl rfl (by decide +kernel) ⟨Nat.le_of_ble_eq_true rfl, Nat.le_of_ble_eq_true rfl⟩) rfl hl.1 rfl (Nat.le_of_ble_eq_true rfl) dL_law_146 (Nat.le_of_ble_eq_true rfl) (Nat.le_of_ble_eq_true rfl) (fun r1 M1 H locs hp hw hS => ?_)
  have er1 := hp.1
  rw [hp.1]
  obtain ⟨-, ⟨g1, ho1, hz1⟩, fr1⟩ := hp
  have mF1 := mF_fr hmF hoa fr1
  have hm1 : M1 xm = some (.inr (8, [.int 0, .ref (adm 1), .ref (adm 2), .ref (adm 3), .ref (adm 4), .ref (adm 5), .ref (adm 6), .ref (adm 7), .ref (adm 8), .ref (adm 9), .ref (adm 10), .ref (adm 11), .ref (adm 12), .ref (adm 13), .int 0, .ref (adm 15)])) := mF1.1
  refine lv_istore (lv' := [(5, .int (if sOK a1 then (if nOK a2 then (0 : Int32) else 2) else 1)), (4, .int 0), (3, .ref oa), (2, .ref xm), (1, .ref x), (0, .ref b)]) hx hb dL_law_149 hl (by decide) rfl (fun ls hl => ?_)
  refine lv_aload_n hx hb dL_law_151 rfl (lv_at hl 3 rfl) ?_
  refine lv_aload_n hx hb dL_law_152 rfl (lv_at hl 5 rfl) ?_
  refine lv_iload hx hb dL_law_153 (lv_at hl 1 rfl) ?_
  refine lv_iconst (v := 1) hx hb dL_law_155 (by decide) ?_
  refine lv_iadd hx hb dL_law_156 ?_
  rw [show (0 : Int32) + 1 = 1 from by decide]
  refine va_sld hx hb hXs hbl hbA hS (by unfold vp_in; decide) dL_law_157 ?_
  rw [← ea1]
  refine lv_aload_n hx hb dL_law_158 rfl (lv_at hl 5 rfl) ?_
  refine lv_iload hx hb dL_law_159 (lv_at hl 1 rfl) ?_
  refine lv_iconst (v := 2) hx hb dL_law_161 (by decide) ?_
  refine lv_iadd hx hb dL_law_162 ?_
  rw [show (0 : Int32) + 2 = 2 from by decide]
  refine va_sld hx hb hXs hbl hbA hS (by unfold vp_in; decide) dL_law_163 ?_
  rw [← ea2]
  refine m_callVi X (ci := 8) rfl hm1 hK hw hZ hS hA (As := [.int a1, .int a2]) (rest := []) (c_X7_makeAuthor_0 l G dce _ M1 xm adm 0 mF1 a1 a2) (cwV 2 hts gL_law_X7_makeAuthor rfl rfl rfl (by decide +kernel) ⟨Nat.le_of_ble_eq_true rfl, Nat.le_of_ble_eq_true rfl⟩) rfl hl.1 rfl (Nat.le_of_ble_eq_true rfl) dL_law_164 (Nat.le_of_ble_eq_true rfl) (Nat.le_of_ble_eq_true rfl) (fun r12 M11 H locs hp hw hS hz hk => ?_)
  rw [hp.1]
  have hm2 := hp.2.1
  have ho2 := hp.2.2 _ _ ho1
  have hm2 : M11 xm = some (.inr (8, [.int (if sOK a1 then (if nOK a2 then (0 : Int32) else 2) else 1), .ref (adm 1), .ref (adm 2), .ref (adm 3), .ref (adm 4), .ref (adm 5), .ref (adm 6), .ref (adm 7), .ref (adm 8), .ref (adm 9), .ref (adm 10), .ref (adm 11), .ref (adm 12), .ref (adm 13), .int 0, .ref (adm 15)])) := hm2
  refine lv_istore (lv' := [(6, .int 0), (5, .int (if sOK a1 then (if nOK a2 then (0 : Int32) else 2) else 1)), (4, .int 0), (3, .ref oa), (2, .ref xm), (1, .ref x), (0, .ref b)]) hx hb dL_law_167 hl (by decide) rfl (fun ls hl => ?_)
  refine lv_aload_n hx hb dL_law_169 rfl (lv_at hl 4 rfl) ?_
  refine m_callVi X (ci := 8) rfl hm2 hK hw hZ hS hA (As := []) (rest := []) (c_X7_thrown l G dce _ M11 xm adm (if sOK a1 then (if nOK a2 then (0 : Int32) else 2) else 1) 0 hm2) (cwV 0 hts gL_law_X7_thrown rfl rfl rfl (by decide +kernel) ⟨Nat.le_of_ble_eq_true rfl, Nat.le_of_ble_eq_true rfl⟩) rfl hl.1 rfl (Nat.le_of_ble_eq_true rfl) dL_law_170 (Nat.le_of_ble_eq_true rfl) (Nat.le_of_ble_eq_true rfl) (fun r14 M13 H locs hp hw hS hz hk => ?_)
  rw [hp.2] at hw
  rw [hp.1]
  refine lv_iload hx hb dL_law_173 (lv_at hl 1 rfl) ?_
  refine lv_icmp_eq (tgt := 180) hx hb dL_law_175 (by decide) (fun _ => ?_) (fun c_175 => absurd rfl c_175)
  refine lv_iload hx hb dL_law_180 (lv_at hl 1 rfl) ?_
  refine lv_if_ne (tgt := 197) hx hb dL_law_182 (by decide) (fun c_182 => ?_) (fun c_182 => ?_)
  · refine lv_goto (tgt := 1428) hx hb dL_law_197 (by decide) ?_
    exact tail _ _ _ _ _ hS (lv_sub hl [2, 6] rfl) (Nat.le_of_ble_eq_true rfl) (Nat.le_of_ble_eq_true rfl)
  · refine lv_aload_n hx hb dL_law_185 rfl (lv_at hl 3 rfl) ?_
    refine lv_iconst (v := 0) hx hb dL_law_186 (by decide) ?_
    refine m_lald X hK hw ho2 (by unfold vp_in; decide) dL_law_187 ?_
    rw [show g1 (0 : Int32).toNatClampNeg = 0 from hz1 (er1.trans c_182)]
    refine lv_iload hx hb dL_law_188 (lv_at hl 0 rfl) ?_
    refine lv_i2l hx hb dL_law_190 rfl ?_
    refine W.lcmp hx hb dL_law_191 ?_
    rw [show lg_cmp 0 (Int32.toInt64 0) = 0 from by decide]
    refine lv_if_eq (tgt := 197) hx hb dL_law_192 (by decide) (fun _ => ?_) (fun c_192 => absurd (by decide) c_192)
    refine lv_goto (tgt := 1428) hx hb dL_law_197 (by decide) ?_
    exact tail _ _ _ _ _ hS (lv_sub hl [2, 6] rfl) (Nat.le_of_ble_eq_true rfl) (Nat.le_of_ble_eq_true rfl)
set_option maxHeartbeats 4000000 in
set_option maxRecDepth 100000 in
theorem law_makeBook {p : Program} {l : Launch} {e : Env} {s : State} {m : MethodId} {below : List Frame} {meth : Method} {c : Code} {b : Nat} {xs : Nat → Int32} {G : gG} {dce : Nat} {A : Nat → Prop} {Q : State → Prop} (hlt : l.stackTraces = false) (X : cX p s m meth c cL_law 7 ret wsL_law RL #[Value.ref b]) (hXs : va_X b 5 xs s s.heap) (hbl : b < s.heap.size) (hbA : ¬ A b) (hK : wK G s) (hZ : wZ dce A s s.heap) (hA : ∀ q : Nat, s.heap.size ≤ q → A q) {M : gM} {x xm oa : Nat} {ad adm : Nat → Nat} {g0 : Nat → Int64} (hc : cS0 G dce M x ad) (hmF : mF G M xm adm 0) (hoa : M oa = some (.inl (G.2 2, 1, .inr (.inl g0)))) {H : Heap} {locs : List Loc} (hw : wd G A M H) (hS : va_S A s.heap H locs) {ls : Array Slot} (hl : lv_has ls 7 [(4, .int 0), (3, .ref oa), (2, .ref xm), (1, .ref x), (0, .ref b)])
    (tail : ∀ (H : Heap) (locs : List Loc) (cells slots : Nat) (ls : Array Slot), va_S A s.heap H locs → lv_has ls 7 [(4, .int 0), (0, .ref b)] → cells ≤ 600002 → slots ≤ 7302232 → W p l e room_1 s m #[Value.ref b] below meth c H locs cells slots Q (F0 m 1428 ls [])) : W p l e room_1 s m #[Value.ref b] below meth c H locs 100 80000 Q (F0 m 200 ls []) := by
  obtain ⟨hx, hb, hr, hts, hown, hlk, hml⟩ := id X
  have hX9 := hc.1
  obtain ⟨a1, ea1⟩ : ∃ z, z = xs (1 : Int32).toNatClampNeg := ⟨_, rfl⟩
  obtain ⟨a2, ea2⟩ : ∃ z, z = xs (2 : Int32).toNatClampNeg := ⟨_, rfl⟩
  obtain ⟨a3, ea3⟩ : ∃ z, z = xs (3 : Int32).toNatClampNeg := ⟨_, rfl⟩
  obtain ⟨a4, ea4⟩ : ∃ z, z = xs (4 : Int32).toNatClampNeg := ⟨_, rfl⟩
  refine lv_aload_n hx hb dL_law_200 rfl (lv_at hl 3 rfl) ?_
  refine lv_aload_n hx hb dL_law_201 rfl (lv_at hl 4 rfl) ?_
  refine lv_iload hx hb dL_law_202 (lv_at hl 0 rfl) ?_
  refine lv_iconst (v := 1) hx hb dL_law_204 (by decide) ?_
  refine lv_iadd hx hb dL_law_205 ?_
  rw [show (0 : Int32) + 1 = 1 from by decide]
  refine va_sld hx hb hXs hbl hbA hS (by unfold vp_in; decide) dL_law_206 ?_
  rw [← ea1]
  refine lv_aload_n hx hb dL_law_207 rfl (lv_at hl 4 rfl) ?_
  refine lv_iload hx hb dL_law_208 (lv_at hl 0 rfl) ?_
  refine lv_iconst (v := 2) hx hb dL_law_210 (by decide) ?_
  refine lv_iadd hx hb dL_law_211 ?_
  rw [show (0 : Int32) + 2 = 2 from by decide]
  refine va_sld hx hb hXs hbl hbA hS (by unfold vp_in; decide) dL_law_212 ?_
  rw [← ea2]
  refine lv_aload_n hx hb dL_law_213 rfl (lv_at hl 4 rfl) ?_
  refine lv_iload hx hb dL_law_214 (lv_at hl 0 rfl) ?_
  refine lv_iconst (v := 3) hx hb dL_law_216 (by decide) ?_
  refine lv_iadd hx hb dL_law_217 ?_
  rw [show (0 : Int32) + 3 = 3 from by decide]
  refine va_sld hx hb hXs hbl hbA hS (by unfold vp_in; decide) dL_law_218 ?_
  rw [← ea3]
  refine lv_aload_n hx hb dL_law_219 rfl (lv_at hl 1 rfl) ?_
  refine m_callSWi X hK hw hZ hS hA (As := [.ref x, .int a1, .int a2, .int a3, .ref oa]) (rest := []) (c_L_makeBook_0 l G dce _ M hlt x ad hc oa g0 hoa a1 a2 a3) (vx_cwSW 5 hts gL_law_L_makeBook rfl rfl rfl (by decide +kernel) ⟨Nat.le_of_ble_eq_true rfl, Nat.le_of_ble_eq_true rfl⟩) rfl hl.1 rfl (Nat.le_of_ble_eq_true rfl) dL_law_220 (Nat.le_of_ble_eq_true rfl) (Nat.le_of_ble_eq_true rfl) (fun r1 M1 H locs hp hw hS => ?_)
  have er1 := hp.1
  rw [hp.1]
  obtain ⟨-, ⟨g1, ho1, hz1⟩, fr1⟩ := hp
  have mF1 := mF_fr hmF hoa fr1
  have hm1 : M1 xm = some (.inr (8, [.int 0, .ref (adm 1), .ref (adm 2), .ref (adm 3), .ref (adm 4), .ref (adm 5), .ref (adm 6), .ref (adm 7), .ref (adm 8), .ref (adm 9), .ref (adm 10), .ref (adm 11), .ref (adm 12), .ref (adm 13), .int 0, .ref (adm 15)])) := mF1.1
  refine lv_istore (lv' := [(5, .int (if sOK a1 then (if nOK a2 then (3 : Int32) else 2) else 1)), (4, .int 0), (3, .ref oa), (2, .ref xm), (1, .ref x), (0, .ref b)]) hx hb dL_law_223 hl (by decide) rfl (fun ls hl => ?_)
  refine lv_aload_n hx hb dL_law_225 rfl (lv_at hl 3 rfl) ?_
  refine lv_aload_n hx hb dL_law_226 rfl (lv_at hl 5 rfl) ?_
  refine lv_iload hx hb dL_law_227 (lv_at hl 1 rfl) ?_
  refine lv_iconst (v := 1) hx hb dL_law_229 (by decide) ?_
  refine lv_iadd hx hb dL_law_230 ?_
  rw [show (0 : Int32) + 1 = 1 from by decide]
  refine va_sld hx hb hXs hbl hbA hS (by unfold vp_in; decide) dL_law_231 ?_
  rw [← ea1]
  refine lv_aload_n hx hb dL_law_232 rfl (lv_at hl 5 rfl) ?_
  refine lv_iload hx hb dL_law_233 (lv_at hl 1 rfl) ?_
  refine lv_iconst (v := 2) hx hb dL_law_235 (by decide) ?_
  refine lv_iadd hx hb dL_law_236 ?_
  rw [show (0 : Int32) + 2 = 2 from by decide]
  refine va_sld hx hb hXs hbl hbA hS (by unfold vp_in; decide) dL_law_237 ?_
  rw [← ea2]
  refine lv_aload_n hx hb dL_law_238 rfl (lv_at hl 5 rfl) ?_
  refine lv_iload hx hb dL_law_239 (lv_at hl 1 rfl) ?_
  refine lv_iconst (v := 3) hx hb dL_law_241 (by decide) ?_
  refine lv_iadd hx hb dL_law_242 ?_
  rw [show (0 : Int32) + 3 = 3 from by decide]
  refine va_sld hx hb hXs hbl hbA hS (by unfold vp_in; decide) dL_law_243 ?_
  rw [← ea3]
  refine m_callVi X (ci := 8) rfl hm1 hK hw hZ hS hA (As := [.int a1, .int a2, .int a3]) (rest := []) (c_X7_makeBook_0 l G dce _ M1 xm adm 0 mF1.1 mF1.2.1 a1 a2 a3) (cwV 3 hts gL_law_X7_makeBook rfl rfl rfl (by decide +kernel) ⟨Nat.le_of_ble_eq_true rfl, Nat.le_of_ble_eq_true rfl⟩) rfl hl.1 rfl (Nat.le_of_ble_eq_true rfl) dL_law_244 (Nat.le_of_ble_eq_true rfl) (Nat.le_of_ble_eq_true rfl) (fun r12 M11 H locs hp hw hS hz hk => ?_)
  have eM2 := hp.2
  rw [hp.1]
  have hm2 := (congrFun eM2 xm).trans (mu_s _ _ _)
  have ho2 : M11 oa = some (.inl (G.2 2, 1, .inr (.inl g1))) := by rw [eM2]; exact mu_g ho1 (gM_ne ho1 mF1.1 (by simp [oM]))
  have hm2 : M11 xm = some (.inr (8, [.int (if sOK a1 then (if nOK a2 then (3 : Int32) else 2) else 1), .ref (adm 1), .ref (adm 2), .ref (adm 3), .ref (adm 4), .ref (adm 5), .ref (adm 6), .ref (adm 7), .ref (adm 8), .ref (adm 9), .ref (adm 10), .ref (adm 11), .ref (adm 12), .ref (adm 13), .int 0, .ref (adm 15)])) := hm2
  refine lv_istore (lv' := [(6, .int 0), (5, .int (if sOK a1 then (if nOK a2 then (3 : Int32) else 2) else 1)), (4, .int 0), (3, .ref oa), (2, .ref xm), (1, .ref x), (0, .ref b)]) hx hb dL_law_247 hl (by decide) rfl (fun ls hl => ?_)
  refine lv_aload_n hx hb dL_law_249 rfl (lv_at hl 4 rfl) ?_
  refine m_callVi X (ci := 8) rfl hm2 hK hw hZ hS hA (As := []) (rest := []) (c_X7_thrown l G dce _ M11 xm adm (if sOK a1 then (if nOK a2 then (3 : Int32) else 2) else 1) 0 hm2) (cwV 0 hts gL_law_X7_thrown rfl rfl rfl (by decide +kernel) ⟨Nat.le_of_ble_eq_true rfl, Nat.le_of_ble_eq_true rfl⟩) rfl hl.1 rfl (Nat.le_of_ble_eq_true rfl) dL_law_250 (Nat.le_of_ble_eq_true rfl) (Nat.le_of_ble_eq_true rfl) (fun r14 M13 H locs hp hw hS hz hk => ?_)
  rw [hp.2] at hw
  rw [hp.1]
  refine lv_iload hx hb dL_law_253 (lv_at hl 1 rfl) ?_
  refine lv_icmp_eq (tgt := 260) hx hb dL_law_255 (by decide) (fun _ => ?_) (fun c_255 => absurd rfl c_255)
  refine lv_iload hx hb dL_law_260 (lv_at hl 1 rfl) ?_
  refine lv_if_ne (tgt := 277) hx hb dL_law_262 (by decide) (fun c_262 => ?_) (fun c_262 => ?_)
  · refine lv_goto (tgt := 1428) hx hb dL_law_277 (by decide) ?_
    exact tail _ _ _ _ _ hS (lv_sub hl [2, 6] rfl) (Nat.le_of_ble_eq_true rfl) (Nat.le_of_ble_eq_true rfl)
  · refine lv_aload_n hx hb dL_law_265 rfl (lv_at hl 3 rfl) ?_
    refine lv_iconst (v := 0) hx hb dL_law_266 (by decide) ?_
    refine m_lald X hK hw ho2 (by unfold vp_in; decide) dL_law_267 ?_
    rw [show g1 (0 : Int32).toNatClampNeg = 0 from hz1 (er1.trans c_262)]
    refine lv_iload hx hb dL_law_268 (lv_at hl 0 rfl) ?_
    refine lv_i2l hx hb dL_law_270 rfl ?_
    refine W.lcmp hx hb dL_law_271 ?_
    rw [show lg_cmp 0 (Int32.toInt64 0) = 0 from by decide]
    refine lv_if_eq (tgt := 277) hx hb dL_law_272 (by decide) (fun _ => ?_) (fun c_272 => absurd (by decide) c_272)
    refine lv_goto (tgt := 1428) hx hb dL_law_277 (by decide) ?_
    exact tail _ _ _ _ _ hS (lv_sub hl [2, 6] rfl) (Nat.le_of_ble_eq_true rfl) (Nat.le_of_ble_eq_true rfl)
set_option maxHeartbeats 4000000 in
set_option maxRecDepth 100000 in
theorem law_find {p : Program} {l : Launch} {e : Env} {s : State} {m : MethodId} {below : List Frame} {meth : Method} {c : Code} {b : Nat} {xs : Nat → Int32} {G : gG} {dce : Nat} {A : Nat → Prop} {Q : State → Prop} (hlt : l.stackTraces = false) (X : cX p s m meth c cL_law 7 ret wsL_law RL #[Value.ref b]) (hXs : va_X b 5 xs s s.heap) (hbl : b < s.heap.size) (hbA : ¬ A b) (hK : wK G s) (hZ : wZ dce A s s.heap) (hA : ∀ q : Nat, s.heap.size ≤ q → A q) {M : gM} {x xm oa : Nat} {ad adm : Nat → Nat} {g0 : Nat → Int64} (hc : cS0 G dce M x ad) (hmF : mF G M xm adm 0) (hoa : M oa = some (.inl (G.2 2, 1, .inr (.inl g0)))) {H : Heap} {locs : List Loc} (hw : wd G A M H) (hS : va_S A s.heap H locs) {ls : Array Slot} (hl : lv_has ls 7 [(4, .int 0), (3, .ref oa), (2, .ref xm), (1, .ref x), (0, .ref b)])
    (tail : ∀ (H : Heap) (locs : List Loc) (cells slots : Nat) (ls : Array Slot), va_S A s.heap H locs → lv_has ls 7 [(4, .int 0), (0, .ref b)] → cells ≤ 600002 → slots ≤ 7302232 → W p l e room_1 s m #[Value.ref b] below meth c H locs cells slots Q (F0 m 1428 ls [])) : W p l e room_1 s m #[Value.ref b] below meth c H locs 100 80000 Q (F0 m 280 ls []) := by
  obtain ⟨hx, hb, hr, hts, hown, hlk, hml⟩ := id X
  have hX9 := hc.1
  obtain ⟨a1, ea1⟩ : ∃ z, z = xs (1 : Int32).toNatClampNeg := ⟨_, rfl⟩
  obtain ⟨a2, ea2⟩ : ∃ z, z = xs (2 : Int32).toNatClampNeg := ⟨_, rfl⟩
  obtain ⟨a3, ea3⟩ : ∃ z, z = xs (3 : Int32).toNatClampNeg := ⟨_, rfl⟩
  obtain ⟨a4, ea4⟩ : ∃ z, z = xs (4 : Int32).toNatClampNeg := ⟨_, rfl⟩
  refine lv_aload_n hx hb dL_law_280 rfl (lv_at hl 3 rfl) ?_
  refine lv_aload_n hx hb dL_law_281 rfl (lv_at hl 4 rfl) ?_
  refine lv_iload hx hb dL_law_282 (lv_at hl 0 rfl) ?_
  refine lv_iconst (v := 1) hx hb dL_law_284 (by decide) ?_
  refine lv_iadd hx hb dL_law_285 ?_
  rw [show (0 : Int32) + 1 = 1 from by decide]
  refine va_sld hx hb hXs hbl hbA hS (by unfold vp_in; decide) dL_law_286 ?_
  rw [← ea1]
  refine lv_aload_n hx hb dL_law_287 rfl (lv_at hl 4 rfl) ?_
  refine lv_iload hx hb dL_law_288 (lv_at hl 0 rfl) ?_
  refine lv_iconst (v := 2) hx hb dL_law_290 (by decide) ?_
  refine lv_iadd hx hb dL_law_291 ?_
  rw [show (0 : Int32) + 2 = 2 from by decide]
  refine va_sld hx hb hXs hbl hbA hS (by unfold vp_in; decide) dL_law_292 ?_
  rw [← ea2]
  refine lv_aload_n hx hb dL_law_293 rfl (lv_at hl 4 rfl) ?_
  refine lv_iload hx hb dL_law_294 (lv_at hl 0 rfl) ?_
  refine lv_iconst (v := 3) hx hb dL_law_296 (by decide) ?_
  refine lv_iadd hx hb dL_law_297 ?_
  rw [show (0 : Int32) + 3 = 3 from by decide]
  refine va_sld hx hb hXs hbl hbA hS (by unfold vp_in; decide) dL_law_298 ?_
  rw [← ea3]
  refine lv_aload_n hx hb dL_law_299 rfl (lv_at hl 1 rfl) ?_
  refine m_callSWi X hK hw hZ hS hA (As := [.ref x, .int a1, .int a2, .int a3, .ref oa]) (rest := []) (c_L_find_0 l G dce _ M hlt x ad hc oa g0 hoa a1 a2 a3) (vx_cwSW 5 hts gL_law_L_find rfl rfl rfl (by decide +kernel) ⟨Nat.le_of_ble_eq_true rfl, Nat.le_of_ble_eq_true rfl⟩) rfl hl.1 rfl (Nat.le_of_ble_eq_true rfl) dL_law_300 (Nat.le_of_ble_eq_true rfl) (Nat.le_of_ble_eq_true rfl) (fun r1 M1 H locs hp hw hS => ?_)
  have er1 := hp.1
  rw [hp.1]
  obtain ⟨-, ⟨g1, ho1, hz1⟩, fr1⟩ := hp
  have mF1 := mF_fr hmF hoa fr1
  have hm1 : M1 xm = some (.inr (8, [.int 0, .ref (adm 1), .ref (adm 2), .ref (adm 3), .ref (adm 4), .ref (adm 5), .ref (adm 6), .ref (adm 7), .ref (adm 8), .ref (adm 9), .ref (adm 10), .ref (adm 11), .ref (adm 12), .ref (adm 13), .int 0, .ref (adm 15)])) := mF1.1
  refine lv_istore (lv' := [(5, .int (if sOK a1 then (if kOK a2 then (0 : Int32) else 2) else 1)), (4, .int 0), (3, .ref oa), (2, .ref xm), (1, .ref x), (0, .ref b)]) hx hb dL_law_303 hl (by decide) rfl (fun ls hl => ?_)
  refine lv_aload_n hx hb dL_law_305 rfl (lv_at hl 3 rfl) ?_
  refine lv_aload_n hx hb dL_law_306 rfl (lv_at hl 5 rfl) ?_
  refine lv_iload hx hb dL_law_307 (lv_at hl 1 rfl) ?_
  refine lv_iconst (v := 1) hx hb dL_law_309 (by decide) ?_
  refine lv_iadd hx hb dL_law_310 ?_
  rw [show (0 : Int32) + 1 = 1 from by decide]
  refine va_sld hx hb hXs hbl hbA hS (by unfold vp_in; decide) dL_law_311 ?_
  rw [← ea1]
  refine lv_aload_n hx hb dL_law_312 rfl (lv_at hl 5 rfl) ?_
  refine lv_iload hx hb dL_law_313 (lv_at hl 1 rfl) ?_
  refine lv_iconst (v := 2) hx hb dL_law_315 (by decide) ?_
  refine lv_iadd hx hb dL_law_316 ?_
  rw [show (0 : Int32) + 2 = 2 from by decide]
  refine va_sld hx hb hXs hbl hbA hS (by unfold vp_in; decide) dL_law_317 ?_
  rw [← ea2]
  refine lv_aload_n hx hb dL_law_318 rfl (lv_at hl 5 rfl) ?_
  refine lv_iload hx hb dL_law_319 (lv_at hl 1 rfl) ?_
  refine lv_iconst (v := 3) hx hb dL_law_321 (by decide) ?_
  refine lv_iadd hx hb dL_law_322 ?_
  rw [show (0 : Int32) + 3 = 3 from by decide]
  refine va_sld hx hb hXs hbl hbA hS (by unfold vp_in; decide) dL_law_323 ?_
  rw [← ea3]
  refine m_callVi X (ci := 8) rfl hm1 hK hw hZ hS hA (As := [.int a1, .int a2, .int a3]) (rest := []) (c_X7_find_0 l G dce _ M1 xm adm 0 mF1.1 mF1.2.1 a1 a2 a3) (cwV 3 hts gL_law_X7_find rfl rfl rfl (by decide +kernel) ⟨Nat.le_of_ble_eq_true rfl, Nat.le_of_ble_eq_true rfl⟩) rfl hl.1 rfl (Nat.le_of_ble_eq_true rfl) dL_law_324 (Nat.le_of_ble_eq_true rfl) (Nat.le_of_ble_eq_true rfl) (fun r12 M11 H locs hp hw hS hz hk => ?_)
  have eM2 := hp.2
  rw [hp.1]
  have hm2 := (congrFun eM2 xm).trans (mu_s _ _ _)
  have ho2 : M11 oa = some (.inl (G.2 2, 1, .inr (.inl g1))) := by rw [eM2]; exact mu_g ho1 (gM_ne ho1 mF1.1 (by simp [oM]))
  have hm2 : M11 xm = some (.inr (8, [.int (if sOK a1 then (if kOK a2 then (0 : Int32) else 2) else 1), .ref (adm 1), .ref (adm 2), .ref (adm 3), .ref (adm 4), .ref (adm 5), .ref (adm 6), .ref (adm 7), .ref (adm 8), .ref (adm 9), .ref (adm 10), .ref (adm 11), .ref (adm 12), .ref (adm 13), .int 0, .ref (adm 15)])) := hm2
  refine lv_istore (lv' := [(6, .int 0), (5, .int (if sOK a1 then (if kOK a2 then (0 : Int32) else 2) else 1)), (4, .int 0), (3, .ref oa), (2, .ref xm), (1, .ref x), (0, .ref b)]) hx hb dL_law_327 hl (by decide) rfl (fun ls hl => ?_)
  refine lv_aload_n hx hb dL_law_329 rfl (lv_at hl 4 rfl) ?_
  refine m_callVi X (ci := 8) rfl hm2 hK hw hZ hS hA (As := []) (rest := []) (c_X7_thrown l G dce _ M11 xm adm (if sOK a1 then (if kOK a2 then (0 : Int32) else 2) else 1) 0 hm2) (cwV 0 hts gL_law_X7_thrown rfl rfl rfl (by decide +kernel) ⟨Nat.le_of_ble_eq_true rfl, Nat.le_of_ble_eq_true rfl⟩) rfl hl.1 rfl (Nat.le_of_ble_eq_true rfl) dL_law_330 (Nat.le_of_ble_eq_true rfl) (Nat.le_of_ble_eq_true rfl) (fun r14 M13 H locs hp hw hS hz hk => ?_)
  rw [hp.2] at hw
  rw [hp.1]
  refine lv_iload hx hb dL_law_333 (lv_at hl 1 rfl) ?_
  refine lv_icmp_eq (tgt := 340) hx hb dL_law_335 (by decide) (fun _ => ?_) (fun c_335 => absurd rfl c_335)
  refine lv_iload hx hb dL_law_340 (lv_at hl 1 rfl) ?_
  refine lv_if_ne (tgt := 364) hx hb dL_law_342 (by decide) (fun c_342 => ?_) (fun c_342 => ?_)
  · refine lv_goto (tgt := 1428) hx hb dL_law_364 (by decide) ?_
    exact tail _ _ _ _ _ hS (lv_sub hl [2, 6] rfl) (Nat.le_of_ble_eq_true rfl) (Nat.le_of_ble_eq_true rfl)
  · refine lv_aload_n hx hb dL_law_345 rfl (lv_at hl 3 rfl) ?_
    refine lv_iconst (v := 0) hx hb dL_law_346 (by decide) ?_
    refine m_lald X hK hw ho2 (by unfold vp_in; decide) dL_law_347 ?_
    rw [show g1 (0 : Int32).toNatClampNeg = 0 from hz1 (er1.trans c_342)]
    refine lv_iload hx hb dL_law_348 (lv_at hl 0 rfl) ?_
    refine lv_if_eq (tgt := 357) hx hb dL_law_350 (by decide) (fun _ => ?_) (fun c_350 => absurd (by decide) c_350)
    refine lv_lconst (v := 0) hx hb dL_law_357 (by decide) ?_
    refine W.lcmp hx hb dL_law_358 ?_
    rw [show lg_cmp 0 0 = 0 from by decide]
    refine lv_if_eq (tgt := 364) hx hb dL_law_359 (by decide) (fun _ => ?_) (fun c_359 => absurd (by decide) c_359)
    refine lv_goto (tgt := 1428) hx hb dL_law_364 (by decide) ?_
    exact tail _ _ _ _ _ hS (lv_sub hl [2, 6] rfl) (Nat.le_of_ble_eq_true rfl) (Nat.le_of_ble_eq_true rfl)
set_option maxHeartbeats 4000000 in
set_option maxRecDepth 100000 in
theorem law_books {p : Program} {l : Launch} {e : Env} {s : State} {m : MethodId} {below : List Frame} {meth : Method} {c : Code} {b : Nat} {xs : Nat → Int32} {G : gG} {dce : Nat} {A : Nat → Prop} {Q : State → Prop} (hlt : l.stackTraces = false) (X : cX p s m meth c cL_law 7 ret wsL_law RL #[Value.ref b]) (hXs : va_X b 5 xs s s.heap) (hbl : b < s.heap.size) (hbA : ¬ A b) (hK : wK G s) (hZ : wZ dce A s s.heap) (hA : ∀ q : Nat, s.heap.size ≤ q → A q) {M : gM} {x xm oa : Nat} {ad adm : Nat → Nat} {g0 : Nat → Int64} (hc : cS0 G dce M x ad) (hmF : mF G M xm adm 0) (hoa : M oa = some (.inl (G.2 2, 1, .inr (.inl g0)))) {H : Heap} {locs : List Loc} (hw : wd G A M H) (hS : va_S A s.heap H locs) {ls : Array Slot} (hl : lv_has ls 7 [(4, .int 0), (3, .ref oa), (2, .ref xm), (1, .ref x), (0, .ref b)])
    (tail : ∀ (H : Heap) (locs : List Loc) (cells slots : Nat) (ls : Array Slot), va_S A s.heap H locs → lv_has ls 7 [(4, .int 0), (0, .ref b)] → cells ≤ 600002 → slots ≤ 7302232 → W p l e room_1 s m #[Value.ref b] below meth c H locs cells slots Q (F0 m 1428 ls [])) : W p l e room_1 s m #[Value.ref b] below meth c H locs 100 80000 Q (F0 m 367 ls []) := by
  obtain ⟨hx, hb, hr, hts, hown, hlk, hml⟩ := id X
  have hX9 := hc.1
  obtain ⟨a1, ea1⟩ : ∃ z, z = xs (1 : Int32).toNatClampNeg := ⟨_, rfl⟩
  obtain ⟨a2, ea2⟩ : ∃ z, z = xs (2 : Int32).toNatClampNeg := ⟨_, rfl⟩
  obtain ⟨a3, ea3⟩ : ∃ z, z = xs (3 : Int32).toNatClampNeg := ⟨_, rfl⟩
  obtain ⟨a4, ea4⟩ : ∃ z, z = xs (4 : Int32).toNatClampNeg := ⟨_, rfl⟩
  refine lv_aload_n hx hb dL_law_367 rfl (lv_at hl 3 rfl) ?_
  refine lv_aload_n hx hb dL_law_368 rfl (lv_at hl 4 rfl) ?_
  refine lv_iload hx hb dL_law_369 (lv_at hl 0 rfl) ?_
  refine lv_iconst (v := 1) hx hb dL_law_371 (by decide) ?_
  refine lv_iadd hx hb dL_law_372 ?_
  rw [show (0 : Int32) + 1 = 1 from by decide]
  refine va_sld hx hb hXs hbl hbA hS (by unfold vp_in; decide) dL_law_373 ?_
  rw [← ea1]
  refine lv_aload_n hx hb dL_law_374 rfl (lv_at hl 4 rfl) ?_
  refine lv_iload hx hb dL_law_375 (lv_at hl 0 rfl) ?_
  refine lv_iconst (v := 2) hx hb dL_law_377 (by decide) ?_
  refine lv_iadd hx hb dL_law_378 ?_
  rw [show (0 : Int32) + 2 = 2 from by decide]
  refine va_sld hx hb hXs hbl hbA hS (by unfold vp_in; decide) dL_law_379 ?_
  rw [← ea2]
  refine lv_aload_n hx hb dL_law_380 rfl (lv_at hl 1 rfl) ?_
  refine m_callSWi X hK hw hZ hS hA (As := [.ref x, .int a1, .int a2, .ref oa]) (rest := []) (c_L_books_0 l G dce _ M hlt x ad hc oa g0 hoa a1 a2) (vx_cwSW 4 hts gL_law_L_books rfl rfl rfl (by decide +kernel) ⟨Nat.le_of_ble_eq_true rfl, Nat.le_of_ble_eq_true rfl⟩) rfl hl.1 rfl (Nat.le_of_ble_eq_true rfl) dL_law_381 (Nat.le_of_ble_eq_true rfl) (Nat.le_of_ble_eq_true rfl) (fun r1 M1 H locs hp hw hS => ?_)
  have er1 := hp.1
  rw [hp.1]
  obtain ⟨-, ⟨g1, ho1, hz1⟩, fr1⟩ := hp
  have mF1 := mF_fr hmF hoa fr1
  have hm1 : M1 xm = some (.inr (8, [.int 0, .ref (adm 1), .ref (adm 2), .ref (adm 3), .ref (adm 4), .ref (adm 5), .ref (adm 6), .ref (adm 7), .ref (adm 8), .ref (adm 9), .ref (adm 10), .ref (adm 11), .ref (adm 12), .ref (adm 13), .int 0, .ref (adm 15)])) := mF1.1
  refine lv_istore (lv' := [(5, .int (if sOK a1 then (2 : Int32) else 1)), (4, .int 0), (3, .ref oa), (2, .ref xm), (1, .ref x), (0, .ref b)]) hx hb dL_law_384 hl (by decide) rfl (fun ls hl => ?_)
  refine lv_aload_n hx hb dL_law_386 rfl (lv_at hl 3 rfl) ?_
  refine lv_aload_n hx hb dL_law_387 rfl (lv_at hl 5 rfl) ?_
  refine lv_iload hx hb dL_law_388 (lv_at hl 1 rfl) ?_
  refine lv_iconst (v := 1) hx hb dL_law_390 (by decide) ?_
  refine lv_iadd hx hb dL_law_391 ?_
  rw [show (0 : Int32) + 1 = 1 from by decide]
  refine va_sld hx hb hXs hbl hbA hS (by unfold vp_in; decide) dL_law_392 ?_
  rw [← ea1]
  refine lv_aload_n hx hb dL_law_393 rfl (lv_at hl 5 rfl) ?_
  refine lv_iload hx hb dL_law_394 (lv_at hl 1 rfl) ?_
  refine lv_iconst (v := 2) hx hb dL_law_396 (by decide) ?_
  refine lv_iadd hx hb dL_law_397 ?_
  rw [show (0 : Int32) + 2 = 2 from by decide]
  refine va_sld hx hb hXs hbl hbA hS (by unfold vp_in; decide) dL_law_398 ?_
  rw [← ea2]
  refine m_callVi X (ci := 8) rfl hm1 hK hw hZ hS hA (As := [.int a1, .int a2]) (rest := []) (c_X7_books_0 l G dce _ M1 xm adm 0 mF1.1 mF1.2.1 a1 a2) (cwV 2 hts gL_law_X7_books rfl rfl rfl (by decide +kernel) ⟨Nat.le_of_ble_eq_true rfl, Nat.le_of_ble_eq_true rfl⟩) rfl hl.1 rfl (Nat.le_of_ble_eq_true rfl) dL_law_399 (Nat.le_of_ble_eq_true rfl) (Nat.le_of_ble_eq_true rfl) (fun r12 M11 H locs hp hw hS hz hk => ?_)
  have eM2 := hp.2
  rw [hp.1]
  have hm2 := (congrFun eM2 xm).trans (mu_s _ _ _)
  have ho2 : M11 oa = some (.inl (G.2 2, 1, .inr (.inl g1))) := by rw [eM2]; exact mu_g ho1 (gM_ne ho1 mF1.1 (by simp [oM]))
  have hm2 : M11 xm = some (.inr (8, [.int (if sOK a1 then (2 : Int32) else 1), .ref (adm 1), .ref (adm 2), .ref (adm 3), .ref (adm 4), .ref (adm 5), .ref (adm 6), .ref (adm 7), .ref (adm 8), .ref (adm 9), .ref (adm 10), .ref (adm 11), .ref (adm 12), .ref (adm 13), .int 0, .ref (adm 15)])) := hm2
  refine lv_istore (lv' := [(6, .int 0), (5, .int (if sOK a1 then (2 : Int32) else 1)), (4, .int 0), (3, .ref oa), (2, .ref xm), (1, .ref x), (0, .ref b)]) hx hb dL_law_402 hl (by decide) rfl (fun ls hl => ?_)
  refine lv_aload_n hx hb dL_law_404 rfl (lv_at hl 4 rfl) ?_
  refine m_callVi X (ci := 8) rfl hm2 hK hw hZ hS hA (As := []) (rest := []) (c_X7_thrown l G dce _ M11 xm adm (if sOK a1 then (2 : Int32) else 1) 0 hm2) (cwV 0 hts gL_law_X7_thrown rfl rfl rfl (by decide +kernel) ⟨Nat.le_of_ble_eq_true rfl, Nat.le_of_ble_eq_true rfl⟩) rfl hl.1 rfl (Nat.le_of_ble_eq_true rfl) dL_law_405 (Nat.le_of_ble_eq_true rfl) (Nat.le_of_ble_eq_true rfl) (fun r14 M13 H locs hp hw hS hz hk => ?_)
  rw [hp.2] at hw
  rw [hp.1]
  refine lv_iload hx hb dL_law_408 (lv_at hl 1 rfl) ?_
  refine lv_icmp_eq (tgt := 415) hx hb dL_law_410 (by decide) (fun _ => ?_) (fun c_410 => absurd rfl c_410)
  refine lv_iload hx hb dL_law_415 (lv_at hl 1 rfl) ?_
  refine lv_if_ne (tgt := 432) hx hb dL_law_417 (by decide) (fun c_417 => ?_) (fun c_417 => ?_)
  · refine lv_goto (tgt := 1428) hx hb dL_law_432 (by decide) ?_
    exact tail _ _ _ _ _ hS (lv_sub hl [2, 6] rfl) (Nat.le_of_ble_eq_true rfl) (Nat.le_of_ble_eq_true rfl)
  · refine lv_aload_n hx hb dL_law_420 rfl (lv_at hl 3 rfl) ?_
    refine lv_iconst (v := 0) hx hb dL_law_421 (by decide) ?_
    refine m_lald X hK hw ho2 (by unfold vp_in; decide) dL_law_422 ?_
    rw [show g1 (0 : Int32).toNatClampNeg = 0 from hz1 (er1.trans c_417)]
    refine lv_iload hx hb dL_law_423 (lv_at hl 0 rfl) ?_
    refine lv_i2l hx hb dL_law_425 rfl ?_
    refine W.lcmp hx hb dL_law_426 ?_
    rw [show lg_cmp 0 (Int32.toInt64 0) = 0 from by decide]
    refine lv_if_eq (tgt := 432) hx hb dL_law_427 (by decide) (fun _ => ?_) (fun c_427 => absurd (by decide) c_427)
    refine lv_goto (tgt := 1428) hx hb dL_law_432 (by decide) ?_
    exact tail _ _ _ _ _ hS (lv_sub hl [2, 6] rfl) (Nat.le_of_ble_eq_true rfl) (Nat.le_of_ble_eq_true rfl)
set_option maxHeartbeats 4000000 in
set_option maxRecDepth 100000 in
theorem law_setName {p : Program} {l : Launch} {e : Env} {s : State} {m : MethodId} {below : List Frame} {meth : Method} {c : Code} {b : Nat} {xs : Nat → Int32} {G : gG} {dce : Nat} {A : Nat → Prop} {Q : State → Prop} (hlt : l.stackTraces = false) (X : cX p s m meth c cL_law 7 ret wsL_law RL #[Value.ref b]) (hXs : va_X b 5 xs s s.heap) (hbl : b < s.heap.size) (hbA : ¬ A b) (hK : wK G s) (hZ : wZ dce A s s.heap) (hA : ∀ q : Nat, s.heap.size ≤ q → A q) {M : gM} {x xm oa : Nat} {ad adm : Nat → Nat} {g0 : Nat → Int64} (hc : cS0 G dce M x ad) (hmF : mF G M xm adm 0) (hoa : M oa = some (.inl (G.2 2, 1, .inr (.inl g0)))) {H : Heap} {locs : List Loc} (hw : wd G A M H) (hS : va_S A s.heap H locs) {ls : Array Slot} (hl : lv_has ls 7 [(4, .int 0), (3, .ref oa), (2, .ref xm), (1, .ref x), (0, .ref b)])
    (tail : ∀ (H : Heap) (locs : List Loc) (cells slots : Nat) (ls : Array Slot), va_S A s.heap H locs → lv_has ls 7 [(4, .int 0), (0, .ref b)] → cells ≤ 600002 → slots ≤ 7302232 → W p l e room_1 s m #[Value.ref b] below meth c H locs cells slots Q (F0 m 1428 ls [])) : W p l e room_1 s m #[Value.ref b] below meth c H locs 100 80000 Q (F0 m 435 ls []) := by
  obtain ⟨hx, hb, hr, hts, hown, hlk, hml⟩ := id X
  have hX9 := hc.1
  obtain ⟨a1, ea1⟩ : ∃ z, z = xs (1 : Int32).toNatClampNeg := ⟨_, rfl⟩
  obtain ⟨a2, ea2⟩ : ∃ z, z = xs (2 : Int32).toNatClampNeg := ⟨_, rfl⟩
  obtain ⟨a3, ea3⟩ : ∃ z, z = xs (3 : Int32).toNatClampNeg := ⟨_, rfl⟩
  obtain ⟨a4, ea4⟩ : ∃ z, z = xs (4 : Int32).toNatClampNeg := ⟨_, rfl⟩
  refine lv_aload_n hx hb dL_law_435 rfl (lv_at hl 3 rfl) ?_
  refine lv_aload_n hx hb dL_law_436 rfl (lv_at hl 4 rfl) ?_
  refine lv_iload hx hb dL_law_437 (lv_at hl 0 rfl) ?_
  refine lv_iconst (v := 1) hx hb dL_law_439 (by decide) ?_
  refine lv_iadd hx hb dL_law_440 ?_
  rw [show (0 : Int32) + 1 = 1 from by decide]
  refine va_sld hx hb hXs hbl hbA hS (by unfold vp_in; decide) dL_law_441 ?_
  rw [← ea1]
  refine lv_aload_n hx hb dL_law_442 rfl (lv_at hl 4 rfl) ?_
  refine lv_iload hx hb dL_law_443 (lv_at hl 0 rfl) ?_
  refine lv_iconst (v := 2) hx hb dL_law_445 (by decide) ?_
  refine lv_iadd hx hb dL_law_446 ?_
  rw [show (0 : Int32) + 2 = 2 from by decide]
  refine va_sld hx hb hXs hbl hbA hS (by unfold vp_in; decide) dL_law_447 ?_
  rw [← ea2]
  refine lv_aload_n hx hb dL_law_448 rfl (lv_at hl 4 rfl) ?_
  refine lv_iload hx hb dL_law_449 (lv_at hl 0 rfl) ?_
  refine lv_iconst (v := 3) hx hb dL_law_451 (by decide) ?_
  refine lv_iadd hx hb dL_law_452 ?_
  rw [show (0 : Int32) + 3 = 3 from by decide]
  refine va_sld hx hb hXs hbl hbA hS (by unfold vp_in; decide) dL_law_453 ?_
  rw [← ea3]
  refine lv_aload_n hx hb dL_law_454 rfl (lv_at hl 4 rfl) ?_
  refine lv_iload hx hb dL_law_455 (lv_at hl 0 rfl) ?_
  refine lv_iconst (v := 4) hx hb dL_law_457 (by decide) ?_
  refine lv_iadd hx hb dL_law_458 ?_
  rw [show (0 : Int32) + 4 = 4 from by decide]
  refine va_sld hx hb hXs hbl hbA hS (by unfold vp_in; decide) dL_law_459 ?_
  rw [← ea4]
  refine m_callSWi X hK hw hZ hS hA (As := [.ref x, .int a1, .int a2, .int a3, .int a4]) (rest := []) (c_L_setName_0 l G dce _ M hlt x ad hc a1 a2 a3 a4) (vx_cwSW 5 hts gL_law_L_setName rfl rfl rfl (by decide +kernel) ⟨Nat.le_of_ble_eq_true rfl, Nat.le_of_ble_eq_true rfl⟩) rfl hl.1 rfl (Nat.le_of_ble_eq_true rfl) dL_law_460 (Nat.le_of_ble_eq_true rfl) (Nat.le_of_ble_eq_true rfl) (fun r1 M1 H locs hp hw hS => ?_)
  have er1 := hp.1
  rw [hp.1]
  have eM1 := hp.2
  have mF1 : mF G M1 xm adm 0 := by rw [eM1]; exact hmF
  have hm1 : M1 xm = some (.inr (8, [.int 0, .ref (adm 1), .ref (adm 2), .ref (adm 3), .ref (adm 4), .ref (adm 5), .ref (adm 6), .ref (adm 7), .ref (adm 8), .ref (adm 9), .ref (adm 10), .ref (adm 11), .ref (adm 12), .ref (adm 13), .int 0, .ref (adm 15)])) := mF1.1
  refine lv_istore (lv' := [(5, .int (if sOK a1 then (if kOK a2 && nOK a4 then (3 : Int32) else 2) else 1)), (4, .int 0), (3, .ref oa), (2, .ref xm), (1, .ref x), (0, .ref b)]) hx hb dL_law_463 hl (by decide) rfl (fun ls hl => ?_)
  refine lv_aload_n hx hb dL_law_465 rfl (lv_at hl 3 rfl) ?_
  refine lv_aload_n hx hb dL_law_466 rfl (lv_at hl 5 rfl) ?_
  refine lv_iload hx hb dL_law_467 (lv_at hl 1 rfl) ?_
  refine lv_iconst (v := 1) hx hb dL_law_469 (by decide) ?_
  refine lv_iadd hx hb dL_law_470 ?_
  rw [show (0 : Int32) + 1 = 1 from by decide]
  refine va_sld hx hb hXs hbl hbA hS (by unfold vp_in; decide) dL_law_471 ?_
  rw [← ea1]
  refine lv_aload_n hx hb dL_law_472 rfl (lv_at hl 5 rfl) ?_
  refine lv_iload hx hb dL_law_473 (lv_at hl 1 rfl) ?_
  refine lv_iconst (v := 2) hx hb dL_law_475 (by decide) ?_
  refine lv_iadd hx hb dL_law_476 ?_
  rw [show (0 : Int32) + 2 = 2 from by decide]
  refine va_sld hx hb hXs hbl hbA hS (by unfold vp_in; decide) dL_law_477 ?_
  rw [← ea2]
  refine lv_aload_n hx hb dL_law_478 rfl (lv_at hl 5 rfl) ?_
  refine lv_iload hx hb dL_law_479 (lv_at hl 1 rfl) ?_
  refine lv_iconst (v := 3) hx hb dL_law_481 (by decide) ?_
  refine lv_iadd hx hb dL_law_482 ?_
  rw [show (0 : Int32) + 3 = 3 from by decide]
  refine va_sld hx hb hXs hbl hbA hS (by unfold vp_in; decide) dL_law_483 ?_
  rw [← ea3]
  refine lv_aload_n hx hb dL_law_484 rfl (lv_at hl 5 rfl) ?_
  refine lv_iload hx hb dL_law_485 (lv_at hl 1 rfl) ?_
  refine lv_iconst (v := 4) hx hb dL_law_487 (by decide) ?_
  refine lv_iadd hx hb dL_law_488 ?_
  rw [show (0 : Int32) + 4 = 4 from by decide]
  refine va_sld hx hb hXs hbl hbA hS (by unfold vp_in; decide) dL_law_489 ?_
  rw [← ea4]
  refine m_callVv X (ci := 8) rfl hm1 hK hw hZ hS hA (As := [.int a1, .int a2, .int a3, .int a4]) (rest := []) (c_X7_setName_0 l G dce _ M1 xm adm 0 mF1.1 mF1.2.1 a1 a2 a3 a4) (cwV 4 hts gL_law_X7_setName rfl rfl rfl (by decide +kernel) ⟨Nat.le_of_ble_eq_true rfl, Nat.le_of_ble_eq_true rfl⟩) rfl hl.1 rfl (Nat.le_of_ble_eq_true rfl) dL_law_490 (Nat.le_of_ble_eq_true rfl) (Nat.le_of_ble_eq_true rfl) (fun M11 H locs hp hw hS hz hk => ?_)
  have eM2 := hp
  have hm2 := (congrFun eM2 xm).trans (mu_s _ _ _)
  have hm2 : M11 xm = some (.inr (8, [.int (if sOK a1 then (if kOK a2 && nOK a4 then (3 : Int32) else 2) else 1), .ref (adm 1), .ref (adm 2), .ref (adm 3), .ref (adm 4), .ref (adm 5), .ref (adm 6), .ref (adm 7), .ref (adm 8), .ref (adm 9), .ref (adm 10), .ref (adm 11), .ref (adm 12), .ref (adm 13), .int 0, .ref (adm 15)])) := hm2
  refine lv_aload_n hx hb dL_law_493 rfl (lv_at hl 3 rfl) ?_
  refine m_callVi X (ci := 8) rfl hm2 hK hw hZ hS hA (As := []) (rest := []) (c_X7_thrown l G dce _ M11 xm adm (if sOK a1 then (if kOK a2 && nOK a4 then (3 : Int32) else 2) else 1) 0 hm2) (cwV 0 hts gL_law_X7_thrown rfl rfl rfl (by decide +kernel) ⟨Nat.le_of_ble_eq_true rfl, Nat.le_of_ble_eq_true rfl⟩) rfl hl.1 rfl (Nat.le_of_ble_eq_true rfl) dL_law_494 (Nat.le_of_ble_eq_true rfl) (Nat.le_of_ble_eq_true rfl) (fun r13 M12 H locs hp hw hS hz hk => ?_)
  rw [hp.2] at hw
  rw [hp.1]
  refine lv_iload hx hb dL_law_497 (lv_at hl 0 rfl) ?_
  refine lv_icmp_eq (tgt := 504) hx hb dL_law_499 (by decide) (fun _ => ?_) (fun c_499 => absurd rfl c_499)
  refine lv_goto (tgt := 1428) hx hb dL_law_504 (by decide) ?_
  exact tail _ _ _ _ _ hS (lv_sub hl [1, 5] rfl) (Nat.le_of_ble_eq_true rfl) (Nat.le_of_ble_eq_true rfl)
set_option maxHeartbeats 4000000 in
set_option maxRecDepth 100000 in
theorem law_setReference {p : Program} {l : Launch} {e : Env} {s : State} {m : MethodId} {below : List Frame} {meth : Method} {c : Code} {b : Nat} {xs : Nat → Int32} {G : gG} {dce : Nat} {A : Nat → Prop} {Q : State → Prop} (hlt : l.stackTraces = false) (X : cX p s m meth c cL_law 7 ret wsL_law RL #[Value.ref b]) (hXs : va_X b 5 xs s s.heap) (hbl : b < s.heap.size) (hbA : ¬ A b) (hK : wK G s) (hZ : wZ dce A s s.heap) (hA : ∀ q : Nat, s.heap.size ≤ q → A q) {M : gM} {x xm oa : Nat} {ad adm : Nat → Nat} {g0 : Nat → Int64} (hc : cS0 G dce M x ad) (hmF : mF G M xm adm 0) (hoa : M oa = some (.inl (G.2 2, 1, .inr (.inl g0)))) {H : Heap} {locs : List Loc} (hw : wd G A M H) (hS : va_S A s.heap H locs) {ls : Array Slot} (hl : lv_has ls 7 [(4, .int 0), (3, .ref oa), (2, .ref xm), (1, .ref x), (0, .ref b)])
    (tail : ∀ (H : Heap) (locs : List Loc) (cells slots : Nat) (ls : Array Slot), va_S A s.heap H locs → lv_has ls 7 [(4, .int 0), (0, .ref b)] → cells ≤ 600002 → slots ≤ 7302232 → W p l e room_1 s m #[Value.ref b] below meth c H locs cells slots Q (F0 m 1428 ls [])) : W p l e room_1 s m #[Value.ref b] below meth c H locs 100 80000 Q (F0 m 507 ls []) := by
  obtain ⟨hx, hb, hr, hts, hown, hlk, hml⟩ := id X
  have hX9 := hc.1
  obtain ⟨a1, ea1⟩ : ∃ z, z = xs (1 : Int32).toNatClampNeg := ⟨_, rfl⟩
  obtain ⟨a2, ea2⟩ : ∃ z, z = xs (2 : Int32).toNatClampNeg := ⟨_, rfl⟩
  obtain ⟨a3, ea3⟩ : ∃ z, z = xs (3 : Int32).toNatClampNeg := ⟨_, rfl⟩
  obtain ⟨a4, ea4⟩ : ∃ z, z = xs (4 : Int32).toNatClampNeg := ⟨_, rfl⟩
  refine lv_aload_n hx hb dL_law_507 rfl (lv_at hl 3 rfl) ?_
  refine lv_aload_n hx hb dL_law_508 rfl (lv_at hl 4 rfl) ?_
  refine lv_iload hx hb dL_law_509 (lv_at hl 0 rfl) ?_
  refine lv_iconst (v := 1) hx hb dL_law_511 (by decide) ?_
  refine lv_iadd hx hb dL_law_512 ?_
  rw [show (0 : Int32) + 1 = 1 from by decide]
  refine va_sld hx hb hXs hbl hbA hS (by unfold vp_in; decide) dL_law_513 ?_
  rw [← ea1]
  refine lv_aload_n hx hb dL_law_514 rfl (lv_at hl 4 rfl) ?_
  refine lv_iload hx hb dL_law_515 (lv_at hl 0 rfl) ?_
  refine lv_iconst (v := 2) hx hb dL_law_517 (by decide) ?_
  refine lv_iadd hx hb dL_law_518 ?_
  rw [show (0 : Int32) + 2 = 2 from by decide]
  refine va_sld hx hb hXs hbl hbA hS (by unfold vp_in; decide) dL_law_519 ?_
  rw [← ea2]
  refine lv_aload_n hx hb dL_law_520 rfl (lv_at hl 4 rfl) ?_
  refine lv_iload hx hb dL_law_521 (lv_at hl 0 rfl) ?_
  refine lv_iconst (v := 3) hx hb dL_law_523 (by decide) ?_
  refine lv_iadd hx hb dL_law_524 ?_
  rw [show (0 : Int32) + 3 = 3 from by decide]
  refine va_sld hx hb hXs hbl hbA hS (by unfold vp_in; decide) dL_law_525 ?_
  rw [← ea3]
  refine lv_aload_n hx hb dL_law_526 rfl (lv_at hl 4 rfl) ?_
  refine lv_iload hx hb dL_law_527 (lv_at hl 0 rfl) ?_
  refine lv_iconst (v := 4) hx hb dL_law_529 (by decide) ?_
  refine lv_iadd hx hb dL_law_530 ?_
  rw [show (0 : Int32) + 4 = 4 from by decide]
  refine va_sld hx hb hXs hbl hbA hS (by unfold vp_in; decide) dL_law_531 ?_
  rw [← ea4]
  refine m_callSWi X hK hw hZ hS hA (As := [.ref x, .int a1, .int a2, .int a3, .int a4]) (rest := []) (c_L_setReference_0 l G dce _ M hlt x ad hc a1 a2 a3 a4) (vx_cwSW 5 hts gL_law_L_setReference rfl rfl rfl (by decide +kernel) ⟨Nat.le_of_ble_eq_true rfl, Nat.le_of_ble_eq_true rfl⟩) rfl hl.1 rfl (Nat.le_of_ble_eq_true rfl) dL_law_532 (Nat.le_of_ble_eq_true rfl) (Nat.le_of_ble_eq_true rfl) (fun r1 M1 H locs hp hw hS => ?_)
  have er1 := hp.1
  rw [hp.1]
  have eM1 := hp.2
  have mF1 : mF G M1 xm adm 0 := by rw [eM1]; exact hmF
  have hm1 : M1 xm = some (.inr (8, [.int 0, .ref (adm 1), .ref (adm 2), .ref (adm 3), .ref (adm 4), .ref (adm 5), .ref (adm 6), .ref (adm 7), .ref (adm 8), .ref (adm 9), .ref (adm 10), .ref (adm 11), .ref (adm 12), .ref (adm 13), .int 0, .ref (adm 15)])) := mF1.1
  refine lv_istore (lv' := [(5, .int (if sOK a1 then (if kOK a2 && !(decide (a2 = 1) && decide (a4 = -1)) then (3 : Int32) else 2) else 1)), (4, .int 0), (3, .ref oa), (2, .ref xm), (1, .ref x), (0, .ref b)]) hx hb dL_law_535 hl (by decide) rfl (fun ls hl => ?_)
  refine lv_aload_n hx hb dL_law_537 rfl (lv_at hl 3 rfl) ?_
  refine lv_aload_n hx hb dL_law_538 rfl (lv_at hl 5 rfl) ?_
  refine lv_iload hx hb dL_law_539 (lv_at hl 1 rfl) ?_
  refine lv_iconst (v := 1) hx hb dL_law_541 (by decide) ?_
  refine lv_iadd hx hb dL_law_542 ?_
  rw [show (0 : Int32) + 1 = 1 from by decide]
  refine va_sld hx hb hXs hbl hbA hS (by unfold vp_in; decide) dL_law_543 ?_
  rw [← ea1]
  refine lv_aload_n hx hb dL_law_544 rfl (lv_at hl 5 rfl) ?_
  refine lv_iload hx hb dL_law_545 (lv_at hl 1 rfl) ?_
  refine lv_iconst (v := 2) hx hb dL_law_547 (by decide) ?_
  refine lv_iadd hx hb dL_law_548 ?_
  rw [show (0 : Int32) + 2 = 2 from by decide]
  refine va_sld hx hb hXs hbl hbA hS (by unfold vp_in; decide) dL_law_549 ?_
  rw [← ea2]
  refine lv_aload_n hx hb dL_law_550 rfl (lv_at hl 5 rfl) ?_
  refine lv_iload hx hb dL_law_551 (lv_at hl 1 rfl) ?_
  refine lv_iconst (v := 3) hx hb dL_law_553 (by decide) ?_
  refine lv_iadd hx hb dL_law_554 ?_
  rw [show (0 : Int32) + 3 = 3 from by decide]
  refine va_sld hx hb hXs hbl hbA hS (by unfold vp_in; decide) dL_law_555 ?_
  rw [← ea3]
  refine lv_aload_n hx hb dL_law_556 rfl (lv_at hl 5 rfl) ?_
  refine lv_iload hx hb dL_law_557 (lv_at hl 1 rfl) ?_
  refine lv_iconst (v := 4) hx hb dL_law_559 (by decide) ?_
  refine lv_iadd hx hb dL_law_560 ?_
  rw [show (0 : Int32) + 4 = 4 from by decide]
  refine va_sld hx hb hXs hbl hbA hS (by unfold vp_in; decide) dL_law_561 ?_
  rw [← ea4]
  refine m_callVv X (ci := 8) rfl hm1 hK hw hZ hS hA (As := [.int a1, .int a2, .int a3, .int a4]) (rest := []) (c_X7_setReference_0 l G dce _ M1 xm adm 0 mF1.1 mF1.2.1 a1 a2 a3 a4) (cwV 4 hts gL_law_X7_setReference rfl rfl rfl (by decide +kernel) ⟨Nat.le_of_ble_eq_true rfl, Nat.le_of_ble_eq_true rfl⟩) rfl hl.1 rfl (Nat.le_of_ble_eq_true rfl) dL_law_562 (Nat.le_of_ble_eq_true rfl) (Nat.le_of_ble_eq_true rfl) (fun M11 H locs hp hw hS hz hk => ?_)
  have eM2 := hp
  have hm2 := (congrFun eM2 xm).trans (mu_s _ _ _)
  rw [← setR_code a1 a2 a4] at hm2
  have hm2 : M11 xm = some (.inr (8, [.int (if sOK a1 then (if kOK a2 && !(decide (a2 = 1) && decide (a4 = -1)) then (3 : Int32) else 2) else 1), .ref (adm 1), .ref (adm 2), .ref (adm 3), .ref (adm 4), .ref (adm 5), .ref (adm 6), .ref (adm 7), .ref (adm 8), .ref (adm 9), .ref (adm 10), .ref (adm 11), .ref (adm 12), .ref (adm 13), .int 0, .ref (adm 15)])) := hm2
  refine lv_aload_n hx hb dL_law_565 rfl (lv_at hl 3 rfl) ?_
  refine m_callVi X (ci := 8) rfl hm2 hK hw hZ hS hA (As := []) (rest := []) (c_X7_thrown l G dce _ M11 xm adm (if sOK a1 then (if kOK a2 && !(decide (a2 = 1) && decide (a4 = -1)) then (3 : Int32) else 2) else 1) 0 hm2) (cwV 0 hts gL_law_X7_thrown rfl rfl rfl (by decide +kernel) ⟨Nat.le_of_ble_eq_true rfl, Nat.le_of_ble_eq_true rfl⟩) rfl hl.1 rfl (Nat.le_of_ble_eq_true rfl) dL_law_566 (Nat.le_of_ble_eq_true rfl) (Nat.le_of_ble_eq_true rfl) (fun r13 M12 H locs hp hw hS hz hk => ?_)
  rw [hp.2] at hw
  rw [hp.1]
  refine lv_iload hx hb dL_law_569 (lv_at hl 0 rfl) ?_
  refine lv_icmp_eq (tgt := 576) hx hb dL_law_571 (by decide) (fun _ => ?_) (fun c_571 => absurd rfl c_571)
  refine lv_goto (tgt := 1428) hx hb dL_law_576 (by decide) ?_
  exact tail _ _ _ _ _ hS (lv_sub hl [1, 5] rfl) (Nat.le_of_ble_eq_true rfl) (Nat.le_of_ble_eq_true rfl)
set_option maxHeartbeats 4000000 in
set_option maxRecDepth 100000 in
theorem law_remove {p : Program} {l : Launch} {e : Env} {s : State} {m : MethodId} {below : List Frame} {meth : Method} {c : Code} {b : Nat} {xs : Nat → Int32} {G : gG} {dce : Nat} {A : Nat → Prop} {Q : State → Prop} (hlt : l.stackTraces = false) (X : cX p s m meth c cL_law 7 ret wsL_law RL #[Value.ref b]) (hXs : va_X b 5 xs s s.heap) (hbl : b < s.heap.size) (hbA : ¬ A b) (hK : wK G s) (hZ : wZ dce A s s.heap) (hA : ∀ q : Nat, s.heap.size ≤ q → A q) {M : gM} {x xm oa : Nat} {ad adm : Nat → Nat} {g0 : Nat → Int64} (hc : cS0 G dce M x ad) (hmF : mF G M xm adm 0) (hoa : M oa = some (.inl (G.2 2, 1, .inr (.inl g0)))) {H : Heap} {locs : List Loc} (hw : wd G A M H) (hS : va_S A s.heap H locs) {ls : Array Slot} (hl : lv_has ls 7 [(4, .int 0), (3, .ref oa), (2, .ref xm), (1, .ref x), (0, .ref b)])
    (tail : ∀ (H : Heap) (locs : List Loc) (cells slots : Nat) (ls : Array Slot), va_S A s.heap H locs → lv_has ls 7 [(4, .int 0), (0, .ref b)] → cells ≤ 600002 → slots ≤ 7302232 → W p l e room_1 s m #[Value.ref b] below meth c H locs cells slots Q (F0 m 1428 ls [])) : W p l e room_1 s m #[Value.ref b] below meth c H locs 100 80000 Q (F0 m 579 ls []) := by
  obtain ⟨hx, hb, hr, hts, hown, hlk, hml⟩ := id X
  have hX9 := hc.1
  obtain ⟨a1, ea1⟩ : ∃ z, z = xs (1 : Int32).toNatClampNeg := ⟨_, rfl⟩
  obtain ⟨a2, ea2⟩ : ∃ z, z = xs (2 : Int32).toNatClampNeg := ⟨_, rfl⟩
  obtain ⟨a3, ea3⟩ : ∃ z, z = xs (3 : Int32).toNatClampNeg := ⟨_, rfl⟩
  obtain ⟨a4, ea4⟩ : ∃ z, z = xs (4 : Int32).toNatClampNeg := ⟨_, rfl⟩
  refine lv_aload_n hx hb dL_law_579 rfl (lv_at hl 3 rfl) ?_
  refine lv_aload_n hx hb dL_law_580 rfl (lv_at hl 4 rfl) ?_
  refine lv_iload hx hb dL_law_581 (lv_at hl 0 rfl) ?_
  refine lv_iconst (v := 1) hx hb dL_law_583 (by decide) ?_
  refine lv_iadd hx hb dL_law_584 ?_
  rw [show (0 : Int32) + 1 = 1 from by decide]
  refine va_sld hx hb hXs hbl hbA hS (by unfold vp_in; decide) dL_law_585 ?_
  rw [← ea1]
  refine lv_aload_n hx hb dL_law_586 rfl (lv_at hl 4 rfl) ?_
  refine lv_iload hx hb dL_law_587 (lv_at hl 0 rfl) ?_
  refine lv_iconst (v := 2) hx hb dL_law_589 (by decide) ?_
  refine lv_iadd hx hb dL_law_590 ?_
  rw [show (0 : Int32) + 2 = 2 from by decide]
  refine va_sld hx hb hXs hbl hbA hS (by unfold vp_in; decide) dL_law_591 ?_
  rw [← ea2]
  refine lv_aload_n hx hb dL_law_592 rfl (lv_at hl 4 rfl) ?_
  refine lv_iload hx hb dL_law_593 (lv_at hl 0 rfl) ?_
  refine lv_iconst (v := 3) hx hb dL_law_595 (by decide) ?_
  refine lv_iadd hx hb dL_law_596 ?_
  rw [show (0 : Int32) + 3 = 3 from by decide]
  refine va_sld hx hb hXs hbl hbA hS (by unfold vp_in; decide) dL_law_597 ?_
  rw [← ea3]
  refine lv_aload_n hx hb dL_law_598 rfl (lv_at hl 1 rfl) ?_
  refine m_callSWi X hK hw hZ hS hA (As := [.ref x, .int a1, .int a2, .int a3, .ref oa]) (rest := []) (c_L_remove_0 l G dce _ M hlt x ad hc oa g0 hoa a1 a2 a3) (vx_cwSW 5 hts gL_law_L_remove rfl rfl rfl (by decide +kernel) ⟨Nat.le_of_ble_eq_true rfl, Nat.le_of_ble_eq_true rfl⟩) rfl hl.1 rfl (Nat.le_of_ble_eq_true rfl) dL_law_599 (Nat.le_of_ble_eq_true rfl) (Nat.le_of_ble_eq_true rfl) (fun r1 M1 H locs hp hw hS => ?_)
  have er1 := hp.1
  rw [hp.1]
  obtain ⟨-, ⟨g1, ho1, hz1⟩, fr1⟩ := hp
  have mF1 := mF_fr hmF hoa fr1
  have hm1 : M1 xm = some (.inr (8, [.int 0, .ref (adm 1), .ref (adm 2), .ref (adm 3), .ref (adm 4), .ref (adm 5), .ref (adm 6), .ref (adm 7), .ref (adm 8), .ref (adm 9), .ref (adm 10), .ref (adm 11), .ref (adm 12), .ref (adm 13), .int 0, .ref (adm 15)])) := mF1.1
  refine lv_istore (lv' := [(5, .int (if sOK a1 then (if kOK a2 then (3 : Int32) else 2) else 1)), (4, .int 0), (3, .ref oa), (2, .ref xm), (1, .ref x), (0, .ref b)]) hx hb dL_law_602 hl (by decide) rfl (fun ls hl => ?_)
  refine lv_aload_n hx hb dL_law_604 rfl (lv_at hl 3 rfl) ?_
  refine lv_aload_n hx hb dL_law_605 rfl (lv_at hl 5 rfl) ?_
  refine lv_iload hx hb dL_law_606 (lv_at hl 1 rfl) ?_
  refine lv_iconst (v := 1) hx hb dL_law_608 (by decide) ?_
  refine lv_iadd hx hb dL_law_609 ?_
  rw [show (0 : Int32) + 1 = 1 from by decide]
  refine va_sld hx hb hXs hbl hbA hS (by unfold vp_in; decide) dL_law_610 ?_
  rw [← ea1]
  refine lv_aload_n hx hb dL_law_611 rfl (lv_at hl 5 rfl) ?_
  refine lv_iload hx hb dL_law_612 (lv_at hl 1 rfl) ?_
  refine lv_iconst (v := 2) hx hb dL_law_614 (by decide) ?_
  refine lv_iadd hx hb dL_law_615 ?_
  rw [show (0 : Int32) + 2 = 2 from by decide]
  refine va_sld hx hb hXs hbl hbA hS (by unfold vp_in; decide) dL_law_616 ?_
  rw [← ea2]
  refine lv_aload_n hx hb dL_law_617 rfl (lv_at hl 5 rfl) ?_
  refine lv_iload hx hb dL_law_618 (lv_at hl 1 rfl) ?_
  refine lv_iconst (v := 3) hx hb dL_law_620 (by decide) ?_
  refine lv_iadd hx hb dL_law_621 ?_
  rw [show (0 : Int32) + 3 = 3 from by decide]
  refine va_sld hx hb hXs hbl hbA hS (by unfold vp_in; decide) dL_law_622 ?_
  rw [← ea3]
  refine m_callVi X (ci := 8) rfl hm1 hK hw hZ hS hA (As := [.int a1, .int a2, .int a3]) (rest := []) (c_X7_remove_0 l G dce _ M1 xm adm 0 mF1.1 mF1.2.1 a1 a2 a3) (cwV 3 hts gL_law_X7_remove rfl rfl rfl (by decide +kernel) ⟨Nat.le_of_ble_eq_true rfl, Nat.le_of_ble_eq_true rfl⟩) rfl hl.1 rfl (Nat.le_of_ble_eq_true rfl) dL_law_623 (Nat.le_of_ble_eq_true rfl) (Nat.le_of_ble_eq_true rfl) (fun r12 M11 H locs hp hw hS hz hk => ?_)
  have eM2 := hp.2
  rw [hp.1]
  have hm2 := (congrFun eM2 xm).trans (mu_s _ _ _)
  have ho2 : M11 oa = some (.inl (G.2 2, 1, .inr (.inl g1))) := by rw [eM2]; exact mu_g ho1 (gM_ne ho1 mF1.1 (by simp [oM]))
  rw [show aC a1 a2 true = (if sOK a1 then (if kOK a2 then (3 : Int32) else 2) else 1) from by simp [aC]] at hm2
  have hm2 : M11 xm = some (.inr (8, [.int (if sOK a1 then (if kOK a2 then (3 : Int32) else 2) else 1), .ref (adm 1), .ref (adm 2), .ref (adm 3), .ref (adm 4), .ref (adm 5), .ref (adm 6), .ref (adm 7), .ref (adm 8), .ref (adm 9), .ref (adm 10), .ref (adm 11), .ref (adm 12), .ref (adm 13), .int 0, .ref (adm 15)])) := hm2
  refine lv_istore (lv' := [(6, .int 0), (5, .int (if sOK a1 then (if kOK a2 then (3 : Int32) else 2) else 1)), (4, .int 0), (3, .ref oa), (2, .ref xm), (1, .ref x), (0, .ref b)]) hx hb dL_law_626 hl (by decide) rfl (fun ls hl => ?_)
  refine lv_aload_n hx hb dL_law_628 rfl (lv_at hl 4 rfl) ?_
  refine m_callVi X (ci := 8) rfl hm2 hK hw hZ hS hA (As := []) (rest := []) (c_X7_thrown l G dce _ M11 xm adm (if sOK a1 then (if kOK a2 then (3 : Int32) else 2) else 1) 0 hm2) (cwV 0 hts gL_law_X7_thrown rfl rfl rfl (by decide +kernel) ⟨Nat.le_of_ble_eq_true rfl, Nat.le_of_ble_eq_true rfl⟩) rfl hl.1 rfl (Nat.le_of_ble_eq_true rfl) dL_law_629 (Nat.le_of_ble_eq_true rfl) (Nat.le_of_ble_eq_true rfl) (fun r14 M13 H locs hp hw hS hz hk => ?_)
  rw [hp.2] at hw
  rw [hp.1]
  refine lv_iload hx hb dL_law_632 (lv_at hl 1 rfl) ?_
  refine lv_icmp_eq (tgt := 639) hx hb dL_law_634 (by decide) (fun _ => ?_) (fun c_634 => absurd rfl c_634)
  refine lv_iload hx hb dL_law_639 (lv_at hl 1 rfl) ?_
  refine lv_if_ne (tgt := 656) hx hb dL_law_641 (by decide) (fun c_641 => ?_) (fun c_641 => ?_)
  · refine lv_goto (tgt := 1428) hx hb dL_law_656 (by decide) ?_
    exact tail _ _ _ _ _ hS (lv_sub hl [2, 6] rfl) (Nat.le_of_ble_eq_true rfl) (Nat.le_of_ble_eq_true rfl)
  · refine lv_aload_n hx hb dL_law_644 rfl (lv_at hl 3 rfl) ?_
    refine lv_iconst (v := 0) hx hb dL_law_645 (by decide) ?_
    refine m_lald X hK hw ho2 (by unfold vp_in; decide) dL_law_646 ?_
    rw [show g1 (0 : Int32).toNatClampNeg = 0 from hz1 (er1.trans c_641)]
    refine lv_iload hx hb dL_law_647 (lv_at hl 0 rfl) ?_
    refine lv_i2l hx hb dL_law_649 rfl ?_
    refine W.lcmp hx hb dL_law_650 ?_
    rw [show lg_cmp 0 (Int32.toInt64 0) = 0 from by decide]
    refine lv_if_eq (tgt := 656) hx hb dL_law_651 (by decide) (fun _ => ?_) (fun c_651 => absurd (by decide) c_651)
    refine lv_goto (tgt := 1428) hx hb dL_law_656 (by decide) ?_
    exact tail _ _ _ _ _ hS (lv_sub hl [2, 6] rfl) (Nat.le_of_ble_eq_true rfl) (Nat.le_of_ble_eq_true rfl)
set_option maxHeartbeats 4000000 in
set_option maxRecDepth 100000 in
theorem law_name {p : Program} {l : Launch} {e : Env} {s : State} {m : MethodId} {below : List Frame} {meth : Method} {c : Code} {b : Nat} {xs : Nat → Int32} {G : gG} {dce : Nat} {A : Nat → Prop} {Q : State → Prop} (hlt : l.stackTraces = false) (X : cX p s m meth c cL_law 7 ret wsL_law RL #[Value.ref b]) (hXs : va_X b 5 xs s s.heap) (hbl : b < s.heap.size) (hbA : ¬ A b) (hK : wK G s) (hZ : wZ dce A s s.heap) (hA : ∀ q : Nat, s.heap.size ≤ q → A q) {M : gM} {x xm oa : Nat} {ad adm : Nat → Nat} {g0 : Nat → Int64} (hc : cS0 G dce M x ad) (hmF : mF G M xm adm 0) (hoa : M oa = some (.inl (G.2 2, 1, .inr (.inl g0)))) {H : Heap} {locs : List Loc} (hw : wd G A M H) (hS : va_S A s.heap H locs) {ls : Array Slot} (hl : lv_has ls 7 [(4, .int 0), (3, .ref oa), (2, .ref xm), (1, .ref x), (0, .ref b)])
    (tail : ∀ (H : Heap) (locs : List Loc) (cells slots : Nat) (ls : Array Slot), va_S A s.heap H locs → lv_has ls 7 [(4, .int 0), (0, .ref b)] → cells ≤ 600002 → slots ≤ 7302232 → W p l e room_1 s m #[Value.ref b] below meth c H locs cells slots Q (F0 m 1428 ls [])) : W p l e room_1 s m #[Value.ref b] below meth c H locs 100 80000 Q (F0 m 659 ls []) := by
  obtain ⟨hx, hb, hr, hts, hown, hlk, hml⟩ := id X
  have hX9 := hc.1
  obtain ⟨a1, ea1⟩ : ∃ z, z = xs (1 : Int32).toNatClampNeg := ⟨_, rfl⟩
  obtain ⟨a2, ea2⟩ : ∃ z, z = xs (2 : Int32).toNatClampNeg := ⟨_, rfl⟩
  obtain ⟨a3, ea3⟩ : ∃ z, z = xs (3 : Int32).toNatClampNeg := ⟨_, rfl⟩
  obtain ⟨a4, ea4⟩ : ∃ z, z = xs (4 : Int32).toNatClampNeg := ⟨_, rfl⟩
  refine lv_aload_n hx hb dL_law_659 rfl (lv_at hl 3 rfl) ?_
  refine lv_aload_n hx hb dL_law_660 rfl (lv_at hl 4 rfl) ?_
  refine lv_iload hx hb dL_law_661 (lv_at hl 0 rfl) ?_
  refine lv_iconst (v := 1) hx hb dL_law_663 (by decide) ?_
  refine lv_iadd hx hb dL_law_664 ?_
  rw [show (0 : Int32) + 1 = 1 from by decide]
  refine va_sld hx hb hXs hbl hbA hS (by unfold vp_in; decide) dL_law_665 ?_
  rw [← ea1]
  refine lv_aload_n hx hb dL_law_666 rfl (lv_at hl 4 rfl) ?_
  refine lv_iload hx hb dL_law_667 (lv_at hl 0 rfl) ?_
  refine lv_iconst (v := 2) hx hb dL_law_669 (by decide) ?_
  refine lv_iadd hx hb dL_law_670 ?_
  rw [show (0 : Int32) + 2 = 2 from by decide]
  refine va_sld hx hb hXs hbl hbA hS (by unfold vp_in; decide) dL_law_671 ?_
  rw [← ea2]
  refine lv_aload_n hx hb dL_law_672 rfl (lv_at hl 4 rfl) ?_
  refine lv_iload hx hb dL_law_673 (lv_at hl 0 rfl) ?_
  refine lv_iconst (v := 3) hx hb dL_law_675 (by decide) ?_
  refine lv_iadd hx hb dL_law_676 ?_
  rw [show (0 : Int32) + 3 = 3 from by decide]
  refine va_sld hx hb hXs hbl hbA hS (by unfold vp_in; decide) dL_law_677 ?_
  rw [← ea3]
  refine lv_aload_n hx hb dL_law_678 rfl (lv_at hl 1 rfl) ?_
  refine m_callSWi X hK hw hZ hS hA (As := [.ref x, .int a1, .int a2, .int a3, .ref oa]) (rest := []) (c_L_name_0 l G dce _ M hlt x ad hc oa g0 hoa a1 a2 a3) (vx_cwSW 5 hts gL_law_L_name rfl rfl rfl (by decide +kernel) ⟨Nat.le_of_ble_eq_true rfl, Nat.le_of_ble_eq_true rfl⟩) rfl hl.1 rfl (Nat.le_of_ble_eq_true rfl) dL_law_679 (Nat.le_of_ble_eq_true rfl) (Nat.le_of_ble_eq_true rfl) (fun r1 M1 H locs hp hw hS => ?_)
  have er1 := hp.1
  rw [hp.1]
  obtain ⟨-, ⟨g1, ho1, hz1⟩, fr1⟩ := hp
  have mF1 := mF_fr hmF hoa fr1
  have hm1 : M1 xm = some (.inr (8, [.int 0, .ref (adm 1), .ref (adm 2), .ref (adm 3), .ref (adm 4), .ref (adm 5), .ref (adm 6), .ref (adm 7), .ref (adm 8), .ref (adm 9), .ref (adm 10), .ref (adm 11), .ref (adm 12), .ref (adm 13), .int 0, .ref (adm 15)])) := mF1.1
  refine lv_istore (lv' := [(5, .int (if sOK a1 then (if kOK a2 then (3 : Int32) else 2) else 1)), (4, .int 0), (3, .ref oa), (2, .ref xm), (1, .ref x), (0, .ref b)]) hx hb dL_law_682 hl (by decide) rfl (fun ls hl => ?_)
  refine lv_aload_n hx hb dL_law_684 rfl (lv_at hl 3 rfl) ?_
  refine lv_aload_n hx hb dL_law_685 rfl (lv_at hl 5 rfl) ?_
  refine lv_iload hx hb dL_law_686 (lv_at hl 1 rfl) ?_
  refine lv_iconst (v := 1) hx hb dL_law_688 (by decide) ?_
  refine lv_iadd hx hb dL_law_689 ?_
  rw [show (0 : Int32) + 1 = 1 from by decide]
  refine va_sld hx hb hXs hbl hbA hS (by unfold vp_in; decide) dL_law_690 ?_
  rw [← ea1]
  refine lv_aload_n hx hb dL_law_691 rfl (lv_at hl 5 rfl) ?_
  refine lv_iload hx hb dL_law_692 (lv_at hl 1 rfl) ?_
  refine lv_iconst (v := 2) hx hb dL_law_694 (by decide) ?_
  refine lv_iadd hx hb dL_law_695 ?_
  rw [show (0 : Int32) + 2 = 2 from by decide]
  refine va_sld hx hb hXs hbl hbA hS (by unfold vp_in; decide) dL_law_696 ?_
  rw [← ea2]
  refine lv_aload_n hx hb dL_law_697 rfl (lv_at hl 5 rfl) ?_
  refine lv_iload hx hb dL_law_698 (lv_at hl 1 rfl) ?_
  refine lv_iconst (v := 3) hx hb dL_law_700 (by decide) ?_
  refine lv_iadd hx hb dL_law_701 ?_
  rw [show (0 : Int32) + 3 = 3 from by decide]
  refine va_sld hx hb hXs hbl hbA hS (by unfold vp_in; decide) dL_law_702 ?_
  rw [← ea3]
  refine m_callVi X (ci := 8) rfl hm1 hK hw hZ hS hA (As := [.int a1, .int a2, .int a3]) (rest := []) (c_X7_name_0 l G dce _ M1 xm adm 0 mF1.1 mF1.2.1 a1 a2 a3) (cwV 3 hts gL_law_X7_name rfl rfl rfl (by decide +kernel) ⟨Nat.le_of_ble_eq_true rfl, Nat.le_of_ble_eq_true rfl⟩) rfl hl.1 rfl (Nat.le_of_ble_eq_true rfl) dL_law_703 (Nat.le_of_ble_eq_true rfl) (Nat.le_of_ble_eq_true rfl) (fun r12 M11 H locs hp hw hS hz hk => ?_)
  have eM2 := hp.2
  rw [hp.1]
  have hm2 := (congrFun eM2 xm).trans (mu_s _ _ _)
  have ho2 : M11 oa = some (.inl (G.2 2, 1, .inr (.inl g1))) := by rw [eM2]; exact mu_g ho1 (gM_ne ho1 mF1.1 (by simp [oM]))
  rw [show aC a1 a2 true = (if sOK a1 then (if kOK a2 then (3 : Int32) else 2) else 1) from by simp [aC]] at hm2
  have hm2 : M11 xm = some (.inr (8, [.int (if sOK a1 then (if kOK a2 then (3 : Int32) else 2) else 1), .ref (adm 1), .ref (adm 2), .ref (adm 3), .ref (adm 4), .ref (adm 5), .ref (adm 6), .ref (adm 7), .ref (adm 8), .ref (adm 9), .ref (adm 10), .ref (adm 11), .ref (adm 12), .ref (adm 13), .int 0, .ref (adm 15)])) := hm2
  refine lv_istore (lv' := [(6, .int 0), (5, .int (if sOK a1 then (if kOK a2 then (3 : Int32) else 2) else 1)), (4, .int 0), (3, .ref oa), (2, .ref xm), (1, .ref x), (0, .ref b)]) hx hb dL_law_706 hl (by decide) rfl (fun ls hl => ?_)
  refine lv_aload_n hx hb dL_law_708 rfl (lv_at hl 4 rfl) ?_
  refine m_callVi X (ci := 8) rfl hm2 hK hw hZ hS hA (As := []) (rest := []) (c_X7_thrown l G dce _ M11 xm adm (if sOK a1 then (if kOK a2 then (3 : Int32) else 2) else 1) 0 hm2) (cwV 0 hts gL_law_X7_thrown rfl rfl rfl (by decide +kernel) ⟨Nat.le_of_ble_eq_true rfl, Nat.le_of_ble_eq_true rfl⟩) rfl hl.1 rfl (Nat.le_of_ble_eq_true rfl) dL_law_709 (Nat.le_of_ble_eq_true rfl) (Nat.le_of_ble_eq_true rfl) (fun r14 M13 H locs hp hw hS hz hk => ?_)
  rw [hp.2] at hw
  rw [hp.1]
  refine lv_iload hx hb dL_law_712 (lv_at hl 1 rfl) ?_
  refine lv_icmp_eq (tgt := 719) hx hb dL_law_714 (by decide) (fun _ => ?_) (fun c_714 => absurd rfl c_714)
  refine lv_iload hx hb dL_law_719 (lv_at hl 1 rfl) ?_
  refine lv_if_ne (tgt := 736) hx hb dL_law_721 (by decide) (fun c_721 => ?_) (fun c_721 => ?_)
  · refine lv_goto (tgt := 1428) hx hb dL_law_736 (by decide) ?_
    exact tail _ _ _ _ _ hS (lv_sub hl [2, 6] rfl) (Nat.le_of_ble_eq_true rfl) (Nat.le_of_ble_eq_true rfl)
  · refine lv_aload_n hx hb dL_law_724 rfl (lv_at hl 3 rfl) ?_
    refine lv_iconst (v := 0) hx hb dL_law_725 (by decide) ?_
    refine m_lald X hK hw ho2 (by unfold vp_in; decide) dL_law_726 ?_
    rw [show g1 (0 : Int32).toNatClampNeg = 0 from hz1 (er1.trans c_721)]
    refine lv_iload hx hb dL_law_727 (lv_at hl 0 rfl) ?_
    refine lv_i2l hx hb dL_law_729 rfl ?_
    refine W.lcmp hx hb dL_law_730 ?_
    rw [show lg_cmp 0 (Int32.toInt64 0) = 0 from by decide]
    refine lv_if_eq (tgt := 736) hx hb dL_law_731 (by decide) (fun _ => ?_) (fun c_731 => absurd (by decide) c_731)
    refine lv_goto (tgt := 1428) hx hb dL_law_736 (by decide) ?_
    exact tail _ _ _ _ _ hS (lv_sub hl [2, 6] rfl) (Nat.le_of_ble_eq_true rfl) (Nat.le_of_ble_eq_true rfl)
set_option maxHeartbeats 4000000 in
set_option maxRecDepth 100000 in
theorem law_reference {p : Program} {l : Launch} {e : Env} {s : State} {m : MethodId} {below : List Frame} {meth : Method} {c : Code} {b : Nat} {xs : Nat → Int32} {G : gG} {dce : Nat} {A : Nat → Prop} {Q : State → Prop} (hlt : l.stackTraces = false) (X : cX p s m meth c cL_law 7 ret wsL_law RL #[Value.ref b]) (hXs : va_X b 5 xs s s.heap) (hbl : b < s.heap.size) (hbA : ¬ A b) (hK : wK G s) (hZ : wZ dce A s s.heap) (hA : ∀ q : Nat, s.heap.size ≤ q → A q) {M : gM} {x xm oa : Nat} {ad adm : Nat → Nat} {g0 : Nat → Int64} (hc : cS0 G dce M x ad) (hmF : mF G M xm adm 0) (hoa : M oa = some (.inl (G.2 2, 1, .inr (.inl g0)))) {H : Heap} {locs : List Loc} (hw : wd G A M H) (hS : va_S A s.heap H locs) {ls : Array Slot} (hl : lv_has ls 7 [(4, .int 0), (3, .ref oa), (2, .ref xm), (1, .ref x), (0, .ref b)])
    (tail : ∀ (H : Heap) (locs : List Loc) (cells slots : Nat) (ls : Array Slot), va_S A s.heap H locs → lv_has ls 7 [(4, .int 0), (0, .ref b)] → cells ≤ 600002 → slots ≤ 7302232 → W p l e room_1 s m #[Value.ref b] below meth c H locs cells slots Q (F0 m 1428 ls [])) : W p l e room_1 s m #[Value.ref b] below meth c H locs 100 80000 Q (F0 m 739 ls []) := by
  obtain ⟨hx, hb, hr, hts, hown, hlk, hml⟩ := id X
  have hX9 := hc.1
  obtain ⟨a1, ea1⟩ : ∃ z, z = xs (1 : Int32).toNatClampNeg := ⟨_, rfl⟩
  obtain ⟨a2, ea2⟩ : ∃ z, z = xs (2 : Int32).toNatClampNeg := ⟨_, rfl⟩
  obtain ⟨a3, ea3⟩ : ∃ z, z = xs (3 : Int32).toNatClampNeg := ⟨_, rfl⟩
  obtain ⟨a4, ea4⟩ : ∃ z, z = xs (4 : Int32).toNatClampNeg := ⟨_, rfl⟩
  refine lv_aload_n hx hb dL_law_739 rfl (lv_at hl 3 rfl) ?_
  refine lv_aload_n hx hb dL_law_740 rfl (lv_at hl 4 rfl) ?_
  refine lv_iload hx hb dL_law_741 (lv_at hl 0 rfl) ?_
  refine lv_iconst (v := 1) hx hb dL_law_743 (by decide) ?_
  refine lv_iadd hx hb dL_law_744 ?_
  rw [show (0 : Int32) + 1 = 1 from by decide]
  refine va_sld hx hb hXs hbl hbA hS (by unfold vp_in; decide) dL_law_745 ?_
  rw [← ea1]
  refine lv_aload_n hx hb dL_law_746 rfl (lv_at hl 4 rfl) ?_
  refine lv_iload hx hb dL_law_747 (lv_at hl 0 rfl) ?_
  refine lv_iconst (v := 2) hx hb dL_law_749 (by decide) ?_
  refine lv_iadd hx hb dL_law_750 ?_
  rw [show (0 : Int32) + 2 = 2 from by decide]
  refine va_sld hx hb hXs hbl hbA hS (by unfold vp_in; decide) dL_law_751 ?_
  rw [← ea2]
  refine lv_aload_n hx hb dL_law_752 rfl (lv_at hl 4 rfl) ?_
  refine lv_iload hx hb dL_law_753 (lv_at hl 0 rfl) ?_
  refine lv_iconst (v := 3) hx hb dL_law_755 (by decide) ?_
  refine lv_iadd hx hb dL_law_756 ?_
  rw [show (0 : Int32) + 3 = 3 from by decide]
  refine va_sld hx hb hXs hbl hbA hS (by unfold vp_in; decide) dL_law_757 ?_
  rw [← ea3]
  refine lv_aload_n hx hb dL_law_758 rfl (lv_at hl 1 rfl) ?_
  refine m_callSWi X hK hw hZ hS hA (As := [.ref x, .int a1, .int a2, .int a3, .ref oa]) (rest := []) (c_L_reference_0 l G dce _ M hlt x ad hc oa g0 hoa a1 a2 a3) (vx_cwSW 5 hts gL_law_L_reference rfl rfl rfl (by decide +kernel) ⟨Nat.le_of_ble_eq_true rfl, Nat.le_of_ble_eq_true rfl⟩) rfl hl.1 rfl (Nat.le_of_ble_eq_true rfl) dL_law_759 (Nat.le_of_ble_eq_true rfl) (Nat.le_of_ble_eq_true rfl) (fun r1 M1 H locs hp hw hS => ?_)
  have er1 := hp.1
  rw [hp.1]
  obtain ⟨-, ⟨g1, ho1, hz1⟩, fr1⟩ := hp
  have mF1 := mF_fr hmF hoa fr1
  have hm1 : M1 xm = some (.inr (8, [.int 0, .ref (adm 1), .ref (adm 2), .ref (adm 3), .ref (adm 4), .ref (adm 5), .ref (adm 6), .ref (adm 7), .ref (adm 8), .ref (adm 9), .ref (adm 10), .ref (adm 11), .ref (adm 12), .ref (adm 13), .int 0, .ref (adm 15)])) := mF1.1
  refine lv_istore (lv' := [(5, .int (if sOK a1 then (if kOK a2 then (3 : Int32) else 2) else 1)), (4, .int 0), (3, .ref oa), (2, .ref xm), (1, .ref x), (0, .ref b)]) hx hb dL_law_762 hl (by decide) rfl (fun ls hl => ?_)
  refine lv_aload_n hx hb dL_law_764 rfl (lv_at hl 3 rfl) ?_
  refine lv_aload_n hx hb dL_law_765 rfl (lv_at hl 5 rfl) ?_
  refine lv_iload hx hb dL_law_766 (lv_at hl 1 rfl) ?_
  refine lv_iconst (v := 1) hx hb dL_law_768 (by decide) ?_
  refine lv_iadd hx hb dL_law_769 ?_
  rw [show (0 : Int32) + 1 = 1 from by decide]
  refine va_sld hx hb hXs hbl hbA hS (by unfold vp_in; decide) dL_law_770 ?_
  rw [← ea1]
  refine lv_aload_n hx hb dL_law_771 rfl (lv_at hl 5 rfl) ?_
  refine lv_iload hx hb dL_law_772 (lv_at hl 1 rfl) ?_
  refine lv_iconst (v := 2) hx hb dL_law_774 (by decide) ?_
  refine lv_iadd hx hb dL_law_775 ?_
  rw [show (0 : Int32) + 2 = 2 from by decide]
  refine va_sld hx hb hXs hbl hbA hS (by unfold vp_in; decide) dL_law_776 ?_
  rw [← ea2]
  refine lv_aload_n hx hb dL_law_777 rfl (lv_at hl 5 rfl) ?_
  refine lv_iload hx hb dL_law_778 (lv_at hl 1 rfl) ?_
  refine lv_iconst (v := 3) hx hb dL_law_780 (by decide) ?_
  refine lv_iadd hx hb dL_law_781 ?_
  rw [show (0 : Int32) + 3 = 3 from by decide]
  refine va_sld hx hb hXs hbl hbA hS (by unfold vp_in; decide) dL_law_782 ?_
  rw [← ea3]
  refine m_callVi X (ci := 8) rfl hm1 hK hw hZ hS hA (As := [.int a1, .int a2, .int a3]) (rest := []) (c_X7_reference_0 l G dce _ M1 xm adm 0 mF1.1 mF1.2.1 a1 a2 a3) (cwV 3 hts gL_law_X7_reference rfl rfl rfl (by decide +kernel) ⟨Nat.le_of_ble_eq_true rfl, Nat.le_of_ble_eq_true rfl⟩) rfl hl.1 rfl (Nat.le_of_ble_eq_true rfl) dL_law_783 (Nat.le_of_ble_eq_true rfl) (Nat.le_of_ble_eq_true rfl) (fun r12 M11 H locs hp hw hS hz hk => ?_)
  have eM2 := hp.2
  rw [hp.1]
  have hm2 := (congrFun eM2 xm).trans (mu_s _ _ _)
  have ho2 : M11 oa = some (.inl (G.2 2, 1, .inr (.inl g1))) := by rw [eM2]; exact mu_g ho1 (gM_ne ho1 mF1.1 (by simp [oM]))
  rw [show aC a1 a2 true = (if sOK a1 then (if kOK a2 then (3 : Int32) else 2) else 1) from by simp [aC]] at hm2
  have hm2 : M11 xm = some (.inr (8, [.int (if sOK a1 then (if kOK a2 then (3 : Int32) else 2) else 1), .ref (adm 1), .ref (adm 2), .ref (adm 3), .ref (adm 4), .ref (adm 5), .ref (adm 6), .ref (adm 7), .ref (adm 8), .ref (adm 9), .ref (adm 10), .ref (adm 11), .ref (adm 12), .ref (adm 13), .int 0, .ref (adm 15)])) := hm2
  refine lv_istore (lv' := [(6, .int 0), (5, .int (if sOK a1 then (if kOK a2 then (3 : Int32) else 2) else 1)), (4, .int 0), (3, .ref oa), (2, .ref xm), (1, .ref x), (0, .ref b)]) hx hb dL_law_786 hl (by decide) rfl (fun ls hl => ?_)
  refine lv_aload_n hx hb dL_law_788 rfl (lv_at hl 4 rfl) ?_
  refine m_callVi X (ci := 8) rfl hm2 hK hw hZ hS hA (As := []) (rest := []) (c_X7_thrown l G dce _ M11 xm adm (if sOK a1 then (if kOK a2 then (3 : Int32) else 2) else 1) 0 hm2) (cwV 0 hts gL_law_X7_thrown rfl rfl rfl (by decide +kernel) ⟨Nat.le_of_ble_eq_true rfl, Nat.le_of_ble_eq_true rfl⟩) rfl hl.1 rfl (Nat.le_of_ble_eq_true rfl) dL_law_789 (Nat.le_of_ble_eq_true rfl) (Nat.le_of_ble_eq_true rfl) (fun r14 M13 H locs hp hw hS hz hk => ?_)
  rw [hp.2] at hw
  rw [hp.1]
  refine lv_iload hx hb dL_law_792 (lv_at hl 1 rfl) ?_
  refine lv_icmp_eq (tgt := 799) hx hb dL_law_794 (by decide) (fun _ => ?_) (fun c_794 => absurd rfl c_794)
  refine lv_iload hx hb dL_law_799 (lv_at hl 1 rfl) ?_
  refine lv_if_ne (tgt := 816) hx hb dL_law_801 (by decide) (fun c_801 => ?_) (fun c_801 => ?_)
  · refine lv_goto (tgt := 1428) hx hb dL_law_816 (by decide) ?_
    exact tail _ _ _ _ _ hS (lv_sub hl [2, 6] rfl) (Nat.le_of_ble_eq_true rfl) (Nat.le_of_ble_eq_true rfl)
  · refine lv_aload_n hx hb dL_law_804 rfl (lv_at hl 3 rfl) ?_
    refine lv_iconst (v := 0) hx hb dL_law_805 (by decide) ?_
    refine m_lald X hK hw ho2 (by unfold vp_in; decide) dL_law_806 ?_
    rw [show g1 (0 : Int32).toNatClampNeg = 0 from hz1 (er1.trans c_801)]
    refine lv_iload hx hb dL_law_807 (lv_at hl 0 rfl) ?_
    refine lv_i2l hx hb dL_law_809 rfl ?_
    refine W.lcmp hx hb dL_law_810 ?_
    rw [show lg_cmp 0 (Int32.toInt64 0) = 0 from by decide]
    refine lv_if_eq (tgt := 816) hx hb dL_law_811 (by decide) (fun _ => ?_) (fun c_811 => absurd (by decide) c_811)
    refine lv_goto (tgt := 1428) hx hb dL_law_816 (by decide) ?_
    exact tail _ _ _ _ _ hS (lv_sub hl [2, 6] rfl) (Nat.le_of_ble_eq_true rfl) (Nat.le_of_ble_eq_true rfl)
set_option maxHeartbeats 4000000 in
set_option maxRecDepth 100000 in
theorem law_known {p : Program} {l : Launch} {e : Env} {s : State} {m : MethodId} {below : List Frame} {meth : Method} {c : Code} {b : Nat} {xs : Nat → Int32} {G : gG} {dce : Nat} {A : Nat → Prop} {Q : State → Prop} (hlt : l.stackTraces = false) (X : cX p s m meth c cL_law 7 ret wsL_law RL #[Value.ref b]) (hXs : va_X b 5 xs s s.heap) (hbl : b < s.heap.size) (hbA : ¬ A b) (hK : wK G s) (hZ : wZ dce A s s.heap) (hA : ∀ q : Nat, s.heap.size ≤ q → A q) {M : gM} {x xm oa : Nat} {ad adm : Nat → Nat} {g0 : Nat → Int64} (hc : cS0 G dce M x ad) (hmF : mF G M xm adm 0) (hoa : M oa = some (.inl (G.2 2, 1, .inr (.inl g0)))) {H : Heap} {locs : List Loc} (hw : wd G A M H) (hS : va_S A s.heap H locs) {ls : Array Slot} (hl : lv_has ls 7 [(4, .int 0), (3, .ref oa), (2, .ref xm), (1, .ref x), (0, .ref b)])
    (tail : ∀ (H : Heap) (locs : List Loc) (cells slots : Nat) (ls : Array Slot), va_S A s.heap H locs → lv_has ls 7 [(4, .int 0), (0, .ref b)] → cells ≤ 600002 → slots ≤ 7302232 → W p l e room_1 s m #[Value.ref b] below meth c H locs cells slots Q (F0 m 1428 ls [])) : W p l e room_1 s m #[Value.ref b] below meth c H locs 100 80000 Q (F0 m 819 ls []) := by
  obtain ⟨hx, hb, hr, hts, hown, hlk, hml⟩ := id X
  have hX9 := hc.1
  obtain ⟨a1, ea1⟩ : ∃ z, z = xs (1 : Int32).toNatClampNeg := ⟨_, rfl⟩
  obtain ⟨a2, ea2⟩ : ∃ z, z = xs (2 : Int32).toNatClampNeg := ⟨_, rfl⟩
  obtain ⟨a3, ea3⟩ : ∃ z, z = xs (3 : Int32).toNatClampNeg := ⟨_, rfl⟩
  obtain ⟨a4, ea4⟩ : ∃ z, z = xs (4 : Int32).toNatClampNeg := ⟨_, rfl⟩
  refine lv_aload_n hx hb dL_law_819 rfl (lv_at hl 3 rfl) ?_
  refine lv_aload_n hx hb dL_law_820 rfl (lv_at hl 4 rfl) ?_
  refine lv_iload hx hb dL_law_821 (lv_at hl 0 rfl) ?_
  refine lv_iconst (v := 1) hx hb dL_law_823 (by decide) ?_
  refine lv_iadd hx hb dL_law_824 ?_
  rw [show (0 : Int32) + 1 = 1 from by decide]
  refine va_sld hx hb hXs hbl hbA hS (by unfold vp_in; decide) dL_law_825 ?_
  rw [← ea1]
  refine lv_aload_n hx hb dL_law_826 rfl (lv_at hl 1 rfl) ?_
  refine m_callSWi X hK hw hZ hS hA (As := [.ref x, .int a1, .ref oa]) (rest := []) (c_L_known_0 l G dce _ M hlt x ad hc oa g0 hoa a1) (vx_cwSW 3 hts gL_law_L_known rfl rfl rfl (by decide +kernel) ⟨Nat.le_of_ble_eq_true rfl, Nat.le_of_ble_eq_true rfl⟩) rfl hl.1 rfl (Nat.le_of_ble_eq_true rfl) dL_law_827 (Nat.le_of_ble_eq_true rfl) (Nat.le_of_ble_eq_true rfl) (fun r1 M1 H locs hp hw hS => ?_)
  have er1 := hp.1
  rw [hp.1]
  obtain ⟨-, ⟨g1, ho1, hz1⟩, fr1⟩ := hp
  have mF1 := mF_fr hmF hoa fr1
  have hm1 : M1 xm = some (.inr (8, [.int 0, .ref (adm 1), .ref (adm 2), .ref (adm 3), .ref (adm 4), .ref (adm 5), .ref (adm 6), .ref (adm 7), .ref (adm 8), .ref (adm 9), .ref (adm 10), .ref (adm 11), .ref (adm 12), .ref (adm 13), .int 0, .ref (adm 15)])) := mF1.1
  refine lv_istore (lv' := [(5, .int (if sOK a1 then (0 : Int32) else 1)), (4, .int 0), (3, .ref oa), (2, .ref xm), (1, .ref x), (0, .ref b)]) hx hb dL_law_830 hl (by decide) rfl (fun ls hl => ?_)
  refine lv_aload_n hx hb dL_law_832 rfl (lv_at hl 3 rfl) ?_
  refine lv_aload_n hx hb dL_law_833 rfl (lv_at hl 5 rfl) ?_
  refine lv_iload hx hb dL_law_834 (lv_at hl 1 rfl) ?_
  refine lv_iconst (v := 1) hx hb dL_law_836 (by decide) ?_
  refine lv_iadd hx hb dL_law_837 ?_
  rw [show (0 : Int32) + 1 = 1 from by decide]
  refine va_sld hx hb hXs hbl hbA hS (by unfold vp_in; decide) dL_law_838 ?_
  rw [← ea1]
  refine m_callVi X (ci := 8) rfl hm1 hK hw hZ hS hA (As := [.int a1]) (rest := []) (c_X7_known_0 l G dce _ M1 xm adm 0 mF1.1 mF1.2.1 a1) (cwV 1 hts gL_law_X7_known rfl rfl rfl (by decide +kernel) ⟨Nat.le_of_ble_eq_true rfl, Nat.le_of_ble_eq_true rfl⟩) rfl hl.1 rfl (Nat.le_of_ble_eq_true rfl) dL_law_839 (Nat.le_of_ble_eq_true rfl) (Nat.le_of_ble_eq_true rfl) (fun r12 M11 H locs hp hw hS hz hk => ?_)
  have eM2 := hp.2
  rw [hp.1]
  have hm2 := (congrFun eM2 xm).trans (mu_s _ _ _)
  have ho2 : M11 oa = some (.inl (G.2 2, 1, .inr (.inl g1))) := by rw [eM2]; exact mu_g ho1 (gM_ne ho1 mF1.1 (by simp [oM]))
  have hm2 : M11 xm = some (.inr (8, [.int (if sOK a1 then (0 : Int32) else 1), .ref (adm 1), .ref (adm 2), .ref (adm 3), .ref (adm 4), .ref (adm 5), .ref (adm 6), .ref (adm 7), .ref (adm 8), .ref (adm 9), .ref (adm 10), .ref (adm 11), .ref (adm 12), .ref (adm 13), .int 0, .ref (adm 15)])) := hm2
  refine lv_istore (lv' := [(6, .int 0), (5, .int (if sOK a1 then (0 : Int32) else 1)), (4, .int 0), (3, .ref oa), (2, .ref xm), (1, .ref x), (0, .ref b)]) hx hb dL_law_842 hl (by decide) rfl (fun ls hl => ?_)
  refine lv_aload_n hx hb dL_law_844 rfl (lv_at hl 4 rfl) ?_
  refine m_callVi X (ci := 8) rfl hm2 hK hw hZ hS hA (As := []) (rest := []) (c_X7_thrown l G dce _ M11 xm adm (if sOK a1 then (0 : Int32) else 1) 0 hm2) (cwV 0 hts gL_law_X7_thrown rfl rfl rfl (by decide +kernel) ⟨Nat.le_of_ble_eq_true rfl, Nat.le_of_ble_eq_true rfl⟩) rfl hl.1 rfl (Nat.le_of_ble_eq_true rfl) dL_law_845 (Nat.le_of_ble_eq_true rfl) (Nat.le_of_ble_eq_true rfl) (fun r14 M13 H locs hp hw hS hz hk => ?_)
  rw [hp.2] at hw
  rw [hp.1]
  refine lv_iload hx hb dL_law_848 (lv_at hl 1 rfl) ?_
  refine lv_icmp_eq (tgt := 855) hx hb dL_law_850 (by decide) (fun _ => ?_) (fun c_850 => absurd rfl c_850)
  refine lv_iload hx hb dL_law_855 (lv_at hl 1 rfl) ?_
  refine lv_if_ne (tgt := 872) hx hb dL_law_857 (by decide) (fun c_857 => ?_) (fun c_857 => ?_)
  · refine lv_goto (tgt := 1428) hx hb dL_law_872 (by decide) ?_
    exact tail _ _ _ _ _ hS (lv_sub hl [2, 6] rfl) (Nat.le_of_ble_eq_true rfl) (Nat.le_of_ble_eq_true rfl)
  · refine lv_aload_n hx hb dL_law_860 rfl (lv_at hl 3 rfl) ?_
    refine lv_iconst (v := 0) hx hb dL_law_861 (by decide) ?_
    refine m_lald X hK hw ho2 (by unfold vp_in; decide) dL_law_862 ?_
    rw [show g1 (0 : Int32).toNatClampNeg = 0 from hz1 (er1.trans c_857)]
    refine lv_iload hx hb dL_law_863 (lv_at hl 0 rfl) ?_
    refine lv_i2l hx hb dL_law_865 rfl ?_
    refine W.lcmp hx hb dL_law_866 ?_
    rw [show lg_cmp 0 (Int32.toInt64 0) = 0 from by decide]
    refine lv_if_eq (tgt := 872) hx hb dL_law_867 (by decide) (fun _ => ?_) (fun c_867 => absurd (by decide) c_867)
    refine lv_goto (tgt := 1428) hx hb dL_law_872 (by decide) ?_
    exact tail _ _ _ _ _ hS (lv_sub hl [2, 6] rfl) (Nat.le_of_ble_eq_true rfl) (Nat.le_of_ble_eq_true rfl)
set_option maxHeartbeats 4000000 in
set_option maxRecDepth 100000 in
theorem law_dirty {p : Program} {l : Launch} {e : Env} {s : State} {m : MethodId} {below : List Frame} {meth : Method} {c : Code} {b : Nat} {xs : Nat → Int32} {G : gG} {dce : Nat} {A : Nat → Prop} {Q : State → Prop} (hlt : l.stackTraces = false) (X : cX p s m meth c cL_law 7 ret wsL_law RL #[Value.ref b]) (hXs : va_X b 5 xs s s.heap) (hbl : b < s.heap.size) (hbA : ¬ A b) (hK : wK G s) (hZ : wZ dce A s s.heap) (hA : ∀ q : Nat, s.heap.size ≤ q → A q) {M : gM} {x xm oa : Nat} {ad adm : Nat → Nat} {g0 : Nat → Int64} (hc : cS0 G dce M x ad) (hmF : mF G M xm adm 0) (hoa : M oa = some (.inl (G.2 2, 1, .inr (.inl g0)))) {H : Heap} {locs : List Loc} (hw : wd G A M H) (hS : va_S A s.heap H locs) {ls : Array Slot} (hl : lv_has ls 7 [(4, .int 0), (3, .ref oa), (2, .ref xm), (1, .ref x), (0, .ref b)])
    (tail : ∀ (H : Heap) (locs : List Loc) (cells slots : Nat) (ls : Array Slot), va_S A s.heap H locs → lv_has ls 7 [(4, .int 0), (0, .ref b)] → cells ≤ 600002 → slots ≤ 7302232 → W p l e room_1 s m #[Value.ref b] below meth c H locs cells slots Q (F0 m 1428 ls [])) : W p l e room_1 s m #[Value.ref b] below meth c H locs 100 80000 Q (F0 m 875 ls []) := by
  obtain ⟨hx, hb, hr, hts, hown, hlk, hml⟩ := id X
  have hX9 := hc.1
  obtain ⟨a1, ea1⟩ : ∃ z, z = xs (1 : Int32).toNatClampNeg := ⟨_, rfl⟩
  obtain ⟨a2, ea2⟩ : ∃ z, z = xs (2 : Int32).toNatClampNeg := ⟨_, rfl⟩
  obtain ⟨a3, ea3⟩ : ∃ z, z = xs (3 : Int32).toNatClampNeg := ⟨_, rfl⟩
  obtain ⟨a4, ea4⟩ : ∃ z, z = xs (4 : Int32).toNatClampNeg := ⟨_, rfl⟩
  refine lv_aload_n hx hb dL_law_875 rfl (lv_at hl 3 rfl) ?_
  refine lv_aload_n hx hb dL_law_876 rfl (lv_at hl 4 rfl) ?_
  refine lv_iload hx hb dL_law_877 (lv_at hl 0 rfl) ?_
  refine lv_iconst (v := 1) hx hb dL_law_879 (by decide) ?_
  refine lv_iadd hx hb dL_law_880 ?_
  rw [show (0 : Int32) + 1 = 1 from by decide]
  refine va_sld hx hb hXs hbl hbA hS (by unfold vp_in; decide) dL_law_881 ?_
  rw [← ea1]
  refine lv_aload_n hx hb dL_law_882 rfl (lv_at hl 1 rfl) ?_
  refine m_callSWi X hK hw hZ hS hA (As := [.ref x, .int a1, .ref oa]) (rest := []) (c_L_dirty_0 l G dce _ M hlt x ad hc oa g0 hoa a1) (vx_cwSW 3 hts gL_law_L_dirty rfl rfl rfl (by decide +kernel) ⟨Nat.le_of_ble_eq_true rfl, Nat.le_of_ble_eq_true rfl⟩) rfl hl.1 rfl (Nat.le_of_ble_eq_true rfl) dL_law_883 (Nat.le_of_ble_eq_true rfl) (Nat.le_of_ble_eq_true rfl) (fun r1 M1 H locs hp hw hS => ?_)
  have er1 := hp.1
  rw [hp.1]
  obtain ⟨-, ⟨g1, ho1, hz1⟩, fr1⟩ := hp
  have mF1 := mF_fr hmF hoa fr1
  have hm1 : M1 xm = some (.inr (8, [.int 0, .ref (adm 1), .ref (adm 2), .ref (adm 3), .ref (adm 4), .ref (adm 5), .ref (adm 6), .ref (adm 7), .ref (adm 8), .ref (adm 9), .ref (adm 10), .ref (adm 11), .ref (adm 12), .ref (adm 13), .int 0, .ref (adm 15)])) := mF1.1
  refine lv_istore (lv' := [(5, .int (if sOK a1 then (0 : Int32) else 1)), (4, .int 0), (3, .ref oa), (2, .ref xm), (1, .ref x), (0, .ref b)]) hx hb dL_law_886 hl (by decide) rfl (fun ls hl => ?_)
  refine lv_aload_n hx hb dL_law_888 rfl (lv_at hl 3 rfl) ?_
  refine lv_aload_n hx hb dL_law_889 rfl (lv_at hl 5 rfl) ?_
  refine lv_iload hx hb dL_law_890 (lv_at hl 1 rfl) ?_
  refine lv_iconst (v := 1) hx hb dL_law_892 (by decide) ?_
  refine lv_iadd hx hb dL_law_893 ?_
  rw [show (0 : Int32) + 1 = 1 from by decide]
  refine va_sld hx hb hXs hbl hbA hS (by unfold vp_in; decide) dL_law_894 ?_
  rw [← ea1]
  refine m_callVi X (ci := 8) rfl hm1 hK hw hZ hS hA (As := [.int a1]) (rest := []) (c_X7_dirty_0 l G dce _ M1 xm adm 0 mF1.1 mF1.2.1 a1) (cwV 1 hts gL_law_X7_dirty rfl rfl rfl (by decide +kernel) ⟨Nat.le_of_ble_eq_true rfl, Nat.le_of_ble_eq_true rfl⟩) rfl hl.1 rfl (Nat.le_of_ble_eq_true rfl) dL_law_895 (Nat.le_of_ble_eq_true rfl) (Nat.le_of_ble_eq_true rfl) (fun r12 M11 H locs hp hw hS hz hk => ?_)
  have eM2 := hp.2
  rw [hp.1]
  have hm2 := (congrFun eM2 xm).trans (mu_s _ _ _)
  have ho2 : M11 oa = some (.inl (G.2 2, 1, .inr (.inl g1))) := by rw [eM2]; exact mu_g ho1 (gM_ne ho1 mF1.1 (by simp [oM]))
  have hm2 : M11 xm = some (.inr (8, [.int (if sOK a1 then (0 : Int32) else 1), .ref (adm 1), .ref (adm 2), .ref (adm 3), .ref (adm 4), .ref (adm 5), .ref (adm 6), .ref (adm 7), .ref (adm 8), .ref (adm 9), .ref (adm 10), .ref (adm 11), .ref (adm 12), .ref (adm 13), .int 0, .ref (adm 15)])) := hm2
  refine lv_istore (lv' := [(6, .int 0), (5, .int (if sOK a1 then (0 : Int32) else 1)), (4, .int 0), (3, .ref oa), (2, .ref xm), (1, .ref x), (0, .ref b)]) hx hb dL_law_898 hl (by decide) rfl (fun ls hl => ?_)
  refine lv_aload_n hx hb dL_law_900 rfl (lv_at hl 4 rfl) ?_
  refine m_callVi X (ci := 8) rfl hm2 hK hw hZ hS hA (As := []) (rest := []) (c_X7_thrown l G dce _ M11 xm adm (if sOK a1 then (0 : Int32) else 1) 0 hm2) (cwV 0 hts gL_law_X7_thrown rfl rfl rfl (by decide +kernel) ⟨Nat.le_of_ble_eq_true rfl, Nat.le_of_ble_eq_true rfl⟩) rfl hl.1 rfl (Nat.le_of_ble_eq_true rfl) dL_law_901 (Nat.le_of_ble_eq_true rfl) (Nat.le_of_ble_eq_true rfl) (fun r14 M13 H locs hp hw hS hz hk => ?_)
  rw [hp.2] at hw
  rw [hp.1]
  refine lv_iload hx hb dL_law_904 (lv_at hl 1 rfl) ?_
  refine lv_icmp_eq (tgt := 911) hx hb dL_law_906 (by decide) (fun _ => ?_) (fun c_906 => absurd rfl c_906)
  refine lv_iload hx hb dL_law_911 (lv_at hl 1 rfl) ?_
  refine lv_if_ne (tgt := 928) hx hb dL_law_913 (by decide) (fun c_913 => ?_) (fun c_913 => ?_)
  · refine lv_goto (tgt := 1428) hx hb dL_law_928 (by decide) ?_
    exact tail _ _ _ _ _ hS (lv_sub hl [2, 6] rfl) (Nat.le_of_ble_eq_true rfl) (Nat.le_of_ble_eq_true rfl)
  · refine lv_aload_n hx hb dL_law_916 rfl (lv_at hl 3 rfl) ?_
    refine lv_iconst (v := 0) hx hb dL_law_917 (by decide) ?_
    refine m_lald X hK hw ho2 (by unfold vp_in; decide) dL_law_918 ?_
    rw [show g1 (0 : Int32).toNatClampNeg = 0 from hz1 (er1.trans c_913)]
    refine lv_iload hx hb dL_law_919 (lv_at hl 0 rfl) ?_
    refine lv_i2l hx hb dL_law_921 rfl ?_
    refine W.lcmp hx hb dL_law_922 ?_
    rw [show lg_cmp 0 (Int32.toInt64 0) = 0 from by decide]
    refine lv_if_eq (tgt := 928) hx hb dL_law_923 (by decide) (fun _ => ?_) (fun c_923 => absurd (by decide) c_923)
    refine lv_goto (tgt := 1428) hx hb dL_law_928 (by decide) ?_
    exact tail _ _ _ _ _ hS (lv_sub hl [2, 6] rfl) (Nat.le_of_ble_eq_true rfl) (Nat.le_of_ble_eq_true rfl)
set_option maxHeartbeats 4000000 in
set_option maxRecDepth 100000 in
theorem law_flush {p : Program} {l : Launch} {e : Env} {s : State} {m : MethodId} {below : List Frame} {meth : Method} {c : Code} {b : Nat} {xs : Nat → Int32} {G : gG} {dce : Nat} {A : Nat → Prop} {Q : State → Prop} (hlt : l.stackTraces = false) (X : cX p s m meth c cL_law 7 ret wsL_law RL #[Value.ref b]) (hXs : va_X b 5 xs s s.heap) (hbl : b < s.heap.size) (hbA : ¬ A b) (hK : wK G s) (hZ : wZ dce A s s.heap) (hA : ∀ q : Nat, s.heap.size ≤ q → A q) {M : gM} {x xm oa : Nat} {ad adm : Nat → Nat} {g0 : Nat → Int64} (hc : cS0 G dce M x ad) (hmF : mF G M xm adm 0) (hoa : M oa = some (.inl (G.2 2, 1, .inr (.inl g0)))) {H : Heap} {locs : List Loc} (hw : wd G A M H) (hS : va_S A s.heap H locs) {ls : Array Slot} (hl : lv_has ls 7 [(4, .int 0), (3, .ref oa), (2, .ref xm), (1, .ref x), (0, .ref b)])
    (tail : ∀ (H : Heap) (locs : List Loc) (cells slots : Nat) (ls : Array Slot), va_S A s.heap H locs → lv_has ls 7 [(4, .int 0), (0, .ref b)] → cells ≤ 600002 → slots ≤ 7302232 → W p l e room_1 s m #[Value.ref b] below meth c H locs cells slots Q (F0 m 1428 ls [])) : W p l e room_1 s m #[Value.ref b] below meth c H locs 100 80000 Q (F0 m 931 ls []) := by
  obtain ⟨hx, hb, hr, hts, hown, hlk, hml⟩ := id X
  have hX9 := hc.1
  obtain ⟨a1, ea1⟩ : ∃ z, z = xs (1 : Int32).toNatClampNeg := ⟨_, rfl⟩
  obtain ⟨a2, ea2⟩ : ∃ z, z = xs (2 : Int32).toNatClampNeg := ⟨_, rfl⟩
  obtain ⟨a3, ea3⟩ : ∃ z, z = xs (3 : Int32).toNatClampNeg := ⟨_, rfl⟩
  obtain ⟨a4, ea4⟩ : ∃ z, z = xs (4 : Int32).toNatClampNeg := ⟨_, rfl⟩
  refine lv_aload_n hx hb dL_law_931 rfl (lv_at hl 3 rfl) ?_
  refine lv_aload_n hx hb dL_law_932 rfl (lv_at hl 4 rfl) ?_
  refine lv_iload hx hb dL_law_933 (lv_at hl 0 rfl) ?_
  refine lv_iconst (v := 1) hx hb dL_law_935 (by decide) ?_
  refine lv_iadd hx hb dL_law_936 ?_
  rw [show (0 : Int32) + 1 = 1 from by decide]
  refine va_sld hx hb hXs hbl hbA hS (by unfold vp_in; decide) dL_law_937 ?_
  rw [← ea1]
  refine lv_aload_n hx hb dL_law_938 rfl (lv_at hl 1 rfl) ?_
  refine m_callSWi X hK hw hZ hS hA (As := [.ref x, .int a1, .ref oa]) (rest := []) (c_L_flush_0 l G dce _ M hlt x ad hc oa g0 hoa a1) (vx_cwSW 3 hts gL_law_L_flush rfl rfl rfl (by decide +kernel) ⟨Nat.le_of_ble_eq_true rfl, Nat.le_of_ble_eq_true rfl⟩) rfl hl.1 rfl (Nat.le_of_ble_eq_true rfl) dL_law_939 (Nat.le_of_ble_eq_true rfl) (Nat.le_of_ble_eq_true rfl) (fun r1 M1 H locs hp hw hS => ?_)
  have er1 := hp.1
  rw [hp.1]
  obtain ⟨-, ⟨g1, ho1, hz1⟩, fr1⟩ := hp
  have mF1 := mF_fr hmF hoa fr1
  have hm1 : M1 xm = some (.inr (8, [.int 0, .ref (adm 1), .ref (adm 2), .ref (adm 3), .ref (adm 4), .ref (adm 5), .ref (adm 6), .ref (adm 7), .ref (adm 8), .ref (adm 9), .ref (adm 10), .ref (adm 11), .ref (adm 12), .ref (adm 13), .int 0, .ref (adm 15)])) := mF1.1
  refine lv_istore (lv' := [(5, .int (if sOK a1 then (0 : Int32) else 1)), (4, .int 0), (3, .ref oa), (2, .ref xm), (1, .ref x), (0, .ref b)]) hx hb dL_law_942 hl (by decide) rfl (fun ls hl => ?_)
  refine lv_aload_n hx hb dL_law_944 rfl (lv_at hl 3 rfl) ?_
  refine lv_aload_n hx hb dL_law_945 rfl (lv_at hl 5 rfl) ?_
  refine lv_iload hx hb dL_law_946 (lv_at hl 1 rfl) ?_
  refine lv_iconst (v := 1) hx hb dL_law_948 (by decide) ?_
  refine lv_iadd hx hb dL_law_949 ?_
  rw [show (0 : Int32) + 1 = 1 from by decide]
  refine va_sld hx hb hXs hbl hbA hS (by unfold vp_in; decide) dL_law_950 ?_
  rw [← ea1]
  refine m_callVi X (ci := 8) rfl hm1 hK hw hZ hS hA (As := [.int a1]) (rest := []) (c_X7_flush_0 l G dce _ M1 xm adm 0 mF1.1 mF1.2.1 a1) (cwV 1 hts gL_law_X7_flush rfl rfl rfl (by decide +kernel) ⟨Nat.le_of_ble_eq_true rfl, Nat.le_of_ble_eq_true rfl⟩) rfl hl.1 rfl (Nat.le_of_ble_eq_true rfl) dL_law_951 (Nat.le_of_ble_eq_true rfl) (Nat.le_of_ble_eq_true rfl) (fun r12 M11 H locs hp hw hS hz hk => ?_)
  have eM2 := hp.2
  rw [hp.1]
  have hm2 := (congrFun eM2 xm).trans (mu_s _ _ _)
  have ho2 : M11 oa = some (.inl (G.2 2, 1, .inr (.inl g1))) := by rw [eM2]; exact mu_g ho1 (gM_ne ho1 mF1.1 (by simp [oM]))
  have hm2 : M11 xm = some (.inr (8, [.int (if sOK a1 then (0 : Int32) else 1), .ref (adm 1), .ref (adm 2), .ref (adm 3), .ref (adm 4), .ref (adm 5), .ref (adm 6), .ref (adm 7), .ref (adm 8), .ref (adm 9), .ref (adm 10), .ref (adm 11), .ref (adm 12), .ref (adm 13), .int 0, .ref (adm 15)])) := hm2
  refine lv_istore (lv' := [(6, .int 0), (5, .int (if sOK a1 then (0 : Int32) else 1)), (4, .int 0), (3, .ref oa), (2, .ref xm), (1, .ref x), (0, .ref b)]) hx hb dL_law_954 hl (by decide) rfl (fun ls hl => ?_)
  refine lv_aload_n hx hb dL_law_956 rfl (lv_at hl 4 rfl) ?_
  refine m_callVi X (ci := 8) rfl hm2 hK hw hZ hS hA (As := []) (rest := []) (c_X7_thrown l G dce _ M11 xm adm (if sOK a1 then (0 : Int32) else 1) 0 hm2) (cwV 0 hts gL_law_X7_thrown rfl rfl rfl (by decide +kernel) ⟨Nat.le_of_ble_eq_true rfl, Nat.le_of_ble_eq_true rfl⟩) rfl hl.1 rfl (Nat.le_of_ble_eq_true rfl) dL_law_957 (Nat.le_of_ble_eq_true rfl) (Nat.le_of_ble_eq_true rfl) (fun r14 M13 H locs hp hw hS hz hk => ?_)
  rw [hp.2] at hw
  rw [hp.1]
  refine lv_iload hx hb dL_law_960 (lv_at hl 1 rfl) ?_
  refine lv_icmp_eq (tgt := 967) hx hb dL_law_962 (by decide) (fun _ => ?_) (fun c_962 => absurd rfl c_962)
  refine lv_iload hx hb dL_law_967 (lv_at hl 1 rfl) ?_
  refine lv_if_ne (tgt := 984) hx hb dL_law_969 (by decide) (fun c_969 => ?_) (fun c_969 => ?_)
  · refine lv_goto (tgt := 1428) hx hb dL_law_984 (by decide) ?_
    exact tail _ _ _ _ _ hS (lv_sub hl [2, 6] rfl) (Nat.le_of_ble_eq_true rfl) (Nat.le_of_ble_eq_true rfl)
  · refine lv_aload_n hx hb dL_law_972 rfl (lv_at hl 3 rfl) ?_
    refine lv_iconst (v := 0) hx hb dL_law_973 (by decide) ?_
    refine m_lald X hK hw ho2 (by unfold vp_in; decide) dL_law_974 ?_
    rw [show g1 (0 : Int32).toNatClampNeg = 0 from hz1 (er1.trans c_969)]
    refine lv_iload hx hb dL_law_975 (lv_at hl 0 rfl) ?_
    refine lv_i2l hx hb dL_law_977 rfl ?_
    refine W.lcmp hx hb dL_law_978 ?_
    rw [show lg_cmp 0 (Int32.toInt64 0) = 0 from by decide]
    refine lv_if_eq (tgt := 984) hx hb dL_law_979 (by decide) (fun _ => ?_) (fun c_979 => absurd (by decide) c_979)
    refine lv_goto (tgt := 1428) hx hb dL_law_984 (by decide) ?_
    exact tail _ _ _ _ _ hS (lv_sub hl [2, 6] rfl) (Nat.le_of_ble_eq_true rfl) (Nat.le_of_ble_eq_true rfl)
set_option maxHeartbeats 4000000 in
set_option maxRecDepth 100000 in
theorem law_clear {p : Program} {l : Launch} {e : Env} {s : State} {m : MethodId} {below : List Frame} {meth : Method} {c : Code} {b : Nat} {xs : Nat → Int32} {G : gG} {dce : Nat} {A : Nat → Prop} {Q : State → Prop} (hlt : l.stackTraces = false) (X : cX p s m meth c cL_law 7 ret wsL_law RL #[Value.ref b]) (hXs : va_X b 5 xs s s.heap) (hbl : b < s.heap.size) (hbA : ¬ A b) (hK : wK G s) (hZ : wZ dce A s s.heap) (hA : ∀ q : Nat, s.heap.size ≤ q → A q) {M : gM} {x xm oa : Nat} {ad adm : Nat → Nat} {g0 : Nat → Int64} (hc : cS0 G dce M x ad) (hmF : mF G M xm adm 0) (hoa : M oa = some (.inl (G.2 2, 1, .inr (.inl g0)))) {H : Heap} {locs : List Loc} (hw : wd G A M H) (hS : va_S A s.heap H locs) {ls : Array Slot} (hl : lv_has ls 7 [(4, .int 0), (3, .ref oa), (2, .ref xm), (1, .ref x), (0, .ref b)])
    (tail : ∀ (H : Heap) (locs : List Loc) (cells slots : Nat) (ls : Array Slot), va_S A s.heap H locs → lv_has ls 7 [(4, .int 0), (0, .ref b)] → cells ≤ 600002 → slots ≤ 7302232 → W p l e room_1 s m #[Value.ref b] below meth c H locs cells slots Q (F0 m 1428 ls [])) : W p l e room_1 s m #[Value.ref b] below meth c H locs 100 80000 Q (F0 m 987 ls []) := by
  obtain ⟨hx, hb, hr, hts, hown, hlk, hml⟩ := id X
  have hX9 := hc.1
  obtain ⟨a1, ea1⟩ : ∃ z, z = xs (1 : Int32).toNatClampNeg := ⟨_, rfl⟩
  obtain ⟨a2, ea2⟩ : ∃ z, z = xs (2 : Int32).toNatClampNeg := ⟨_, rfl⟩
  obtain ⟨a3, ea3⟩ : ∃ z, z = xs (3 : Int32).toNatClampNeg := ⟨_, rfl⟩
  obtain ⟨a4, ea4⟩ : ∃ z, z = xs (4 : Int32).toNatClampNeg := ⟨_, rfl⟩
  refine lv_aload_n hx hb dL_law_987 rfl (lv_at hl 3 rfl) ?_
  refine lv_aload_n hx hb dL_law_988 rfl (lv_at hl 4 rfl) ?_
  refine lv_iload hx hb dL_law_989 (lv_at hl 0 rfl) ?_
  refine lv_iconst (v := 1) hx hb dL_law_991 (by decide) ?_
  refine lv_iadd hx hb dL_law_992 ?_
  rw [show (0 : Int32) + 1 = 1 from by decide]
  refine va_sld hx hb hXs hbl hbA hS (by unfold vp_in; decide) dL_law_993 ?_
  rw [← ea1]
  refine lv_aload_n hx hb dL_law_994 rfl (lv_at hl 1 rfl) ?_
  refine m_callSWi X hK hw hZ hS hA (As := [.ref x, .int a1, .ref oa]) (rest := []) (c_L_clear_0 l G dce _ M hlt x ad hc oa g0 hoa a1) (vx_cwSW 3 hts gL_law_L_clear rfl rfl rfl (by decide +kernel) ⟨Nat.le_of_ble_eq_true rfl, Nat.le_of_ble_eq_true rfl⟩) rfl hl.1 rfl (Nat.le_of_ble_eq_true rfl) dL_law_995 (Nat.le_of_ble_eq_true rfl) (Nat.le_of_ble_eq_true rfl) (fun r1 M1 H locs hp hw hS => ?_)
  have er1 := hp.1
  rw [hp.1]
  obtain ⟨-, ⟨g1, ho1, hz1⟩, fr1⟩ := hp
  have mF1 := mF_fr hmF hoa fr1
  have hm1 : M1 xm = some (.inr (8, [.int 0, .ref (adm 1), .ref (adm 2), .ref (adm 3), .ref (adm 4), .ref (adm 5), .ref (adm 6), .ref (adm 7), .ref (adm 8), .ref (adm 9), .ref (adm 10), .ref (adm 11), .ref (adm 12), .ref (adm 13), .int 0, .ref (adm 15)])) := mF1.1
  refine lv_istore (lv' := [(5, .int (if sOK a1 then (0 : Int32) else 1)), (4, .int 0), (3, .ref oa), (2, .ref xm), (1, .ref x), (0, .ref b)]) hx hb dL_law_998 hl (by decide) rfl (fun ls hl => ?_)
  refine lv_aload_n hx hb dL_law_1000 rfl (lv_at hl 3 rfl) ?_
  refine lv_aload_n hx hb dL_law_1001 rfl (lv_at hl 5 rfl) ?_
  refine lv_iload hx hb dL_law_1002 (lv_at hl 1 rfl) ?_
  refine lv_iconst (v := 1) hx hb dL_law_1004 (by decide) ?_
  refine lv_iadd hx hb dL_law_1005 ?_
  rw [show (0 : Int32) + 1 = 1 from by decide]
  refine va_sld hx hb hXs hbl hbA hS (by unfold vp_in; decide) dL_law_1006 ?_
  rw [← ea1]
  refine m_callVi X (ci := 8) rfl hm1 hK hw hZ hS hA (As := [.int a1]) (rest := []) (c_X7_clear_0 l G dce _ M1 xm adm 0 mF1.1 mF1.2.1 a1) (cwV 1 hts gL_law_X7_clear rfl rfl rfl (by decide +kernel) ⟨Nat.le_of_ble_eq_true rfl, Nat.le_of_ble_eq_true rfl⟩) rfl hl.1 rfl (Nat.le_of_ble_eq_true rfl) dL_law_1007 (Nat.le_of_ble_eq_true rfl) (Nat.le_of_ble_eq_true rfl) (fun r12 M11 H locs hp hw hS hz hk => ?_)
  have eM2 := hp.2
  rw [hp.1]
  have hm2 := (congrFun eM2 xm).trans (mu_s _ _ _)
  have ho2 : M11 oa = some (.inl (G.2 2, 1, .inr (.inl g1))) := by rw [eM2]; exact mu_g ho1 (gM_ne ho1 mF1.1 (by simp [oM]))
  have hm2 : M11 xm = some (.inr (8, [.int (if sOK a1 then (0 : Int32) else 1), .ref (adm 1), .ref (adm 2), .ref (adm 3), .ref (adm 4), .ref (adm 5), .ref (adm 6), .ref (adm 7), .ref (adm 8), .ref (adm 9), .ref (adm 10), .ref (adm 11), .ref (adm 12), .ref (adm 13), .int 0, .ref (adm 15)])) := hm2
  refine lv_istore (lv' := [(6, .int 0), (5, .int (if sOK a1 then (0 : Int32) else 1)), (4, .int 0), (3, .ref oa), (2, .ref xm), (1, .ref x), (0, .ref b)]) hx hb dL_law_1010 hl (by decide) rfl (fun ls hl => ?_)
  refine lv_aload_n hx hb dL_law_1012 rfl (lv_at hl 4 rfl) ?_
  refine m_callVi X (ci := 8) rfl hm2 hK hw hZ hS hA (As := []) (rest := []) (c_X7_thrown l G dce _ M11 xm adm (if sOK a1 then (0 : Int32) else 1) 0 hm2) (cwV 0 hts gL_law_X7_thrown rfl rfl rfl (by decide +kernel) ⟨Nat.le_of_ble_eq_true rfl, Nat.le_of_ble_eq_true rfl⟩) rfl hl.1 rfl (Nat.le_of_ble_eq_true rfl) dL_law_1013 (Nat.le_of_ble_eq_true rfl) (Nat.le_of_ble_eq_true rfl) (fun r14 M13 H locs hp hw hS hz hk => ?_)
  rw [hp.2] at hw
  rw [hp.1]
  refine lv_iload hx hb dL_law_1016 (lv_at hl 1 rfl) ?_
  refine lv_icmp_eq (tgt := 1023) hx hb dL_law_1018 (by decide) (fun _ => ?_) (fun c_1018 => absurd rfl c_1018)
  refine lv_iload hx hb dL_law_1023 (lv_at hl 1 rfl) ?_
  refine lv_if_ne (tgt := 1040) hx hb dL_law_1025 (by decide) (fun c_1025 => ?_) (fun c_1025 => ?_)
  · refine lv_goto (tgt := 1428) hx hb dL_law_1040 (by decide) ?_
    exact tail _ _ _ _ _ hS (lv_sub hl [2, 6] rfl) (Nat.le_of_ble_eq_true rfl) (Nat.le_of_ble_eq_true rfl)
  · refine lv_aload_n hx hb dL_law_1028 rfl (lv_at hl 3 rfl) ?_
    refine lv_iconst (v := 0) hx hb dL_law_1029 (by decide) ?_
    refine m_lald X hK hw ho2 (by unfold vp_in; decide) dL_law_1030 ?_
    rw [show g1 (0 : Int32).toNatClampNeg = 0 from hz1 (er1.trans c_1025)]
    refine lv_iload hx hb dL_law_1031 (lv_at hl 0 rfl) ?_
    refine lv_i2l hx hb dL_law_1033 rfl ?_
    refine W.lcmp hx hb dL_law_1034 ?_
    rw [show lg_cmp 0 (Int32.toInt64 0) = 0 from by decide]
    refine lv_if_eq (tgt := 1040) hx hb dL_law_1035 (by decide) (fun _ => ?_) (fun c_1035 => absurd (by decide) c_1035)
    refine lv_goto (tgt := 1428) hx hb dL_law_1040 (by decide) ?_
    exact tail _ _ _ _ _ hS (lv_sub hl [2, 6] rfl) (Nat.le_of_ble_eq_true rfl) (Nat.le_of_ble_eq_true rfl)
set_option maxHeartbeats 4000000 in
set_option maxRecDepth 100000 in
theorem law_rows {p : Program} {l : Launch} {e : Env} {s : State} {m : MethodId} {below : List Frame} {meth : Method} {c : Code} {b : Nat} {xs : Nat → Int32} {G : gG} {dce : Nat} {A : Nat → Prop} {Q : State → Prop} (hlt : l.stackTraces = false) (X : cX p s m meth c cL_law 7 ret wsL_law RL #[Value.ref b]) (hXs : va_X b 5 xs s s.heap) (hbl : b < s.heap.size) (hbA : ¬ A b) (hK : wK G s) (hZ : wZ dce A s s.heap) (hA : ∀ q : Nat, s.heap.size ≤ q → A q) {M : gM} {x xm oa : Nat} {ad adm : Nat → Nat} {g0 : Nat → Int64} (hc : cS0 G dce M x ad) (hmF : mF G M xm adm 0) (hoa : M oa = some (.inl (G.2 2, 1, .inr (.inl g0)))) {H : Heap} {locs : List Loc} (hw : wd G A M H) (hS : va_S A s.heap H locs) {ls : Array Slot} (hl : lv_has ls 7 [(4, .int 0), (3, .ref oa), (2, .ref xm), (1, .ref x), (0, .ref b)])
    (tail : ∀ (H : Heap) (locs : List Loc) (cells slots : Nat) (ls : Array Slot), va_S A s.heap H locs → lv_has ls 7 [(4, .int 0), (0, .ref b)] → cells ≤ 600002 → slots ≤ 7302232 → W p l e room_1 s m #[Value.ref b] below meth c H locs cells slots Q (F0 m 1428 ls [])) : W p l e room_1 s m #[Value.ref b] below meth c H locs 100 80000 Q (F0 m 1043 ls []) := by
  obtain ⟨hx, hb, hr, hts, hown, hlk, hml⟩ := id X
  have hX9 := hc.1
  obtain ⟨a1, ea1⟩ : ∃ z, z = xs (1 : Int32).toNatClampNeg := ⟨_, rfl⟩
  obtain ⟨a2, ea2⟩ : ∃ z, z = xs (2 : Int32).toNatClampNeg := ⟨_, rfl⟩
  obtain ⟨a3, ea3⟩ : ∃ z, z = xs (3 : Int32).toNatClampNeg := ⟨_, rfl⟩
  obtain ⟨a4, ea4⟩ : ∃ z, z = xs (4 : Int32).toNatClampNeg := ⟨_, rfl⟩
  refine lv_aload_n hx hb dL_law_1043 rfl (lv_at hl 3 rfl) ?_
  refine lv_aload_n hx hb dL_law_1044 rfl (lv_at hl 4 rfl) ?_
  refine lv_iload hx hb dL_law_1045 (lv_at hl 0 rfl) ?_
  refine lv_iconst (v := 1) hx hb dL_law_1047 (by decide) ?_
  refine lv_iadd hx hb dL_law_1048 ?_
  rw [show (0 : Int32) + 1 = 1 from by decide]
  refine va_sld hx hb hXs hbl hbA hS (by unfold vp_in; decide) dL_law_1049 ?_
  rw [← ea1]
  refine lv_aload_n hx hb dL_law_1050 rfl (lv_at hl 1 rfl) ?_
  refine m_callSWi X hK hw hZ hS hA (As := [.ref x, .int a1, .ref oa]) (rest := []) (c_L_rows_0 l G dce _ M hlt x ad hc oa g0 hoa a1) (vx_cwSW 3 hts gL_law_L_rows rfl rfl rfl (by decide +kernel) ⟨Nat.le_of_ble_eq_true rfl, Nat.le_of_ble_eq_true rfl⟩) rfl hl.1 rfl (Nat.le_of_ble_eq_true rfl) dL_law_1051 (Nat.le_of_ble_eq_true rfl) (Nat.le_of_ble_eq_true rfl) (fun r1 M1 H locs hp hw hS => ?_)
  have er1 := hp.1
  rw [hp.1]
  obtain ⟨-, ⟨g1, ho1, hz1⟩, fr1⟩ := hp
  have mF1 := mF_fr hmF hoa fr1
  have hm1 : M1 xm = some (.inr (8, [.int 0, .ref (adm 1), .ref (adm 2), .ref (adm 3), .ref (adm 4), .ref (adm 5), .ref (adm 6), .ref (adm 7), .ref (adm 8), .ref (adm 9), .ref (adm 10), .ref (adm 11), .ref (adm 12), .ref (adm 13), .int 0, .ref (adm 15)])) := mF1.1
  refine lv_istore (lv' := [(5, .int (if kOK a1 then (0 : Int32) else 1)), (4, .int 0), (3, .ref oa), (2, .ref xm), (1, .ref x), (0, .ref b)]) hx hb dL_law_1054 hl (by decide) rfl (fun ls hl => ?_)
  refine lv_aload_n hx hb dL_law_1056 rfl (lv_at hl 3 rfl) ?_
  refine lv_aload_n hx hb dL_law_1057 rfl (lv_at hl 5 rfl) ?_
  refine lv_iload hx hb dL_law_1058 (lv_at hl 1 rfl) ?_
  refine lv_iconst (v := 1) hx hb dL_law_1060 (by decide) ?_
  refine lv_iadd hx hb dL_law_1061 ?_
  rw [show (0 : Int32) + 1 = 1 from by decide]
  refine va_sld hx hb hXs hbl hbA hS (by unfold vp_in; decide) dL_law_1062 ?_
  rw [← ea1]
  refine m_callVi X (ci := 8) rfl hm1 hK hw hZ hS hA (As := [.int a1]) (rest := []) (c_X7_rows_0 l G dce _ M1 xm adm 0 mF1.1 mF1.2.1 a1) (cwV 1 hts gL_law_X7_rows rfl rfl rfl (by decide +kernel) ⟨Nat.le_of_ble_eq_true rfl, Nat.le_of_ble_eq_true rfl⟩) rfl hl.1 rfl (Nat.le_of_ble_eq_true rfl) dL_law_1063 (Nat.le_of_ble_eq_true rfl) (Nat.le_of_ble_eq_true rfl) (fun r12 M11 H locs hp hw hS hz hk => ?_)
  have eM2 := hp.2
  rw [hp.1]
  have hm2 := (congrFun eM2 xm).trans (mu_s _ _ _)
  have ho2 : M11 oa = some (.inl (G.2 2, 1, .inr (.inl g1))) := by rw [eM2]; exact mu_g ho1 (gM_ne ho1 mF1.1 (by simp [oM]))
  have hm2 : M11 xm = some (.inr (8, [.int (if kOK a1 then (0 : Int32) else 1), .ref (adm 1), .ref (adm 2), .ref (adm 3), .ref (adm 4), .ref (adm 5), .ref (adm 6), .ref (adm 7), .ref (adm 8), .ref (adm 9), .ref (adm 10), .ref (adm 11), .ref (adm 12), .ref (adm 13), .int 0, .ref (adm 15)])) := hm2
  refine lv_istore (lv' := [(6, .int 0), (5, .int (if kOK a1 then (0 : Int32) else 1)), (4, .int 0), (3, .ref oa), (2, .ref xm), (1, .ref x), (0, .ref b)]) hx hb dL_law_1066 hl (by decide) rfl (fun ls hl => ?_)
  refine lv_aload_n hx hb dL_law_1068 rfl (lv_at hl 4 rfl) ?_
  refine m_callVi X (ci := 8) rfl hm2 hK hw hZ hS hA (As := []) (rest := []) (c_X7_thrown l G dce _ M11 xm adm (if kOK a1 then (0 : Int32) else 1) 0 hm2) (cwV 0 hts gL_law_X7_thrown rfl rfl rfl (by decide +kernel) ⟨Nat.le_of_ble_eq_true rfl, Nat.le_of_ble_eq_true rfl⟩) rfl hl.1 rfl (Nat.le_of_ble_eq_true rfl) dL_law_1069 (Nat.le_of_ble_eq_true rfl) (Nat.le_of_ble_eq_true rfl) (fun r14 M13 H locs hp hw hS hz hk => ?_)
  rw [hp.2] at hw
  rw [hp.1]
  refine lv_iload hx hb dL_law_1072 (lv_at hl 1 rfl) ?_
  refine lv_icmp_eq (tgt := 1079) hx hb dL_law_1074 (by decide) (fun _ => ?_) (fun c_1074 => absurd rfl c_1074)
  refine lv_iload hx hb dL_law_1079 (lv_at hl 1 rfl) ?_
  refine lv_if_ne (tgt := 1096) hx hb dL_law_1081 (by decide) (fun c_1081 => ?_) (fun c_1081 => ?_)
  · refine lv_goto (tgt := 1428) hx hb dL_law_1096 (by decide) ?_
    exact tail _ _ _ _ _ hS (lv_sub hl [2, 6] rfl) (Nat.le_of_ble_eq_true rfl) (Nat.le_of_ble_eq_true rfl)
  · refine lv_aload_n hx hb dL_law_1084 rfl (lv_at hl 3 rfl) ?_
    refine lv_iconst (v := 0) hx hb dL_law_1085 (by decide) ?_
    refine m_lald X hK hw ho2 (by unfold vp_in; decide) dL_law_1086 ?_
    rw [show g1 (0 : Int32).toNatClampNeg = 0 from hz1 (er1.trans c_1081)]
    refine lv_iload hx hb dL_law_1087 (lv_at hl 0 rfl) ?_
    refine lv_i2l hx hb dL_law_1089 rfl ?_
    refine W.lcmp hx hb dL_law_1090 ?_
    rw [show lg_cmp 0 (Int32.toInt64 0) = 0 from by decide]
    refine lv_if_eq (tgt := 1096) hx hb dL_law_1091 (by decide) (fun _ => ?_) (fun c_1091 => absurd (by decide) c_1091)
    refine lv_goto (tgt := 1428) hx hb dL_law_1096 (by decide) ?_
    exact tail _ _ _ _ _ hS (lv_sub hl [2, 6] rfl) (Nat.le_of_ble_eq_true rfl) (Nat.le_of_ble_eq_true rfl)
set_option maxHeartbeats 4000000 in
set_option maxRecDepth 100000 in
theorem law_rowName {p : Program} {l : Launch} {e : Env} {s : State} {m : MethodId} {below : List Frame} {meth : Method} {c : Code} {b : Nat} {xs : Nat → Int32} {G : gG} {dce : Nat} {A : Nat → Prop} {Q : State → Prop} (hlt : l.stackTraces = false) (X : cX p s m meth c cL_law 7 ret wsL_law RL #[Value.ref b]) (hXs : va_X b 5 xs s s.heap) (hbl : b < s.heap.size) (hbA : ¬ A b) (hK : wK G s) (hZ : wZ dce A s s.heap) (hA : ∀ q : Nat, s.heap.size ≤ q → A q) {M : gM} {x xm oa : Nat} {ad adm : Nat → Nat} {g0 : Nat → Int64} (hc : cS0 G dce M x ad) (hmF : mF G M xm adm 0) (hoa : M oa = some (.inl (G.2 2, 1, .inr (.inl g0)))) {H : Heap} {locs : List Loc} (hw : wd G A M H) (hS : va_S A s.heap H locs) {ls : Array Slot} (hl : lv_has ls 7 [(4, .int 0), (3, .ref oa), (2, .ref xm), (1, .ref x), (0, .ref b)])
    (tail : ∀ (H : Heap) (locs : List Loc) (cells slots : Nat) (ls : Array Slot), va_S A s.heap H locs → lv_has ls 7 [(4, .int 0), (0, .ref b)] → cells ≤ 600002 → slots ≤ 7302232 → W p l e room_1 s m #[Value.ref b] below meth c H locs cells slots Q (F0 m 1428 ls [])) : W p l e room_1 s m #[Value.ref b] below meth c H locs 100 80000 Q (F0 m 1099 ls []) := by
  obtain ⟨hx, hb, hr, hts, hown, hlk, hml⟩ := id X
  have hX9 := hc.1
  obtain ⟨a1, ea1⟩ : ∃ z, z = xs (1 : Int32).toNatClampNeg := ⟨_, rfl⟩
  obtain ⟨a2, ea2⟩ : ∃ z, z = xs (2 : Int32).toNatClampNeg := ⟨_, rfl⟩
  obtain ⟨a3, ea3⟩ : ∃ z, z = xs (3 : Int32).toNatClampNeg := ⟨_, rfl⟩
  obtain ⟨a4, ea4⟩ : ∃ z, z = xs (4 : Int32).toNatClampNeg := ⟨_, rfl⟩
  refine lv_aload_n hx hb dL_law_1099 rfl (lv_at hl 3 rfl) ?_
  refine lv_aload_n hx hb dL_law_1100 rfl (lv_at hl 4 rfl) ?_
  refine lv_iload hx hb dL_law_1101 (lv_at hl 0 rfl) ?_
  refine lv_iconst (v := 1) hx hb dL_law_1103 (by decide) ?_
  refine lv_iadd hx hb dL_law_1104 ?_
  rw [show (0 : Int32) + 1 = 1 from by decide]
  refine va_sld hx hb hXs hbl hbA hS (by unfold vp_in; decide) dL_law_1105 ?_
  rw [← ea1]
  refine lv_aload_n hx hb dL_law_1106 rfl (lv_at hl 4 rfl) ?_
  refine lv_iload hx hb dL_law_1107 (lv_at hl 0 rfl) ?_
  refine lv_iconst (v := 2) hx hb dL_law_1109 (by decide) ?_
  refine lv_iadd hx hb dL_law_1110 ?_
  rw [show (0 : Int32) + 2 = 2 from by decide]
  refine va_sld hx hb hXs hbl hbA hS (by unfold vp_in; decide) dL_law_1111 ?_
  rw [← ea2]
  refine lv_aload_n hx hb dL_law_1112 rfl (lv_at hl 1 rfl) ?_
  refine m_callSWi X hK hw hZ hS hA (As := [.ref x, .int a1, .int a2, .ref oa]) (rest := []) (c_L_rowName_0 l G dce _ M hlt x ad hc oa g0 hoa a1 a2) (vx_cwSW 4 hts gL_law_L_rowName rfl rfl rfl (by decide +kernel) ⟨Nat.le_of_ble_eq_true rfl, Nat.le_of_ble_eq_true rfl⟩) rfl hl.1 rfl (Nat.le_of_ble_eq_true rfl) dL_law_1113 (Nat.le_of_ble_eq_true rfl) (Nat.le_of_ble_eq_true rfl) (fun r1 M1 H locs hp hw hS => ?_)
  have er1 := hp.1
  rw [hp.1]
  obtain ⟨-, ⟨g1, ho1, hz1⟩, fr1⟩ := hp
  have mF1 := mF_fr hmF hoa fr1
  have hm1 : M1 xm = some (.inr (8, [.int 0, .ref (adm 1), .ref (adm 2), .ref (adm 3), .ref (adm 4), .ref (adm 5), .ref (adm 6), .ref (adm 7), .ref (adm 8), .ref (adm 9), .ref (adm 10), .ref (adm 11), .ref (adm 12), .ref (adm 13), .int 0, .ref (adm 15)])) := mF1.1
  refine lv_istore (lv' := [(5, .int (if kOK a1 then (2 : Int32) else 1)), (4, .int 0), (3, .ref oa), (2, .ref xm), (1, .ref x), (0, .ref b)]) hx hb dL_law_1116 hl (by decide) rfl (fun ls hl => ?_)
  refine lv_aload_n hx hb dL_law_1118 rfl (lv_at hl 3 rfl) ?_
  refine lv_aload_n hx hb dL_law_1119 rfl (lv_at hl 5 rfl) ?_
  refine lv_iload hx hb dL_law_1120 (lv_at hl 1 rfl) ?_
  refine lv_iconst (v := 1) hx hb dL_law_1122 (by decide) ?_
  refine lv_iadd hx hb dL_law_1123 ?_
  rw [show (0 : Int32) + 1 = 1 from by decide]
  refine va_sld hx hb hXs hbl hbA hS (by unfold vp_in; decide) dL_law_1124 ?_
  rw [← ea1]
  refine lv_aload_n hx hb dL_law_1125 rfl (lv_at hl 5 rfl) ?_
  refine lv_iload hx hb dL_law_1126 (lv_at hl 1 rfl) ?_
  refine lv_iconst (v := 2) hx hb dL_law_1128 (by decide) ?_
  refine lv_iadd hx hb dL_law_1129 ?_
  rw [show (0 : Int32) + 2 = 2 from by decide]
  refine va_sld hx hb hXs hbl hbA hS (by unfold vp_in; decide) dL_law_1130 ?_
  rw [← ea2]
  refine m_callVi X (ci := 8) rfl hm1 hK hw hZ hS hA (As := [.int a1, .int a2]) (rest := []) (c_X7_rowName_0 l G dce _ M1 xm adm 0 mF1.1 mF1.2.1 a1 a2) (cwV 2 hts gL_law_X7_rowName rfl rfl rfl (by decide +kernel) ⟨Nat.le_of_ble_eq_true rfl, Nat.le_of_ble_eq_true rfl⟩) rfl hl.1 rfl (Nat.le_of_ble_eq_true rfl) dL_law_1131 (Nat.le_of_ble_eq_true rfl) (Nat.le_of_ble_eq_true rfl) (fun r12 M11 H locs hp hw hS hz hk => ?_)
  have eM2 := hp.2
  rw [hp.1]
  have hm2 := (congrFun eM2 xm).trans (mu_s _ _ _)
  have ho2 : M11 oa = some (.inl (G.2 2, 1, .inr (.inl g1))) := by rw [eM2]; exact mu_g ho1 (gM_ne ho1 mF1.1 (by simp [oM]))
  have hm2 : M11 xm = some (.inr (8, [.int (if kOK a1 then (2 : Int32) else 1), .ref (adm 1), .ref (adm 2), .ref (adm 3), .ref (adm 4), .ref (adm 5), .ref (adm 6), .ref (adm 7), .ref (adm 8), .ref (adm 9), .ref (adm 10), .ref (adm 11), .ref (adm 12), .ref (adm 13), .int 0, .ref (adm 15)])) := hm2
  refine lv_istore (lv' := [(6, .int 0), (5, .int (if kOK a1 then (2 : Int32) else 1)), (4, .int 0), (3, .ref oa), (2, .ref xm), (1, .ref x), (0, .ref b)]) hx hb dL_law_1134 hl (by decide) rfl (fun ls hl => ?_)
  refine lv_aload_n hx hb dL_law_1136 rfl (lv_at hl 4 rfl) ?_
  refine m_callVi X (ci := 8) rfl hm2 hK hw hZ hS hA (As := []) (rest := []) (c_X7_thrown l G dce _ M11 xm adm (if kOK a1 then (2 : Int32) else 1) 0 hm2) (cwV 0 hts gL_law_X7_thrown rfl rfl rfl (by decide +kernel) ⟨Nat.le_of_ble_eq_true rfl, Nat.le_of_ble_eq_true rfl⟩) rfl hl.1 rfl (Nat.le_of_ble_eq_true rfl) dL_law_1137 (Nat.le_of_ble_eq_true rfl) (Nat.le_of_ble_eq_true rfl) (fun r14 M13 H locs hp hw hS hz hk => ?_)
  rw [hp.2] at hw
  rw [hp.1]
  refine lv_iload hx hb dL_law_1140 (lv_at hl 1 rfl) ?_
  refine lv_icmp_eq (tgt := 1147) hx hb dL_law_1142 (by decide) (fun _ => ?_) (fun c_1142 => absurd rfl c_1142)
  refine lv_iload hx hb dL_law_1147 (lv_at hl 1 rfl) ?_
  refine lv_if_ne (tgt := 1164) hx hb dL_law_1149 (by decide) (fun c_1149 => ?_) (fun c_1149 => ?_)
  · refine lv_goto (tgt := 1428) hx hb dL_law_1164 (by decide) ?_
    exact tail _ _ _ _ _ hS (lv_sub hl [2, 6] rfl) (Nat.le_of_ble_eq_true rfl) (Nat.le_of_ble_eq_true rfl)
  · refine lv_aload_n hx hb dL_law_1152 rfl (lv_at hl 3 rfl) ?_
    refine lv_iconst (v := 0) hx hb dL_law_1153 (by decide) ?_
    refine m_lald X hK hw ho2 (by unfold vp_in; decide) dL_law_1154 ?_
    rw [show g1 (0 : Int32).toNatClampNeg = 0 from hz1 (er1.trans c_1149)]
    refine lv_iload hx hb dL_law_1155 (lv_at hl 0 rfl) ?_
    refine lv_i2l hx hb dL_law_1157 rfl ?_
    refine W.lcmp hx hb dL_law_1158 ?_
    rw [show lg_cmp 0 (Int32.toInt64 0) = 0 from by decide]
    refine lv_if_eq (tgt := 1164) hx hb dL_law_1159 (by decide) (fun _ => ?_) (fun c_1159 => absurd (by decide) c_1159)
    refine lv_goto (tgt := 1428) hx hb dL_law_1164 (by decide) ?_
    exact tail _ _ _ _ _ hS (lv_sub hl [2, 6] rfl) (Nat.le_of_ble_eq_true rfl) (Nat.le_of_ble_eq_true rfl)
set_option maxHeartbeats 4000000 in
set_option maxRecDepth 100000 in
theorem law_rowReference {p : Program} {l : Launch} {e : Env} {s : State} {m : MethodId} {below : List Frame} {meth : Method} {c : Code} {b : Nat} {xs : Nat → Int32} {G : gG} {dce : Nat} {A : Nat → Prop} {Q : State → Prop} (hlt : l.stackTraces = false) (X : cX p s m meth c cL_law 7 ret wsL_law RL #[Value.ref b]) (hXs : va_X b 5 xs s s.heap) (hbl : b < s.heap.size) (hbA : ¬ A b) (hK : wK G s) (hZ : wZ dce A s s.heap) (hA : ∀ q : Nat, s.heap.size ≤ q → A q) {M : gM} {x xm oa : Nat} {ad adm : Nat → Nat} {g0 : Nat → Int64} (hc : cS0 G dce M x ad) (hmF : mF G M xm adm 0) (hoa : M oa = some (.inl (G.2 2, 1, .inr (.inl g0)))) {H : Heap} {locs : List Loc} (hw : wd G A M H) (hS : va_S A s.heap H locs) {ls : Array Slot} (hl : lv_has ls 7 [(4, .int 0), (3, .ref oa), (2, .ref xm), (1, .ref x), (0, .ref b)])
    (tail : ∀ (H : Heap) (locs : List Loc) (cells slots : Nat) (ls : Array Slot), va_S A s.heap H locs → lv_has ls 7 [(4, .int 0), (0, .ref b)] → cells ≤ 600002 → slots ≤ 7302232 → W p l e room_1 s m #[Value.ref b] below meth c H locs cells slots Q (F0 m 1428 ls [])) : W p l e room_1 s m #[Value.ref b] below meth c H locs 100 80000 Q (F0 m 1167 ls []) := by
  obtain ⟨hx, hb, hr, hts, hown, hlk, hml⟩ := id X
  have hX9 := hc.1
  obtain ⟨a1, ea1⟩ : ∃ z, z = xs (1 : Int32).toNatClampNeg := ⟨_, rfl⟩
  obtain ⟨a2, ea2⟩ : ∃ z, z = xs (2 : Int32).toNatClampNeg := ⟨_, rfl⟩
  obtain ⟨a3, ea3⟩ : ∃ z, z = xs (3 : Int32).toNatClampNeg := ⟨_, rfl⟩
  obtain ⟨a4, ea4⟩ : ∃ z, z = xs (4 : Int32).toNatClampNeg := ⟨_, rfl⟩
  refine lv_aload_n hx hb dL_law_1167 rfl (lv_at hl 3 rfl) ?_
  refine lv_aload_n hx hb dL_law_1168 rfl (lv_at hl 4 rfl) ?_
  refine lv_iload hx hb dL_law_1169 (lv_at hl 0 rfl) ?_
  refine lv_iconst (v := 1) hx hb dL_law_1171 (by decide) ?_
  refine lv_iadd hx hb dL_law_1172 ?_
  rw [show (0 : Int32) + 1 = 1 from by decide]
  refine va_sld hx hb hXs hbl hbA hS (by unfold vp_in; decide) dL_law_1173 ?_
  rw [← ea1]
  refine lv_aload_n hx hb dL_law_1174 rfl (lv_at hl 4 rfl) ?_
  refine lv_iload hx hb dL_law_1175 (lv_at hl 0 rfl) ?_
  refine lv_iconst (v := 2) hx hb dL_law_1177 (by decide) ?_
  refine lv_iadd hx hb dL_law_1178 ?_
  rw [show (0 : Int32) + 2 = 2 from by decide]
  refine va_sld hx hb hXs hbl hbA hS (by unfold vp_in; decide) dL_law_1179 ?_
  rw [← ea2]
  refine lv_aload_n hx hb dL_law_1180 rfl (lv_at hl 1 rfl) ?_
  refine m_callSWi X hK hw hZ hS hA (As := [.ref x, .int a1, .int a2, .ref oa]) (rest := []) (c_L_rowReference_0 l G dce _ M hlt x ad hc oa g0 hoa a1 a2) (vx_cwSW 4 hts gL_law_L_rowReference rfl rfl rfl (by decide +kernel) ⟨Nat.le_of_ble_eq_true rfl, Nat.le_of_ble_eq_true rfl⟩) rfl hl.1 rfl (Nat.le_of_ble_eq_true rfl) dL_law_1181 (Nat.le_of_ble_eq_true rfl) (Nat.le_of_ble_eq_true rfl) (fun r1 M1 H locs hp hw hS => ?_)
  have er1 := hp.1
  rw [hp.1]
  obtain ⟨-, ⟨g1, ho1, hz1⟩, fr1⟩ := hp
  have mF1 := mF_fr hmF hoa fr1
  have hm1 : M1 xm = some (.inr (8, [.int 0, .ref (adm 1), .ref (adm 2), .ref (adm 3), .ref (adm 4), .ref (adm 5), .ref (adm 6), .ref (adm 7), .ref (adm 8), .ref (adm 9), .ref (adm 10), .ref (adm 11), .ref (adm 12), .ref (adm 13), .int 0, .ref (adm 15)])) := mF1.1
  refine lv_istore (lv' := [(5, .int (if kOK a1 then (2 : Int32) else 1)), (4, .int 0), (3, .ref oa), (2, .ref xm), (1, .ref x), (0, .ref b)]) hx hb dL_law_1184 hl (by decide) rfl (fun ls hl => ?_)
  refine lv_aload_n hx hb dL_law_1186 rfl (lv_at hl 3 rfl) ?_
  refine lv_aload_n hx hb dL_law_1187 rfl (lv_at hl 5 rfl) ?_
  refine lv_iload hx hb dL_law_1188 (lv_at hl 1 rfl) ?_
  refine lv_iconst (v := 1) hx hb dL_law_1190 (by decide) ?_
  refine lv_iadd hx hb dL_law_1191 ?_
  rw [show (0 : Int32) + 1 = 1 from by decide]
  refine va_sld hx hb hXs hbl hbA hS (by unfold vp_in; decide) dL_law_1192 ?_
  rw [← ea1]
  refine lv_aload_n hx hb dL_law_1193 rfl (lv_at hl 5 rfl) ?_
  refine lv_iload hx hb dL_law_1194 (lv_at hl 1 rfl) ?_
  refine lv_iconst (v := 2) hx hb dL_law_1196 (by decide) ?_
  refine lv_iadd hx hb dL_law_1197 ?_
  rw [show (0 : Int32) + 2 = 2 from by decide]
  refine va_sld hx hb hXs hbl hbA hS (by unfold vp_in; decide) dL_law_1198 ?_
  rw [← ea2]
  refine m_callVi X (ci := 8) rfl hm1 hK hw hZ hS hA (As := [.int a1, .int a2]) (rest := []) (c_X7_rowReference_0 l G dce _ M1 xm adm 0 mF1.1 mF1.2.1 a1 a2) (cwV 2 hts gL_law_X7_rowReference rfl rfl rfl (by decide +kernel) ⟨Nat.le_of_ble_eq_true rfl, Nat.le_of_ble_eq_true rfl⟩) rfl hl.1 rfl (Nat.le_of_ble_eq_true rfl) dL_law_1199 (Nat.le_of_ble_eq_true rfl) (Nat.le_of_ble_eq_true rfl) (fun r12 M11 H locs hp hw hS hz hk => ?_)
  have eM2 := hp.2
  rw [hp.1]
  have hm2 := (congrFun eM2 xm).trans (mu_s _ _ _)
  have ho2 : M11 oa = some (.inl (G.2 2, 1, .inr (.inl g1))) := by rw [eM2]; exact mu_g ho1 (gM_ne ho1 mF1.1 (by simp [oM]))
  have hm2 : M11 xm = some (.inr (8, [.int (if kOK a1 then (2 : Int32) else 1), .ref (adm 1), .ref (adm 2), .ref (adm 3), .ref (adm 4), .ref (adm 5), .ref (adm 6), .ref (adm 7), .ref (adm 8), .ref (adm 9), .ref (adm 10), .ref (adm 11), .ref (adm 12), .ref (adm 13), .int 0, .ref (adm 15)])) := hm2
  refine lv_istore (lv' := [(6, .int 0), (5, .int (if kOK a1 then (2 : Int32) else 1)), (4, .int 0), (3, .ref oa), (2, .ref xm), (1, .ref x), (0, .ref b)]) hx hb dL_law_1202 hl (by decide) rfl (fun ls hl => ?_)
  refine lv_aload_n hx hb dL_law_1204 rfl (lv_at hl 4 rfl) ?_
  refine m_callVi X (ci := 8) rfl hm2 hK hw hZ hS hA (As := []) (rest := []) (c_X7_thrown l G dce _ M11 xm adm (if kOK a1 then (2 : Int32) else 1) 0 hm2) (cwV 0 hts gL_law_X7_thrown rfl rfl rfl (by decide +kernel) ⟨Nat.le_of_ble_eq_true rfl, Nat.le_of_ble_eq_true rfl⟩) rfl hl.1 rfl (Nat.le_of_ble_eq_true rfl) dL_law_1205 (Nat.le_of_ble_eq_true rfl) (Nat.le_of_ble_eq_true rfl) (fun r14 M13 H locs hp hw hS hz hk => ?_)
  rw [hp.2] at hw
  rw [hp.1]
  refine lv_iload hx hb dL_law_1208 (lv_at hl 1 rfl) ?_
  refine lv_icmp_eq (tgt := 1215) hx hb dL_law_1210 (by decide) (fun _ => ?_) (fun c_1210 => absurd rfl c_1210)
  refine lv_iload hx hb dL_law_1215 (lv_at hl 1 rfl) ?_
  refine lv_if_ne (tgt := 1232) hx hb dL_law_1217 (by decide) (fun c_1217 => ?_) (fun c_1217 => ?_)
  · refine lv_goto (tgt := 1428) hx hb dL_law_1232 (by decide) ?_
    exact tail _ _ _ _ _ hS (lv_sub hl [2, 6] rfl) (Nat.le_of_ble_eq_true rfl) (Nat.le_of_ble_eq_true rfl)
  · refine lv_aload_n hx hb dL_law_1220 rfl (lv_at hl 3 rfl) ?_
    refine lv_iconst (v := 0) hx hb dL_law_1221 (by decide) ?_
    refine m_lald X hK hw ho2 (by unfold vp_in; decide) dL_law_1222 ?_
    rw [show g1 (0 : Int32).toNatClampNeg = 0 from hz1 (er1.trans c_1217)]
    refine lv_iload hx hb dL_law_1223 (lv_at hl 0 rfl) ?_
    refine lv_i2l hx hb dL_law_1225 rfl ?_
    refine W.lcmp hx hb dL_law_1226 ?_
    rw [show lg_cmp 0 (Int32.toInt64 0) = 0 from by decide]
    refine lv_if_eq (tgt := 1232) hx hb dL_law_1227 (by decide) (fun _ => ?_) (fun c_1227 => absurd (by decide) c_1227)
    refine lv_goto (tgt := 1428) hx hb dL_law_1232 (by decide) ?_
    exact tail _ _ _ _ _ hS (lv_sub hl [2, 6] rfl) (Nat.le_of_ble_eq_true rfl) (Nat.le_of_ble_eq_true rfl)
set_option maxHeartbeats 4000000 in
set_option maxRecDepth 100000 in
theorem law_rowVersion {p : Program} {l : Launch} {e : Env} {s : State} {m : MethodId} {below : List Frame} {meth : Method} {c : Code} {b : Nat} {xs : Nat → Int32} {G : gG} {dce : Nat} {A : Nat → Prop} {Q : State → Prop} (hlt : l.stackTraces = false) (X : cX p s m meth c cL_law 7 ret wsL_law RL #[Value.ref b]) (hXs : va_X b 5 xs s s.heap) (hbl : b < s.heap.size) (hbA : ¬ A b) (hK : wK G s) (hZ : wZ dce A s s.heap) (hA : ∀ q : Nat, s.heap.size ≤ q → A q) {M : gM} {x xm oa : Nat} {ad adm : Nat → Nat} {g0 : Nat → Int64} (hc : cS0 G dce M x ad) (hmF : mF G M xm adm 0) (hoa : M oa = some (.inl (G.2 2, 1, .inr (.inl g0)))) {H : Heap} {locs : List Loc} (hw : wd G A M H) (hS : va_S A s.heap H locs) {ls : Array Slot} (hl : lv_has ls 7 [(4, .int 0), (3, .ref oa), (2, .ref xm), (1, .ref x), (0, .ref b)])
    (tail : ∀ (H : Heap) (locs : List Loc) (cells slots : Nat) (ls : Array Slot), va_S A s.heap H locs → lv_has ls 7 [(4, .int 0), (0, .ref b)] → cells ≤ 600002 → slots ≤ 7302232 → W p l e room_1 s m #[Value.ref b] below meth c H locs cells slots Q (F0 m 1428 ls [])) : W p l e room_1 s m #[Value.ref b] below meth c H locs 100 80000 Q (F0 m 1235 ls []) := by
  obtain ⟨hx, hb, hr, hts, hown, hlk, hml⟩ := id X
  have hX9 := hc.1
  obtain ⟨a1, ea1⟩ : ∃ z, z = xs (1 : Int32).toNatClampNeg := ⟨_, rfl⟩
  obtain ⟨a2, ea2⟩ : ∃ z, z = xs (2 : Int32).toNatClampNeg := ⟨_, rfl⟩
  obtain ⟨a3, ea3⟩ : ∃ z, z = xs (3 : Int32).toNatClampNeg := ⟨_, rfl⟩
  obtain ⟨a4, ea4⟩ : ∃ z, z = xs (4 : Int32).toNatClampNeg := ⟨_, rfl⟩
  refine lv_aload_n hx hb dL_law_1235 rfl (lv_at hl 3 rfl) ?_
  refine lv_aload_n hx hb dL_law_1236 rfl (lv_at hl 4 rfl) ?_
  refine lv_iload hx hb dL_law_1237 (lv_at hl 0 rfl) ?_
  refine lv_iconst (v := 1) hx hb dL_law_1239 (by decide) ?_
  refine lv_iadd hx hb dL_law_1240 ?_
  rw [show (0 : Int32) + 1 = 1 from by decide]
  refine va_sld hx hb hXs hbl hbA hS (by unfold vp_in; decide) dL_law_1241 ?_
  rw [← ea1]
  refine lv_aload_n hx hb dL_law_1242 rfl (lv_at hl 4 rfl) ?_
  refine lv_iload hx hb dL_law_1243 (lv_at hl 0 rfl) ?_
  refine lv_iconst (v := 2) hx hb dL_law_1245 (by decide) ?_
  refine lv_iadd hx hb dL_law_1246 ?_
  rw [show (0 : Int32) + 2 = 2 from by decide]
  refine va_sld hx hb hXs hbl hbA hS (by unfold vp_in; decide) dL_law_1247 ?_
  rw [← ea2]
  refine lv_aload_n hx hb dL_law_1248 rfl (lv_at hl 1 rfl) ?_
  refine m_callSWi X hK hw hZ hS hA (As := [.ref x, .int a1, .int a2, .ref oa]) (rest := []) (c_L_rowVersion_0 l G dce _ M hlt x ad hc oa g0 hoa a1 a2) (vx_cwSW 4 hts gL_law_L_rowVersion rfl rfl rfl (by decide +kernel) ⟨Nat.le_of_ble_eq_true rfl, Nat.le_of_ble_eq_true rfl⟩) rfl hl.1 rfl (Nat.le_of_ble_eq_true rfl) dL_law_1249 (Nat.le_of_ble_eq_true rfl) (Nat.le_of_ble_eq_true rfl) (fun r1 M1 H locs hp hw hS => ?_)
  have er1 := hp.1
  rw [hp.1]
  obtain ⟨-, ⟨g1, ho1, hz1⟩, fr1⟩ := hp
  have mF1 := mF_fr hmF hoa fr1
  have hm1 : M1 xm = some (.inr (8, [.int 0, .ref (adm 1), .ref (adm 2), .ref (adm 3), .ref (adm 4), .ref (adm 5), .ref (adm 6), .ref (adm 7), .ref (adm 8), .ref (adm 9), .ref (adm 10), .ref (adm 11), .ref (adm 12), .ref (adm 13), .int 0, .ref (adm 15)])) := mF1.1
  refine lv_istore (lv' := [(5, .int (if kOK a1 then (2 : Int32) else 1)), (4, .int 0), (3, .ref oa), (2, .ref xm), (1, .ref x), (0, .ref b)]) hx hb dL_law_1252 hl (by decide) rfl (fun ls hl => ?_)
  refine lv_aload_n hx hb dL_law_1254 rfl (lv_at hl 3 rfl) ?_
  refine lv_aload_n hx hb dL_law_1255 rfl (lv_at hl 5 rfl) ?_
  refine lv_iload hx hb dL_law_1256 (lv_at hl 1 rfl) ?_
  refine lv_iconst (v := 1) hx hb dL_law_1258 (by decide) ?_
  refine lv_iadd hx hb dL_law_1259 ?_
  rw [show (0 : Int32) + 1 = 1 from by decide]
  refine va_sld hx hb hXs hbl hbA hS (by unfold vp_in; decide) dL_law_1260 ?_
  rw [← ea1]
  refine lv_aload_n hx hb dL_law_1261 rfl (lv_at hl 5 rfl) ?_
  refine lv_iload hx hb dL_law_1262 (lv_at hl 1 rfl) ?_
  refine lv_iconst (v := 2) hx hb dL_law_1264 (by decide) ?_
  refine lv_iadd hx hb dL_law_1265 ?_
  rw [show (0 : Int32) + 2 = 2 from by decide]
  refine va_sld hx hb hXs hbl hbA hS (by unfold vp_in; decide) dL_law_1266 ?_
  rw [← ea2]
  refine m_callVi X (ci := 8) rfl hm1 hK hw hZ hS hA (As := [.int a1, .int a2]) (rest := []) (c_X7_rowVersion_0 l G dce _ M1 xm adm 0 mF1.1 mF1.2.1 a1 a2) (cwV 2 hts gL_law_X7_rowVersion rfl rfl rfl (by decide +kernel) ⟨Nat.le_of_ble_eq_true rfl, Nat.le_of_ble_eq_true rfl⟩) rfl hl.1 rfl (Nat.le_of_ble_eq_true rfl) dL_law_1267 (Nat.le_of_ble_eq_true rfl) (Nat.le_of_ble_eq_true rfl) (fun r12 M11 H locs hp hw hS hz hk => ?_)
  have eM2 := hp.2
  rw [hp.1]
  have hm2 := (congrFun eM2 xm).trans (mu_s _ _ _)
  have ho2 : M11 oa = some (.inl (G.2 2, 1, .inr (.inl g1))) := by rw [eM2]; exact mu_g ho1 (gM_ne ho1 mF1.1 (by simp [oM]))
  have hm2 : M11 xm = some (.inr (8, [.int (if kOK a1 then (2 : Int32) else 1), .ref (adm 1), .ref (adm 2), .ref (adm 3), .ref (adm 4), .ref (adm 5), .ref (adm 6), .ref (adm 7), .ref (adm 8), .ref (adm 9), .ref (adm 10), .ref (adm 11), .ref (adm 12), .ref (adm 13), .int 0, .ref (adm 15)])) := hm2
  refine lv_istore (lv' := [(6, .int 0), (5, .int (if kOK a1 then (2 : Int32) else 1)), (4, .int 0), (3, .ref oa), (2, .ref xm), (1, .ref x), (0, .ref b)]) hx hb dL_law_1270 hl (by decide) rfl (fun ls hl => ?_)
  refine lv_aload_n hx hb dL_law_1272 rfl (lv_at hl 4 rfl) ?_
  refine m_callVi X (ci := 8) rfl hm2 hK hw hZ hS hA (As := []) (rest := []) (c_X7_thrown l G dce _ M11 xm adm (if kOK a1 then (2 : Int32) else 1) 0 hm2) (cwV 0 hts gL_law_X7_thrown rfl rfl rfl (by decide +kernel) ⟨Nat.le_of_ble_eq_true rfl, Nat.le_of_ble_eq_true rfl⟩) rfl hl.1 rfl (Nat.le_of_ble_eq_true rfl) dL_law_1273 (Nat.le_of_ble_eq_true rfl) (Nat.le_of_ble_eq_true rfl) (fun r14 M13 H locs hp hw hS hz hk => ?_)
  rw [hp.2] at hw
  rw [hp.1]
  refine lv_iload hx hb dL_law_1276 (lv_at hl 1 rfl) ?_
  refine lv_icmp_eq (tgt := 1283) hx hb dL_law_1278 (by decide) (fun _ => ?_) (fun c_1278 => absurd rfl c_1278)
  refine lv_iload hx hb dL_law_1283 (lv_at hl 1 rfl) ?_
  refine lv_if_ne (tgt := 1300) hx hb dL_law_1285 (by decide) (fun c_1285 => ?_) (fun c_1285 => ?_)
  · refine lv_goto (tgt := 1428) hx hb dL_law_1300 (by decide) ?_
    exact tail _ _ _ _ _ hS (lv_sub hl [2, 6] rfl) (Nat.le_of_ble_eq_true rfl) (Nat.le_of_ble_eq_true rfl)
  · refine lv_aload_n hx hb dL_law_1288 rfl (lv_at hl 3 rfl) ?_
    refine lv_iconst (v := 0) hx hb dL_law_1289 (by decide) ?_
    refine m_lald X hK hw ho2 (by unfold vp_in; decide) dL_law_1290 ?_
    rw [show g1 (0 : Int32).toNatClampNeg = 0 from hz1 (er1.trans c_1285)]
    refine lv_iload hx hb dL_law_1291 (lv_at hl 0 rfl) ?_
    refine lv_i2l hx hb dL_law_1293 rfl ?_
    refine W.lcmp hx hb dL_law_1294 ?_
    rw [show lg_cmp 0 (Int32.toInt64 0) = 0 from by decide]
    refine lv_if_eq (tgt := 1300) hx hb dL_law_1295 (by decide) (fun _ => ?_) (fun c_1295 => absurd (by decide) c_1295)
    refine lv_goto (tgt := 1428) hx hb dL_law_1300 (by decide) ?_
    exact tail _ _ _ _ _ hS (lv_sub hl [2, 6] rfl) (Nat.le_of_ble_eq_true rfl) (Nat.le_of_ble_eq_true rfl)
set_option maxHeartbeats 4000000 in
set_option maxRecDepth 100000 in
theorem law_writes {p : Program} {l : Launch} {e : Env} {s : State} {m : MethodId} {below : List Frame} {meth : Method} {c : Code} {b : Nat} {xs : Nat → Int32} {G : gG} {dce : Nat} {A : Nat → Prop} {Q : State → Prop} (hlt : l.stackTraces = false) (X : cX p s m meth c cL_law 7 ret wsL_law RL #[Value.ref b]) (hXs : va_X b 5 xs s s.heap) (hbl : b < s.heap.size) (hbA : ¬ A b) (hK : wK G s) (hZ : wZ dce A s s.heap) (hA : ∀ q : Nat, s.heap.size ≤ q → A q) {M : gM} {x xm oa : Nat} {ad adm : Nat → Nat} {g0 : Nat → Int64} (hc : cS0 G dce M x ad) (hmF : mF G M xm adm 0) (hoa : M oa = some (.inl (G.2 2, 1, .inr (.inl g0)))) {H : Heap} {locs : List Loc} (hw : wd G A M H) (hS : va_S A s.heap H locs) {ls : Array Slot} (hl : lv_has ls 7 [(4, .int 0), (3, .ref oa), (2, .ref xm), (1, .ref x), (0, .ref b)])
    (tail : ∀ (H : Heap) (locs : List Loc) (cells slots : Nat) (ls : Array Slot), va_S A s.heap H locs → lv_has ls 7 [(4, .int 0), (0, .ref b)] → cells ≤ 600002 → slots ≤ 7302232 → W p l e room_1 s m #[Value.ref b] below meth c H locs cells slots Q (F0 m 1428 ls [])) : W p l e room_1 s m #[Value.ref b] below meth c H locs 100 80000 Q (F0 m 1303 ls []) := by
  obtain ⟨hx, hb, hr, hts, hown, hlk, hml⟩ := id X
  have hX9 := hc.1
  obtain ⟨a1, ea1⟩ : ∃ z, z = xs (1 : Int32).toNatClampNeg := ⟨_, rfl⟩
  obtain ⟨a2, ea2⟩ : ∃ z, z = xs (2 : Int32).toNatClampNeg := ⟨_, rfl⟩
  obtain ⟨a3, ea3⟩ : ∃ z, z = xs (3 : Int32).toNatClampNeg := ⟨_, rfl⟩
  obtain ⟨a4, ea4⟩ : ∃ z, z = xs (4 : Int32).toNatClampNeg := ⟨_, rfl⟩
  refine lv_aload_n hx hb dL_law_1303 rfl (lv_at hl 3 rfl) ?_
  refine m_callVi X (ci := 7) rfl hX9 hK hw hZ hS hA (As := []) (rest := []) (c_X6_writes_0 l G dce _ M x ad hc) (cwV 0 hts gL_law_X6_writes rfl rfl rfl (by decide +kernel) ⟨Nat.le_of_ble_eq_true rfl, Nat.le_of_ble_eq_true rfl⟩) rfl hl.1 rfl (Nat.le_of_ble_eq_true rfl) dL_law_1304 (Nat.le_of_ble_eq_true rfl) (Nat.le_of_ble_eq_true rfl) (fun r12 M11 H locs hp hw hS hz hk => ?_)
  rw [hp.2] at hw
  rw [hp.1]
  refine lv_aload_n hx hb dL_law_1307 rfl (lv_at hl 2 rfl) ?_
  refine m_callVi X (ci := 8) rfl hmF.1 hK hw hZ hS hA (As := []) (rest := [.int 0]) (c_X7_writes l G dce _ M xm adm 0 0 hmF.1) (cwV 0 hts gL_law_X7_writes rfl rfl rfl (by decide +kernel) ⟨Nat.le_of_ble_eq_true rfl, Nat.le_of_ble_eq_true rfl⟩) rfl hl.1 rfl (Nat.le_of_ble_eq_true rfl) dL_law_1308 (Nat.le_of_ble_eq_true rfl) (Nat.le_of_ble_eq_true rfl) (fun r14 M13 H locs hp hw hS hz hk => ?_)
  rw [hp.1]
  refine lv_icmp_eq (tgt := 1428) hx hb dL_law_1311 (by decide) (fun _ => ?_) (fun c_1311 => absurd (by decide) c_1311)
  exact tail _ _ _ _ _ hS (lv_sub hl [0, 4] rfl) (Nat.le_of_ble_eq_true rfl) (Nat.le_of_ble_eq_true rfl)
set_option maxHeartbeats 4000000 in
set_option maxRecDepth 100000 in
theorem law_write {p : Program} {l : Launch} {e : Env} {s : State} {m : MethodId} {below : List Frame} {meth : Method} {c : Code} {b : Nat} {xs : Nat → Int32} {G : gG} {dce : Nat} {A : Nat → Prop} {Q : State → Prop} (hlt : l.stackTraces = false) (X : cX p s m meth c cL_law 7 ret wsL_law RL #[Value.ref b]) (hXs : va_X b 5 xs s s.heap) (hbl : b < s.heap.size) (hbA : ¬ A b) (hK : wK G s) (hZ : wZ dce A s s.heap) (hA : ∀ q : Nat, s.heap.size ≤ q → A q) {M : gM} {x xm oa : Nat} {ad adm : Nat → Nat} {g0 : Nat → Int64} (hc : cS0 G dce M x ad) (hmF : mF G M xm adm 0) (hoa : M oa = some (.inl (G.2 2, 1, .inr (.inl g0)))) {H : Heap} {locs : List Loc} (hw : wd G A M H) (hS : va_S A s.heap H locs) {ls : Array Slot} (hl : lv_has ls 7 [(4, .int 0), (3, .ref oa), (2, .ref xm), (1, .ref x), (0, .ref b)])
    (tail : ∀ (H : Heap) (locs : List Loc) (cells slots : Nat) (ls : Array Slot), va_S A s.heap H locs → lv_has ls 7 [(4, .int 0), (0, .ref b)] → cells ≤ 600002 → slots ≤ 7302232 → W p l e room_1 s m #[Value.ref b] below meth c H locs cells slots Q (F0 m 1428 ls [])) : W p l e room_1 s m #[Value.ref b] below meth c H locs 100 80000 Q (F0 m 1316 ls []) := by
  obtain ⟨hx, hb, hr, hts, hown, hlk, hml⟩ := id X
  have hX9 := hc.1
  obtain ⟨a1, ea1⟩ : ∃ z, z = xs (1 : Int32).toNatClampNeg := ⟨_, rfl⟩
  obtain ⟨a2, ea2⟩ : ∃ z, z = xs (2 : Int32).toNatClampNeg := ⟨_, rfl⟩
  obtain ⟨a3, ea3⟩ : ∃ z, z = xs (3 : Int32).toNatClampNeg := ⟨_, rfl⟩
  obtain ⟨a4, ea4⟩ : ∃ z, z = xs (4 : Int32).toNatClampNeg := ⟨_, rfl⟩
  refine lv_aload_n hx hb dL_law_1316 rfl (lv_at hl 3 rfl) ?_
  refine lv_aload_n hx hb dL_law_1317 rfl (lv_at hl 4 rfl) ?_
  refine lv_iload hx hb dL_law_1318 (lv_at hl 0 rfl) ?_
  refine lv_iconst (v := 1) hx hb dL_law_1320 (by decide) ?_
  refine lv_iadd hx hb dL_law_1321 ?_
  rw [show (0 : Int32) + 1 = 1 from by decide]
  refine va_sld hx hb hXs hbl hbA hS (by unfold vp_in; decide) dL_law_1322 ?_
  rw [← ea1]
  refine lv_aload_n hx hb dL_law_1323 rfl (lv_at hl 1 rfl) ?_
  refine m_callSWi X hK hw hZ hS hA (As := [.ref x, .int a1, .ref oa]) (rest := []) (c_L_write_0 l G dce _ M hlt x ad hc oa g0 hoa a1) (vx_cwSW 3 hts gL_law_L_write rfl rfl rfl (by decide +kernel) ⟨Nat.le_of_ble_eq_true rfl, Nat.le_of_ble_eq_true rfl⟩) rfl hl.1 rfl (Nat.le_of_ble_eq_true rfl) dL_law_1324 (Nat.le_of_ble_eq_true rfl) (Nat.le_of_ble_eq_true rfl) (fun r1 M1 H locs hp hw hS => ?_)
  have er1 := hp.1
  rw [hp.1]
  obtain ⟨-, ⟨g1, ho1, hz1⟩, fr1⟩ := hp
  have mF1 := mF_fr hmF hoa fr1
  have hm1 : M1 xm = some (.inr (8, [.int 0, .ref (adm 1), .ref (adm 2), .ref (adm 3), .ref (adm 4), .ref (adm 5), .ref (adm 6), .ref (adm 7), .ref (adm 8), .ref (adm 9), .ref (adm 10), .ref (adm 11), .ref (adm 12), .ref (adm 13), .int 0, .ref (adm 15)])) := mF1.1
  refine lv_istore (lv' := [(5, .int (1 : Int32)), (4, .int 0), (3, .ref oa), (2, .ref xm), (1, .ref x), (0, .ref b)]) hx hb dL_law_1327 hl (by decide) rfl (fun ls hl => ?_)
  refine lv_aload_n hx hb dL_law_1329 rfl (lv_at hl 3 rfl) ?_
  refine lv_aload_n hx hb dL_law_1330 rfl (lv_at hl 5 rfl) ?_
  refine lv_iload hx hb dL_law_1331 (lv_at hl 1 rfl) ?_
  refine lv_iconst (v := 1) hx hb dL_law_1333 (by decide) ?_
  refine lv_iadd hx hb dL_law_1334 ?_
  rw [show (0 : Int32) + 1 = 1 from by decide]
  refine va_sld hx hb hXs hbl hbA hS (by unfold vp_in; decide) dL_law_1335 ?_
  rw [← ea1]
  refine m_callVi X (ci := 8) rfl hm1 hK hw hZ hS hA (As := [.int a1]) (rest := []) (c_X7_write_0 l G dce _ M1 xm adm 0 mF1.1 mF1.2.1 a1) (cwV 1 hts gL_law_X7_write rfl rfl rfl (by decide +kernel) ⟨Nat.le_of_ble_eq_true rfl, Nat.le_of_ble_eq_true rfl⟩) rfl hl.1 rfl (Nat.le_of_ble_eq_true rfl) dL_law_1336 (Nat.le_of_ble_eq_true rfl) (Nat.le_of_ble_eq_true rfl) (fun r12 M11 H locs hp hw hS hz hk => ?_)
  have eM2 := hp.2
  rw [hp.1]
  have hm2 := (congrFun eM2 xm).trans (mu_s _ _ _)
  have ho2 : M11 oa = some (.inl (G.2 2, 1, .inr (.inl g1))) := by rw [eM2]; exact mu_g ho1 (gM_ne ho1 mF1.1 (by simp [oM]))
  have hm2 : M11 xm = some (.inr (8, [.int (1 : Int32), .ref (adm 1), .ref (adm 2), .ref (adm 3), .ref (adm 4), .ref (adm 5), .ref (adm 6), .ref (adm 7), .ref (adm 8), .ref (adm 9), .ref (adm 10), .ref (adm 11), .ref (adm 12), .ref (adm 13), .int 0, .ref (adm 15)])) := hm2
  refine lv_istore (lv' := [(6, .int 0), (5, .int (1 : Int32)), (4, .int 0), (3, .ref oa), (2, .ref xm), (1, .ref x), (0, .ref b)]) hx hb dL_law_1339 hl (by decide) rfl (fun ls hl => ?_)
  refine lv_aload_n hx hb dL_law_1341 rfl (lv_at hl 4 rfl) ?_
  refine m_callVi X (ci := 8) rfl hm2 hK hw hZ hS hA (As := []) (rest := []) (c_X7_thrown l G dce _ M11 xm adm (1 : Int32) 0 hm2) (cwV 0 hts gL_law_X7_thrown rfl rfl rfl (by decide +kernel) ⟨Nat.le_of_ble_eq_true rfl, Nat.le_of_ble_eq_true rfl⟩) rfl hl.1 rfl (Nat.le_of_ble_eq_true rfl) dL_law_1342 (Nat.le_of_ble_eq_true rfl) (Nat.le_of_ble_eq_true rfl) (fun r14 M13 H locs hp hw hS hz hk => ?_)
  rw [hp.2] at hw
  rw [hp.1]
  refine lv_iload hx hb dL_law_1345 (lv_at hl 1 rfl) ?_
  refine lv_icmp_eq (tgt := 1352) hx hb dL_law_1347 (by decide) (fun _ => ?_) (fun c_1347 => absurd rfl c_1347)
  refine lv_iload hx hb dL_law_1352 (lv_at hl 1 rfl) ?_
  refine lv_if_ne (tgt := 1369) hx hb dL_law_1354 (by decide) (fun _ => ?_) (fun c_1354 => absurd c_1354 (by decide))
  refine lv_goto (tgt := 1428) hx hb dL_law_1369 (by decide) ?_
  exact tail _ _ _ _ _ hS (lv_sub hl [2, 6] rfl) (Nat.le_of_ble_eq_true rfl) (Nat.le_of_ble_eq_true rfl)
set_option maxHeartbeats 4000000 in
set_option maxRecDepth 100000 in
theorem law_written {p : Program} {l : Launch} {e : Env} {s : State} {m : MethodId} {below : List Frame} {meth : Method} {c : Code} {b : Nat} {xs : Nat → Int32} {G : gG} {dce : Nat} {A : Nat → Prop} {Q : State → Prop} (hlt : l.stackTraces = false) (X : cX p s m meth c cL_law 7 ret wsL_law RL #[Value.ref b]) (hXs : va_X b 5 xs s s.heap) (hbl : b < s.heap.size) (hbA : ¬ A b) (hK : wK G s) (hZ : wZ dce A s s.heap) (hA : ∀ q : Nat, s.heap.size ≤ q → A q) {M : gM} {x xm oa : Nat} {ad adm : Nat → Nat} {g0 : Nat → Int64} (hc : cS0 G dce M x ad) (hmF : mF G M xm adm 0) (hoa : M oa = some (.inl (G.2 2, 1, .inr (.inl g0)))) {H : Heap} {locs : List Loc} (hw : wd G A M H) (hS : va_S A s.heap H locs) {ls : Array Slot} (hl : lv_has ls 7 [(4, .int 0), (3, .ref oa), (2, .ref xm), (1, .ref x), (0, .ref b)])
    (tail : ∀ (H : Heap) (locs : List Loc) (cells slots : Nat) (ls : Array Slot), va_S A s.heap H locs → lv_has ls 7 [(4, .int 0), (0, .ref b)] → cells ≤ 600002 → slots ≤ 7302232 → W p l e room_1 s m #[Value.ref b] below meth c H locs cells slots Q (F0 m 1428 ls [])) : W p l e room_1 s m #[Value.ref b] below meth c H locs 100 80000 Q (F0 m 1372 ls []) := by
  obtain ⟨hx, hb, hr, hts, hown, hlk, hml⟩ := id X
  have hX9 := hc.1
  obtain ⟨a1, ea1⟩ : ∃ z, z = xs (1 : Int32).toNatClampNeg := ⟨_, rfl⟩
  obtain ⟨a2, ea2⟩ : ∃ z, z = xs (2 : Int32).toNatClampNeg := ⟨_, rfl⟩
  obtain ⟨a3, ea3⟩ : ∃ z, z = xs (3 : Int32).toNatClampNeg := ⟨_, rfl⟩
  obtain ⟨a4, ea4⟩ : ∃ z, z = xs (4 : Int32).toNatClampNeg := ⟨_, rfl⟩
  refine lv_aload_n hx hb dL_law_1372 rfl (lv_at hl 3 rfl) ?_
  refine lv_aload_n hx hb dL_law_1373 rfl (lv_at hl 4 rfl) ?_
  refine lv_iload hx hb dL_law_1374 (lv_at hl 0 rfl) ?_
  refine lv_iconst (v := 1) hx hb dL_law_1376 (by decide) ?_
  refine lv_iadd hx hb dL_law_1377 ?_
  rw [show (0 : Int32) + 1 = 1 from by decide]
  refine va_sld hx hb hXs hbl hbA hS (by unfold vp_in; decide) dL_law_1378 ?_
  rw [← ea1]
  refine lv_aload_n hx hb dL_law_1379 rfl (lv_at hl 1 rfl) ?_
  refine m_callSWi X hK hw hZ hS hA (As := [.ref x, .int a1, .ref oa]) (rest := []) (c_L_written_0 l G dce _ M hlt x ad hc oa g0 hoa a1) (vx_cwSW 3 hts gL_law_L_written rfl rfl rfl (by decide +kernel) ⟨Nat.le_of_ble_eq_true rfl, Nat.le_of_ble_eq_true rfl⟩) rfl hl.1 rfl (Nat.le_of_ble_eq_true rfl) dL_law_1380 (Nat.le_of_ble_eq_true rfl) (Nat.le_of_ble_eq_true rfl) (fun r1 M1 H locs hp hw hS => ?_)
  have er1 := hp.1
  rw [hp.1]
  obtain ⟨-, ⟨g1, ho1, hz1⟩, fr1⟩ := hp
  have mF1 := mF_fr hmF hoa fr1
  have hm1 : M1 xm = some (.inr (8, [.int 0, .ref (adm 1), .ref (adm 2), .ref (adm 3), .ref (adm 4), .ref (adm 5), .ref (adm 6), .ref (adm 7), .ref (adm 8), .ref (adm 9), .ref (adm 10), .ref (adm 11), .ref (adm 12), .ref (adm 13), .int 0, .ref (adm 15)])) := mF1.1
  refine lv_istore (lv' := [(5, .int (1 : Int32)), (4, .int 0), (3, .ref oa), (2, .ref xm), (1, .ref x), (0, .ref b)]) hx hb dL_law_1383 hl (by decide) rfl (fun ls hl => ?_)
  refine lv_aload_n hx hb dL_law_1385 rfl (lv_at hl 3 rfl) ?_
  refine lv_aload_n hx hb dL_law_1386 rfl (lv_at hl 5 rfl) ?_
  refine lv_iload hx hb dL_law_1387 (lv_at hl 1 rfl) ?_
  refine lv_iconst (v := 1) hx hb dL_law_1389 (by decide) ?_
  refine lv_iadd hx hb dL_law_1390 ?_
  rw [show (0 : Int32) + 1 = 1 from by decide]
  refine va_sld hx hb hXs hbl hbA hS (by unfold vp_in; decide) dL_law_1391 ?_
  rw [← ea1]
  refine m_callVi X (ci := 8) rfl hm1 hK hw hZ hS hA (As := [.int a1]) (rest := []) (c_X7_written_0 l G dce _ M1 xm adm 0 mF1.1 mF1.2.1 a1) (cwV 1 hts gL_law_X7_written rfl rfl rfl (by decide +kernel) ⟨Nat.le_of_ble_eq_true rfl, Nat.le_of_ble_eq_true rfl⟩) rfl hl.1 rfl (Nat.le_of_ble_eq_true rfl) dL_law_1392 (Nat.le_of_ble_eq_true rfl) (Nat.le_of_ble_eq_true rfl) (fun r12 M11 H locs hp hw hS hz hk => ?_)
  have eM2 := hp.2
  rw [hp.1]
  have hm2 := (congrFun eM2 xm).trans (mu_s _ _ _)
  have ho2 : M11 oa = some (.inl (G.2 2, 1, .inr (.inl g1))) := by rw [eM2]; exact mu_g ho1 (gM_ne ho1 mF1.1 (by simp [oM]))
  have hm2 : M11 xm = some (.inr (8, [.int (1 : Int32), .ref (adm 1), .ref (adm 2), .ref (adm 3), .ref (adm 4), .ref (adm 5), .ref (adm 6), .ref (adm 7), .ref (adm 8), .ref (adm 9), .ref (adm 10), .ref (adm 11), .ref (adm 12), .ref (adm 13), .int 0, .ref (adm 15)])) := hm2
  refine lv_istore (lv' := [(6, .int 0), (5, .int (1 : Int32)), (4, .int 0), (3, .ref oa), (2, .ref xm), (1, .ref x), (0, .ref b)]) hx hb dL_law_1395 hl (by decide) rfl (fun ls hl => ?_)
  refine lv_aload_n hx hb dL_law_1397 rfl (lv_at hl 4 rfl) ?_
  refine m_callVi X (ci := 8) rfl hm2 hK hw hZ hS hA (As := []) (rest := []) (c_X7_thrown l G dce _ M11 xm adm (1 : Int32) 0 hm2) (cwV 0 hts gL_law_X7_thrown rfl rfl rfl (by decide +kernel) ⟨Nat.le_of_ble_eq_true rfl, Nat.le_of_ble_eq_true rfl⟩) rfl hl.1 rfl (Nat.le_of_ble_eq_true rfl) dL_law_1398 (Nat.le_of_ble_eq_true rfl) (Nat.le_of_ble_eq_true rfl) (fun r14 M13 H locs hp hw hS hz hk => ?_)
  rw [hp.2] at hw
  rw [hp.1]
  refine lv_iload hx hb dL_law_1401 (lv_at hl 1 rfl) ?_
  refine lv_icmp_eq (tgt := 1408) hx hb dL_law_1403 (by decide) (fun _ => ?_) (fun c_1403 => absurd rfl c_1403)
  refine lv_iload hx hb dL_law_1408 (lv_at hl 1 rfl) ?_
  refine lv_if_ne (tgt := 1425) hx hb dL_law_1410 (by decide) (fun _ => ?_) (fun c_1410 => absurd c_1410 (by decide))
  refine lv_goto (tgt := 1428) hx hb dL_law_1425 (by decide) ?_
  exact tail _ _ _ _ _ hS (lv_sub hl [2, 6] rfl) (Nat.le_of_ble_eq_true rfl) (Nat.le_of_ble_eq_true rfl)
