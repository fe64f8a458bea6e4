section ROWS4
variable {p : Program} {l : Launch} {e : Env} {R : Room} {s : State} {m : MethodId} {args : Array Value} {below : List Frame} {meth : Method} {c : Code} {H : Heap} {locs : List Loc} {cells slots : Nat} {Q : State → Prop}
variable {cc : ByteArray} {pc nL : Nat} {ls : Array Slot} {rest st0 : List Value} {G : gG} {A : Nat → Prop} {M : gM} {ret : Option FieldType} {Ts : List Cond} {own : String}
theorem m_callSWi (X : cX p s m meth c cc nL ret Ts own args) {dce : Nat} {y : MethodName} {bytes : ByteArray} {maxL mc ms n index : Nat} {ret9 : Option FieldType} {hh : List (Nat × Nat × Nat × Nat)} {ws : List Cond} {rm : Room} {As : List Value} {post : Int32 → gM → Prop} (hK : wK G s) (hw : wd G A M H) (hZ : wZ dce A s s.heap) (hS : va_S A s.heap H locs) (hA : ∀ q : Nat, s.heap.size ≤ q → A q) (hM : Met l y ws rm (va_Pc As (wB G dce H.size M)) (QI G post (wA M H.size)) mc ms (wA M H.size)) (cw : vx_CSW R s args own index y bytes maxL ret9 hh ws rm mc ms n) (hn : As.length = n) (hsz : ls.size = nL) (hst : st0 = As.reverse ++ rest) (hW9 : (rest.map fun v => v.category).sum ≤ 8) (hdg : decode cc pc = .ok (.invokestatic index, 3)) (hcl : cells + mc ≤ R.cells) (hsl : slots + ms ≤ R.slots)
    (kk : ∀ (r : Int32) (M1 : gM) (H1 : Heap) (locs1 : List Loc), post r M1 → wd G A M1 H1 → va_S A s.heap H1 locs1 → W p l e R s m args below meth c H1 locs1 (cells + mc) (slots + ms) Q (F0 m (pc + 3) ls (.int r :: rest))) : W p l e R s m args below meth c H locs cells slots Q (F0 m pc ls st0) := by
  have hf9 := hw.free hS hA
  exact va_calli (vx_runSW (As := As) (rest := rest) ⟨X.1, X.2.1, X.2.2.2.2.2.2, X.2.2.2.2.1, X.2.2.2.1⟩ hM cw ⟨wB_blind, fun U hU hW => ⟨rfl, wB_at hK hw hZ hS hA hU hW⟩⟩ rfl hn hsz hst (by simpa [JFrame.monitorRoom] using hW9) hdg ⟨hcl, hsl⟩) hS (fun q _ h => hf9 q h) hf9 (fun r M1 t H1 locs1 ht hvm hp hB hz hk hS1 => kk r M1 H1 locs1 hp (by have h9 := hB.1; rw [ht] at h9; exact h9.weaken (fun q e hq => hf9 q (h9.in hq))) hS1)
end ROWS4
theorem law_lt {L n : Nat} (hL : L ≤ 2560) (hn : n ≤ 512) : (nI L - 5 < nI (5 * n)) ↔ L < 5 * n + 5 := by
  rw [Int32.lt_iff_toInt_lt, show (nI L - 5).toInt = (L : Int) - (5 : Nat) from pk_sub_toInt (a := L) (b := 5) (by omega) (by decide), nI_toInt (by omega)]
  omega
theorem lg_eq (a : Int64) : lg_cmp a a = 0 := by
  unfold lg_cmp
  simp
set_option maxHeartbeats 4000000 in
set_option maxRecDepth 100000 in
theorem law_makeAuthor {p : Program} {l : Launch} {e : Env} {s : State} {m : MethodId} {below : List Frame} {meth : Method} {c : Code} {b L : Nat} {xs : Nat → Int32} {G : gG} {dce : Nat} {A : Nat → Prop} {Q : State → Prop} (hlt : l.stackTraces = false) (X : cX p s m meth c cL_law 7 ret wsL_law RL #[Value.ref b]) (hXs : va_X b L xs s s.heap) (hbl : b < s.heap.size) (hbA : ¬ A b) (hL0 : L ≤ 2560) (hK : wK G s) (hZ : wZ dce A s s.heap) (hA : ∀ q : Nat, s.heap.size ≤ q → A q) {x xm oa : Nat} {ad adm : Nat → Nat} {n : Nat} (hn : n < 512) (h5 : 5 * n + 5 ≤ L) {M : gM} {y : cY} {z : cZ} {w : mW} (hI : LI G dce x ad xm adm oa M y z w) (hR : RI n z w) {H : Heap} {locs : List Loc} (hw : wd G A M H) (hS : va_S A s.heap H locs) {cells slots : Nat} (hC : cells ≤ 100 + 11 * n + zC z) (hS2 : slots ≤ 80000 + 6190 * n + 4 * zC z) {ls : Array Slot} (hl : lv_has ls 7 [(4, .int (nI (5 * n))), (3, .ref oa), (2, .ref xm), (1, .ref x), (0, .ref b)])
    (tail : ∀ (M : gM) (y : cY) (z : cZ) (w : mW) (H : Heap) (locs : List Loc) (cells slots : Nat) (ls : Array Slot), LI G dce x ad xm adm oa M y z w → RI (n + 1) z w → wd G A M H → va_S A s.heap H locs → lv_has ls 7 [(4, .int (nI (5 * n))), (3, .ref oa), (2, .ref xm), (1, .ref x), (0, .ref b)] → cells ≤ 100 + 11 * (n + 1) + zC z → slots ≤ 80000 + 6190 * (n + 1) + 4 * zC z → W p l e room_1 s m #[Value.ref b] below meth c H locs cells slots Q (F0 m 934 ls [])) : W p l e room_1 s m #[Value.ref b] below meth c H locs cells slots Q (F0 m 132 ls []) := by
  obtain ⟨hx, hb, hr, hts, hown, hlk, hml⟩ := id X
  have hX9 := hI.1.1.1
  have hzc : zC z ≤ 32768 := hI.1.2.2.2.1.2.1.2.2.2.2
  have hzn : ∀ u, u < 8 → zN z u ≤ 1024 := fun u hu => hI.1.n hu
  obtain ⟨g0, hoa⟩ := hI.2.2.1
  have hm0 : M xm = some (.inr (8, [.int (rdH w), .ref (adm 1), .ref (adm 2), .ref (adm 3), .ref (adm 4), .ref (adm 5), .ref (adm 6), .ref (adm 7), .ref (adm 8), .ref (adm 9), .ref (adm 10), .ref (adm 11), .ref (adm 12), .ref (adm 13), .int (nI (rdN w)), .ref (adm 15)])) := hI.2.1.1
  obtain ⟨a1, ea1⟩ : ∃ z, z = xs (nI (5 * n + 1)).toNatClampNeg := ⟨_, rfl⟩
  obtain ⟨a2, ea2⟩ : ∃ z, z = xs (nI (5 * n + 2)).toNatClampNeg := ⟨_, rfl⟩
  obtain ⟨a3, ea3⟩ : ∃ z, z = xs (nI (5 * n + 3)).toNatClampNeg := ⟨_, rfl⟩
  obtain ⟨a4, ea4⟩ : ∃ z, z = xs (nI (5 * n + 4)).toNatClampNeg := ⟨_, rfl⟩
  refine lv_aload_n hx hb dL_law_132 rfl (lv_at hl 3 rfl) ?_
  refine lv_aload_n hx hb dL_law_133 rfl (lv_at hl 4 rfl) ?_
  refine lv_iload hx hb dL_law_134 (lv_at hl 0 rfl) ?_
  refine lv_iconst (v := 1) hx hb dL_law_136 (by decide) ?_
  refine lv_iadd hx hb dL_law_137 ?_
  rw [show nI (5 * n) + (1 : Int32) = nI (5 * n + 1) from nI_add (5 * n) 1]
  refine va_sld hx hb hXs hbl hbA hS (vp_in_nI (by omega) (by omega)) dL_law_138 ?_
  rw [← ea1]
  refine lv_aload_n hx hb dL_law_139 rfl (lv_at hl 4 rfl) ?_
  refine lv_iload hx hb dL_law_140 (lv_at hl 0 rfl) ?_
  refine lv_iconst (v := 2) hx hb dL_law_142 (by decide) ?_
  refine lv_iadd hx hb dL_law_143 ?_
  rw [show nI (5 * n) + (2 : Int32) = nI (5 * n + 2) from nI_add (5 * n) 2]
  refine va_sld hx hb hXs hbl hbA hS (vp_in_nI (by omega) (by omega)) dL_law_144 ?_
  rw [← ea2]
  refine lv_aload_n hx hb dL_law_145 rfl (lv_at hl 1 rfl) ?_
  refine m_callSWi X hK hw hZ hS hA (As := [.ref x, .int a1, .int a2, .ref oa]) (rest := []) (c_L_makeAuthor l G dce _ M hlt x ad y z hI.1 hR.1 oa g0 hoa a1 a2) (vx_cwSW 4 hts gL_law_L_makeAuthor rfl rfl rfl (by decide +kernel) ⟨Nat.le_of_ble_eq_true rfl, Nat.le_of_ble_eq_true rfl⟩) rfl hl.1 rfl (Nat.le_of_ble_eq_true rfl) dL_law_146 (by show _ ≤ (601024 : Nat); omega) (by show _ ≤ (7293034 : Nat); omega) (fun r1 M1 H locs hp hw hS => ?_)
  obtain ⟨y1, z1, g1, hco, ho1, hc1, hs1⟩ := hp
  have hI1 := hI.cls hc1 ho1 hs1
  have hz1 := z_makeAuthor hco hR.1
  have hzc1 : zC z1 ≤ 32768 := hc1.2.2.2.1.2.1.2.2.2.2
  have hzz : zC z1 = zC z := zc_makeAuthor hco
  have hm1 : M1 xm = some (.inr (8, [.int (rdH w), .ref (adm 1), .ref (adm 2), .ref (adm 3), .ref (adm 4), .ref (adm 5), .ref (adm 6), .ref (adm 7), .ref (adm 8), .ref (adm 9), .ref (adm 10), .ref (adm 11), .ref (adm 12), .ref (adm 13), .int (nI (rdN w)), .ref (adm 15)])) := hI1.2.1.1
  refine lv_istore (lv' := [(5, .int r1), (4, .int (nI (5 * n))), (3, .ref oa), (2, .ref xm), (1, .ref x), (0, .ref b)]) hx hb dL_law_149 hl (by decide) rfl (fun ls hl => ?_)
  refine lv_aload_n hx hb dL_law_151 rfl (lv_at hl 3 rfl) ?_
  refine lv_aload_n hx hb dL_law_152 rfl (lv_at hl 5 rfl) ?_
  refine lv_iload hx hb dL_law_153 (lv_at hl 1 rfl) ?_
  refine lv_iconst (v := 1) hx hb dL_law_155 (by decide) ?_
  refine lv_iadd hx hb dL_law_156 ?_
  rw [show nI (5 * n) + (1 : Int32) = nI (5 * n + 1) from nI_add (5 * n) 1]
  refine va_sld hx hb hXs hbl hbA hS (vp_in_nI (by omega) (by omega)) dL_law_157 ?_
  rw [← ea1]
  refine lv_aload_n hx hb dL_law_158 rfl (lv_at hl 5 rfl) ?_
  refine lv_iload hx hb dL_law_159 (lv_at hl 1 rfl) ?_
  refine lv_iconst (v := 2) hx hb dL_law_161 (by decide) ?_
  refine lv_iadd hx hb dL_law_162 ?_
  rw [show nI (5 * n) + (2 : Int32) = nI (5 * n + 2) from nI_add (5 * n) 2]
  refine va_sld hx hb hXs hbl hbA hS (vp_in_nI (by omega) (by omega)) dL_law_163 ?_
  rw [← ea2]
  refine m_callVi X (ci := 8) rfl hm1 hK hw hZ hS hA (As := [.int a1, .int a2]) (rest := []) (c_mMakeAuthor l G dce _ M1 xm adm w hI1.2.1 a1 a2 (by have h9 := hR.2.2.2.1 0 (by decide); omega)) (cwV 2 hts gL_law_X7_makeAuthor rfl rfl rfl (by decide +kernel) ⟨Nat.le_of_ble_eq_true rfl, Nat.le_of_ble_eq_true rfl⟩) rfl hl.1 rfl (Nat.le_of_ble_eq_true rfl) dL_law_164 (by show _ ≤ (601024 : Nat); omega) (by show _ ≤ (7293034 : Nat); omega) (fun r12 M11 H locs hp hw hS hz hk => ?_)
  obtain ⟨hf2, hp2⟩ := hp
  obtain ⟨w2, hmo, hm2⟩ : ∃ w2, mO_makeAuthor w a1 a2 r12 w2 ∧ MW G M11 xm adm w2 := by
    rcases hp2 with ⟨h0, ⟨i, a1, a2, a3, hm9⟩⟩ | ⟨h0, hm9⟩
    · exact ⟨_, Or.inl ⟨h0, ⟨i, a1, a2, a3, rfl⟩⟩, hm9⟩
    · exact ⟨_, Or.inr ⟨h0, rfl⟩, hm9⟩
  have hI2 := hI1.mdl hm2 hf2
  have ho2 := hI2.2 _ ho1
  have hst := st_makeAuthor hR hn hco hmo
  refine lv_istore (lv' := [(6, .int r12), (5, .int r1), (4, .int (nI (5 * n))), (3, .ref oa), (2, .ref xm), (1, .ref x), (0, .ref b)]) hx hb dL_law_167 hl (by decide) rfl (fun ls hl => ?_)
  refine lv_goto (tgt := 934) hx hb dL_law_169 (by decide) ?_
  exact tail _ y1 z1 w2 _ _ _ _ _ hI2.1 hst.1 hw hS (lv_sub hl [2, 3, 4, 5, 6] rfl) (by omega) (by omega)
set_option maxHeartbeats 4000000 in
set_option maxRecDepth 100000 in
theorem law_makeBook {p : Program} {l : Launch} {e : Env} {s : State} {m : MethodId} {below : List Frame} {meth : Method} {c : Code} {b L : Nat} {xs : Nat → Int32} {G : gG} {dce : Nat} {A : Nat → Prop} {Q : State → Prop} (hlt : l.stackTraces = false) (X : cX p s m meth c cL_law 7 ret wsL_law RL #[Value.ref b]) (hXs : va_X b L xs s s.heap) (hbl : b < s.heap.size) (hbA : ¬ A b) (hL0 : L ≤ 2560) (hK : wK G s) (hZ : wZ dce A s s.heap) (hA : ∀ q : Nat, s.heap.size ≤ q → A q) {x xm oa : Nat} {ad adm : Nat → Nat} {n : Nat} (hn : n < 512) (h5 : 5 * n + 5 ≤ L) {M : gM} {y : cY} {z : cZ} {w : mW} (hI : LI G dce x ad xm adm oa M y z w) (hR : RI n z w) {H : Heap} {locs : List Loc} (hw : wd G A M H) (hS : va_S A s.heap H locs) {cells slots : Nat} (hC : cells ≤ 100 + 11 * n + zC z) (hS2 : slots ≤ 80000 + 6190 * n + 4 * zC z) {ls : Array Slot} (hl : lv_has ls 7 [(4, .int (nI (5 * n))), (3, .ref oa), (2, .ref xm), (1, .ref x), (0, .ref b)])
    (tail : ∀ (M : gM) (y : cY) (z : cZ) (w : mW) (H : Heap) (locs : List Loc) (cells slots : Nat) (ls : Array Slot), LI G dce x ad xm adm oa M y z w → RI (n + 1) z w → wd G A M H → va_S A s.heap H locs → lv_has ls 7 [(4, .int (nI (5 * n))), (3, .ref oa), (2, .ref xm), (1, .ref x), (0, .ref b)] → cells ≤ 100 + 11 * (n + 1) + zC z → slots ≤ 80000 + 6190 * (n + 1) + 4 * zC z → W p l e room_1 s m #[Value.ref b] below meth c H locs cells slots Q (F0 m 934 ls [])) : W p l e room_1 s m #[Value.ref b] below meth c H locs cells slots Q (F0 m 172 ls []) := by
  obtain ⟨hx, hb, hr, hts, hown, hlk, hml⟩ := id X
  have hX9 := hI.1.1.1
  have hzc : zC z ≤ 32768 := hI.1.2.2.2.1.2.1.2.2.2.2
  have hzn : ∀ u, u < 8 → zN z u ≤ 1024 := fun u hu => hI.1.n hu
  obtain ⟨g0, hoa⟩ := hI.2.2.1
  have hm0 : M xm = some (.inr (8, [.int (rdH w), .ref (adm 1), .ref (adm 2), .ref (adm 3), .ref (adm 4), .ref (adm 5), .ref (adm 6), .ref (adm 7), .ref (adm 8), .ref (adm 9), .ref (adm 10), .ref (adm 11), .ref (adm 12), .ref (adm 13), .int (nI (rdN w)), .ref (adm 15)])) := hI.2.1.1
  obtain ⟨a1, ea1⟩ : ∃ z, z = xs (nI (5 * n + 1)).toNatClampNeg := ⟨_, rfl⟩
  obtain ⟨a2, ea2⟩ : ∃ z, z = xs (nI (5 * n + 2)).toNatClampNeg := ⟨_, rfl⟩
  obtain ⟨a3, ea3⟩ : ∃ z, z = xs (nI (5 * n + 3)).toNatClampNeg := ⟨_, rfl⟩
  obtain ⟨a4, ea4⟩ : ∃ z, z = xs (nI (5 * n + 4)).toNatClampNeg := ⟨_, rfl⟩
  refine lv_aload_n hx hb dL_law_172 rfl (lv_at hl 3 rfl) ?_
  refine lv_aload_n hx hb dL_law_173 rfl (lv_at hl 4 rfl) ?_
  refine lv_iload hx hb dL_law_174 (lv_at hl 0 rfl) ?_
  refine lv_iconst (v := 1) hx hb dL_law_176 (by decide) ?_
  refine lv_iadd hx hb dL_law_177 ?_
  rw [show nI (5 * n) + (1 : Int32) = nI (5 * n + 1) from nI_add (5 * n) 1]
  refine va_sld hx hb hXs hbl hbA hS (vp_in_nI (by omega) (by omega)) dL_law_178 ?_
  rw [← ea1]
  refine lv_aload_n hx hb dL_law_179 rfl (lv_at hl 4 rfl) ?_
  refine lv_iload hx hb dL_law_180 (lv_at hl 0 rfl) ?_
  refine lv_iconst (v := 2) hx hb dL_law_182 (by decide) ?_
  refine lv_iadd hx hb dL_law_183 ?_
  rw [show nI (5 * n) + (2 : Int32) = nI (5 * n + 2) from nI_add (5 * n) 2]
  refine va_sld hx hb hXs hbl hbA hS (vp_in_nI (by omega) (by omega)) dL_law_184 ?_
  rw [← ea2]
  refine lv_aload_n hx hb dL_law_185 rfl (lv_at hl 4 rfl) ?_
  refine lv_iload hx hb dL_law_186 (lv_at hl 0 rfl) ?_
  refine lv_iconst (v := 3) hx hb dL_law_188 (by decide) ?_
  refine lv_iadd hx hb dL_law_189 ?_
  rw [show nI (5 * n) + (3 : Int32) = nI (5 * n + 3) from nI_add (5 * n) 3]
  refine va_sld hx hb hXs hbl hbA hS (vp_in_nI (by omega) (by omega)) dL_law_190 ?_
  rw [← ea3]
  refine lv_aload_n hx hb dL_law_191 rfl (lv_at hl 1 rfl) ?_
  refine m_callSWi X hK hw hZ hS hA (As := [.ref x, .int a1, .int a2, .int a3, .ref oa]) (rest := []) (c_L_makeBook l G dce _ M hlt x ad y z hI.1 hR.1 oa g0 hoa a1 a2 a3) (vx_cwSW 5 hts gL_law_L_makeBook rfl rfl rfl (by decide +kernel) ⟨Nat.le_of_ble_eq_true rfl, Nat.le_of_ble_eq_true rfl⟩) rfl hl.1 rfl (Nat.le_of_ble_eq_true rfl) dL_law_192 (by show _ ≤ (601024 : Nat); omega) (by show _ ≤ (7293034 : Nat); omega) (fun r1 M1 H locs hp hw hS => ?_)
  obtain ⟨y1, z1, g1, hco, ho1, hc1, hs1⟩ := hp
  have hI1 := hI.cls hc1 ho1 hs1
  have hz1 := z_makeBook hco hR.1
  have hzc1 : zC z1 ≤ 32768 := hc1.2.2.2.1.2.1.2.2.2.2
  have hzz : zC z1 = zC z := zc_makeBook hco
  have hm1 : M1 xm = some (.inr (8, [.int (rdH w), .ref (adm 1), .ref (adm 2), .ref (adm 3), .ref (adm 4), .ref (adm 5), .ref (adm 6), .ref (adm 7), .ref (adm 8), .ref (adm 9), .ref (adm 10), .ref (adm 11), .ref (adm 12), .ref (adm 13), .int (nI (rdN w)), .ref (adm 15)])) := hI1.2.1.1
  refine lv_istore (lv' := [(5, .int r1), (4, .int (nI (5 * n))), (3, .ref oa), (2, .ref xm), (1, .ref x), (0, .ref b)]) hx hb dL_law_195 hl (by decide) rfl (fun ls hl => ?_)
  refine lv_aload_n hx hb dL_law_197 rfl (lv_at hl 3 rfl) ?_
  refine lv_aload_n hx hb dL_law_198 rfl (lv_at hl 5 rfl) ?_
  refine lv_iload hx hb dL_law_199 (lv_at hl 1 rfl) ?_
  refine lv_iconst (v := 1) hx hb dL_law_201 (by decide) ?_
  refine lv_iadd hx hb dL_law_202 ?_
  rw [show nI (5 * n) + (1 : Int32) = nI (5 * n + 1) from nI_add (5 * n) 1]
  refine va_sld hx hb hXs hbl hbA hS (vp_in_nI (by omega) (by omega)) dL_law_203 ?_
  rw [← ea1]
  refine lv_aload_n hx hb dL_law_204 rfl (lv_at hl 5 rfl) ?_
  refine lv_iload hx hb dL_law_205 (lv_at hl 1 rfl) ?_
  refine lv_iconst (v := 2) hx hb dL_law_207 (by decide) ?_
  refine lv_iadd hx hb dL_law_208 ?_
  rw [show nI (5 * n) + (2 : Int32) = nI (5 * n + 2) from nI_add (5 * n) 2]
  refine va_sld hx hb hXs hbl hbA hS (vp_in_nI (by omega) (by omega)) dL_law_209 ?_
  rw [← ea2]
  refine lv_aload_n hx hb dL_law_210 rfl (lv_at hl 5 rfl) ?_
  refine lv_iload hx hb dL_law_211 (lv_at hl 1 rfl) ?_
  refine lv_iconst (v := 3) hx hb dL_law_213 (by decide) ?_
  refine lv_iadd hx hb dL_law_214 ?_
  rw [show nI (5 * n) + (3 : Int32) = nI (5 * n + 3) from nI_add (5 * n) 3]
  refine va_sld hx hb hXs hbl hbA hS (vp_in_nI (by omega) (by omega)) dL_law_215 ?_
  rw [← ea3]
  refine m_callVi X (ci := 8) rfl hm1 hK hw hZ hS hA (As := [.int a1, .int a2, .int a3]) (rest := []) (c_mMakeBook l G dce _ M1 xm adm w hI1.2.1 a1 a2 a3 (by have h9 := hR.2.2.2.1 1 (by decide); omega)) (cwV 3 hts gL_law_X7_makeBook rfl rfl rfl (by decide +kernel) ⟨Nat.le_of_ble_eq_true rfl, Nat.le_of_ble_eq_true rfl⟩) rfl hl.1 rfl (Nat.le_of_ble_eq_true rfl) dL_law_216 (by show _ ≤ (601024 : Nat); omega) (by show _ ≤ (7293034 : Nat); omega) (fun r12 M11 H locs hp hw hS hz hk => ?_)
  obtain ⟨hf2, hp2⟩ := hp
  obtain ⟨w2, hmo, hm2⟩ : ∃ w2, mO_makeBook w a1 a2 a3 r12 w2 ∧ MW G M11 xm adm w2 := by
    rcases hp2 with ⟨h0, ⟨i, a1, a2, a3, a4, hm9⟩⟩ | ⟨h0, hm9⟩
    · exact ⟨_, Or.inl ⟨h0, ⟨i, a1, a2, a3, a4, rfl⟩⟩, hm9⟩
    · exact ⟨_, Or.inr ⟨h0, rfl⟩, hm9⟩
  have hI2 := hI1.mdl hm2 hf2
  have ho2 := hI2.2 _ ho1
  have hst := st_makeBook hR hn hco hmo
  refine lv_istore (lv' := [(6, .int r12), (5, .int r1), (4, .int (nI (5 * n))), (3, .ref oa), (2, .ref xm), (1, .ref x), (0, .ref b)]) hx hb dL_law_219 hl (by decide) rfl (fun ls hl => ?_)
  refine lv_goto (tgt := 934) hx hb dL_law_221 (by decide) ?_
  exact tail _ y1 z1 w2 _ _ _ _ _ hI2.1 hst.1 hw hS (lv_sub hl [2, 3, 4, 5, 6] rfl) (by omega) (by omega)
set_option maxHeartbeats 4000000 in
set_option maxRecDepth 100000 in
theorem law_find {p : Program} {l : Launch} {e : Env} {s : State} {m : MethodId} {below : List Frame} {meth : Method} {c : Code} {b L : Nat} {xs : Nat → Int32} {G : gG} {dce : Nat} {A : Nat → Prop} {Q : State → Prop} (hlt : l.stackTraces = false) (X : cX p s m meth c cL_law 7 ret wsL_law RL #[Value.ref b]) (hXs : va_X b L xs s s.heap) (hbl : b < s.heap.size) (hbA : ¬ A b) (hL0 : L ≤ 2560) (hK : wK G s) (hZ : wZ dce A s s.heap) (hA : ∀ q : Nat, s.heap.size ≤ q → A q) {x xm oa : Nat} {ad adm : Nat → Nat} {n : Nat} (hn : n < 512) (h5 : 5 * n + 5 ≤ L) {M : gM} {y : cY} {z : cZ} {w : mW} (hI : LI G dce x ad xm adm oa M y z w) (hR : RI n z w) {H : Heap} {locs : List Loc} (hw : wd G A M H) (hS : va_S A s.heap H locs) {cells slots : Nat} (hC : cells ≤ 100 + 11 * n + zC z) (hS2 : slots ≤ 80000 + 6190 * n + 4 * zC z) {ls : Array Slot} (hl : lv_has ls 7 [(4, .int (nI (5 * n))), (3, .ref oa), (2, .ref xm), (1, .ref x), (0, .ref b)])
    (tail : ∀ (M : gM) (y : cY) (z : cZ) (w : mW) (H : Heap) (locs : List Loc) (cells slots : Nat) (ls : Array Slot), LI G dce x ad xm adm oa M y z w → RI (n + 1) z w → wd G A M H → va_S A s.heap H locs → lv_has ls 7 [(4, .int (nI (5 * n))), (3, .ref oa), (2, .ref xm), (1, .ref x), (0, .ref b)] → cells ≤ 100 + 11 * (n + 1) + zC z → slots ≤ 80000 + 6190 * (n + 1) + 4 * zC z → W p l e room_1 s m #[Value.ref b] below meth c H locs cells slots Q (F0 m 934 ls [])) : W p l e room_1 s m #[Value.ref b] below meth c H locs cells slots Q (F0 m 224 ls []) := by
  obtain ⟨hx, hb, hr, hts, hown, hlk, hml⟩ := id X
  have hX9 := hI.1.1.1
  have hzc : zC z ≤ 32768 := hI.1.2.2.2.1.2.1.2.2.2.2
  have hzn : ∀ u, u < 8 → zN z u ≤ 1024 := fun u hu => hI.1.n hu
  obtain ⟨g0, hoa⟩ := hI.2.2.1
  have hm0 : M xm = some (.inr (8, [.int (rdH w), .ref (adm 1), .ref (adm 2), .ref (adm 3), .ref (adm 4), .ref (adm 5), .ref (adm 6), .ref (adm 7), .ref (adm 8), .ref (adm 9), .ref (adm 10), .ref (adm 11), .ref (adm 12), .ref (adm 13), .int (nI (rdN w)), .ref (adm 15)])) := hI.2.1.1
  obtain ⟨a1, ea1⟩ : ∃ z, z = xs (nI (5 * n + 1)).toNatClampNeg := ⟨_, rfl⟩
  obtain ⟨a2, ea2⟩ : ∃ z, z = xs (nI (5 * n + 2)).toNatClampNeg := ⟨_, rfl⟩
  obtain ⟨a3, ea3⟩ : ∃ z, z = xs (nI (5 * n + 3)).toNatClampNeg := ⟨_, rfl⟩
  obtain ⟨a4, ea4⟩ : ∃ z, z = xs (nI (5 * n + 4)).toNatClampNeg := ⟨_, rfl⟩
  refine lv_aload_n hx hb dL_law_224 rfl (lv_at hl 3 rfl) ?_
  refine lv_aload_n hx hb dL_law_225 rfl (lv_at hl 4 rfl) ?_
  refine lv_iload hx hb dL_law_226 (lv_at hl 0 rfl) ?_
  refine lv_iconst (v := 1) hx hb dL_law_228 (by decide) ?_
  refine lv_iadd hx hb dL_law_229 ?_
  rw [show nI (5 * n) + (1 : Int32) = nI (5 * n + 1) from nI_add (5 * n) 1]
  refine va_sld hx hb hXs hbl hbA hS (vp_in_nI (by omega) (by omega)) dL_law_230 ?_
  rw [← ea1]
  refine lv_aload_n hx hb dL_law_231 rfl (lv_at hl 4 rfl) ?_
  refine lv_iload hx hb dL_law_232 (lv_at hl 0 rfl) ?_
  refine lv_iconst (v := 2) hx hb dL_law_234 (by decide) ?_
  refine lv_iadd hx hb dL_law_235 ?_
  rw [show nI (5 * n) + (2 : Int32) = nI (5 * n + 2) from nI_add (5 * n) 2]
  refine va_sld hx hb hXs hbl hbA hS (vp_in_nI (by omega) (by omega)) dL_law_236 ?_
  rw [← ea2]
  refine lv_aload_n hx hb dL_law_237 rfl (lv_at hl 4 rfl) ?_
  refine lv_iload hx hb dL_law_238 (lv_at hl 0 rfl) ?_
  refine lv_iconst (v := 3) hx hb dL_law_240 (by decide) ?_
  refine lv_iadd hx hb dL_law_241 ?_
  rw [show nI (5 * n) + (3 : Int32) = nI (5 * n + 3) from nI_add (5 * n) 3]
  refine va_sld hx hb hXs hbl hbA hS (vp_in_nI (by omega) (by omega)) dL_law_242 ?_
  rw [← ea3]
  refine lv_aload_n hx hb dL_law_243 rfl (lv_at hl 1 rfl) ?_
  refine m_callSWi X hK hw hZ hS hA (As := [.ref x, .int a1, .int a2, .int a3, .ref oa]) (rest := []) (c_L_find l G dce _ M hlt x ad y z hI.1 hR.1 oa g0 hoa a1 a2 a3) (vx_cwSW 5 hts gL_law_L_find rfl rfl rfl (by decide +kernel) ⟨Nat.le_of_ble_eq_true rfl, Nat.le_of_ble_eq_true rfl⟩) rfl hl.1 rfl (Nat.le_of_ble_eq_true rfl) dL_law_244 (by show _ ≤ (601024 : Nat); omega) (by show _ ≤ (7293034 : Nat); omega) (fun r1 M1 H locs hp hw hS => ?_)
  obtain ⟨y1, z1, g1, hco, ho1, hc1, hs1⟩ := hp
  have hI1 := hI.cls hc1 ho1 hs1
  have hz1 := z_find hco hR.1
  have hzc1 : zC z1 ≤ 32768 := hc1.2.2.2.1.2.1.2.2.2.2
  have hzz : zC z1 = zC z := zc_find hco
  have hm1 : M1 xm = some (.inr (8, [.int (rdH w), .ref (adm 1), .ref (adm 2), .ref (adm 3), .ref (adm 4), .ref (adm 5), .ref (adm 6), .ref (adm 7), .ref (adm 8), .ref (adm 9), .ref (adm 10), .ref (adm 11), .ref (adm 12), .ref (adm 13), .int (nI (rdN w)), .ref (adm 15)])) := hI1.2.1.1
  refine lv_istore (lv' := [(5, .int r1), (4, .int (nI (5 * n))), (3, .ref oa), (2, .ref xm), (1, .ref x), (0, .ref b)]) hx hb dL_law_247 hl (by decide) rfl (fun ls hl => ?_)
  refine lv_aload_n hx hb dL_law_249 rfl (lv_at hl 3 rfl) ?_
  refine lv_aload_n hx hb dL_law_250 rfl (lv_at hl 5 rfl) ?_
  refine lv_iload hx hb dL_law_251 (lv_at hl 1 rfl) ?_
  refine lv_iconst (v := 1) hx hb dL_law_253 (by decide) ?_
  refine lv_iadd hx hb dL_law_254 ?_
  rw [show nI (5 * n) + (1 : Int32) = nI (5 * n + 1) from nI_add (5 * n) 1]
  refine va_sld hx hb hXs hbl hbA hS (vp_in_nI (by omega) (by omega)) dL_law_255 ?_
  rw [← ea1]
  refine lv_aload_n hx hb dL_law_256 rfl (lv_at hl 5 rfl) ?_
  refine lv_iload hx hb dL_law_257 (lv_at hl 1 rfl) ?_
  refine lv_iconst (v := 2) hx hb dL_law_259 (by decide) ?_
  refine lv_iadd hx hb dL_law_260 ?_
  rw [show nI (5 * n) + (2 : Int32) = nI (5 * n + 2) from nI_add (5 * n) 2]
  refine va_sld hx hb hXs hbl hbA hS (vp_in_nI (by omega) (by omega)) dL_law_261 ?_
  rw [← ea2]
  refine lv_aload_n hx hb dL_law_262 rfl (lv_at hl 5 rfl) ?_
  refine lv_iload hx hb dL_law_263 (lv_at hl 1 rfl) ?_
  refine lv_iconst (v := 3) hx hb dL_law_265 (by decide) ?_
  refine lv_iadd hx hb dL_law_266 ?_
  rw [show nI (5 * n) + (3 : Int32) = nI (5 * n + 3) from nI_add (5 * n) 3]
  refine va_sld hx hb hXs hbl hbA hS (vp_in_nI (by omega) (by omega)) dL_law_267 ?_
  rw [← ea3]
  refine m_callVi X (ci := 8) rfl hm1 hK hw hZ hS hA (As := [.int a1, .int a2, .int a3]) (rest := []) (c_mFind l G dce _ M1 xm adm w hI1.2.1 a1 a2 a3) (cwV 3 hts gL_law_X7_find rfl rfl rfl (by decide +kernel) ⟨Nat.le_of_ble_eq_true rfl, Nat.le_of_ble_eq_true rfl⟩) rfl hl.1 rfl (Nat.le_of_ble_eq_true rfl) dL_law_268 (by show _ ≤ (601024 : Nat); omega) (by show _ ≤ (7293034 : Nat); omega) (fun r12 M11 H locs hp hw hS hz hk => ?_)
  obtain ⟨hf2, hp2⟩ := hp
  obtain ⟨w2, hmo, hm2⟩ : ∃ w2, mO_find w a1 a2 a3 r12 w2 ∧ MW G M11 xm adm w2 := by
    rcases hp2 with ⟨h0, ⟨i, k, a1, a2, a3, hm9⟩⟩ | ⟨h0, hm9⟩
    · exact ⟨_, Or.inl ⟨h0, ⟨i, k, a1, a2, a3, rfl⟩⟩, hm9⟩
    · exact ⟨_, Or.inr ⟨h0, rfl⟩, hm9⟩
  have hI2 := hI1.mdl hm2 hf2
  have ho2 := hI2.2 _ ho1
  have hst := st_find hR hn hco hmo
  refine lv_istore (lv' := [(6, .int r12), (5, .int r1), (4, .int (nI (5 * n))), (3, .ref oa), (2, .ref xm), (1, .ref x), (0, .ref b)]) hx hb dL_law_271 hl (by decide) rfl (fun ls hl => ?_)
  refine lv_goto (tgt := 934) hx hb dL_law_273 (by decide) ?_
  exact tail _ y1 z1 w2 _ _ _ _ _ hI2.1 hst.1 hw hS (lv_sub hl [2, 3, 4, 5, 6] rfl) (by omega) (by omega)
set_option maxHeartbeats 4000000 in
set_option maxRecDepth 100000 in
theorem law_books {p : Program} {l : Launch} {e : Env} {s : State} {m : MethodId} {below : List Frame} {meth : Method} {c : Code} {b L : Nat} {xs : Nat → Int32} {G : gG} {dce : Nat} {A : Nat → Prop} {Q : State → Prop} (hlt : l.stackTraces = false) (X : cX p s m meth c cL_law 7 ret wsL_law RL #[Value.ref b]) (hXs : va_X b L xs s s.heap) (hbl : b < s.heap.size) (hbA : ¬ A b) (hL0 : L ≤ 2560) (hK : wK G s) (hZ : wZ dce A s s.heap) (hA : ∀ q : Nat, s.heap.size ≤ q → A q) {x xm oa : Nat} {ad adm : Nat → Nat} {n : Nat} (hn : n < 512) (h5 : 5 * n + 5 ≤ L) {M : gM} {y : cY} {z : cZ} {w : mW} (hI : LI G dce x ad xm adm oa M y z w) (hR : RI n z w) {H : Heap} {locs : List Loc} (hw : wd G A M H) (hS : va_S A s.heap H locs) {cells slots : Nat} (hC : cells ≤ 100 + 11 * n + zC z) (hS2 : slots ≤ 80000 + 6190 * n + 4 * zC z) {ls : Array Slot} (hl : lv_has ls 7 [(4, .int (nI (5 * n))), (3, .ref oa), (2, .ref xm), (1, .ref x), (0, .ref b)])
    (tail : ∀ (M : gM) (y : cY) (z : cZ) (w : mW) (H : Heap) (locs : List Loc) (cells slots : Nat) (ls : Array Slot), LI G dce x ad xm adm oa M y z w → RI (n + 1) z w → wd G A M H → va_S A s.heap H locs → lv_has ls 7 [(4, .int (nI (5 * n))), (3, .ref oa), (2, .ref xm), (1, .ref x), (0, .ref b)] → cells ≤ 100 + 11 * (n + 1) + zC z → slots ≤ 80000 + 6190 * (n + 1) + 4 * zC z → W p l e room_1 s m #[Value.ref b] below meth c H locs cells slots Q (F0 m 934 ls [])) : W p l e room_1 s m #[Value.ref b] below meth c H locs cells slots Q (F0 m 276 ls []) := by
  obtain ⟨hx, hb, hr, hts, hown, hlk, hml⟩ := id X
  have hX9 := hI.1.1.1
  have hzc : zC z ≤ 32768 := hI.1.2.2.2.1.2.1.2.2.2.2
  have hzn : ∀ u, u < 8 → zN z u ≤ 1024 := fun u hu => hI.1.n hu
  obtain ⟨g0, hoa⟩ := hI.2.2.1
  have hm0 : M xm = some (.inr (8, [.int (rdH w), .ref (adm 1), .ref (adm 2), .ref (adm 3), .ref (adm 4), .ref (adm 5), .ref (adm 6), .ref (adm 7), .ref (adm 8), .ref (adm 9), .ref (adm 10), .ref (adm 11), .ref (adm 12), .ref (adm 13), .int (nI (rdN w)), .ref (adm 15)])) := hI.2.1.1
  obtain ⟨a1, ea1⟩ : ∃ z, z = xs (nI (5 * n + 1)).toNatClampNeg := ⟨_, rfl⟩
  obtain ⟨a2, ea2⟩ : ∃ z, z = xs (nI (5 * n + 2)).toNatClampNeg := ⟨_, rfl⟩
  obtain ⟨a3, ea3⟩ : ∃ z, z = xs (nI (5 * n + 3)).toNatClampNeg := ⟨_, rfl⟩
  obtain ⟨a4, ea4⟩ : ∃ z, z = xs (nI (5 * n + 4)).toNatClampNeg := ⟨_, rfl⟩
  refine lv_aload_n hx hb dL_law_276 rfl (lv_at hl 3 rfl) ?_
  refine lv_aload_n hx hb dL_law_277 rfl (lv_at hl 4 rfl) ?_
  refine lv_iload hx hb dL_law_278 (lv_at hl 0 rfl) ?_
  refine lv_iconst (v := 1) hx hb dL_law_280 (by decide) ?_
  refine lv_iadd hx hb dL_law_281 ?_
  rw [show nI (5 * n) + (1 : Int32) = nI (5 * n + 1) from nI_add (5 * n) 1]
  refine va_sld hx hb hXs hbl hbA hS (vp_in_nI (by omega) (by omega)) dL_law_282 ?_
  rw [← ea1]
  refine lv_aload_n hx hb dL_law_283 rfl (lv_at hl 4 rfl) ?_
  refine lv_iload hx hb dL_law_284 (lv_at hl 0 rfl) ?_
  refine lv_iconst (v := 2) hx hb dL_law_286 (by decide) ?_
  refine lv_iadd hx hb dL_law_287 ?_
  rw [show nI (5 * n) + (2 : Int32) = nI (5 * n + 2) from nI_add (5 * n) 2]
  refine va_sld hx hb hXs hbl hbA hS (vp_in_nI (by omega) (by omega)) dL_law_288 ?_
  rw [← ea2]
  refine lv_aload_n hx hb dL_law_289 rfl (lv_at hl 1 rfl) ?_
  refine m_callSWi X hK hw hZ hS hA (As := [.ref x, .int a1, .int a2, .ref oa]) (rest := []) (c_L_books l G dce _ M hlt x ad y z hI.1 hR.1 oa g0 hoa a1 a2) (vx_cwSW 4 hts gL_law_L_books rfl rfl rfl (by decide +kernel) ⟨Nat.le_of_ble_eq_true rfl, Nat.le_of_ble_eq_true rfl⟩) rfl hl.1 rfl (Nat.le_of_ble_eq_true rfl) dL_law_290 (by show _ ≤ (601024 : Nat); omega) (by show _ ≤ (7293034 : Nat); omega) (fun r1 M1 H locs hp hw hS => ?_)
  obtain ⟨y1, z1, g1, hco, ho1, hc1, hs1⟩ := hp
  have hI1 := hI.cls hc1 ho1 hs1
  have hz1 := z_books hco hR.1
  have hzc1 : zC z1 ≤ 32768 := hc1.2.2.2.1.2.1.2.2.2.2
  have hzz : zC z1 = zC z := zc_books hco
  have hm1 : M1 xm = some (.inr (8, [.int (rdH w), .ref (adm 1), .ref (adm 2), .ref (adm 3), .ref (adm 4), .ref (adm 5), .ref (adm 6), .ref (adm 7), .ref (adm 8), .ref (adm 9), .ref (adm 10), .ref (adm 11), .ref (adm 12), .ref (adm 13), .int (nI (rdN w)), .ref (adm 15)])) := hI1.2.1.1
  refine lv_istore (lv' := [(5, .int r1), (4, .int (nI (5 * n))), (3, .ref oa), (2, .ref xm), (1, .ref x), (0, .ref b)]) hx hb dL_law_293 hl (by decide) rfl (fun ls hl => ?_)
  refine lv_aload_n hx hb dL_law_295 rfl (lv_at hl 3 rfl) ?_
  refine lv_aload_n hx hb dL_law_296 rfl (lv_at hl 5 rfl) ?_
  refine lv_iload hx hb dL_law_297 (lv_at hl 1 rfl) ?_
  refine lv_iconst (v := 1) hx hb dL_law_299 (by decide) ?_
  refine lv_iadd hx hb dL_law_300 ?_
  rw [show nI (5 * n) + (1 : Int32) = nI (5 * n + 1) from nI_add (5 * n) 1]
  refine va_sld hx hb hXs hbl hbA hS (vp_in_nI (by omega) (by omega)) dL_law_301 ?_
  rw [← ea1]
  refine lv_aload_n hx hb dL_law_302 rfl (lv_at hl 5 rfl) ?_
  refine lv_iload hx hb dL_law_303 (lv_at hl 1 rfl) ?_
  refine lv_iconst (v := 2) hx hb dL_law_305 (by decide) ?_
  refine lv_iadd hx hb dL_law_306 ?_
  rw [show nI (5 * n) + (2 : Int32) = nI (5 * n + 2) from nI_add (5 * n) 2]
  refine va_sld hx hb hXs hbl hbA hS (vp_in_nI (by omega) (by omega)) dL_law_307 ?_
  rw [← ea2]
  refine m_callVi X (ci := 8) rfl hm1 hK hw hZ hS hA (As := [.int a1, .int a2]) (rest := []) (c_mBooks l G dce _ M1 xm adm w hI1.2.1 a1 a2) (cwV 2 hts gL_law_X7_books rfl rfl rfl (by decide +kernel) ⟨Nat.le_of_ble_eq_true rfl, Nat.le_of_ble_eq_true rfl⟩) rfl hl.1 rfl (Nat.le_of_ble_eq_true rfl) dL_law_308 (by show _ ≤ (601024 : Nat); omega) (by show _ ≤ (7293034 : Nat); omega) (fun r12 M11 H locs hp hw hS hz hk => ?_)
  obtain ⟨hf2, hp2⟩ := hp
  obtain ⟨w2, hmo, hm2⟩ : ∃ w2, mO_books w a1 a2 r12 w2 ∧ MW G M11 xm adm w2 := by
    rcases hp2 with ⟨h0, ⟨i, a1, a2, a3, hm9⟩⟩ | ⟨h0, hm9⟩
    · exact ⟨_, Or.inl ⟨h0, ⟨i, a1, a2, a3, rfl⟩⟩, hm9⟩
    · exact ⟨_, Or.inr ⟨h0, rfl⟩, hm9⟩
  have hI2 := hI1.mdl hm2 hf2
  have ho2 := hI2.2 _ ho1
  have hst := st_books hR hn hco hmo
  refine lv_istore (lv' := [(6, .int r12), (5, .int r1), (4, .int (nI (5 * n))), (3, .ref oa), (2, .ref xm), (1, .ref x), (0, .ref b)]) hx hb dL_law_311 hl (by decide) rfl (fun ls hl => ?_)
  refine lv_goto (tgt := 934) hx hb dL_law_313 (by decide) ?_
  exact tail _ y1 z1 w2 _ _ _ _ _ hI2.1 hst.1 hw hS (lv_sub hl [2, 3, 4, 5, 6] rfl) (by omega) (by omega)
set_option maxHeartbeats 4000000 in
set_option maxRecDepth 100000 in
theorem law_setName {p : Program} {l : Launch} {e : Env} {s : State} {m : MethodId} {below : List Frame} {meth : Method} {c : Code} {b L : Nat} {xs : Nat → Int32} {G : gG} {dce : Nat} {A : Nat → Prop} {Q : State → Prop} (hlt : l.stackTraces = false) (X : cX p s m meth c cL_law 7 ret wsL_law RL #[Value.ref b]) (hXs : va_X b L xs s s.heap) (hbl : b < s.heap.size) (hbA : ¬ A b) (hL0 : L ≤ 2560) (hK : wK G s) (hZ : wZ dce A s s.heap) (hA : ∀ q : Nat, s.heap.size ≤ q → A q) {x xm oa : Nat} {ad adm : Nat → Nat} {n : Nat} (hn : n < 512) (h5 : 5 * n + 5 ≤ L) {M : gM} {y : cY} {z : cZ} {w : mW} (hI : LI G dce x ad xm adm oa M y z w) (hR : RI n z w) {H : Heap} {locs : List Loc} (hw : wd G A M H) (hS : va_S A s.heap H locs) {cells slots : Nat} (hC : cells ≤ 100 + 11 * n + zC z) (hS2 : slots ≤ 80000 + 6190 * n + 4 * zC z) {ls : Array Slot} (hl : lv_has ls 7 [(4, .int (nI (5 * n))), (3, .ref oa), (2, .ref xm), (1, .ref x), (0, .ref b)])
    (tail : ∀ (M : gM) (y : cY) (z : cZ) (w : mW) (H : Heap) (locs : List Loc) (cells slots : Nat) (ls : Array Slot), LI G dce x ad xm adm oa M y z w → RI (n + 1) z w → wd G A M H → va_S A s.heap H locs → lv_has ls 7 [(4, .int (nI (5 * n))), (3, .ref oa), (2, .ref xm), (1, .ref x), (0, .ref b)] → cells ≤ 100 + 11 * (n + 1) + zC z → slots ≤ 80000 + 6190 * (n + 1) + 4 * zC z → W p l e room_1 s m #[Value.ref b] below meth c H locs cells slots Q (F0 m 934 ls [])) : W p l e room_1 s m #[Value.ref b] below meth c H locs cells slots Q (F0 m 316 ls []) := by
  obtain ⟨hx, hb, hr, hts, hown, hlk, hml⟩ := id X
  have hX9 := hI.1.1.1
  have hzc : zC z ≤ 32768 := hI.1.2.2.2.1.2.1.2.2.2.2
  have hzn : ∀ u, u < 8 → zN z u ≤ 1024 := fun u hu => hI.1.n hu
  obtain ⟨g0, hoa⟩ := hI.2.2.1
  have hm0 : M xm = some (.inr (8, [.int (rdH w), .ref (adm 1), .ref (adm 2), .ref (adm 3), .ref (adm 4), .ref (adm 5), .ref (adm 6), .ref (adm 7), .ref (adm 8), .ref (adm 9), .ref (adm 10), .ref (adm 11), .ref (adm 12), .ref (adm 13), .int (nI (rdN w)), .ref (adm 15)])) := hI.2.1.1
  obtain ⟨a1, ea1⟩ : ∃ z, z = xs (nI (5 * n + 1)).toNatClampNeg := ⟨_, rfl⟩
  obtain ⟨a2, ea2⟩ : ∃ z, z = xs (nI (5 * n + 2)).toNatClampNeg := ⟨_, rfl⟩
  obtain ⟨a3, ea3⟩ : ∃ z, z = xs (nI (5 * n + 3)).toNatClampNeg := ⟨_, rfl⟩
  obtain ⟨a4, ea4⟩ : ∃ z, z = xs (nI (5 * n + 4)).toNatClampNeg := ⟨_, rfl⟩
  refine lv_aload_n hx hb dL_law_316 rfl (lv_at hl 3 rfl) ?_
  refine lv_aload_n hx hb dL_law_317 rfl (lv_at hl 4 rfl) ?_
  refine lv_iload hx hb dL_law_318 (lv_at hl 0 rfl) ?_
  refine lv_iconst (v := 1) hx hb dL_law_320 (by decide) ?_
  refine lv_iadd hx hb dL_law_321 ?_
  rw [show nI (5 * n) + (1 : Int32) = nI (5 * n + 1) from nI_add (5 * n) 1]
  refine va_sld hx hb hXs hbl hbA hS (vp_in_nI (by omega) (by omega)) dL_law_322 ?_
  rw [← ea1]
  refine lv_aload_n hx hb dL_law_323 rfl (lv_at hl 4 rfl) ?_
  refine lv_iload hx hb dL_law_324 (lv_at hl 0 rfl) ?_
  refine lv_iconst (v := 2) hx hb dL_law_326 (by decide) ?_
  refine lv_iadd hx hb dL_law_327 ?_
  rw [show nI (5 * n) + (2 : Int32) = nI (5 * n + 2) from nI_add (5 * n) 2]
  refine va_sld hx hb hXs hbl hbA hS (vp_in_nI (by omega) (by omega)) dL_law_328 ?_
  rw [← ea2]
  refine lv_aload_n hx hb dL_law_329 rfl (lv_at hl 4 rfl) ?_
  refine lv_iload hx hb dL_law_330 (lv_at hl 0 rfl) ?_
  refine lv_iconst (v := 3) hx hb dL_law_332 (by decide) ?_
  refine lv_iadd hx hb dL_law_333 ?_
  rw [show nI (5 * n) + (3 : Int32) = nI (5 * n + 3) from nI_add (5 * n) 3]
  refine va_sld hx hb hXs hbl hbA hS (vp_in_nI (by omega) (by omega)) dL_law_334 ?_
  rw [← ea3]
  refine lv_aload_n hx hb dL_law_335 rfl (lv_at hl 4 rfl) ?_
  refine lv_iload hx hb dL_law_336 (lv_at hl 0 rfl) ?_
  refine lv_iconst (v := 4) hx hb dL_law_338 (by decide) ?_
  refine lv_iadd hx hb dL_law_339 ?_
  rw [show nI (5 * n) + (4 : Int32) = nI (5 * n + 4) from nI_add (5 * n) 4]
  refine va_sld hx hb hXs hbl hbA hS (vp_in_nI (by omega) (by omega)) dL_law_340 ?_
  rw [← ea4]
  refine m_callSWi X hK hw hZ hS hA (As := [.ref x, .int a1, .int a2, .int a3, .int a4]) (rest := []) (c_L_setName l G dce _ M hlt x ad y z hI.1 a1 a2 a3 a4) (vx_cwSW 5 hts gL_law_L_setName rfl rfl rfl (by decide +kernel) ⟨Nat.le_of_ble_eq_true rfl, Nat.le_of_ble_eq_true rfl⟩) rfl hl.1 rfl (Nat.le_of_ble_eq_true rfl) dL_law_341 (by show _ ≤ (601024 : Nat); omega) (by show _ ≤ (7293034 : Nat); omega) (fun r1 M1 H locs hp hw hS => ?_)
  obtain ⟨y1, z1, hco, hc1, hs1⟩ := hp
  have ho1 := hs1.1 oa _ hoa (hI.1.nO hoa)
  have hI1 := hI.cls hc1 ho1 hs1.w
  have hz1 := z_setName hco hR.1
  have hzc1 : zC z1 ≤ 32768 := hc1.2.2.2.1.2.1.2.2.2.2
  have hzz : zC z1 = zC z := zc_setName hco
  have hm1 : M1 xm = some (.inr (8, [.int (rdH w), .ref (adm 1), .ref (adm 2), .ref (adm 3), .ref (adm 4), .ref (adm 5), .ref (adm 6), .ref (adm 7), .ref (adm 8), .ref (adm 9), .ref (adm 10), .ref (adm 11), .ref (adm 12), .ref (adm 13), .int (nI (rdN w)), .ref (adm 15)])) := hI1.2.1.1
  refine lv_istore (lv' := [(5, .int r1), (4, .int (nI (5 * n))), (3, .ref oa), (2, .ref xm), (1, .ref x), (0, .ref b)]) hx hb dL_law_344 hl (by decide) rfl (fun ls hl => ?_)
  refine lv_aload_n hx hb dL_law_346 rfl (lv_at hl 3 rfl) ?_
  refine lv_aload_n hx hb dL_law_347 rfl (lv_at hl 5 rfl) ?_
  refine lv_iload hx hb dL_law_348 (lv_at hl 1 rfl) ?_
  refine lv_iconst (v := 1) hx hb dL_law_350 (by decide) ?_
  refine lv_iadd hx hb dL_law_351 ?_
  rw [show nI (5 * n) + (1 : Int32) = nI (5 * n + 1) from nI_add (5 * n) 1]
  refine va_sld hx hb hXs hbl hbA hS (vp_in_nI (by omega) (by omega)) dL_law_352 ?_
  rw [← ea1]
  refine lv_aload_n hx hb dL_law_353 rfl (lv_at hl 5 rfl) ?_
  refine lv_iload hx hb dL_law_354 (lv_at hl 1 rfl) ?_
  refine lv_iconst (v := 2) hx hb dL_law_356 (by decide) ?_
  refine lv_iadd hx hb dL_law_357 ?_
  rw [show nI (5 * n) + (2 : Int32) = nI (5 * n + 2) from nI_add (5 * n) 2]
  refine va_sld hx hb hXs hbl hbA hS (vp_in_nI (by omega) (by omega)) dL_law_358 ?_
  rw [← ea2]
  refine lv_aload_n hx hb dL_law_359 rfl (lv_at hl 5 rfl) ?_
  refine lv_iload hx hb dL_law_360 (lv_at hl 1 rfl) ?_
  refine lv_iconst (v := 3) hx hb dL_law_362 (by decide) ?_
  refine lv_iadd hx hb dL_law_363 ?_
  rw [show nI (5 * n) + (3 : Int32) = nI (5 * n + 3) from nI_add (5 * n) 3]
  refine va_sld hx hb hXs hbl hbA hS (vp_in_nI (by omega) (by omega)) dL_law_364 ?_
  rw [← ea3]
  refine lv_aload_n hx hb dL_law_365 rfl (lv_at hl 5 rfl) ?_
  refine lv_iload hx hb dL_law_366 (lv_at hl 1 rfl) ?_
  refine lv_iconst (v := 4) hx hb dL_law_368 (by decide) ?_
  refine lv_iadd hx hb dL_law_369 ?_
  rw [show nI (5 * n) + (4 : Int32) = nI (5 * n + 4) from nI_add (5 * n) 4]
  refine va_sld hx hb hXs hbl hbA hS (vp_in_nI (by omega) (by omega)) dL_law_370 ?_
  rw [← ea4]
  refine m_callVv X (ci := 8) rfl hm1 hK hw hZ hS hA (As := [.int a1, .int a2, .int a3, .int a4]) (rest := []) (c_mSetName l G dce _ M1 xm adm w hI1.2.1 a1 a2 a3 a4) (cwV 4 hts gL_law_X7_setName rfl rfl rfl (by decide +kernel) ⟨Nat.le_of_ble_eq_true rfl, Nat.le_of_ble_eq_true rfl⟩) rfl hl.1 rfl (Nat.le_of_ble_eq_true rfl) dL_law_371 (by show _ ≤ (601024 : Nat); omega) (by show _ ≤ (7293034 : Nat); omega) (fun M11 H locs hp hw hS hz hk => ?_)
  obtain ⟨hf2, hp2⟩ := hp
  obtain ⟨w2, hmo, hm2⟩ : ∃ w2, mO_setName w a1 a2 a3 a4 w2 ∧ MW G M11 xm adm w2 := by
    rcases hp2 with ⟨h0, ⟨i, k, j, a1, a2, a3, a4, hm9⟩⟩ | ⟨h0, hm9⟩
    · exact ⟨_, Or.inl ⟨h0, ⟨i, k, j, a1, a2, a3, a4, rfl⟩⟩, hm9⟩
    · exact ⟨_, Or.inr ⟨h0, rfl⟩, hm9⟩
  have hI2 := hI1.mdl hm2 hf2
  have hst := st_setName hR hn hco hmo
  refine lv_goto (tgt := 934) hx hb dL_law_374 (by decide) ?_
  exact tail _ y1 z1 w2 _ _ _ _ _ hI2.1 hst.1 hw hS (lv_sub hl [1, 2, 3, 4, 5] rfl) (by omega) (by omega)
set_option maxHeartbeats 4000000 in
set_option maxRecDepth 100000 in
theorem law_setReference {p : Program} {l : Launch} {e : Env} {s : State} {m : MethodId} {below : List Frame} {meth : Method} {c : Code} {b L : Nat} {xs : Nat → Int32} {G : gG} {dce : Nat} {A : Nat → Prop} {Q : State → Prop} (hlt : l.stackTraces = false) (X : cX p s m meth c cL_law 7 ret wsL_law RL #[Value.ref b]) (hXs : va_X b L xs s s.heap) (hbl : b < s.heap.size) (hbA : ¬ A b) (hL0 : L ≤ 2560) (hK : wK G s) (hZ : wZ dce A s s.heap) (hA : ∀ q : Nat, s.heap.size ≤ q → A q) {x xm oa : Nat} {ad adm : Nat → Nat} {n : Nat} (hn : n < 512) (h5 : 5 * n + 5 ≤ L) {M : gM} {y : cY} {z : cZ} {w : mW} (hI : LI G dce x ad xm adm oa M y z w) (hR : RI n z w) {H : Heap} {locs : List Loc} (hw : wd G A M H) (hS : va_S A s.heap H locs) {cells slots : Nat} (hC : cells ≤ 100 + 11 * n + zC z) (hS2 : slots ≤ 80000 + 6190 * n + 4 * zC z) {ls : Array Slot} (hl : lv_has ls 7 [(4, .int (nI (5 * n))), (3, .ref oa), (2, .ref xm), (1, .ref x), (0, .ref b)])
    (tail : ∀ (M : gM) (y : cY) (z : cZ) (w : mW) (H : Heap) (locs : List Loc) (cells slots : Nat) (ls : Array Slot), LI G dce x ad xm adm oa M y z w → RI (n + 1) z w → wd G A M H → va_S A s.heap H locs → lv_has ls 7 [(4, .int (nI (5 * n))), (3, .ref oa), (2, .ref xm), (1, .ref x), (0, .ref b)] → cells ≤ 100 + 11 * (n + 1) + zC z → slots ≤ 80000 + 6190 * (n + 1) + 4 * zC z → W p l e room_1 s m #[Value.ref b] below meth c H locs cells slots Q (F0 m 934 ls [])) : W p l e room_1 s m #[Value.ref b] below meth c H locs cells slots Q (F0 m 377 ls []) := by
  obtain ⟨hx, hb, hr, hts, hown, hlk, hml⟩ := id X
  have hX9 := hI.1.1.1
  have hzc : zC z ≤ 32768 := hI.1.2.2.2.1.2.1.2.2.2.2
  have hzn : ∀ u, u < 8 → zN z u ≤ 1024 := fun u hu => hI.1.n hu
  obtain ⟨g0, hoa⟩ := hI.2.2.1
  have hm0 : M xm = some (.inr (8, [.int (rdH w), .ref (adm 1), .ref (adm 2), .ref (adm 3), .ref (adm 4), .ref (adm 5), .ref (adm 6), .ref (adm 7), .ref (adm 8), .ref (adm 9), .ref (adm 10), .ref (adm 11), .ref (adm 12), .ref (adm 13), .int (nI (rdN w)), .ref (adm 15)])) := hI.2.1.1
  obtain ⟨a1, ea1⟩ : ∃ z, z = xs (nI (5 * n + 1)).toNatClampNeg := ⟨_, rfl⟩
  obtain ⟨a2, ea2⟩ : ∃ z, z = xs (nI (5 * n + 2)).toNatClampNeg := ⟨_, rfl⟩
  obtain ⟨a3, ea3⟩ : ∃ z, z = xs (nI (5 * n + 3)).toNatClampNeg := ⟨_, rfl⟩
  obtain ⟨a4, ea4⟩ : ∃ z, z = xs (nI (5 * n + 4)).toNatClampNeg := ⟨_, rfl⟩
  refine lv_aload_n hx hb dL_law_377 rfl (lv_at hl 3 rfl) ?_
  refine lv_aload_n hx hb dL_law_378 rfl (lv_at hl 4 rfl) ?_
  refine lv_iload hx hb dL_law_379 (lv_at hl 0 rfl) ?_
  refine lv_iconst (v := 1) hx hb dL_law_381 (by decide) ?_
  refine lv_iadd hx hb dL_law_382 ?_
  rw [show nI (5 * n) + (1 : Int32) = nI (5 * n + 1) from nI_add (5 * n) 1]
  refine va_sld hx hb hXs hbl hbA hS (vp_in_nI (by omega) (by omega)) dL_law_383 ?_
  rw [← ea1]
  refine lv_aload_n hx hb dL_law_384 rfl (lv_at hl 4 rfl) ?_
  refine lv_iload hx hb dL_law_385 (lv_at hl 0 rfl) ?_
  refine lv_iconst (v := 2) hx hb dL_law_387 (by decide) ?_
  refine lv_iadd hx hb dL_law_388 ?_
  rw [show nI (5 * n) + (2 : Int32) = nI (5 * n + 2) from nI_add (5 * n) 2]
  refine va_sld hx hb hXs hbl hbA hS (vp_in_nI (by omega) (by omega)) dL_law_389 ?_
  rw [← ea2]
  refine lv_aload_n hx hb dL_law_390 rfl (lv_at hl 4 rfl) ?_
  refine lv_iload hx hb dL_law_391 (lv_at hl 0 rfl) ?_
  refine lv_iconst (v := 3) hx hb dL_law_393 (by decide) ?_
  refine lv_iadd hx hb dL_law_394 ?_
  rw [show nI (5 * n) + (3 : Int32) = nI (5 * n + 3) from nI_add (5 * n) 3]
  refine va_sld hx hb hXs hbl hbA hS (vp_in_nI (by omega) (by omega)) dL_law_395 ?_
  rw [← ea3]
  refine lv_aload_n hx hb dL_law_396 rfl (lv_at hl 4 rfl) ?_
  refine lv_iload hx hb dL_law_397 (lv_at hl 0 rfl) ?_
  refine lv_iconst (v := 4) hx hb dL_law_399 (by decide) ?_
  refine lv_iadd hx hb dL_law_400 ?_
  rw [show nI (5 * n) + (4 : Int32) = nI (5 * n + 4) from nI_add (5 * n) 4]
  refine va_sld hx hb hXs hbl hbA hS (vp_in_nI (by omega) (by omega)) dL_law_401 ?_
  rw [← ea4]
  refine m_callSWi X hK hw hZ hS hA (As := [.ref x, .int a1, .int a2, .int a3, .int a4]) (rest := []) (c_L_setReference l G dce _ M hlt x ad y z hI.1 a1 a2 a3 a4) (vx_cwSW 5 hts gL_law_L_setReference rfl rfl rfl (by decide +kernel) ⟨Nat.le_of_ble_eq_true rfl, Nat.le_of_ble_eq_true rfl⟩) rfl hl.1 rfl (Nat.le_of_ble_eq_true rfl) dL_law_402 (by show _ ≤ (601024 : Nat); omega) (by show _ ≤ (7293034 : Nat); omega) (fun r1 M1 H locs hp hw hS => ?_)
  obtain ⟨y1, z1, hco, hc1, hs1⟩ := hp
  have ho1 := hs1.1 oa _ hoa (hI.1.nO hoa)
  have hI1 := hI.cls hc1 ho1 hs1.w
  have hz1 := z_setReference hco hR.1
  have hzc1 : zC z1 ≤ 32768 := hc1.2.2.2.1.2.1.2.2.2.2
  have hzz : zC z1 = zC z := zc_setReference hco
  have hm1 : M1 xm = some (.inr (8, [.int (rdH w), .ref (adm 1), .ref (adm 2), .ref (adm 3), .ref (adm 4), .ref (adm 5), .ref (adm 6), .ref (adm 7), .ref (adm 8), .ref (adm 9), .ref (adm 10), .ref (adm 11), .ref (adm 12), .ref (adm 13), .int (nI (rdN w)), .ref (adm 15)])) := hI1.2.1.1
  refine lv_istore (lv' := [(5, .int r1), (4, .int (nI (5 * n))), (3, .ref oa), (2, .ref xm), (1, .ref x), (0, .ref b)]) hx hb dL_law_405 hl (by decide) rfl (fun ls hl => ?_)
  refine lv_aload_n hx hb dL_law_407 rfl (lv_at hl 3 rfl) ?_
  refine lv_aload_n hx hb dL_law_408 rfl (lv_at hl 5 rfl) ?_
  refine lv_iload hx hb dL_law_409 (lv_at hl 1 rfl) ?_
  refine lv_iconst (v := 1) hx hb dL_law_411 (by decide) ?_
  refine lv_iadd hx hb dL_law_412 ?_
  rw [show nI (5 * n) + (1 : Int32) = nI (5 * n + 1) from nI_add (5 * n) 1]
  refine va_sld hx hb hXs hbl hbA hS (vp_in_nI (by omega) (by omega)) dL_law_413 ?_
  rw [← ea1]
  refine lv_aload_n hx hb dL_law_414 rfl (lv_at hl 5 rfl) ?_
  refine lv_iload hx hb dL_law_415 (lv_at hl 1 rfl) ?_
  refine lv_iconst (v := 2) hx hb dL_law_417 (by decide) ?_
  refine lv_iadd hx hb dL_law_418 ?_
  rw [show nI (5 * n) + (2 : Int32) = nI (5 * n + 2) from nI_add (5 * n) 2]
  refine va_sld hx hb hXs hbl hbA hS (vp_in_nI (by omega) (by omega)) dL_law_419 ?_
  rw [← ea2]
  refine lv_aload_n hx hb dL_law_420 rfl (lv_at hl 5 rfl) ?_
  refine lv_iload hx hb dL_law_421 (lv_at hl 1 rfl) ?_
  refine lv_iconst (v := 3) hx hb dL_law_423 (by decide) ?_
  refine lv_iadd hx hb dL_law_424 ?_
  rw [show nI (5 * n) + (3 : Int32) = nI (5 * n + 3) from nI_add (5 * n) 3]
  refine va_sld hx hb hXs hbl hbA hS (vp_in_nI (by omega) (by omega)) dL_law_425 ?_
  rw [← ea3]
  refine lv_aload_n hx hb dL_law_426 rfl (lv_at hl 5 rfl) ?_
  refine lv_iload hx hb dL_law_427 (lv_at hl 1 rfl) ?_
  refine lv_iconst (v := 4) hx hb dL_law_429 (by decide) ?_
  refine lv_iadd hx hb dL_law_430 ?_
  rw [show nI (5 * n) + (4 : Int32) = nI (5 * n + 4) from nI_add (5 * n) 4]
  refine va_sld hx hb hXs hbl hbA hS (vp_in_nI (by omega) (by omega)) dL_law_431 ?_
  rw [← ea4]
  refine m_callVv X (ci := 8) rfl hm1 hK hw hZ hS hA (As := [.int a1, .int a2, .int a3, .int a4]) (rest := []) (c_mSetReference l G dce _ M1 xm adm w hI1.2.1 a1 a2 a3 a4) (cwV 4 hts gL_law_X7_setReference rfl rfl rfl (by decide +kernel) ⟨Nat.le_of_ble_eq_true rfl, Nat.le_of_ble_eq_true rfl⟩) rfl hl.1 rfl (Nat.le_of_ble_eq_true rfl) dL_law_432 (by show _ ≤ (601024 : Nat); omega) (by show _ ≤ (7293034 : Nat); omega) (fun M11 H locs hp hw hS hz hk => ?_)
  obtain ⟨hf2, hp2⟩ := hp
  obtain ⟨w2, hmo, hm2⟩ : ∃ w2, mO_setReference w a1 a2 a3 a4 w2 ∧ MW G M11 xm adm w2 := by
    rcases hp2 with ⟨h0, ⟨i, k, j, a1, a2, a3, a4, a5, hm9⟩⟩ | ⟨h0, hm9⟩
    · exact ⟨_, Or.inl ⟨h0, ⟨i, k, j, a1, a2, a3, a4, a5, rfl⟩⟩, hm9⟩
    · exact ⟨_, Or.inr ⟨h0, rfl⟩, hm9⟩
  have hI2 := hI1.mdl hm2 hf2
  have hst := st_setReference hR hn hco hmo
  refine lv_aload_n hx hb dL_law_435 rfl (lv_at hl 3 rfl) ?_
  refine m_callVi X (ci := 8) rfl hm2.1 hK hw hZ hS hA (As := []) (rest := []) (c_thrown l G dce _ M11 xm adm w2 hm2) (cwV 0 hts gL_law_X7_thrown rfl rfl rfl (by decide +kernel) ⟨Nat.le_of_ble_eq_true rfl, Nat.le_of_ble_eq_true rfl⟩) rfl hl.1 rfl (Nat.le_of_ble_eq_true rfl) dL_law_436 (by show _ ≤ (601024 : Nat); omega) (by show _ ≤ (7293034 : Nat); omega) (fun r13 M12 H locs hp hw hS hz hk => ?_)
  rw [hp.2] at hw
  rw [hp.1, hst.2]
  refine lv_iload hx hb dL_law_439 (lv_at hl 0 rfl) ?_
  refine lv_icmp_eq (tgt := 446) hx hb dL_law_441 (by decide) (fun _ => ?_) (fun c_441 => absurd rfl c_441)
  refine lv_goto (tgt := 934) hx hb dL_law_446 (by decide) ?_
  exact tail _ y1 z1 w2 _ _ _ _ _ hI2.1 hst.1 hw hS (lv_sub hl [1, 2, 3, 4, 5] rfl) (by omega) (by omega)
set_option maxHeartbeats 4000000 in
set_option maxRecDepth 100000 in
theorem law_remove {p : Program} {l : Launch} {e : Env} {s : State} {m : MethodId} {below : List Frame} {meth : Method} {c : Code} {b L : Nat} {xs : Nat → Int32} {G : gG} {dce : Nat} {A : Nat → Prop} {Q : State → Prop} (hlt : l.stackTraces = false) (X : cX p s m meth c cL_law 7 ret wsL_law RL #[Value.ref b]) (hXs : va_X b L xs s s.heap) (hbl : b < s.heap.size) (hbA : ¬ A b) (hL0 : L ≤ 2560) (hK : wK G s) (hZ : wZ dce A s s.heap) (hA : ∀ q : Nat, s.heap.size ≤ q → A q) {x xm oa : Nat} {ad adm : Nat → Nat} {n : Nat} (hn : n < 512) (h5 : 5 * n + 5 ≤ L) {M : gM} {y : cY} {z : cZ} {w : mW} (hI : LI G dce x ad xm adm oa M y z w) (hR : RI n z w) {H : Heap} {locs : List Loc} (hw : wd G A M H) (hS : va_S A s.heap H locs) {cells slots : Nat} (hC : cells ≤ 100 + 11 * n + zC z) (hS2 : slots ≤ 80000 + 6190 * n + 4 * zC z) {ls : Array Slot} (hl : lv_has ls 7 [(4, .int (nI (5 * n))), (3, .ref oa), (2, .ref xm), (1, .ref x), (0, .ref b)])
    (tail : ∀ (M : gM) (y : cY) (z : cZ) (w : mW) (H : Heap) (locs : List Loc) (cells slots : Nat) (ls : Array Slot), LI G dce x ad xm adm oa M y z w → RI (n + 1) z w → wd G A M H → va_S A s.heap H locs → lv_has ls 7 [(4, .int (nI (5 * n))), (3, .ref oa), (2, .ref xm), (1, .ref x), (0, .ref b)] → cells ≤ 100 + 11 * (n + 1) + zC z → slots ≤ 80000 + 6190 * (n + 1) + 4 * zC z → W p l e room_1 s m #[Value.ref b] below meth c H locs cells slots Q (F0 m 934 ls [])) : W p l e room_1 s m #[Value.ref b] below meth c H locs cells slots Q (F0 m 449 ls []) := by
  obtain ⟨hx, hb, hr, hts, hown, hlk, hml⟩ := id X
  have hX9 := hI.1.1.1
  have hzc : zC z ≤ 32768 := hI.1.2.2.2.1.2.1.2.2.2.2
  have hzn : ∀ u, u < 8 → zN z u ≤ 1024 := fun u hu => hI.1.n hu
  obtain ⟨g0, hoa⟩ := hI.2.2.1
  have hm0 : M xm = some (.inr (8, [.int (rdH w), .ref (adm 1), .ref (adm 2), .ref (adm 3), .ref (adm 4), .ref (adm 5), .ref (adm 6), .ref (adm 7), .ref (adm 8), .ref (adm 9), .ref (adm 10), .ref (adm 11), .ref (adm 12), .ref (adm 13), .int (nI (rdN w)), .ref (adm 15)])) := hI.2.1.1
  obtain ⟨a1, ea1⟩ : ∃ z, z = xs (nI (5 * n + 1)).toNatClampNeg := ⟨_, rfl⟩
  obtain ⟨a2, ea2⟩ : ∃ z, z = xs (nI (5 * n + 2)).toNatClampNeg := ⟨_, rfl⟩
  obtain ⟨a3, ea3⟩ : ∃ z, z = xs (nI (5 * n + 3)).toNatClampNeg := ⟨_, rfl⟩
  obtain ⟨a4, ea4⟩ : ∃ z, z = xs (nI (5 * n + 4)).toNatClampNeg := ⟨_, rfl⟩
  refine lv_aload_n hx hb dL_law_449 rfl (lv_at hl 3 rfl) ?_
  refine lv_aload_n hx hb dL_law_450 rfl (lv_at hl 4 rfl) ?_
  refine lv_iload hx hb dL_law_451 (lv_at hl 0 rfl) ?_
  refine lv_iconst (v := 1) hx hb dL_law_453 (by decide) ?_
  refine lv_iadd hx hb dL_law_454 ?_
  rw [show nI (5 * n) + (1 : Int32) = nI (5 * n + 1) from nI_add (5 * n) 1]
  refine va_sld hx hb hXs hbl hbA hS (vp_in_nI (by omega) (by omega)) dL_law_455 ?_
  rw [← ea1]
  refine lv_aload_n hx hb dL_law_456 rfl (lv_at hl 4 rfl) ?_
  refine lv_iload hx hb dL_law_457 (lv_at hl 0 rfl) ?_
  refine lv_iconst (v := 2) hx hb dL_law_459 (by decide) ?_
  refine lv_iadd hx hb dL_law_460 ?_
  rw [show nI (5 * n) + (2 : Int32) = nI (5 * n + 2) from nI_add (5 * n) 2]
  refine va_sld hx hb hXs hbl hbA hS (vp_in_nI (by omega) (by omega)) dL_law_461 ?_
  rw [← ea2]
  refine lv_aload_n hx hb dL_law_462 rfl (lv_at hl 4 rfl) ?_
  refine lv_iload hx hb dL_law_463 (lv_at hl 0 rfl) ?_
  refine lv_iconst (v := 3) hx hb dL_law_465 (by decide) ?_
  refine lv_iadd hx hb dL_law_466 ?_
  rw [show nI (5 * n) + (3 : Int32) = nI (5 * n + 3) from nI_add (5 * n) 3]
  refine va_sld hx hb hXs hbl hbA hS (vp_in_nI (by omega) (by omega)) dL_law_467 ?_
  rw [← ea3]
  refine lv_aload_n hx hb dL_law_468 rfl (lv_at hl 1 rfl) ?_
  refine m_callSWi X hK hw hZ hS hA (As := [.ref x, .int a1, .int a2, .int a3, .ref oa]) (rest := []) (c_L_remove l G dce _ M hlt x ad y z hI.1 hR.1 oa g0 hoa a1 a2 a3) (vx_cwSW 5 hts gL_law_L_remove rfl rfl rfl (by decide +kernel) ⟨Nat.le_of_ble_eq_true rfl, Nat.le_of_ble_eq_true rfl⟩) rfl hl.1 rfl (Nat.le_of_ble_eq_true rfl) dL_law_469 (by show _ ≤ (601024 : Nat); omega) (by show _ ≤ (7293034 : Nat); omega) (fun r1 M1 H locs hp hw hS => ?_)
  obtain ⟨y1, z1, g1, hco, ho1, hc1, hs1⟩ := hp
  have hI1 := hI.cls hc1 ho1 hs1
  have hz1 := z_remove hco hR.1
  have hzc1 : zC z1 ≤ 32768 := hc1.2.2.2.1.2.1.2.2.2.2
  have hzz : zC z1 = zC z := zc_remove hco
  have hm1 : M1 xm = some (.inr (8, [.int (rdH w), .ref (adm 1), .ref (adm 2), .ref (adm 3), .ref (adm 4), .ref (adm 5), .ref (adm 6), .ref (adm 7), .ref (adm 8), .ref (adm 9), .ref (adm 10), .ref (adm 11), .ref (adm 12), .ref (adm 13), .int (nI (rdN w)), .ref (adm 15)])) := hI1.2.1.1
  refine lv_istore (lv' := [(5, .int r1), (4, .int (nI (5 * n))), (3, .ref oa), (2, .ref xm), (1, .ref x), (0, .ref b)]) hx hb dL_law_472 hl (by decide) rfl (fun ls hl => ?_)
  refine lv_aload_n hx hb dL_law_474 rfl (lv_at hl 3 rfl) ?_
  refine lv_aload_n hx hb dL_law_475 rfl (lv_at hl 5 rfl) ?_
  refine lv_iload hx hb dL_law_476 (lv_at hl 1 rfl) ?_
  refine lv_iconst (v := 1) hx hb dL_law_478 (by decide) ?_
  refine lv_iadd hx hb dL_law_479 ?_
  rw [show nI (5 * n) + (1 : Int32) = nI (5 * n + 1) from nI_add (5 * n) 1]
  refine va_sld hx hb hXs hbl hbA hS (vp_in_nI (by omega) (by omega)) dL_law_480 ?_
  rw [← ea1]
  refine lv_aload_n hx hb dL_law_481 rfl (lv_at hl 5 rfl) ?_
  refine lv_iload hx hb dL_law_482 (lv_at hl 1 rfl) ?_
  refine lv_iconst (v := 2) hx hb dL_law_484 (by decide) ?_
  refine lv_iadd hx hb dL_law_485 ?_
  rw [show nI (5 * n) + (2 : Int32) = nI (5 * n + 2) from nI_add (5 * n) 2]
  refine va_sld hx hb hXs hbl hbA hS (vp_in_nI (by omega) (by omega)) dL_law_486 ?_
  rw [← ea2]
  refine lv_aload_n hx hb dL_law_487 rfl (lv_at hl 5 rfl) ?_
  refine lv_iload hx hb dL_law_488 (lv_at hl 1 rfl) ?_
  refine lv_iconst (v := 3) hx hb dL_law_490 (by decide) ?_
  refine lv_iadd hx hb dL_law_491 ?_
  rw [show nI (5 * n) + (3 : Int32) = nI (5 * n + 3) from nI_add (5 * n) 3]
  refine va_sld hx hb hXs hbl hbA hS (vp_in_nI (by omega) (by omega)) dL_law_492 ?_
  rw [← ea3]
  refine m_callVi X (ci := 8) rfl hm1 hK hw hZ hS hA (As := [.int a1, .int a2, .int a3]) (rest := []) (c_mRemove l G dce _ M1 xm adm w hI1.2.1 a1 a2 a3) (cwV 3 hts gL_law_X7_remove rfl rfl rfl (by decide +kernel) ⟨Nat.le_of_ble_eq_true rfl, Nat.le_of_ble_eq_true rfl⟩) rfl hl.1 rfl (Nat.le_of_ble_eq_true rfl) dL_law_493 (by show _ ≤ (601024 : Nat); omega) (by show _ ≤ (7293034 : Nat); omega) (fun r12 M11 H locs hp hw hS hz hk => ?_)
  obtain ⟨hf2, hp2⟩ := hp
  obtain ⟨w2, hmo, hm2⟩ : ∃ w2, mO_remove w a1 a2 a3 r12 w2 ∧ MW G M11 xm adm w2 := by
    rcases hp2 with ⟨h0, ⟨i, k, j, a1, a2, a3, a4, (⟨a5, a6, hm9⟩ | ⟨a5, a6, hm9⟩)⟩⟩ | ⟨h0, hm9⟩
    · exact ⟨_, Or.inl ⟨h0, ⟨i, k, j, a1, a2, a3, a4, Or.inl ⟨a5, a6, rfl⟩⟩⟩, hm9⟩
    · exact ⟨_, Or.inl ⟨h0, ⟨i, k, j, a1, a2, a3, a4, Or.inr ⟨a5, a6, rfl⟩⟩⟩, hm9⟩
    · exact ⟨_, Or.inr ⟨h0, rfl⟩, hm9⟩
  have hI2 := hI1.mdl hm2 hf2
  have ho2 := hI2.2 _ ho1
  have hst := st_remove hR hn hco hmo
  refine lv_istore (lv' := [(6, .int r12), (5, .int r1), (4, .int (nI (5 * n))), (3, .ref oa), (2, .ref xm), (1, .ref x), (0, .ref b)]) hx hb dL_law_496 hl (by decide) rfl (fun ls hl => ?_)
  refine lv_goto (tgt := 934) hx hb dL_law_498 (by decide) ?_
  exact tail _ y1 z1 w2 _ _ _ _ _ hI2.1 hst.1 hw hS (lv_sub hl [2, 3, 4, 5, 6] rfl) (by omega) (by omega)
set_option maxHeartbeats 4000000 in
set_option maxRecDepth 100000 in
theorem law_name {p : Program} {l : Launch} {e : Env} {s : State} {m : MethodId} {below : List Frame} {meth : Method} {c : Code} {b L : Nat} {xs : Nat → Int32} {G : gG} {dce : Nat} {A : Nat → Prop} {Q : State → Prop} (hlt : l.stackTraces = false) (X : cX p s m meth c cL_law 7 ret wsL_law RL #[Value.ref b]) (hXs : va_X b L xs s s.heap) (hbl : b < s.heap.size) (hbA : ¬ A b) (hL0 : L ≤ 2560) (hK : wK G s) (hZ : wZ dce A s s.heap) (hA : ∀ q : Nat, s.heap.size ≤ q → A q) {x xm oa : Nat} {ad adm : Nat → Nat} {n : Nat} (hn : n < 512) (h5 : 5 * n + 5 ≤ L) {M : gM} {y : cY} {z : cZ} {w : mW} (hI : LI G dce x ad xm adm oa M y z w) (hR : RI n z w) {H : Heap} {locs : List Loc} (hw : wd G A M H) (hS : va_S A s.heap H locs) {cells slots : Nat} (hC : cells ≤ 100 + 11 * n + zC z) (hS2 : slots ≤ 80000 + 6190 * n + 4 * zC z) {ls : Array Slot} (hl : lv_has ls 7 [(4, .int (nI (5 * n))), (3, .ref oa), (2, .ref xm), (1, .ref x), (0, .ref b)])
    (tail : ∀ (M : gM) (y : cY) (z : cZ) (w : mW) (H : Heap) (locs : List Loc) (cells slots : Nat) (ls : Array Slot), LI G dce x ad xm adm oa M y z w → RI (n + 1) z w → wd G A M H → va_S A s.heap H locs → lv_has ls 7 [(4, .int (nI (5 * n))), (3, .ref oa), (2, .ref xm), (1, .ref x), (0, .ref b)] → cells ≤ 100 + 11 * (n + 1) + zC z → slots ≤ 80000 + 6190 * (n + 1) + 4 * zC z → W p l e room_1 s m #[Value.ref b] below meth c H locs cells slots Q (F0 m 934 ls [])) : W p l e room_1 s m #[Value.ref b] below meth c H locs cells slots Q (F0 m 501 ls []) := by
  obtain ⟨hx, hb, hr, hts, hown, hlk, hml⟩ := id X
  have hX9 := hI.1.1.1
  have hzc : zC z ≤ 32768 := hI.1.2.2.2.1.2.1.2.2.2.2
  have hzn : ∀ u, u < 8 → zN z u ≤ 1024 := fun u hu => hI.1.n hu
  obtain ⟨g0, hoa⟩ := hI.2.2.1
  have hm0 : M xm = some (.inr (8, [.int (rdH w), .ref (adm 1), .ref (adm 2), .ref (adm 3), .ref (adm 4), .ref (adm 5), .ref (adm 6), .ref (adm 7), .ref (adm 8), .ref (adm 9), .ref (adm 10), .ref (adm 11), .ref (adm 12), .ref (adm 13), .int (nI (rdN w)), .ref (adm 15)])) := hI.2.1.1
  obtain ⟨a1, ea1⟩ : ∃ z, z = xs (nI (5 * n + 1)).toNatClampNeg := ⟨_, rfl⟩
  obtain ⟨a2, ea2⟩ : ∃ z, z = xs (nI (5 * n + 2)).toNatClampNeg := ⟨_, rfl⟩
  obtain ⟨a3, ea3⟩ : ∃ z, z = xs (nI (5 * n + 3)).toNatClampNeg := ⟨_, rfl⟩
  obtain ⟨a4, ea4⟩ : ∃ z, z = xs (nI (5 * n + 4)).toNatClampNeg := ⟨_, rfl⟩
  refine lv_aload_n hx hb dL_law_501 rfl (lv_at hl 3 rfl) ?_
  refine lv_aload_n hx hb dL_law_502 rfl (lv_at hl 4 rfl) ?_
  refine lv_iload hx hb dL_law_503 (lv_at hl 0 rfl) ?_
  refine lv_iconst (v := 1) hx hb dL_law_505 (by decide) ?_
  refine lv_iadd hx hb dL_law_506 ?_
  rw [show nI (5 * n) + (1 : Int32) = nI (5 * n + 1) from nI_add (5 * n) 1]
  refine va_sld hx hb hXs hbl hbA hS (vp_in_nI (by omega) (by omega)) dL_law_507 ?_
  rw [← ea1]
  refine lv_aload_n hx hb dL_law_508 rfl (lv_at hl 4 rfl) ?_
  refine lv_iload hx hb dL_law_509 (lv_at hl 0 rfl) ?_
  refine lv_iconst (v := 2) hx hb dL_law_511 (by decide) ?_
  refine lv_iadd hx hb dL_law_512 ?_
  rw [show nI (5 * n) + (2 : Int32) = nI (5 * n + 2) from nI_add (5 * n) 2]
  refine va_sld hx hb hXs hbl hbA hS (vp_in_nI (by omega) (by omega)) dL_law_513 ?_
  rw [← ea2]
  refine lv_aload_n hx hb dL_law_514 rfl (lv_at hl 4 rfl) ?_
  refine lv_iload hx hb dL_law_515 (lv_at hl 0 rfl) ?_
  refine lv_iconst (v := 3) hx hb dL_law_517 (by decide) ?_
  refine lv_iadd hx hb dL_law_518 ?_
  rw [show nI (5 * n) + (3 : Int32) = nI (5 * n + 3) from nI_add (5 * n) 3]
  refine va_sld hx hb hXs hbl hbA hS (vp_in_nI (by omega) (by omega)) dL_law_519 ?_
  rw [← ea3]
  refine lv_aload_n hx hb dL_law_520 rfl (lv_at hl 1 rfl) ?_
  refine m_callSWi X hK hw hZ hS hA (As := [.ref x, .int a1, .int a2, .int a3, .ref oa]) (rest := []) (c_L_name l G dce _ M hlt x ad y z hI.1 oa g0 hoa a1 a2 a3) (vx_cwSW 5 hts gL_law_L_name rfl rfl rfl (by decide +kernel) ⟨Nat.le_of_ble_eq_true rfl, Nat.le_of_ble_eq_true rfl⟩) rfl hl.1 rfl (Nat.le_of_ble_eq_true rfl) dL_law_521 (by show _ ≤ (601024 : Nat); omega) (by show _ ≤ (7293034 : Nat); omega) (fun r1 M1 H locs hp hw hS => ?_)
  obtain ⟨y1, z1, g1, hco, ho1, hc1, hs1⟩ := hp
  have hI1 := hI.cls hc1 ho1 hs1
  have hz1 := z_name hco hR.1
  have hzc1 : zC z1 ≤ 32768 := hc1.2.2.2.1.2.1.2.2.2.2
  have hzz : zC z1 = zC z := zc_name hco
  have hm1 : M1 xm = some (.inr (8, [.int (rdH w), .ref (adm 1), .ref (adm 2), .ref (adm 3), .ref (adm 4), .ref (adm 5), .ref (adm 6), .ref (adm 7), .ref (adm 8), .ref (adm 9), .ref (adm 10), .ref (adm 11), .ref (adm 12), .ref (adm 13), .int (nI (rdN w)), .ref (adm 15)])) := hI1.2.1.1
  refine lv_istore (lv' := [(5, .int r1), (4, .int (nI (5 * n))), (3, .ref oa), (2, .ref xm), (1, .ref x), (0, .ref b)]) hx hb dL_law_524 hl (by decide) rfl (fun ls hl => ?_)
  refine lv_aload_n hx hb dL_law_526 rfl (lv_at hl 3 rfl) ?_
  refine lv_aload_n hx hb dL_law_527 rfl (lv_at hl 5 rfl) ?_
  refine lv_iload hx hb dL_law_528 (lv_at hl 1 rfl) ?_
  refine lv_iconst (v := 1) hx hb dL_law_530 (by decide) ?_
  refine lv_iadd hx hb dL_law_531 ?_
  rw [show nI (5 * n) + (1 : Int32) = nI (5 * n + 1) from nI_add (5 * n) 1]
  refine va_sld hx hb hXs hbl hbA hS (vp_in_nI (by omega) (by omega)) dL_law_532 ?_
  rw [← ea1]
  refine lv_aload_n hx hb dL_law_533 rfl (lv_at hl 5 rfl) ?_
  refine lv_iload hx hb dL_law_534 (lv_at hl 1 rfl) ?_
  refine lv_iconst (v := 2) hx hb dL_law_536 (by decide) ?_
  refine lv_iadd hx hb dL_law_537 ?_
  rw [show nI (5 * n) + (2 : Int32) = nI (5 * n + 2) from nI_add (5 * n) 2]
  refine va_sld hx hb hXs hbl hbA hS (vp_in_nI (by omega) (by omega)) dL_law_538 ?_
  rw [← ea2]
  refine lv_aload_n hx hb dL_law_539 rfl (lv_at hl 5 rfl) ?_
  refine lv_iload hx hb dL_law_540 (lv_at hl 1 rfl) ?_
  refine lv_iconst (v := 3) hx hb dL_law_542 (by decide) ?_
  refine lv_iadd hx hb dL_law_543 ?_
  rw [show nI (5 * n) + (3 : Int32) = nI (5 * n + 3) from nI_add (5 * n) 3]
  refine va_sld hx hb hXs hbl hbA hS (vp_in_nI (by omega) (by omega)) dL_law_544 ?_
  rw [← ea3]
  refine m_callVi X (ci := 8) rfl hm1 hK hw hZ hS hA (As := [.int a1, .int a2, .int a3]) (rest := []) (c_mName l G dce _ M1 xm adm w hI1.2.1 a1 a2 a3) (cwV 3 hts gL_law_X7_name rfl rfl rfl (by decide +kernel) ⟨Nat.le_of_ble_eq_true rfl, Nat.le_of_ble_eq_true rfl⟩) rfl hl.1 rfl (Nat.le_of_ble_eq_true rfl) dL_law_545 (by show _ ≤ (601024 : Nat); omega) (by show _ ≤ (7293034 : Nat); omega) (fun r12 M11 H locs hp hw hS hz hk => ?_)
  obtain ⟨hf2, hp2⟩ := hp
  obtain ⟨w2, hmo, hm2⟩ : ∃ w2, mO_name w a1 a2 a3 r12 w2 ∧ MW G M11 xm adm w2 := by
    rcases hp2 with ⟨h0, ⟨i, k, j, a1, a2, a3, a4, a5, hm9⟩⟩ | ⟨h0, hm9⟩
    · exact ⟨_, Or.inl ⟨h0, ⟨i, k, j, a1, a2, a3, a4, a5, rfl⟩⟩, hm9⟩
    · exact ⟨_, Or.inr ⟨h0, rfl⟩, hm9⟩
  have hI2 := hI1.mdl hm2 hf2
  have ho2 := hI2.2 _ ho1
  have hst := st_name hR hn hco hmo
  refine lv_istore (lv' := [(6, .int r12), (5, .int r1), (4, .int (nI (5 * n))), (3, .ref oa), (2, .ref xm), (1, .ref x), (0, .ref b)]) hx hb dL_law_548 hl (by decide) rfl (fun ls hl => ?_)
  refine lv_goto (tgt := 934) hx hb dL_law_550 (by decide) ?_
  exact tail _ y1 z1 w2 _ _ _ _ _ hI2.1 hst.1 hw hS (lv_sub hl [2, 3, 4, 5, 6] rfl) (by omega) (by omega)
set_option maxHeartbeats 4000000 in
set_option maxRecDepth 100000 in
theorem law_reference {p : Program} {l : Launch} {e : Env} {s : State} {m : MethodId} {below : List Frame} {meth : Method} {c : Code} {b L : Nat} {xs : Nat → Int32} {G : gG} {dce : Nat} {A : Nat → Prop} {Q : State → Prop} (hlt : l.stackTraces = false) (X : cX p s m meth c cL_law 7 ret wsL_law RL #[Value.ref b]) (hXs : va_X b L xs s s.heap) (hbl : b < s.heap.size) (hbA : ¬ A b) (hL0 : L ≤ 2560) (hK : wK G s) (hZ : wZ dce A s s.heap) (hA : ∀ q : Nat, s.heap.size ≤ q → A q) {x xm oa : Nat} {ad adm : Nat → Nat} {n : Nat} (hn : n < 512) (h5 : 5 * n + 5 ≤ L) {M : gM} {y : cY} {z : cZ} {w : mW} (hI : LI G dce x ad xm adm oa M y z w) (hR : RI n z w) {H : Heap} {locs : List Loc} (hw : wd G A M H) (hS : va_S A s.heap H locs) {cells slots : Nat} (hC : cells ≤ 100 + 11 * n + zC z) (hS2 : slots ≤ 80000 + 6190 * n + 4 * zC z) {ls : Array Slot} (hl : lv_has ls 7 [(4, .int (nI (5 * n))), (3, .ref oa), (2, .ref xm), (1, .ref x), (0, .ref b)])
    (tail : ∀ (M : gM) (y : cY) (z : cZ) (w : mW) (H : Heap) (locs : List Loc) (cells slots : Nat) (ls : Array Slot), LI G dce x ad xm adm oa M y z w → RI (n + 1) z w → wd G A M H → va_S A s.heap H locs → lv_has ls 7 [(4, .int (nI (5 * n))), (3, .ref oa), (2, .ref xm), (1, .ref x), (0, .ref b)] → cells ≤ 100 + 11 * (n + 1) + zC z → slots ≤ 80000 + 6190 * (n + 1) + 4 * zC z → W p l e room_1 s m #[Value.ref b] below meth c H locs cells slots Q (F0 m 934 ls [])) : W p l e room_1 s m #[Value.ref b] below meth c H locs cells slots Q (F0 m 553 ls []) := by
  obtain ⟨hx, hb, hr, hts, hown, hlk, hml⟩ := id X
  have hX9 := hI.1.1.1
  have hzc : zC z ≤ 32768 := hI.1.2.2.2.1.2.1.2.2.2.2
  have hzn : ∀ u, u < 8 → zN z u ≤ 1024 := fun u hu => hI.1.n hu
  obtain ⟨g0, hoa⟩ := hI.2.2.1
  have hm0 : M xm = some (.inr (8, [.int (rdH w), .ref (adm 1), .ref (adm 2), .ref (adm 3), .ref (adm 4), .ref (adm 5), .ref (adm 6), .ref (adm 7), .ref (adm 8), .ref (adm 9), .ref (adm 10), .ref (adm 11), .ref (adm 12), .ref (adm 13), .int (nI (rdN w)), .ref (adm 15)])) := hI.2.1.1
  obtain ⟨a1, ea1⟩ : ∃ z, z = xs (nI (5 * n + 1)).toNatClampNeg := ⟨_, rfl⟩
  obtain ⟨a2, ea2⟩ : ∃ z, z = xs (nI (5 * n + 2)).toNatClampNeg := ⟨_, rfl⟩
  obtain ⟨a3, ea3⟩ : ∃ z, z = xs (nI (5 * n + 3)).toNatClampNeg := ⟨_, rfl⟩
  obtain ⟨a4, ea4⟩ : ∃ z, z = xs (nI (5 * n + 4)).toNatClampNeg := ⟨_, rfl⟩
  refine lv_aload_n hx hb dL_law_553 rfl (lv_at hl 3 rfl) ?_
  refine lv_aload_n hx hb dL_law_554 rfl (lv_at hl 4 rfl) ?_
  refine lv_iload hx hb dL_law_555 (lv_at hl 0 rfl) ?_
  refine lv_iconst (v := 1) hx hb dL_law_557 (by decide) ?_
  refine lv_iadd hx hb dL_law_558 ?_
  rw [show nI (5 * n) + (1 : Int32) = nI (5 * n + 1) from nI_add (5 * n) 1]
  refine va_sld hx hb hXs hbl hbA hS (vp_in_nI (by omega) (by omega)) dL_law_559 ?_
  rw [← ea1]
  refine lv_aload_n hx hb dL_law_560 rfl (lv_at hl 4 rfl) ?_
  refine lv_iload hx hb dL_law_561 (lv_at hl 0 rfl) ?_
  refine lv_iconst (v := 2) hx hb dL_law_563 (by decide) ?_
  refine lv_iadd hx hb dL_law_564 ?_
  rw [show nI (5 * n) + (2 : Int32) = nI (5 * n + 2) from nI_add (5 * n) 2]
  refine va_sld hx hb hXs hbl hbA hS (vp_in_nI (by omega) (by omega)) dL_law_565 ?_
  rw [← ea2]
  refine lv_aload_n hx hb dL_law_566 rfl (lv_at hl 4 rfl) ?_
  refine lv_iload hx hb dL_law_567 (lv_at hl 0 rfl) ?_
  refine lv_iconst (v := 3) hx hb dL_law_569 (by decide) ?_
  refine lv_iadd hx hb dL_law_570 ?_
  rw [show nI (5 * n) + (3 : Int32) = nI (5 * n + 3) from nI_add (5 * n) 3]
  refine va_sld hx hb hXs hbl hbA hS (vp_in_nI (by omega) (by omega)) dL_law_571 ?_
  rw [← ea3]
  refine lv_aload_n hx hb dL_law_572 rfl (lv_at hl 1 rfl) ?_
  refine m_callSWi X hK hw hZ hS hA (As := [.ref x, .int a1, .int a2, .int a3, .ref oa]) (rest := []) (c_L_reference l G dce _ M hlt x ad y z hI.1 oa g0 hoa a1 a2 a3) (vx_cwSW 5 hts gL_law_L_reference rfl rfl rfl (by decide +kernel) ⟨Nat.le_of_ble_eq_true rfl, Nat.le_of_ble_eq_true rfl⟩) rfl hl.1 rfl (Nat.le_of_ble_eq_true rfl) dL_law_573 (by show _ ≤ (601024 : Nat); omega) (by show _ ≤ (7293034 : Nat); omega) (fun r1 M1 H locs hp hw hS => ?_)
  obtain ⟨y1, z1, g1, hco, ho1, hc1, hs1⟩ := hp
  have hI1 := hI.cls hc1 ho1 hs1
  have hz1 := z_reference hco hR.1
  have hzc1 : zC z1 ≤ 32768 := hc1.2.2.2.1.2.1.2.2.2.2
  have hzz : zC z1 = zC z := zc_reference hco
  have hm1 : M1 xm = some (.inr (8, [.int (rdH w), .ref (adm 1), .ref (adm 2), .ref (adm 3), .ref (adm 4), .ref (adm 5), .ref (adm 6), .ref (adm 7), .ref (adm 8), .ref (adm 9), .ref (adm 10), .ref (adm 11), .ref (adm 12), .ref (adm 13), .int (nI (rdN w)), .ref (adm 15)])) := hI1.2.1.1
  refine lv_istore (lv' := [(5, .int r1), (4, .int (nI (5 * n))), (3, .ref oa), (2, .ref xm), (1, .ref x), (0, .ref b)]) hx hb dL_law_576 hl (by decide) rfl (fun ls hl => ?_)
  refine lv_aload_n hx hb dL_law_578 rfl (lv_at hl 3 rfl) ?_
  refine lv_aload_n hx hb dL_law_579 rfl (lv_at hl 5 rfl) ?_
  refine lv_iload hx hb dL_law_580 (lv_at hl 1 rfl) ?_
  refine lv_iconst (v := 1) hx hb dL_law_582 (by decide) ?_
  refine lv_iadd hx hb dL_law_583 ?_
  rw [show nI (5 * n) + (1 : Int32) = nI (5 * n + 1) from nI_add (5 * n) 1]
  refine va_sld hx hb hXs hbl hbA hS (vp_in_nI (by omega) (by omega)) dL_law_584 ?_
  rw [← ea1]
  refine lv_aload_n hx hb dL_law_585 rfl (lv_at hl 5 rfl) ?_
  refine lv_iload hx hb dL_law_586 (lv_at hl 1 rfl) ?_
  refine lv_iconst (v := 2) hx hb dL_law_588 (by decide) ?_
  refine lv_iadd hx hb dL_law_589 ?_
  rw [show nI (5 * n) + (2 : Int32) = nI (5 * n + 2) from nI_add (5 * n) 2]
  refine va_sld hx hb hXs hbl hbA hS (vp_in_nI (by omega) (by omega)) dL_law_590 ?_
  rw [← ea2]
  refine lv_aload_n hx hb dL_law_591 rfl (lv_at hl 5 rfl) ?_
  refine lv_iload hx hb dL_law_592 (lv_at hl 1 rfl) ?_
  refine lv_iconst (v := 3) hx hb dL_law_594 (by decide) ?_
  refine lv_iadd hx hb dL_law_595 ?_
  rw [show nI (5 * n) + (3 : Int32) = nI (5 * n + 3) from nI_add (5 * n) 3]
  refine va_sld hx hb hXs hbl hbA hS (vp_in_nI (by omega) (by omega)) dL_law_596 ?_
  rw [← ea3]
  refine m_callVi X (ci := 8) rfl hm1 hK hw hZ hS hA (As := [.int a1, .int a2, .int a3]) (rest := []) (c_mReference l G dce _ M1 xm adm w hI1.2.1 a1 a2 a3) (cwV 3 hts gL_law_X7_reference rfl rfl rfl (by decide +kernel) ⟨Nat.le_of_ble_eq_true rfl, Nat.le_of_ble_eq_true rfl⟩) rfl hl.1 rfl (Nat.le_of_ble_eq_true rfl) dL_law_597 (by show _ ≤ (601024 : Nat); omega) (by show _ ≤ (7293034 : Nat); omega) (fun r12 M11 H locs hp hw hS hz hk => ?_)
  obtain ⟨hf2, hp2⟩ := hp
  obtain ⟨w2, hmo, hm2⟩ : ∃ w2, mO_reference w a1 a2 a3 r12 w2 ∧ MW G M11 xm adm w2 := by
    rcases hp2 with ⟨h0, ⟨i, k, j, a1, a2, a3, a4, a5, hm9⟩⟩ | ⟨h0, hm9⟩
    · exact ⟨_, Or.inl ⟨h0, ⟨i, k, j, a1, a2, a3, a4, a5, rfl⟩⟩, hm9⟩
    · exact ⟨_, Or.inr ⟨h0, rfl⟩, hm9⟩
  have hI2 := hI1.mdl hm2 hf2
  have ho2 := hI2.2 _ ho1
  have hst := st_reference hR hn hco hmo
  refine lv_istore (lv' := [(6, .int r12), (5, .int r1), (4, .int (nI (5 * n))), (3, .ref oa), (2, .ref xm), (1, .ref x), (0, .ref b)]) hx hb dL_law_600 hl (by decide) rfl (fun ls hl => ?_)
  refine lv_goto (tgt := 934) hx hb dL_law_602 (by decide) ?_
  exact tail _ y1 z1 w2 _ _ _ _ _ hI2.1 hst.1 hw hS (lv_sub hl [2, 3, 4, 5, 6] rfl) (by omega) (by omega)
set_option maxHeartbeats 4000000 in
set_option maxRecDepth 100000 in
theorem law_known {p : Program} {l : Launch} {e : Env} {s : State} {m : MethodId} {below : List Frame} {meth : Method} {c : Code} {b L : Nat} {xs : Nat → Int32} {G : gG} {dce : Nat} {A : Nat → Prop} {Q : State → Prop} (hlt : l.stackTraces = false) (X : cX p s m meth c cL_law 7 ret wsL_law RL #[Value.ref b]) (hXs : va_X b L xs s s.heap) (hbl : b < s.heap.size) (hbA : ¬ A b) (hL0 : L ≤ 2560) (hK : wK G s) (hZ : wZ dce A s s.heap) (hA : ∀ q : Nat, s.heap.size ≤ q → A q) {x xm oa : Nat} {ad adm : Nat → Nat} {n : Nat} (hn : n < 512) (h5 : 5 * n + 5 ≤ L) {M : gM} {y : cY} {z : cZ} {w : mW} (hI : LI G dce x ad xm adm oa M y z w) (hR : RI n z w) {H : Heap} {locs : List Loc} (hw : wd G A M H) (hS : va_S A s.heap H locs) {cells slots : Nat} (hC : cells ≤ 100 + 11 * n + zC z) (hS2 : slots ≤ 80000 + 6190 * n + 4 * zC z) {ls : Array Slot} (hl : lv_has ls 7 [(4, .int (nI (5 * n))), (3, .ref oa), (2, .ref xm), (1, .ref x), (0, .ref b)])
    (tail : ∀ (M : gM) (y : cY) (z : cZ) (w : mW) (H : Heap) (locs : List Loc) (cells slots : Nat) (ls : Array Slot), LI G dce x ad xm adm oa M y z w → RI (n + 1) z w → wd G A M H → va_S A s.heap H locs → lv_has ls 7 [(4, .int (nI (5 * n))), (3, .ref oa), (2, .ref xm), (1, .ref x), (0, .ref b)] → cells ≤ 100 + 11 * (n + 1) + zC z → slots ≤ 80000 + 6190 * (n + 1) + 4 * zC z → W p l e room_1 s m #[Value.ref b] below meth c H locs cells slots Q (F0 m 934 ls [])) : W p l e room_1 s m #[Value.ref b] below meth c H locs cells slots Q (F0 m 605 ls []) := by
  obtain ⟨hx, hb, hr, hts, hown, hlk, hml⟩ := id X
  have hX9 := hI.1.1.1
  have hzc : zC z ≤ 32768 := hI.1.2.2.2.1.2.1.2.2.2.2
  have hzn : ∀ u, u < 8 → zN z u ≤ 1024 := fun u hu => hI.1.n hu
  obtain ⟨g0, hoa⟩ := hI.2.2.1
  have hm0 : M xm = some (.inr (8, [.int (rdH w), .ref (adm 1), .ref (adm 2), .ref (adm 3), .ref (adm 4), .ref (adm 5), .ref (adm 6), .ref (adm 7), .ref (adm 8), .ref (adm 9), .ref (adm 10), .ref (adm 11), .ref (adm 12), .ref (adm 13), .int (nI (rdN w)), .ref (adm 15)])) := hI.2.1.1
  obtain ⟨a1, ea1⟩ : ∃ z, z = xs (nI (5 * n + 1)).toNatClampNeg := ⟨_, rfl⟩
  obtain ⟨a2, ea2⟩ : ∃ z, z = xs (nI (5 * n + 2)).toNatClampNeg := ⟨_, rfl⟩
  obtain ⟨a3, ea3⟩ : ∃ z, z = xs (nI (5 * n + 3)).toNatClampNeg := ⟨_, rfl⟩
  obtain ⟨a4, ea4⟩ : ∃ z, z = xs (nI (5 * n + 4)).toNatClampNeg := ⟨_, rfl⟩
  refine lv_aload_n hx hb dL_law_605 rfl (lv_at hl 3 rfl) ?_
  refine lv_aload_n hx hb dL_law_606 rfl (lv_at hl 4 rfl) ?_
  refine lv_iload hx hb dL_law_607 (lv_at hl 0 rfl) ?_
  refine lv_iconst (v := 1) hx hb dL_law_609 (by decide) ?_
  refine lv_iadd hx hb dL_law_610 ?_
  rw [show nI (5 * n) + (1 : Int32) = nI (5 * n + 1) from nI_add (5 * n) 1]
  refine va_sld hx hb hXs hbl hbA hS (vp_in_nI (by omega) (by omega)) dL_law_611 ?_
  rw [← ea1]
  refine lv_aload_n hx hb dL_law_612 rfl (lv_at hl 1 rfl) ?_
  refine m_callSWi X hK hw hZ hS hA (As := [.ref x, .int a1, .ref oa]) (rest := []) (c_L_known l G dce _ M hlt x ad y z hI.1 oa g0 hoa a1) (vx_cwSW 3 hts gL_law_L_known rfl rfl rfl (by decide +kernel) ⟨Nat.le_of_ble_eq_true rfl, Nat.le_of_ble_eq_true rfl⟩) rfl hl.1 rfl (Nat.le_of_ble_eq_true rfl) dL_law_613 (by show _ ≤ (601024 : Nat); omega) (by show _ ≤ (7293034 : Nat); omega) (fun r1 M1 H locs hp hw hS => ?_)
  obtain ⟨y1, z1, g1, hco, ho1, hc1, hs1⟩ := hp
  have hI1 := hI.cls hc1 ho1 hs1
  have hz1 := z_known hco hR.1
  have hzc1 : zC z1 ≤ 32768 := hc1.2.2.2.1.2.1.2.2.2.2
  have hzz : zC z1 = zC z := zc_known hco
  have hm1 : M1 xm = some (.inr (8, [.int (rdH w), .ref (adm 1), .ref (adm 2), .ref (adm 3), .ref (adm 4), .ref (adm 5), .ref (adm 6), .ref (adm 7), .ref (adm 8), .ref (adm 9), .ref (adm 10), .ref (adm 11), .ref (adm 12), .ref (adm 13), .int (nI (rdN w)), .ref (adm 15)])) := hI1.2.1.1
  refine lv_istore (lv' := [(5, .int r1), (4, .int (nI (5 * n))), (3, .ref oa), (2, .ref xm), (1, .ref x), (0, .ref b)]) hx hb dL_law_616 hl (by decide) rfl (fun ls hl => ?_)
  refine lv_aload_n hx hb dL_law_618 rfl (lv_at hl 3 rfl) ?_
  refine lv_aload_n hx hb dL_law_619 rfl (lv_at hl 5 rfl) ?_
  refine lv_iload hx hb dL_law_620 (lv_at hl 1 rfl) ?_
  refine lv_iconst (v := 1) hx hb dL_law_622 (by decide) ?_
  refine lv_iadd hx hb dL_law_623 ?_
  rw [show nI (5 * n) + (1 : Int32) = nI (5 * n + 1) from nI_add (5 * n) 1]
  refine va_sld hx hb hXs hbl hbA hS (vp_in_nI (by omega) (by omega)) dL_law_624 ?_
  rw [← ea1]
  refine m_callVi X (ci := 8) rfl hm1 hK hw hZ hS hA (As := [.int a1]) (rest := []) (c_mKnown l G dce _ M1 xm adm w hI1.2.1 a1) (cwV 1 hts gL_law_X7_known rfl rfl rfl (by decide +kernel) ⟨Nat.le_of_ble_eq_true rfl, Nat.le_of_ble_eq_true rfl⟩) rfl hl.1 rfl (Nat.le_of_ble_eq_true rfl) dL_law_625 (by show _ ≤ (601024 : Nat); omega) (by show _ ≤ (7293034 : Nat); omega) (fun r12 M11 H locs hp hw hS hz hk => ?_)
  obtain ⟨hf2, hp2⟩ := hp
  obtain ⟨w2, hmo, hm2⟩ : ∃ w2, mO_known w a1 r12 w2 ∧ MW G M11 xm adm w2 := by
    rcases hp2 with ⟨h0, ⟨i, a1, a2, hm9⟩⟩ | ⟨h0, hm9⟩
    · exact ⟨_, Or.inl ⟨h0, ⟨i, a1, a2, rfl⟩⟩, hm9⟩
    · exact ⟨_, Or.inr ⟨h0, rfl⟩, hm9⟩
  have hI2 := hI1.mdl hm2 hf2
  have ho2 := hI2.2 _ ho1
  have hst := st_known hR hn hco hmo
  refine lv_istore (lv' := [(6, .int r12), (5, .int r1), (4, .int (nI (5 * n))), (3, .ref oa), (2, .ref xm), (1, .ref x), (0, .ref b)]) hx hb dL_law_628 hl (by decide) rfl (fun ls hl => ?_)
  refine lv_goto (tgt := 934) hx hb dL_law_630 (by decide) ?_
  exact tail _ y1 z1 w2 _ _ _ _ _ hI2.1 hst.1 hw hS (lv_sub hl [2, 3, 4, 5, 6] rfl) (by omega) (by omega)
set_option maxHeartbeats 4000000 in
set_option maxRecDepth 100000 in
theorem law_dirty {p : Program} {l : Launch} {e : Env} {s : State} {m : MethodId} {below : List Frame} {meth : Method} {c : Code} {b L : Nat} {xs : Nat → Int32} {G : gG} {dce : Nat} {A : Nat → Prop} {Q : State → Prop} (hlt : l.stackTraces = false) (X : cX p s m meth c cL_law 7 ret wsL_law RL #[Value.ref b]) (hXs : va_X b L xs s s.heap) (hbl : b < s.heap.size) (hbA : ¬ A b) (hL0 : L ≤ 2560) (hK : wK G s) (hZ : wZ dce A s s.heap) (hA : ∀ q : Nat, s.heap.size ≤ q → A q) {x xm oa : Nat} {ad adm : Nat → Nat} {n : Nat} (hn : n < 512) (h5 : 5 * n + 5 ≤ L) {M : gM} {y : cY} {z : cZ} {w : mW} (hI : LI G dce x ad xm adm oa M y z w) (hR : RI n z w) {H : Heap} {locs : List Loc} (hw : wd G A M H) (hS : va_S A s.heap H locs) {cells slots : Nat} (hC : cells ≤ 100 + 11 * n + zC z) (hS2 : slots ≤ 80000 + 6190 * n + 4 * zC z) {ls : Array Slot} (hl : lv_has ls 7 [(4, .int (nI (5 * n))), (3, .ref oa), (2, .ref xm), (1, .ref x), (0, .ref b)])
    (tail : ∀ (M : gM) (y : cY) (z : cZ) (w : mW) (H : Heap) (locs : List Loc) (cells slots : Nat) (ls : Array Slot), LI G dce x ad xm adm oa M y z w → RI (n + 1) z w → wd G A M H → va_S A s.heap H locs → lv_has ls 7 [(4, .int (nI (5 * n))), (3, .ref oa), (2, .ref xm), (1, .ref x), (0, .ref b)] → cells ≤ 100 + 11 * (n + 1) + zC z → slots ≤ 80000 + 6190 * (n + 1) + 4 * zC z → W p l e room_1 s m #[Value.ref b] below meth c H locs cells slots Q (F0 m 934 ls [])) : W p l e room_1 s m #[Value.ref b] below meth c H locs cells slots Q (F0 m 633 ls []) := by
  obtain ⟨hx, hb, hr, hts, hown, hlk, hml⟩ := id X
  have hX9 := hI.1.1.1
  have hzc : zC z ≤ 32768 := hI.1.2.2.2.1.2.1.2.2.2.2
  have hzn : ∀ u, u < 8 → zN z u ≤ 1024 := fun u hu => hI.1.n hu
  obtain ⟨g0, hoa⟩ := hI.2.2.1
  have hm0 : M xm = some (.inr (8, [.int (rdH w), .ref (adm 1), .ref (adm 2), .ref (adm 3), .ref (adm 4), .ref (adm 5), .ref (adm 6), .ref (adm 7), .ref (adm 8), .ref (adm 9), .ref (adm 10), .ref (adm 11), .ref (adm 12), .ref (adm 13), .int (nI (rdN w)), .ref (adm 15)])) := hI.2.1.1
  obtain ⟨a1, ea1⟩ : ∃ z, z = xs (nI (5 * n + 1)).toNatClampNeg := ⟨_, rfl⟩
  obtain ⟨a2, ea2⟩ : ∃ z, z = xs (nI (5 * n + 2)).toNatClampNeg := ⟨_, rfl⟩
  obtain ⟨a3, ea3⟩ : ∃ z, z = xs (nI (5 * n + 3)).toNatClampNeg := ⟨_, rfl⟩
  obtain ⟨a4, ea4⟩ : ∃ z, z = xs (nI (5 * n + 4)).toNatClampNeg := ⟨_, rfl⟩
  refine lv_aload_n hx hb dL_law_633 rfl (lv_at hl 3 rfl) ?_
  refine lv_aload_n hx hb dL_law_634 rfl (lv_at hl 4 rfl) ?_
  refine lv_iload hx hb dL_law_635 (lv_at hl 0 rfl) ?_
  refine lv_iconst (v := 1) hx hb dL_law_637 (by decide) ?_
  refine lv_iadd hx hb dL_law_638 ?_
  rw [show nI (5 * n) + (1 : Int32) = nI (5 * n + 1) from nI_add (5 * n) 1]
  refine va_sld hx hb hXs hbl hbA hS (vp_in_nI (by omega) (by omega)) dL_law_639 ?_
  rw [← ea1]
  refine lv_aload_n hx hb dL_law_640 rfl (lv_at hl 1 rfl) ?_
  refine m_callSWi X hK hw hZ hS hA (As := [.ref x, .int a1, .ref oa]) (rest := []) (c_L_dirty l G dce _ M hlt x ad y z hI.1 oa g0 hoa a1) (vx_cwSW 3 hts gL_law_L_dirty rfl rfl rfl (by decide +kernel) ⟨Nat.le_of_ble_eq_true rfl, Nat.le_of_ble_eq_true rfl⟩) rfl hl.1 rfl (Nat.le_of_ble_eq_true rfl) dL_law_641 (by show _ ≤ (601024 : Nat); omega) (by show _ ≤ (7293034 : Nat); omega) (fun r1 M1 H locs hp hw hS => ?_)
  obtain ⟨y1, z1, g1, hco, ho1, hc1, hs1⟩ := hp
  have hI1 := hI.cls hc1 ho1 hs1
  have hz1 := z_dirty hco hR.1
  have hzc1 : zC z1 ≤ 32768 := hc1.2.2.2.1.2.1.2.2.2.2
  have hzz : zC z1 = zC z := zc_dirty hco
  have hm1 : M1 xm = some (.inr (8, [.int (rdH w), .ref (adm 1), .ref (adm 2), .ref (adm 3), .ref (adm 4), .ref (adm 5), .ref (adm 6), .ref (adm 7), .ref (adm 8), .ref (adm 9), .ref (adm 10), .ref (adm 11), .ref (adm 12), .ref (adm 13), .int (nI (rdN w)), .ref (adm 15)])) := hI1.2.1.1
  refine lv_istore (lv' := [(5, .int r1), (4, .int (nI (5 * n))), (3, .ref oa), (2, .ref xm), (1, .ref x), (0, .ref b)]) hx hb dL_law_644 hl (by decide) rfl (fun ls hl => ?_)
  refine lv_aload_n hx hb dL_law_646 rfl (lv_at hl 3 rfl) ?_
  refine lv_aload_n hx hb dL_law_647 rfl (lv_at hl 5 rfl) ?_
  refine lv_iload hx hb dL_law_648 (lv_at hl 1 rfl) ?_
  refine lv_iconst (v := 1) hx hb dL_law_650 (by decide) ?_
  refine lv_iadd hx hb dL_law_651 ?_
  rw [show nI (5 * n) + (1 : Int32) = nI (5 * n + 1) from nI_add (5 * n) 1]
  refine va_sld hx hb hXs hbl hbA hS (vp_in_nI (by omega) (by omega)) dL_law_652 ?_
  rw [← ea1]
  refine m_callVi X (ci := 8) rfl hm1 hK hw hZ hS hA (As := [.int a1]) (rest := []) (c_mDirty l G dce _ M1 xm adm w hI1.2.1 a1) (cwV 1 hts gL_law_X7_dirty rfl rfl rfl (by decide +kernel) ⟨Nat.le_of_ble_eq_true rfl, Nat.le_of_ble_eq_true rfl⟩) rfl hl.1 rfl (Nat.le_of_ble_eq_true rfl) dL_law_653 (by show _ ≤ (601024 : Nat); omega) (by show _ ≤ (7293034 : Nat); omega) (fun r12 M11 H locs hp hw hS hz hk => ?_)
  obtain ⟨hf2, hp2⟩ := hp
  obtain ⟨w2, hmo, hm2⟩ : ∃ w2, mO_dirty w a1 r12 w2 ∧ MW G M11 xm adm w2 := by
    rcases hp2 with ⟨h0, ⟨i, a1, a2, hm9⟩⟩ | ⟨h0, hm9⟩
    · exact ⟨_, Or.inl ⟨h0, ⟨i, a1, a2, rfl⟩⟩, hm9⟩
    · exact ⟨_, Or.inr ⟨h0, rfl⟩, hm9⟩
  have hI2 := hI1.mdl hm2 hf2
  have ho2 := hI2.2 _ ho1
  have hst := st_dirty hR hn hco hmo
  refine lv_istore (lv' := [(6, .int r12), (5, .int r1), (4, .int (nI (5 * n))), (3, .ref oa), (2, .ref xm), (1, .ref x), (0, .ref b)]) hx hb dL_law_656 hl (by decide) rfl (fun ls hl => ?_)
  refine lv_goto (tgt := 934) hx hb dL_law_658 (by decide) ?_
  exact tail _ y1 z1 w2 _ _ _ _ _ hI2.1 hst.1 hw hS (lv_sub hl [2, 3, 4, 5, 6] rfl) (by omega) (by omega)
set_option maxHeartbeats 4000000 in
set_option maxRecDepth 100000 in
theorem law_flush {p : Program} {l : Launch} {e : Env} {s : State} {m : MethodId} {below : List Frame} {meth : Method} {c : Code} {b L : Nat} {xs : Nat → Int32} {G : gG} {dce : Nat} {A : Nat → Prop} {Q : State → Prop} (hlt : l.stackTraces = false) (X : cX p s m meth c cL_law 7 ret wsL_law RL #[Value.ref b]) (hXs : va_X b L xs s s.heap) (hbl : b < s.heap.size) (hbA : ¬ A b) (hL0 : L ≤ 2560) (hK : wK G s) (hZ : wZ dce A s s.heap) (hA : ∀ q : Nat, s.heap.size ≤ q → A q) {x xm oa : Nat} {ad adm : Nat → Nat} {n : Nat} (hn : n < 512) (h5 : 5 * n + 5 ≤ L) {M : gM} {y : cY} {z : cZ} {w : mW} (hI : LI G dce x ad xm adm oa M y z w) (hR : RI n z w) {H : Heap} {locs : List Loc} (hw : wd G A M H) (hS : va_S A s.heap H locs) {cells slots : Nat} (hC : cells ≤ 100 + 11 * n + zC z) (hS2 : slots ≤ 80000 + 6190 * n + 4 * zC z) {ls : Array Slot} (hl : lv_has ls 7 [(4, .int (nI (5 * n))), (3, .ref oa), (2, .ref xm), (1, .ref x), (0, .ref b)])
    (tail : ∀ (M : gM) (y : cY) (z : cZ) (w : mW) (H : Heap) (locs : List Loc) (cells slots : Nat) (ls : Array Slot), LI G dce x ad xm adm oa M y z w → RI (n + 1) z w → wd G A M H → va_S A s.heap H locs → lv_has ls 7 [(4, .int (nI (5 * n))), (3, .ref oa), (2, .ref xm), (1, .ref x), (0, .ref b)] → cells ≤ 100 + 11 * (n + 1) + zC z → slots ≤ 80000 + 6190 * (n + 1) + 4 * zC z → W p l e room_1 s m #[Value.ref b] below meth c H locs cells slots Q (F0 m 934 ls [])) : W p l e room_1 s m #[Value.ref b] below meth c H locs cells slots Q (F0 m 661 ls []) := by
  obtain ⟨hx, hb, hr, hts, hown, hlk, hml⟩ := id X
  have hX9 := hI.1.1.1
  have hzc : zC z ≤ 32768 := hI.1.2.2.2.1.2.1.2.2.2.2
  have hzn : ∀ u, u < 8 → zN z u ≤ 1024 := fun u hu => hI.1.n hu
  obtain ⟨g0, hoa⟩ := hI.2.2.1
  have hm0 : M xm = some (.inr (8, [.int (rdH w), .ref (adm 1), .ref (adm 2), .ref (adm 3), .ref (adm 4), .ref (adm 5), .ref (adm 6), .ref (adm 7), .ref (adm 8), .ref (adm 9), .ref (adm 10), .ref (adm 11), .ref (adm 12), .ref (adm 13), .int (nI (rdN w)), .ref (adm 15)])) := hI.2.1.1
  obtain ⟨a1, ea1⟩ : ∃ z, z = xs (nI (5 * n + 1)).toNatClampNeg := ⟨_, rfl⟩
  obtain ⟨a2, ea2⟩ : ∃ z, z = xs (nI (5 * n + 2)).toNatClampNeg := ⟨_, rfl⟩
  obtain ⟨a3, ea3⟩ : ∃ z, z = xs (nI (5 * n + 3)).toNatClampNeg := ⟨_, rfl⟩
  obtain ⟨a4, ea4⟩ : ∃ z, z = xs (nI (5 * n + 4)).toNatClampNeg := ⟨_, rfl⟩
  refine lv_aload_n hx hb dL_law_661 rfl (lv_at hl 3 rfl) ?_
  refine lv_aload_n hx hb dL_law_662 rfl (lv_at hl 4 rfl) ?_
  refine lv_iload hx hb dL_law_663 (lv_at hl 0 rfl) ?_
  refine lv_iconst (v := 1) hx hb dL_law_665 (by decide) ?_
  refine lv_iadd hx hb dL_law_666 ?_
  rw [show nI (5 * n) + (1 : Int32) = nI (5 * n + 1) from nI_add (5 * n) 1]
  refine va_sld hx hb hXs hbl hbA hS (vp_in_nI (by omega) (by omega)) dL_law_667 ?_
  rw [← ea1]
  refine lv_aload_n hx hb dL_law_668 rfl (lv_at hl 1 rfl) ?_
  have hfl := fKc_le (z := z) (si := a1) hzc hzn
  refine m_callSWi X hK hw hZ hS hA (As := [.ref x, .int a1, .ref oa]) (rest := []) (c_L_flush l G dce _ M hlt x ad y z hI.1 hR.1 oa g0 hoa a1 (fKc z a1 + 3) (4 * fKc z a1 + 16) (fun i e1 e2 e3 e4 => by rw [fKc_of e1 e2 e3 e4]; exact Nat.le_refl _) (fun i e1 e2 e3 e4 => by rw [fKc_of e1 e2 e3 e4]; exact Nat.le_refl _) (by omega) (by omega)) (vx_cwSW 3 hts gL_law_L_flush rfl rfl rfl (by decide +kernel) ⟨Nat.le_of_ble_eq_true rfl, Nat.le_of_ble_eq_true rfl⟩) rfl hl.1 rfl (Nat.le_of_ble_eq_true rfl) dL_law_669 (by show _ ≤ (601024 : Nat); omega) (by show _ ≤ (7293034 : Nat); omega) (fun r1 M1 H locs hp hw hS => ?_)
  obtain ⟨y1, z1, g1, hco, ho1, hc1, hs1⟩ := hp
  have hI1 := hI.cls hc1 ho1 hs1
  have hz1 := z_flush hco hR.1
  have hzc1 : zC z1 ≤ 32768 := hc1.2.2.2.1.2.1.2.2.2.2
  have hfo := fKc_O hzn hco
  have hm1 : M1 xm = some (.inr (8, [.int (rdH w), .ref (adm 1), .ref (adm 2), .ref (adm 3), .ref (adm 4), .ref (adm 5), .ref (adm 6), .ref (adm 7), .ref (adm 8), .ref (adm 9), .ref (adm 10), .ref (adm 11), .ref (adm 12), .ref (adm 13), .int (nI (rdN w)), .ref (adm 15)])) := hI1.2.1.1
  refine lv_istore (lv' := [(5, .int r1), (4, .int (nI (5 * n))), (3, .ref oa), (2, .ref xm), (1, .ref x), (0, .ref b)]) hx hb dL_law_672 hl (by decide) rfl (fun ls hl => ?_)
  refine lv_aload_n hx hb dL_law_674 rfl (lv_at hl 3 rfl) ?_
  refine lv_aload_n hx hb dL_law_675 rfl (lv_at hl 5 rfl) ?_
  refine lv_iload hx hb dL_law_676 (lv_at hl 1 rfl) ?_
  refine lv_iconst (v := 1) hx hb dL_law_678 (by decide) ?_
  refine lv_iadd hx hb dL_law_679 ?_
  rw [show nI (5 * n) + (1 : Int32) = nI (5 * n + 1) from nI_add (5 * n) 1]
  refine va_sld hx hb hXs hbl hbA hS (vp_in_nI (by omega) (by omega)) dL_law_680 ?_
  rw [← ea1]
  refine m_callVi X (ci := 8) rfl hm1 hK hw hZ hS hA (As := [.int a1]) (rest := []) (c_mFlush l G dce _ M1 xm adm w hI1.2.1 hR.2.1 (by have h9 := hR.2.2.2.2.1; omega) a1) (cwV 1 hts gL_law_X7_flush rfl rfl rfl (by decide +kernel) ⟨Nat.le_of_ble_eq_true rfl, Nat.le_of_ble_eq_true rfl⟩) rfl hl.1 rfl (Nat.le_of_ble_eq_true rfl) dL_law_681 (by show _ ≤ (601024 : Nat); omega) (by show _ ≤ (7293034 : Nat); omega) (fun r12 M11 H locs hp hw hS hz hk => ?_)
  obtain ⟨hf2, hp2⟩ := hp
  obtain ⟨w2, hmo, hm2⟩ : ∃ w2, mO_flush w a1 r12 w2 ∧ MW G M11 xm adm w2 := by
    rcases hp2 with ⟨h0, ⟨i, a1, a2, hm9⟩⟩ | ⟨h0, w9, hx9, hm9⟩
    · exact ⟨_, Or.inl ⟨h0, ⟨i, a1, a2, rfl⟩⟩, hm9⟩
    · exact ⟨w9, Or.inr ⟨h0, hx9⟩, hm9⟩
  have hI2 := hI1.mdl hm2 hf2
  have ho2 := hI2.2 _ ho1
  have hst := st_flush hR hn hco hmo
  refine lv_istore (lv' := [(6, .int r12), (5, .int r1), (4, .int (nI (5 * n))), (3, .ref oa), (2, .ref xm), (1, .ref x), (0, .ref b)]) hx hb dL_law_684 hl (by decide) rfl (fun ls hl => ?_)
  refine lv_goto (tgt := 934) hx hb dL_law_686 (by decide) ?_
  exact tail _ y1 z1 w2 _ _ _ _ _ hI2.1 hst.1 hw hS (lv_sub hl [2, 3, 4, 5, 6] rfl) (by omega) (by omega)
set_option maxHeartbeats 4000000 in
set_option maxRecDepth 100000 in
theorem law_clear {p : Program} {l : Launch} {e : Env} {s : State} {m : MethodId} {below : List Frame} {meth : Method} {c : Code} {b L : Nat} {xs : Nat → Int32} {G : gG} {dce : Nat} {A : Nat → Prop} {Q : State → Prop} (hlt : l.stackTraces = false) (X : cX p s m meth c cL_law 7 ret wsL_law RL #[Value.ref b]) (hXs : va_X b L xs s s.heap) (hbl : b < s.heap.size) (hbA : ¬ A b) (hL0 : L ≤ 2560) (hK : wK G s) (hZ : wZ dce A s s.heap) (hA : ∀ q : Nat, s.heap.size ≤ q → A q) {x xm oa : Nat} {ad adm : Nat → Nat} {n : Nat} (hn : n < 512) (h5 : 5 * n + 5 ≤ L) {M : gM} {y : cY} {z : cZ} {w : mW} (hI : LI G dce x ad xm adm oa M y z w) (hR : RI n z w) {H : Heap} {locs : List Loc} (hw : wd G A M H) (hS : va_S A s.heap H locs) {cells slots : Nat} (hC : cells ≤ 100 + 11 * n + zC z) (hS2 : slots ≤ 80000 + 6190 * n + 4 * zC z) {ls : Array Slot} (hl : lv_has ls 7 [(4, .int (nI (5 * n))), (3, .ref oa), (2, .ref xm), (1, .ref x), (0, .ref b)])
    (tail : ∀ (M : gM) (y : cY) (z : cZ) (w : mW) (H : Heap) (locs : List Loc) (cells slots : Nat) (ls : Array Slot), LI G dce x ad xm adm oa M y z w → RI (n + 1) z w → wd G A M H → va_S A s.heap H locs → lv_has ls 7 [(4, .int (nI (5 * n))), (3, .ref oa), (2, .ref xm), (1, .ref x), (0, .ref b)] → cells ≤ 100 + 11 * (n + 1) + zC z → slots ≤ 80000 + 6190 * (n + 1) + 4 * zC z → W p l e room_1 s m #[Value.ref b] below meth c H locs cells slots Q (F0 m 934 ls [])) : W p l e room_1 s m #[Value.ref b] below meth c H locs cells slots Q (F0 m 689 ls []) := by
  obtain ⟨hx, hb, hr, hts, hown, hlk, hml⟩ := id X
  have hX9 := hI.1.1.1
  have hzc : zC z ≤ 32768 := hI.1.2.2.2.1.2.1.2.2.2.2
  have hzn : ∀ u, u < 8 → zN z u ≤ 1024 := fun u hu => hI.1.n hu
  obtain ⟨g0, hoa⟩ := hI.2.2.1
  have hm0 : M xm = some (.inr (8, [.int (rdH w), .ref (adm 1), .ref (adm 2), .ref (adm 3), .ref (adm 4), .ref (adm 5), .ref (adm 6), .ref (adm 7), .ref (adm 8), .ref (adm 9), .ref (adm 10), .ref (adm 11), .ref (adm 12), .ref (adm 13), .int (nI (rdN w)), .ref (adm 15)])) := hI.2.1.1
  obtain ⟨a1, ea1⟩ : ∃ z, z = xs (nI (5 * n + 1)).toNatClampNeg := ⟨_, rfl⟩
  obtain ⟨a2, ea2⟩ : ∃ z, z = xs (nI (5 * n + 2)).toNatClampNeg := ⟨_, rfl⟩
  obtain ⟨a3, ea3⟩ : ∃ z, z = xs (nI (5 * n + 3)).toNatClampNeg := ⟨_, rfl⟩
  obtain ⟨a4, ea4⟩ : ∃ z, z = xs (nI (5 * n + 4)).toNatClampNeg := ⟨_, rfl⟩
  refine lv_aload_n hx hb dL_law_689 rfl (lv_at hl 3 rfl) ?_
  refine lv_aload_n hx hb dL_law_690 rfl (lv_at hl 4 rfl) ?_
  refine lv_iload hx hb dL_law_691 (lv_at hl 0 rfl) ?_
  refine lv_iconst (v := 1) hx hb dL_law_693 (by decide) ?_
  refine lv_iadd hx hb dL_law_694 ?_
  rw [show nI (5 * n) + (1 : Int32) = nI (5 * n + 1) from nI_add (5 * n) 1]
  refine va_sld hx hb hXs hbl hbA hS (vp_in_nI (by omega) (by omega)) dL_law_695 ?_
  rw [← ea1]
  refine lv_aload_n hx hb dL_law_696 rfl (lv_at hl 1 rfl) ?_
  refine m_callSWi X hK hw hZ hS hA (As := [.ref x, .int a1, .ref oa]) (rest := []) (c_L_clear l G dce _ M hlt x ad y z hI.1 oa g0 hoa a1) (vx_cwSW 3 hts gL_law_L_clear rfl rfl rfl (by decide +kernel) ⟨Nat.le_of_ble_eq_true rfl, Nat.le_of_ble_eq_true rfl⟩) rfl hl.1 rfl (Nat.le_of_ble_eq_true rfl) dL_law_697 (by show _ ≤ (601024 : Nat); omega) (by show _ ≤ (7293034 : Nat); omega) (fun r1 M1 H locs hp hw hS => ?_)
  obtain ⟨y1, z1, g1, hco, ho1, hc1, hs1⟩ := hp
  have hI1 := hI.cls hc1 ho1 hs1
  have hz1 := z_clear hco hR.1
  have hzc1 : zC z1 ≤ 32768 := hc1.2.2.2.1.2.1.2.2.2.2
  have hzz : zC z1 = zC z := zc_clear hco
  have hm1 : M1 xm = some (.inr (8, [.int (rdH w), .ref (adm 1), .ref (adm 2), .ref (adm 3), .ref (adm 4), .ref (adm 5), .ref (adm 6), .ref (adm 7), .ref (adm 8), .ref (adm 9), .ref (adm 10), .ref (adm 11), .ref (adm 12), .ref (adm 13), .int (nI (rdN w)), .ref (adm 15)])) := hI1.2.1.1
  refine lv_istore (lv' := [(5, .int r1), (4, .int (nI (5 * n))), (3, .ref oa), (2, .ref xm), (1, .ref x), (0, .ref b)]) hx hb dL_law_700 hl (by decide) rfl (fun ls hl => ?_)
  refine lv_aload_n hx hb dL_law_702 rfl (lv_at hl 3 rfl) ?_
  refine lv_aload_n hx hb dL_law_703 rfl (lv_at hl 5 rfl) ?_
  refine lv_iload hx hb dL_law_704 (lv_at hl 1 rfl) ?_
  refine lv_iconst (v := 1) hx hb dL_law_706 (by decide) ?_
  refine lv_iadd hx hb dL_law_707 ?_
  rw [show nI (5 * n) + (1 : Int32) = nI (5 * n + 1) from nI_add (5 * n) 1]
  refine va_sld hx hb hXs hbl hbA hS (vp_in_nI (by omega) (by omega)) dL_law_708 ?_
  rw [← ea1]
  refine m_callVi X (ci := 8) rfl hm1 hK hw hZ hS hA (As := [.int a1]) (rest := []) (c_mClear l G dce _ M1 xm adm w hI1.2.1 a1) (cwV 1 hts gL_law_X7_clear rfl rfl rfl (by decide +kernel) ⟨Nat.le_of_ble_eq_true rfl, Nat.le_of_ble_eq_true rfl⟩) rfl hl.1 rfl (Nat.le_of_ble_eq_true rfl) dL_law_709 (by show _ ≤ (601024 : Nat); omega) (by show _ ≤ (7293034 : Nat); omega) (fun r12 M11 H locs hp hw hS hz hk => ?_)
  obtain ⟨hf2, hp2⟩ := hp
  obtain ⟨w2, hmo, hm2⟩ : ∃ w2, mO_clear w a1 r12 w2 ∧ MW G M11 xm adm w2 := by
    rcases hp2 with ⟨h0, ⟨i, a1, a2, hm9⟩⟩ | ⟨h0, hm9⟩
    · exact ⟨_, Or.inl ⟨h0, ⟨i, a1, a2, rfl⟩⟩, hm9⟩
    · exact ⟨_, Or.inr ⟨h0, rfl⟩, hm9⟩
  have hI2 := hI1.mdl hm2 hf2
  have ho2 := hI2.2 _ ho1
  have hst := st_clear hR hn hco hmo
  refine lv_istore (lv' := [(6, .int r12), (5, .int r1), (4, .int (nI (5 * n))), (3, .ref oa), (2, .ref xm), (1, .ref x), (0, .ref b)]) hx hb dL_law_712 hl (by decide) rfl (fun ls hl => ?_)
  refine lv_goto (tgt := 934) hx hb dL_law_714 (by decide) ?_
  exact tail _ y1 z1 w2 _ _ _ _ _ hI2.1 hst.1 hw hS (lv_sub hl [2, 3, 4, 5, 6] rfl) (by omega) (by omega)
set_option maxHeartbeats 4000000 in
set_option maxRecDepth 100000 in
theorem law_rows {p : Program} {l : Launch} {e : Env} {s : State} {m : MethodId} {below : List Frame} {meth : Method} {c : Code} {b L : Nat} {xs : Nat → Int32} {G : gG} {dce : Nat} {A : Nat → Prop} {Q : State → Prop} (hlt : l.stackTraces = false) (X : cX p s m meth c cL_law 7 ret wsL_law RL #[Value.ref b]) (hXs : va_X b L xs s s.heap) (hbl : b < s.heap.size) (hbA : ¬ A b) (hL0 : L ≤ 2560) (hK : wK G s) (hZ : wZ dce A s s.heap) (hA : ∀ q : Nat, s.heap.size ≤ q → A q) {x xm oa : Nat} {ad adm : Nat → Nat} {n : Nat} (hn : n < 512) (h5 : 5 * n + 5 ≤ L) {M : gM} {y : cY} {z : cZ} {w : mW} (hI : LI G dce x ad xm adm oa M y z w) (hR : RI n z w) {H : Heap} {locs : List Loc} (hw : wd G A M H) (hS : va_S A s.heap H locs) {cells slots : Nat} (hC : cells ≤ 100 + 11 * n + zC z) (hS2 : slots ≤ 80000 + 6190 * n + 4 * zC z) {ls : Array Slot} (hl : lv_has ls 7 [(4, .int (nI (5 * n))), (3, .ref oa), (2, .ref xm), (1, .ref x), (0, .ref b)])
    (tail : ∀ (M : gM) (y : cY) (z : cZ) (w : mW) (H : Heap) (locs : List Loc) (cells slots : Nat) (ls : Array Slot), LI G dce x ad xm adm oa M y z w → RI (n + 1) z w → wd G A M H → va_S A s.heap H locs → lv_has ls 7 [(4, .int (nI (5 * n))), (3, .ref oa), (2, .ref xm), (1, .ref x), (0, .ref b)] → cells ≤ 100 + 11 * (n + 1) + zC z → slots ≤ 80000 + 6190 * (n + 1) + 4 * zC z → W p l e room_1 s m #[Value.ref b] below meth c H locs cells slots Q (F0 m 934 ls [])) : W p l e room_1 s m #[Value.ref b] below meth c H locs cells slots Q (F0 m 717 ls []) := by
  obtain ⟨hx, hb, hr, hts, hown, hlk, hml⟩ := id X
  have hX9 := hI.1.1.1
  have hzc : zC z ≤ 32768 := hI.1.2.2.2.1.2.1.2.2.2.2
  have hzn : ∀ u, u < 8 → zN z u ≤ 1024 := fun u hu => hI.1.n hu
  obtain ⟨g0, hoa⟩ := hI.2.2.1
  have hm0 : M xm = some (.inr (8, [.int (rdH w), .ref (adm 1), .ref (adm 2), .ref (adm 3), .ref (adm 4), .ref (adm 5), .ref (adm 6), .ref (adm 7), .ref (adm 8), .ref (adm 9), .ref (adm 10), .ref (adm 11), .ref (adm 12), .ref (adm 13), .int (nI (rdN w)), .ref (adm 15)])) := hI.2.1.1
  obtain ⟨a1, ea1⟩ : ∃ z, z = xs (nI (5 * n + 1)).toNatClampNeg := ⟨_, rfl⟩
  obtain ⟨a2, ea2⟩ : ∃ z, z = xs (nI (5 * n + 2)).toNatClampNeg := ⟨_, rfl⟩
  obtain ⟨a3, ea3⟩ : ∃ z, z = xs (nI (5 * n + 3)).toNatClampNeg := ⟨_, rfl⟩
  obtain ⟨a4, ea4⟩ : ∃ z, z = xs (nI (5 * n + 4)).toNatClampNeg := ⟨_, rfl⟩
  refine lv_aload_n hx hb dL_law_717 rfl (lv_at hl 3 rfl) ?_
  refine lv_aload_n hx hb dL_law_718 rfl (lv_at hl 4 rfl) ?_
  refine lv_iload hx hb dL_law_719 (lv_at hl 0 rfl) ?_
  refine lv_iconst (v := 1) hx hb dL_law_721 (by decide) ?_
  refine lv_iadd hx hb dL_law_722 ?_
  rw [show nI (5 * n) + (1 : Int32) = nI (5 * n + 1) from nI_add (5 * n) 1]
  refine va_sld hx hb hXs hbl hbA hS (vp_in_nI (by omega) (by omega)) dL_law_723 ?_
  rw [← ea1]
  refine lv_aload_n hx hb dL_law_724 rfl (lv_at hl 1 rfl) ?_
  refine m_callSWi X hK hw hZ hS hA (As := [.ref x, .int a1, .ref oa]) (rest := []) (c_L_rows l G dce _ M hlt x ad y z hI.1 oa g0 hoa a1) (vx_cwSW 3 hts gL_law_L_rows rfl rfl rfl (by decide +kernel) ⟨Nat.le_of_ble_eq_true rfl, Nat.le_of_ble_eq_true rfl⟩) rfl hl.1 rfl (Nat.le_of_ble_eq_true rfl) dL_law_725 (by show _ ≤ (601024 : Nat); omega) (by show _ ≤ (7293034 : Nat); omega) (fun r1 M1 H locs hp hw hS => ?_)
  obtain ⟨y1, z1, g1, hco, ho1, hc1, hs1⟩ := hp
  have hI1 := hI.cls hc1 ho1 hs1
  have hz1 := z_rows hco hR.1
  have hzc1 : zC z1 ≤ 32768 := hc1.2.2.2.1.2.1.2.2.2.2
  have hzz : zC z1 = zC z := zc_rows hco
  have hm1 : M1 xm = some (.inr (8, [.int (rdH w), .ref (adm 1), .ref (adm 2), .ref (adm 3), .ref (adm 4), .ref (adm 5), .ref (adm 6), .ref (adm 7), .ref (adm 8), .ref (adm 9), .ref (adm 10), .ref (adm 11), .ref (adm 12), .ref (adm 13), .int (nI (rdN w)), .ref (adm 15)])) := hI1.2.1.1
  refine lv_istore (lv' := [(5, .int r1), (4, .int (nI (5 * n))), (3, .ref oa), (2, .ref xm), (1, .ref x), (0, .ref b)]) hx hb dL_law_728 hl (by decide) rfl (fun ls hl => ?_)
  refine lv_aload_n hx hb dL_law_730 rfl (lv_at hl 3 rfl) ?_
  refine lv_aload_n hx hb dL_law_731 rfl (lv_at hl 5 rfl) ?_
  refine lv_iload hx hb dL_law_732 (lv_at hl 1 rfl) ?_
  refine lv_iconst (v := 1) hx hb dL_law_734 (by decide) ?_
  refine lv_iadd hx hb dL_law_735 ?_
  rw [show nI (5 * n) + (1 : Int32) = nI (5 * n + 1) from nI_add (5 * n) 1]
  refine va_sld hx hb hXs hbl hbA hS (vp_in_nI (by omega) (by omega)) dL_law_736 ?_
  rw [← ea1]
  refine m_callVi X (ci := 8) rfl hm1 hK hw hZ hS hA (As := [.int a1]) (rest := []) (c_mRows l G dce _ M1 xm adm w hI1.2.1 a1) (cwV 1 hts gL_law_X7_rows rfl rfl rfl (by decide +kernel) ⟨Nat.le_of_ble_eq_true rfl, Nat.le_of_ble_eq_true rfl⟩) rfl hl.1 rfl (Nat.le_of_ble_eq_true rfl) dL_law_737 (by show _ ≤ (601024 : Nat); omega) (by show _ ≤ (7293034 : Nat); omega) (fun r12 M11 H locs hp hw hS hz hk => ?_)
  obtain ⟨hf2, hp2⟩ := hp
  obtain ⟨w2, hmo, hm2⟩ : ∃ w2, mO_rows w a1 r12 w2 ∧ MW G M11 xm adm w2 := by
    rcases hp2 with ⟨h0, ⟨k, a1, a2, hm9⟩⟩ | ⟨h0, hm9⟩
    · exact ⟨_, Or.inl ⟨h0, ⟨k, a1, a2, rfl⟩⟩, hm9⟩
    · exact ⟨_, Or.inr ⟨h0, rfl⟩, hm9⟩
  have hI2 := hI1.mdl hm2 hf2
  have ho2 := hI2.2 _ ho1
  have hst := st_rows hR hn hco hmo
  refine lv_istore (lv' := [(6, .int r12), (5, .int r1), (4, .int (nI (5 * n))), (3, .ref oa), (2, .ref xm), (1, .ref x), (0, .ref b)]) hx hb dL_law_740 hl (by decide) rfl (fun ls hl => ?_)
  refine lv_goto (tgt := 934) hx hb dL_law_742 (by decide) ?_
  exact tail _ y1 z1 w2 _ _ _ _ _ hI2.1 hst.1 hw hS (lv_sub hl [2, 3, 4, 5, 6] rfl) (by omega) (by omega)
set_option maxHeartbeats 4000000 in
set_option maxRecDepth 100000 in
theorem law_rowName {p : Program} {l : Launch} {e : Env} {s : State} {m : MethodId} {below : List Frame} {meth : Method} {c : Code} {b L : Nat} {xs : Nat → Int32} {G : gG} {dce : Nat} {A : Nat → Prop} {Q : State → Prop} (hlt : l.stackTraces = false) (X : cX p s m meth c cL_law 7 ret wsL_law RL #[Value.ref b]) (hXs : va_X b L xs s s.heap) (hbl : b < s.heap.size) (hbA : ¬ A b) (hL0 : L ≤ 2560) (hK : wK G s) (hZ : wZ dce A s s.heap) (hA : ∀ q : Nat, s.heap.size ≤ q → A q) {x xm oa : Nat} {ad adm : Nat → Nat} {n : Nat} (hn : n < 512) (h5 : 5 * n + 5 ≤ L) {M : gM} {y : cY} {z : cZ} {w : mW} (hI : LI G dce x ad xm adm oa M y z w) (hR : RI n z w) {H : Heap} {locs : List Loc} (hw : wd G A M H) (hS : va_S A s.heap H locs) {cells slots : Nat} (hC : cells ≤ 100 + 11 * n + zC z) (hS2 : slots ≤ 80000 + 6190 * n + 4 * zC z) {ls : Array Slot} (hl : lv_has ls 7 [(4, .int (nI (5 * n))), (3, .ref oa), (2, .ref xm), (1, .ref x), (0, .ref b)])
    (tail : ∀ (M : gM) (y : cY) (z : cZ) (w : mW) (H : Heap) (locs : List Loc) (cells slots : Nat) (ls : Array Slot), LI G dce x ad xm adm oa M y z w → RI (n + 1) z w → wd G A M H → va_S A s.heap H locs → lv_has ls 7 [(4, .int (nI (5 * n))), (3, .ref oa), (2, .ref xm), (1, .ref x), (0, .ref b)] → cells ≤ 100 + 11 * (n + 1) + zC z → slots ≤ 80000 + 6190 * (n + 1) + 4 * zC z → W p l e room_1 s m #[Value.ref b] below meth c H locs cells slots Q (F0 m 934 ls [])) : W p l e room_1 s m #[Value.ref b] below meth c H locs cells slots Q (F0 m 745 ls []) := by
  obtain ⟨hx, hb, hr, hts, hown, hlk, hml⟩ := id X
  have hX9 := hI.1.1.1
  have hzc : zC z ≤ 32768 := hI.1.2.2.2.1.2.1.2.2.2.2
  have hzn : ∀ u, u < 8 → zN z u ≤ 1024 := fun u hu => hI.1.n hu
  obtain ⟨g0, hoa⟩ := hI.2.2.1
  have hm0 : M xm = some (.inr (8, [.int (rdH w), .ref (adm 1), .ref (adm 2), .ref (adm 3), .ref (adm 4), .ref (adm 5), .ref (adm 6), .ref (adm 7), .ref (adm 8), .ref (adm 9), .ref (adm 10), .ref (adm 11), .ref (adm 12), .ref (adm 13), .int (nI (rdN w)), .ref (adm 15)])) := hI.2.1.1
  obtain ⟨a1, ea1⟩ : ∃ z, z = xs (nI (5 * n + 1)).toNatClampNeg := ⟨_, rfl⟩
  obtain ⟨a2, ea2⟩ : ∃ z, z = xs (nI (5 * n + 2)).toNatClampNeg := ⟨_, rfl⟩
  obtain ⟨a3, ea3⟩ : ∃ z, z = xs (nI (5 * n + 3)).toNatClampNeg := ⟨_, rfl⟩
  obtain ⟨a4, ea4⟩ : ∃ z, z = xs (nI (5 * n + 4)).toNatClampNeg := ⟨_, rfl⟩
  refine lv_aload_n hx hb dL_law_745 rfl (lv_at hl 3 rfl) ?_
  refine lv_aload_n hx hb dL_law_746 rfl (lv_at hl 4 rfl) ?_
  refine lv_iload hx hb dL_law_747 (lv_at hl 0 rfl) ?_
  refine lv_iconst (v := 1) hx hb dL_law_749 (by decide) ?_
  refine lv_iadd hx hb dL_law_750 ?_
  rw [show nI (5 * n) + (1 : Int32) = nI (5 * n + 1) from nI_add (5 * n) 1]
  refine va_sld hx hb hXs hbl hbA hS (vp_in_nI (by omega) (by omega)) dL_law_751 ?_
  rw [← ea1]
  refine lv_aload_n hx hb dL_law_752 rfl (lv_at hl 4 rfl) ?_
  refine lv_iload hx hb dL_law_753 (lv_at hl 0 rfl) ?_
  refine lv_iconst (v := 2) hx hb dL_law_755 (by decide) ?_
  refine lv_iadd hx hb dL_law_756 ?_
  rw [show nI (5 * n) + (2 : Int32) = nI (5 * n + 2) from nI_add (5 * n) 2]
  refine va_sld hx hb hXs hbl hbA hS (vp_in_nI (by omega) (by omega)) dL_law_757 ?_
  rw [← ea2]
  refine lv_aload_n hx hb dL_law_758 rfl (lv_at hl 1 rfl) ?_
  refine m_callSWi X hK hw hZ hS hA (As := [.ref x, .int a1, .int a2, .ref oa]) (rest := []) (c_L_rowName l G dce _ M hlt x ad y z hI.1 oa g0 hoa a1 a2) (vx_cwSW 4 hts gL_law_L_rowName rfl rfl rfl (by decide +kernel) ⟨Nat.le_of_ble_eq_true rfl, Nat.le_of_ble_eq_true rfl⟩) rfl hl.1 rfl (Nat.le_of_ble_eq_true rfl) dL_law_759 (by show _ ≤ (601024 : Nat); omega) (by show _ ≤ (7293034 : Nat); omega) (fun r1 M1 H locs hp hw hS => ?_)
  obtain ⟨y1, z1, g1, hco, ho1, hc1, hs1⟩ := hp
  have hI1 := hI.cls hc1 ho1 hs1
  have hz1 := z_rowName hco hR.1
  have hzc1 : zC z1 ≤ 32768 := hc1.2.2.2.1.2.1.2.2.2.2
  have hzz : zC z1 = zC z := zc_rowName hco
  have hm1 : M1 xm = some (.inr (8, [.int (rdH w), .ref (adm 1), .ref (adm 2), .ref (adm 3), .ref (adm 4), .ref (adm 5), .ref (adm 6), .ref (adm 7), .ref (adm 8), .ref (adm 9), .ref (adm 10), .ref (adm 11), .ref (adm 12), .ref (adm 13), .int (nI (rdN w)), .ref (adm 15)])) := hI1.2.1.1
  refine lv_istore (lv' := [(5, .int r1), (4, .int (nI (5 * n))), (3, .ref oa), (2, .ref xm), (1, .ref x), (0, .ref b)]) hx hb dL_law_762 hl (by decide) rfl (fun ls hl => ?_)
  refine lv_aload_n hx hb dL_law_764 rfl (lv_at hl 3 rfl) ?_
  refine lv_aload_n hx hb dL_law_765 rfl (lv_at hl 5 rfl) ?_
  refine lv_iload hx hb dL_law_766 (lv_at hl 1 rfl) ?_
  refine lv_iconst (v := 1) hx hb dL_law_768 (by decide) ?_
  refine lv_iadd hx hb dL_law_769 ?_
  rw [show nI (5 * n) + (1 : Int32) = nI (5 * n + 1) from nI_add (5 * n) 1]
  refine va_sld hx hb hXs hbl hbA hS (vp_in_nI (by omega) (by omega)) dL_law_770 ?_
  rw [← ea1]
  refine lv_aload_n hx hb dL_law_771 rfl (lv_at hl 5 rfl) ?_
  refine lv_iload hx hb dL_law_772 (lv_at hl 1 rfl) ?_
  refine lv_iconst (v := 2) hx hb dL_law_774 (by decide) ?_
  refine lv_iadd hx hb dL_law_775 ?_
  rw [show nI (5 * n) + (2 : Int32) = nI (5 * n + 2) from nI_add (5 * n) 2]
  refine va_sld hx hb hXs hbl hbA hS (vp_in_nI (by omega) (by omega)) dL_law_776 ?_
  rw [← ea2]
  refine m_callVi X (ci := 8) rfl hm1 hK hw hZ hS hA (As := [.int a1, .int a2]) (rest := []) (c_mRowName l G dce _ M1 xm adm w hI1.2.1 a1 a2) (cwV 2 hts gL_law_X7_rowName rfl rfl rfl (by decide +kernel) ⟨Nat.le_of_ble_eq_true rfl, Nat.le_of_ble_eq_true rfl⟩) rfl hl.1 rfl (Nat.le_of_ble_eq_true rfl) dL_law_777 (by show _ ≤ (601024 : Nat); omega) (by show _ ≤ (7293034 : Nat); omega) (fun r12 M11 H locs hp hw hS hz hk => ?_)
  obtain ⟨hf2, hp2⟩ := hp
  obtain ⟨w2, hmo, hm2⟩ : ∃ w2, mO_rowName w a1 a2 r12 w2 ∧ MW G M11 xm adm w2 := by
    rcases hp2 with ⟨h0, ⟨k, j, a1, a2, a3, a4, hm9⟩⟩ | ⟨h0, hm9⟩
    · exact ⟨_, Or.inl ⟨h0, ⟨k, j, a1, a2, a3, a4, rfl⟩⟩, hm9⟩
    · exact ⟨_, Or.inr ⟨h0, rfl⟩, hm9⟩
  have hI2 := hI1.mdl hm2 hf2
  have ho2 := hI2.2 _ ho1
  have hst := st_rowName hR hn hco hmo
  refine lv_istore (lv' := [(6, .int r12), (5, .int r1), (4, .int (nI (5 * n))), (3, .ref oa), (2, .ref xm), (1, .ref x), (0, .ref b)]) hx hb dL_law_780 hl (by decide) rfl (fun ls hl => ?_)
  refine lv_goto (tgt := 934) hx hb dL_law_782 (by decide) ?_
  exact tail _ y1 z1 w2 _ _ _ _ _ hI2.1 hst.1 hw hS (lv_sub hl [2, 3, 4, 5, 6] rfl) (by omega) (by omega)
set_option maxHeartbeats 4000000 in
set_option maxRecDepth 100000 in
theorem law_rowReference {p : Program} {l : Launch} {e : Env} {s : State} {m : MethodId} {below : List Frame} {meth : Method} {c : Code} {b L : Nat} {xs : Nat → Int32} {G : gG} {dce : Nat} {A : Nat → Prop} {Q : State → Prop} (hlt : l.stackTraces = false) (X : cX p s m meth c cL_law 7 ret wsL_law RL #[Value.ref b]) (hXs : va_X b L xs s s.heap) (hbl : b < s.heap.size) (hbA : ¬ A b) (hL0 : L ≤ 2560) (hK : wK G s) (hZ : wZ dce A s s.heap) (hA : ∀ q : Nat, s.heap.size ≤ q → A q) {x xm oa : Nat} {ad adm : Nat → Nat} {n : Nat} (hn : n < 512) (h5 : 5 * n + 5 ≤ L) {M : gM} {y : cY} {z : cZ} {w : mW} (hI : LI G dce x ad xm adm oa M y z w) (hR : RI n z w) {H : Heap} {locs : List Loc} (hw : wd G A M H) (hS : va_S A s.heap H locs) {cells slots : Nat} (hC : cells ≤ 100 + 11 * n + zC z) (hS2 : slots ≤ 80000 + 6190 * n + 4 * zC z) {ls : Array Slot} (hl : lv_has ls 7 [(4, .int (nI (5 * n))), (3, .ref oa), (2, .ref xm), (1, .ref x), (0, .ref b)])
    (tail : ∀ (M : gM) (y : cY) (z : cZ) (w : mW) (H : Heap) (locs : List Loc) (cells slots : Nat) (ls : Array Slot), LI G dce x ad xm adm oa M y z w → RI (n + 1) z w → wd G A M H → va_S A s.heap H locs → lv_has ls 7 [(4, .int (nI (5 * n))), (3, .ref oa), (2, .ref xm), (1, .ref x), (0, .ref b)] → cells ≤ 100 + 11 * (n + 1) + zC z → slots ≤ 80000 + 6190 * (n + 1) + 4 * zC z → W p l e room_1 s m #[Value.ref b] below meth c H locs cells slots Q (F0 m 934 ls [])) : W p l e room_1 s m #[Value.ref b] below meth c H locs cells slots Q (F0 m 785 ls []) := by
  obtain ⟨hx, hb, hr, hts, hown, hlk, hml⟩ := id X
  have hX9 := hI.1.1.1
  have hzc : zC z ≤ 32768 := hI.1.2.2.2.1.2.1.2.2.2.2
  have hzn : ∀ u, u < 8 → zN z u ≤ 1024 := fun u hu => hI.1.n hu
  obtain ⟨g0, hoa⟩ := hI.2.2.1
  have hm0 : M xm = some (.inr (8, [.int (rdH w), .ref (adm 1), .ref (adm 2), .ref (adm 3), .ref (adm 4), .ref (adm 5), .ref (adm 6), .ref (adm 7), .ref (adm 8), .ref (adm 9), .ref (adm 10), .ref (adm 11), .ref (adm 12), .ref (adm 13), .int (nI (rdN w)), .ref (adm 15)])) := hI.2.1.1
  obtain ⟨a1, ea1⟩ : ∃ z, z = xs (nI (5 * n + 1)).toNatClampNeg := ⟨_, rfl⟩
  obtain ⟨a2, ea2⟩ : ∃ z, z = xs (nI (5 * n + 2)).toNatClampNeg := ⟨_, rfl⟩
  obtain ⟨a3, ea3⟩ : ∃ z, z = xs (nI (5 * n + 3)).toNatClampNeg := ⟨_, rfl⟩
  obtain ⟨a4, ea4⟩ : ∃ z, z = xs (nI (5 * n + 4)).toNatClampNeg := ⟨_, rfl⟩
  refine lv_aload_n hx hb dL_law_785 rfl (lv_at hl 3 rfl) ?_
  refine lv_aload_n hx hb dL_law_786 rfl (lv_at hl 4 rfl) ?_
  refine lv_iload hx hb dL_law_787 (lv_at hl 0 rfl) ?_
  refine lv_iconst (v := 1) hx hb dL_law_789 (by decide) ?_
  refine lv_iadd hx hb dL_law_790 ?_
  rw [show nI (5 * n) + (1 : Int32) = nI (5 * n + 1) from nI_add (5 * n) 1]
  refine va_sld hx hb hXs hbl hbA hS (vp_in_nI (by omega) (by omega)) dL_law_791 ?_
  rw [← ea1]
  refine lv_aload_n hx hb dL_law_792 rfl (lv_at hl 4 rfl) ?_
  refine lv_iload hx hb dL_law_793 (lv_at hl 0 rfl) ?_
  refine lv_iconst (v := 2) hx hb dL_law_795 (by decide) ?_
  refine lv_iadd hx hb dL_law_796 ?_
  rw [show nI (5 * n) + (2 : Int32) = nI (5 * n + 2) from nI_add (5 * n) 2]
  refine va_sld hx hb hXs hbl hbA hS (vp_in_nI (by omega) (by omega)) dL_law_797 ?_
  rw [← ea2]
  refine lv_aload_n hx hb dL_law_798 rfl (lv_at hl 1 rfl) ?_
  refine m_callSWi X hK hw hZ hS hA (As := [.ref x, .int a1, .int a2, .ref oa]) (rest := []) (c_L_rowReference l G dce _ M hlt x ad y z hI.1 oa g0 hoa a1 a2) (vx_cwSW 4 hts gL_law_L_rowReference rfl rfl rfl (by decide +kernel) ⟨Nat.le_of_ble_eq_true rfl, Nat.le_of_ble_eq_true rfl⟩) rfl hl.1 rfl (Nat.le_of_ble_eq_true rfl) dL_law_799 (by show _ ≤ (601024 : Nat); omega) (by show _ ≤ (7293034 : Nat); omega) (fun r1 M1 H locs hp hw hS => ?_)
  obtain ⟨y1, z1, g1, hco, ho1, hc1, hs1⟩ := hp
  have hI1 := hI.cls hc1 ho1 hs1
  have hz1 := z_rowReference hco hR.1
  have hzc1 : zC z1 ≤ 32768 := hc1.2.2.2.1.2.1.2.2.2.2
  have hzz : zC z1 = zC z := zc_rowReference hco
  have hm1 : M1 xm = some (.inr (8, [.int (rdH w), .ref (adm 1), .ref (adm 2), .ref (adm 3), .ref (adm 4), .ref (adm 5), .ref (adm 6), .ref (adm 7), .ref (adm 8), .ref (adm 9), .ref (adm 10), .ref (adm 11), .ref (adm 12), .ref (adm 13), .int (nI (rdN w)), .ref (adm 15)])) := hI1.2.1.1
  refine lv_istore (lv' := [(5, .int r1), (4, .int (nI (5 * n))), (3, .ref oa), (2, .ref xm), (1, .ref x), (0, .ref b)]) hx hb dL_law_802 hl (by decide) rfl (fun ls hl => ?_)
  refine lv_aload_n hx hb dL_law_804 rfl (lv_at hl 3 rfl) ?_
  refine lv_aload_n hx hb dL_law_805 rfl (lv_at hl 5 rfl) ?_
  refine lv_iload hx hb dL_law_806 (lv_at hl 1 rfl) ?_
  refine lv_iconst (v := 1) hx hb dL_law_808 (by decide) ?_
  refine lv_iadd hx hb dL_law_809 ?_
  rw [show nI (5 * n) + (1 : Int32) = nI (5 * n + 1) from nI_add (5 * n) 1]
  refine va_sld hx hb hXs hbl hbA hS (vp_in_nI (by omega) (by omega)) dL_law_810 ?_
  rw [← ea1]
  refine lv_aload_n hx hb dL_law_811 rfl (lv_at hl 5 rfl) ?_
  refine lv_iload hx hb dL_law_812 (lv_at hl 1 rfl) ?_
  refine lv_iconst (v := 2) hx hb dL_law_814 (by decide) ?_
  refine lv_iadd hx hb dL_law_815 ?_
  rw [show nI (5 * n) + (2 : Int32) = nI (5 * n + 2) from nI_add (5 * n) 2]
  refine va_sld hx hb hXs hbl hbA hS (vp_in_nI (by omega) (by omega)) dL_law_816 ?_
  rw [← ea2]
  refine m_callVi X (ci := 8) rfl hm1 hK hw hZ hS hA (As := [.int a1, .int a2]) (rest := []) (c_mRowReference l G dce _ M1 xm adm w hI1.2.1 a1 a2) (cwV 2 hts gL_law_X7_rowReference rfl rfl rfl (by decide +kernel) ⟨Nat.le_of_ble_eq_true rfl, Nat.le_of_ble_eq_true rfl⟩) rfl hl.1 rfl (Nat.le_of_ble_eq_true rfl) dL_law_817 (by show _ ≤ (601024 : Nat); omega) (by show _ ≤ (7293034 : Nat); omega) (fun r12 M11 H locs hp hw hS hz hk => ?_)
  obtain ⟨hf2, hp2⟩ := hp
  obtain ⟨w2, hmo, hm2⟩ : ∃ w2, mO_rowReference w a1 a2 r12 w2 ∧ MW G M11 xm adm w2 := by
    rcases hp2 with ⟨h0, ⟨k, j, a1, a2, a3, a4, hm9⟩⟩ | ⟨h0, hm9⟩
    · exact ⟨_, Or.inl ⟨h0, ⟨k, j, a1, a2, a3, a4, rfl⟩⟩, hm9⟩
    · exact ⟨_, Or.inr ⟨h0, rfl⟩, hm9⟩
  have hI2 := hI1.mdl hm2 hf2
  have ho2 := hI2.2 _ ho1
  have hst := st_rowReference hR hn hco hmo
  refine lv_istore (lv' := [(6, .int r12), (5, .int r1), (4, .int (nI (5 * n))), (3, .ref oa), (2, .ref xm), (1, .ref x), (0, .ref b)]) hx hb dL_law_820 hl (by decide) rfl (fun ls hl => ?_)
  refine lv_goto (tgt := 934) hx hb dL_law_822 (by decide) ?_
  exact tail _ y1 z1 w2 _ _ _ _ _ hI2.1 hst.1 hw hS (lv_sub hl [2, 3, 4, 5, 6] rfl) (by omega) (by omega)
set_option maxHeartbeats 4000000 in
set_option maxRecDepth 100000 in
theorem law_rowVersion {p : Program} {l : Launch} {e : Env} {s : State} {m : MethodId} {below : List Frame} {meth : Method} {c : Code} {b L : Nat} {xs : Nat → Int32} {G : gG} {dce : Nat} {A : Nat → Prop} {Q : State → Prop} (hlt : l.stackTraces = false) (X : cX p s m meth c cL_law 7 ret wsL_law RL #[Value.ref b]) (hXs : va_X b L xs s s.heap) (hbl : b < s.heap.size) (hbA : ¬ A b) (hL0 : L ≤ 2560) (hK : wK G s) (hZ : wZ dce A s s.heap) (hA : ∀ q : Nat, s.heap.size ≤ q → A q) {x xm oa : Nat} {ad adm : Nat → Nat} {n : Nat} (hn : n < 512) (h5 : 5 * n + 5 ≤ L) {M : gM} {y : cY} {z : cZ} {w : mW} (hI : LI G dce x ad xm adm oa M y z w) (hR : RI n z w) {H : Heap} {locs : List Loc} (hw : wd G A M H) (hS : va_S A s.heap H locs) {cells slots : Nat} (hC : cells ≤ 100 + 11 * n + zC z) (hS2 : slots ≤ 80000 + 6190 * n + 4 * zC z) {ls : Array Slot} (hl : lv_has ls 7 [(4, .int (nI (5 * n))), (3, .ref oa), (2, .ref xm), (1, .ref x), (0, .ref b)])
    (tail : ∀ (M : gM) (y : cY) (z : cZ) (w : mW) (H : Heap) (locs : List Loc) (cells slots : Nat) (ls : Array Slot), LI G dce x ad xm adm oa M y z w → RI (n + 1) z w → wd G A M H → va_S A s.heap H locs → lv_has ls 7 [(4, .int (nI (5 * n))), (3, .ref oa), (2, .ref xm), (1, .ref x), (0, .ref b)] → cells ≤ 100 + 11 * (n + 1) + zC z → slots ≤ 80000 + 6190 * (n + 1) + 4 * zC z → W p l e room_1 s m #[Value.ref b] below meth c H locs cells slots Q (F0 m 934 ls [])) : W p l e room_1 s m #[Value.ref b] below meth c H locs cells slots Q (F0 m 825 ls []) := by
  obtain ⟨hx, hb, hr, hts, hown, hlk, hml⟩ := id X
  have hX9 := hI.1.1.1
  have hzc : zC z ≤ 32768 := hI.1.2.2.2.1.2.1.2.2.2.2
  have hzn : ∀ u, u < 8 → zN z u ≤ 1024 := fun u hu => hI.1.n hu
  obtain ⟨g0, hoa⟩ := hI.2.2.1
  have hm0 : M xm = some (.inr (8, [.int (rdH w), .ref (adm 1), .ref (adm 2), .ref (adm 3), .ref (adm 4), .ref (adm 5), .ref (adm 6), .ref (adm 7), .ref (adm 8), .ref (adm 9), .ref (adm 10), .ref (adm 11), .ref (adm 12), .ref (adm 13), .int (nI (rdN w)), .ref (adm 15)])) := hI.2.1.1
  obtain ⟨a1, ea1⟩ : ∃ z, z = xs (nI (5 * n + 1)).toNatClampNeg := ⟨_, rfl⟩
  obtain ⟨a2, ea2⟩ : ∃ z, z = xs (nI (5 * n + 2)).toNatClampNeg := ⟨_, rfl⟩
  obtain ⟨a3, ea3⟩ : ∃ z, z = xs (nI (5 * n + 3)).toNatClampNeg := ⟨_, rfl⟩
  obtain ⟨a4, ea4⟩ : ∃ z, z = xs (nI (5 * n + 4)).toNatClampNeg := ⟨_, rfl⟩
  refine lv_aload_n hx hb dL_law_825 rfl (lv_at hl 3 rfl) ?_
  refine lv_aload_n hx hb dL_law_826 rfl (lv_at hl 4 rfl) ?_
  refine lv_iload hx hb dL_law_827 (lv_at hl 0 rfl) ?_
  refine lv_iconst (v := 1) hx hb dL_law_829 (by decide) ?_
  refine lv_iadd hx hb dL_law_830 ?_
  rw [show nI (5 * n) + (1 : Int32) = nI (5 * n + 1) from nI_add (5 * n) 1]
  refine va_sld hx hb hXs hbl hbA hS (vp_in_nI (by omega) (by omega)) dL_law_831 ?_
  rw [← ea1]
  refine lv_aload_n hx hb dL_law_832 rfl (lv_at hl 4 rfl) ?_
  refine lv_iload hx hb dL_law_833 (lv_at hl 0 rfl) ?_
  refine lv_iconst (v := 2) hx hb dL_law_835 (by decide) ?_
  refine lv_iadd hx hb dL_law_836 ?_
  rw [show nI (5 * n) + (2 : Int32) = nI (5 * n + 2) from nI_add (5 * n) 2]
  refine va_sld hx hb hXs hbl hbA hS (vp_in_nI (by omega) (by omega)) dL_law_837 ?_
  rw [← ea2]
  refine lv_aload_n hx hb dL_law_838 rfl (lv_at hl 1 rfl) ?_
  refine m_callSWi X hK hw hZ hS hA (As := [.ref x, .int a1, .int a2, .ref oa]) (rest := []) (c_L_rowVersion l G dce _ M hlt x ad y z hI.1 oa g0 hoa a1 a2) (vx_cwSW 4 hts gL_law_L_rowVersion rfl rfl rfl (by decide +kernel) ⟨Nat.le_of_ble_eq_true rfl, Nat.le_of_ble_eq_true rfl⟩) rfl hl.1 rfl (Nat.le_of_ble_eq_true rfl) dL_law_839 (by show _ ≤ (601024 : Nat); omega) (by show _ ≤ (7293034 : Nat); omega) (fun r1 M1 H locs hp hw hS => ?_)
  obtain ⟨y1, z1, g1, hco, ho1, hc1, hs1⟩ := hp
  have hI1 := hI.cls hc1 ho1 hs1
  have hz1 := z_rowVersion hco hR.1
  have hzc1 : zC z1 ≤ 32768 := hc1.2.2.2.1.2.1.2.2.2.2
  have hzz : zC z1 = zC z := zc_rowVersion hco
  have hm1 : M1 xm = some (.inr (8, [.int (rdH w), .ref (adm 1), .ref (adm 2), .ref (adm 3), .ref (adm 4), .ref (adm 5), .ref (adm 6), .ref (adm 7), .ref (adm 8), .ref (adm 9), .ref (adm 10), .ref (adm 11), .ref (adm 12), .ref (adm 13), .int (nI (rdN w)), .ref (adm 15)])) := hI1.2.1.1
  refine lv_istore (lv' := [(5, .int r1), (4, .int (nI (5 * n))), (3, .ref oa), (2, .ref xm), (1, .ref x), (0, .ref b)]) hx hb dL_law_842 hl (by decide) rfl (fun ls hl => ?_)
  refine lv_aload_n hx hb dL_law_844 rfl (lv_at hl 3 rfl) ?_
  refine lv_aload_n hx hb dL_law_845 rfl (lv_at hl 5 rfl) ?_
  refine lv_iload hx hb dL_law_846 (lv_at hl 1 rfl) ?_
  refine lv_iconst (v := 1) hx hb dL_law_848 (by decide) ?_
  refine lv_iadd hx hb dL_law_849 ?_
  rw [show nI (5 * n) + (1 : Int32) = nI (5 * n + 1) from nI_add (5 * n) 1]
  refine va_sld hx hb hXs hbl hbA hS (vp_in_nI (by omega) (by omega)) dL_law_850 ?_
  rw [← ea1]
  refine lv_aload_n hx hb dL_law_851 rfl (lv_at hl 5 rfl) ?_
  refine lv_iload hx hb dL_law_852 (lv_at hl 1 rfl) ?_
  refine lv_iconst (v := 2) hx hb dL_law_854 (by decide) ?_
  refine lv_iadd hx hb dL_law_855 ?_
  rw [show nI (5 * n) + (2 : Int32) = nI (5 * n + 2) from nI_add (5 * n) 2]
  refine va_sld hx hb hXs hbl hbA hS (vp_in_nI (by omega) (by omega)) dL_law_856 ?_
  rw [← ea2]
  refine m_callVi X (ci := 8) rfl hm1 hK hw hZ hS hA (As := [.int a1, .int a2]) (rest := []) (c_mRowVersion l G dce _ M1 xm adm w hI1.2.1 a1 a2) (cwV 2 hts gL_law_X7_rowVersion rfl rfl rfl (by decide +kernel) ⟨Nat.le_of_ble_eq_true rfl, Nat.le_of_ble_eq_true rfl⟩) rfl hl.1 rfl (Nat.le_of_ble_eq_true rfl) dL_law_857 (by show _ ≤ (601024 : Nat); omega) (by show _ ≤ (7293034 : Nat); omega) (fun r12 M11 H locs hp hw hS hz hk => ?_)
  obtain ⟨hf2, hp2⟩ := hp
  obtain ⟨w2, hmo, hm2⟩ : ∃ w2, mO_rowVersion w a1 a2 r12 w2 ∧ MW G M11 xm adm w2 := by
    rcases hp2 with ⟨h0, ⟨k, j, a1, a2, a3, a4, hm9⟩⟩ | ⟨h0, hm9⟩
    · exact ⟨_, Or.inl ⟨h0, ⟨k, j, a1, a2, a3, a4, rfl⟩⟩, hm9⟩
    · exact ⟨_, Or.inr ⟨h0, rfl⟩, hm9⟩
  have hI2 := hI1.mdl hm2 hf2
  have ho2 := hI2.2 _ ho1
  have hst := st_rowVersion hR hn hco hmo
  refine lv_istore (lv' := [(6, .int r12), (5, .int r1), (4, .int (nI (5 * n))), (3, .ref oa), (2, .ref xm), (1, .ref x), (0, .ref b)]) hx hb dL_law_860 hl (by decide) rfl (fun ls hl => ?_)
  refine lv_goto (tgt := 934) hx hb dL_law_862 (by decide) ?_
  exact tail _ y1 z1 w2 _ _ _ _ _ hI2.1 hst.1 hw hS (lv_sub hl [2, 3, 4, 5, 6] rfl) (by omega) (by omega)
set_option maxHeartbeats 4000000 in
set_option maxRecDepth 100000 in
theorem law_writes {p : Program} {l : Launch} {e : Env} {s : State} {m : MethodId} {below : List Frame} {meth : Method} {c : Code} {b L : Nat} {xs : Nat → Int32} {G : gG} {dce : Nat} {A : Nat → Prop} {Q : State → Prop} (hlt : l.stackTraces = false) (X : cX p s m meth c cL_law 7 ret wsL_law RL #[Value.ref b]) (hXs : va_X b L xs s s.heap) (hbl : b < s.heap.size) (hbA : ¬ A b) (hL0 : L ≤ 2560) (hK : wK G s) (hZ : wZ dce A s s.heap) (hA : ∀ q : Nat, s.heap.size ≤ q → A q) {x xm oa : Nat} {ad adm : Nat → Nat} {n : Nat} (hn : n < 512) (h5 : 5 * n + 5 ≤ L) {M : gM} {y : cY} {z : cZ} {w : mW} (hI : LI G dce x ad xm adm oa M y z w) (hR : RI n z w) {H : Heap} {locs : List Loc} (hw : wd G A M H) (hS : va_S A s.heap H locs) {cells slots : Nat} (hC : cells ≤ 100 + 11 * n + zC z) (hS2 : slots ≤ 80000 + 6190 * n + 4 * zC z) {ls : Array Slot} (hl : lv_has ls 7 [(4, .int (nI (5 * n))), (3, .ref oa), (2, .ref xm), (1, .ref x), (0, .ref b)])
    (tail : ∀ (M : gM) (y : cY) (z : cZ) (w : mW) (H : Heap) (locs : List Loc) (cells slots : Nat) (ls : Array Slot), LI G dce x ad xm adm oa M y z w → RI (n + 1) z w → wd G A M H → va_S A s.heap H locs → lv_has ls 7 [(4, .int (nI (5 * n))), (3, .ref oa), (2, .ref xm), (1, .ref x), (0, .ref b)] → cells ≤ 100 + 11 * (n + 1) + zC z → slots ≤ 80000 + 6190 * (n + 1) + 4 * zC z → W p l e room_1 s m #[Value.ref b] below meth c H locs cells slots Q (F0 m 934 ls [])) : W p l e room_1 s m #[Value.ref b] below meth c H locs cells slots Q (F0 m 865 ls []) := by
  obtain ⟨hx, hb, hr, hts, hown, hlk, hml⟩ := id X
  have hX9 := hI.1.1.1
  have hzc : zC z ≤ 32768 := hI.1.2.2.2.1.2.1.2.2.2.2
  have hzn : ∀ u, u < 8 → zN z u ≤ 1024 := fun u hu => hI.1.n hu
  obtain ⟨g0, hoa⟩ := hI.2.2.1
  have hm0 : M xm = some (.inr (8, [.int (rdH w), .ref (adm 1), .ref (adm 2), .ref (adm 3), .ref (adm 4), .ref (adm 5), .ref (adm 6), .ref (adm 7), .ref (adm 8), .ref (adm 9), .ref (adm 10), .ref (adm 11), .ref (adm 12), .ref (adm 13), .int (nI (rdN w)), .ref (adm 15)])) := hI.2.1.1
  obtain ⟨a1, ea1⟩ : ∃ z, z = xs (nI (5 * n + 1)).toNatClampNeg := ⟨_, rfl⟩
  obtain ⟨a2, ea2⟩ : ∃ z, z = xs (nI (5 * n + 2)).toNatClampNeg := ⟨_, rfl⟩
  obtain ⟨a3, ea3⟩ : ∃ z, z = xs (nI (5 * n + 3)).toNatClampNeg := ⟨_, rfl⟩
  obtain ⟨a4, ea4⟩ : ∃ z, z = xs (nI (5 * n + 4)).toNatClampNeg := ⟨_, rfl⟩
  refine lv_aload_n hx hb dL_law_865 rfl (lv_at hl 3 rfl) ?_
  refine m_callVi X (ci := 7) rfl hX9 hK hw hZ hS hA (As := []) (rest := []) (c_writes l G dce _ M x ad y z hI.1) (cwV 0 hts gL_law_X6_writes rfl rfl rfl (by decide +kernel) ⟨Nat.le_of_ble_eq_true rfl, Nat.le_of_ble_eq_true rfl⟩) rfl hl.1 rfl (Nat.le_of_ble_eq_true rfl) dL_law_866 (by show _ ≤ (601024 : Nat); omega) (by show _ ≤ (7293034 : Nat); omega) (fun r12 M11 H locs hp hw hS hz hk => ?_)
  rw [hp.2] at hw
  rw [hp.1]
  refine lv_pop hx hb dL_law_869 rfl ?_
  refine lv_aload_n hx hb dL_law_870 rfl (lv_at hl 2 rfl) ?_
  refine m_callVi X (ci := 8) rfl hm0 hK hw hZ hS hA (As := []) (rest := []) (c_mwrites l G dce _ M xm adm w hI.2.1) (cwV 0 hts gL_law_X7_writes rfl rfl rfl (by decide +kernel) ⟨Nat.le_of_ble_eq_true rfl, Nat.le_of_ble_eq_true rfl⟩) rfl hl.1 rfl (Nat.le_of_ble_eq_true rfl) dL_law_871 (by show _ ≤ (601024 : Nat); omega) (by show _ ≤ (7293034 : Nat); omega) (fun r14 M13 H locs hp hw hS hz hk => ?_)
  obtain ⟨hr2, hm2, hf2⟩ := hp
  obtain ⟨w2, ew2⟩ : ∃ w9, w9 = mH w 0 := ⟨_, rfl⟩
  rw [← ew2] at hm2
  have hI2 := hI.mdl hm2 hf2
  have hst := st_writes hR hn ew2
  refine lv_pop hx hb dL_law_874 rfl ?_
  refine lv_goto (tgt := 934) hx hb dL_law_875 (by decide) ?_
  exact tail _ y z w2 _ _ _ _ _ hI2.1 hst.1 hw hS (lv_sub hl [0, 1, 2, 3, 4] rfl) (by omega) (by omega)
set_option maxHeartbeats 4000000 in
set_option maxRecDepth 100000 in
theorem law_write {p : Program} {l : Launch} {e : Env} {s : State} {m : MethodId} {below : List Frame} {meth : Method} {c : Code} {b L : Nat} {xs : Nat → Int32} {G : gG} {dce : Nat} {A : Nat → Prop} {Q : State → Prop} (hlt : l.stackTraces = false) (X : cX p s m meth c cL_law 7 ret wsL_law RL #[Value.ref b]) (hXs : va_X b L xs s s.heap) (hbl : b < s.heap.size) (hbA : ¬ A b) (hL0 : L ≤ 2560) (hK : wK G s) (hZ : wZ dce A s s.heap) (hA : ∀ q : Nat, s.heap.size ≤ q → A q) {x xm oa : Nat} {ad adm : Nat → Nat} {n : Nat} (hn : n < 512) (h5 : 5 * n + 5 ≤ L) {M : gM} {y : cY} {z : cZ} {w : mW} (hI : LI G dce x ad xm adm oa M y z w) (hR : RI n z w) {H : Heap} {locs : List Loc} (hw : wd G A M H) (hS : va_S A s.heap H locs) {cells slots : Nat} (hC : cells ≤ 100 + 11 * n + zC z) (hS2 : slots ≤ 80000 + 6190 * n + 4 * zC z) {ls : Array Slot} (hl : lv_has ls 7 [(4, .int (nI (5 * n))), (3, .ref oa), (2, .ref xm), (1, .ref x), (0, .ref b)])
    (tail : ∀ (M : gM) (y : cY) (z : cZ) (w : mW) (H : Heap) (locs : List Loc) (cells slots : Nat) (ls : Array Slot), LI G dce x ad xm adm oa M y z w → RI (n + 1) z w → wd G A M H → va_S A s.heap H locs → lv_has ls 7 [(4, .int (nI (5 * n))), (3, .ref oa), (2, .ref xm), (1, .ref x), (0, .ref b)] → cells ≤ 100 + 11 * (n + 1) + zC z → slots ≤ 80000 + 6190 * (n + 1) + 4 * zC z → W p l e room_1 s m #[Value.ref b] below meth c H locs cells slots Q (F0 m 934 ls [])) : W p l e room_1 s m #[Value.ref b] below meth c H locs cells slots Q (F0 m 878 ls []) := by
  obtain ⟨hx, hb, hr, hts, hown, hlk, hml⟩ := id X
  have hX9 := hI.1.1.1
  have hzc : zC z ≤ 32768 := hI.1.2.2.2.1.2.1.2.2.2.2
  have hzn : ∀ u, u < 8 → zN z u ≤ 1024 := fun u hu => hI.1.n hu
  obtain ⟨g0, hoa⟩ := hI.2.2.1
  have hm0 : M xm = some (.inr (8, [.int (rdH w), .ref (adm 1), .ref (adm 2), .ref (adm 3), .ref (adm 4), .ref (adm 5), .ref (adm 6), .ref (adm 7), .ref (adm 8), .ref (adm 9), .ref (adm 10), .ref (adm 11), .ref (adm 12), .ref (adm 13), .int (nI (rdN w)), .ref (adm 15)])) := hI.2.1.1
  obtain ⟨a1, ea1⟩ : ∃ z, z = xs (nI (5 * n + 1)).toNatClampNeg := ⟨_, rfl⟩
  obtain ⟨a2, ea2⟩ : ∃ z, z = xs (nI (5 * n + 2)).toNatClampNeg := ⟨_, rfl⟩
  obtain ⟨a3, ea3⟩ : ∃ z, z = xs (nI (5 * n + 3)).toNatClampNeg := ⟨_, rfl⟩
  obtain ⟨a4, ea4⟩ : ∃ z, z = xs (nI (5 * n + 4)).toNatClampNeg := ⟨_, rfl⟩
  refine lv_aload_n hx hb dL_law_878 rfl (lv_at hl 3 rfl) ?_
  refine lv_aload_n hx hb dL_law_879 rfl (lv_at hl 4 rfl) ?_
  refine lv_iload hx hb dL_law_880 (lv_at hl 0 rfl) ?_
  refine lv_iconst (v := 1) hx hb dL_law_882 (by decide) ?_
  refine lv_iadd hx hb dL_law_883 ?_
  rw [show nI (5 * n) + (1 : Int32) = nI (5 * n + 1) from nI_add (5 * n) 1]
  refine va_sld hx hb hXs hbl hbA hS (vp_in_nI (by omega) (by omega)) dL_law_884 ?_
  rw [← ea1]
  refine lv_aload_n hx hb dL_law_885 rfl (lv_at hl 1 rfl) ?_
  refine m_callSWi X hK hw hZ hS hA (As := [.ref x, .int a1, .ref oa]) (rest := []) (c_L_write l G dce _ M hlt x ad y z hI.1 oa g0 hoa a1) (vx_cwSW 3 hts gL_law_L_write rfl rfl rfl (by decide +kernel) ⟨Nat.le_of_ble_eq_true rfl, Nat.le_of_ble_eq_true rfl⟩) rfl hl.1 rfl (Nat.le_of_ble_eq_true rfl) dL_law_886 (by show _ ≤ (601024 : Nat); omega) (by show _ ≤ (7293034 : Nat); omega) (fun r1 M1 H locs hp hw hS => ?_)
  obtain ⟨y1, z1, g1, hco, ho1, hc1, hs1⟩ := hp
  have hI1 := hI.cls hc1 ho1 hs1
  have hz1 := z_write hco hR.1
  have hzc1 : zC z1 ≤ 32768 := hc1.2.2.2.1.2.1.2.2.2.2
  have hzz : zC z1 = zC z := zc_write hco
  have hm1 : M1 xm = some (.inr (8, [.int (rdH w), .ref (adm 1), .ref (adm 2), .ref (adm 3), .ref (adm 4), .ref (adm 5), .ref (adm 6), .ref (adm 7), .ref (adm 8), .ref (adm 9), .ref (adm 10), .ref (adm 11), .ref (adm 12), .ref (adm 13), .int (nI (rdN w)), .ref (adm 15)])) := hI1.2.1.1
  refine lv_istore (lv' := [(5, .int r1), (4, .int (nI (5 * n))), (3, .ref oa), (2, .ref xm), (1, .ref x), (0, .ref b)]) hx hb dL_law_889 hl (by decide) rfl (fun ls hl => ?_)
  refine lv_aload_n hx hb dL_law_891 rfl (lv_at hl 3 rfl) ?_
  refine lv_aload_n hx hb dL_law_892 rfl (lv_at hl 5 rfl) ?_
  refine lv_iload hx hb dL_law_893 (lv_at hl 1 rfl) ?_
  refine lv_iconst (v := 1) hx hb dL_law_895 (by decide) ?_
  refine lv_iadd hx hb dL_law_896 ?_
  rw [show nI (5 * n) + (1 : Int32) = nI (5 * n + 1) from nI_add (5 * n) 1]
  refine va_sld hx hb hXs hbl hbA hS (vp_in_nI (by omega) (by omega)) dL_law_897 ?_
  rw [← ea1]
  refine m_callVi X (ci := 8) rfl hm1 hK hw hZ hS hA (As := [.int a1]) (rest := []) (c_mWrite l G dce _ M1 xm adm w hI1.2.1 a1 (by have h9 := hR.2.2.2.2.1; omega)) (cwV 1 hts gL_law_X7_write rfl rfl rfl (by decide +kernel) ⟨Nat.le_of_ble_eq_true rfl, Nat.le_of_ble_eq_true rfl⟩) rfl hl.1 rfl (Nat.le_of_ble_eq_true rfl) dL_law_898 (by show _ ≤ (601024 : Nat); omega) (by show _ ≤ (7293034 : Nat); omega) (fun r12 M11 H locs hp hw hS hz hk => ?_)
  obtain ⟨hf2, hp2⟩ := hp
  obtain ⟨w2, hmo, hm2⟩ : ∃ w2, mO_write w a1 r12 w2 ∧ MW G M11 xm adm w2 := by
    rcases hp2 with ⟨h0, ⟨n9, a1, a2, a3, hm9⟩⟩ | ⟨h0, hm9⟩
    · exact ⟨_, Or.inl ⟨h0, ⟨n9, a1, a2, a3, rfl⟩⟩, hm9⟩
    · exact ⟨_, Or.inr ⟨h0, rfl⟩, hm9⟩
  have hI2 := hI1.mdl hm2 hf2
  have ho2 := hI2.2 _ ho1
  have hst := st_write hR hn hco hmo
  refine lv_istore (lv' := [(6, .int r12), (5, .int r1), (4, .int (nI (5 * n))), (3, .ref oa), (2, .ref xm), (1, .ref x), (0, .ref b)]) hx hb dL_law_901 hl (by decide) rfl (fun ls hl => ?_)
  refine lv_goto (tgt := 934) hx hb dL_law_903 (by decide) ?_
  exact tail _ y1 z1 w2 _ _ _ _ _ hI2.1 hst.1 hw hS (lv_sub hl [2, 3, 4, 5, 6] rfl) (by omega) (by omega)
set_option maxHeartbeats 4000000 in
set_option maxRecDepth 100000 in
theorem law_written {p : Program} {l : Launch} {e : Env} {s : State} {m : MethodId} {below : List Frame} {meth : Method} {c : Code} {b L : Nat} {xs : Nat → Int32} {G : gG} {dce : Nat} {A : Nat → Prop} {Q : State → Prop} (hlt : l.stackTraces = false) (X : cX p s m meth c cL_law 7 ret wsL_law RL #[Value.ref b]) (hXs : va_X b L xs s s.heap) (hbl : b < s.heap.size) (hbA : ¬ A b) (hL0 : L ≤ 2560) (hK : wK G s) (hZ : wZ dce A s s.heap) (hA : ∀ q : Nat, s.heap.size ≤ q → A q) {x xm oa : Nat} {ad adm : Nat → Nat} {n : Nat} (hn : n < 512) (h5 : 5 * n + 5 ≤ L) {M : gM} {y : cY} {z : cZ} {w : mW} (hI : LI G dce x ad xm adm oa M y z w) (hR : RI n z w) {H : Heap} {locs : List Loc} (hw : wd G A M H) (hS : va_S A s.heap H locs) {cells slots : Nat} (hC : cells ≤ 100 + 11 * n + zC z) (hS2 : slots ≤ 80000 + 6190 * n + 4 * zC z) {ls : Array Slot} (hl : lv_has ls 7 [(4, .int (nI (5 * n))), (3, .ref oa), (2, .ref xm), (1, .ref x), (0, .ref b)])
    (tail : ∀ (M : gM) (y : cY) (z : cZ) (w : mW) (H : Heap) (locs : List Loc) (cells slots : Nat) (ls : Array Slot), LI G dce x ad xm adm oa M y z w → RI (n + 1) z w → wd G A M H → va_S A s.heap H locs → lv_has ls 7 [(4, .int (nI (5 * n))), (3, .ref oa), (2, .ref xm), (1, .ref x), (0, .ref b)] → cells ≤ 100 + 11 * (n + 1) + zC z → slots ≤ 80000 + 6190 * (n + 1) + 4 * zC z → W p l e room_1 s m #[Value.ref b] below meth c H locs cells slots Q (F0 m 934 ls [])) : W p l e room_1 s m #[Value.ref b] below meth c H locs cells slots Q (F0 m 906 ls []) := by
  obtain ⟨hx, hb, hr, hts, hown, hlk, hml⟩ := id X
  have hX9 := hI.1.1.1
  have hzc : zC z ≤ 32768 := hI.1.2.2.2.1.2.1.2.2.2.2
  have hzn : ∀ u, u < 8 → zN z u ≤ 1024 := fun u hu => hI.1.n hu
  obtain ⟨g0, hoa⟩ := hI.2.2.1
  have hm0 : M xm = some (.inr (8, [.int (rdH w), .ref (adm 1), .ref (adm 2), .ref (adm 3), .ref (adm 4), .ref (adm 5), .ref (adm 6), .ref (adm 7), .ref (adm 8), .ref (adm 9), .ref (adm 10), .ref (adm 11), .ref (adm 12), .ref (adm 13), .int (nI (rdN w)), .ref (adm 15)])) := hI.2.1.1
  obtain ⟨a1, ea1⟩ : ∃ z, z = xs (nI (5 * n + 1)).toNatClampNeg := ⟨_, rfl⟩
  obtain ⟨a2, ea2⟩ : ∃ z, z = xs (nI (5 * n + 2)).toNatClampNeg := ⟨_, rfl⟩
  obtain ⟨a3, ea3⟩ : ∃ z, z = xs (nI (5 * n + 3)).toNatClampNeg := ⟨_, rfl⟩
  obtain ⟨a4, ea4⟩ : ∃ z, z = xs (nI (5 * n + 4)).toNatClampNeg := ⟨_, rfl⟩
  refine lv_aload_n hx hb dL_law_906 rfl (lv_at hl 3 rfl) ?_
  refine lv_aload_n hx hb dL_law_907 rfl (lv_at hl 4 rfl) ?_
  refine lv_iload hx hb dL_law_908 (lv_at hl 0 rfl) ?_
  refine lv_iconst (v := 1) hx hb dL_law_910 (by decide) ?_
  refine lv_iadd hx hb dL_law_911 ?_
  rw [show nI (5 * n) + (1 : Int32) = nI (5 * n + 1) from nI_add (5 * n) 1]
  refine va_sld hx hb hXs hbl hbA hS (vp_in_nI (by omega) (by omega)) dL_law_912 ?_
  rw [← ea1]
  refine lv_aload_n hx hb dL_law_913 rfl (lv_at hl 1 rfl) ?_
  refine m_callSWi X hK hw hZ hS hA (As := [.ref x, .int a1, .ref oa]) (rest := []) (c_L_written l G dce _ M hlt x ad y z hI.1 oa g0 hoa a1) (vx_cwSW 3 hts gL_law_L_written rfl rfl rfl (by decide +kernel) ⟨Nat.le_of_ble_eq_true rfl, Nat.le_of_ble_eq_true rfl⟩) rfl hl.1 rfl (Nat.le_of_ble_eq_true rfl) dL_law_914 (by show _ ≤ (601024 : Nat); omega) (by show _ ≤ (7293034 : Nat); omega) (fun r1 M1 H locs hp hw hS => ?_)
  obtain ⟨y1, z1, g1, hco, ho1, hc1, hs1⟩ := hp
  have hI1 := hI.cls hc1 ho1 hs1
  have hz1 := z_written hco hR.1
  have hzc1 : zC z1 ≤ 32768 := hc1.2.2.2.1.2.1.2.2.2.2
  have hzz : zC z1 = zC z := zc_written hco
  have hm1 : M1 xm = some (.inr (8, [.int (rdH w), .ref (adm 1), .ref (adm 2), .ref (adm 3), .ref (adm 4), .ref (adm 5), .ref (adm 6), .ref (adm 7), .ref (adm 8), .ref (adm 9), .ref (adm 10), .ref (adm 11), .ref (adm 12), .ref (adm 13), .int (nI (rdN w)), .ref (adm 15)])) := hI1.2.1.1
  refine lv_istore (lv' := [(5, .int r1), (4, .int (nI (5 * n))), (3, .ref oa), (2, .ref xm), (1, .ref x), (0, .ref b)]) hx hb dL_law_917 hl (by decide) rfl (fun ls hl => ?_)
  refine lv_aload_n hx hb dL_law_919 rfl (lv_at hl 3 rfl) ?_
  refine lv_aload_n hx hb dL_law_920 rfl (lv_at hl 5 rfl) ?_
  refine lv_iload hx hb dL_law_921 (lv_at hl 1 rfl) ?_
  refine lv_iconst (v := 1) hx hb dL_law_923 (by decide) ?_
  refine lv_iadd hx hb dL_law_924 ?_
  rw [show nI (5 * n) + (1 : Int32) = nI (5 * n + 1) from nI_add (5 * n) 1]
  refine va_sld hx hb hXs hbl hbA hS (vp_in_nI (by omega) (by omega)) dL_law_925 ?_
  rw [← ea1]
  refine m_callVi X (ci := 8) rfl hm1 hK hw hZ hS hA (As := [.int a1]) (rest := []) (c_mWritten l G dce _ M1 xm adm w hI1.2.1 a1 (by have h9 := hR.2.2.2.2.1; omega)) (cwV 1 hts gL_law_X7_written rfl rfl rfl (by decide +kernel) ⟨Nat.le_of_ble_eq_true rfl, Nat.le_of_ble_eq_true rfl⟩) rfl hl.1 rfl (Nat.le_of_ble_eq_true rfl) dL_law_926 (by show _ ≤ (601024 : Nat); omega) (by show _ ≤ (7293034 : Nat); omega) (fun r12 M11 H locs hp hw hS hz hk => ?_)
  obtain ⟨hf2, hp2⟩ := hp
  obtain ⟨w2, hmo, hm2⟩ : ∃ w2, mO_written w a1 r12 w2 ∧ MW G M11 xm adm w2 := by
    rcases hp2 with ⟨h0, ⟨n9, a1, a2, a3, hm9⟩⟩ | ⟨h0, hm9⟩
    · exact ⟨_, Or.inl ⟨h0, ⟨n9, a1, a2, a3, rfl⟩⟩, hm9⟩
    · exact ⟨_, Or.inr ⟨h0, rfl⟩, hm9⟩
  have hI2 := hI1.mdl hm2 hf2
  have ho2 := hI2.2 _ ho1
  have hst := st_written hR hn hco hmo
  refine lv_istore (lv' := [(6, .int r12), (5, .int r1), (4, .int (nI (5 * n))), (3, .ref oa), (2, .ref xm), (1, .ref x), (0, .ref b)]) hx hb dL_law_929 hl (by decide) rfl (fun ls hl => ?_)
  refine lv_goto (tgt := 934) hx hb dL_law_931 (by decide) ?_
  exact tail _ y1 z1 w2 _ _ _ _ _ hI2.1 hst.1 hw hS (lv_sub hl [2, 3, 4, 5, 6] rfl) (by omega) (by omega)
