/-! P23: a step of the law -/
set_option maxHeartbeats 4000000 in
set_option maxRecDepth 100000 in
theorem st_0 {p : Program} {l : Launch} {e : Env} {s : State} {m : MethodId} {below : List Frame} {meth : Method} {c : Code} {args : Array Value} {G : gG} {dce : Nat} {A : Nat → Prop} {M : gM} (X : cX p s m meth c cL_step 12 (some .boolean) wsL_step RL args) (hK : wK G s) (hZ : wZ dce A s s.heap) (hA : ∀ q : Nat, s.heap.size ≤ q → A q) (hlt : l.stackTraces = false) (x : Nat) (ad : Nat → Nat) (ca : Nat) (f : Nat → Int32) (bm : Nat → Bool) (n w : Nat) (y : cY) (z : cZ) (h : LC G dce x ad ca f (fun a => bm a = false) n w M y z) (hn : n ≤ 511) (hf0 : f 0 = nI (zN z 0)) (hf1 : f 1 = nI (zN z 1)) (hf3 : f 3 = msk bm) (hcb : CB z) (hn2 : n ≤ 55) (hw9 : w ≤ 480) (i k j nm a b : Nat) (hi : i < 3) (hk2 : k < 2) (hj : 0 < zN z k → j < zN z k) (hnm : nm < 50) (ha9 : a < 2 ^ 31) (hb9 : b < 2 ^ 31) {H : Heap} {locs : List Loc} {cells slots : Nat} (hC : cells ≤ 1) (hS9 : slots ≤ 6) {ls : Array Slot} (hw : wd G A M H) (hS : va_S A s.heap H locs) (hl : lv_has ls 12 [(9, .int (nI (tot fLive i z))), (8, .int (nI nm)), (7, .int (nI j)), (6, .int (nI k)), (5, .int (nI i)), (4, .int (nI b)), (3, .int (nI a)), (1, .ref ca), (0, .ref x)]) : W p l e ({ frames := 13, cells := 5000, slots := 30000, locals := 420 }) s m args below meth c H locs cells slots (MQ below (QI G (fun r M' => r = 1 ∧ ∃ (y1 : cY) (z1 : cZ), LSt G dce x ad ca (n + 1) (w + 8) M' y1 z1) A) args s 5000 30000 A) (F0 m 132 ls []) := by
  obtain ⟨hx, hb, hr, hts, hown, hlk, hml⟩ := id X
  have hx9 : M x = some (.inr (7, [.ref (ad 0), .ref (ad 1), .ref (ad 2), .ref (ad 3)])) := h.1.1.1
  have hfk : f k = nI (zN z k) := fk_k hf0 hf1 hk2
  have hz0 : zN z 0 ≤ n := h.2.1.2.1 0 (by omega)
  have hz1 : zN z 1 ≤ n := h.2.1.2.1 1 (by omega)
  have hzk : zN z k ≤ n := h.2.1.2.1 k (by omega)
  refine lv_aload_n hx hb dL_step_132 rfl (lv_at hl 7 rfl) ?_
  refine lv_iconst (v := 0) hx hb dL_step_133 (by decide) ?_
  refine lv_dup2_11 hx hb dL_step_134 rfl rfl ?_
  refine m_iald X hK hw h.2.2.1 (i := 0) (by unfold vp_in; decide) dL_step_135 ?_
  rw [show f ((0 : Int32).toNatClampNeg) = nI (zN z 0) from (congrArg f (by decide)).trans hf0]
  refine lv_iconst (v := 1) hx hb dL_step_136 (by decide) ?_
  refine lv_iadd hx hb dL_step_137 ?_
  rw [nI_1]
  refine m_iast X hK hw hS h.2.2.1 (i := 0) (x := (nI (zN z 0 + 1))) (by unfold vp_in; decide) dL_step_138 (fun M41 H locs eM41 hw hS => ?_)
  obtain ⟨f1, ef1⟩ : ∃ g : Nat → Int32, g = upd f (0 : Int32).toNatClampNeg (nI (zN z 0 + 1)) := ⟨_, rfl⟩
  have h1 : LC G dce x ad ca f1 (fun a => bm a = false) n w M41 y z := LC.c h (by rw [ef1]; exact eM41)
  have ic1 : (0 : Int32).toNatClampNeg = 0 := by decide
  have hg0 : f1 0 = (nI (zN z 0 + 1)) := by rw [ef1, ic1]; exact upd_1 _ _ _
  have hg1 : f1 1 = nI (zN z 1) := by rw [ef1, ic1]; exact (upd_0 _ _ (by decide)).trans hf1
  have hg3 : f1 3 = msk bm := by rw [ef1, ic1]; exact (upd_0 _ _ (by decide)).trans hf3
  have hx1 : M41 x = some (.inr (7, [.ref (ad 0), .ref (ad 1), .ref (ad 2), .ref (ad 3)])) := h1.1.1.1
  refine lv_aload_n hx hb dL_step_139 rfl (lv_at hl 8 rfl) ?_
  refine lv_iload hx hb dL_step_140 (lv_at hl 4 rfl) ?_
  refine lv_iload hx hb dL_step_142 (lv_at hl 1 rfl) ?_
  refine m_callVi X (ci := 7) rfl hx1 hK hw hZ hS hA (As := [.int (nI i), .int (nI nm)]) (rest := []) (n_makeAuthor l G dce _ M41 hlt x ad ca f1 (fun a => bm a = false) n w y z h1 hn hi (nOK_n (by omega))) (cwV 2 hts gL_step_X6_makeAuthor rfl rfl rfl (by decide +kernel) ⟨Nat.le_of_ble_eq_true rfl, Nat.le_of_ble_eq_true rfl⟩) rfl hl.1 rfl (Nat.le_of_ble_eq_true rfl) dL_step_144 (by dsimp only; omega) (by dsimp only; omega) (fun r43 M42 H locs hp hw hS hz hk => ?_)
  obtain ⟨er2, y2, h2⟩ := hp
  rw [er2]
  obtain ⟨z2, e2⟩ : ∃ zz9, zz9 = kMk i 0 (nI nm) (-1) z := ⟨_, rfl⟩
  rw [← e2] at h2
  have hx2 : M42 x = some (.inr (7, [.ref (ad 0), .ref (ad 1), .ref (ad 2), .ref (ad 3)])) := h2.1.1.1
  have hm := mk_e (nm := nI nm) (rf := -1) h.2.1.1 hi (show 0 < 2 by decide)
  rw [← e2] at hm
  have hkn : tot fLive i z2 = tot fLive i z + 1 := by rw [e2]; exact mk_kn h.2.1.1 hi (by decide)
  have hj2 : zN z 0 < zN z2 0 := by rw [hm.2.1]; omega
  have hl2 : fLive (zE z2 (sL i 0) (zN z 0)) = true := by rw [hm.1]; rfl
  refine lv_aload_n hx hb dL_step_147 rfl (lv_at hl 7 rfl) ?_
  refine lv_iconst (v := 0) hx hb dL_step_148 (by decide) ?_
  refine m_iald X hK hw h2.2.2.1 (i := 0) (by unfold vp_in; decide) dL_step_149 ?_
  rw [show f1 ((0 : Int32).toNatClampNeg) = nI (zN z 0 + 1) from (congrArg f1 (by decide)).trans hg0]
  refine lv_iconst (v := 1) hx hb dL_step_150 (by decide) ?_
  refine lv_isub hx hb dL_step_151 ?_
  rw [nI_pred]
  refine lv_icmp_ne (tgt := 205) hx hb dL_step_152 (by decide) (fun c_152 => ?_) (fun c_152 => ?_)
  · exact (by exfalso; first | exact c_152 rfl | exact c_165 rfl | exact c_182 rfl)
  · refine lv_aload_n hx hb dL_step_155 rfl (lv_at hl 8 rfl) ?_
    refine lv_iload hx hb dL_step_156 (lv_at hl 4 rfl) ?_
    refine m_callVi X (ci := 7) rfl hx2 hK hw hZ hS hA (As := [.int (nI i)]) (rest := []) (n_known l G dce _ M42 hlt x ad ca f1 (fun a => bm a = false) (n + 1) (w + 4) y2 z2 h2 (by omega) hi) (cwV 1 hts gL_step_X6_known rfl rfl rfl (by decide +kernel) ⟨Nat.le_of_ble_eq_true rfl, Nat.le_of_ble_eq_true rfl⟩) rfl hl.1 rfl (Nat.le_of_ble_eq_true rfl) dL_step_158 (by dsimp only; omega) (by dsimp only; omega) (fun r45 M44 H locs hp hw hS hz hk => ?_)
    rw [hp.2] at hw
    rw [hp.1]
    rw [hkn]
    refine lv_iload hx hb dL_step_161 (lv_at hl 0 rfl) ?_
    refine lv_iconst (v := 1) hx hb dL_step_163 (by decide) ?_
    refine lv_iadd hx hb dL_step_164 ?_
    rw [nI_1]
    refine lv_icmp_ne (tgt := 205) hx hb dL_step_165 (by decide) (fun c_165 => ?_) (fun c_165 => ?_)
    · exact (by exfalso; first | exact c_152 rfl | exact c_165 rfl | exact c_182 rfl)
    · refine lv_aload_n hx hb dL_step_168 rfl (lv_at hl 8 rfl) ?_
      refine lv_iload hx hb dL_step_169 (lv_at hl 4 rfl) ?_
      refine lv_iconst (v := 0) hx hb dL_step_171 (by decide) ?_
      refine lv_aload_n hx hb dL_step_172 rfl (lv_at hl 7 rfl) ?_
      refine lv_iconst (v := 0) hx hb dL_step_173 (by decide) ?_
      refine m_iald X hK hw h2.2.2.1 (i := 0) (by unfold vp_in; decide) dL_step_174 ?_
      rw [show f1 ((0 : Int32).toNatClampNeg) = nI (zN z 0 + 1) from (congrArg f1 (by decide)).trans hg0]
      refine lv_iconst (v := 1) hx hb dL_step_175 (by decide) ?_
      refine lv_isub hx hb dL_step_176 ?_
      rw [nI_pred]
      refine m_callVi X (ci := 7) rfl hx2 hK hw hZ hS hA (As := [.int (nI i), .int 0, .int (nI (zN z 0))]) (rest := []) (n_name l G dce _ M42 hlt x ad ca f1 (fun a => bm a = false) (n + 1) (w + 4) y2 z2 h2 (by omega) hi (k := 0) (by decide) hj2 hl2) (cwV 3 hts gL_step_X6_name rfl rfl rfl (by decide +kernel) ⟨Nat.le_of_ble_eq_true rfl, Nat.le_of_ble_eq_true rfl⟩) rfl hl.1 rfl (Nat.le_of_ble_eq_true rfl) dL_step_177 (by dsimp only; omega) (by dsimp only; omega) (fun r47 M46 H locs hp hw hS hz hk => ?_)
      rw [hp.2] at hw
      rw [hp.1]
      rw [show eNm (zE z2 (sL i 0) (zN z 0)) = nI nm from by rw [hm.1]; rfl]
      refine lv_iload hx hb dL_step_180 (lv_at hl 1 rfl) ?_
      refine lv_icmp_ne (tgt := 205) hx hb dL_step_182 (by decide) (fun c_182 => ?_) (fun c_182 => ?_)
      · exact (by exfalso; first | exact c_152 rfl | exact c_165 rfl | exact c_182 rfl)
      · refine lv_aload_n hx hb dL_step_185 rfl (lv_at hl 8 rfl) ?_
        refine lv_iload hx hb dL_step_186 (lv_at hl 4 rfl) ?_
        refine lv_iconst (v := 0) hx hb dL_step_188 (by decide) ?_
        refine lv_aload_n hx hb dL_step_189 rfl (lv_at hl 7 rfl) ?_
        refine lv_iconst (v := 0) hx hb dL_step_190 (by decide) ?_
        refine m_iald X hK hw h2.2.2.1 (i := 0) (by unfold vp_in; decide) dL_step_191 ?_
        rw [show f1 ((0 : Int32).toNatClampNeg) = nI (zN z 0 + 1) from (congrArg f1 (by decide)).trans hg0]
        refine lv_iconst (v := 1) hx hb dL_step_192 (by decide) ?_
        refine lv_isub hx hb dL_step_193 ?_
        rw [nI_pred]
        refine m_callVi X (ci := 7) rfl hx2 hK hw hZ hS hA (As := [.int (nI i), .int 0, .int (nI (zN z 0))]) (rest := []) (n_reference l G dce _ M42 hlt x ad ca f1 (fun a => bm a = false) (n + 1) (w + 4) y2 z2 h2 (by omega) hi (k := 0) (by decide) hj2 hl2) (cwV 3 hts gL_step_X6_reference rfl rfl rfl (by decide +kernel) ⟨Nat.le_of_ble_eq_true rfl, Nat.le_of_ble_eq_true rfl⟩) rfl hl.1 rfl (Nat.le_of_ble_eq_true rfl) dL_step_194 (by dsimp only; omega) (by dsimp only; omega) (fun r49 M48 H locs hp hw hS hz hk => ?_)
        rw [hp.2] at hw
        rw [hp.1]
        rw [show eRf (zE z2 (sL i 0) (zN z 0)) = -1 from by rw [hm.1]; rfl]
        refine lv_iconst (v := (-1)) hx hb dL_step_197 (by decide) ?_
        refine lv_icmp_ne (tgt := 205) hx hb dL_step_198 (by decide) (fun c_198 => absurd (by decide) c_198) (fun _ => ?_)
        refine lv_iconst (v := 1) hx hb dL_step_201 (by decide) ?_
        refine lv_goto (tgt := 206) hx hb dL_step_202 (by decide) ?_
        exact m_zret X (by decide) hK hw hS (by exact ⟨rfl, y2, z2, f1, bm, h2.mono (fun _ _ q => q) (by omega) (by omega), by rw [hm.2.1]; exact hg0, by rw [show zN z2 1 = zN z 1 from hm.2.2.1]; exact hg1, hg3, by rw [e2]; exact hcb.mk _ _ _ _⟩) (by omega) (by omega) dL_step_206
set_option maxHeartbeats 4000000 in
set_option maxRecDepth 100000 in
theorem st_1 {p : Program} {l : Launch} {e : Env} {s : State} {m : MethodId} {below : List Frame} {meth : Method} {c : Code} {args : Array Value} {G : gG} {dce : Nat} {A : Nat → Prop} {M : gM} (X : cX p s m meth c cL_step 12 (some .boolean) wsL_step RL args) (hK : wK G s) (hZ : wZ dce A s s.heap) (hA : ∀ q : Nat, s.heap.size ≤ q → A q) (hlt : l.stackTraces = false) (x : Nat) (ad : Nat → Nat) (ca : Nat) (f : Nat → Int32) (bm : Nat → Bool) (n w : Nat) (y : cY) (z : cZ) (h : LC G dce x ad ca f (fun a => bm a = false) n w M y z) (hn : n ≤ 511) (hf0 : f 0 = nI (zN z 0)) (hf1 : f 1 = nI (zN z 1)) (hf3 : f 3 = msk bm) (hcb : CB z) (hn2 : n ≤ 55) (hw9 : w ≤ 480) (i k j nm a b : Nat) (hi : i < 3) (hk2 : k < 2) (hj : 0 < zN z k → j < zN z k) (hnm : nm < 50) (ha9 : a < 2 ^ 31) (hb9 : b < 2 ^ 31) {H : Heap} {locs : List Loc} {cells slots : Nat} (hC : cells ≤ 1) (hS9 : slots ≤ 6) {ls : Array Slot} (hw : wd G A M H) (hS : va_S A s.heap H locs) (hl : lv_has ls 12 [(9, .int (nI (tot fLive i z))), (8, .int (nI nm)), (7, .int (nI j)), (6, .int (nI k)), (5, .int (nI i)), (4, .int (nI b)), (3, .int (nI a)), (1, .ref ca), (0, .ref x)]) : W p l e ({ frames := 13, cells := 5000, slots := 30000, locals := 420 }) s m args below meth c H locs cells slots (MQ below (QI G (fun r M' => r = 1 ∧ ∃ (y1 : cY) (z1 : cZ), LSt G dce x ad ca (n + 1) (w + 8) M' y1 z1) A) args s 5000 30000 A) (F0 m 207 ls []) := by
  obtain ⟨hx, hb, hr, hts, hown, hlk, hml⟩ := id X
  have hx9 : M x = some (.inr (7, [.ref (ad 0), .ref (ad 1), .ref (ad 2), .ref (ad 3)])) := h.1.1.1
  have hfk : f k = nI (zN z k) := fk_k hf0 hf1 hk2
  have hz0 : zN z 0 ≤ n := h.2.1.2.1 0 (by omega)
  have hz1 : zN z 1 ≤ n := h.2.1.2.1 1 (by omega)
  have hzk : zN z k ≤ n := h.2.1.2.1 k (by omega)
  refine lv_aload_n hx hb dL_step_207 rfl (lv_at hl 7 rfl) ?_
  refine lv_iconst (v := 0) hx hb dL_step_208 (by decide) ?_
  refine m_iald X hK hw h.2.2.1 (i := 0) (by unfold vp_in; decide) dL_step_209 ?_
  rw [show f ((0 : Int32).toNatClampNeg) = nI (zN z 0) from (congrArg f (by decide)).trans hf0]
  refine lv_if_ne (tgt := 217) hx hb dL_step_210 (by decide) (fun c_210 => ?_) (fun c_210 => ?_)
  · refine lv_iload hx hb dL_step_217 (lv_at hl 5 rfl) ?_
    refine lv_iconst (v := 2) hx hb dL_step_219 (by decide) ?_
    refine lv_idiv hx hb dL_step_220 (by decide) ?_
    rw [div_l (q := 2) (a := b) (b := 2) (by omega) (by decide) (by decide) rfl]
    refine lv_aload_n hx hb dL_step_221 rfl (lv_at hl 7 rfl) ?_
    refine lv_iconst (v := 0) hx hb dL_step_222 (by decide) ?_
    refine m_iald X hK hw h.2.2.1 (i := 0) (by unfold vp_in; decide) dL_step_223 ?_
    rw [show f ((0 : Int32).toNatClampNeg) = nI (zN z 0) from (congrArg f (by decide)).trans hf0]
    have h00 : 0 < zN z 0 := n0_of c_210
    refine lv_irem hx hb dL_step_224 (nI_ne0 h00 (by omega)) ?_
    rw [rem_l (a := (b / 2)) (b := zN z 0) (by omega) (by omega) h00 rfl]
    obtain ⟨q0, eq0⟩ : ∃ q, q = b / 2 % zN z 0 := ⟨_, rfl⟩
    have hq0 : q0 < zN z 0 := by rw [eq0]; exact Nat.mod_lt _ h00
    rw [← eq0]
    refine lv_istore (lv' := [(10, .int (nI q0)), (9, .int (nI (tot fLive i z))), (8, .int (nI nm)), (7, .int (nI j)), (6, .int (nI k)), (5, .int (nI i)), (4, .int (nI b)), (3, .int (nI a)), (1, .ref ca), (0, .ref x)]) hx hb dL_step_225 hl (by decide) rfl (fun ls hl => ?_)
    refine lv_aload_n hx hb dL_step_227 rfl (lv_at hl 8 rfl) ?_
    refine lv_iconst (v := 0) hx hb dL_step_228 (by decide) ?_
    refine m_iald X hK hw h.2.2.1 (i := 0) (by unfold vp_in; decide) dL_step_229 ?_
    rw [show f ((0 : Int32).toNatClampNeg) = nI (zN z 0) from (congrArg f (by decide)).trans hf0]
    refine lv_if_eq (tgt := 245) hx hb dL_step_230 (by decide) (fun c_230 => ?_) (fun c_230 => ?_)
    · exact absurd c_230 (nI_ne0 h00 (by omega))
    · refine lv_aload_n hx hb dL_step_233 rfl (lv_at hl 9 rfl) ?_
      refine lv_iload hx hb dL_step_234 (lv_at hl 5 rfl) ?_
      refine lv_iconst (v := 0) hx hb dL_step_236 (by decide) ?_
      refine lv_iload hx hb dL_step_237 (lv_at hl 0 rfl) ?_
      refine m_callVi X (ci := 7) rfl hx9 hK hw hZ hS hA (As := [.int (nI i), .int 0, .int (nI q0)]) (rest := []) (n_find l G dce _ M hlt x ad ca f (fun a => bm a = false) n w y z h hn hi (k := 0) (by decide) (nI q0)) (cwV 3 hts gL_step_X6_find rfl rfl rfl (by decide +kernel) ⟨Nat.le_of_ble_eq_true rfl, Nat.le_of_ble_eq_true rfl⟩) rfl hl.1 rfl (Nat.le_of_ble_eq_true rfl) dL_step_239 (by dsimp only; omega) (by dsimp only; omega) (fun r42 M41 H locs hp hw hS hz hk => ?_)
      obtain ⟨er1, y1, h1⟩ := hp
      rw [er1]
      obtain ⟨z1, e1⟩ : ∃ zz9, zz9 = kFi i 0 (nI q0) z := ⟨_, rfl⟩
      rw [← e1] at h1
      have hx1 : M41 x = some (.inr (7, [.ref (ad 0), .ref (ad 1), .ref (ad 2), .ref (ad 3)])) := h1.1.1.1
      rw [fi_l h.2.1.1 (h.2.1.n8 (by omega)) hi (by decide) hq0, ← e1]
      obtain ⟨b1, hb1⟩ : ∃ b0, b0 = fLive (zE z1 (sL i 0) q0) := ⟨_, rfl⟩
      rw [← hb1]
      have hj1 : q0 < zN z1 0 := by rw [e1, kFi_N]; exact hq0
      refine lv_if_ne (tgt := 262) hx hb dL_step_242 (by decide) (fun c_242 => ?_) (fun c_242 => ?_)
      · have hl1 : fLive (zE z1 (sL i 0) q0) = true := by rw [← hb1]; exact bI_t c_242
        refine lv_aload_n hx hb dL_step_262 rfl (lv_at hl 9 rfl) ?_
        refine lv_iload hx hb dL_step_263 (lv_at hl 5 rfl) ?_
        refine m_callVi X (ci := 7) rfl hx1 hK hw hZ hS hA (As := [.int (nI i)]) (rest := []) (n_known l G dce _ M41 hlt x ad ca f (fun a => bm a = false) n w y1 z1 h1 hn hi) (cwV 1 hts gL_step_X6_known rfl rfl rfl (by decide +kernel) ⟨Nat.le_of_ble_eq_true rfl, Nat.le_of_ble_eq_true rfl⟩) rfl hl.1 rfl (Nat.le_of_ble_eq_true rfl) dL_step_265 (by dsimp only; omega) (by dsimp only; omega) (fun r44 M43 H locs hp hw hS hz hk => ?_)
        rw [hp.2] at hw
        rw [hp.1]
        refine lv_istore (lv' := [(9, .int (nI (tot fLive i z1))), (10, .int (nI q0)), (8, .int (nI nm)), (7, .int (nI j)), (6, .int (nI k)), (5, .int (nI i)), (4, .int (nI b)), (3, .int (nI a)), (1, .ref ca), (0, .ref x)]) hx hb dL_step_268 hl (by decide) rfl (fun ls hl => ?_)
        refine lv_aload_n hx hb dL_step_270 rfl (lv_at hl 8 rfl) ?_
        refine lv_iconst (v := 1) hx hb dL_step_271 (by decide) ?_
        refine lv_dup2_11 hx hb dL_step_272 rfl rfl ?_
        refine m_iald X hK hw h1.2.2.1 (i := 1) (by unfold vp_in; decide) dL_step_273 ?_
        rw [show f ((1 : Int32).toNatClampNeg) = nI (zN z 1) from (congrArg f (by decide)).trans hf1]
        refine lv_iconst (v := 1) hx hb dL_step_274 (by decide) ?_
        refine lv_iadd hx hb dL_step_275 ?_
        rw [nI_1]
        rw [← show zN z1 1 = zN z 1 from by rw [e1, kFi_N]]
        refine m_iast X hK hw hS h1.2.2.1 (i := 1) (x := (nI (zN z1 1 + 1))) (by unfold vp_in; decide) dL_step_276 (fun M45 H locs eM45 hw hS => ?_)
        obtain ⟨f2, ef2⟩ : ∃ g : Nat → Int32, g = upd f (1 : Int32).toNatClampNeg (nI (zN z1 1 + 1)) := ⟨_, rfl⟩
        have h2 : LC G dce x ad ca f2 (fun a => bm a = false) n w M45 y1 z1 := LC.c h1 (by rw [ef2]; exact eM45)
        have ic2 : (1 : Int32).toNatClampNeg = 1 := by decide
        have hg1 : f2 1 = (nI (zN z1 1 + 1)) := by rw [ef2, ic2]; exact upd_1 _ _ _
        have hg0 : f2 0 = nI (zN z 0) := by rw [ef2, ic2]; exact (upd_0 _ _ (by decide)).trans hf0
        have hg3 : f2 3 = msk bm := by rw [ef2, ic2]; exact (upd_0 _ _ (by decide)).trans hf3
        have hx2 : M45 x = some (.inr (7, [.ref (ad 0), .ref (ad 1), .ref (ad 2), .ref (ad 3)])) := h2.1.1.1
        refine lv_aload_n hx hb dL_step_277 rfl (lv_at hl 9 rfl) ?_
        refine lv_iload hx hb dL_step_278 (lv_at hl 5 rfl) ?_
        refine lv_iload hx hb dL_step_280 (lv_at hl 2 rfl) ?_
        refine lv_iload hx hb dL_step_282 (lv_at hl 1 rfl) ?_
        refine m_callVi X (ci := 7) rfl hx2 hK hw hZ hS hA (As := [.int (nI i), .int (nI nm), .int (nI q0)]) (rest := []) (n_makeBook l G dce _ M45 hlt x ad ca f2 (fun a => bm a = false) n w y1 z1 h2 hn hi hj1 hl1 (nOK_n (by omega))) (cwV 3 hts gL_step_X6_makeBook rfl rfl rfl (by decide +kernel) ⟨Nat.le_of_ble_eq_true rfl, Nat.le_of_ble_eq_true rfl⟩) rfl hl.1 rfl (Nat.le_of_ble_eq_true rfl) dL_step_284 (by dsimp only; omega) (by dsimp only; omega) (fun r47 M46 H locs hp hw hS hz hk => ?_)
        obtain ⟨er3, y3, h3⟩ := hp
        rw [er3]
        obtain ⟨z3, e3⟩ : ∃ zz9, zz9 = kMk i 1 (nI nm) (nI q0) z1 := ⟨_, rfl⟩
        rw [← e3] at h3
        have hx3 : M46 x = some (.inr (7, [.ref (ad 0), .ref (ad 1), .ref (ad 2), .ref (ad 3)])) := h3.1.1.1
        have hm := mk_e (nm := nI nm) (rf := nI q0) h2.2.1.1 hi (show 1 < 2 by decide)
        rw [← e3] at hm
        have hkn : tot fLive i z3 = tot fLive i z1 + 1 := by rw [e3]; exact mk_kn h2.2.1.1 hi (by decide)
        have hj3 : zN z1 1 < zN z3 1 := by rw [hm.2.1]; omega
        have hl3 : fLive (zE z3 (sL i 1) (zN z1 1)) = true := by rw [hm.1]; rfl
        have hq3 : q0 < zN z3 0 := by rw [show zN z3 0 = zN z1 0 from hm.2.2.1]; exact hj1
        have hl30 : fLive (zE z3 (sL i 0) q0) = true := by rw [show zE z3 (sL i 0) q0 = zE z1 (sL i 0) q0 from hm.2.2.2 q0]; exact hl1
        refine lv_aload_n hx hb dL_step_287 rfl (lv_at hl 8 rfl) ?_
        refine lv_iconst (v := 1) hx hb dL_step_288 (by decide) ?_
        refine m_iald X hK hw h3.2.2.1 (i := 1) (by unfold vp_in; decide) dL_step_289 ?_
        rw [show f2 ((1 : Int32).toNatClampNeg) = nI (zN z1 1 + 1) from (congrArg f2 (by decide)).trans hg1]
        refine lv_iconst (v := 1) hx hb dL_step_290 (by decide) ?_
        refine lv_isub hx hb dL_step_291 ?_
        rw [nI_pred]
        refine lv_icmp_ne (tgt := 341) hx hb dL_step_292 (by decide) (fun c_292 => ?_) (fun c_292 => ?_)
        · exact (by exfalso; first | exact c_292 rfl | exact c_305 rfl | exact c_322 rfl | exact absurd c_334 (nI_nlt (b := 1) hb9 (by omega)))
        · refine lv_aload_n hx hb dL_step_295 rfl (lv_at hl 9 rfl) ?_
          refine lv_iload hx hb dL_step_296 (lv_at hl 5 rfl) ?_
          refine m_callVi X (ci := 7) rfl hx3 hK hw hZ hS hA (As := [.int (nI i)]) (rest := []) (n_known l G dce _ M46 hlt x ad ca f2 (fun a => bm a = false) (n + 1) (w + 4) y3 z3 h3 (by omega) hi) (cwV 1 hts gL_step_X6_known rfl rfl rfl (by decide +kernel) ⟨Nat.le_of_ble_eq_true rfl, Nat.le_of_ble_eq_true rfl⟩) rfl hl.1 rfl (Nat.le_of_ble_eq_true rfl) dL_step_298 (by dsimp only; omega) (by dsimp only; omega) (fun r49 M48 H locs hp hw hS hz hk => ?_)
          rw [hp.2] at hw
          rw [hp.1]
          rw [hkn]
          refine lv_iload hx hb dL_step_301 (lv_at hl 0 rfl) ?_
          refine lv_iconst (v := 1) hx hb dL_step_303 (by decide) ?_
          refine lv_iadd hx hb dL_step_304 ?_
          rw [nI_1]
          refine lv_icmp_ne (tgt := 341) hx hb dL_step_305 (by decide) (fun c_305 => ?_) (fun c_305 => ?_)
          · exact (by exfalso; first | exact c_292 rfl | exact c_305 rfl | exact c_322 rfl | exact absurd c_334 (nI_nlt (b := 1) hb9 (by omega)))
          · refine lv_aload_n hx hb dL_step_308 rfl (lv_at hl 9 rfl) ?_
            refine lv_iload hx hb dL_step_309 (lv_at hl 5 rfl) ?_
            refine lv_iconst (v := 1) hx hb dL_step_311 (by decide) ?_
            refine lv_aload_n hx hb dL_step_312 rfl (lv_at hl 8 rfl) ?_
            refine lv_iconst (v := 1) hx hb dL_step_313 (by decide) ?_
            refine m_iald X hK hw h3.2.2.1 (i := 1) (by unfold vp_in; decide) dL_step_314 ?_
            rw [show f2 ((1 : Int32).toNatClampNeg) = nI (zN z1 1 + 1) from (congrArg f2 (by decide)).trans hg1]
            refine lv_iconst (v := 1) hx hb dL_step_315 (by decide) ?_
            refine lv_isub hx hb dL_step_316 ?_
            rw [nI_pred]
            refine m_callVi X (ci := 7) rfl hx3 hK hw hZ hS hA (As := [.int (nI i), .int 1, .int (nI (zN z1 1))]) (rest := []) (n_reference l G dce _ M46 hlt x ad ca f2 (fun a => bm a = false) (n + 1) (w + 4) y3 z3 h3 (by omega) hi (k := 1) (by decide) hj3 hl3) (cwV 3 hts gL_step_X6_reference rfl rfl rfl (by decide +kernel) ⟨Nat.le_of_ble_eq_true rfl, Nat.le_of_ble_eq_true rfl⟩) rfl hl.1 rfl (Nat.le_of_ble_eq_true rfl) dL_step_317 (by dsimp only; omega) (by dsimp only; omega) (fun r51 M50 H locs hp hw hS hz hk => ?_)
            rw [hp.2] at hw
            rw [hp.1]
            rw [show eRf (zE z3 (sL i 1) (zN z1 1)) = nI q0 from by rw [hm.1]; rfl]
            refine lv_iload hx hb dL_step_320 (lv_at hl 1 rfl) ?_
            refine lv_icmp_ne (tgt := 341) hx hb dL_step_322 (by decide) (fun c_322 => ?_) (fun c_322 => ?_)
            · exact (by exfalso; first | exact c_292 rfl | exact c_305 rfl | exact c_322 rfl | exact absurd c_334 (nI_nlt (b := 1) hb9 (by omega)))
            · refine lv_aload_n hx hb dL_step_325 rfl (lv_at hl 9 rfl) ?_
              refine lv_iload hx hb dL_step_326 (lv_at hl 5 rfl) ?_
              refine lv_iload hx hb dL_step_328 (lv_at hl 1 rfl) ?_
              refine m_callVi X (ci := 7) rfl hx3 hK hw hZ hS hA (As := [.int (nI i), .int (nI q0)]) (rest := []) (n_books l G dce _ M46 hlt x ad ca f2 (fun a => bm a = false) (n + 1) (w + 4) y3 z3 h3 (by omega) hi hq3 hl30) (cwV 2 hts gL_step_X6_books rfl rfl rfl (by decide +kernel) ⟨Nat.le_of_ble_eq_true rfl, Nat.le_of_ble_eq_true rfl⟩) rfl hl.1 rfl (Nat.le_of_ble_eq_true rfl) dL_step_330 (by dsimp only; omega) (by dsimp only; omega) (fun r53 M52 H locs hp hw hS hz hk => ?_)
              obtain ⟨er4, y4, h4⟩ := hp
              rw [er4]
              obtain ⟨z4, e4⟩ : ∃ zz9, zz9 = itr (kLd i 1 (nI q0)) (zN z3 1) z3 := ⟨_, rfl⟩
              rw [← e4] at h4
              have hx4 : M52 x = some (.inr (7, [.ref (ad 0), .ref (ad 1), .ref (ad 2), .ref (ad 3)])) := h4.1.1.1
              have hb9 := books_1 (a := q0) (c := zN z1 1) hj3 h3.2.1.1 hi (by rw [hm.1]; show ((true && !false) && decide (nI q0 = nI q0)) = true; rw [decide_eq_true rfl]; rfl)
              have hb8 : cnt (fun c => fRefs (zE (itr (kLd i 1 (nI q0)) (zN z3 1) z3) (sL i 1) c) (nI q0)) (zN z3 (sL i 1)) ≤ 1024 := Nat.le_trans (cnt_le _ _) (by rw [h3.2.1.1 i 1 hi (by decide)]; exact (h3.2.1.n8 (by omega)) 1 (by decide))
              obtain ⟨bk, ebk⟩ : ∃ v, v = cnt (fun c => fRefs (zE (itr (kLd i 1 (nI q0)) (zN z3 1) z3) (sL i 1) c) (nI q0)) (zN z3 (sL i 1)) := ⟨_, rfl⟩
              rw [← ebk] at hb8 hb9
              rw [← ebk]
              refine lv_iconst (v := 1) hx hb dL_step_333 (by decide) ?_
              refine lv_icmp_lt (tgt := 341) hx hb dL_step_334 (by decide) (fun c_334 => ?_) (fun c_334 => ?_)
              · exact (by exfalso; first | exact c_292 rfl | exact c_305 rfl | exact c_322 rfl | exact absurd c_334 (nI_nlt (b := 1) hb9 (by omega)))
              · refine lv_iconst (v := 1) hx hb dL_step_337 (by decide) ?_
                refine lv_goto (tgt := 342) hx hb dL_step_338 (by decide) ?_
                exact m_zret X (by decide) hK hw hS (by exact ⟨rfl, y4, z4, f2, bm, h4.mono (fun _ _ q => q) (by omega) (by omega), by rw [e4, itr_N (kLd_N i 1 (nI q0)), show zN z3 0 = zN z1 0 from hm.2.2.1, e1, kFi_N]; exact hg0, by rw [e4, itr_N (kLd_N i 1 (nI q0)), hm.2.1]; exact hg1, hg3, CB.s (by rw [e3]; exact CB.mk (by rw [e1]; exact hcb.s zS.fi) _ _ _ _) (show zS z3 z4 from by rw [e4]; exact zS.it zS.ld _ _)⟩) (by omega) (by omega) dL_step_342
      · refine lv_aload_n hx hb dL_step_245 rfl (lv_at hl 9 rfl) ?_
        refine lv_iload hx hb dL_step_246 (lv_at hl 5 rfl) ?_
        refine lv_iconst (v := 0) hx hb dL_step_248 (by decide) ?_
        refine lv_iconst (v := (-1)) hx hb dL_step_249 (by decide) ?_
        refine m_callVi X (ci := 7) rfl hx1 hK hw hZ hS hA (As := [.int (nI i), .int 0, .int (-1)]) (rest := []) (n_find l G dce _ M41 hlt x ad ca f (fun a => bm a = false) n w y1 z1 h1 hn hi (k := 0) (by decide) (-1)) (cwV 3 hts gL_step_X6_find rfl rfl rfl (by decide +kernel) ⟨Nat.le_of_ble_eq_true rfl, Nat.le_of_ble_eq_true rfl⟩) rfl hl.1 rfl (Nat.le_of_ble_eq_true rfl) dL_step_250 (by dsimp only; omega) (by dsimp only; omega) (fun r55 M54 H locs hp hw hS hz hk => ?_)
        obtain ⟨er2, y2, h2⟩ := hp
        rw [er2]
        obtain ⟨z2, e2⟩ : ∃ zz9, zz9 = kFi i 0 (-1) z1 := ⟨_, rfl⟩
        rw [← e2] at h2
        have hx2 : M54 x = some (.inr (7, [.ref (ad 0), .ref (ad 1), .ref (ad 2), .ref (ad 3)])) := h2.1.1.1
        have ho := fi_out (k := 0) (ky := -1) h1.2.1.1 hi (by decide) (inK_m1 _)
        rw [ho.1] at e2
        rw [ho.1, ho.2, show bI false = (0 : Int32) from rfl]
        refine lv_if_ne (tgt := 260) hx hb dL_step_253 (by decide) (fun c_253 => absurd (by decide) c_253) (fun _ => ?_)
        refine lv_iconst (v := 1) hx hb dL_step_256 (by decide) ?_
        refine lv_goto (tgt := 261) hx hb dL_step_257 (by decide) ?_
        exact m_zret X (by decide) hK hw hS (by exact ⟨rfl, y2, z2, f, bm, h2.mono (fun _ _ q => q) (by omega) (by omega), by rw [((show zS z z2 from (by rw [e2, e1]; exact zS.fi))).1]; exact hf0, by rw [((show zS z z2 from (by rw [e2, e1]; exact zS.fi))).1]; exact hf1, hf3, hcb.s ((show zS z z2 from (by rw [e2, e1]; exact zS.fi)))⟩) (by omega) (by omega) dL_step_261
  · refine lv_iconst (v := 0) hx hb dL_step_213 (by decide) ?_
    refine lv_goto (tgt := 225) hx hb dL_step_214 (by decide) ?_
    refine lv_istore (lv' := [(10, .int 0), (9, .int (nI (tot fLive i z))), (8, .int (nI nm)), (7, .int (nI j)), (6, .int (nI k)), (5, .int (nI i)), (4, .int (nI b)), (3, .int (nI a)), (1, .ref ca), (0, .ref x)]) hx hb dL_step_225 hl (by decide) rfl (fun ls hl => ?_)
    refine lv_aload_n hx hb dL_step_227 rfl (lv_at hl 8 rfl) ?_
    refine lv_iconst (v := 0) hx hb dL_step_228 (by decide) ?_
    refine m_iald X hK hw h.2.2.1 (i := 0) (by unfold vp_in; decide) dL_step_229 ?_
    rw [show f ((0 : Int32).toNatClampNeg) = nI (zN z 0) from (congrArg f (by decide)).trans hf0]
    refine lv_if_eq (tgt := 245) hx hb dL_step_230 (by decide) (fun c_230 => ?_) (fun c_230 => ?_)
    · refine lv_aload_n hx hb dL_step_245 rfl (lv_at hl 9 rfl) ?_
      refine lv_iload hx hb dL_step_246 (lv_at hl 5 rfl) ?_
      refine lv_iconst (v := 0) hx hb dL_step_248 (by decide) ?_
      refine lv_iconst (v := (-1)) hx hb dL_step_249 (by decide) ?_
      refine m_callVi X (ci := 7) rfl hx9 hK hw hZ hS hA (As := [.int (nI i), .int 0, .int (-1)]) (rest := []) (n_find l G dce _ M hlt x ad ca f (fun a => bm a = false) n w y z h hn hi (k := 0) (by decide) (-1)) (cwV 3 hts gL_step_X6_find rfl rfl rfl (by decide +kernel) ⟨Nat.le_of_ble_eq_true rfl, Nat.le_of_ble_eq_true rfl⟩) rfl hl.1 rfl (Nat.le_of_ble_eq_true rfl) dL_step_250 (by dsimp only; omega) (by dsimp only; omega) (fun r57 M56 H locs hp hw hS hz hk => ?_)
      obtain ⟨er1, y1, h1⟩ := hp
      rw [er1]
      obtain ⟨z1, e1⟩ : ∃ zz9, zz9 = kFi i 0 (-1) z := ⟨_, rfl⟩
      rw [← e1] at h1
      have hx1 : M56 x = some (.inr (7, [.ref (ad 0), .ref (ad 1), .ref (ad 2), .ref (ad 3)])) := h1.1.1.1
      have ho := fi_out (k := 0) (ky := -1) h.2.1.1 hi (by decide) (inK_m1 _)
      rw [ho.1] at e1
      rw [ho.1, ho.2, show bI false = (0 : Int32) from rfl]
      refine lv_if_ne (tgt := 260) hx hb dL_step_253 (by decide) (fun c_253 => absurd (by decide) c_253) (fun _ => ?_)
      refine lv_iconst (v := 1) hx hb dL_step_256 (by decide) ?_
      refine lv_goto (tgt := 261) hx hb dL_step_257 (by decide) ?_
      exact m_zret X (by decide) hK hw hS (by exact ⟨rfl, y1, z1, f, bm, h1.mono (fun _ _ q => q) (by omega) (by omega), by rw [((show zS z z1 from (by rw [e1]; exact zS.rf))).1]; exact hf0, by rw [((show zS z z1 from (by rw [e1]; exact zS.rf))).1]; exact hf1, hf3, hcb.s ((show zS z z1 from (by rw [e1]; exact zS.rf)))⟩) (by omega) (by omega) dL_step_261
    · exact absurd c_210 c_230
set_option maxHeartbeats 4000000 in
set_option maxRecDepth 100000 in
theorem st_2 {p : Program} {l : Launch} {e : Env} {s : State} {m : MethodId} {below : List Frame} {meth : Method} {c : Code} {args : Array Value} {G : gG} {dce : Nat} {A : Nat → Prop} {M : gM} (X : cX p s m meth c cL_step 12 (some .boolean) wsL_step RL args) (hK : wK G s) (hZ : wZ dce A s s.heap) (hA : ∀ q : Nat, s.heap.size ≤ q → A q) (hlt : l.stackTraces = false) (x : Nat) (ad : Nat → Nat) (ca : Nat) (f : Nat → Int32) (bm : Nat → Bool) (n w : Nat) (y : cY) (z : cZ) (h : LC G dce x ad ca f (fun a => bm a = false) n w M y z) (hn : n ≤ 511) (hf0 : f 0 = nI (zN z 0)) (hf1 : f 1 = nI (zN z 1)) (hf3 : f 3 = msk bm) (hcb : CB z) (hn2 : n ≤ 55) (hw9 : w ≤ 480) (i k j nm a b : Nat) (hi : i < 3) (hk2 : k < 2) (hj : 0 < zN z k → j < zN z k) (hnm : nm < 50) (ha9 : a < 2 ^ 31) (hb9 : b < 2 ^ 31) {H : Heap} {locs : List Loc} {cells slots : Nat} (hC : cells ≤ 1) (hS9 : slots ≤ 6) {ls : Array Slot} (hw : wd G A M H) (hS : va_S A s.heap H locs) (hl : lv_has ls 12 [(9, .int (nI (tot fLive i z))), (8, .int (nI nm)), (7, .int (nI j)), (6, .int (nI k)), (5, .int (nI i)), (4, .int (nI b)), (3, .int (nI a)), (1, .ref ca), (0, .ref x)]) : W p l e ({ frames := 13, cells := 5000, slots := 30000, locals := 420 }) s m args below meth c H locs cells slots (MQ below (QI G (fun r M' => r = 1 ∧ ∃ (y1 : cY) (z1 : cZ), LSt G dce x ad ca (n + 1) (w + 8) M' y1 z1) A) args s 5000 30000 A) (F0 m 343 ls []) := by
  obtain ⟨hx, hb, hr, hts, hown, hlk, hml⟩ := id X
  have hx9 : M x = some (.inr (7, [.ref (ad 0), .ref (ad 1), .ref (ad 2), .ref (ad 3)])) := h.1.1.1
  have hfk : f k = nI (zN z k) := fk_k hf0 hf1 hk2
  have hz0 : zN z 0 ≤ n := h.2.1.2.1 0 (by omega)
  have hz1 : zN z 1 ≤ n := h.2.1.2.1 1 (by omega)
  have hzk : zN z k ≤ n := h.2.1.2.1 k (by omega)
  refine lv_aload_n hx hb dL_step_343 rfl (lv_at hl 7 rfl) ?_
  refine lv_iload hx hb dL_step_344 (lv_at hl 3 rfl) ?_
  refine m_iald X hK hw h.2.2.1 (i := nI k) (vp_in_nI (by omega) (by decide)) dL_step_346 ?_
  rw [show f (((nI k) : Int32).toNatClampNeg) = nI (zN z k) from (congrArg f (nI_clamp (by omega))).trans hfk]
  refine lv_if_eq (tgt := 378) hx hb dL_step_347 (by decide) (fun c_347 => ?_) (fun c_347 => ?_)
  · refine lv_iconst (v := 1) hx hb dL_step_378 (by decide) ?_
    refine lv_goto (tgt := 383) hx hb dL_step_379 (by decide) ?_
    exact m_zret X (by decide) hK hw hS (by exact ⟨rfl, y, z, f, bm, h.mono (fun _ _ q => q) (by omega) (by omega), by rw [((zS.rf : zS z z)).1]; exact hf0, by rw [((zS.rf : zS z z)).1]; exact hf1, hf3, hcb.s ((zS.rf : zS z z))⟩) (by omega) (by omega) dL_step_383
  · have hj0 : j < zN z k := hj (n0_of c_347)
    refine lv_aload_n hx hb dL_step_350 rfl (lv_at hl 8 rfl) ?_
    refine lv_iload hx hb dL_step_351 (lv_at hl 4 rfl) ?_
    refine lv_iload hx hb dL_step_353 (lv_at hl 3 rfl) ?_
    refine lv_iload hx hb dL_step_355 (lv_at hl 2 rfl) ?_
    refine m_callVi X (ci := 7) rfl hx9 hK hw hZ hS hA (As := [.int (nI i), .int (nI k), .int (nI j)]) (rest := []) (n_find l G dce _ M hlt x ad ca f (fun a => bm a = false) n w y z h hn hi hk2 (nI j)) (cwV 3 hts gL_step_X6_find rfl rfl rfl (by decide +kernel) ⟨Nat.le_of_ble_eq_true rfl, Nat.le_of_ble_eq_true rfl⟩) rfl hl.1 rfl (Nat.le_of_ble_eq_true rfl) dL_step_357 (by dsimp only; omega) (by dsimp only; omega) (fun r42 M41 H locs hp hw hS hz hk => ?_)
    obtain ⟨er1, y1, h1⟩ := hp
    rw [er1]
    obtain ⟨z1, e1⟩ : ∃ zz9, zz9 = kFi i k (nI j) z := ⟨_, rfl⟩
    rw [← e1] at h1
    have hx1 : M41 x = some (.inr (7, [.ref (ad 0), .ref (ad 1), .ref (ad 2), .ref (ad 3)])) := h1.1.1.1
    rw [fi_l h.2.1.1 (h.2.1.n8 (by omega)) hi hk2 hj0, ← e1]
    obtain ⟨b1, hb1⟩ : ∃ b0, b0 = fLive (zE z1 (sL i k) j) := ⟨_, rfl⟩
    rw [← hb1]
    have hj1 : j < zN z1 k := by rw [e1, kFi_N]; exact hj0
    refine lv_if_eq (tgt := 378) hx hb dL_step_360 (by decide) (fun c_360 => ?_) (fun c_360 => ?_)
    · refine lv_iconst (v := 1) hx hb dL_step_378 (by decide) ?_
      refine lv_goto (tgt := 383) hx hb dL_step_379 (by decide) ?_
      exact m_zret X (by decide) hK hw hS (by exact ⟨rfl, y1, z1, f, bm, h1.mono (fun _ _ q => q) (by omega) (by omega), by rw [((show zS z z1 from by rw [e1]; exact zS.fi)).1]; exact hf0, by rw [((show zS z z1 from by rw [e1]; exact zS.fi)).1]; exact hf1, hf3, hcb.s ((show zS z z1 from by rw [e1]; exact zS.fi))⟩) (by omega) (by omega) dL_step_383
    · refine lv_aload_n hx hb dL_step_363 rfl (lv_at hl 8 rfl) ?_
      refine lv_iload hx hb dL_step_364 (lv_at hl 4 rfl) ?_
      refine lv_iload hx hb dL_step_366 (lv_at hl 3 rfl) ?_
      refine lv_iload hx hb dL_step_368 (lv_at hl 2 rfl) ?_
      refine lv_iload hx hb dL_step_370 (lv_at hl 1 rfl) ?_
      have hl1 : fLive (zE z1 (sL i k) j) = true := by rw [← hb1]; exact bI_t c_360
      refine m_callSi X hK hw hZ hS hA (As := [.ref x, .int (nI i), .int (nI k), .int (nI j), .int (nI nm)]) (rest := []) (c_names l G dce _ M41 hlt x ad ca f (fun a => bm a = false) n w y1 z1 h1 hn i k j hi hk2 hj1 hl1 (nI nm) (nOK_n (by omega))) (va_cwS 5 hts gL_step_L_names rfl rfl rfl (by decide +kernel) ⟨Nat.le_of_ble_eq_true rfl, Nat.le_of_ble_eq_true rfl⟩) rfl hl.1 rfl (Nat.le_of_ble_eq_true rfl) dL_step_372 (by dsimp only; omega) (by dsimp only; omega) (fun r44 M43 H locs hp hw hS hz hk => ?_)
      obtain ⟨er2, y2, z2, h2, hs2⟩ := hp
      rw [er2]
      have hs9 : zS z z2 := (show zS z z1 from by rw [e1]; exact zS.fi).tr hs2
      refine lv_if_eq (tgt := 382) hx hb dL_step_375 (by decide) (fun c_375 => absurd c_375 (by decide)) (fun _ => ?_)
      refine lv_iconst (v := 1) hx hb dL_step_378 (by decide) ?_
      refine lv_goto (tgt := 383) hx hb dL_step_379 (by decide) ?_
      exact m_zret X (by decide) hK hw hS (by exact ⟨rfl, y2, z2, f, bm, h2.mono (fun _ _ q => q) (by omega) (by omega), by rw [(hs9).1]; exact hf0, by rw [(hs9).1]; exact hf1, hf3, hcb.s (hs9)⟩) (by omega) (by omega) dL_step_383
set_option maxHeartbeats 4000000 in
set_option maxRecDepth 100000 in
theorem st_3b {p : Program} {l : Launch} {e : Env} {s : State} {m : MethodId} {below : List Frame} {meth : Method} {c : Code} {args : Array Value} {G : gG} {dce : Nat} {A : Nat → Prop} {M : gM} (X : cX p s m meth c cL_step 12 (some .boolean) wsL_step RL args) (hK : wK G s) (hZ : wZ dce A s s.heap) (hA : ∀ q : Nat, s.heap.size ≤ q → A q) (hlt : l.stackTraces = false) (x : Nat) (ad : Nat → Nat) (ca : Nat) (f : Nat → Int32) (bm : Nat → Bool) (n w : Nat) (y : cY) (z : cZ) (h : LC G dce x ad ca f (fun a => bm a = false) n w M y z) (hn : n ≤ 511) (hf0 : f 0 = nI (zN z 0)) (hf1 : f 1 = nI (zN z 1)) (hf3 : f 3 = msk bm) (hcb : CB z) (hn2 : n ≤ 55) (hw9 : w ≤ 480) (i k j nm a b : Nat) (hi : i < 3) (hk2 : k < 2) (hj : 0 < zN z k → j < zN z k) (hnm : nm < 50) (ha9 : a < 2 ^ 31) (hb9 : b < 2 ^ 31) (o9 : Nat) (ho : 0 < zN z (1 - k) → o9 < zN z (1 - k)) {H : Heap} {locs : List Loc} {cells slots : Nat} (hC : cells ≤ 1) (hS9 : slots ≤ 6) {ls : Array Slot} (hw : wd G A M H) (hS : va_S A s.heap H locs) (hl : lv_has ls 12 [(11, .int (nI o9)), (9, .int (nI (tot fLive i z))), (8, .int (nI nm)), (7, .int (nI j)), (6, .int (nI k)), (5, .int (nI i)), (4, .int (nI b)), (3, .int (nI a)), (1, .ref ca), (0, .ref x)]) : W p l e ({ frames := 13, cells := 5000, slots := 30000, locals := 420 }) s m args below meth c H locs cells slots (MQ below (QI G (fun r M' => r = 1 ∧ ∃ (y1 : cY) (z1 : cZ), LSt G dce x ad ca (n + 1) (w + 8) M' y1 z1) A) args s 5000 30000 A) (F0 m 410 ls []) := by
  obtain ⟨hx, hb, hr, hts, hown, hlk, hml⟩ := id X
  have hx9 : M x = some (.inr (7, [.ref (ad 0), .ref (ad 1), .ref (ad 2), .ref (ad 3)])) := h.1.1.1
  have hfk : f k = nI (zN z k) := fk_k hf0 hf1 hk2
  have hz0 : zN z 0 ≤ n := h.2.1.2.1 0 (by omega)
  have hz1 : zN z 1 ≤ n := h.2.1.2.1 1 (by omega)
  have hzk : zN z k ≤ n := h.2.1.2.1 k (by omega)
  refine lv_aload_n hx hb dL_step_410 rfl (lv_at hl 8 rfl) ?_
  refine lv_iconst (v := 0) hx hb dL_step_411 (by decide) ?_
  refine m_iald X hK hw h.2.2.1 (i := 0) (by unfold vp_in; decide) dL_step_412 ?_
  rw [show f ((0 : Int32).toNatClampNeg) = nI (zN z 0) from (congrArg f (by decide)).trans hf0]
  refine lv_if_eq (tgt := 435) hx hb dL_step_413 (by decide) (fun c_413 => ?_) (fun c_413 => ?_)
  · refine lv_aload_n hx hb dL_step_435 rfl (lv_at hl 9 rfl) ?_
    refine lv_iload hx hb dL_step_436 (lv_at hl 5 rfl) ?_
    refine m_callVi X (ci := 7) rfl hx9 hK hw hZ hS hA (As := [.int (nI i)]) (rest := []) (n_known l G dce _ M hlt x ad ca f (fun a => bm a = false) n w y z h hn hi) (cwV 1 hts gL_step_X6_known rfl rfl rfl (by decide +kernel) ⟨Nat.le_of_ble_eq_true rfl, Nat.le_of_ble_eq_true rfl⟩) rfl hl.1 rfl (Nat.le_of_ble_eq_true rfl) dL_step_438 (by dsimp only; omega) (by dsimp only; omega) (fun r42 M41 H locs hp hw hS hz hk => ?_)
    rw [hp.2] at hw
    rw [hp.1]
    refine lv_iload hx hb dL_step_441 (lv_at hl 1 rfl) ?_
    refine lv_icmp_lt (tgt := 450) hx hb dL_step_443 (by decide) (fun c_443 => ?_) (fun c_443 => ?_)
    · exact (by exfalso; (have hb1 := tot_b (f := fLive) h.2.1.1 hi (h.2.1.n8 (by omega)); first | exact nI_nlt (Nat.le_refl _) (by omega) c_443 | (have hc := fi_cnt h.2.1.2.2.1.1 h.2.1.1 (h.2.1.n8 (by omega)) hi hk2 (nI j); rw [← e1] at hc; exact nI_nlt hc.1 (by omega) c_443)))
    · refine lv_iconst (v := 1) hx hb dL_step_446 (by decide) ?_
      refine lv_goto (tgt := 451) hx hb dL_step_447 (by decide) ?_
      exact m_zret X (by decide) hK hw hS (by exact ⟨rfl, y, z, f, bm, h.mono (fun _ _ q => q) (by omega) (by omega), by rw [((zS.rf : zS z z)).1]; exact hf0, by rw [((zS.rf : zS z z)).1]; exact hf1, hf3, hcb.s ((zS.rf : zS z z))⟩) (by omega) (by omega) dL_step_451
  · refine lv_aload_n hx hb dL_step_416 rfl (lv_at hl 8 rfl) ?_
    refine lv_iconst (v := 1) hx hb dL_step_417 (by decide) ?_
    refine m_iald X hK hw h.2.2.1 (i := 1) (by unfold vp_in; decide) dL_step_418 ?_
    rw [show f ((1 : Int32).toNatClampNeg) = nI (zN z 1) from (congrArg f (by decide)).trans hf1]
    refine lv_if_eq (tgt := 435) hx hb dL_step_419 (by decide) (fun c_419 => ?_) (fun c_419 => ?_)
    · refine lv_aload_n hx hb dL_step_435 rfl (lv_at hl 9 rfl) ?_
      refine lv_iload hx hb dL_step_436 (lv_at hl 5 rfl) ?_
      refine m_callVi X (ci := 7) rfl hx9 hK hw hZ hS hA (As := [.int (nI i)]) (rest := []) (n_known l G dce _ M hlt x ad ca f (fun a => bm a = false) n w y z h hn hi) (cwV 1 hts gL_step_X6_known rfl rfl rfl (by decide +kernel) ⟨Nat.le_of_ble_eq_true rfl, Nat.le_of_ble_eq_true rfl⟩) rfl hl.1 rfl (Nat.le_of_ble_eq_true rfl) dL_step_438 (by dsimp only; omega) (by dsimp only; omega) (fun r44 M43 H locs hp hw hS hz hk => ?_)
      rw [hp.2] at hw
      rw [hp.1]
      refine lv_iload hx hb dL_step_441 (lv_at hl 1 rfl) ?_
      refine lv_icmp_lt (tgt := 450) hx hb dL_step_443 (by decide) (fun c_443 => ?_) (fun c_443 => ?_)
      · exact (by exfalso; (have hb1 := tot_b (f := fLive) h.2.1.1 hi (h.2.1.n8 (by omega)); first | exact nI_nlt (Nat.le_refl _) (by omega) c_443 | (have hc := fi_cnt h.2.1.2.2.1.1 h.2.1.1 (h.2.1.n8 (by omega)) hi hk2 (nI j); rw [← e1] at hc; exact nI_nlt hc.1 (by omega) c_443)))
      · refine lv_iconst (v := 1) hx hb dL_step_446 (by decide) ?_
        refine lv_goto (tgt := 451) hx hb dL_step_447 (by decide) ?_
        exact m_zret X (by decide) hK hw hS (by exact ⟨rfl, y, z, f, bm, h.mono (fun _ _ q => q) (by omega) (by omega), by rw [((zS.rf : zS z z)).1]; exact hf0, by rw [((zS.rf : zS z z)).1]; exact hf1, hf3, hcb.s ((zS.rf : zS z z))⟩) (by omega) (by omega) dL_step_451
    · have hj0 : j < zN z k := hj (by rcases (show k = 0 ∨ k = 1 by omega) with r | r <;> rw [r]; exact n0_of c_413; exact n0_of c_419)
      have ho0 : o9 < zN z (1 - k) := ho (by rcases (show k = 0 ∨ k = 1 by omega) with r | r <;> rw [r]; exact n0_of c_419; exact n0_of c_413)
      refine lv_aload_n hx hb dL_step_422 rfl (lv_at hl 9 rfl) ?_
      refine lv_iload hx hb dL_step_423 (lv_at hl 5 rfl) ?_
      refine lv_iload hx hb dL_step_425 (lv_at hl 4 rfl) ?_
      refine lv_iload hx hb dL_step_427 (lv_at hl 3 rfl) ?_
      refine m_callVi X (ci := 7) rfl hx9 hK hw hZ hS hA (As := [.int (nI i), .int (nI k), .int (nI j)]) (rest := []) (n_find l G dce _ M hlt x ad ca f (fun a => bm a = false) n w y z h hn hi hk2 (nI j)) (cwV 3 hts gL_step_X6_find rfl rfl rfl (by decide +kernel) ⟨Nat.le_of_ble_eq_true rfl, Nat.le_of_ble_eq_true rfl⟩) rfl hl.1 rfl (Nat.le_of_ble_eq_true rfl) dL_step_429 (by dsimp only; omega) (by dsimp only; omega) (fun r46 M45 H locs hp hw hS hz hk => ?_)
      obtain ⟨er1, y1, h1⟩ := hp
      rw [er1]
      obtain ⟨z1, e1⟩ : ∃ zz9, zz9 = kFi i k (nI j) z := ⟨_, rfl⟩
      rw [← e1] at h1
      have hx1 : M45 x = some (.inr (7, [.ref (ad 0), .ref (ad 1), .ref (ad 2), .ref (ad 3)])) := h1.1.1.1
      rw [fi_l h.2.1.1 (h.2.1.n8 (by omega)) hi hk2 hj0, ← e1]
      obtain ⟨b1, hb1⟩ : ∃ b0, b0 = fLive (zE z1 (sL i k) j) := ⟨_, rfl⟩
      rw [← hb1]
      have hj1 : j < zN z1 k := by rw [e1, kFi_N]; exact hj0
      refine lv_if_ne (tgt := 452) hx hb dL_step_432 (by decide) (fun c_432 => ?_) (fun c_432 => ?_)
      · have hl1 : fLive (zE z1 (sL i k) j) = true := by rw [← hb1]; exact bI_t c_432
        refine lv_aload_n hx hb dL_step_452 rfl (lv_at hl 9 rfl) ?_
        refine lv_iload hx hb dL_step_453 (lv_at hl 5 rfl) ?_
        refine lv_iload hx hb dL_step_455 (lv_at hl 4 rfl) ?_
        refine lv_iload hx hb dL_step_457 (lv_at hl 3 rfl) ?_
        refine lv_iload hx hb dL_step_459 (lv_at hl 4 rfl) ?_
        refine lv_if_ne (tgt := 474) hx hb dL_step_461 (by decide) (fun c_461 => ?_) (fun c_461 => ?_)
        · refine lv_aload_n hx hb dL_step_474 rfl (lv_at hl 9 rfl) ?_
          refine lv_iload hx hb dL_step_475 (lv_at hl 5 rfl) ?_
          refine lv_iconst (v := 1) hx hb dL_step_477 (by decide) ?_
          refine lv_iload hx hb dL_step_478 (lv_at hl 4 rfl) ?_
          refine lv_isub hx hb dL_step_480 ?_
          rw [nI_1s hk2]
          refine lv_iload hx hb dL_step_481 (lv_at hl 0 rfl) ?_
          have ho1 : o9 < zN z1 (1 - k) := by rw [e1, kFi_N]; exact ho0
          refine m_callVi X (ci := 7) rfl hx1 hK hw hZ hS hA (As := [.int (nI i), .int (nI (1 - k)), .int (nI o9)]) (rest := [.int (nI j), .int (nI k), .int (nI i), .ref x]) (n_find l G dce _ M45 hlt x ad ca f (fun a => bm a = false) n w y1 z1 h1 hn hi (show 1 - k < 2 by omega) (nI o9)) (cwV 3 hts gL_step_X6_find rfl rfl rfl (by decide +kernel) ⟨Nat.le_of_ble_eq_true rfl, Nat.le_of_ble_eq_true rfl⟩) rfl hl.1 rfl (Nat.le_of_ble_eq_true rfl) dL_step_483 (by dsimp only; omega) (by dsimp only; omega) (fun r48 M47 H locs hp hw hS hz hk => ?_)
          obtain ⟨er2, y2, h2⟩ := hp
          rw [er2]
          obtain ⟨z2, e2⟩ : ∃ zz9, zz9 = kFi i (1 - k) (nI o9) z1 := ⟨_, rfl⟩
          rw [← e2] at h2
          have hx2 : M47 x = some (.inr (7, [.ref (ad 0), .ref (ad 1), .ref (ad 2), .ref (ad 3)])) := h2.1.1.1
          rw [fi_l h1.2.1.1 (h1.2.1.n8 (by omega)) hi (show 1 - k < 2 by omega) ho1, ← e2]
          obtain ⟨b2, hb2⟩ : ∃ b0, b0 = fLive (zE z2 (sL i (1 - k)) o9) := ⟨_, rfl⟩
          rw [← hb2]
          have hj2 : j < zN z2 k := by rw [e2, kFi_N]; exact hj1
          have ho2 : o9 < zN z2 (1 - k) := by rw [e2, kFi_N]; exact ho1
          have hl2 : fLive (zE z2 (sL i k) j) = true := by rw [e2, fi_o h1.2.1.1 (h1.2.1.n8 (by omega)) hi (show 1 - k < 2 by omega) (nI o9) hk2 (fLive_1 hl1).1]; exact hl1
          refine lv_if_eq (tgt := 494) hx hb dL_step_486 (by decide) (fun c_486 => ?_) (fun c_486 => ?_)
          · refine lv_aload_n hx hb dL_step_494 rfl (lv_at hl 9 rfl) ?_
            refine lv_iload hx hb dL_step_495 (lv_at hl 5 rfl) ?_
            refine lv_iload hx hb dL_step_497 (lv_at hl 4 rfl) ?_
            refine lv_iload hx hb dL_step_499 (lv_at hl 3 rfl) ?_
            refine m_callVi X (ci := 7) rfl hx2 hK hw hZ hS hA (As := [.int (nI i), .int (nI k), .int (nI j)]) (rest := [.int (nI j), .int (nI k), .int (nI i), .ref x]) (n_reference l G dce _ M47 hlt x ad ca f (fun a => bm a = false) n w y2 z2 h2 hn hi hk2 hj2 hl2) (cwV 3 hts gL_step_X6_reference rfl rfl rfl (by decide +kernel) ⟨Nat.le_of_ble_eq_true rfl, Nat.le_of_ble_eq_true rfl⟩) rfl hl.1 rfl (Nat.le_of_ble_eq_true rfl) dL_step_501 (by dsimp only; omega) (by dsimp only; omega) (fun r50 M49 H locs hp hw hS hz hk => ?_)
            rw [hp.2] at hw
            rw [hp.1]
            refine m_callSi X hK hw hZ hS hA (As := [.ref x, .int (nI i), .int (nI k), .int (nI j), .int (eRf (zE z2 (sL i k) j))]) (rest := []) (c_refers l G dce _ M47 hlt x ad ca f (fun a => bm a = false) n w y2 z2 h2 hn i k j hi hk2 hj2 hl2 (eRf (zE z2 (sL i k) j)) (Or.inr (Or.inr rfl))) (va_cwS 5 hts gL_step_L_refers rfl rfl rfl (by decide +kernel) ⟨Nat.le_of_ble_eq_true rfl, Nat.le_of_ble_eq_true rfl⟩) rfl hl.1 rfl (Nat.le_of_ble_eq_true rfl) dL_step_504 (by dsimp only; omega) (by dsimp only; omega) (fun r52 M51 H locs hp hw hS hz hk => ?_)
            obtain ⟨er3, y3, z3, h3, hs3⟩ := hp
            rw [er3]
            have hs9 : zS z z3 := (show zS z z2 from by rw [e2, e1]; exact zS.fi.tr zS.fi).tr hs3
            exact m_zret X (by decide) hK hw hS (by exact ⟨rfl, y3, z3, f, bm, h3.mono (fun _ _ q => q) (by omega) (by omega), by rw [(hs9).1]; exact hf0, by rw [(hs9).1]; exact hf1, hf3, hcb.s (hs9)⟩) (by omega) (by omega) dL_step_507
          · refine lv_iload hx hb dL_step_489 (lv_at hl 0 rfl) ?_
            refine lv_goto (tgt := 504) hx hb dL_step_491 (by decide) ?_
            refine m_callSi X hK hw hZ hS hA (As := [.ref x, .int (nI i), .int (nI k), .int (nI j), .int (nI o9)]) (rest := []) (c_refers l G dce _ M47 hlt x ad ca f (fun a => bm a = false) n w y2 z2 h2 hn i k j hi hk2 hj2 hl2 (nI o9) (Or.inr (Or.inl ⟨o9, ho2, rfl, by rw [← hb2]; exact bI_t c_486⟩))) (va_cwS 5 hts gL_step_L_refers rfl rfl rfl (by decide +kernel) ⟨Nat.le_of_ble_eq_true rfl, Nat.le_of_ble_eq_true rfl⟩) rfl hl.1 rfl (Nat.le_of_ble_eq_true rfl) dL_step_504 (by dsimp only; omega) (by dsimp only; omega) (fun r54 M53 H locs hp hw hS hz hk => ?_)
            obtain ⟨er3, y3, z3, h3, hs3⟩ := hp
            rw [er3]
            have hs9 : zS z z3 := (show zS z z2 from by rw [e2, e1]; exact zS.fi.tr zS.fi).tr hs3
            exact m_zret X (by decide) hK hw hS (by exact ⟨rfl, y3, z3, f, bm, h3.mono (fun _ _ q => q) (by omega) (by omega), by rw [(hs9).1]; exact hf0, by rw [(hs9).1]; exact hf1, hf3, hcb.s (hs9)⟩) (by omega) (by omega) dL_step_507
        · refine lv_iload_n hx hb dL_step_464 rfl (lv_at hl 7 rfl) ?_
          refine lv_iconst (v := 5) hx hb dL_step_465 (by decide) ?_
          refine lv_irem hx hb dL_step_466 (by decide) ?_
          rw [rem_l (q := 5) (a := a) (b := 5) (by omega) (by omega) (by decide) rfl]
          refine lv_if_ne (tgt := 474) hx hb dL_step_467 (by decide) (fun c_467 => ?_) (fun c_467 => ?_)
          · refine lv_aload_n hx hb dL_step_474 rfl (lv_at hl 9 rfl) ?_
            refine lv_iload hx hb dL_step_475 (lv_at hl 5 rfl) ?_
            refine lv_iconst (v := 1) hx hb dL_step_477 (by decide) ?_
            refine lv_iload hx hb dL_step_478 (lv_at hl 4 rfl) ?_
            refine lv_isub hx hb dL_step_480 ?_
            rw [nI_1s hk2]
            refine lv_iload hx hb dL_step_481 (lv_at hl 0 rfl) ?_
            have ho1 : o9 < zN z1 (1 - k) := by rw [e1, kFi_N]; exact ho0
            refine m_callVi X (ci := 7) rfl hx1 hK hw hZ hS hA (As := [.int (nI i), .int (nI (1 - k)), .int (nI o9)]) (rest := [.int (nI j), .int (nI k), .int (nI i), .ref x]) (n_find l G dce _ M45 hlt x ad ca f (fun a => bm a = false) n w y1 z1 h1 hn hi (show 1 - k < 2 by omega) (nI o9)) (cwV 3 hts gL_step_X6_find rfl rfl rfl (by decide +kernel) ⟨Nat.le_of_ble_eq_true rfl, Nat.le_of_ble_eq_true rfl⟩) rfl hl.1 rfl (Nat.le_of_ble_eq_true rfl) dL_step_483 (by dsimp only; omega) (by dsimp only; omega) (fun r56 M55 H locs hp hw hS hz hk => ?_)
            obtain ⟨er2, y2, h2⟩ := hp
            rw [er2]
            obtain ⟨z2, e2⟩ : ∃ zz9, zz9 = kFi i (1 - k) (nI o9) z1 := ⟨_, rfl⟩
            rw [← e2] at h2
            have hx2 : M55 x = some (.inr (7, [.ref (ad 0), .ref (ad 1), .ref (ad 2), .ref (ad 3)])) := h2.1.1.1
            rw [fi_l h1.2.1.1 (h1.2.1.n8 (by omega)) hi (show 1 - k < 2 by omega) ho1, ← e2]
            obtain ⟨b2, hb2⟩ : ∃ b0, b0 = fLive (zE z2 (sL i (1 - k)) o9) := ⟨_, rfl⟩
            rw [← hb2]
            have hj2 : j < zN z2 k := by rw [e2, kFi_N]; exact hj1
            have ho2 : o9 < zN z2 (1 - k) := by rw [e2, kFi_N]; exact ho1
            have hl2 : fLive (zE z2 (sL i k) j) = true := by rw [e2, fi_o h1.2.1.1 (h1.2.1.n8 (by omega)) hi (show 1 - k < 2 by omega) (nI o9) hk2 (fLive_1 hl1).1]; exact hl1
            refine lv_if_eq (tgt := 494) hx hb dL_step_486 (by decide) (fun c_486 => ?_) (fun c_486 => ?_)
            · refine lv_aload_n hx hb dL_step_494 rfl (lv_at hl 9 rfl) ?_
              refine lv_iload hx hb dL_step_495 (lv_at hl 5 rfl) ?_
              refine lv_iload hx hb dL_step_497 (lv_at hl 4 rfl) ?_
              refine lv_iload hx hb dL_step_499 (lv_at hl 3 rfl) ?_
              refine m_callVi X (ci := 7) rfl hx2 hK hw hZ hS hA (As := [.int (nI i), .int (nI k), .int (nI j)]) (rest := [.int (nI j), .int (nI k), .int (nI i), .ref x]) (n_reference l G dce _ M55 hlt x ad ca f (fun a => bm a = false) n w y2 z2 h2 hn hi hk2 hj2 hl2) (cwV 3 hts gL_step_X6_reference rfl rfl rfl (by decide +kernel) ⟨Nat.le_of_ble_eq_true rfl, Nat.le_of_ble_eq_true rfl⟩) rfl hl.1 rfl (Nat.le_of_ble_eq_true rfl) dL_step_501 (by dsimp only; omega) (by dsimp only; omega) (fun r58 M57 H locs hp hw hS hz hk => ?_)
              rw [hp.2] at hw
              rw [hp.1]
              refine m_callSi X hK hw hZ hS hA (As := [.ref x, .int (nI i), .int (nI k), .int (nI j), .int (eRf (zE z2 (sL i k) j))]) (rest := []) (c_refers l G dce _ M55 hlt x ad ca f (fun a => bm a = false) n w y2 z2 h2 hn i k j hi hk2 hj2 hl2 (eRf (zE z2 (sL i k) j)) (Or.inr (Or.inr rfl))) (va_cwS 5 hts gL_step_L_refers rfl rfl rfl (by decide +kernel) ⟨Nat.le_of_ble_eq_true rfl, Nat.le_of_ble_eq_true rfl⟩) rfl hl.1 rfl (Nat.le_of_ble_eq_true rfl) dL_step_504 (by dsimp only; omega) (by dsimp only; omega) (fun r60 M59 H locs hp hw hS hz hk => ?_)
              obtain ⟨er3, y3, z3, h3, hs3⟩ := hp
              rw [er3]
              have hs9 : zS z z3 := (show zS z z2 from by rw [e2, e1]; exact zS.fi.tr zS.fi).tr hs3
              exact m_zret X (by decide) hK hw hS (by exact ⟨rfl, y3, z3, f, bm, h3.mono (fun _ _ q => q) (by omega) (by omega), by rw [(hs9).1]; exact hf0, by rw [(hs9).1]; exact hf1, hf3, hcb.s (hs9)⟩) (by omega) (by omega) dL_step_507
            · refine lv_iload hx hb dL_step_489 (lv_at hl 0 rfl) ?_
              refine lv_goto (tgt := 504) hx hb dL_step_491 (by decide) ?_
              refine m_callSi X hK hw hZ hS hA (As := [.ref x, .int (nI i), .int (nI k), .int (nI j), .int (nI o9)]) (rest := []) (c_refers l G dce _ M55 hlt x ad ca f (fun a => bm a = false) n w y2 z2 h2 hn i k j hi hk2 hj2 hl2 (nI o9) (Or.inr (Or.inl ⟨o9, ho2, rfl, by rw [← hb2]; exact bI_t c_486⟩))) (va_cwS 5 hts gL_step_L_refers rfl rfl rfl (by decide +kernel) ⟨Nat.le_of_ble_eq_true rfl, Nat.le_of_ble_eq_true rfl⟩) rfl hl.1 rfl (Nat.le_of_ble_eq_true rfl) dL_step_504 (by dsimp only; omega) (by dsimp only; omega) (fun r62 M61 H locs hp hw hS hz hk => ?_)
              obtain ⟨er3, y3, z3, h3, hs3⟩ := hp
              rw [er3]
              have hs9 : zS z z3 := (show zS z z2 from by rw [e2, e1]; exact zS.fi.tr zS.fi).tr hs3
              exact m_zret X (by decide) hK hw hS (by exact ⟨rfl, y3, z3, f, bm, h3.mono (fun _ _ q => q) (by omega) (by omega), by rw [(hs9).1]; exact hf0, by rw [(hs9).1]; exact hf1, hf3, hcb.s (hs9)⟩) (by omega) (by omega) dL_step_507
          · refine lv_iconst (v := (-1)) hx hb dL_step_470 (by decide) ?_
            refine lv_goto (tgt := 504) hx hb dL_step_471 (by decide) ?_
            refine m_callSi X hK hw hZ hS hA (As := [.ref x, .int (nI i), .int (nI k), .int (nI j), .int (-1)]) (rest := []) (c_refers l G dce _ M45 hlt x ad ca f (fun a => bm a = false) n w y1 z1 h1 hn i k j hi hk2 hj1 hl1 (-1) (Or.inl ⟨rfl, kd_0 hk2 c_461⟩)) (va_cwS 5 hts gL_step_L_refers rfl rfl rfl (by decide +kernel) ⟨Nat.le_of_ble_eq_true rfl, Nat.le_of_ble_eq_true rfl⟩) rfl hl.1 rfl (Nat.le_of_ble_eq_true rfl) dL_step_504 (by dsimp only; omega) (by dsimp only; omega) (fun r64 M63 H locs hp hw hS hz hk => ?_)
            obtain ⟨er2, y2, z2, h2, hs2⟩ := hp
            rw [er2]
            have hs9 : zS z z2 := (show zS z z1 from by rw [e1]; exact zS.fi).tr hs2
            exact m_zret X (by decide) hK hw hS (by exact ⟨rfl, y2, z2, f, bm, h2.mono (fun _ _ q => q) (by omega) (by omega), by rw [(hs9).1]; exact hf0, by rw [(hs9).1]; exact hf1, hf3, hcb.s (hs9)⟩) (by omega) (by omega) dL_step_507
      · refine lv_aload_n hx hb dL_step_435 rfl (lv_at hl 9 rfl) ?_
        refine lv_iload hx hb dL_step_436 (lv_at hl 5 rfl) ?_
        refine m_callVi X (ci := 7) rfl hx1 hK hw hZ hS hA (As := [.int (nI i)]) (rest := []) (n_known l G dce _ M45 hlt x ad ca f (fun a => bm a = false) n w y1 z1 h1 hn hi) (cwV 1 hts gL_step_X6_known rfl rfl rfl (by decide +kernel) ⟨Nat.le_of_ble_eq_true rfl, Nat.le_of_ble_eq_true rfl⟩) rfl hl.1 rfl (Nat.le_of_ble_eq_true rfl) dL_step_438 (by dsimp only; omega) (by dsimp only; omega) (fun r66 M65 H locs hp hw hS hz hk => ?_)
        rw [hp.2] at hw
        rw [hp.1]
        refine lv_iload hx hb dL_step_441 (lv_at hl 1 rfl) ?_
        refine lv_icmp_lt (tgt := 450) hx hb dL_step_443 (by decide) (fun c_443 => ?_) (fun c_443 => ?_)
        · exact (by exfalso; (have hb1 := tot_b (f := fLive) h.2.1.1 hi (h.2.1.n8 (by omega)); first | exact nI_nlt (Nat.le_refl _) (by omega) c_443 | (have hc := fi_cnt h.2.1.2.2.1.1 h.2.1.1 (h.2.1.n8 (by omega)) hi hk2 (nI j); rw [← e1] at hc; exact nI_nlt hc.1 (by omega) c_443)))
        · refine lv_iconst (v := 1) hx hb dL_step_446 (by decide) ?_
          refine lv_goto (tgt := 451) hx hb dL_step_447 (by decide) ?_
          exact m_zret X (by decide) hK hw hS (by exact ⟨rfl, y1, z1, f, bm, h1.mono (fun _ _ q => q) (by omega) (by omega), by rw [((show zS z z1 from by rw [e1]; exact zS.fi)).1]; exact hf0, by rw [((show zS z z1 from by rw [e1]; exact zS.fi)).1]; exact hf1, hf3, hcb.s ((show zS z z1 from by rw [e1]; exact zS.fi))⟩) (by omega) (by omega) dL_step_451
set_option maxHeartbeats 4000000 in
set_option maxRecDepth 100000 in
theorem st_3 {p : Program} {l : Launch} {e : Env} {s : State} {m : MethodId} {below : List Frame} {meth : Method} {c : Code} {args : Array Value} {G : gG} {dce : Nat} {A : Nat → Prop} {M : gM} (X : cX p s m meth c cL_step 12 (some .boolean) wsL_step RL args) (hK : wK G s) (hZ : wZ dce A s s.heap) (hA : ∀ q : Nat, s.heap.size ≤ q → A q) (hlt : l.stackTraces = false) (x : Nat) (ad : Nat → Nat) (ca : Nat) (f : Nat → Int32) (bm : Nat → Bool) (n w : Nat) (y : cY) (z : cZ) (h : LC G dce x ad ca f (fun a => bm a = false) n w M y z) (hn : n ≤ 511) (hf0 : f 0 = nI (zN z 0)) (hf1 : f 1 = nI (zN z 1)) (hf3 : f 3 = msk bm) (hcb : CB z) (hn2 : n ≤ 55) (hw9 : w ≤ 480) (i k j nm a b : Nat) (hi : i < 3) (hk2 : k < 2) (hj : 0 < zN z k → j < zN z k) (hnm : nm < 50) (ha9 : a < 2 ^ 31) (hb9 : b < 2 ^ 31) {H : Heap} {locs : List Loc} {cells slots : Nat} (hC : cells ≤ 1) (hS9 : slots ≤ 6) {ls : Array Slot} (hw : wd G A M H) (hS : va_S A s.heap H locs) (hl : lv_has ls 12 [(9, .int (nI (tot fLive i z))), (8, .int (nI nm)), (7, .int (nI j)), (6, .int (nI k)), (5, .int (nI i)), (4, .int (nI b)), (3, .int (nI a)), (1, .ref ca), (0, .ref x)]) : W p l e ({ frames := 13, cells := 5000, slots := 30000, locals := 420 }) s m args below meth c H locs cells slots (MQ below (QI G (fun r M' => r = 1 ∧ ∃ (y1 : cY) (z1 : cZ), LSt G dce x ad ca (n + 1) (w + 8) M' y1 z1) A) args s 5000 30000 A) (F0 m 384 ls []) := by
  obtain ⟨hx, hb, hr, hts, hown, hlk, hml⟩ := id X
  have hx9 : M x = some (.inr (7, [.ref (ad 0), .ref (ad 1), .ref (ad 2), .ref (ad 3)])) := h.1.1.1
  have hfk : f k = nI (zN z k) := fk_k hf0 hf1 hk2
  have hz0 : zN z 0 ≤ n := h.2.1.2.1 0 (by omega)
  have hz1 : zN z 1 ≤ n := h.2.1.2.1 1 (by omega)
  have hzk : zN z k ≤ n := h.2.1.2.1 k (by omega)
  refine lv_aload_n hx hb dL_step_384 rfl (lv_at hl 7 rfl) ?_
  refine lv_iconst (v := 1) hx hb dL_step_385 (by decide) ?_
  refine lv_iload hx hb dL_step_386 (lv_at hl 3 rfl) ?_
  refine lv_isub hx hb dL_step_388 ?_
  rw [nI_1s hk2]
  refine m_iald X hK hw h.2.2.1 (i := nI (1 - k)) (vp_in_nI (by omega) (by decide)) dL_step_389 ?_
  rw [show f (((nI (1 - k)) : Int32).toNatClampNeg) = nI (zN z (1 - k)) from (congrArg f (nI_clamp (by omega))).trans (fk_k hf0 hf1 (show 1 - k < 2 by omega))]
  refine lv_if_ne (tgt := 397) hx hb dL_step_390 (by decide) (fun c_390 => ?_) (fun c_390 => ?_)
  · refine lv_iload_n hx hb dL_step_397 rfl (lv_at hl 6 rfl) ?_
    refine lv_bipush (v := 8) hx hb dL_step_398 (by decide) ?_
    refine lv_idiv hx hb dL_step_400 (by decide) ?_
    rw [div_l (q := 8) (a := a) (b := 8) (by omega) (by decide) (by decide) rfl]
    refine lv_aload_n hx hb dL_step_401 rfl (lv_at hl 7 rfl) ?_
    refine lv_iconst (v := 1) hx hb dL_step_402 (by decide) ?_
    refine lv_iload hx hb dL_step_403 (lv_at hl 3 rfl) ?_
    refine lv_isub hx hb dL_step_405 ?_
    rw [nI_1s hk2]
    refine m_iald X hK hw h.2.2.1 (i := nI (1 - k)) (vp_in_nI (by omega) (by decide)) dL_step_406 ?_
    rw [show f (((nI (1 - k)) : Int32).toNatClampNeg) = nI (zN z (1 - k)) from (congrArg f (nI_clamp (by omega))).trans (fk_k hf0 hf1 (show 1 - k < 2 by omega))]
    have h00 : 0 < zN z (1 - k) := n0_of c_390
    have hzo : zN z (1 - k) ≤ n := h.2.1.2.1 (1 - k) (by omega)
    refine lv_irem hx hb dL_step_407 (nI_ne0 h00 (by omega)) ?_
    rw [rem_l (a := (a / 8)) (b := zN z (1 - k)) (by omega) (by omega) h00 rfl]
    refine lv_istore (lv' := [(11, .int (nI ((a / 8) % zN z (1 - k)))), (9, .int (nI (tot fLive i z))), (8, .int (nI nm)), (7, .int (nI j)), (6, .int (nI k)), (5, .int (nI i)), (4, .int (nI b)), (3, .int (nI a)), (1, .ref ca), (0, .ref x)]) hx hb dL_step_408 hl (by decide) rfl (fun ls hl => ?_)
    exact st_3b X hK hZ hA hlt x ad ca f bm n w y z h hn hf0 hf1 hf3 hcb hn2 hw9 i k j nm a b hi hk2 hj hnm ha9 hb9 (a / 8 % zN z (1 - k)) (fun q => Nat.mod_lt _ q) hC hS9 hw hS (lv_sub hl [0, 1, 2, 3, 4, 5, 6, 7, 8, 9] rfl)
  · refine lv_iconst (v := 0) hx hb dL_step_393 (by decide) ?_
    refine lv_goto (tgt := 408) hx hb dL_step_394 (by decide) ?_
    refine lv_istore (lv' := [(11, .int 0), (9, .int (nI (tot fLive i z))), (8, .int (nI nm)), (7, .int (nI j)), (6, .int (nI k)), (5, .int (nI i)), (4, .int (nI b)), (3, .int (nI a)), (1, .ref ca), (0, .ref x)]) hx hb dL_step_408 hl (by decide) rfl (fun ls hl => ?_)
    exact st_3b X hK hZ hA hlt x ad ca f bm n w y z h hn hf0 hf1 hf3 hcb hn2 hw9 i k j nm a b hi hk2 hj hnm ha9 hb9 0 (fun q => q) hC hS9 hw hS (lv_sub hl [0, 1, 2, 3, 4, 5, 6, 7, 8, 9] rfl)
set_option maxHeartbeats 4000000 in
set_option maxRecDepth 100000 in
theorem st_4 {p : Program} {l : Launch} {e : Env} {s : State} {m : MethodId} {below : List Frame} {meth : Method} {c : Code} {args : Array Value} {G : gG} {dce : Nat} {A : Nat → Prop} {M : gM} (X : cX p s m meth c cL_step 12 (some .boolean) wsL_step RL args) (hK : wK G s) (hZ : wZ dce A s s.heap) (hA : ∀ q : Nat, s.heap.size ≤ q → A q) (hlt : l.stackTraces = false) (x : Nat) (ad : Nat → Nat) (ca : Nat) (f : Nat → Int32) (bm : Nat → Bool) (n w : Nat) (y : cY) (z : cZ) (h : LC G dce x ad ca f (fun a => bm a = false) n w M y z) (hn : n ≤ 511) (hf0 : f 0 = nI (zN z 0)) (hf1 : f 1 = nI (zN z 1)) (hf3 : f 3 = msk bm) (hcb : CB z) (hn2 : n ≤ 55) (hw9 : w ≤ 480) (i k j nm a b : Nat) (hi : i < 3) (hk2 : k < 2) (hj : 0 < zN z k → j < zN z k) (hnm : nm < 50) (ha9 : a < 2 ^ 31) (hb9 : b < 2 ^ 31) {H : Heap} {locs : List Loc} {cells slots : Nat} (hC : cells ≤ 1) (hS9 : slots ≤ 6) {ls : Array Slot} (hw : wd G A M H) (hS : va_S A s.heap H locs) (hl : lv_has ls 12 [(9, .int (nI (tot fLive i z))), (8, .int (nI nm)), (7, .int (nI j)), (6, .int (nI k)), (5, .int (nI i)), (4, .int (nI b)), (3, .int (nI a)), (1, .ref ca), (0, .ref x)]) : W p l e ({ frames := 13, cells := 5000, slots := 30000, locals := 420 }) s m args below meth c H locs cells slots (MQ below (QI G (fun r M' => r = 1 ∧ ∃ (y1 : cY) (z1 : cZ), LSt G dce x ad ca (n + 1) (w + 8) M' y1 z1) A) args s 5000 30000 A) (F0 m 508 ls []) := by
  obtain ⟨hx, hb, hr, hts, hown, hlk, hml⟩ := id X
  have hx9 : M x = some (.inr (7, [.ref (ad 0), .ref (ad 1), .ref (ad 2), .ref (ad 3)])) := h.1.1.1
  have hfk : f k = nI (zN z k) := fk_k hf0 hf1 hk2
  have hz0 : zN z 0 ≤ n := h.2.1.2.1 0 (by omega)
  have hz1 : zN z 1 ≤ n := h.2.1.2.1 1 (by omega)
  have hzk : zN z k ≤ n := h.2.1.2.1 k (by omega)
  refine lv_iload hx hb dL_step_508 (lv_at hl 5 rfl) ?_
  refine lv_iconst (v := 3) hx hb dL_step_510 (by decide) ?_
  refine lv_irem hx hb dL_step_511 (by decide) ?_
  rw [rem_l (q := 3) (a := b) (b := 3) (by omega) (by omega) (by decide) rfl]
  refine lv_if_gt (tgt := 548) hx hb dL_step_512 (by decide) (fun c_512 => ?_) (fun c_512 => ?_)
  · refine lv_iconst (v := 1) hx hb dL_step_548 (by decide) ?_
    refine lv_goto (tgt := 553) hx hb dL_step_549 (by decide) ?_
    exact m_zret X (by decide) hK hw hS (by exact ⟨rfl, y, z, f, bm, h.mono (fun _ _ q => q) (by omega) (by omega), by rw [((zS.rf : zS z z)).1]; exact hf0, by rw [((zS.rf : zS z z)).1]; exact hf1, hf3, hcb.s ((zS.rf : zS z z))⟩) (by omega) (by omega) dL_step_553
  · refine lv_aload_n hx hb dL_step_515 rfl (lv_at hl 7 rfl) ?_
    refine lv_iload hx hb dL_step_516 (lv_at hl 3 rfl) ?_
    refine m_iald X hK hw h.2.2.1 (i := nI k) (vp_in_nI (by omega) (by decide)) dL_step_518 ?_
    rw [show f (((nI k) : Int32).toNatClampNeg) = nI (zN z k) from (congrArg f (nI_clamp (by omega))).trans hfk]
    refine lv_if_eq (tgt := 548) hx hb dL_step_519 (by decide) (fun c_519 => ?_) (fun c_519 => ?_)
    · refine lv_iconst (v := 1) hx hb dL_step_548 (by decide) ?_
      refine lv_goto (tgt := 553) hx hb dL_step_549 (by decide) ?_
      exact m_zret X (by decide) hK hw hS (by exact ⟨rfl, y, z, f, bm, h.mono (fun _ _ q => q) (by omega) (by omega), by rw [((zS.rf : zS z z)).1]; exact hf0, by rw [((zS.rf : zS z z)).1]; exact hf1, hf3, hcb.s ((zS.rf : zS z z))⟩) (by omega) (by omega) dL_step_553
    · have hj0 : j < zN z k := hj (n0_of c_519)
      refine lv_aload_n hx hb dL_step_522 rfl (lv_at hl 8 rfl) ?_
      refine lv_iload hx hb dL_step_523 (lv_at hl 4 rfl) ?_
      refine lv_iload hx hb dL_step_525 (lv_at hl 3 rfl) ?_
      refine lv_iload hx hb dL_step_527 (lv_at hl 2 rfl) ?_
      refine m_callVi X (ci := 7) rfl hx9 hK hw hZ hS hA (As := [.int (nI i), .int (nI k), .int (nI j)]) (rest := []) (n_find l G dce _ M hlt x ad ca f (fun a => bm a = false) n w y z h hn hi hk2 (nI j)) (cwV 3 hts gL_step_X6_find rfl rfl rfl (by decide +kernel) ⟨Nat.le_of_ble_eq_true rfl, Nat.le_of_ble_eq_true rfl⟩) rfl hl.1 rfl (Nat.le_of_ble_eq_true rfl) dL_step_529 (by dsimp only; omega) (by dsimp only; omega) (fun r42 M41 H locs hp hw hS hz hk => ?_)
      obtain ⟨er1, y1, h1⟩ := hp
      rw [er1]
      obtain ⟨z1, e1⟩ : ∃ zz9, zz9 = kFi i k (nI j) z := ⟨_, rfl⟩
      rw [← e1] at h1
      have hx1 : M41 x = some (.inr (7, [.ref (ad 0), .ref (ad 1), .ref (ad 2), .ref (ad 3)])) := h1.1.1.1
      rw [fi_l h.2.1.1 (h.2.1.n8 (by omega)) hi hk2 hj0, ← e1]
      obtain ⟨b1, hb1⟩ : ∃ b0, b0 = fLive (zE z1 (sL i k) j) := ⟨_, rfl⟩
      rw [← hb1]
      have hj1 : j < zN z1 k := by rw [e1, kFi_N]; exact hj0
      refine lv_if_eq (tgt := 548) hx hb dL_step_532 (by decide) (fun c_532 => ?_) (fun c_532 => ?_)
      · refine lv_iconst (v := 1) hx hb dL_step_548 (by decide) ?_
        refine lv_goto (tgt := 553) hx hb dL_step_549 (by decide) ?_
        exact m_zret X (by decide) hK hw hS (by exact ⟨rfl, y1, z1, f, bm, h1.mono (fun _ _ q => q) (by omega) (by omega), by rw [((show zS z z1 from by rw [e1]; exact zS.fi)).1]; exact hf0, by rw [((show zS z z1 from by rw [e1]; exact zS.fi)).1]; exact hf1, hf3, hcb.s ((show zS z z1 from by rw [e1]; exact zS.fi))⟩) (by omega) (by omega) dL_step_553
      · refine lv_aload_n hx hb dL_step_535 rfl (lv_at hl 8 rfl) ?_
        refine lv_iload hx hb dL_step_536 (lv_at hl 4 rfl) ?_
        refine lv_iload hx hb dL_step_538 (lv_at hl 3 rfl) ?_
        refine lv_iload hx hb dL_step_540 (lv_at hl 2 rfl) ?_
        have hl1 : fLive (zE z1 (sL i k) j) = true := by rw [← hb1]; exact bI_t c_532
        refine m_callSi X hK hw hZ hS hA (As := [.ref x, .int (nI i), .int (nI k), .int (nI j)]) (rest := []) (c_removes l G dce _ M41 hlt x ad ca f (fun a => bm a = false) n w y1 z1 h1 hn i k j hi hk2 hj1 hl1) (va_cwS 4 hts gL_step_L_removes rfl rfl rfl (by decide +kernel) ⟨Nat.le_of_ble_eq_true rfl, Nat.le_of_ble_eq_true rfl⟩) rfl hl.1 rfl (Nat.le_of_ble_eq_true rfl) dL_step_542 (by dsimp only; omega) (by dsimp only; omega) (fun r44 M43 H locs hp hw hS hz hk => ?_)
        obtain ⟨er2, y2, z2, h2, hs2⟩ := hp
        rw [er2]
        have hs9 : zS z z2 := (show zS z z1 from by rw [e1]; exact zS.fi).tr hs2
        refine lv_if_eq (tgt := 552) hx hb dL_step_545 (by decide) (fun c_545 => absurd c_545 (by decide)) (fun _ => ?_)
        refine lv_iconst (v := 1) hx hb dL_step_548 (by decide) ?_
        refine lv_goto (tgt := 553) hx hb dL_step_549 (by decide) ?_
        exact m_zret X (by decide) hK hw hS (by exact ⟨rfl, y2, z2, f, bm, h2.mono (fun _ _ q => q) (by omega) (by omega), by rw [(hs9).1]; exact hf0, by rw [(hs9).1]; exact hf1, hf3, hcb.s (hs9)⟩) (by omega) (by omega) dL_step_553
set_option maxHeartbeats 4000000 in
set_option maxRecDepth 100000 in
theorem st_5 {p : Program} {l : Launch} {e : Env} {s : State} {m : MethodId} {below : List Frame} {meth : Method} {c : Code} {args : Array Value} {G : gG} {dce : Nat} {A : Nat → Prop} {M : gM} (X : cX p s m meth c cL_step 12 (some .boolean) wsL_step RL args) (hK : wK G s) (hZ : wZ dce A s s.heap) (hA : ∀ q : Nat, s.heap.size ≤ q → A q) (hlt : l.stackTraces = false) (x : Nat) (ad : Nat → Nat) (ca : Nat) (f : Nat → Int32) (bm : Nat → Bool) (n w : Nat) (y : cY) (z : cZ) (h : LC G dce x ad ca f (fun a => bm a = false) n w M y z) (hn : n ≤ 511) (hf0 : f 0 = nI (zN z 0)) (hf1 : f 1 = nI (zN z 1)) (hf3 : f 3 = msk bm) (hcb : CB z) (hn2 : n ≤ 55) (hw9 : w ≤ 480) (i k j nm a b : Nat) (hi : i < 3) (hk2 : k < 2) (hj : 0 < zN z k → j < zN z k) (hnm : nm < 50) (ha9 : a < 2 ^ 31) (hb9 : b < 2 ^ 31) {H : Heap} {locs : List Loc} {cells slots : Nat} (hC : cells ≤ 1) (hS9 : slots ≤ 6) {ls : Array Slot} (hw : wd G A M H) (hS : va_S A s.heap H locs) (hl : lv_has ls 12 [(9, .int (nI (tot fLive i z))), (8, .int (nI nm)), (7, .int (nI j)), (6, .int (nI k)), (5, .int (nI i)), (4, .int (nI b)), (3, .int (nI a)), (1, .ref ca), (0, .ref x)]) : W p l e ({ frames := 13, cells := 5000, slots := 30000, locals := 420 }) s m args below meth c H locs cells slots (MQ below (QI G (fun r M' => r = 1 ∧ ∃ (y1 : cY) (z1 : cZ), LSt G dce x ad ca (n + 1) (w + 8) M' y1 z1) A) args s 5000 30000 A) (F0 m 554 ls []) := by
  obtain ⟨hx, hb, hr, hts, hown, hlk, hml⟩ := id X
  have hx9 : M x = some (.inr (7, [.ref (ad 0), .ref (ad 1), .ref (ad 2), .ref (ad 3)])) := h.1.1.1
  have hfk : f k = nI (zN z k) := fk_k hf0 hf1 hk2
  have hz0 : zN z 0 ≤ n := h.2.1.2.1 0 (by omega)
  have hz1 : zN z 1 ≤ n := h.2.1.2.1 1 (by omega)
  have hzk : zN z k ≤ n := h.2.1.2.1 k (by omega)
  refine lv_aload_n hx hb dL_step_554 rfl (lv_at hl 8 rfl) ?_
  refine lv_aload_n hx hb dL_step_555 rfl (lv_at hl 7 rfl) ?_
  refine lv_iload hx hb dL_step_556 (lv_at hl 4 rfl) ?_
  refine m_callSi X hK hw hZ hS hA (As := [.ref x, .ref ca, .int (nI i)]) (rest := []) (c_flushes l G dce _ M hlt x ad ca f bm n w y z h hn hf0 hf1 hf3 hcb hn2 hw9 i hi) (va_cwS 3 hts gL_step_L_flushes rfl rfl rfl (by decide +kernel) ⟨Nat.le_of_ble_eq_true rfl, Nat.le_of_ble_eq_true rfl⟩) rfl hl.1 rfl (Nat.le_of_ble_eq_true rfl) dL_step_558 (by dsimp only; omega) (by dsimp only; omega) (fun r42 M41 H locs hp hw hS hz hk => ?_)
  obtain ⟨er1, y1, z1, f1, bm1, h1, g0, g1, g3, gc⟩ := hp
  rw [er1]
  exact m_zret X (by decide) hK hw hS (by exact ⟨rfl, y1, z1, f1, bm1, h1.mono (fun _ _ q => q) (by omega) (by omega), g0, g1, g3, gc⟩) (by omega) (by omega) dL_step_561
set_option maxHeartbeats 4000000 in
set_option maxRecDepth 100000 in
theorem st_6 {p : Program} {l : Launch} {e : Env} {s : State} {m : MethodId} {below : List Frame} {meth : Method} {c : Code} {args : Array Value} {G : gG} {dce : Nat} {A : Nat → Prop} {M : gM} (X : cX p s m meth c cL_step 12 (some .boolean) wsL_step RL args) (hK : wK G s) (hZ : wZ dce A s s.heap) (hA : ∀ q : Nat, s.heap.size ≤ q → A q) (hlt : l.stackTraces = false) (x : Nat) (ad : Nat → Nat) (ca : Nat) (f : Nat → Int32) (bm : Nat → Bool) (n w : Nat) (y : cY) (z : cZ) (h : LC G dce x ad ca f (fun a => bm a = false) n w M y z) (hn : n ≤ 511) (hf0 : f 0 = nI (zN z 0)) (hf1 : f 1 = nI (zN z 1)) (hf3 : f 3 = msk bm) (hcb : CB z) (hn2 : n ≤ 55) (hw9 : w ≤ 480) (i k j nm a b : Nat) (hi : i < 3) (hk2 : k < 2) (hj : 0 < zN z k → j < zN z k) (hnm : nm < 50) (ha9 : a < 2 ^ 31) (hb9 : b < 2 ^ 31) {H : Heap} {locs : List Loc} {cells slots : Nat} (hC : cells ≤ 1) (hS9 : slots ≤ 6) {ls : Array Slot} (hw : wd G A M H) (hS : va_S A s.heap H locs) (hl : lv_has ls 12 [(9, .int (nI (tot fLive i z))), (8, .int (nI nm)), (7, .int (nI j)), (6, .int (nI k)), (5, .int (nI i)), (4, .int (nI b)), (3, .int (nI a)), (1, .ref ca), (0, .ref x)]) : W p l e ({ frames := 13, cells := 5000, slots := 30000, locals := 420 }) s m args below meth c H locs cells slots (MQ below (QI G (fun r M' => r = 1 ∧ ∃ (y1 : cY) (z1 : cZ), LSt G dce x ad ca (n + 1) (w + 8) M' y1 z1) A) args s 5000 30000 A) (F0 m 562 ls []) := by
  obtain ⟨hx, hb, hr, hts, hown, hlk, hml⟩ := id X
  have hx9 : M x = some (.inr (7, [.ref (ad 0), .ref (ad 1), .ref (ad 2), .ref (ad 3)])) := h.1.1.1
  have hfk : f k = nI (zN z k) := fk_k hf0 hf1 hk2
  have hz0 : zN z 0 ≤ n := h.2.1.2.1 0 (by omega)
  have hz1 : zN z 1 ≤ n := h.2.1.2.1 1 (by omega)
  have hzk : zN z k ≤ n := h.2.1.2.1 k (by omega)
  refine lv_iload hx hb dL_step_562 (lv_at hl 5 rfl) ?_
  refine lv_iconst (v := 4) hx hb dL_step_564 (by decide) ?_
  refine lv_irem hx hb dL_step_565 (by decide) ?_
  rw [rem_l (q := 4) (a := b) (b := 4) (by omega) (by omega) (by decide) rfl]
  refine lv_if_le (tgt := 586) hx hb dL_step_566 (by decide) (fun c_566 => ?_) (fun c_566 => ?_)
  · refine lv_aload_n hx hb dL_step_586 rfl (lv_at hl 7 rfl) ?_
    refine lv_iconst (v := 3) hx hb dL_step_587 (by decide) ?_
    refine lv_dup2_11 hx hb dL_step_588 rfl rfl ?_
    refine m_iald X hK hw h.2.2.1 (i := 3) (by unfold vp_in; decide) dL_step_589 ?_
    rw [show f ((3 : Int32).toNatClampNeg) = msk bm from (congrArg f (by decide)).trans hf3]
    refine lv_iconst (v := 1) hx hb dL_step_590 (by decide) ?_
    refine lv_iload hx hb dL_step_591 (lv_at hl 4 rfl) ?_
    refine lv_ishl hx hb dL_step_593 ?_
    refine lv_iconst (v := (-1)) hx hb dL_step_594 (by decide) ?_
    refine lv_ixor hx hb dL_step_595 ?_
    refine lv_iand hx hb dL_step_596 ?_
    rw [msk_clr hi]
    refine m_iast X hK hw hS h.2.2.1 (i := 3) (x := (msk (bClr bm i))) (by unfold vp_in; decide) dL_step_597 (fun M41 H locs eM41 hw hS => ?_)
    obtain ⟨f1, ef1⟩ : ∃ g : Nat → Int32, g = upd f (3 : Int32).toNatClampNeg (msk (bClr bm i)) := ⟨_, rfl⟩
    have h1 : LC G dce x ad ca f1 (fun a => bm a = false) n w M41 y z := LC.c h (by rw [ef1]; exact eM41)
    have ic1 : (3 : Int32).toNatClampNeg = 3 := by decide
    have hg3 : f1 3 = (msk (bClr bm i)) := by rw [ef1, ic1]; exact upd_1 _ _ _
    have hg0 : f1 0 = nI (zN z 0) := by rw [ef1, ic1]; exact (upd_0 _ _ (by decide)).trans hf0
    have hg1 : f1 1 = nI (zN z 1) := by rw [ef1, ic1]; exact (upd_0 _ _ (by decide)).trans hf1
    have hx1 : M41 x = some (.inr (7, [.ref (ad 0), .ref (ad 1), .ref (ad 2), .ref (ad 3)])) := h1.1.1.1
    refine lv_aload_n hx hb dL_step_598 rfl (lv_at hl 8 rfl) ?_
    refine lv_iload hx hb dL_step_599 (lv_at hl 4 rfl) ?_
    refine m_callVi X (ci := 7) rfl hx1 hK hw hZ hS hA (As := [.int (nI i)]) (rest := []) (n_clear l G dce _ M41 hlt x ad ca f1 (fun a => bm a = false) n w y z h1 hn hi) (cwV 1 hts gL_step_X6_clear rfl rfl rfl (by decide +kernel) ⟨Nat.le_of_ble_eq_true rfl, Nat.le_of_ble_eq_true rfl⟩) rfl hl.1 rfl (Nat.le_of_ble_eq_true rfl) dL_step_601 (by dsimp only; omega) (by dsimp only; omega) (fun r43 M42 H locs hp hw hS hz hk => ?_)
    obtain ⟨er2, y2, h2⟩ := hp
    rw [er2]
    obtain ⟨z2, e2⟩ : ∃ zz9, zz9 = kCr i z := ⟨_, rfl⟩
    rw [← e2] at h2
    have hx2 : M42 x = some (.inr (7, [.ref (ad 0), .ref (ad 1), .ref (ad 2), .ref (ad 3)])) := h2.1.1.1
    refine lv_iload hx hb dL_step_604 (lv_at hl 0 rfl) ?_
    refine lv_icmp_ne (tgt := 640) hx hb dL_step_606 (by decide) (fun c_606 => ?_) (fun c_606 => ?_)
    · exact (by exfalso; first | exact c_606 rfl)
    · refine lv_aload_n hx hb dL_step_609 rfl (lv_at hl 8 rfl) ?_
      refine lv_iload hx hb dL_step_610 (lv_at hl 4 rfl) ?_
      refine m_callVi X (ci := 7) rfl hx2 hK hw hZ hS hA (As := [.int (nI i)]) (rest := []) (n_known l G dce _ M42 hlt x ad ca f1 (fun a => bm a = false ∨ a = i) n w y2 z2 h2 hn hi) (cwV 1 hts gL_step_X6_known rfl rfl rfl (by decide +kernel) ⟨Nat.le_of_ble_eq_true rfl, Nat.le_of_ble_eq_true rfl⟩) rfl hl.1 rfl (Nat.le_of_ble_eq_true rfl) dL_step_612 (by dsimp only; omega) (by dsimp only; omega) (fun r45 M44 H locs hp hw hS hz hk => ?_)
      rw [hp.2] at hw
      rw [hp.1]
      rw [show tot fLive i z2 = 0 from by rw [e2]; exact cr_0 fLive_F h.2.1.1 hi, nI_0]
      refine lv_if_ne (tgt := 640) hx hb dL_step_615 (by decide) (fun c_615 => absurd (by decide) c_615) (fun _ => ?_)
      refine lv_aload_n hx hb dL_step_618 rfl (lv_at hl 8 rfl) ?_
      refine lv_iload hx hb dL_step_619 (lv_at hl 4 rfl) ?_
      refine m_callVi X (ci := 7) rfl hx2 hK hw hZ hS hA (As := [.int (nI i)]) (rest := []) (n_dirty l G dce _ M42 hlt x ad ca f1 (fun a => bm a = false ∨ a = i) n w y2 z2 h2 hn hi) (cwV 1 hts gL_step_X6_dirty rfl rfl rfl (by decide +kernel) ⟨Nat.le_of_ble_eq_true rfl, Nat.le_of_ble_eq_true rfl⟩) rfl hl.1 rfl (Nat.le_of_ble_eq_true rfl) dL_step_621 (by dsimp only; omega) (by dsimp only; omega) (fun r47 M46 H locs hp hw hS hz hk => ?_)
      rw [hp.2] at hw
      rw [hp.1]
      rw [show tot fDy i z2 = 0 from by rw [e2]; exact cr_0 fDy_F h.2.1.1 hi, nI_0]
      refine lv_if_ne (tgt := 640) hx hb dL_step_624 (by decide) (fun c_624 => absurd (by decide) c_624) (fun _ => ?_)
      refine lv_aload_n hx hb dL_step_627 rfl (lv_at hl 8 rfl) ?_
      refine lv_iload hx hb dL_step_628 (lv_at hl 4 rfl) ?_
      have hid : kFl i z2 = z2 := by rw [e2]; exact jE.id (jE.cr h.2.1.1 hi) (cEq_N (kCr_N i z) h.2.1.1) hi
      refine m_callVi X (ci := 7) rfl hx2 hK hw hZ hS hA (As := [.int (nI i)]) (rest := []) (n_flush l G dce _ M42 hlt x ad ca f1 (fun a => bm a = false ∨ a = i) n w y2 z2 h2 hn (by omega) hi (Or.inr rfl) 1000 4100 (by rw [hid]; omega) (by rw [hid]; omega)) (cwV 1 hts gL_step_X6_flush rfl rfl rfl (by decide +kernel) ⟨Nat.le_of_ble_eq_true rfl, Nat.le_of_ble_eq_true rfl⟩) rfl hl.1 rfl (Nat.le_of_ble_eq_true rfl) dL_step_630 (by dsimp only; omega) (by dsimp only; omega) (fun r49 M48 H locs hp hw hS hz hk => ?_)
      obtain ⟨er3, y3, h3⟩ := hp
      rw [er3]
      obtain ⟨z3, e3⟩ : ∃ zz9, zz9 = kFl i z2 := ⟨_, rfl⟩
      rw [← e3] at h3
      have hx3 : M48 x = some (.inr (7, [.ref (ad 0), .ref (ad 1), .ref (ad 2), .ref (ad 3)])) := h3.1.1.1
      rw [hid] at e3
      rw [hid, Nat.sub_self, nI_0]
      refine lv_if_ne (tgt := 640) hx hb dL_step_633 (by decide) (fun c_633 => absurd (by decide) c_633) (fun _ => ?_)
      refine lv_iconst (v := 1) hx hb dL_step_636 (by decide) ?_
      refine lv_goto (tgt := 641) hx hb dL_step_637 (by decide) ?_
      exact m_zret X (by decide) hK hw hS (by refine ⟨rfl, y3, z3, f1, bClr bm i, h3.mono (fun a _ q => ?_) (by omega) (by omega), ?_, ?_, hg3, ?_⟩; (by_cases r : a = i; exact Or.inl r; refine Or.inr ⟨e3, Or.inl ?_⟩; have q9 : (if a = i then false else bm a) = false := q; rw [if_neg r] at q9; exact q9); (rw [e3, e2, kCr_N]; exact hg0); (rw [e3, e2, kCr_N]; exact hg1); (rw [e3, e2]; exact hcb.s zS.cr)) (by omega) (by omega) dL_step_641
  · refine lv_aload_n hx hb dL_step_569 rfl (lv_at hl 8 rfl) ?_
    refine lv_iload hx hb dL_step_570 (lv_at hl 4 rfl) ?_
    refine m_callVi X (ci := 7) rfl hx9 hK hw hZ hS hA (As := [.int (nI i)]) (rest := []) (n_dirty l G dce _ M hlt x ad ca f (fun a => bm a = false) n w y z h hn hi) (cwV 1 hts gL_step_X6_dirty rfl rfl rfl (by decide +kernel) ⟨Nat.le_of_ble_eq_true rfl, Nat.le_of_ble_eq_true rfl⟩) rfl hl.1 rfl (Nat.le_of_ble_eq_true rfl) dL_step_572 (by dsimp only; omega) (by dsimp only; omega) (fun r51 M50 H locs hp hw hS hz hk => ?_)
    rw [hp.2] at hw
    rw [hp.1]
    refine lv_iload hx hb dL_step_575 (lv_at hl 0 rfl) ?_
    refine lv_icmp_gt (tgt := 584) hx hb dL_step_577 (by decide) (fun c_577 => ?_) (fun c_577 => ?_)
    · exact (by exfalso; (have hb1 := tot_b (f := fLive) h.2.1.1 hi (h.2.1.n8 (by omega)); exact nI_nlt dy_kn (by omega) c_577))
    · refine lv_iconst (v := 1) hx hb dL_step_580 (by decide) ?_
      refine lv_goto (tgt := 585) hx hb dL_step_581 (by decide) ?_
      exact m_zret X (by decide) hK hw hS (by exact ⟨rfl, y, z, f, bm, h.mono (fun _ _ q => q) (by omega) (by omega), by rw [((zS.rf : zS z z)).1]; exact hf0, by rw [((zS.rf : zS z z)).1]; exact hf1, hf3, hcb.s ((zS.rf : zS z z))⟩) (by omega) (by omega) dL_step_585
set_option maxHeartbeats 4000000 in
set_option maxRecDepth 100000 in
theorem st_7 {p : Program} {l : Launch} {e : Env} {s : State} {m : MethodId} {below : List Frame} {meth : Method} {c : Code} {args : Array Value} {G : gG} {dce : Nat} {A : Nat → Prop} {M : gM} (X : cX p s m meth c cL_step 12 (some .boolean) wsL_step RL args) (hK : wK G s) (hZ : wZ dce A s s.heap) (hA : ∀ q : Nat, s.heap.size ≤ q → A q) (hlt : l.stackTraces = false) (x : Nat) (ad : Nat → Nat) (ca : Nat) (f : Nat → Int32) (bm : Nat → Bool) (n w : Nat) (y : cY) (z : cZ) (h : LC G dce x ad ca f (fun a => bm a = false) n w M y z) (hn : n ≤ 511) (hf0 : f 0 = nI (zN z 0)) (hf1 : f 1 = nI (zN z 1)) (hf3 : f 3 = msk bm) (hcb : CB z) (hn2 : n ≤ 55) (hw9 : w ≤ 480) (i k j nm a b : Nat) (hi : i < 3) (hk2 : k < 2) (hj : 0 < zN z k → j < zN z k) (hnm : nm < 50) (ha9 : a < 2 ^ 31) (hb9 : b < 2 ^ 31) {H : Heap} {locs : List Loc} {cells slots : Nat} (hC : cells ≤ 1) (hS9 : slots ≤ 6) {ls : Array Slot} (hw : wd G A M H) (hS : va_S A s.heap H locs) (hl : lv_has ls 12 [(9, .int (nI (tot fLive i z))), (8, .int (nI nm)), (7, .int (nI j)), (6, .int (nI k)), (5, .int (nI i)), (4, .int (nI b)), (3, .int (nI a)), (1, .ref ca), (0, .ref x)]) : W p l e ({ frames := 13, cells := 5000, slots := 30000, locals := 420 }) s m args below meth c H locs cells slots (MQ below (QI G (fun r M' => r = 1 ∧ ∃ (y1 : cY) (z1 : cZ), LSt G dce x ad ca (n + 1) (w + 8) M' y1 z1) A) args s 5000 30000 A) (F0 m 642 ls []) := by
  obtain ⟨hx, hb, hr, hts, hown, hlk, hml⟩ := id X
  have hx9 : M x = some (.inr (7, [.ref (ad 0), .ref (ad 1), .ref (ad 2), .ref (ad 3)])) := h.1.1.1
  have hfk : f k = nI (zN z k) := fk_k hf0 hf1 hk2
  have hz0 : zN z 0 ≤ n := h.2.1.2.1 0 (by omega)
  have hz1 : zN z 1 ≤ n := h.2.1.2.1 1 (by omega)
  have hzk : zN z k ≤ n := h.2.1.2.1 k (by omega)
  refine lv_aload_n hx hb dL_step_642 rfl (lv_at hl 7 rfl) ?_
  refine lv_iload hx hb dL_step_643 (lv_at hl 3 rfl) ?_
  refine m_iald X hK hw h.2.2.1 (i := nI k) (vp_in_nI (by omega) (by decide)) dL_step_645 ?_
  rw [show f (((nI k) : Int32).toNatClampNeg) = nI (zN z k) from (congrArg f (nI_clamp (by omega))).trans hfk]
  refine lv_if_eq (tgt := 663) hx hb dL_step_646 (by decide) (fun c_646 => ?_) (fun c_646 => ?_)
  · refine lv_iconst (v := 1) hx hb dL_step_663 (by decide) ?_
    refine lv_goto (tgt := 668) hx hb dL_step_664 (by decide) ?_
    exact m_zret X (by decide) hK hw hS (by exact ⟨rfl, y, z, f, bm, h.mono (fun _ _ q => q) (by omega) (by omega), by rw [((zS.rf : zS z z)).1]; exact hf0, by rw [((zS.rf : zS z z)).1]; exact hf1, hf3, hcb.s ((zS.rf : zS z z))⟩) (by omega) (by omega) dL_step_668
  · refine lv_aload_n hx hb dL_step_649 rfl (lv_at hl 8 rfl) ?_
    refine lv_aload_n hx hb dL_step_650 rfl (lv_at hl 7 rfl) ?_
    refine lv_iload hx hb dL_step_651 (lv_at hl 4 rfl) ?_
    refine lv_iload hx hb dL_step_653 (lv_at hl 3 rfl) ?_
    refine lv_iload hx hb dL_step_655 (lv_at hl 2 rfl) ?_
    have hj0 : j < zN z k := hj (n0_of c_646)
    refine m_callSi X hK hw hZ hS hA (As := [.ref x, .ref ca, .int (nI i), .int (nI k), .int (nI j)]) (rest := []) (c_finds l G dce _ M hlt x ad ca f (fun a => bm a = false) n w y z h hn i k j hi hk2 hj0 hfk) (va_cwS 5 hts gL_step_L_finds rfl rfl rfl (by decide +kernel) ⟨Nat.le_of_ble_eq_true rfl, Nat.le_of_ble_eq_true rfl⟩) rfl hl.1 rfl (Nat.le_of_ble_eq_true rfl) dL_step_657 (by dsimp only; omega) (by dsimp only; omega) (fun r42 M41 H locs hp hw hS hz hk => ?_)
    obtain ⟨er1, y1, z1, h1, hs1⟩ := hp
    rw [er1]
    refine lv_if_eq (tgt := 667) hx hb dL_step_660 (by decide) (fun c_660 => absurd c_660 (by decide)) (fun _ => ?_)
    refine lv_iconst (v := 1) hx hb dL_step_663 (by decide) ?_
    refine lv_goto (tgt := 668) hx hb dL_step_664 (by decide) ?_
    exact m_zret X (by decide) hK hw hS (by exact ⟨rfl, y1, z1, f, bm, h1.mono (fun _ _ q => q) (by omega) (by omega), by rw [(hs1).1]; exact hf0, by rw [(hs1).1]; exact hf1, hf3, hcb.s (hs1)⟩) (by omega) (by omega) dL_step_668
set_option maxHeartbeats 4000000 in
set_option maxRecDepth 100000 in
theorem st_55 {p : Program} {l : Launch} {e : Env} {s : State} {m : MethodId} {below : List Frame} {meth : Method} {c : Code} {args : Array Value} {G : gG} {dce : Nat} {A : Nat → Prop} {M : gM} (X : cX p s m meth c cL_step 12 (some .boolean) wsL_step RL args) (hK : wK G s) (hZ : wZ dce A s s.heap) (hA : ∀ q : Nat, s.heap.size ≤ q → A q) (hlt : l.stackTraces = false) (x : Nat) (ad : Nat → Nat) (ca : Nat) (f : Nat → Int32) (bm : Nat → Bool) (n w : Nat) (y : cY) (z : cZ) (h : LC G dce x ad ca f (fun a => bm a = false) n w M y z) (hn : n ≤ 511) (hf0 : f 0 = nI (zN z 0)) (hf1 : f 1 = nI (zN z 1)) (hf3 : f 3 = msk bm) (hcb : CB z) (hn2 : n ≤ 55) (hw9 : w ≤ 480) (i k j nm a b : Nat) (hi : i < 3) (hk2 : k < 2) (hj : 0 < zN z k → j < zN z k) (hnm : nm < 50) (ha9 : a < 2 ^ 31) (hb9 : b < 2 ^ 31) (t : Nat) (ht9 : t < 2 ^ 31) {H : Heap} {locs : List Loc} {cells slots : Nat} (hC : cells ≤ 0) (hS9 : slots ≤ 0) {ls : Array Slot} (hw : wd G A M H) (hS : va_S A s.heap H locs) (hl : lv_has ls 12 [(8, .int (nI nm)), (7, .int (nI j)), (6, .int (nI k)), (5, .int (nI i)), (4, .int (nI b)), (3, .int (nI a)), (2, .int (nI t)), (1, .ref ca), (0, .ref x)]) : W p l e ({ frames := 13, cells := 5000, slots := 30000, locals := 420 }) s m args below meth c H locs cells slots (MQ below (QI G (fun r M' => r = 1 ∧ ∃ (y1 : cY) (z1 : cZ), LSt G dce x ad ca (n + 1) (w + 8) M' y1 z1) A) args s 5000 30000 A) (F0 m 55 ls []) := by
  obtain ⟨hx, hb, hr, hts, hown, hlk, hml⟩ := id X
  have hx9 : M x = some (.inr (7, [.ref (ad 0), .ref (ad 1), .ref (ad 2), .ref (ad 3)])) := h.1.1.1
  have hfk : f k = nI (zN z k) := fk_k hf0 hf1 hk2
  have hz0 : zN z 0 ≤ n := h.2.1.2.1 0 (by omega)
  have hz1 : zN z 1 ≤ n := h.2.1.2.1 1 (by omega)
  have hzk : zN z k ≤ n := h.2.1.2.1 k (by omega)
  refine lv_aload_n hx hb dL_step_55 rfl (lv_at hl 8 rfl) ?_
  refine lv_iload hx hb dL_step_56 (lv_at hl 3 rfl) ?_
  refine m_callVi X (ci := 7) rfl hx9 hK hw hZ hS hA (As := [.int (nI i)]) (rest := []) (n_known l G dce _ M hlt x ad ca f (fun a => bm a = false) n w y z h hn hi) (cwV 1 hts gL_step_X6_known rfl rfl rfl (by decide +kernel) ⟨Nat.le_of_ble_eq_true rfl, Nat.le_of_ble_eq_true rfl⟩) rfl hl.1 rfl (Nat.le_of_ble_eq_true rfl) dL_step_58 (by dsimp only; omega) (by dsimp only; omega) (fun r42 M41 H locs hp hw hS hz hk => ?_)
  rw [hp.2] at hw
  rw [hp.1]
  refine lv_istore (lv' := [(9, .int (nI (tot fLive i z))), (8, .int (nI nm)), (7, .int (nI j)), (6, .int (nI k)), (5, .int (nI i)), (4, .int (nI b)), (3, .int (nI a)), (2, .int (nI t)), (1, .ref ca), (0, .ref x)]) hx hb dL_step_61 hl (by decide) rfl (fun ls hl => ?_)
  refine lv_iload_n hx hb dL_step_63 rfl (lv_at hl 7 rfl) ?_
  refine lv_bipush (v := 14) hx hb dL_step_64 (by decide) ?_
  refine lv_irem hx hb dL_step_66 (by decide) ?_
  rw [rem_l (q := 14) (a := t) (b := 14) (by omega) (by omega) (by decide) rfl]
  have hl9 : lv_has ls 12 [(9, .int (nI (tot fLive i z))), (8, .int (nI nm)), (7, .int (nI j)), (6, .int (nI k)), (5, .int (nI i)), (4, .int (nI b)), (3, .int (nI a)), (1, .ref ca), (0, .ref x)] := lv_sub hl [0, 1, 2, 3, 4, 5, 6, 8, 9] rfl
  have htt : (nI (t % 14)).toInt = ((t % 14 : Nat) : Int) := nI_toInt (by omega)
  have ht14 : t % 14 < 14 := Nat.mod_lt _ (by decide)
  generalize t % 14 = u at htt ht14 ⊢
  by_cases h13 : u = 13
  · exact lv_tableOut (tgt := 642) hx hb dL_step_67 (Or.inr (by rw [htt]; omega)) (by decide) (st_7 X hK hZ hA hlt x ad ca f bm n w y z h hn hf0 hf1 hf3 hcb hn2 hw9 i k j nm a b hi hk2 hj hnm ha9 hb9 (by omega) (by omega) hw hS hl9)
  rcases (show u = 0 ∨ u = 1 ∨ u = 2 ∨ u = 3 ∨ u = 4 ∨ u = 5 ∨ u = 6 ∨ u = 7 ∨ u = 8 ∨ u = 9 ∨ u = 10 ∨ u = 11 ∨ u = 12 by omega) with rfl | rfl | rfl | rfl | rfl | rfl | rfl | rfl | rfl | rfl | rfl | rfl | rfl
  · exact lv_tableIn (off := 65) (tgt := 132) hx hb dL_step_67 (by rw [htt]; decide) (by rw [htt]; decide) (by rw [htt]; rfl) (by decide) (st_0 X hK hZ hA hlt x ad ca f bm n w y z h hn hf0 hf1 hf3 hcb hn2 hw9 i k j nm a b hi hk2 hj hnm ha9 hb9 (by omega) (by omega) hw hS hl9)
  · exact lv_tableIn (off := 65) (tgt := 132) hx hb dL_step_67 (by rw [htt]; decide) (by rw [htt]; decide) (by rw [htt]; rfl) (by decide) (st_0 X hK hZ hA hlt x ad ca f bm n w y z h hn hf0 hf1 hf3 hcb hn2 hw9 i k j nm a b hi hk2 hj hnm ha9 hb9 (by omega) (by omega) hw hS hl9)
  · exact lv_tableIn (off := 140) (tgt := 207) hx hb dL_step_67 (by rw [htt]; decide) (by rw [htt]; decide) (by rw [htt]; rfl) (by decide) (st_1 X hK hZ hA hlt x ad ca f bm n w y z h hn hf0 hf1 hf3 hcb hn2 hw9 i k j nm a b hi hk2 hj hnm ha9 hb9 (by omega) (by omega) hw hS hl9)
  · exact lv_tableIn (off := 140) (tgt := 207) hx hb dL_step_67 (by rw [htt]; decide) (by rw [htt]; decide) (by rw [htt]; rfl) (by decide) (st_1 X hK hZ hA hlt x ad ca f bm n w y z h hn hf0 hf1 hf3 hcb hn2 hw9 i k j nm a b hi hk2 hj hnm ha9 hb9 (by omega) (by omega) hw hS hl9)
  · exact lv_tableIn (off := 140) (tgt := 207) hx hb dL_step_67 (by rw [htt]; decide) (by rw [htt]; decide) (by rw [htt]; rfl) (by decide) (st_1 X hK hZ hA hlt x ad ca f bm n w y z h hn hf0 hf1 hf3 hcb hn2 hw9 i k j nm a b hi hk2 hj hnm ha9 hb9 (by omega) (by omega) hw hS hl9)
  · exact lv_tableIn (off := 276) (tgt := 343) hx hb dL_step_67 (by rw [htt]; decide) (by rw [htt]; decide) (by rw [htt]; rfl) (by decide) (st_2 X hK hZ hA hlt x ad ca f bm n w y z h hn hf0 hf1 hf3 hcb hn2 hw9 i k j nm a b hi hk2 hj hnm ha9 hb9 (by omega) (by omega) hw hS hl9)
  · exact lv_tableIn (off := 276) (tgt := 343) hx hb dL_step_67 (by rw [htt]; decide) (by rw [htt]; decide) (by rw [htt]; rfl) (by decide) (st_2 X hK hZ hA hlt x ad ca f bm n w y z h hn hf0 hf1 hf3 hcb hn2 hw9 i k j nm a b hi hk2 hj hnm ha9 hb9 (by omega) (by omega) hw hS hl9)
  · exact lv_tableIn (off := 317) (tgt := 384) hx hb dL_step_67 (by rw [htt]; decide) (by rw [htt]; decide) (by rw [htt]; rfl) (by decide) (st_3 X hK hZ hA hlt x ad ca f bm n w y z h hn hf0 hf1 hf3 hcb hn2 hw9 i k j nm a b hi hk2 hj hnm ha9 hb9 (by omega) (by omega) hw hS hl9)
  · exact lv_tableIn (off := 317) (tgt := 384) hx hb dL_step_67 (by rw [htt]; decide) (by rw [htt]; decide) (by rw [htt]; rfl) (by decide) (st_3 X hK hZ hA hlt x ad ca f bm n w y z h hn hf0 hf1 hf3 hcb hn2 hw9 i k j nm a b hi hk2 hj hnm ha9 hb9 (by omega) (by omega) hw hS hl9)
  · exact lv_tableIn (off := 441) (tgt := 508) hx hb dL_step_67 (by rw [htt]; decide) (by rw [htt]; decide) (by rw [htt]; rfl) (by decide) (st_4 X hK hZ hA hlt x ad ca f bm n w y z h hn hf0 hf1 hf3 hcb hn2 hw9 i k j nm a b hi hk2 hj hnm ha9 hb9 (by omega) (by omega) hw hS hl9)
  · exact lv_tableIn (off := 487) (tgt := 554) hx hb dL_step_67 (by rw [htt]; decide) (by rw [htt]; decide) (by rw [htt]; rfl) (by decide) (st_5 X hK hZ hA hlt x ad ca f bm n w y z h hn hf0 hf1 hf3 hcb hn2 hw9 i k j nm a b hi hk2 hj hnm ha9 hb9 (by omega) (by omega) hw hS hl9)
  · exact lv_tableIn (off := 487) (tgt := 554) hx hb dL_step_67 (by rw [htt]; decide) (by rw [htt]; decide) (by rw [htt]; rfl) (by decide) (st_5 X hK hZ hA hlt x ad ca f bm n w y z h hn hf0 hf1 hf3 hcb hn2 hw9 i k j nm a b hi hk2 hj hnm ha9 hb9 (by omega) (by omega) hw hS hl9)
  · exact lv_tableIn (off := 495) (tgt := 562) hx hb dL_step_67 (by rw [htt]; decide) (by rw [htt]; decide) (by rw [htt]; rfl) (by decide) (st_6 X hK hZ hA hlt x ad ca f bm n w y z h hn hf0 hf1 hf3 hcb hn2 hw9 i k j nm a b hi hk2 hj hnm ha9 hb9 (by omega) (by omega) hw hS hl9)
set_option maxHeartbeats 4000000 in
set_option maxRecDepth 100000 in
theorem st_18 {p : Program} {l : Launch} {e : Env} {s : State} {m : MethodId} {below : List Frame} {meth : Method} {c : Code} {args : Array Value} {G : gG} {dce : Nat} {A : Nat → Prop} {M : gM} (X : cX p s m meth c cL_step 12 (some .boolean) wsL_step RL args) (hK : wK G s) (hZ : wZ dce A s s.heap) (hA : ∀ q : Nat, s.heap.size ≤ q → A q) (hlt : l.stackTraces = false) (x : Nat) (ad : Nat → Nat) (ca : Nat) (f : Nat → Int32) (bm : Nat → Bool) (n w : Nat) (y : cY) (z : cZ) (h : LC G dce x ad ca f (fun a => bm a = false) n w M y z) (hn : n ≤ 511) (hf0 : f 0 = nI (zN z 0)) (hf1 : f 1 = nI (zN z 1)) (hf3 : f 3 = msk bm) (hcb : CB z) (hn2 : n ≤ 55) (hw9 : w ≤ 480) (i a b t : Nat) (hi : i < 3) (ha9 : a < 2 ^ 31) (hb9 : b < 2 ^ 31) (ht9 : t < 2 ^ 31) {H : Heap} {locs : List Loc} {cells slots : Nat} (hC : cells ≤ 0) (hS9 : slots ≤ 0) {ls : Array Slot} (hw : wd G A M H) (hS : va_S A s.heap H locs) (hl : lv_has ls 12 [(5, .int (nI i)), (4, .int (nI b)), (3, .int (nI a)), (2, .int (nI t)), (1, .ref ca), (0, .ref x)]) : W p l e ({ frames := 13, cells := 5000, slots := 30000, locals := 420 }) s m args below meth c H locs cells slots (MQ below (QI G (fun r M' => r = 1 ∧ ∃ (y1 : cY) (z1 : cZ), LSt G dce x ad ca (n + 1) (w + 8) M' y1 z1) A) args s 5000 30000 A) (F0 m 18 ls []) := by
  obtain ⟨hx, hb, hr, hts, hown, hlk, hml⟩ := id X
  have hx9 : M x = some (.inr (7, [.ref (ad 0), .ref (ad 1), .ref (ad 2), .ref (ad 3)])) := h.1.1.1
  refine lv_iload hx hb dL_step_18 (lv_at hl 1 rfl) ?_
  refine lv_iconst (v := 2) hx hb dL_step_20 (by decide) ?_
  refine lv_irem hx hb dL_step_21 (by decide) ?_
  rw [rem_l (q := 2) (a := b) (b := 2) (by omega) (by omega) (by decide) rfl]
  obtain ⟨k, ek⟩ : ∃ k, k = b % 2 := ⟨_, rfl⟩
  rw [← ek]
  have hk2 : k < 2 := by omega
  have hfk : f k = nI (zN z k) := fk_k hf0 hf1 hk2
  have hzk : zN z k ≤ n := h.2.1.2.1 k (by omega)
  refine lv_istore (lv' := [(6, .int (nI k)), (5, .int (nI i)), (4, .int (nI b)), (3, .int (nI a)), (2, .int (nI t)), (1, .ref ca), (0, .ref x)]) hx hb dL_step_22 hl (by decide) rfl (fun ls hl => ?_)
  refine lv_aload_n hx hb dL_step_24 rfl (lv_at hl 5 rfl) ?_
  refine lv_iload hx hb dL_step_25 (lv_at hl 0 rfl) ?_
  refine m_iald X hK hw h.2.2.1 (i := nI k) (vp_in_nI (by omega) (by decide)) dL_step_27 ?_
  rw [show f (((nI k) : Int32).toNatClampNeg) = nI (zN z k) from (congrArg f (nI_clamp (by omega))).trans hfk]
  refine lv_if_ne (tgt := 35) hx hb dL_step_28 (by decide) (fun c_28 => ?_) (fun c_28 => ?_)
  · refine lv_iload hx hb dL_step_35 (lv_at hl 2 rfl) ?_
    refine lv_iconst (v := 2) hx hb dL_step_37 (by decide) ?_
    refine lv_idiv hx hb dL_step_38 (by decide) ?_
    rw [div_l (q := 2) (a := b) (b := 2) (by omega) (by decide) (by decide) rfl]
    refine lv_aload_n hx hb dL_step_39 rfl (lv_at hl 5 rfl) ?_
    refine lv_iload hx hb dL_step_40 (lv_at hl 0 rfl) ?_
    refine m_iald X hK hw h.2.2.1 (i := nI k) (vp_in_nI (by omega) (by decide)) dL_step_42 ?_
    rw [show f (((nI k) : Int32).toNatClampNeg) = nI (zN z k) from (congrArg f (nI_clamp (by omega))).trans hfk]
    have h00 : 0 < zN z k := n0_of c_28
    refine lv_irem hx hb dL_step_43 (nI_ne0 h00 (by omega)) ?_
    rw [rem_l (a := (b / 2)) (b := zN z k) (by omega) (by omega) h00 rfl]
    refine lv_istore (lv' := [(7, .int (nI ((b / 2) % zN z k))), (6, .int (nI k)), (5, .int (nI i)), (4, .int (nI b)), (3, .int (nI a)), (2, .int (nI t)), (1, .ref ca), (0, .ref x)]) hx hb dL_step_44 hl (by decide) rfl (fun ls hl => ?_)
    refine lv_iload_n hx hb dL_step_46 rfl (lv_at hl 4 rfl) ?_
    refine lv_bipush (v := 8) hx hb dL_step_47 (by decide) ?_
    refine lv_idiv hx hb dL_step_49 (by decide) ?_
    rw [div_l (q := 8) (a := a) (b := 8) (by omega) (by decide) (by decide) rfl]
    refine lv_bipush (v := 50) hx hb dL_step_50 (by decide) ?_
    refine lv_irem hx hb dL_step_52 (by decide) ?_
    rw [rem_l (q := 50) (a := (a / 8)) (b := 50) (by omega) (by omega) (by decide) rfl]
    refine lv_istore (lv' := [(8, .int (nI ((a / 8) % 50))), (7, .int (nI ((b / 2) % zN z k))), (6, .int (nI k)), (5, .int (nI i)), (4, .int (nI b)), (3, .int (nI a)), (2, .int (nI t)), (1, .ref ca), (0, .ref x)]) hx hb dL_step_53 hl (by decide) rfl (fun ls hl => ?_)
    exact st_55 X hK hZ hA hlt x ad ca f bm n w y z h hn hf0 hf1 hf3 hcb hn2 hw9 i k (b / 2 % zN z k) (a / 8 % 50) a b hi hk2 (fun q => Nat.mod_lt _ q) (Nat.mod_lt _ (by decide)) ha9 hb9 t ht9 hC hS9 hw hS (lv_sub hl [0, 1, 2, 3, 4, 5, 6, 7, 8] rfl)
  · refine lv_iconst (v := 0) hx hb dL_step_31 (by decide) ?_
    refine lv_goto (tgt := 44) hx hb dL_step_32 (by decide) ?_
    refine lv_istore (lv' := [(7, .int 0), (6, .int (nI k)), (5, .int (nI i)), (4, .int (nI b)), (3, .int (nI a)), (2, .int (nI t)), (1, .ref ca), (0, .ref x)]) hx hb dL_step_44 hl (by decide) rfl (fun ls hl => ?_)
    refine lv_iload_n hx hb dL_step_46 rfl (lv_at hl 4 rfl) ?_
    refine lv_bipush (v := 8) hx hb dL_step_47 (by decide) ?_
    refine lv_idiv hx hb dL_step_49 (by decide) ?_
    rw [div_l (q := 8) (a := a) (b := 8) (by omega) (by decide) (by decide) rfl]
    refine lv_bipush (v := 50) hx hb dL_step_50 (by decide) ?_
    refine lv_irem hx hb dL_step_52 (by decide) ?_
    rw [rem_l (q := 50) (a := (a / 8)) (b := 50) (by omega) (by omega) (by decide) rfl]
    refine lv_istore (lv' := [(8, .int (nI ((a / 8) % 50))), (7, .int 0), (6, .int (nI k)), (5, .int (nI i)), (4, .int (nI b)), (3, .int (nI a)), (2, .int (nI t)), (1, .ref ca), (0, .ref x)]) hx hb dL_step_53 hl (by decide) rfl (fun ls hl => ?_)
    exact st_55 X hK hZ hA hlt x ad ca f bm n w y z h hn hf0 hf1 hf3 hcb hn2 hw9 i k 0 (a / 8 % 50) a b hi hk2 (fun q => q) (Nat.mod_lt _ (by decide)) ha9 hb9 t ht9 hC hS9 hw hS (lv_sub hl [0, 1, 2, 3, 4, 5, 6, 7, 8] rfl)
set_option maxHeartbeats 4000000 in
set_option maxRecDepth 100000 in
theorem c_step (l : Launch) (G : gG) (dce sz : Nat) (M : gM) (hlt : l.stackTraces = false) (x : Nat) (ad : Nat → Nat) (ca : Nat) (f : Nat → Int32) (bm : Nat → Bool) (n w : Nat) (y : cY) (z : cZ) (h : LC G dce x ad ca f (fun a => bm a = false) n w M y z) (hn : n ≤ 511) (hf0 : f 0 = nI (zN z 0)) (hf1 : f 1 = nI (zN z 1)) (hf3 : f 3 = msk bm) (hcb : CB z) (hn2 : n ≤ 55) (hw9 : w ≤ 480) (a b t : Nat) (ha9 : a < 2 ^ 31) (hb9 : b < 2 ^ 31) (ht9 : t < 2 ^ 31) : mI l yL_step wsL_step ({ frames := 13, cells := 5000, slots := 30000, locals := 420 }) G dce sz M [.ref x, .ref ca, .int (nI t), .int (nI a), .int (nI b)] (fun r M' => r = 1 ∧ ∃ (y1 : cY) (z1 : cZ), LSt G dce x ad ca (n + 1) (w + 8) M' y1 z1) (5000) (30000) := by
  have hx9 : M x = some (.inr (7, [.ref (ad 0), .ref (ad 1), .ref (ad 2), .ref (ad 3)])) := h.1.1.1
  refine wMet (Qc := QI G _) (cc := cL_step) (maxL := 12) (ret := (some .boolean)) (by decide) rfl (Nat.le_of_ble_eq_true rfl) ?_
  intro p e s m below meth c A ls X hnm hw hK hZ hA hS hsz eA hl
  obtain ⟨hx, hb, hr, hts, hown, hlk, hml⟩ := id X
  have hl : lv_has ls 12 [(0, .ref x), (1, .ref ca), (2, .int (nI t)), (3, .int (nI a)), (4, .int (nI b))] := hl
  refine lv_iload_n hx hb dL_step_0 rfl (lv_at hl 3 rfl) ?_
  refine lv_bipush (v := 8) hx hb dL_step_1 (by decide) ?_
  refine lv_irem hx hb dL_step_3 (by decide) ?_
  rw [rem_l (q := 8) (a := a) (b := 8) (by omega) (by omega) (by decide) rfl]
  refine lv_bipush (v := 6) hx hb dL_step_4 (by decide) ?_
  refine lv_icmp_ge (tgt := 15) hx hb dL_step_6 (by decide) (fun c_6 => ?_) (fun c_6 => ?_)
  · refine lv_iconst (v := 2) hx hb dL_step_15 (by decide) ?_
    refine lv_istore (lv' := [(5, .int 2), (0, .ref x), (1, .ref ca), (2, .int (nI t)), (3, .int (nI a)), (4, .int (nI b))]) hx hb dL_step_16 hl (by decide) rfl (fun ls hl => ?_)
    exact st_18 X hK hZ hA hlt x ad ca f bm n w y z h hn hf0 hf1 hf3 hcb hn2 hw9 2 a b t (by decide) ha9 hb9 ht9 (Nat.le_refl _) (Nat.le_refl _) hw hS (lv_sub hl [0, 5, 4, 3, 2, 1] rfl)
  · refine lv_iload_n hx hb dL_step_9 rfl (lv_at hl 3 rfl) ?_
    refine lv_iconst (v := 2) hx hb dL_step_10 (by decide) ?_
    refine lv_irem hx hb dL_step_11 (by decide) ?_
    rw [rem_l (q := 2) (a := a) (b := 2) (by omega) (by omega) (by decide) rfl]
    refine lv_goto (tgt := 16) hx hb dL_step_12 (by decide) ?_
    refine lv_istore (lv' := [(5, .int (nI (a % 2))), (0, .ref x), (1, .ref ca), (2, .int (nI t)), (3, .int (nI a)), (4, .int (nI b))]) hx hb dL_step_16 hl (by decide) rfl (fun ls hl => ?_)
    exact st_18 X hK hZ hA hlt x ad ca f bm n w y z h hn hf0 hf1 hf3 hcb hn2 hw9 (a % 2) a b t (by omega) ha9 hb9 ht9 (Nat.le_refl _) (Nat.le_refl _) hw hS (lv_sub hl [0, 5, 4, 3, 2, 1] rfl)
