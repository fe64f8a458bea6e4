/-! P23: flushes -/
set_option maxHeartbeats 4000000 in
set_option maxRecDepth 100000 in
theorem c_flushes (l : Launch) (G : gG) (dce sz : Nat) (M : gM) (hlt : l.stackTraces = false) (x : Nat) (ad : Nat → Nat) (ca : Nat) (f : Nat → Int32) (bm : Nat → Bool) (n w : Nat) (y : cY) (z : cZ) (h : LC G dce x ad ca f (fun a => bm a = false) n w M y z) (hn : n ≤ 511) (hf0 : f 0 = nI (zN z 0)) (hf1 : f 1 = nI (zN z 1)) (hf3 : f 3 = msk bm) (hcb : CB z) (hn2 : n ≤ 55) (hw9 : w ≤ 480) (i : Nat) (hi : i < 3) : mI l yL_flushes wsL_flushes ({ frames := 12, cells := 4600, slots := 27000, locals := 300 }) G dce sz M [.ref x, .ref ca, .int (nI i)] (fun r M' => r = 1 ∧ ∃ (y1 : cY) (z1 : cZ), LSt G dce x ad ca (n) (w) M' y1 z1) (4600) (27000) := by
  have hx9 : M x = some (.inr (7, [.ref (ad 0), .ref (ad 1), .ref (ad 2), .ref (ad 3)])) := h.1.1.1
  refine wMet (Qc := QI G _) (cc := cL_flushes) (maxL := 7) (ret := (some .boolean)) (by decide) rfl (Nat.le_of_ble_eq_true rfl) ?_
  intro p e s m below meth c A ls X hnm hw hK hZ hA hS hsz eA hl
  obtain ⟨hx, hb, hr, hts, hown, hlk, hml⟩ := id X
  have hl : lv_has ls 7 [(0, .ref x), (1, .ref ca), (2, .int (nI i))] := hl
  refine lv_aload_n hx hb dL_flushes_0 rfl (lv_at hl 0 rfl) ?_
  refine lv_iload_n hx hb dL_flushes_1 rfl (lv_at hl 2 rfl) ?_
  refine m_callVi X (ci := 7) rfl hx9 hK hw hZ hS hA (As := [.int (nI i)]) (rest := []) (n_dirty l G dce _ M hlt x ad ca f (fun a => bm a = false) n w y z h hn hi) (cwV 1 hts gL_flushes_X6_dirty rfl rfl rfl (by decide +kernel) ⟨Nat.le_of_ble_eq_true rfl, Nat.le_of_ble_eq_true rfl⟩) rfl hl.1 rfl (Nat.le_of_ble_eq_true rfl) dL_flushes_2 (by dsimp only; omega) (by dsimp only; omega) (fun r2 M1 H locs hp hw hS hz hk => ?_)
  rw [hp.2] at hw
  rw [hp.1]
  refine lv_istore_n (lv' := [(3, .int (nI (tot fDy i z))), (0, .ref x), (1, .ref ca), (2, .int (nI i))]) hx hb dL_flushes_5 rfl hl (by decide) rfl (fun ls hl => ?_)
  refine lv_aload_n hx hb dL_flushes_6 rfl (lv_at hl 1 rfl) ?_
  refine m_callVi X (ci := 7) rfl hx9 hK hw hZ hS hA (As := []) (rest := []) (c_writes l G dce _ M x ad y z h.1) (cwV 0 hts gL_flushes_X6_writes rfl rfl rfl (by decide +kernel) ⟨Nat.le_of_ble_eq_true rfl, Nat.le_of_ble_eq_true rfl⟩) rfl hl.1 rfl (Nat.le_of_ble_eq_true rfl) dL_flushes_7 (by dsimp only; omega) (by dsimp only; omega) (fun r4 M3 H locs hp hw hS hz hk => ?_)
  rw [hp.2] at hw
  rw [hp.1]
  refine lv_istore (lv' := [(4, .int (nI (zW z))), (3, .int (nI (tot fDy i z))), (0, .ref x), (1, .ref ca), (2, .int (nI i))]) hx hb dL_flushes_10 hl (by decide) rfl (fun ls hl => ?_)
  refine lv_aload_n hx hb dL_flushes_12 rfl (lv_at hl 2 rfl) ?_
  refine lv_iload_n hx hb dL_flushes_13 rfl (lv_at hl 4 rfl) ?_
  refine m_callVi X (ci := 7) rfl hx9 hK hw hZ hS hA (As := [.int (nI i)]) (rest := []) (n_known l G dce _ M hlt x ad ca f (fun a => bm a = false) n w y z h hn hi) (cwV 1 hts gL_flushes_X6_known rfl rfl rfl (by decide +kernel) ⟨Nat.le_of_ble_eq_true rfl, Nat.le_of_ble_eq_true rfl⟩) rfl hl.1 rfl (Nat.le_of_ble_eq_true rfl) dL_flushes_14 (by dsimp only; omega) (by dsimp only; omega) (fun r6 M5 H locs hp hw hS hz hk => ?_)
  rw [hp.2] at hw
  rw [hp.1]
  refine lv_istore (lv' := [(5, .int (nI (tot fLive i z))), (4, .int (nI (zW z))), (3, .int (nI (tot fDy i z))), (0, .ref x), (1, .ref ca), (2, .int (nI i))]) hx hb dL_flushes_17 hl (by decide) rfl (fun ls hl => ?_)
  refine lv_aload_n hx hb dL_flushes_19 rfl (lv_at hl 4 rfl) ?_
  refine lv_iconst (v := 3) hx hb dL_flushes_20 (by decide) ?_
  refine m_iald X hK hw h.2.2.1 (i := 3) (by unfold vp_in; decide) dL_flushes_21 ?_
  rw [show f ((3 : Int32).toNatClampNeg) = msk bm from (congrArg f (by decide)).trans hf3]
  refine lv_iload_n hx hb dL_flushes_22 rfl (lv_at hl 5 rfl) ?_
  refine lv_ishr hx hb dL_flushes_23 ?_
  refine lv_iconst (v := 1) hx hb dL_flushes_24 (by decide) ?_
  refine lv_iand hx hb dL_flushes_25 ?_
  rw [msk_get hi]
  refine lv_iconst (v := 1) hx hb dL_flushes_26 (by decide) ?_
  refine lv_icmp_ne (tgt := 74) hx hb dL_flushes_27 (by decide) (fun c_27 => ?_) (fun c_27 => ?_)
  · have hbm : bm i = false := by
      cases hb0 : bm i
      · rfl
      · exact absurd (by rw [hb0]; rfl) c_27
    have hfl := h.2.1.fl (by omega) (by omega) hi hbm
    have hC1 : zC (kFl i z) ≤ 960 := hfl.C (hcb.fl i) hw9
    have hdn := fl_dn h.2.1.2.2.1.1 h.2.1.1 hi
    have hjS := (h.2.1.2.2.1.2 i hi hbm).1
    refine lv_aload_n hx hb dL_flushes_74 rfl (lv_at hl 3 rfl) ?_
    refine lv_iload_n hx hb dL_flushes_75 rfl (lv_at hl 5 rfl) ?_
    refine m_callVi X (ci := 7) rfl hx9 hK hw hZ hS hA (As := [.int (nI i)]) (rest := []) (n_flush l G dce _ M hlt x ad ca f (fun a => bm a = false) n w y z h hn (by omega) hi hbm 1000 4100 (by omega) (by omega)) (cwV 1 hts gL_flushes_X6_flush rfl rfl rfl (by decide +kernel) ⟨Nat.le_of_ble_eq_true rfl, Nat.le_of_ble_eq_true rfl⟩) rfl hl.1 rfl (Nat.le_of_ble_eq_true rfl) dL_flushes_76 (by dsimp only; omega) (by dsimp only; omega) (fun r8 M7 H locs hp hw hS hz hk => ?_)
    obtain ⟨er1, y1, h1⟩ := hp
    rw [er1]
    obtain ⟨z1, e1⟩ : ∃ zz9, zz9 = kFl i z := ⟨_, rfl⟩
    rw [← e1] at h1
    have hx1 : M7 x = some (.inr (7, [.ref (ad 0), .ref (ad 1), .ref (ad 2), .ref (ad 3)])) := h1.1.1.1
    rw [← e1]
    rw [← e1] at hdn
    obtain ⟨dn, edn⟩ : ∃ d, d = zW z1 - zW z := ⟨_, rfl⟩
    rw [← edn]
    have hdz : zW z + dn = zW z1 := by omega
    have hwz := h1.2.1.W
    have hE1 : jE i z1 := by rw [e1]; exact jE.of h.2.1.2.2.1.1 hjS h.2.1.1 hi
    have hkn : tot fLive i z1 = tot fLive i z := by rw [e1]; exact fl_kn h.2.1.2.2.1.1 hjS h.2.1.1 hi
    have hcb1 : CB z1 := by rw [e1]; exact hcb.fl i
    have hN1 : zN z1 = zN z := by rw [e1]; exact kFl_N i z
    refine lv_istore (lv' := [(6, .int (nI dn)), (5, .int (nI (tot fLive i z))), (4, .int (nI (zW z))), (3, .int (nI (tot fDy i z))), (0, .ref x), (1, .ref ca), (2, .int (nI i))]) hx hb dL_flushes_79 hl (by decide) rfl (fun ls hl => ?_)
    refine lv_aload_n hx hb dL_flushes_81 rfl (lv_at hl 5 rfl) ?_
    refine lv_iconst (v := 3) hx hb dL_flushes_82 (by decide) ?_
    refine lv_dup2_11 hx hb dL_flushes_83 rfl rfl ?_
    refine m_iald X hK hw h1.2.2.1 (i := 3) (by unfold vp_in; decide) dL_flushes_84 ?_
    rw [show f ((3 : Int32).toNatClampNeg) = msk bm from (congrArg f (by decide)).trans hf3]
    refine lv_iload hx hb dL_flushes_85 (lv_at hl 0 rfl) ?_
    refine lv_if_le (tgt := 101) hx hb dL_flushes_87 (by decide) (fun c_87 => ?_) (fun c_87 => ?_)
    · refine lv_iconst (v := 0) hx hb dL_flushes_101 (by decide) ?_
      refine lv_ior hx hb dL_flushes_102 ?_
      rw [Int32.or_zero]
      refine m_iast X hK hw hS h1.2.2.1 (i := 3) (x := (msk bm)) (by unfold vp_in; decide) dL_flushes_103 (fun M9 H locs eM9 hw hS => ?_)
      obtain ⟨f2, ef2⟩ : ∃ g : Nat → Int32, g = upd f (3 : Int32).toNatClampNeg (msk bm) := ⟨_, rfl⟩
      have h2 : LC G dce x ad ca f2 (fun a => a = i ∨ (z1 = z ∧ bm a = false)) n w M9 y1 z1 := LC.c h1 (by rw [ef2]; exact eM9)
      have ic2 : (3 : Int32).toNatClampNeg = 3 := by decide
      have hg3 : f2 3 = (msk bm) := by rw [ef2, ic2]; exact upd_1 _ _ _
      have hg0 : f2 0 = nI (zN z 0) := by rw [ef2, ic2]; exact (upd_0 _ _ (by decide)).trans hf0
      have hg1 : f2 1 = nI (zN z 1) := by rw [ef2, ic2]; exact (upd_0 _ _ (by decide)).trans hf1
      have hx2 : M9 x = some (.inr (7, [.ref (ad 0), .ref (ad 1), .ref (ad 2), .ref (ad 3)])) := h2.1.1.1
      have hid : kFl i z1 = z1 := jE.id hE1 (cEq_N hN1 h.2.1.1) hi
      refine lv_iload hx hb dL_flushes_104 (lv_at hl 0 rfl) ?_
      refine lv_iload_n hx hb dL_flushes_106 rfl (lv_at hl 3 rfl) ?_
      refine lv_icmp_lt (tgt := 169) hx hb dL_flushes_107 (by decide) (fun c_107 => ?_) (fun c_107 => ?_)
      · exact (by exfalso; first | exact nI_nlt (by omega) (by omega) c_107 | exact c_119 rfl | exact c_129 rfl)
      · refine lv_aload_n hx hb dL_flushes_110 rfl (lv_at hl 4 rfl) ?_
        refine m_callVi X (ci := 7) rfl hx2 hK hw hZ hS hA (As := []) (rest := []) (c_writes l G dce _ M9 x ad y1 z1 h2.1) (cwV 0 hts gL_flushes_X6_writes rfl rfl rfl (by decide +kernel) ⟨Nat.le_of_ble_eq_true rfl, Nat.le_of_ble_eq_true rfl⟩) rfl hl.1 rfl (Nat.le_of_ble_eq_true rfl) dL_flushes_111 (by dsimp only; omega) (by dsimp only; omega) (fun r11 M10 H locs hp hw hS hz hk => ?_)
        rw [hp.2] at hw
        rw [hp.1]
        refine lv_iload hx hb dL_flushes_114 (lv_at hl 2 rfl) ?_
        refine lv_iload hx hb dL_flushes_116 (lv_at hl 0 rfl) ?_
        refine lv_iadd hx hb dL_flushes_118 ?_
        rw [nI_add, hdz]
        refine lv_icmp_ne (tgt := 169) hx hb dL_flushes_119 (by decide) (fun c_119 => ?_) (fun c_119 => ?_)
        · exact (by exfalso; first | exact nI_nlt (by omega) (by omega) c_107 | exact c_119 rfl | exact c_129 rfl)
        · refine lv_aload_n hx hb dL_flushes_122 rfl (lv_at hl 4 rfl) ?_
          refine lv_iload_n hx hb dL_flushes_123 rfl (lv_at hl 6 rfl) ?_
          refine m_callVi X (ci := 7) rfl hx2 hK hw hZ hS hA (As := [.int (nI i)]) (rest := []) (n_known l G dce _ M9 hlt x ad ca f2 (fun a => a = i ∨ (z1 = z ∧ bm a = false)) n w y1 z1 h2 hn hi) (cwV 1 hts gL_flushes_X6_known rfl rfl rfl (by decide +kernel) ⟨Nat.le_of_ble_eq_true rfl, Nat.le_of_ble_eq_true rfl⟩) rfl hl.1 rfl (Nat.le_of_ble_eq_true rfl) dL_flushes_124 (by dsimp only; omega) (by dsimp only; omega) (fun r13 M12 H locs hp hw hS hz hk => ?_)
          rw [hp.2] at hw
          rw [hp.1]
          rw [hkn]
          refine lv_iload hx hb dL_flushes_127 (lv_at hl 1 rfl) ?_
          refine lv_icmp_ne (tgt := 169) hx hb dL_flushes_129 (by decide) (fun c_129 => ?_) (fun c_129 => ?_)
          · exact (by exfalso; first | exact nI_nlt (by omega) (by omega) c_107 | exact c_119 rfl | exact c_129 rfl)
          · refine lv_aload_n hx hb dL_flushes_132 rfl (lv_at hl 4 rfl) ?_
            refine lv_iload_n hx hb dL_flushes_133 rfl (lv_at hl 6 rfl) ?_
            refine m_callVi X (ci := 7) rfl hx2 hK hw hZ hS hA (As := [.int (nI i)]) (rest := []) (n_dirty l G dce _ M9 hlt x ad ca f2 (fun a => a = i ∨ (z1 = z ∧ bm a = false)) n w y1 z1 h2 hn hi) (cwV 1 hts gL_flushes_X6_dirty rfl rfl rfl (by decide +kernel) ⟨Nat.le_of_ble_eq_true rfl, Nat.le_of_ble_eq_true rfl⟩) rfl hl.1 rfl (Nat.le_of_ble_eq_true rfl) dL_flushes_134 (by dsimp only; omega) (by dsimp only; omega) (fun r15 M14 H locs hp hw hS hz hk => ?_)
            rw [hp.2] at hw
            rw [hp.1]
            rw [jE.dy hE1 (cEq_N hN1 h.2.1.1) hi, nI_0]
            refine lv_if_ne (tgt := 169) hx hb dL_flushes_137 (by decide) (fun c_137 => absurd (by decide) c_137) (fun _ => ?_)
            refine lv_aload_n hx hb dL_flushes_140 rfl (lv_at hl 4 rfl) ?_
            refine lv_iload_n hx hb dL_flushes_141 rfl (lv_at hl 6 rfl) ?_
            refine m_callVi X (ci := 7) rfl hx2 hK hw hZ hS hA (As := [.int (nI i)]) (rest := []) (n_flush l G dce _ M9 hlt x ad ca f2 (fun a => a = i ∨ (z1 = z ∧ bm a = false)) n w y1 z1 h2 hn (by omega) hi (Or.inl rfl) 1000 4100 (by rw [hid]; omega) (by rw [hid]; omega)) (cwV 1 hts gL_flushes_X6_flush rfl rfl rfl (by decide +kernel) ⟨Nat.le_of_ble_eq_true rfl, Nat.le_of_ble_eq_true rfl⟩) rfl hl.1 rfl (Nat.le_of_ble_eq_true rfl) dL_flushes_142 (by dsimp only; omega) (by dsimp only; omega) (fun r17 M16 H locs hp hw hS hz hk => ?_)
            obtain ⟨er3, y3, h3⟩ := hp
            rw [er3]
            obtain ⟨z3, e3⟩ : ∃ zz9, zz9 = kFl i z1 := ⟨_, rfl⟩
            rw [← e3] at h3
            have hx3 : M16 x = some (.inr (7, [.ref (ad 0), .ref (ad 1), .ref (ad 2), .ref (ad 3)])) := h3.1.1.1
            rw [hid] at e3
            rw [hid, Nat.sub_self, nI_0]
            have hN3 : zN z3 = zN z := by rw [e3]; exact hN1
            have hg09 : f2 0 = nI (zN z3 0) := by rw [hN3]; exact hg0
            have hg19 : f2 1 = nI (zN z3 1) := by rw [hN3]; exact hg1
            have hE3 : jE i z3 := by rw [e3]; exact hE1
            refine lv_if_ne (tgt := 169) hx hb dL_flushes_145 (by decide) (fun c_145 => absurd (by decide) c_145) (fun _ => ?_)
            refine lv_aload_n hx hb dL_flushes_148 rfl (lv_at hl 4 rfl) ?_
            refine lv_aload_n hx hb dL_flushes_149 rfl (lv_at hl 5 rfl) ?_
            refine m_callSi X hK hw hZ hS hA (As := [.ref x, .ref ca]) (rest := []) (c_areWhole l G dce _ M16 hlt x ad ca f2 (fun a => a = i ∨ (z3 = z1 ∧ (a = i ∨ (z1 = z ∧ bm a = false)))) n w y3 z3 h3 hn hn2 hg09 hg19) (va_cwS 2 hts gL_flushes_L_areWhole rfl rfl rfl (by decide +kernel) ⟨Nat.le_of_ble_eq_true rfl, Nat.le_of_ble_eq_true rfl⟩) rfl hl.1 rfl (Nat.le_of_ble_eq_true rfl) dL_flushes_150 (by dsimp only; omega) (by dsimp only; omega) (fun r19 M18 H locs hp hw hS hz hk => ?_)
            rw [hp.2] at hw
            rw [hp.1]
            refine lv_if_eq (tgt := 169) hx hb dL_flushes_153 (by decide) (fun c_153 => absurd c_153 (by decide)) (fun _ => ?_)
            refine lv_aload_n hx hb dL_flushes_156 rfl (lv_at hl 4 rfl) ?_
            refine lv_aload_n hx hb dL_flushes_157 rfl (lv_at hl 5 rfl) ?_
            refine lv_iload_n hx hb dL_flushes_158 rfl (lv_at hl 6 rfl) ?_
            refine m_callSi X hK hw hZ hS hA (As := [.ref x, .ref ca, .int (nI i)]) (rest := []) (c_areRows l G dce _ M16 hlt x ad ca f2 (fun a => a = i ∨ (z3 = z1 ∧ (a = i ∨ (z1 = z ∧ bm a = false)))) n w y3 z3 h3 hn i hi hE3 hn2 hg09 hg19 (by omega)) (va_cwS 3 hts gL_flushes_L_areRows rfl rfl rfl (by decide +kernel) ⟨Nat.le_of_ble_eq_true rfl, Nat.le_of_ble_eq_true rfl⟩) rfl hl.1 rfl (Nat.le_of_ble_eq_true rfl) dL_flushes_159 (by dsimp only; omega) (by dsimp only; omega) (fun r21 M20 H locs hp hw hS hz hk => ?_)
            obtain ⟨er4, y4, z4, h4, hs4⟩ := hp
            rw [er4]
            have hx4 : M20 x = some (.inr (7, [.ref (ad 0), .ref (ad 1), .ref (ad 2), .ref (ad 3)])) := h4.1.1.1
            refine lv_if_eq (tgt := 169) hx hb dL_flushes_162 (by decide) (fun c_162 => absurd c_162 (by decide)) (fun _ => ?_)
            refine lv_iconst (v := 1) hx hb dL_flushes_165 (by decide) ?_
            refine lv_goto (tgt := 170) hx hb dL_flushes_166 (by decide) ?_
            exact m_zret X (by decide) hK hw hS (by refine ⟨rfl, y4, z4, f2, bm, h4.mono (fun a _ q => ?_) (Nat.le_refl _) (Nat.le_refl _), ?_, ?_, hg3, ?_⟩; (exact Or.inr ⟨e3, Or.inr ⟨(by rw [e1]; exact fl_0 (by rw [← e1]; have h87 : dn = 0 := le0 c_87 (by omega); omega)), q⟩⟩); (rw [hs4.1]; exact hg09); (rw [hs4.1]; exact hg19); (exact CB.s (by rw [e3]; exact hcb1) hs4)) (by omega) (by omega) dL_flushes_170
    · refine lv_bipush (v := 7) hx hb dL_flushes_90 (by decide) ?_
      refine lv_iconst (v := 1) hx hb dL_flushes_92 (by decide) ?_
      refine lv_iload_n hx hb dL_flushes_93 rfl (lv_at hl 6 rfl) ?_
      refine lv_ishl hx hb dL_flushes_94 ?_
      refine lv_iconst (v := (-1)) hx hb dL_flushes_95 (by decide) ?_
      refine lv_ixor hx hb dL_flushes_96 ?_
      refine lv_iand hx hb dL_flushes_97 ?_
      refine lv_goto (tgt := 102) hx hb dL_flushes_98 (by decide) ?_
      refine lv_ior hx hb dL_flushes_102 ?_
      rw [msk_set hi]
      refine m_iast X hK hw hS h1.2.2.1 (i := 3) (x := (msk (bSet bm i))) (by unfold vp_in; decide) dL_flushes_103 (fun M22 H locs eM22 hw hS => ?_)
      obtain ⟨f2, ef2⟩ : ∃ g : Nat → Int32, g = upd f (3 : Int32).toNatClampNeg (msk (bSet bm i)) := ⟨_, rfl⟩
      have h2 : LC G dce x ad ca f2 (fun a => a = i ∨ (z1 = z ∧ bm a = false)) n w M22 y1 z1 := LC.c h1 (by rw [ef2]; exact eM22)
      have ic2 : (3 : Int32).toNatClampNeg = 3 := by decide
      have hg3 : f2 3 = (msk (bSet bm i)) := by rw [ef2, ic2]; exact upd_1 _ _ _
      have hg0 : f2 0 = nI (zN z 0) := by rw [ef2, ic2]; exact (upd_0 _ _ (by decide)).trans hf0
      have hg1 : f2 1 = nI (zN z 1) := by rw [ef2, ic2]; exact (upd_0 _ _ (by decide)).trans hf1
      have hx2 : M22 x = some (.inr (7, [.ref (ad 0), .ref (ad 1), .ref (ad 2), .ref (ad 3)])) := h2.1.1.1
      have hid : kFl i z1 = z1 := jE.id hE1 (cEq_N hN1 h.2.1.1) hi
      refine lv_iload hx hb dL_flushes_104 (lv_at hl 0 rfl) ?_
      refine lv_iload_n hx hb dL_flushes_106 rfl (lv_at hl 3 rfl) ?_
      refine lv_icmp_lt (tgt := 169) hx hb dL_flushes_107 (by decide) (fun c_107 => ?_) (fun c_107 => ?_)
      · exact (by exfalso; first | exact nI_nlt (by omega) (by omega) c_107 | exact c_119 rfl | exact c_129 rfl)
      · refine lv_aload_n hx hb dL_flushes_110 rfl (lv_at hl 4 rfl) ?_
        refine m_callVi X (ci := 7) rfl hx2 hK hw hZ hS hA (As := []) (rest := []) (c_writes l G dce _ M22 x ad y1 z1 h2.1) (cwV 0 hts gL_flushes_X6_writes rfl rfl rfl (by decide +kernel) ⟨Nat.le_of_ble_eq_true rfl, Nat.le_of_ble_eq_true rfl⟩) rfl hl.1 rfl (Nat.le_of_ble_eq_true rfl) dL_flushes_111 (by dsimp only; omega) (by dsimp only; omega) (fun r24 M23 H locs hp hw hS hz hk => ?_)
        rw [hp.2] at hw
        rw [hp.1]
        refine lv_iload hx hb dL_flushes_114 (lv_at hl 2 rfl) ?_
        refine lv_iload hx hb dL_flushes_116 (lv_at hl 0 rfl) ?_
        refine lv_iadd hx hb dL_flushes_118 ?_
        rw [nI_add, hdz]
        refine lv_icmp_ne (tgt := 169) hx hb dL_flushes_119 (by decide) (fun c_119 => ?_) (fun c_119 => ?_)
        · exact (by exfalso; first | exact nI_nlt (by omega) (by omega) c_107 | exact c_119 rfl | exact c_129 rfl)
        · refine lv_aload_n hx hb dL_flushes_122 rfl (lv_at hl 4 rfl) ?_
          refine lv_iload_n hx hb dL_flushes_123 rfl (lv_at hl 6 rfl) ?_
          refine m_callVi X (ci := 7) rfl hx2 hK hw hZ hS hA (As := [.int (nI i)]) (rest := []) (n_known l G dce _ M22 hlt x ad ca f2 (fun a => a = i ∨ (z1 = z ∧ bm a = false)) n w y1 z1 h2 hn hi) (cwV 1 hts gL_flushes_X6_known rfl rfl rfl (by decide +kernel) ⟨Nat.le_of_ble_eq_true rfl, Nat.le_of_ble_eq_true rfl⟩) rfl hl.1 rfl (Nat.le_of_ble_eq_true rfl) dL_flushes_124 (by dsimp only; omega) (by dsimp only; omega) (fun r26 M25 H locs hp hw hS hz hk => ?_)
          rw [hp.2] at hw
          rw [hp.1]
          rw [hkn]
          refine lv_iload hx hb dL_flushes_127 (lv_at hl 1 rfl) ?_
          refine lv_icmp_ne (tgt := 169) hx hb dL_flushes_129 (by decide) (fun c_129 => ?_) (fun c_129 => ?_)
          · exact (by exfalso; first | exact nI_nlt (by omega) (by omega) c_107 | exact c_119 rfl | exact c_129 rfl)
          · refine lv_aload_n hx hb dL_flushes_132 rfl (lv_at hl 4 rfl) ?_
            refine lv_iload_n hx hb dL_flushes_133 rfl (lv_at hl 6 rfl) ?_
            refine m_callVi X (ci := 7) rfl hx2 hK hw hZ hS hA (As := [.int (nI i)]) (rest := []) (n_dirty l G dce _ M22 hlt x ad ca f2 (fun a => a = i ∨ (z1 = z ∧ bm a = false)) n w y1 z1 h2 hn hi) (cwV 1 hts gL_flushes_X6_dirty rfl rfl rfl (by decide +kernel) ⟨Nat.le_of_ble_eq_true rfl, Nat.le_of_ble_eq_true rfl⟩) rfl hl.1 rfl (Nat.le_of_ble_eq_true rfl) dL_flushes_134 (by dsimp only; omega) (by dsimp only; omega) (fun r28 M27 H locs hp hw hS hz hk => ?_)
            rw [hp.2] at hw
            rw [hp.1]
            rw [jE.dy hE1 (cEq_N hN1 h.2.1.1) hi, nI_0]
            refine lv_if_ne (tgt := 169) hx hb dL_flushes_137 (by decide) (fun c_137 => absurd (by decide) c_137) (fun _ => ?_)
            refine lv_aload_n hx hb dL_flushes_140 rfl (lv_at hl 4 rfl) ?_
            refine lv_iload_n hx hb dL_flushes_141 rfl (lv_at hl 6 rfl) ?_
            refine m_callVi X (ci := 7) rfl hx2 hK hw hZ hS hA (As := [.int (nI i)]) (rest := []) (n_flush l G dce _ M22 hlt x ad ca f2 (fun a => a = i ∨ (z1 = z ∧ bm a = false)) n w y1 z1 h2 hn (by omega) hi (Or.inl rfl) 1000 4100 (by rw [hid]; omega) (by rw [hid]; omega)) (cwV 1 hts gL_flushes_X6_flush rfl rfl rfl (by decide +kernel) ⟨Nat.le_of_ble_eq_true rfl, Nat.le_of_ble_eq_true rfl⟩) rfl hl.1 rfl (Nat.le_of_ble_eq_true rfl) dL_flushes_142 (by dsimp only; omega) (by dsimp only; omega) (fun r30 M29 H locs hp hw hS hz hk => ?_)
            obtain ⟨er3, y3, h3⟩ := hp
            rw [er3]
            obtain ⟨z3, e3⟩ : ∃ zz9, zz9 = kFl i z1 := ⟨_, rfl⟩
            rw [← e3] at h3
            have hx3 : M29 x = some (.inr (7, [.ref (ad 0), .ref (ad 1), .ref (ad 2), .ref (ad 3)])) := h3.1.1.1
            rw [hid] at e3
            rw [hid, Nat.sub_self, nI_0]
            have hN3 : zN z3 = zN z := by rw [e3]; exact hN1
            have hg09 : f2 0 = nI (zN z3 0) := by rw [hN3]; exact hg0
            have hg19 : f2 1 = nI (zN z3 1) := by rw [hN3]; exact hg1
            have hE3 : jE i z3 := by rw [e3]; exact hE1
            refine lv_if_ne (tgt := 169) hx hb dL_flushes_145 (by decide) (fun c_145 => absurd (by decide) c_145) (fun _ => ?_)
            refine lv_aload_n hx hb dL_flushes_148 rfl (lv_at hl 4 rfl) ?_
            refine lv_aload_n hx hb dL_flushes_149 rfl (lv_at hl 5 rfl) ?_
            refine m_callSi X hK hw hZ hS hA (As := [.ref x, .ref ca]) (rest := []) (c_areWhole l G dce _ M29 hlt x ad ca f2 (fun a => a = i ∨ (z3 = z1 ∧ (a = i ∨ (z1 = z ∧ bm a = false)))) n w y3 z3 h3 hn hn2 hg09 hg19) (va_cwS 2 hts gL_flushes_L_areWhole rfl rfl rfl (by decide +kernel) ⟨Nat.le_of_ble_eq_true rfl, Nat.le_of_ble_eq_true rfl⟩) rfl hl.1 rfl (Nat.le_of_ble_eq_true rfl) dL_flushes_150 (by dsimp only; omega) (by dsimp only; omega) (fun r32 M31 H locs hp hw hS hz hk => ?_)
            rw [hp.2] at hw
            rw [hp.1]
            refine lv_if_eq (tgt := 169) hx hb dL_flushes_153 (by decide) (fun c_153 => absurd c_153 (by decide)) (fun _ => ?_)
            refine lv_aload_n hx hb dL_flushes_156 rfl (lv_at hl 4 rfl) ?_
            refine lv_aload_n hx hb dL_flushes_157 rfl (lv_at hl 5 rfl) ?_
            refine lv_iload_n hx hb dL_flushes_158 rfl (lv_at hl 6 rfl) ?_
            refine m_callSi X hK hw hZ hS hA (As := [.ref x, .ref ca, .int (nI i)]) (rest := []) (c_areRows l G dce _ M29 hlt x ad ca f2 (fun a => a = i ∨ (z3 = z1 ∧ (a = i ∨ (z1 = z ∧ bm a = false)))) n w y3 z3 h3 hn i hi hE3 hn2 hg09 hg19 (by omega)) (va_cwS 3 hts gL_flushes_L_areRows rfl rfl rfl (by decide +kernel) ⟨Nat.le_of_ble_eq_true rfl, Nat.le_of_ble_eq_true rfl⟩) rfl hl.1 rfl (Nat.le_of_ble_eq_true rfl) dL_flushes_159 (by dsimp only; omega) (by dsimp only; omega) (fun r34 M33 H locs hp hw hS hz hk => ?_)
            obtain ⟨er4, y4, z4, h4, hs4⟩ := hp
            rw [er4]
            have hx4 : M33 x = some (.inr (7, [.ref (ad 0), .ref (ad 1), .ref (ad 2), .ref (ad 3)])) := h4.1.1.1
            refine lv_if_eq (tgt := 169) hx hb dL_flushes_162 (by decide) (fun c_162 => absurd c_162 (by decide)) (fun _ => ?_)
            refine lv_iconst (v := 1) hx hb dL_flushes_165 (by decide) ?_
            refine lv_goto (tgt := 170) hx hb dL_flushes_166 (by decide) ?_
            exact m_zret X (by decide) hK hw hS (by refine ⟨rfl, y4, z4, f2, (bSet bm i), h4.mono (fun a _ q => ?_) (Nat.le_refl _) (Nat.le_refl _), ?_, ?_, hg3, ?_⟩; (by_cases r : a = i; exact Or.inl r; have q9 : (if a = i then bm a else true) = false := q; rw [if_neg r] at q9; exact absurd q9 (by decide)); (rw [hs4.1]; exact hg09); (rw [hs4.1]; exact hg19); (exact CB.s (by rw [e3]; exact hcb1) hs4)) (by omega) (by omega) dL_flushes_170
  · refine lv_aload_n hx hb dL_flushes_30 rfl (lv_at hl 4 rfl) ?_
    refine lv_iconst (v := 3) hx hb dL_flushes_31 (by decide) ?_
    refine lv_dup2_11 hx hb dL_flushes_32 rfl rfl ?_
    refine m_iald X hK hw h.2.2.1 (i := 3) (by unfold vp_in; decide) dL_flushes_33 ?_
    rw [show f ((3 : Int32).toNatClampNeg) = msk bm from (congrArg f (by decide)).trans hf3]
    refine lv_iconst (v := 1) hx hb dL_flushes_34 (by decide) ?_
    refine lv_iload_n hx hb dL_flushes_35 rfl (lv_at hl 5 rfl) ?_
    refine lv_ishl hx hb dL_flushes_36 ?_
    refine lv_iconst (v := (-1)) hx hb dL_flushes_37 (by decide) ?_
    refine lv_ixor hx hb dL_flushes_38 ?_
    refine lv_iand hx hb dL_flushes_39 ?_
    rw [msk_clr hi]
    refine m_iast X hK hw hS h.2.2.1 (i := 3) (x := (msk (bClr bm i))) (by unfold vp_in; decide) dL_flushes_40 (fun M35 H locs eM35 hw hS => ?_)
    obtain ⟨f1, ef1⟩ : ∃ g : Nat → Int32, g = upd f (3 : Int32).toNatClampNeg (msk (bClr bm i)) := ⟨_, rfl⟩
    have h1 : LC G dce x ad ca f1 (fun a => bm a = false) n w M35 y z := LC.c h (by rw [ef1]; exact eM35)
    have ic1 : (3 : Int32).toNatClampNeg = 3 := by decide
    have hg3 : f1 3 = (msk (bClr bm i)) := by rw [ef1, ic1]; exact upd_1 _ _ _
    have hg0 : f1 0 = nI (zN z 0) := by rw [ef1, ic1]; exact (upd_0 _ _ (by decide)).trans hf0
    have hg1 : f1 1 = nI (zN z 1) := by rw [ef1, ic1]; exact (upd_0 _ _ (by decide)).trans hf1
    have hx1 : M35 x = some (.inr (7, [.ref (ad 0), .ref (ad 1), .ref (ad 2), .ref (ad 3)])) := h1.1.1.1
    refine lv_aload_n hx hb dL_flushes_41 rfl (lv_at hl 3 rfl) ?_
    refine lv_iload_n hx hb dL_flushes_42 rfl (lv_at hl 5 rfl) ?_
    refine m_callVi X (ci := 7) rfl hx1 hK hw hZ hS hA (As := [.int (nI i)]) (rest := []) (n_clear l G dce _ M35 hlt x ad ca f1 (fun a => bm a = false) n w y z h1 hn hi) (cwV 1 hts gL_flushes_X6_clear rfl rfl rfl (by decide +kernel) ⟨Nat.le_of_ble_eq_true rfl, Nat.le_of_ble_eq_true rfl⟩) rfl hl.1 rfl (Nat.le_of_ble_eq_true rfl) dL_flushes_43 (by dsimp only; omega) (by dsimp only; omega) (fun r37 M36 H locs hp hw hS hz hk => ?_)
    obtain ⟨er2, y2, h2⟩ := hp
    rw [er2]
    obtain ⟨z2, e2⟩ : ∃ zz9, zz9 = kCr i z := ⟨_, rfl⟩
    rw [← e2] at h2
    have hx2 : M36 x = some (.inr (7, [.ref (ad 0), .ref (ad 1), .ref (ad 2), .ref (ad 3)])) := h2.1.1.1
    refine lv_iload hx hb dL_flushes_46 (lv_at hl 0 rfl) ?_
    refine lv_icmp_ne (tgt := 72) hx hb dL_flushes_48 (by decide) (fun c_48 => ?_) (fun c_48 => ?_)
    · exact (by exfalso; first | exact c_48 rfl | exact c_65 rfl)
    · refine lv_aload_n hx hb dL_flushes_51 rfl (lv_at hl 3 rfl) ?_
      refine lv_iload_n hx hb dL_flushes_52 rfl (lv_at hl 5 rfl) ?_
      have hid : kFl i z2 = z2 := by rw [e2]; exact jE.id (jE.cr h.2.1.1 hi) (cEq_N (kCr_N i z) h.2.1.1) hi
      refine m_callVi X (ci := 7) rfl hx2 hK hw hZ hS hA (As := [.int (nI i)]) (rest := []) (n_flush l G dce _ M36 hlt x ad ca f1 (fun a => bm a = false ∨ a = i) n w y2 z2 h2 hn (by omega) hi (Or.inr rfl) 1000 4100 (by rw [hid]; omega) (by rw [hid]; omega)) (cwV 1 hts gL_flushes_X6_flush rfl rfl rfl (by decide +kernel) ⟨Nat.le_of_ble_eq_true rfl, Nat.le_of_ble_eq_true rfl⟩) rfl hl.1 rfl (Nat.le_of_ble_eq_true rfl) dL_flushes_53 (by dsimp only; omega) (by dsimp only; omega) (fun r39 M38 H locs hp hw hS hz hk => ?_)
      obtain ⟨er3, y3, h3⟩ := hp
      rw [er3]
      obtain ⟨z3, e3⟩ : ∃ zz9, zz9 = kFl i z2 := ⟨_, rfl⟩
      rw [← e3] at h3
      have hx3 : M38 x = some (.inr (7, [.ref (ad 0), .ref (ad 1), .ref (ad 2), .ref (ad 3)])) := h3.1.1.1
      rw [hid] at e3
      rw [hid, Nat.sub_self, nI_0]
      refine lv_if_ne (tgt := 72) hx hb dL_flushes_56 (by decide) (fun c_56 => absurd (by decide) c_56) (fun _ => ?_)
      refine lv_aload_n hx hb dL_flushes_59 rfl (lv_at hl 3 rfl) ?_
      refine m_callVi X (ci := 7) rfl hx3 hK hw hZ hS hA (As := []) (rest := []) (c_writes l G dce _ M38 x ad y3 z3 h3.1) (cwV 0 hts gL_flushes_X6_writes rfl rfl rfl (by decide +kernel) ⟨Nat.le_of_ble_eq_true rfl, Nat.le_of_ble_eq_true rfl⟩) rfl hl.1 rfl (Nat.le_of_ble_eq_true rfl) dL_flushes_60 (by dsimp only; omega) (by dsimp only; omega) (fun r41 M40 H locs hp hw hS hz hk => ?_)
      rw [hp.2] at hw
      rw [hp.1]
      rw [show zW z3 = zW z from by rw [e3, e2]; exact zS.cr.2.2.1]
      refine lv_iload hx hb dL_flushes_63 (lv_at hl 1 rfl) ?_
      refine lv_icmp_ne (tgt := 72) hx hb dL_flushes_65 (by decide) (fun c_65 => ?_) (fun c_65 => ?_)
      · exact (by exfalso; first | exact c_48 rfl | exact c_65 rfl)
      · refine lv_iconst (v := 1) hx hb dL_flushes_68 (by decide) ?_
        refine lv_goto (tgt := 73) hx hb dL_flushes_69 (by decide) ?_
        exact m_zret X (by decide) hK hw hS (by refine ⟨rfl, y3, z3, f1, bClr bm i, h3.mono (fun a _ q => ?_) (Nat.le_refl _) (Nat.le_refl _), ?_, ?_, hg3, ?_⟩; (by_cases r : a = i; exact Or.inl r; refine Or.inr ⟨e3, Or.inl ?_⟩; have q9 : (if a = i then false else bm a) = false := q; rw [if_neg r] at q9; exact q9); (rw [e3, e2, kCr_N]; exact hg0); (rw [e3, e2, kCr_N]; exact hg1); (rw [e3, e2]; exact hcb.s zS.cr)) (by omega) (by omega) dL_flushes_73
