/-! P23: the law's helpers -/
set_option maxHeartbeats 4000000 in
set_option maxRecDepth 100000 in
theorem c_names (l : Launch) (G : gG) (dce sz : Nat) (M : gM) (hlt : l.stackTraces = false) (x : Nat) (ad : Nat → Nat) (ca : Nat) (f : Nat → Int32) (P : Nat → Prop) (n w : Nat) (y : cY) (z : cZ) (h : LC G dce x ad ca f P n w M y z) (hn : n ≤ 511) (i k j : Nat) (hi : i < 3) (hk2 : k < 2) (hj : j < zN z k) (hlv : fLive (zE z (sL i k) j) = true) (nm : Int32) (hm : nOK nm = true) : mI l yL_names wsL_names ({ frames := 8, cells := 22, slots := 132, locals := 134 }) G dce sz M [.ref x, .int (nI i), .int (nI k), .int (nI j), .int nm] (fun r M' => r = 1 ∧ ∃ (y1 : cY) (z1 : cZ), LC G dce x ad ca f P n (w + 2 + 2 + 2) M' y1 z1 ∧ zS z z1) (22) (132) := by
  have hx9 : M x = some (.inr (7, [.ref (ad 0), .ref (ad 1), .ref (ad 2), .ref (ad 3)])) := h.1.1.1
  refine wMet (Qc := QI G _) (cc := cL_names) (maxL := 9) (ret := (some .boolean)) (by decide) rfl (Nat.le_of_ble_eq_true rfl) ?_
  intro p e s m below meth c A ls X hnm hw hK hZ hA hS hsz eA hl
  obtain ⟨hx, hb, hr, hts, hown, hlk, hml⟩ := id X
  have hl : lv_has ls 9 [(0, .ref x), (1, .int (nI i)), (2, .int (nI k)), (3, .int (nI j)), (4, .int nm)] := hl
  refine lv_aload_n hx hb dL_names_0 rfl (lv_at hl 0 rfl) ?_
  refine lv_iload_n hx hb dL_names_1 rfl (lv_at hl 1 rfl) ?_
  refine m_callVi X (ci := 7) rfl hx9 hK hw hZ hS hA (As := [.int (nI i)]) (rest := []) (n_dirty l G dce _ M hlt x ad ca f P n w y z h hn hi) (cwV 1 hts gL_names_X6_dirty rfl rfl rfl (by decide +kernel) ⟨Nat.le_of_ble_eq_true rfl, Nat.le_of_ble_eq_true rfl⟩) rfl hl.1 rfl (Nat.le_of_ble_eq_true rfl) dL_names_2 (Nat.le_of_ble_eq_true rfl) (Nat.le_of_ble_eq_true rfl) (fun r2 M1 H locs hp hw hS hz hk => ?_)
  rw [hp.2] at hw
  rw [hp.1]
  refine lv_istore (lv' := [(5, .int (nI (tot fDy i z))), (0, .ref x), (1, .int (nI i)), (2, .int (nI k)), (3, .int (nI j)), (4, .int nm)]) hx hb dL_names_5 hl (by decide) rfl (fun ls hl => ?_)
  refine lv_aload_n hx hb dL_names_7 rfl (lv_at hl 1 rfl) ?_
  refine lv_iload_n hx hb dL_names_8 rfl (lv_at hl 2 rfl) ?_
  refine lv_iload_n hx hb dL_names_9 rfl (lv_at hl 3 rfl) ?_
  refine lv_iload_n hx hb dL_names_10 rfl (lv_at hl 4 rfl) ?_
  refine m_callVi X (ci := 7) rfl hx9 hK hw hZ hS hA (As := [.int (nI i), .int (nI k), .int (nI j)]) (rest := []) (n_name l G dce _ M hlt x ad ca f P n w y z h hn hi hk2 hj hlv) (cwV 3 hts gL_names_X6_name rfl rfl rfl (by decide +kernel) ⟨Nat.le_of_ble_eq_true rfl, Nat.le_of_ble_eq_true rfl⟩) rfl hl.1 rfl (Nat.le_of_ble_eq_true rfl) dL_names_11 (Nat.le_of_ble_eq_true rfl) (Nat.le_of_ble_eq_true rfl) (fun r4 M3 H locs hp hw hS hz hk => ?_)
  rw [hp.2] at hw
  rw [hp.1]
  refine lv_istore (lv' := [(6, .int (eNm (zE z (sL i k) j))), (5, .int (nI (tot fDy i z))), (0, .ref x), (1, .int (nI i)), (2, .int (nI k)), (3, .int (nI j)), (4, .int nm)]) hx hb dL_names_14 hl (by decide) rfl (fun ls hl => ?_)
  refine lv_aload_n hx hb dL_names_16 rfl (lv_at hl 2 rfl) ?_
  refine lv_iload_n hx hb dL_names_17 rfl (lv_at hl 3 rfl) ?_
  refine lv_iload_n hx hb dL_names_18 rfl (lv_at hl 4 rfl) ?_
  refine lv_iload_n hx hb dL_names_19 rfl (lv_at hl 5 rfl) ?_
  refine lv_iload hx hb dL_names_20 (lv_at hl 6 rfl) ?_
  refine m_callVv X (ci := 7) rfl hx9 hK hw hZ hS hA (As := [.int (nI i), .int (nI k), .int (nI j), .int nm]) (rest := []) (n_setName l G dce _ M hlt x ad ca f P n w y z h hn hi hk2 hj hlv hm) (cwV 4 hts gL_names_X6_setName rfl rfl rfl (by decide +kernel) ⟨Nat.le_of_ble_eq_true rfl, Nat.le_of_ble_eq_true rfl⟩) rfl hl.1 rfl (Nat.le_of_ble_eq_true rfl) dL_names_22 (Nat.le_of_ble_eq_true rfl) (Nat.le_of_ble_eq_true rfl) (fun M5 H locs hp hw hS hz hk => ?_)
  obtain ⟨y1, h1⟩ := hp
  obtain ⟨z1, e1⟩ : ∃ zz9, zz9 = kNm i k j nm z := ⟨_, rfl⟩
  rw [← e1] at h1
  have hx1 : M5 x = some (.inr (7, [.ref (ad 0), .ref (ad 1), .ref (ad 2), .ref (ad 3)])) := h1.1.1.1
  have hj1 : j < zN z1 k := by rw [e1]; exact hj
  have hv1 : zE z1 (sL i k) j = fNm (zE z (sL i k) j) nm := by rw [e1, nm_kn hi hk2, if_pos rfl]
  have hlv1 : fLive (zE z1 (sL i k) j) = true := by rw [hv1]; exact hlv
  have hd1 := nm_dy h.2.1.1 hi hk2 hj nm
  rw [← e1] at hd1
  have ht := told_3 hd1.1 hd1.2.1
  have hm1 : nOK (eNm (zE z (sL i k) j)) = true := (h.2.1.2.2.1.1.2.1.1 i k j hi hk2 hj (fLive_1 hlv).1).2
  have h0 : nm = eNm (zE z (sL i k) j) → nI (tot fDy i z1) - nI (tot fDy i z) = 0 := fun q => by rw [hd1.2.2 q]; exact Int32.sub_self _
  refine lv_aload_n hx hb dL_names_25 rfl (lv_at hl 2 rfl) ?_
  refine lv_iload_n hx hb dL_names_26 rfl (lv_at hl 3 rfl) ?_
  refine m_callVi X (ci := 7) rfl hx1 hK hw hZ hS hA (As := [.int (nI i)]) (rest := []) (n_dirty l G dce _ M5 hlt x ad ca f P n (w + 2) y1 z1 h1 hn hi) (cwV 1 hts gL_names_X6_dirty rfl rfl rfl (by decide +kernel) ⟨Nat.le_of_ble_eq_true rfl, Nat.le_of_ble_eq_true rfl⟩) rfl hl.1 rfl (Nat.le_of_ble_eq_true rfl) dL_names_27 (Nat.le_of_ble_eq_true rfl) (Nat.le_of_ble_eq_true rfl) (fun r7 M6 H locs hp hw hS hz hk => ?_)
  rw [hp.2] at hw
  rw [hp.1]
  refine lv_iload hx hb dL_names_30 (lv_at hl 1 rfl) ?_
  refine lv_isub hx hb dL_names_32 ?_
  refine lv_istore (lv' := [(7, .int ((nI (tot fDy i z1)) - (nI (tot fDy i z)))), (6, .int (eNm (zE z (sL i k) j))), (5, .int (nI (tot fDy i z))), (0, .ref x), (1, .int (nI i)), (2, .int (nI k)), (3, .int (nI j)), (4, .int nm)]) hx hb dL_names_33 hl (by decide) rfl (fun ls hl => ?_)
  refine lv_aload_n hx hb dL_names_35 rfl (lv_at hl 3 rfl) ?_
  refine lv_iload_n hx hb dL_names_36 rfl (lv_at hl 4 rfl) ?_
  refine lv_iload_n hx hb dL_names_37 rfl (lv_at hl 5 rfl) ?_
  refine lv_iload_n hx hb dL_names_38 rfl (lv_at hl 6 rfl) ?_
  refine m_callVi X (ci := 7) rfl hx1 hK hw hZ hS hA (As := [.int (nI i), .int (nI k), .int (nI j)]) (rest := []) (n_name l G dce _ M5 hlt x ad ca f P n (w + 2) y1 z1 h1 hn hi hk2 hj1 hlv1) (cwV 3 hts gL_names_X6_name rfl rfl rfl (by decide +kernel) ⟨Nat.le_of_ble_eq_true rfl, Nat.le_of_ble_eq_true rfl⟩) rfl hl.1 rfl (Nat.le_of_ble_eq_true rfl) dL_names_39 (Nat.le_of_ble_eq_true rfl) (Nat.le_of_ble_eq_true rfl) (fun r9 M8 H locs hp hw hS hz hk => ?_)
  rw [hp.2] at hw
  rw [hp.1]
  rw [show eNm (zE z1 (sL i k) j) = nm from by rw [hv1]; rfl]
  refine lv_iload hx hb dL_names_42 (lv_at hl 7 rfl) ?_
  refine lv_icmp_ne (tgt := 75) hx hb dL_names_44 (by decide) (fun c_44 => ?_) (fun c_44 => ?_)
  · exact (by exfalso; first | exact c_44 rfl | (rcases ht with q | q | q <;> rw [q] at c_50 <;> exact absurd c_50 (by decide)) | (rcases ht with q | q | q <;> rw [q] at c_56 <;> exact absurd c_56 (by decide)) | exact c_68 (h0 c_63))
  · refine lv_iload hx hb dL_names_47 (lv_at hl 0 rfl) ?_
    refine lv_iconst (v := 1) hx hb dL_names_49 (by decide) ?_
    refine lv_icmp_gt (tgt := 75) hx hb dL_names_50 (by decide) (fun c_50 => ?_) (fun c_50 => ?_)
    · exact (by exfalso; first | exact c_44 rfl | (rcases ht with q | q | q <;> rw [q] at c_50 <;> exact absurd c_50 (by decide)) | (rcases ht with q | q | q <;> rw [q] at c_56 <;> exact absurd c_56 (by decide)) | exact c_68 (h0 c_63))
    · refine lv_iload hx hb dL_names_53 (lv_at hl 0 rfl) ?_
      refine lv_iconst (v := (-1)) hx hb dL_names_55 (by decide) ?_
      refine lv_icmp_lt (tgt := 75) hx hb dL_names_56 (by decide) (fun c_56 => ?_) (fun c_56 => ?_)
      · exact (by exfalso; first | exact c_44 rfl | (rcases ht with q | q | q <;> rw [q] at c_50 <;> exact absurd c_50 (by decide)) | (rcases ht with q | q | q <;> rw [q] at c_56 <;> exact absurd c_56 (by decide)) | exact c_68 (h0 c_63))
      · refine lv_iload hx hb dL_names_59 (lv_at hl 7 rfl) ?_
        refine lv_iload hx hb dL_names_61 (lv_at hl 1 rfl) ?_
        refine lv_icmp_ne (tgt := 71) hx hb dL_names_63 (by decide) (fun c_63 => ?_) (fun c_63 => ?_)
        · refine lv_iconst (v := 1) hx hb dL_names_71 (by decide) ?_
          refine lv_goto (tgt := 76) hx hb dL_names_72 (by decide) ?_
          refine lv_istore (lv' := [(8, .int 1), (7, .int ((nI (tot fDy i z1)) - (nI (tot fDy i z)))), (6, .int (eNm (zE z (sL i k) j))), (5, .int (nI (tot fDy i z))), (0, .ref x), (1, .int (nI i)), (2, .int (nI k)), (3, .int (nI j)), (4, .int nm)]) hx hb dL_names_76 hl (by decide) rfl (fun ls hl => ?_)
          refine lv_aload_n hx hb dL_names_78 rfl (lv_at hl 4 rfl) ?_
          refine lv_iload_n hx hb dL_names_79 rfl (lv_at hl 5 rfl) ?_
          refine lv_iload_n hx hb dL_names_80 rfl (lv_at hl 6 rfl) ?_
          refine lv_iload_n hx hb dL_names_81 rfl (lv_at hl 7 rfl) ?_
          refine lv_iload hx hb dL_names_82 (lv_at hl 2 rfl) ?_
          refine m_callVv X (ci := 7) rfl hx1 hK hw hZ hS hA (As := [.int (nI i), .int (nI k), .int (nI j), .int (eNm (zE z (sL i k) j))]) (rest := []) (n_setName l G dce _ M5 hlt x ad ca f P n (w + 2) y1 z1 h1 hn hi hk2 hj1 hlv1 hm1) (cwV 4 hts gL_names_X6_setName rfl rfl rfl (by decide +kernel) ⟨Nat.le_of_ble_eq_true rfl, Nat.le_of_ble_eq_true rfl⟩) rfl hl.1 rfl (Nat.le_of_ble_eq_true rfl) dL_names_84 (Nat.le_of_ble_eq_true rfl) (Nat.le_of_ble_eq_true rfl) (fun M10 H locs hp hw hS hz hk => ?_)
          obtain ⟨y2, h2⟩ := hp
          obtain ⟨z2, e2⟩ : ∃ zz9, zz9 = kNm i k j (eNm (zE z (sL i k) j)) z1 := ⟨_, rfl⟩
          rw [← e2] at h2
          have hx2 : M10 x = some (.inr (7, [.ref (ad 0), .ref (ad 1), .ref (ad 2), .ref (ad 3)])) := h2.1.1.1
          have hj2 : j < zN z2 k := by rw [e2]; exact hj1
          have hv2 : zE z2 (sL i k) j = fNm (zE z1 (sL i k) j) (eNm (zE z (sL i k) j)) := by rw [e2, nm_kn hi hk2, if_pos rfl]
          have hlv2 : fLive (zE z2 (sL i k) j) = true := by rw [hv2]; exact hlv1
          have hd2 : tot fDy i z2 = tot fDy i z := by rw [e2, e1, nm_2 h.2.1.1 hi hk2 hj, nm_id h.2.1.1 hi hk2 hj rfl]
          refine lv_iload hx hb dL_names_87 (lv_at hl 0 rfl) ?_
          refine lv_if_eq (tgt := 106) hx hb dL_names_89 (by decide) (fun c_89 => absurd c_89 (by decide)) (fun _ => ?_)
          refine lv_aload_n hx hb dL_names_92 rfl (lv_at hl 4 rfl) ?_
          refine lv_iload_n hx hb dL_names_93 rfl (lv_at hl 5 rfl) ?_
          refine m_callVi X (ci := 7) rfl hx2 hK hw hZ hS hA (As := [.int (nI i)]) (rest := []) (n_dirty l G dce _ M10 hlt x ad ca f P n (w + 2 + 2) y2 z2 h2 hn hi) (cwV 1 hts gL_names_X6_dirty rfl rfl rfl (by decide +kernel) ⟨Nat.le_of_ble_eq_true rfl, Nat.le_of_ble_eq_true rfl⟩) rfl hl.1 rfl (Nat.le_of_ble_eq_true rfl) dL_names_94 (Nat.le_of_ble_eq_true rfl) (Nat.le_of_ble_eq_true rfl) (fun r12 M11 H locs hp hw hS hz hk => ?_)
          rw [hp.2] at hw
          rw [hp.1]
          rw [hd2]
          refine lv_iload hx hb dL_names_97 (lv_at hl 3 rfl) ?_
          refine lv_icmp_ne (tgt := 106) hx hb dL_names_99 (by decide) (fun c_99 => ?_) (fun c_99 => ?_)
          · exact (by exfalso; exact c_99 rfl)
          · refine lv_iconst (v := 1) hx hb dL_names_102 (by decide) ?_
            refine lv_goto (tgt := 107) hx hb dL_names_103 (by decide) ?_
            refine lv_istore (lv' := [(8, .int 1), (7, .int ((nI (tot fDy i z1)) - (nI (tot fDy i z)))), (6, .int (eNm (zE z (sL i k) j))), (5, .int (nI (tot fDy i z))), (0, .ref x), (1, .int (nI i)), (2, .int (nI k)), (3, .int (nI j)), (4, .int nm)]) hx hb dL_names_107 hl (by decide) rfl (fun ls hl => ?_)
            refine lv_aload_n hx hb dL_names_109 rfl (lv_at hl 4 rfl) ?_
            refine lv_iload_n hx hb dL_names_110 rfl (lv_at hl 5 rfl) ?_
            refine lv_iload_n hx hb dL_names_111 rfl (lv_at hl 6 rfl) ?_
            refine lv_iload_n hx hb dL_names_112 rfl (lv_at hl 7 rfl) ?_
            refine lv_iload hx hb dL_names_113 (lv_at hl 8 rfl) ?_
            refine m_callVv X (ci := 7) rfl hx2 hK hw hZ hS hA (As := [.int (nI i), .int (nI k), .int (nI j), .int nm]) (rest := []) (n_setName l G dce _ M10 hlt x ad ca f P n (w + 2 + 2) y2 z2 h2 hn hi hk2 hj2 hlv2 hm) (cwV 4 hts gL_names_X6_setName rfl rfl rfl (by decide +kernel) ⟨Nat.le_of_ble_eq_true rfl, Nat.le_of_ble_eq_true rfl⟩) rfl hl.1 rfl (Nat.le_of_ble_eq_true rfl) dL_names_115 (Nat.le_of_ble_eq_true rfl) (Nat.le_of_ble_eq_true rfl) (fun M13 H locs hp hw hS hz hk => ?_)
            obtain ⟨y3, h3⟩ := hp
            obtain ⟨z3, e3⟩ : ∃ zz9, zz9 = kNm i k j nm z2 := ⟨_, rfl⟩
            rw [← e3] at h3
            have hx3 : M13 x = some (.inr (7, [.ref (ad 0), .ref (ad 1), .ref (ad 2), .ref (ad 3)])) := h3.1.1.1
            have hd3 : tot fDy i z3 = tot fDy i z1 := by rw [e3, e2, nm_2 h1.2.1.1 hi hk2 hj1, e1, nm_2 h.2.1.1 hi hk2 hj]
            refine lv_iload hx hb dL_names_118 (lv_at hl 0 rfl) ?_
            refine lv_if_eq (tgt := 140) hx hb dL_names_120 (by decide) (fun c_120 => absurd c_120 (by decide)) (fun _ => ?_)
            refine lv_aload_n hx hb dL_names_123 rfl (lv_at hl 4 rfl) ?_
            refine lv_iload_n hx hb dL_names_124 rfl (lv_at hl 5 rfl) ?_
            refine m_callVi X (ci := 7) rfl hx3 hK hw hZ hS hA (As := [.int (nI i)]) (rest := []) (n_dirty l G dce _ M13 hlt x ad ca f P n (w + 2 + 2 + 2) y3 z3 h3 hn hi) (cwV 1 hts gL_names_X6_dirty rfl rfl rfl (by decide +kernel) ⟨Nat.le_of_ble_eq_true rfl, Nat.le_of_ble_eq_true rfl⟩) rfl hl.1 rfl (Nat.le_of_ble_eq_true rfl) dL_names_125 (Nat.le_of_ble_eq_true rfl) (Nat.le_of_ble_eq_true rfl) (fun r15 M14 H locs hp hw hS hz hk => ?_)
            rw [hp.2] at hw
            rw [hp.1]
            rw [hd3]
            refine lv_iload hx hb dL_names_128 (lv_at hl 3 rfl) ?_
            refine lv_iload hx hb dL_names_130 (lv_at hl 1 rfl) ?_
            refine lv_iadd hx hb dL_names_132 ?_
            refine lv_icmp_ne (tgt := 140) hx hb dL_names_133 (by decide) (fun c_133 => ?_) (fun c_133 => ?_)
            · exact (by exfalso; exact c_133 (i32_as _ _).symm)
            · refine lv_iconst (v := 1) hx hb dL_names_136 (by decide) ?_
              refine lv_goto (tgt := 141) hx hb dL_names_137 (by decide) ?_
              exact m_zret X (by decide) hK hw hS (by exact ⟨rfl, y3, z3, h3, by rw [e3, e2, e1]; exact (zS.e.tr zS.e).tr zS.e⟩) (by omega) (by omega) dL_names_141
        · refine lv_iload hx hb dL_names_66 (lv_at hl 0 rfl) ?_
          refine lv_if_ne (tgt := 75) hx hb dL_names_68 (by decide) (fun c_68 => ?_) (fun c_68 => ?_)
          · exact (by exfalso; first | exact c_44 rfl | (rcases ht with q | q | q <;> rw [q] at c_50 <;> exact absurd c_50 (by decide)) | (rcases ht with q | q | q <;> rw [q] at c_56 <;> exact absurd c_56 (by decide)) | exact c_68 (h0 c_63))
          · refine lv_iconst (v := 1) hx hb dL_names_71 (by decide) ?_
            refine lv_goto (tgt := 76) hx hb dL_names_72 (by decide) ?_
            refine lv_istore (lv' := [(8, .int 1), (7, .int ((nI (tot fDy i z1)) - (nI (tot fDy i z)))), (6, .int (eNm (zE z (sL i k) j))), (5, .int (nI (tot fDy i z))), (0, .ref x), (1, .int (nI i)), (2, .int (nI k)), (3, .int (nI j)), (4, .int nm)]) hx hb dL_names_76 hl (by decide) rfl (fun ls hl => ?_)
            refine lv_aload_n hx hb dL_names_78 rfl (lv_at hl 4 rfl) ?_
            refine lv_iload_n hx hb dL_names_79 rfl (lv_at hl 5 rfl) ?_
            refine lv_iload_n hx hb dL_names_80 rfl (lv_at hl 6 rfl) ?_
            refine lv_iload_n hx hb dL_names_81 rfl (lv_at hl 7 rfl) ?_
            refine lv_iload hx hb dL_names_82 (lv_at hl 2 rfl) ?_
            refine m_callVv X (ci := 7) rfl hx1 hK hw hZ hS hA (As := [.int (nI i), .int (nI k), .int (nI j), .int (eNm (zE z (sL i k) j))]) (rest := []) (n_setName l G dce _ M5 hlt x ad ca f P n (w + 2) y1 z1 h1 hn hi hk2 hj1 hlv1 hm1) (cwV 4 hts gL_names_X6_setName rfl rfl rfl (by decide +kernel) ⟨Nat.le_of_ble_eq_true rfl, Nat.le_of_ble_eq_true rfl⟩) rfl hl.1 rfl (Nat.le_of_ble_eq_true rfl) dL_names_84 (Nat.le_of_ble_eq_true rfl) (Nat.le_of_ble_eq_true rfl) (fun M16 H locs hp hw hS hz hk => ?_)
            obtain ⟨y2, h2⟩ := hp
            obtain ⟨z2, e2⟩ : ∃ zz9, zz9 = kNm i k j (eNm (zE z (sL i k) j)) z1 := ⟨_, rfl⟩
            rw [← e2] at h2
            have hx2 : M16 x = some (.inr (7, [.ref (ad 0), .ref (ad 1), .ref (ad 2), .ref (ad 3)])) := h2.1.1.1
            have hj2 : j < zN z2 k := by rw [e2]; exact hj1
            have hv2 : zE z2 (sL i k) j = fNm (zE z1 (sL i k) j) (eNm (zE z (sL i k) j)) := by rw [e2, nm_kn hi hk2, if_pos rfl]
            have hlv2 : fLive (zE z2 (sL i k) j) = true := by rw [hv2]; exact hlv1
            have hd2 : tot fDy i z2 = tot fDy i z := by rw [e2, e1, nm_2 h.2.1.1 hi hk2 hj, nm_id h.2.1.1 hi hk2 hj rfl]
            refine lv_iload hx hb dL_names_87 (lv_at hl 0 rfl) ?_
            refine lv_if_eq (tgt := 106) hx hb dL_names_89 (by decide) (fun c_89 => absurd c_89 (by decide)) (fun _ => ?_)
            refine lv_aload_n hx hb dL_names_92 rfl (lv_at hl 4 rfl) ?_
            refine lv_iload_n hx hb dL_names_93 rfl (lv_at hl 5 rfl) ?_
            refine m_callVi X (ci := 7) rfl hx2 hK hw hZ hS hA (As := [.int (nI i)]) (rest := []) (n_dirty l G dce _ M16 hlt x ad ca f P n (w + 2 + 2) y2 z2 h2 hn hi) (cwV 1 hts gL_names_X6_dirty rfl rfl rfl (by decide +kernel) ⟨Nat.le_of_ble_eq_true rfl, Nat.le_of_ble_eq_true rfl⟩) rfl hl.1 rfl (Nat.le_of_ble_eq_true rfl) dL_names_94 (Nat.le_of_ble_eq_true rfl) (Nat.le_of_ble_eq_true rfl) (fun r18 M17 H locs hp hw hS hz hk => ?_)
            rw [hp.2] at hw
            rw [hp.1]
            rw [hd2]
            refine lv_iload hx hb dL_names_97 (lv_at hl 3 rfl) ?_
            refine lv_icmp_ne (tgt := 106) hx hb dL_names_99 (by decide) (fun c_99 => ?_) (fun c_99 => ?_)
            · exact (by exfalso; exact c_99 rfl)
            · refine lv_iconst (v := 1) hx hb dL_names_102 (by decide) ?_
              refine lv_goto (tgt := 107) hx hb dL_names_103 (by decide) ?_
              refine lv_istore (lv' := [(8, .int 1), (7, .int ((nI (tot fDy i z1)) - (nI (tot fDy i z)))), (6, .int (eNm (zE z (sL i k) j))), (5, .int (nI (tot fDy i z))), (0, .ref x), (1, .int (nI i)), (2, .int (nI k)), (3, .int (nI j)), (4, .int nm)]) hx hb dL_names_107 hl (by decide) rfl (fun ls hl => ?_)
              refine lv_aload_n hx hb dL_names_109 rfl (lv_at hl 4 rfl) ?_
              refine lv_iload_n hx hb dL_names_110 rfl (lv_at hl 5 rfl) ?_
              refine lv_iload_n hx hb dL_names_111 rfl (lv_at hl 6 rfl) ?_
              refine lv_iload_n hx hb dL_names_112 rfl (lv_at hl 7 rfl) ?_
              refine lv_iload hx hb dL_names_113 (lv_at hl 8 rfl) ?_
              refine m_callVv X (ci := 7) rfl hx2 hK hw hZ hS hA (As := [.int (nI i), .int (nI k), .int (nI j), .int nm]) (rest := []) (n_setName l G dce _ M16 hlt x ad ca f P n (w + 2 + 2) y2 z2 h2 hn hi hk2 hj2 hlv2 hm) (cwV 4 hts gL_names_X6_setName rfl rfl rfl (by decide +kernel) ⟨Nat.le_of_ble_eq_true rfl, Nat.le_of_ble_eq_true rfl⟩) rfl hl.1 rfl (Nat.le_of_ble_eq_true rfl) dL_names_115 (Nat.le_of_ble_eq_true rfl) (Nat.le_of_ble_eq_true rfl) (fun M19 H locs hp hw hS hz hk => ?_)
              obtain ⟨y3, h3⟩ := hp
              obtain ⟨z3, e3⟩ : ∃ zz9, zz9 = kNm i k j nm z2 := ⟨_, rfl⟩
              rw [← e3] at h3
              have hx3 : M19 x = some (.inr (7, [.ref (ad 0), .ref (ad 1), .ref (ad 2), .ref (ad 3)])) := h3.1.1.1
              have hd3 : tot fDy i z3 = tot fDy i z1 := by rw [e3, e2, nm_2 h1.2.1.1 hi hk2 hj1, e1, nm_2 h.2.1.1 hi hk2 hj]
              refine lv_iload hx hb dL_names_118 (lv_at hl 0 rfl) ?_
              refine lv_if_eq (tgt := 140) hx hb dL_names_120 (by decide) (fun c_120 => absurd c_120 (by decide)) (fun _ => ?_)
              refine lv_aload_n hx hb dL_names_123 rfl (lv_at hl 4 rfl) ?_
              refine lv_iload_n hx hb dL_names_124 rfl (lv_at hl 5 rfl) ?_
              refine m_callVi X (ci := 7) rfl hx3 hK hw hZ hS hA (As := [.int (nI i)]) (rest := []) (n_dirty l G dce _ M19 hlt x ad ca f P n (w + 2 + 2 + 2) y3 z3 h3 hn hi) (cwV 1 hts gL_names_X6_dirty rfl rfl rfl (by decide +kernel) ⟨Nat.le_of_ble_eq_true rfl, Nat.le_of_ble_eq_true rfl⟩) rfl hl.1 rfl (Nat.le_of_ble_eq_true rfl) dL_names_125 (Nat.le_of_ble_eq_true rfl) (Nat.le_of_ble_eq_true rfl) (fun r21 M20 H locs hp hw hS hz hk => ?_)
              rw [hp.2] at hw
              rw [hp.1]
              rw [hd3]
              refine lv_iload hx hb dL_names_128 (lv_at hl 3 rfl) ?_
              refine lv_iload hx hb dL_names_130 (lv_at hl 1 rfl) ?_
              refine lv_iadd hx hb dL_names_132 ?_
              refine lv_icmp_ne (tgt := 140) hx hb dL_names_133 (by decide) (fun c_133 => ?_) (fun c_133 => ?_)
              · exact (by exfalso; exact c_133 (i32_as _ _).symm)
              · refine lv_iconst (v := 1) hx hb dL_names_136 (by decide) ?_
                refine lv_goto (tgt := 141) hx hb dL_names_137 (by decide) ?_
                exact m_zret X (by decide) hK hw hS (by exact ⟨rfl, y3, z3, h3, by rw [e3, e2, e1]; exact (zS.e.tr zS.e).tr zS.e⟩) (by omega) (by omega) dL_names_141
set_option maxHeartbeats 4000000 in
set_option maxRecDepth 100000 in
theorem c_refers (l : Launch) (G : gG) (dce sz : Nat) (M : gM) (hlt : l.stackTraces = false) (x : Nat) (ad : Nat → Nat) (ca : Nat) (f : Nat → Int32) (P : Nat → Prop) (n w : Nat) (y : cY) (z : cZ) (h : LC G dce x ad ca f P n w M y z) (hn : n ≤ 511) (i k j : Nat) (hi : i < 3) (hk2 : k < 2) (hj : j < zN z k) (hlv : fLive (zE z (sL i k) j) = true) (rf : Int32) (hrf : rfH i k j z rf) : mI l yL_refers wsL_refers ({ frames := 8, cells := 14, slots := 84, locals := 134 }) G dce sz M [.ref x, .int (nI i), .int (nI k), .int (nI j), .int rf] (fun r M' => r = 1 ∧ ∃ (y1 : cY) (z1 : cZ), LC G dce x ad ca f P n (w + 2) M' y1 z1 ∧ zS z z1) (14) (84) := by
  have hx9 : M x = some (.inr (7, [.ref (ad 0), .ref (ad 1), .ref (ad 2), .ref (ad 3)])) := h.1.1.1
  refine wMet (Qc := QI G _) (cc := cL_refers) (maxL := 8) (ret := (some .boolean)) (by decide) rfl (Nat.le_of_ble_eq_true rfl) ?_
  intro p e s m below meth c A ls X hnm hw hK hZ hA hS hsz eA hl
  obtain ⟨hx, hb, hr, hts, hown, hlk, hml⟩ := id X
  have hl : lv_has ls 8 [(0, .ref x), (1, .int (nI i)), (2, .int (nI k)), (3, .int (nI j)), (4, .int rf)] := hl
  refine lv_aload_n hx hb dL_refers_0 rfl (lv_at hl 0 rfl) ?_
  refine lv_iload_n hx hb dL_refers_1 rfl (lv_at hl 1 rfl) ?_
  refine m_callVi X (ci := 7) rfl hx9 hK hw hZ hS hA (As := [.int (nI i)]) (rest := []) (n_dirty l G dce _ M hlt x ad ca f P n w y z h hn hi) (cwV 1 hts gL_refers_X6_dirty rfl rfl rfl (by decide +kernel) ⟨Nat.le_of_ble_eq_true rfl, Nat.le_of_ble_eq_true rfl⟩) rfl hl.1 rfl (Nat.le_of_ble_eq_true rfl) dL_refers_2 (Nat.le_of_ble_eq_true rfl) (Nat.le_of_ble_eq_true rfl) (fun r2 M1 H locs hp hw hS hz hk => ?_)
  rw [hp.2] at hw
  rw [hp.1]
  refine lv_istore (lv' := [(5, .int (nI (tot fDy i z))), (0, .ref x), (1, .int (nI i)), (2, .int (nI k)), (3, .int (nI j)), (4, .int rf)]) hx hb dL_refers_5 hl (by decide) rfl (fun ls hl => ?_)
  refine lv_aload_n hx hb dL_refers_7 rfl (lv_at hl 1 rfl) ?_
  refine lv_iload_n hx hb dL_refers_8 rfl (lv_at hl 2 rfl) ?_
  refine lv_iload_n hx hb dL_refers_9 rfl (lv_at hl 3 rfl) ?_
  refine lv_iload_n hx hb dL_refers_10 rfl (lv_at hl 4 rfl) ?_
  refine m_callVi X (ci := 7) rfl hx9 hK hw hZ hS hA (As := [.int (nI i), .int (nI k), .int (nI j)]) (rest := []) (n_reference l G dce _ M hlt x ad ca f P n w y z h hn hi hk2 hj hlv) (cwV 3 hts gL_refers_X6_reference rfl rfl rfl (by decide +kernel) ⟨Nat.le_of_ble_eq_true rfl, Nat.le_of_ble_eq_true rfl⟩) rfl hl.1 rfl (Nat.le_of_ble_eq_true rfl) dL_refers_11 (Nat.le_of_ble_eq_true rfl) (Nat.le_of_ble_eq_true rfl) (fun r4 M3 H locs hp hw hS hz hk => ?_)
  rw [hp.2] at hw
  rw [hp.1]
  refine lv_istore (lv' := [(6, .int (eRf (zE z (sL i k) j))), (5, .int (nI (tot fDy i z))), (0, .ref x), (1, .int (nI i)), (2, .int (nI k)), (3, .int (nI j)), (4, .int rf)]) hx hb dL_refers_14 hl (by decide) rfl (fun ls hl => ?_)
  refine lv_iload hx hb dL_refers_16 (lv_at hl 6 rfl) ?_
  refine lv_iconst (v := (-1)) hx hb dL_refers_18 (by decide) ?_
  refine lv_icmp_eq (tgt := 48) hx hb dL_refers_19 (by decide) (fun c_19 => ?_) (fun c_19 => ?_)
  · refine lv_aload_n hx hb dL_refers_48 rfl (lv_at hl 2 rfl) ?_
    refine lv_iload_n hx hb dL_refers_49 rfl (lv_at hl 3 rfl) ?_
    refine lv_iload_n hx hb dL_refers_50 rfl (lv_at hl 4 rfl) ?_
    refine lv_iload_n hx hb dL_refers_51 rfl (lv_at hl 5 rfl) ?_
    refine lv_iload hx hb dL_refers_52 (lv_at hl 6 rfl) ?_
    have hr2 : (rf = -1 ∧ k = 0) ∨ ∃ q, q < zN z (1 - k) ∧ rf = nI q ∧ fLive (zE z (sL i (1 - k)) q) = true := Or.inl ⟨c_19, rf_n1 h.2.1.2.2.1.1 (h.2.1.n8 (by omega)) hi hk2 hj hlv hrf c_19⟩
    refine m_callVv X (ci := 7) rfl hx9 hK hw hZ hS hA (As := [.int (nI i), .int (nI k), .int (nI j), .int rf]) (rest := []) (n_setReference l G dce _ M hlt x ad ca f P n w y z h hn hi hk2 hj hlv hr2) (cwV 4 hts gL_refers_X6_setReference rfl rfl rfl (by decide +kernel) ⟨Nat.le_of_ble_eq_true rfl, Nat.le_of_ble_eq_true rfl⟩) rfl hl.1 rfl (Nat.le_of_ble_eq_true rfl) dL_refers_54 (Nat.le_of_ble_eq_true rfl) (Nat.le_of_ble_eq_true rfl) (fun M5 H locs hp hw hS hz hk => ?_)
    obtain ⟨y1, h1⟩ := hp
    obtain ⟨z1, e1⟩ : ∃ zz9, zz9 = kRf i k j rf z := ⟨_, rfl⟩
    rw [← e1] at h1
    have hx1 : M5 x = some (.inr (7, [.ref (ad 0), .ref (ad 1), .ref (ad 2), .ref (ad 3)])) := h1.1.1.1
    have hd9 := rf_dy h.2.1.1 hi hk2 hj rf
    rw [← e1] at hd9
    have ht := told_3 hd9.1 hd9.2.1
    have h0 : rf = eRf (zE z (sL i k) j) → nI (tot fDy i z1) - nI (tot fDy i z) = 0 := fun g => by rw [hd9.2.2 g]; exact Int32.sub_self _
    have hjq : j < zN z1 k := by rw [e1]; exact hj
    have hlq : fLive (zE z1 (sL i k) j) = true := by
      rw [e1]
      show fLive (zE (sE z (sL i k) j (fRf (zE z (sL i k) j) rf)) (sL i k) j) = true
      rw [(zU_E hk2).e hi hk2]
      exact hlv
    refine lv_aload_n hx hb dL_refers_57 rfl (lv_at hl 2 rfl) ?_
    refine lv_iload_n hx hb dL_refers_58 rfl (lv_at hl 3 rfl) ?_
    refine m_callVi X (ci := 7) rfl hx1 hK hw hZ hS hA (As := [.int (nI i)]) (rest := []) (n_dirty l G dce _ M5 hlt x ad ca f P n (w + 2) y1 z1 h1 hn hi) (cwV 1 hts gL_refers_X6_dirty rfl rfl rfl (by decide +kernel) ⟨Nat.le_of_ble_eq_true rfl, Nat.le_of_ble_eq_true rfl⟩) rfl hl.1 rfl (Nat.le_of_ble_eq_true rfl) dL_refers_59 (Nat.le_of_ble_eq_true rfl) (Nat.le_of_ble_eq_true rfl) (fun r7 M6 H locs hp hw hS hz hk => ?_)
    rw [hp.2] at hw
    rw [hp.1]
    refine lv_iload hx hb dL_refers_62 (lv_at hl 1 rfl) ?_
    refine lv_isub hx hb dL_refers_64 ?_
    refine lv_istore (lv' := [(7, .int ((nI (tot fDy i z1)) - (nI (tot fDy i z)))), (6, .int (eRf (zE z (sL i k) j))), (5, .int (nI (tot fDy i z))), (0, .ref x), (1, .int (nI i)), (2, .int (nI k)), (3, .int (nI j)), (4, .int rf)]) hx hb dL_refers_65 hl (by decide) rfl (fun ls hl => ?_)
    refine lv_aload_n hx hb dL_refers_67 rfl (lv_at hl 3 rfl) ?_
    refine lv_iload_n hx hb dL_refers_68 rfl (lv_at hl 4 rfl) ?_
    refine lv_iload_n hx hb dL_refers_69 rfl (lv_at hl 5 rfl) ?_
    refine lv_iload_n hx hb dL_refers_70 rfl (lv_at hl 6 rfl) ?_
    refine m_callVi X (ci := 7) rfl hx1 hK hw hZ hS hA (As := [.int (nI i), .int (nI k), .int (nI j)]) (rest := []) (n_reference l G dce _ M5 hlt x ad ca f P n (w + 2) y1 z1 h1 hn hi hk2 hjq hlq) (cwV 3 hts gL_refers_X6_reference rfl rfl rfl (by decide +kernel) ⟨Nat.le_of_ble_eq_true rfl, Nat.le_of_ble_eq_true rfl⟩) rfl hl.1 rfl (Nat.le_of_ble_eq_true rfl) dL_refers_71 (Nat.le_of_ble_eq_true rfl) (Nat.le_of_ble_eq_true rfl) (fun r9 M8 H locs hp hw hS hz hk => ?_)
    rw [hp.2] at hw
    rw [hp.1]
    rw [show eRf (zE z1 (sL i k) j) = rf from by rw [e1]; exact rf_kn hi hk2 rf]
    refine lv_iload hx hb dL_refers_74 (lv_at hl 7 rfl) ?_
    refine lv_icmp_ne (tgt := 107) hx hb dL_refers_76 (by decide) (fun c_76 => ?_) (fun c_76 => ?_)
    · exact (by exfalso; first | exact c_76 rfl | (rcases ht with q | q | q <;> rw [q] at c_82 <;> exact absurd c_82 (by decide)) | (rcases ht with q | q | q <;> rw [q] at c_88 <;> exact absurd c_88 (by decide)) | exact c_100 (h0 c_95.symm))
    · refine lv_iload hx hb dL_refers_79 (lv_at hl 0 rfl) ?_
      refine lv_iconst (v := 1) hx hb dL_refers_81 (by decide) ?_
      refine lv_icmp_gt (tgt := 107) hx hb dL_refers_82 (by decide) (fun c_82 => ?_) (fun c_82 => ?_)
      · exact (by exfalso; first | exact c_76 rfl | (rcases ht with q | q | q <;> rw [q] at c_82 <;> exact absurd c_82 (by decide)) | (rcases ht with q | q | q <;> rw [q] at c_88 <;> exact absurd c_88 (by decide)) | exact c_100 (h0 c_95.symm))
      · refine lv_iload hx hb dL_refers_85 (lv_at hl 0 rfl) ?_
        refine lv_iconst (v := (-1)) hx hb dL_refers_87 (by decide) ?_
        refine lv_icmp_lt (tgt := 107) hx hb dL_refers_88 (by decide) (fun c_88 => ?_) (fun c_88 => ?_)
        · exact (by exfalso; first | exact c_76 rfl | (rcases ht with q | q | q <;> rw [q] at c_82 <;> exact absurd c_82 (by decide)) | (rcases ht with q | q | q <;> rw [q] at c_88 <;> exact absurd c_88 (by decide)) | exact c_100 (h0 c_95.symm))
        · refine lv_iload hx hb dL_refers_91 (lv_at hl 1 rfl) ?_
          refine lv_iload hx hb dL_refers_93 (lv_at hl 7 rfl) ?_
          refine lv_icmp_ne (tgt := 103) hx hb dL_refers_95 (by decide) (fun c_95 => ?_) (fun c_95 => ?_)
          · refine lv_iconst (v := 1) hx hb dL_refers_103 (by decide) ?_
            refine lv_goto (tgt := 108) hx hb dL_refers_104 (by decide) ?_
            exact m_zret X (by decide) hK hw hS (by exact ⟨rfl, y1, z1, h1, by rw [e1]; exact zS.e⟩) (by omega) (by omega) dL_refers_108
          · refine lv_iload hx hb dL_refers_98 (lv_at hl 0 rfl) ?_
            refine lv_if_ne (tgt := 107) hx hb dL_refers_100 (by decide) (fun c_100 => ?_) (fun c_100 => ?_)
            · exact (by exfalso; first | exact c_76 rfl | (rcases ht with q | q | q <;> rw [q] at c_82 <;> exact absurd c_82 (by decide)) | (rcases ht with q | q | q <;> rw [q] at c_88 <;> exact absurd c_88 (by decide)) | exact c_100 (h0 c_95.symm))
            · refine lv_iconst (v := 1) hx hb dL_refers_103 (by decide) ?_
              refine lv_goto (tgt := 108) hx hb dL_refers_104 (by decide) ?_
              exact m_zret X (by decide) hK hw hS (by exact ⟨rfl, y1, z1, h1, by rw [e1]; exact zS.e⟩) (by omega) (by omega) dL_refers_108
  · refine lv_aload_n hx hb dL_refers_22 rfl (lv_at hl 2 rfl) ?_
    refine lv_iload_n hx hb dL_refers_23 rfl (lv_at hl 3 rfl) ?_
    refine lv_iconst (v := 1) hx hb dL_refers_24 (by decide) ?_
    refine lv_iload_n hx hb dL_refers_25 rfl (lv_at hl 4 rfl) ?_
    refine lv_isub hx hb dL_refers_26 ?_
    rw [nI_1s hk2]
    refine lv_iload hx hb dL_refers_27 (lv_at hl 6 rfl) ?_
    refine m_callVi X (ci := 7) rfl hx9 hK hw hZ hS hA (As := [.int (nI i), .int (nI (1 - k)), .int rf]) (rest := []) (n_find l G dce _ M hlt x ad ca f P n w y z h hn hi (show 1 - k < 2 by omega) rf) (cwV 3 hts gL_refers_X6_find rfl rfl rfl (by decide +kernel) ⟨Nat.le_of_ble_eq_true rfl, Nat.le_of_ble_eq_true rfl⟩) rfl hl.1 rfl (Nat.le_of_ble_eq_true rfl) dL_refers_29 (Nat.le_of_ble_eq_true rfl) (Nat.le_of_ble_eq_true rfl) (fun r11 M10 H locs hp hw hS hz hk => ?_)
    obtain ⟨er1, y1, h1⟩ := hp
    rw [er1]
    obtain ⟨z1, e1⟩ : ∃ zz9, zz9 = kFi i (1 - k) rf z := ⟨_, rfl⟩
    rw [← e1] at h1
    have hx1 : M10 x = some (.inr (7, [.ref (ad 0), .ref (ad 1), .ref (ad 2), .ref (ad 3)])) := h1.1.1.1
    obtain ⟨b9, hb9⟩ : ∃ b0, b0 = fLive (eV (kFi i (1 - k) rf z) i (1 - k) rf) := ⟨_, rfl⟩
    rw [← hb9]
    refine lv_if_ne (tgt := 48) hx hb dL_refers_32 (by decide) (fun c_32 => ?_) (fun c_32 => ?_)
    · refine lv_aload_n hx hb dL_refers_48 rfl (lv_at hl 2 rfl) ?_
      refine lv_iload_n hx hb dL_refers_49 rfl (lv_at hl 3 rfl) ?_
      refine lv_iload_n hx hb dL_refers_50 rfl (lv_at hl 4 rfl) ?_
      refine lv_iload_n hx hb dL_refers_51 rfl (lv_at hl 5 rfl) ?_
      refine lv_iload hx hb dL_refers_52 (lv_at hl 6 rfl) ?_
      have hb8 : b9 = true := bI_t c_32
      have hj1 : j < zN z1 k := by rw [e1, kFi_N]; exact hj
      have hv1 : zE z1 (sL i k) j = zE z (sL i k) j := by rw [e1]; exact fi_o h.2.1.1 (h.2.1.n8 (by omega)) hi (show 1 - k < 2 by omega) rf hk2 (fLive_1 hlv).1
      have hl1 : fLive (zE z1 (sL i k) j) = true := by rw [hv1]; exact hlv
      have hr2 : (rf = -1 ∧ k = 0) ∨ ∃ q, q < zN z1 (1 - k) ∧ rf = nI q ∧ fLive (zE z1 (sL i (1 - k)) q) = true := Or.inr (eV_liv h1.2.1.1 (h1.2.1.n8 (by omega)) hi (show 1 - k < 2 by omega) (by rw [e1, ← hb9]; exact hb8))
      refine m_callVv X (ci := 7) rfl hx1 hK hw hZ hS hA (As := [.int (nI i), .int (nI k), .int (nI j), .int rf]) (rest := []) (n_setReference l G dce _ M10 hlt x ad ca f P n w y1 z1 h1 hn hi hk2 hj1 hl1 hr2) (cwV 4 hts gL_refers_X6_setReference rfl rfl rfl (by decide +kernel) ⟨Nat.le_of_ble_eq_true rfl, Nat.le_of_ble_eq_true rfl⟩) rfl hl.1 rfl (Nat.le_of_ble_eq_true rfl) dL_refers_54 (Nat.le_of_ble_eq_true rfl) (Nat.le_of_ble_eq_true rfl) (fun M12 H locs hp hw hS hz hk => ?_)
      obtain ⟨y2, h2⟩ := hp
      obtain ⟨z2, e2⟩ : ∃ zz9, zz9 = kRf i k j rf z1 := ⟨_, rfl⟩
      rw [← e2] at h2
      have hx2 : M12 x = some (.inr (7, [.ref (ad 0), .ref (ad 1), .ref (ad 2), .ref (ad 3)])) := h2.1.1.1
      have hd9 := rf_dy h1.2.1.1 hi hk2 hj1 rf
      rw [← e2] at hd9
      have hdz : tot fDy i z1 = tot fDy i z := by rw [e1]; exact (fi_cnt h.2.1.2.2.1.1 h.2.1.1 (h.2.1.n8 (by omega)) hi (show 1 - k < 2 by omega) rf).2.2
      rw [hdz, hv1] at hd9
      have ht := told_3 hd9.1 hd9.2.1
      have h0 : rf = eRf (zE z (sL i k) j) → nI (tot fDy i z2) - nI (tot fDy i z) = 0 := fun g => by rw [hd9.2.2 g]; exact Int32.sub_self _
      have hjq : j < zN z2 k := by rw [e2]; exact hj1
      have hlq : fLive (zE z2 (sL i k) j) = true := by
        rw [e2]
        show fLive (zE (sE z1 (sL i k) j (fRf (zE z1 (sL i k) j) rf)) (sL i k) j) = true
        rw [(zU_E hk2).e hi hk2]
        exact hl1
      refine lv_aload_n hx hb dL_refers_57 rfl (lv_at hl 2 rfl) ?_
      refine lv_iload_n hx hb dL_refers_58 rfl (lv_at hl 3 rfl) ?_
      refine m_callVi X (ci := 7) rfl hx2 hK hw hZ hS hA (As := [.int (nI i)]) (rest := []) (n_dirty l G dce _ M12 hlt x ad ca f P n (w + 2) y2 z2 h2 hn hi) (cwV 1 hts gL_refers_X6_dirty rfl rfl rfl (by decide +kernel) ⟨Nat.le_of_ble_eq_true rfl, Nat.le_of_ble_eq_true rfl⟩) rfl hl.1 rfl (Nat.le_of_ble_eq_true rfl) dL_refers_59 (Nat.le_of_ble_eq_true rfl) (Nat.le_of_ble_eq_true rfl) (fun r14 M13 H locs hp hw hS hz hk => ?_)
      rw [hp.2] at hw
      rw [hp.1]
      refine lv_iload hx hb dL_refers_62 (lv_at hl 1 rfl) ?_
      refine lv_isub hx hb dL_refers_64 ?_
      refine lv_istore (lv' := [(7, .int ((nI (tot fDy i z2)) - (nI (tot fDy i z)))), (6, .int (eRf (zE z (sL i k) j))), (5, .int (nI (tot fDy i z))), (0, .ref x), (1, .int (nI i)), (2, .int (nI k)), (3, .int (nI j)), (4, .int rf)]) hx hb dL_refers_65 hl (by decide) rfl (fun ls hl => ?_)
      refine lv_aload_n hx hb dL_refers_67 rfl (lv_at hl 3 rfl) ?_
      refine lv_iload_n hx hb dL_refers_68 rfl (lv_at hl 4 rfl) ?_
      refine lv_iload_n hx hb dL_refers_69 rfl (lv_at hl 5 rfl) ?_
      refine lv_iload_n hx hb dL_refers_70 rfl (lv_at hl 6 rfl) ?_
      refine m_callVi X (ci := 7) rfl hx2 hK hw hZ hS hA (As := [.int (nI i), .int (nI k), .int (nI j)]) (rest := []) (n_reference l G dce _ M12 hlt x ad ca f P n (w + 2) y2 z2 h2 hn hi hk2 hjq hlq) (cwV 3 hts gL_refers_X6_reference rfl rfl rfl (by decide +kernel) ⟨Nat.le_of_ble_eq_true rfl, Nat.le_of_ble_eq_true rfl⟩) rfl hl.1 rfl (Nat.le_of_ble_eq_true rfl) dL_refers_71 (Nat.le_of_ble_eq_true rfl) (Nat.le_of_ble_eq_true rfl) (fun r16 M15 H locs hp hw hS hz hk => ?_)
      rw [hp.2] at hw
      rw [hp.1]
      rw [show eRf (zE z2 (sL i k) j) = rf from by rw [e2]; exact rf_kn hi hk2 rf]
      refine lv_iload hx hb dL_refers_74 (lv_at hl 7 rfl) ?_
      refine lv_icmp_ne (tgt := 107) hx hb dL_refers_76 (by decide) (fun c_76 => ?_) (fun c_76 => ?_)
      · exact (by exfalso; first | exact c_76 rfl | (rcases ht with q | q | q <;> rw [q] at c_82 <;> exact absurd c_82 (by decide)) | (rcases ht with q | q | q <;> rw [q] at c_88 <;> exact absurd c_88 (by decide)) | exact c_100 (h0 c_95.symm))
      · refine lv_iload hx hb dL_refers_79 (lv_at hl 0 rfl) ?_
        refine lv_iconst (v := 1) hx hb dL_refers_81 (by decide) ?_
        refine lv_icmp_gt (tgt := 107) hx hb dL_refers_82 (by decide) (fun c_82 => ?_) (fun c_82 => ?_)
        · exact (by exfalso; first | exact c_76 rfl | (rcases ht with q | q | q <;> rw [q] at c_82 <;> exact absurd c_82 (by decide)) | (rcases ht with q | q | q <;> rw [q] at c_88 <;> exact absurd c_88 (by decide)) | exact c_100 (h0 c_95.symm))
        · refine lv_iload hx hb dL_refers_85 (lv_at hl 0 rfl) ?_
          refine lv_iconst (v := (-1)) hx hb dL_refers_87 (by decide) ?_
          refine lv_icmp_lt (tgt := 107) hx hb dL_refers_88 (by decide) (fun c_88 => ?_) (fun c_88 => ?_)
          · exact (by exfalso; first | exact c_76 rfl | (rcases ht with q | q | q <;> rw [q] at c_82 <;> exact absurd c_82 (by decide)) | (rcases ht with q | q | q <;> rw [q] at c_88 <;> exact absurd c_88 (by decide)) | exact c_100 (h0 c_95.symm))
          · refine lv_iload hx hb dL_refers_91 (lv_at hl 1 rfl) ?_
            refine lv_iload hx hb dL_refers_93 (lv_at hl 7 rfl) ?_
            refine lv_icmp_ne (tgt := 103) hx hb dL_refers_95 (by decide) (fun c_95 => ?_) (fun c_95 => ?_)
            · refine lv_iconst (v := 1) hx hb dL_refers_103 (by decide) ?_
              refine lv_goto (tgt := 108) hx hb dL_refers_104 (by decide) ?_
              exact m_zret X (by decide) hK hw hS (by exact ⟨rfl, y2, z2, h2, by rw [e2, e1]; exact zS.fi.tr zS.e⟩) (by omega) (by omega) dL_refers_108
            · refine lv_iload hx hb dL_refers_98 (lv_at hl 0 rfl) ?_
              refine lv_if_ne (tgt := 107) hx hb dL_refers_100 (by decide) (fun c_100 => ?_) (fun c_100 => ?_)
              · exact (by exfalso; first | exact c_76 rfl | (rcases ht with q | q | q <;> rw [q] at c_82 <;> exact absurd c_82 (by decide)) | (rcases ht with q | q | q <;> rw [q] at c_88 <;> exact absurd c_88 (by decide)) | exact c_100 (h0 c_95.symm))
              · refine lv_iconst (v := 1) hx hb dL_refers_103 (by decide) ?_
                refine lv_goto (tgt := 108) hx hb dL_refers_104 (by decide) ?_
                exact m_zret X (by decide) hK hw hS (by exact ⟨rfl, y2, z2, h2, by rw [e2, e1]; exact zS.fi.tr zS.e⟩) (by omega) (by omega) dL_refers_108
    · refine lv_iload hx hb dL_refers_35 (lv_at hl 0 rfl) ?_
      refine lv_iload hx hb dL_refers_37 (lv_at hl 6 rfl) ?_
      refine lv_icmp_ne (tgt := 46) hx hb dL_refers_39 (by decide) (fun c_39 => ?_) (fun c_39 => ?_)
      · exact (by exfalso; exact c_39 (rf_had (j := j) h.2.1.1 (h.2.1.n8 (by omega)) hi hk2 hrf c_19 (by rw [← hb9]; exact (bI_0 _).mp c_32)).symm)
      · refine lv_iconst (v := 1) hx hb dL_refers_42 (by decide) ?_
        refine lv_goto (tgt := 47) hx hb dL_refers_43 (by decide) ?_
        exact m_zret X (by decide) hK hw hS (by exact ⟨rfl, y1, z1, h1.mono (fun _ _ q => q) (Nat.le_refl _) (by omega), by rw [e1]; exact zS.fi⟩) (by omega) (by omega) dL_refers_47
set_option maxHeartbeats 4000000 in
set_option maxRecDepth 100000 in
theorem c_removes (l : Launch) (G : gG) (dce sz : Nat) (M : gM) (hlt : l.stackTraces = false) (x : Nat) (ad : Nat → Nat) (ca : Nat) (f : Nat → Int32) (P : Nat → Prop) (n w : Nat) (y : cY) (z : cZ) (h : LC G dce x ad ca f P n w M y z) (hn : n ≤ 511) (i k j : Nat) (hi : i < 3) (hk2 : k < 2) (hj : j < zN z k) (hlv : fLive (zE z (sL i k) j) = true) : mI l yL_removes wsL_removes ({ frames := 8, cells := 9, slots := 54, locals := 186 }) G dce sz M [.ref x, .int (nI i), .int (nI k), .int (nI j)] (fun r M' => r = 1 ∧ ∃ (y1 : cY) (z1 : cZ), LC G dce x ad ca f P n (w) M' y1 z1 ∧ zS z z1) (9) (54) := by
  have hx9 : M x = some (.inr (7, [.ref (ad 0), .ref (ad 1), .ref (ad 2), .ref (ad 3)])) := h.1.1.1
  refine wMet (Qc := QI G _) (cc := cL_removes) (maxL := 8) (ret := (some .boolean)) (by decide) rfl (Nat.le_of_ble_eq_true rfl) ?_
  intro p e s m below meth c A ls X hnm hw hK hZ hA hS hsz eA hl
  obtain ⟨hx, hb, hr, hts, hown, hlk, hml⟩ := id X
  have hl : lv_has ls 8 [(0, .ref x), (1, .int (nI i)), (2, .int (nI k)), (3, .int (nI j))] := hl
  refine lv_iload_n hx hb dL_removes_0 rfl (lv_at hl 2 rfl) ?_
  refine lv_if_ne (tgt := 13) hx hb dL_removes_1 (by decide) (fun c_1 => ?_) (fun c_1 => ?_)
  · have hk1 : k = 1 := kd_n hk2 c_1
    have hk9 : ¬ k = 0 := by omega
    have hj0 : j < zN z 1 := by rw [hk1] at hj; exact hj
    have hlv0 : fLive (zE z (sL i 1) j) = true := by rw [hk1] at hlv; exact hlv
    refine lv_iconst (v := 0) hx hb dL_removes_13 (by decide) ?_
    refine lv_istore (lv' := [(4, .int 0), (0, .ref x), (1, .int (nI i)), (2, .int (nI k)), (3, .int (nI j))]) hx hb dL_removes_14 hl (by decide) rfl (fun ls hl => ?_)
    refine lv_aload_n hx hb dL_removes_16 rfl (lv_at hl 1 rfl) ?_
    refine lv_iload_n hx hb dL_removes_17 rfl (lv_at hl 2 rfl) ?_
    refine m_callVi X (ci := 7) rfl hx9 hK hw hZ hS hA (As := [.int (nI i)]) (rest := []) (n_known l G dce _ M hlt x ad ca f P n w y z h hn hi) (cwV 1 hts gL_removes_X6_known rfl rfl rfl (by decide +kernel) ⟨Nat.le_of_ble_eq_true rfl, Nat.le_of_ble_eq_true rfl⟩) rfl hl.1 rfl (Nat.le_of_ble_eq_true rfl) dL_removes_18 (Nat.le_of_ble_eq_true rfl) (Nat.le_of_ble_eq_true rfl) (fun r2 M1 H locs hp hw hS hz hk => ?_)
    rw [hp.2] at hw
    rw [hp.1]
    refine lv_istore (lv' := [(5, .int (nI (tot fLive i z))), (4, .int 0), (0, .ref x), (1, .int (nI i)), (2, .int (nI k)), (3, .int (nI j))]) hx hb dL_removes_21 hl (by decide) rfl (fun ls hl => ?_)
    refine lv_aload_n hx hb dL_removes_23 rfl (lv_at hl 2 rfl) ?_
    refine lv_iload_n hx hb dL_removes_24 rfl (lv_at hl 3 rfl) ?_
    refine lv_iload_n hx hb dL_removes_25 rfl (lv_at hl 4 rfl) ?_
    refine lv_iload_n hx hb dL_removes_26 rfl (lv_at hl 5 rfl) ?_
    refine m_callVi X (ci := 7) rfl hx9 hK hw hZ hS hA (As := [.int (nI i), .int (nI k), .int (nI j)]) (rest := []) (n_remove l G dce _ M hlt x ad ca f P n w y z h hn hi hk2 hj hlv) (cwV 3 hts gL_removes_X6_remove rfl rfl rfl (by decide +kernel) ⟨Nat.le_of_ble_eq_true rfl, Nat.le_of_ble_eq_true rfl⟩) rfl hl.1 rfl (Nat.le_of_ble_eq_true rfl) dL_removes_27 (Nat.le_of_ble_eq_true rfl) (Nat.le_of_ble_eq_true rfl) (fun r4 M3 H locs hp hw hS hz hk => ?_)
    obtain ⟨er1, y1, h1⟩ := hp
    rw [er1]
    obtain ⟨z1, e1⟩ : ∃ zz9, zz9 = if k = 0 then kRmA i j z else kRmB i j z := ⟨_, rfl⟩
    rw [← e1] at h1
    have hx1 : M3 x = some (.inr (7, [.ref (ad 0), .ref (ad 1), .ref (ad 2), .ref (ad 3)])) := h1.1.1.1
    rw [if_neg hk9] at e1
    rw [if_neg hk9, show nI 1 = (1 : Int32) from by decide]
    have hgn := fi_gone h1.2.1.1 (h1.2.1.n8 (by omega)) hi hk2 (j := j) (by rw [e1, kRmB_N]; exact hj) (by rw [hk1, e1]; exact rmB_gone h.2.1.2.2.1.1 hi hj0 hlv0)
    have hkn := rmB_kn h.2.1.1 hi hj0
    rw [← e1] at hkn
    have hb1 := tot_b (f := fLive) h.2.1.1 hi (h.2.1.n8 (by omega))
    have hb2 := tot_b (f := fLive) h1.2.1.1 hi (h1.2.1.n8 (by omega))
    refine lv_istore (lv' := [(6, .int 1), (5, .int (nI (tot fLive i z))), (4, .int 0), (0, .ref x), (1, .int (nI i)), (2, .int (nI k)), (3, .int (nI j))]) hx hb dL_removes_30 hl (by decide) rfl (fun ls hl => ?_)
    refine lv_iload hx hb dL_removes_32 (lv_at hl 0 rfl) ?_
    refine lv_iconst (v := 1) hx hb dL_removes_34 (by decide) ?_
    refine lv_iload hx hb dL_removes_35 (lv_at hl 2 rfl) ?_
    refine lv_iadd hx hb dL_removes_37 ?_
    rw [show (1 : Int32) + 0 = 1 from by decide]
    refine lv_icmp_ne (tgt := 55) hx hb dL_removes_38 (by decide) (fun c_38 => absurd (by decide) c_38) (fun _ => ?_)
    refine lv_aload_n hx hb dL_removes_41 rfl (lv_at hl 3 rfl) ?_
    refine lv_iload_n hx hb dL_removes_42 rfl (lv_at hl 4 rfl) ?_
    refine lv_iload_n hx hb dL_removes_43 rfl (lv_at hl 5 rfl) ?_
    refine lv_iload_n hx hb dL_removes_44 rfl (lv_at hl 6 rfl) ?_
    refine m_callVi X (ci := 7) rfl hx1 hK hw hZ hS hA (As := [.int (nI i), .int (nI k), .int (nI j)]) (rest := []) (n_find l G dce _ M3 hlt x ad ca f P n w y1 z1 h1 hn hi hk2 (nI j)) (cwV 3 hts gL_removes_X6_find rfl rfl rfl (by decide +kernel) ⟨Nat.le_of_ble_eq_true rfl, Nat.le_of_ble_eq_true rfl⟩) rfl hl.1 rfl (Nat.le_of_ble_eq_true rfl) dL_removes_45 (Nat.le_of_ble_eq_true rfl) (Nat.le_of_ble_eq_true rfl) (fun r6 M5 H locs hp hw hS hz hk => ?_)
    obtain ⟨er2, y2, h2⟩ := hp
    rw [er2]
    obtain ⟨z2, e2⟩ : ∃ zz9, zz9 = kFi i k (nI j) z1 := ⟨_, rfl⟩
    rw [← e2] at h2
    have hx2 : M5 x = some (.inr (7, [.ref (ad 0), .ref (ad 1), .ref (ad 2), .ref (ad 3)])) := h2.1.1.1
    rw [hgn.1, show bI false = (0 : Int32) from rfl]
    have hzz := e2.trans hgn.2
    refine lv_if_ne (tgt := 55) hx hb dL_removes_48 (by decide) (fun c_48 => absurd (by decide) c_48) (fun _ => ?_)
    refine lv_iconst (v := 1) hx hb dL_removes_51 (by decide) ?_
    refine lv_goto (tgt := 56) hx hb dL_removes_52 (by decide) ?_
    refine lv_istore (lv' := [(7, .int 1), (6, .int 1), (5, .int (nI (tot fLive i z))), (4, .int 0), (0, .ref x), (1, .int (nI i)), (2, .int (nI k)), (3, .int (nI j))]) hx hb dL_removes_56 hl (by decide) rfl (fun ls hl => ?_)
    refine lv_iload hx hb dL_removes_58 (lv_at hl 0 rfl) ?_
    refine lv_if_eq (tgt := 80) hx hb dL_removes_60 (by decide) (fun c_60 => absurd c_60 (by decide)) (fun _ => ?_)
    refine lv_aload_n hx hb dL_removes_63 rfl (lv_at hl 4 rfl) ?_
    refine lv_iload_n hx hb dL_removes_64 rfl (lv_at hl 5 rfl) ?_
    refine m_callVi X (ci := 7) rfl hx2 hK hw hZ hS hA (As := [.int (nI i)]) (rest := []) (n_known l G dce _ M5 hlt x ad ca f P n w y2 z2 h2 hn hi) (cwV 1 hts gL_removes_X6_known rfl rfl rfl (by decide +kernel) ⟨Nat.le_of_ble_eq_true rfl, Nat.le_of_ble_eq_true rfl⟩) rfl hl.1 rfl (Nat.le_of_ble_eq_true rfl) dL_removes_65 (Nat.le_of_ble_eq_true rfl) (Nat.le_of_ble_eq_true rfl) (fun r8 M7 H locs hp hw hS hz hk => ?_)
    rw [hp.2] at hw
    rw [hp.1]
    rw [hzz]
    refine lv_iload hx hb dL_removes_68 (lv_at hl 2 rfl) ?_
    refine lv_iload hx hb dL_removes_70 (lv_at hl 1 rfl) ?_
    refine lv_isub hx hb dL_removes_72 ?_
    refine lv_icmp_lt (tgt := 80) hx hb dL_removes_73 (by decide) (fun c_73 => ?_) (fun c_73 => ?_)
    · exact (by exfalso; first | exact nI_lts (by omega) (by omega) (by omega) hkn c_73 | exact nI_lts (b := 1) (by omega) (by omega) (by omega) hkn c_73)
    · refine lv_iconst (v := 1) hx hb dL_removes_76 (by decide) ?_
      refine lv_goto (tgt := 81) hx hb dL_removes_77 (by decide) ?_
      exact m_zret X (by decide) hK hw hS (by exact ⟨rfl, y2, z2, h2, by rw [hzz, e1]; exact zS.rmB⟩) (by omega) (by omega) dL_removes_81
  · have hk0 : k = 0 := kd_0 hk2 c_1
    have hj0 : j < zN z 0 := by rw [hk0] at hj; exact hj
    have hlv0 : fLive (zE z (sL i 0) j) = true := by rw [hk0] at hlv; exact hlv
    refine lv_aload_n hx hb dL_removes_4 rfl (lv_at hl 0 rfl) ?_
    refine lv_iload_n hx hb dL_removes_5 rfl (lv_at hl 1 rfl) ?_
    refine lv_iload_n hx hb dL_removes_6 rfl (lv_at hl 3 rfl) ?_
    refine m_callVi X (ci := 7) rfl hx9 hK hw hZ hS hA (As := [.int (nI i), .int (nI j)]) (rest := []) (n_books l G dce _ M hlt x ad ca f P n w y z h hn hi hj0 hlv0) (cwV 2 hts gL_removes_X6_books rfl rfl rfl (by decide +kernel) ⟨Nat.le_of_ble_eq_true rfl, Nat.le_of_ble_eq_true rfl⟩) rfl hl.1 rfl (Nat.le_of_ble_eq_true rfl) dL_removes_7 (Nat.le_of_ble_eq_true rfl) (Nat.le_of_ble_eq_true rfl) (fun r10 M9 H locs hp hw hS hz hk => ?_)
    obtain ⟨er1, y1, h1⟩ := hp
    rw [er1]
    obtain ⟨z1, e1⟩ : ∃ zz9, zz9 = itr (kLd i 1 (nI j)) (zN z 1) z := ⟨_, rfl⟩
    rw [← e1] at h1
    have hx1 : M9 x = some (.inr (7, [.ref (ad 0), .ref (ad 1), .ref (ad 2), .ref (ad 3)])) := h1.1.1.1
    rw [books_rm h.2.1.1 hi, ← e1]
    have hj1 : j < zN z1 k := by rw [e1, itr_N (kLd_N i 1 (nI j)), hk0]; exact hj0
    have hl1 : fLive (zE z1 (sL i k) j) = true := by rw [e1, hk0, lds_l hi]; exact hlv0
    have hj10 : j < zN z1 0 := by rw [hk0] at hj1; exact hj1
    have hl10 : fLive (zE z1 (sL i 0) j) = true := by rw [hk0] at hl1; exact hl1
    have hrb := rmC_b (a := j) h1.2.1.1 hi (h1.2.1.n8 (by omega))
    refine lv_goto (tgt := 14) hx hb dL_removes_10 (by decide) ?_
    refine lv_istore (lv' := [(4, .int (nI (rmC i j z1))), (0, .ref x), (1, .int (nI i)), (2, .int (nI k)), (3, .int (nI j))]) hx hb dL_removes_14 hl (by decide) rfl (fun ls hl => ?_)
    refine lv_aload_n hx hb dL_removes_16 rfl (lv_at hl 1 rfl) ?_
    refine lv_iload_n hx hb dL_removes_17 rfl (lv_at hl 2 rfl) ?_
    refine m_callVi X (ci := 7) rfl hx1 hK hw hZ hS hA (As := [.int (nI i)]) (rest := []) (n_known l G dce _ M9 hlt x ad ca f P n w y1 z1 h1 hn hi) (cwV 1 hts gL_removes_X6_known rfl rfl rfl (by decide +kernel) ⟨Nat.le_of_ble_eq_true rfl, Nat.le_of_ble_eq_true rfl⟩) rfl hl.1 rfl (Nat.le_of_ble_eq_true rfl) dL_removes_18 (Nat.le_of_ble_eq_true rfl) (Nat.le_of_ble_eq_true rfl) (fun r12 M11 H locs hp hw hS hz hk => ?_)
    rw [hp.2] at hw
    rw [hp.1]
    refine lv_istore (lv' := [(5, .int (nI (tot fLive i z1))), (4, .int (nI (rmC i j z1))), (0, .ref x), (1, .int (nI i)), (2, .int (nI k)), (3, .int (nI j))]) hx hb dL_removes_21 hl (by decide) rfl (fun ls hl => ?_)
    refine lv_aload_n hx hb dL_removes_23 rfl (lv_at hl 2 rfl) ?_
    refine lv_iload_n hx hb dL_removes_24 rfl (lv_at hl 3 rfl) ?_
    refine lv_iload_n hx hb dL_removes_25 rfl (lv_at hl 4 rfl) ?_
    refine lv_iload_n hx hb dL_removes_26 rfl (lv_at hl 5 rfl) ?_
    refine m_callVi X (ci := 7) rfl hx1 hK hw hZ hS hA (As := [.int (nI i), .int (nI k), .int (nI j)]) (rest := []) (n_remove l G dce _ M9 hlt x ad ca f P n w y1 z1 h1 hn hi hk2 hj1 hl1) (cwV 3 hts gL_removes_X6_remove rfl rfl rfl (by decide +kernel) ⟨Nat.le_of_ble_eq_true rfl, Nat.le_of_ble_eq_true rfl⟩) rfl hl.1 rfl (Nat.le_of_ble_eq_true rfl) dL_removes_27 (Nat.le_of_ble_eq_true rfl) (Nat.le_of_ble_eq_true rfl) (fun r14 M13 H locs hp hw hS hz hk => ?_)
    obtain ⟨er2, y2, h2⟩ := hp
    rw [er2]
    obtain ⟨z2, e2⟩ : ∃ zz9, zz9 = if k = 0 then kRmA i j z1 else kRmB i j z1 := ⟨_, rfl⟩
    rw [← e2] at h2
    have hx2 : M13 x = some (.inr (7, [.ref (ad 0), .ref (ad 1), .ref (ad 2), .ref (ad 3)])) := h2.1.1.1
    rw [if_pos hk0] at e2
    rw [if_pos hk0]
    have hgn := fi_gone h2.2.1.1 (h2.2.1.n8 (by omega)) hi hk2 (j := j) (by rw [e2, kRmA_N]; exact hj1) (by rw [hk0, e2]; exact rmA_gone h1.2.1.2.2.1.1 hi hj10 hl10)
    have hkn := rmA_kn h1.2.1.1 hi hj10
    rw [← e2] at hkn
    have hb1 := tot_b (f := fLive) h1.2.1.1 hi (h1.2.1.n8 (by omega))
    have hb2 := tot_b (f := fLive) h2.2.1.1 hi (h2.2.1.n8 (by omega))
    refine lv_istore (lv' := [(6, .int (nI (rmC i j z1 + 1))), (5, .int (nI (tot fLive i z1))), (4, .int (nI (rmC i j z1))), (0, .ref x), (1, .int (nI i)), (2, .int (nI k)), (3, .int (nI j))]) hx hb dL_removes_30 hl (by decide) rfl (fun ls hl => ?_)
    refine lv_iload hx hb dL_removes_32 (lv_at hl 0 rfl) ?_
    refine lv_iconst (v := 1) hx hb dL_removes_34 (by decide) ?_
    refine lv_iload hx hb dL_removes_35 (lv_at hl 2 rfl) ?_
    refine lv_iadd hx hb dL_removes_37 ?_
    rw [nI_1a]
    refine lv_icmp_ne (tgt := 55) hx hb dL_removes_38 (by decide) (fun c_38 => ?_) (fun c_38 => ?_)
    · exact (by exfalso; exact c_38 rfl)
    · refine lv_aload_n hx hb dL_removes_41 rfl (lv_at hl 3 rfl) ?_
      refine lv_iload_n hx hb dL_removes_42 rfl (lv_at hl 4 rfl) ?_
      refine lv_iload_n hx hb dL_removes_43 rfl (lv_at hl 5 rfl) ?_
      refine lv_iload_n hx hb dL_removes_44 rfl (lv_at hl 6 rfl) ?_
      refine m_callVi X (ci := 7) rfl hx2 hK hw hZ hS hA (As := [.int (nI i), .int (nI k), .int (nI j)]) (rest := []) (n_find l G dce _ M13 hlt x ad ca f P n w y2 z2 h2 hn hi hk2 (nI j)) (cwV 3 hts gL_removes_X6_find rfl rfl rfl (by decide +kernel) ⟨Nat.le_of_ble_eq_true rfl, Nat.le_of_ble_eq_true rfl⟩) rfl hl.1 rfl (Nat.le_of_ble_eq_true rfl) dL_removes_45 (Nat.le_of_ble_eq_true rfl) (Nat.le_of_ble_eq_true rfl) (fun r16 M15 H locs hp hw hS hz hk => ?_)
      obtain ⟨er3, y3, h3⟩ := hp
      rw [er3]
      obtain ⟨z3, e3⟩ : ∃ zz9, zz9 = kFi i k (nI j) z2 := ⟨_, rfl⟩
      rw [← e3] at h3
      have hx3 : M15 x = some (.inr (7, [.ref (ad 0), .ref (ad 1), .ref (ad 2), .ref (ad 3)])) := h3.1.1.1
      rw [hgn.1, show bI false = (0 : Int32) from rfl]
      have hzz := e3.trans hgn.2
      refine lv_if_ne (tgt := 55) hx hb dL_removes_48 (by decide) (fun c_48 => absurd (by decide) c_48) (fun _ => ?_)
      refine lv_iconst (v := 1) hx hb dL_removes_51 (by decide) ?_
      refine lv_goto (tgt := 56) hx hb dL_removes_52 (by decide) ?_
      refine lv_istore (lv' := [(7, .int 1), (6, .int (nI (rmC i j z1 + 1))), (5, .int (nI (tot fLive i z1))), (4, .int (nI (rmC i j z1))), (0, .ref x), (1, .int (nI i)), (2, .int (nI k)), (3, .int (nI j))]) hx hb dL_removes_56 hl (by decide) rfl (fun ls hl => ?_)
      refine lv_iload hx hb dL_removes_58 (lv_at hl 0 rfl) ?_
      refine lv_if_eq (tgt := 80) hx hb dL_removes_60 (by decide) (fun c_60 => absurd c_60 (by decide)) (fun _ => ?_)
      refine lv_aload_n hx hb dL_removes_63 rfl (lv_at hl 4 rfl) ?_
      refine lv_iload_n hx hb dL_removes_64 rfl (lv_at hl 5 rfl) ?_
      refine m_callVi X (ci := 7) rfl hx3 hK hw hZ hS hA (As := [.int (nI i)]) (rest := []) (n_known l G dce _ M15 hlt x ad ca f P n w y3 z3 h3 hn hi) (cwV 1 hts gL_removes_X6_known rfl rfl rfl (by decide +kernel) ⟨Nat.le_of_ble_eq_true rfl, Nat.le_of_ble_eq_true rfl⟩) rfl hl.1 rfl (Nat.le_of_ble_eq_true rfl) dL_removes_65 (Nat.le_of_ble_eq_true rfl) (Nat.le_of_ble_eq_true rfl) (fun r18 M17 H locs hp hw hS hz hk => ?_)
      rw [hp.2] at hw
      rw [hp.1]
      rw [hzz]
      refine lv_iload hx hb dL_removes_68 (lv_at hl 2 rfl) ?_
      refine lv_iload hx hb dL_removes_70 (lv_at hl 1 rfl) ?_
      refine lv_isub hx hb dL_removes_72 ?_
      refine lv_icmp_lt (tgt := 80) hx hb dL_removes_73 (by decide) (fun c_73 => ?_) (fun c_73 => ?_)
      · exact (by exfalso; first | exact nI_lts (by omega) (by omega) (by omega) hkn c_73 | exact nI_lts (b := 1) (by omega) (by omega) (by omega) hkn c_73)
      · refine lv_iconst (v := 1) hx hb dL_removes_76 (by decide) ?_
        refine lv_goto (tgt := 81) hx hb dL_removes_77 (by decide) ?_
        exact m_zret X (by decide) hK hw hS (by exact ⟨rfl, y3, z3, h3, by rw [hzz, e2, e1]; exact (zS.it zS.ld _ _).tr zS.rmA⟩) (by omega) (by omega) dL_removes_81
set_option maxHeartbeats 4000000 in
set_option maxRecDepth 100000 in
theorem c_finds (l : Launch) (G : gG) (dce sz : Nat) (M : gM) (hlt : l.stackTraces = false) (x : Nat) (ad : Nat → Nat) (ca : Nat) (f : Nat → Int32) (P : Nat → Prop) (n w : Nat) (y : cY) (z : cZ) (h : LC G dce x ad ca f P n w M y z) (hn : n ≤ 511) (i k j : Nat) (hi : i < 3) (hk2 : k < 2) (hj : j < zN z k) (hfk : f k = nI (zN z k)) : mI l yL_finds wsL_finds ({ frames := 8, cells := 15, slots := 90, locals := 133 }) G dce sz M [.ref x, .ref ca, .int (nI i), .int (nI k), .int (nI j)] (fun r M' => r = 1 ∧ ∃ (y1 : cY) (z1 : cZ), LC G dce x ad ca f P n (w) M' y1 z1 ∧ zS z z1) (15) (90) := by
  have hx9 : M x = some (.inr (7, [.ref (ad 0), .ref (ad 1), .ref (ad 2), .ref (ad 3)])) := h.1.1.1
  refine wMet (Qc := QI G _) (cc := cL_finds) (maxL := 7) (ret := (some .boolean)) (by decide) rfl (Nat.le_of_ble_eq_true rfl) ?_
  intro p e s m below meth c A ls X hnm hw hK hZ hA hS hsz eA hl
  obtain ⟨hx, hb, hr, hts, hown, hlk, hml⟩ := id X
  have hl : lv_has ls 7 [(0, .ref x), (1, .ref ca), (2, .int (nI i)), (3, .int (nI k)), (4, .int (nI j))] := hl
  refine lv_aload_n hx hb dL_finds_0 rfl (lv_at hl 0 rfl) ?_
  refine lv_iload_n hx hb dL_finds_1 rfl (lv_at hl 2 rfl) ?_
  refine m_callVi X (ci := 7) rfl hx9 hK hw hZ hS hA (As := [.int (nI i)]) (rest := []) (n_known l G dce _ M hlt x ad ca f P n w y z h hn hi) (cwV 1 hts gL_finds_X6_known rfl rfl rfl (by decide +kernel) ⟨Nat.le_of_ble_eq_true rfl, Nat.le_of_ble_eq_true rfl⟩) rfl hl.1 rfl (Nat.le_of_ble_eq_true rfl) dL_finds_2 (Nat.le_of_ble_eq_true rfl) (Nat.le_of_ble_eq_true rfl) (fun r2 M1 H locs hp hw hS hz hk => ?_)
  rw [hp.2] at hw
  rw [hp.1]
  refine lv_istore (lv' := [(5, .int (nI (tot fLive i z))), (0, .ref x), (1, .ref ca), (2, .int (nI i)), (3, .int (nI k)), (4, .int (nI j))]) hx hb dL_finds_5 hl (by decide) rfl (fun ls hl => ?_)
  refine lv_aload_n hx hb dL_finds_7 rfl (lv_at hl 1 rfl) ?_
  refine lv_iload_n hx hb dL_finds_8 rfl (lv_at hl 3 rfl) ?_
  refine lv_iload_n hx hb dL_finds_9 rfl (lv_at hl 4 rfl) ?_
  refine lv_iload hx hb dL_finds_10 (lv_at hl 5 rfl) ?_
  refine m_callVi X (ci := 7) rfl hx9 hK hw hZ hS hA (As := [.int (nI i), .int (nI k), .int (nI j)]) (rest := []) (n_find l G dce _ M hlt x ad ca f P n w y z h hn hi hk2 (nI j)) (cwV 3 hts gL_finds_X6_find rfl rfl rfl (by decide +kernel) ⟨Nat.le_of_ble_eq_true rfl, Nat.le_of_ble_eq_true rfl⟩) rfl hl.1 rfl (Nat.le_of_ble_eq_true rfl) dL_finds_12 (Nat.le_of_ble_eq_true rfl) (Nat.le_of_ble_eq_true rfl) (fun r4 M3 H locs hp hw hS hz hk => ?_)
  obtain ⟨er1, y1, h1⟩ := hp
  rw [er1]
  obtain ⟨z1, e1⟩ : ∃ zz9, zz9 = kFi i k (nI j) z := ⟨_, rfl⟩
  rw [← e1] at h1
  have hx1 : M3 x = some (.inr (7, [.ref (ad 0), .ref (ad 1), .ref (ad 2), .ref (ad 3)])) := h1.1.1.1
  rw [fi_l h.2.1.1 (h.2.1.n8 (by omega)) hi hk2 hj, ← e1]
  obtain ⟨b9, hb9⟩ : ∃ b0, b0 = fLive (zE z1 (sL i k) j) := ⟨_, rfl⟩
  rw [← hb9]
  have hj1 : j < zN z1 k := by rw [e1, kFi_N]; exact hj
  have hc := fi_cnt h.2.1.2.2.1.1 h.2.1.1 (h.2.1.n8 (by omega)) hi hk2 (nI j)
  rw [← e1] at hc
  have hb1 := tot_b (f := fLive) h.2.1.1 hi (h.2.1.n8 (by omega))
  refine lv_istore (lv' := [(6, .int (bI b9)), (5, .int (nI (tot fLive i z))), (0, .ref x), (1, .ref ca), (2, .int (nI i)), (3, .int (nI k)), (4, .int (nI j))]) hx hb dL_finds_15 hl (by decide) rfl (fun ls hl => ?_)
  refine lv_aload_n hx hb dL_finds_17 rfl (lv_at hl 2 rfl) ?_
  refine lv_iload_n hx hb dL_finds_18 rfl (lv_at hl 4 rfl) ?_
  refine lv_iload_n hx hb dL_finds_19 rfl (lv_at hl 5 rfl) ?_
  refine lv_iload hx hb dL_finds_20 (lv_at hl 6 rfl) ?_
  refine m_callVi X (ci := 7) rfl hx1 hK hw hZ hS hA (As := [.int (nI i), .int (nI k), .int (nI j)]) (rest := []) (n_find l G dce _ M3 hlt x ad ca f P n w y1 z1 h1 hn hi hk2 (nI j)) (cwV 3 hts gL_finds_X6_find rfl rfl rfl (by decide +kernel) ⟨Nat.le_of_ble_eq_true rfl, Nat.le_of_ble_eq_true rfl⟩) rfl hl.1 rfl (Nat.le_of_ble_eq_true rfl) dL_finds_22 (Nat.le_of_ble_eq_true rfl) (Nat.le_of_ble_eq_true rfl) (fun r6 M5 H locs hp hw hS hz hk => ?_)
  obtain ⟨er2, y2, h2⟩ := hp
  rw [er2]
  obtain ⟨z2, e2⟩ : ∃ zz9, zz9 = kFi i k (nI j) z1 := ⟨_, rfl⟩
  rw [← e2] at h2
  have hx2 : M5 x = some (.inr (7, [.ref (ad 0), .ref (ad 1), .ref (ad 2), .ref (ad 3)])) := h2.1.1.1
  rw [fi_l h1.2.1.1 (h1.2.1.n8 (by omega)) hi hk2 hj1]
  have hz2 : kFi i k (nI j) z1 = z1 := by rw [e1]; exact fi_2 h.2.1.1 (h.2.1.n8 (by omega)) hi hk2 hj
  rw [hz2, ← hb9]
  rw [hz2] at e2
  refine lv_iload hx hb dL_finds_25 (lv_at hl 0 rfl) ?_
  refine lv_icmp_ne (tgt := 98) hx hb dL_finds_27 (by decide) (fun c_27 => ?_) (fun c_27 => ?_)
  · exact (by exfalso; first | exact c_27 rfl | exact nI_nlt hc.2.1 (by omega) c_39 | exact nI_nlt hc.1 (by omega) c_49 | exact nOK_0 hv3.2 c_77 | exact okK_ge (h3.2.1.n8 (by omega)) hk2 hv3.1 c_91)
  · refine lv_aload_n hx hb dL_finds_30 rfl (lv_at hl 2 rfl) ?_
    refine lv_iload_n hx hb dL_finds_31 rfl (lv_at hl 4 rfl) ?_
    refine m_callVi X (ci := 7) rfl hx2 hK hw hZ hS hA (As := [.int (nI i)]) (rest := []) (n_known l G dce _ M5 hlt x ad ca f P n w y2 z2 h2 hn hi) (cwV 1 hts gL_finds_X6_known rfl rfl rfl (by decide +kernel) ⟨Nat.le_of_ble_eq_true rfl, Nat.le_of_ble_eq_true rfl⟩) rfl hl.1 rfl (Nat.le_of_ble_eq_true rfl) dL_finds_32 (Nat.le_of_ble_eq_true rfl) (Nat.le_of_ble_eq_true rfl) (fun r8 M7 H locs hp hw hS hz hk => ?_)
    rw [hp.2] at hw
    rw [hp.1]
    rw [e2]
    refine lv_iload hx hb dL_finds_35 (lv_at hl 1 rfl) ?_
    refine lv_iconst (v := 1) hx hb dL_finds_37 (by decide) ?_
    refine lv_iadd hx hb dL_finds_38 ?_
    rw [nI_1]
    refine lv_icmp_gt (tgt := 98) hx hb dL_finds_39 (by decide) (fun c_39 => ?_) (fun c_39 => ?_)
    · exact (by exfalso; first | exact c_27 rfl | exact nI_nlt hc.2.1 (by omega) c_39 | exact nI_nlt hc.1 (by omega) c_49 | exact nOK_0 hv3.2 c_77 | exact okK_ge (h3.2.1.n8 (by omega)) hk2 hv3.1 c_91)
    · refine lv_aload_n hx hb dL_finds_42 rfl (lv_at hl 2 rfl) ?_
      refine lv_iload_n hx hb dL_finds_43 rfl (lv_at hl 4 rfl) ?_
      refine m_callVi X (ci := 7) rfl hx2 hK hw hZ hS hA (As := [.int (nI i)]) (rest := []) (n_known l G dce _ M5 hlt x ad ca f P n w y2 z2 h2 hn hi) (cwV 1 hts gL_finds_X6_known rfl rfl rfl (by decide +kernel) ⟨Nat.le_of_ble_eq_true rfl, Nat.le_of_ble_eq_true rfl⟩) rfl hl.1 rfl (Nat.le_of_ble_eq_true rfl) dL_finds_44 (Nat.le_of_ble_eq_true rfl) (Nat.le_of_ble_eq_true rfl) (fun r10 M9 H locs hp hw hS hz hk => ?_)
      rw [hp.2] at hw
      rw [hp.1]
      rw [e2]
      refine lv_iload hx hb dL_finds_47 (lv_at hl 1 rfl) ?_
      refine lv_icmp_lt (tgt := 98) hx hb dL_finds_49 (by decide) (fun c_49 => ?_) (fun c_49 => ?_)
      · exact (by exfalso; first | exact c_27 rfl | exact nI_nlt hc.2.1 (by omega) c_39 | exact nI_nlt hc.1 (by omega) c_49 | exact nOK_0 hv3.2 c_77 | exact okK_ge (h3.2.1.n8 (by omega)) hk2 hv3.1 c_91)
      · refine lv_aload_n hx hb dL_finds_52 rfl (lv_at hl 2 rfl) ?_
        refine lv_iload_n hx hb dL_finds_53 rfl (lv_at hl 4 rfl) ?_
        refine lv_iload_n hx hb dL_finds_54 rfl (lv_at hl 5 rfl) ?_
        refine lv_aload_n hx hb dL_finds_55 rfl (lv_at hl 3 rfl) ?_
        refine lv_iload_n hx hb dL_finds_56 rfl (lv_at hl 5 rfl) ?_
        refine m_iald X hK hw h2.2.2.1 (i := nI k) (vp_in_nI (by omega) (by decide)) dL_finds_57 ?_
        rw [show f (nI k).toNatClampNeg = nI (zN z k) from (congrArg f (nI_clamp (by omega))).trans hfk]
        refine m_callVi X (ci := 7) rfl hx2 hK hw hZ hS hA (As := [.int (nI i), .int (nI k), .int (nI (zN z k))]) (rest := []) (n_find l G dce _ M5 hlt x ad ca f P n w y2 z2 h2 hn hi hk2 (nI (zN z k))) (cwV 3 hts gL_finds_X6_find rfl rfl rfl (by decide +kernel) ⟨Nat.le_of_ble_eq_true rfl, Nat.le_of_ble_eq_true rfl⟩) rfl hl.1 rfl (Nat.le_of_ble_eq_true rfl) dL_finds_58 (Nat.le_of_ble_eq_true rfl) (Nat.le_of_ble_eq_true rfl) (fun r12 M11 H locs hp hw hS hz hk => ?_)
        obtain ⟨er3, y3, h3⟩ := hp
        rw [er3]
        obtain ⟨z3, e3⟩ : ∃ zz9, zz9 = kFi i k (nI (zN z k)) z2 := ⟨_, rfl⟩
        rw [← e3] at h3
        have hx3 : M11 x = some (.inr (7, [.ref (ad 0), .ref (ad 1), .ref (ad 2), .ref (ad 3)])) := h3.1.1.1
        have ho := fi_out (ky := nI (zN z k)) h2.2.1.1 hi hk2 (by rw [e2, e1, kFi_N]; exact inK_n0 ((h.2.1.n8 (by omega)) k (by omega)))
        rw [ho.1] at e3
        rw [ho.1, ho.2, show bI false = (0 : Int32) from rfl]
        have e39 := e3.trans e2
        have hj3 : j < zN z3 k := by rw [e39]; exact hj1
        refine lv_if_ne (tgt := 98) hx hb dL_finds_61 (by decide) (fun c_61 => absurd (by decide) c_61) (fun _ => ?_)
        refine lv_iload hx hb dL_finds_64 (lv_at hl 0 rfl) ?_
        refine lv_if_eq (tgt := 94) hx hb dL_finds_66 (by decide) (fun c_66 => ?_) (fun c_66 => ?_)
        · refine lv_iconst (v := 1) hx hb dL_finds_94 (by decide) ?_
          refine lv_goto (tgt := 99) hx hb dL_finds_95 (by decide) ?_
          exact m_zret X (by decide) hK hw hS (by exact ⟨rfl, y3, z3, h3, by rw [e39, e1]; exact zS.fi⟩) (by omega) (by omega) dL_finds_99
        · have hl3 : fLive (zE z3 (sL i k) j) = true := by rw [e39, ← hb9]; exact bI_t c_66
          have hv3 := h3.2.1.2.2.1.1.2.1.1 i k j hi hk2 hj3 (fLive_1 hl3).1
          refine lv_aload_n hx hb dL_finds_69 rfl (lv_at hl 2 rfl) ?_
          refine lv_iload_n hx hb dL_finds_70 rfl (lv_at hl 4 rfl) ?_
          refine lv_iload_n hx hb dL_finds_71 rfl (lv_at hl 5 rfl) ?_
          refine lv_iload hx hb dL_finds_72 (lv_at hl 6 rfl) ?_
          refine m_callVi X (ci := 7) rfl hx3 hK hw hZ hS hA (As := [.int (nI i), .int (nI k), .int (nI j)]) (rest := []) (n_name l G dce _ M11 hlt x ad ca f P n w y3 z3 h3 hn hi hk2 hj3 hl3) (cwV 3 hts gL_finds_X6_name rfl rfl rfl (by decide +kernel) ⟨Nat.le_of_ble_eq_true rfl, Nat.le_of_ble_eq_true rfl⟩) rfl hl.1 rfl (Nat.le_of_ble_eq_true rfl) dL_finds_74 (Nat.le_of_ble_eq_true rfl) (Nat.le_of_ble_eq_true rfl) (fun r14 M13 H locs hp hw hS hz hk => ?_)
          rw [hp.2] at hw
          rw [hp.1]
          refine lv_if_lt (tgt := 98) hx hb dL_finds_77 (by decide) (fun c_77 => ?_) (fun c_77 => ?_)
          · exact (by exfalso; first | exact c_27 rfl | exact nI_nlt hc.2.1 (by omega) c_39 | exact nI_nlt hc.1 (by omega) c_49 | exact nOK_0 hv3.2 c_77 | exact okK_ge (h3.2.1.n8 (by omega)) hk2 hv3.1 c_91)
          · refine lv_aload_n hx hb dL_finds_80 rfl (lv_at hl 2 rfl) ?_
            refine lv_iload_n hx hb dL_finds_81 rfl (lv_at hl 4 rfl) ?_
            refine lv_iload_n hx hb dL_finds_82 rfl (lv_at hl 5 rfl) ?_
            refine lv_iload hx hb dL_finds_83 (lv_at hl 6 rfl) ?_
            refine m_callVi X (ci := 7) rfl hx3 hK hw hZ hS hA (As := [.int (nI i), .int (nI k), .int (nI j)]) (rest := []) (n_reference l G dce _ M11 hlt x ad ca f P n w y3 z3 h3 hn hi hk2 hj3 hl3) (cwV 3 hts gL_finds_X6_reference rfl rfl rfl (by decide +kernel) ⟨Nat.le_of_ble_eq_true rfl, Nat.le_of_ble_eq_true rfl⟩) rfl hl.1 rfl (Nat.le_of_ble_eq_true rfl) dL_finds_85 (Nat.le_of_ble_eq_true rfl) (Nat.le_of_ble_eq_true rfl) (fun r16 M15 H locs hp hw hS hz hk => ?_)
            rw [hp.2] at hw
            rw [hp.1]
            refine lv_iload_n hx hb dL_finds_88 rfl (lv_at hl 5 rfl) ?_
            refine lv_iconst (v := 1) hx hb dL_finds_89 (by decide) ?_
            refine lv_isub hx hb dL_finds_90 ?_
            refine lv_icmp_lt (tgt := 98) hx hb dL_finds_91 (by decide) (fun c_91 => ?_) (fun c_91 => ?_)
            · exact (by exfalso; first | exact c_27 rfl | exact nI_nlt hc.2.1 (by omega) c_39 | exact nI_nlt hc.1 (by omega) c_49 | exact nOK_0 hv3.2 c_77 | exact okK_ge (h3.2.1.n8 (by omega)) hk2 hv3.1 c_91)
            · refine lv_iconst (v := 1) hx hb dL_finds_94 (by decide) ?_
              refine lv_goto (tgt := 99) hx hb dL_finds_95 (by decide) ?_
              exact m_zret X (by decide) hK hw hS (by exact ⟨rfl, y3, z3, h3, by rw [e39, e1]; exact zS.fi⟩) (by omega) (by omega) dL_finds_99
