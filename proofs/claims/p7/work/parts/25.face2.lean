set_option maxHeartbeats 4000000 in
set_option maxRecDepth 100000 in
theorem c_find (l : Launch) (G : gG) (dce sz : Nat) (M : gM) (hlt : l.stackTraces = false) (x : Nat) (ad : Nat → Nat) (y : cY) (z : cZ) (hcw : CW G dce x ad M y z) (heq : cEq z) (si kd ky : Int32) : xI l yX6_find wsX6_find ({ frames := 7, cells := 2, slots := 12, locals := 103 }) G dce sz M [.ref x, .int si, .int kd, .int ky] (fun r M' => ∃ i k, aS si i ∧ aK kd k ∧ r = bI (fLive (eV (kFi i k ky z) i k ky)) ∧ cTo G dce x ad M y z M' (kFi i k ky z)) (fun E M' => ((E = xIOB ∧ sOK si = false) ∨ (E = xIAE ∧ sOK si = true ∧ kOK kd = false)) ∧ M' = M) (2) (12) := by
  obtain ⟨f, hsa, hf⟩ := hcw.1.2.2.1
  have hx9 : M x = some (.inr (7, [.ref (ad 0), .ref (ad 1), .ref (ad 2), .ref (ad 3)])) := hcw.1.1
  refine xMet (Qc := QI G _) (XC := QX G _) (cc := cX6_find) (maxL := 7) (ret := (some .boolean)) (by decide) rfl (Nat.le_of_ble_eq_true rfl) ?_
  intro p e s m below meth c A ls X hno hnm hw hK hZ hA hS hsz eA hl
  obtain ⟨hx, hb, hr, hts, hown, hlk, hml⟩ := id X
  have hl : lv_has ls 7 [(0, .ref x), (1, .int si), (2, .int kd), (3, .int ky)] := hl
  have iX0 : ∀ w ∈ wsX00, w ∈ wsX6_find := by decide +kernel
  have iX3 : ∀ w ∈ wsX30, w ∈ wsX6_find := by decide +kernel
  refine lv_aload_n hx hb dX6_find_0 rfl (lv_at hl 0 rfl) ?_
  refine lv_iload_n hx hb dX6_find_1 rfl (lv_at hl 1 rfl) ?_
  refine x_callVr X (ci := 7) rfl hx9 hK hw hZ hS hA (As := [.int si]) (rest := []) (c_X6_sessionAt l G dce _ M hlt x (ad 0) (ad 1) (ad 2) (ad 3) hcw.1.1 f (fun i => ad (4 + i)) hsa hf si) (cwV 1 hts gX6_find_X6_sessionAt rfl rfl rfl (by decide +kernel) ⟨Nat.le_of_ble_eq_true rfl, Nat.le_of_ble_eq_true rfl⟩) rfl hl.1 rfl (Nat.le_of_ble_eq_true rfl) dX6_find_2 (Nat.le_of_ble_eq_true rfl) (Nat.le_of_ble_eq_true rfl) (fun E ce q9 M1 H locs hp hw hS hz hk hce hcv hcl9 => ?_) (fun r2 M1 H locs hp hw hS hz hk => ?_)
  · exact m_out X hno hK hw hS hce hcv hcl9 (by omega) (by omega) (⟨Or.inl ⟨hp.1, hp.2.1⟩, hp.2.2⟩)
  obtain ⟨⟨i, hi, ei, er⟩, hso, eM⟩ := hp
  have er : r2 = ad (4 + i) := er
  rw [er]
  rw [eM] at hw
  have hs9 : M (ad (4 + i)) = some (.inr (5, [.ref (ad (12 + 2 * i)), .ref (ad (13 + 2 * i)), .ref (ad (40 + i))])) := (hcw.1.2.2.2 i hi).1
  refine lv_astore (lv' := [(4, .ref (ad (4 + i))), (0, .ref x), (1, .int si), (2, .int kd), (3, .int ky)]) hx hb dX6_find_5 hl (by decide) rfl (fun ls hl => ?_)
  refine lv_iload_n hx hb dX6_find_7 rfl (lv_at hl 3 rfl) ?_
  refine x_callSv X hK hw hZ hS hA (As := [.int kd]) (rest := []) (c_X6_checkKind l G dce _ M hlt kd) (va_cwS 1 hts gX6_find_X6_checkKind rfl rfl rfl (by decide +kernel) ⟨Nat.le_of_ble_eq_true rfl, Nat.le_of_ble_eq_true rfl⟩) rfl hl.1 rfl (Nat.le_of_ble_eq_true rfl) dX6_find_8 (Nat.le_of_ble_eq_true rfl) (Nat.le_of_ble_eq_true rfl) (fun E ce q9 M3 H locs hp hw hS hz hk hce hcv hcl9 => ?_) (fun M3 H locs hp hw hS hz hk => ?_)
  · exact m_out X hno hK hw hS hce hcv hcl9 (by omega) (by omega) (⟨Or.inr ⟨hp.1, hso, hp.2.1⟩, hp.2.2⟩)
  have hko := hp.1
  obtain ⟨k, hk2, ek⟩ := kOK_k hko
  rw [hp.2] at hw
  refine lv_aload_n hx hb dX6_find_11 rfl (lv_at hl 1 rfl) ?_
  refine lv_iload_n hx hb dX6_find_12 rfl (lv_at hl 3 rfl) ?_
  refine m_callVr X (ci := 7) rfl hx9 hK hw hZ hS hA (As := [.int kd]) (rest := []) (c_X6_tableOf l G dce _ M x (ad 0) (ad 1) (ad 2) (ad 3) hcw.1.1 kd) (cwV 1 hts gX6_find_X6_tableOf rfl rfl rfl (by decide +kernel) ⟨Nat.le_of_ble_eq_true rfl, Nat.le_of_ble_eq_true rfl⟩) rfl hl.1 rfl (Nat.le_of_ble_eq_true rfl) dX6_find_13 (Nat.le_of_ble_eq_true rfl) (Nat.le_of_ble_eq_true rfl) (fun r5 M4 H locs hp hw hS hz hk => ?_)
  rw [hp.2] at hw
  rw [hp.1, (ta_ifK hk2 ek)]
  refine lv_iload_n hx hb dX6_find_16 rfl (lv_at hl 4 rfl) ?_
  have ht9 : M (ad k) = some (.inr (6, [.ref (ad (10 + k)), .ref (ad (20 + k))])) := (hcw.1.2.1 k hk2).1
  refine m_callVr X (ci := 6) rfl ht9 hK hw hZ hS hA (As := [.int ky]) (rest := []) (c_rowAt l G dce _ M x ad y z hcw k hk2 ky) (cwV 1 hts gX6_find_X5_rowAt rfl rfl rfl (by decide +kernel) ⟨Nat.le_of_ble_eq_true rfl, Nat.le_of_ble_eq_true rfl⟩) rfl hl.1 rfl (Nat.le_of_ble_eq_true rfl) dX6_find_17 (Nat.le_of_ble_eq_true rfl) (Nat.le_of_ble_eq_true rfl) (fun r7 M6 H locs hp hw hS hz hk => ?_)
  rw [hp.2] at hw
  rw [hp.1]
  have hrw : M ((rwA ad (yO y) (zN z) k ky)) = some (eR (rV z k ky)) := CW_rA hcw hk2 ky
  obtain ⟨rb, rn, rr, rv, hrv⟩ : ∃ rb rn rr rv, (rV z k ky) = (rb, rn, rr, rv) := ⟨_, _, _, _, rfl⟩
  have hrc : M ((rwA ad (yO y) (zN z) k ky)) = some (.inr (4, [.int (bI rb), .int rn, .int rr, .int rv])) := by rw [hrw, hrv]; rfl
  refine lv_astore (lv' := [(5, .ref (rwA ad (yO y) (zN z) k ky)), (4, .ref (ad (4 + i))), (0, .ref x), (1, .int si), (2, .int kd), (3, .int ky)]) hx hb dX6_find_20 hl (by decide) rfl (fun ls hl => ?_)
  refine lv_aload hx hb dX6_find_22 (lv_at hl 1 rfl) ?_
  refine lv_iload_n hx hb dX6_find_24 rfl (lv_at hl 4 rfl) ?_
  refine lv_iload_n hx hb dX6_find_25 rfl (lv_at hl 5 rfl) ?_
  refine m_callVr X (ci := 5) rfl hs9 hK hw hZ hS hA (As := [.int kd, .int ky]) (rest := []) (c_entityAtK l G dce _ M x ad y z hcw i k hi hk2 ky kd ek) (cwV 2 hts gX6_find_X4_entityAt rfl rfl rfl (by decide +kernel) ⟨Nat.le_of_ble_eq_true rfl, Nat.le_of_ble_eq_true rfl⟩) rfl hl.1 rfl (Nat.le_of_ble_eq_true rfl) dX6_find_26 (Nat.le_of_ble_eq_true rfl) (Nat.le_of_ble_eq_true rfl) (fun r9 M8 H locs hp hw hS hz hk => ?_)
  rw [hp.2] at hw
  rw [hp.1]
  have hen : M ((enA ad (yO y) (zN z) i k ky)) = some (eE (eV z i k ky)) := CW_eA hcw hi hk2 ky
  obtain ⟨b1, b2, b3, nm, rf, sn, sr, sv, hev⟩ : ∃ b1 b2 b3 nm rf sn sr sv, (eV z i k ky) = (b1, b2, b3, nm, rf, sn, sr, sv) := ⟨_, _, _, _, _, _, _, _, rfl⟩
  have hec : M ((enA ad (yO y) (zN z) i k ky)) = some (.inr (1, [.int (bI b1), .int (bI b2), .int (bI b3), .int nm, .int rf, .int sn, .int sr, .int sv])) := by rw [hen, hev]; rfl
  refine lv_astore (lv' := [(6, .ref (enA ad (yO y) (zN z) i k ky)), (5, .ref (rwA ad (yO y) (zN z) k ky)), (4, .ref (ad (4 + i))), (0, .ref x), (1, .int si), (2, .int kd), (3, .int ky)]) hx hb dX6_find_29 hl (by decide) rfl (fun ls hl => ?_)
  refine lv_aload hx hb dX6_find_31 (lv_at hl 1 rfl) ?_
  refine m_get X iX3 hK hw hrc rfl 0 (by decide) (ref := "ObjectMapper$Row") (by decide +kernel) (Or.inl rfl) rfl dX6_find_33 ?_
  refine lv_if_eq (tgt := 54) hx hb dX6_find_36 (by decide) (fun c_36 => ?_) (fun c_36 => ?_)
  · have hF : kFi i k ky z = z := by
      unfold kFi
      refine if_neg ?_
      rw [hrv, hev]
      simp_all [bI_0]
    have hc2 : CW G dce x ad M y (kFi i k ky z) := by rw [hF]; exact hcw
    have hs2 : cStep ad dce y z M y (kFi i k ky z) M := by rw [hF]; exact cStep.rf
    have hen2 : M (enA ad (yO y) (zN z) i k ky) = some (eE (eV (kFi i k ky z) i k ky)) := by rw [hF]; exact hen
    refine lv_aload hx hb dX6_find_54 (lv_at hl 0 rfl) ?_
    refine m_callVi X (ci := 1) rfl hec hK hw hZ hS hA (As := []) (rest := []) (c_X0_isLive l G dce _ M (enA ad (yO y) (zN z) i k ky) (eV (kFi i k ky z) i k ky) hen2) (cwV 0 hts gX6_find_X0_isLive rfl rfl rfl (by decide +kernel) ⟨Nat.le_of_ble_eq_true rfl, Nat.le_of_ble_eq_true rfl⟩) rfl hl.1 rfl (Nat.le_of_ble_eq_true rfl) dX6_find_56 (Nat.le_of_ble_eq_true rfl) (Nat.le_of_ble_eq_true rfl) (fun r11 M10 H locs hp hw hS hz hk => ?_)
    rw [hp.2] at hw
    rw [hp.1]
    refine vx_ret ?_
    exact m_zret X (bI_nar _) hK hw hS (by exact ⟨i, k, ⟨hi, ei⟩, ⟨hk2, ek⟩, rfl, ⟨y, rfl, hc2, hs2⟩⟩) (by omega) (by omega) dX6_find_59
  · refine lv_aload hx hb dX6_find_39 (lv_at hl 0 rfl) ?_
    refine m_get X iX0 hK hw hec rfl 0 (by decide) (ref := "ObjectMapper$Entity") (by decide +kernel) (Or.inl rfl) rfl dX6_find_41 ?_
    refine lv_if_ne (tgt := 54) hx hb dX6_find_44 (by decide) (fun c_44 => ?_) (fun c_44 => ?_)
    · have hF : kFi i k ky z = z := by
        unfold kFi
        refine if_neg ?_
        rw [hrv, hev]
        simp_all [bI_0]
      have hc2 : CW G dce x ad M y (kFi i k ky z) := by rw [hF]; exact hcw
      have hs2 : cStep ad dce y z M y (kFi i k ky z) M := by rw [hF]; exact cStep.rf
      have hen2 : M (enA ad (yO y) (zN z) i k ky) = some (eE (eV (kFi i k ky z) i k ky)) := by rw [hF]; exact hen
      refine lv_aload hx hb dX6_find_54 (lv_at hl 0 rfl) ?_
      refine m_callVi X (ci := 1) rfl hec hK hw hZ hS hA (As := []) (rest := []) (c_X0_isLive l G dce _ M (enA ad (yO y) (zN z) i k ky) (eV (kFi i k ky z) i k ky) hen2) (cwV 0 hts gX6_find_X0_isLive rfl rfl rfl (by decide +kernel) ⟨Nat.le_of_ble_eq_true rfl, Nat.le_of_ble_eq_true rfl⟩) rfl hl.1 rfl (Nat.le_of_ble_eq_true rfl) dX6_find_56 (Nat.le_of_ble_eq_true rfl) (Nat.le_of_ble_eq_true rfl) (fun r13 M12 H locs hp hw hS hz hk => ?_)
      rw [hp.2] at hw
      rw [hp.1]
      refine vx_ret ?_
      exact m_zret X (bI_nar _) hK hw hS (by exact ⟨i, k, ⟨hi, ei⟩, ⟨hk2, ek⟩, rfl, ⟨y, rfl, hc2, hs2⟩⟩) (by omega) (by omega) dX6_find_59
    · refine lv_aload hx hb dX6_find_47 (lv_at hl 0 rfl) ?_
      refine lv_aload hx hb dX6_find_49 (lv_at hl 1 rfl) ?_
      refine m_callVv X (ci := 1) rfl hec hK hw hZ hS hA (As := [.ref (rwA ad (yO y) (zN z) k ky)]) (rest := []) (c_X0_load l G dce _ M (enA ad (yO y) (zN z) i k ky) (eV z i k ky) hen (rwA ad (yO y) (zN z) k ky) (rV z k ky) hrw) (cwV 1 hts gX6_find_X0_load rfl rfl rfl (by decide +kernel) ⟨Nat.le_of_ble_eq_true rfl, Nat.le_of_ble_eq_true rfl⟩) rfl hl.1 rfl (Nat.le_of_ble_eq_true rfl) dX6_find_51 (Nat.le_of_ble_eq_true rfl) (Nat.le_of_ble_eq_true rfl) (fun M14 H locs hp hw hS hz hk => ?_)
      have hky : inK (zN z k) ky = true := by
        by_cases q : inK (zN z k) ky = true
        · exact q
        · exfalso; have h9 : rV z k ky = v0R := if_neg q; rw [h9] at hrv; have h8 : rb = false := (congrArg (fun q : vR => q.1) hrv).symm; rw [h8] at c_36; exact c_36 rfl
      obtain ⟨j, hjk, ej⟩ := inK_n (hcw.n (by omega)) hky
      have hjk2 : j < zN z (sL i k) := by rw [heq i k hi hk2]; exact hjk
      have hA9 : (enA ad (yO y) (zN z) i k ky) = yO y (sL i k) j := by rw [ej]; exact eA_in (hcw.n (by unfold sL; omega)) hjk2
      have hp9 := hp
      rw [hA9] at hp9
      have hF : kFi i k ky z = sE z (sL i k) j (fLoad (eV z i k ky) (rV z k ky)) := by
        unfold kFi
        have hcl : ky.toNatClampNeg = j := by rw [ej]; exact nI_clamp (by have := hcw.n (u := k) (by omega); omega)
        rw [hcl]
        refine if_pos ?_
        rw [hrv, hev]
        simp_all [bI_0]
      obtain ⟨hc2, hs2⟩ := hcw.setE (u := sL i k) (k := j) (by unfold sL; omega) (by unfold sL; omega) hjk2 hp9
      rw [← hF] at hc2 hs2
      have hB9 : enA ad (yO y) (zN (kFi i k ky z)) i k ky = (enA ad (yO y) (zN z) i k ky) := by rw [hF]; rfl
      have hen2 : M14 (enA ad (yO y) (zN z) i k ky) = some (eE (eV (kFi i k ky z) i k ky)) := by rw [← hB9]; exact CW_eA hc2 hi hk2 ky
      obtain ⟨w1, w2, w3, w4, w5, w6, w7, w8, hev2⟩ : ∃ w1 w2 w3 w4 w5 w6 w7 w8, eV (kFi i k ky z) i k ky = (w1, w2, w3, w4, w5, w6, w7, w8) := ⟨_, _, _, _, _, _, _, _, rfl⟩
      have hec2 : M14 (enA ad (yO y) (zN z) i k ky) = some (.inr (1, [.int (bI w1), .int (bI w2), .int (bI w3), .int w4, .int w5, .int w6, .int w7, .int w8])) := by rw [hen2, hev2]; rfl
      refine lv_aload hx hb dX6_find_54 (lv_at hl 0 rfl) ?_
      refine m_callVi X (ci := 1) rfl hec2 hK hw hZ hS hA (As := []) (rest := []) (c_X0_isLive l G dce _ M14 (enA ad (yO y) (zN z) i k ky) (eV (kFi i k ky z) i k ky) hen2) (cwV 0 hts gX6_find_X0_isLive rfl rfl rfl (by decide +kernel) ⟨Nat.le_of_ble_eq_true rfl, Nat.le_of_ble_eq_true rfl⟩) rfl hl.1 rfl (Nat.le_of_ble_eq_true rfl) dX6_find_56 (Nat.le_of_ble_eq_true rfl) (Nat.le_of_ble_eq_true rfl) (fun r16 M15 H locs hp hw hS hz hk => ?_)
      rw [hp.2] at hw
      rw [hp.1]
      refine vx_ret ?_
      exact m_zret X (bI_nar _) hK hw hS (by exact ⟨i, k, ⟨hi, ei⟩, ⟨hk2, ek⟩, rfl, ⟨y, rfl, hc2, hs2⟩⟩) (by omega) (by omega) dX6_find_59
set_option maxHeartbeats 4000000 in
set_option maxRecDepth 100000 in
theorem c_books (l : Launch) (G : gG) (dce sz : Nat) (M : gM) (hlt : l.stackTraces = false) (x : Nat) (ad : Nat → Nat) (y : cY) (z : cZ) (hcw : CW G dce x ad M y z) (heq : cEq z) (si au : Int32) : xI l yX6_books wsX6_books ({ frames := 7, cells := 2, slots := 12, locals := 114 }) G dce sz M [.ref x, .int si, .int au] (fun r M' => ∃ i, aS si i ∧ fLive (eV z i 0 au) = true ∧ r = nI (cnt (fun j => fRefs (zE (itr (kLd i 1 au) (zN z 1) z) (sL i 1) j) au) (zN z (sL i 1))) ∧ cTo G dce x ad M y z M' (itr (kLd i 1 au) (zN z 1) z)) (fun E M' => ((E = xIOB ∧ sOK si = false) ∨ (E = xISE ∧ ∃ i, aS si i ∧ fLive (eV z i 0 au) = false)) ∧ M' = M) (2) (12) := by
  obtain ⟨f, hsa, hf⟩ := hcw.1.2.2.1
  have hx9 : M x = some (.inr (7, [.ref (ad 0), .ref (ad 1), .ref (ad 2), .ref (ad 3)])) := hcw.1.1
  refine xMet (Qc := QI G _) (XC := QX G _) (cc := cX6_books) (maxL := 6) (ret := (some .int)) (by decide) rfl (Nat.le_of_ble_eq_true rfl) ?_
  intro p e s m below meth c A ls X hno hnm hw hK hZ hA hS hsz eA hl
  obtain ⟨hx, hb, hr, hts, hown, hlk, hml⟩ := id X
  have hl : lv_has ls 6 [(0, .ref x), (1, .int si), (2, .int au)] := hl
  refine lv_aload_n hx hb dX6_books_0 rfl (lv_at hl 0 rfl) ?_
  refine lv_iload_n hx hb dX6_books_1 rfl (lv_at hl 1 rfl) ?_
  refine x_callVr X (ci := 7) rfl hx9 hK hw hZ hS hA (As := [.int si]) (rest := []) (c_X6_sessionAt l G dce _ M hlt x (ad 0) (ad 1) (ad 2) (ad 3) hcw.1.1 f (fun i => ad (4 + i)) hsa hf si) (cwV 1 hts gX6_books_X6_sessionAt rfl rfl rfl (by decide +kernel) ⟨Nat.le_of_ble_eq_true rfl, Nat.le_of_ble_eq_true rfl⟩) rfl hl.1 rfl (Nat.le_of_ble_eq_true rfl) dX6_books_2 (Nat.le_of_ble_eq_true rfl) (Nat.le_of_ble_eq_true rfl) (fun E ce q9 M1 H locs hp hw hS hz hk hce hcv hcl9 => ?_) (fun r2 M1 H locs hp hw hS hz hk => ?_)
  · exact m_out X hno hK hw hS hce hcv hcl9 (by omega) (by omega) (⟨Or.inl ⟨hp.1, hp.2.1⟩, hp.2.2⟩)
  obtain ⟨⟨i, hi, ei, er⟩, hso, eM⟩ := hp
  have er : r2 = ad (4 + i) := er
  rw [er]
  rw [eM] at hw
  have hs9 : M (ad (4 + i)) = some (.inr (5, [.ref (ad (12 + 2 * i)), .ref (ad (13 + 2 * i)), .ref (ad (40 + i))])) := (hcw.1.2.2.2 i hi).1
  refine lv_astore_n (lv' := [(3, .ref (ad (4 + i))), (0, .ref x), (1, .int si), (2, .int au)]) hx hb dX6_books_5 rfl hl (by decide) rfl (fun ls hl => ?_)
  refine lv_aload_n hx hb dX6_books_6 rfl (lv_at hl 0 rfl) ?_
  refine lv_iconst (v := 0) hx hb dX6_books_7 (by decide) ?_
  refine lv_iload_n hx hb dX6_books_8 rfl (lv_at hl 3 rfl) ?_
  refine x_callSv X hK hw hZ hS hA (As := [.ref (ad (4 + i)), .int 0, .int au]) (rest := []) (c_checkLiveK l G dce _ M hlt x ad y z hcw i 0 hi (by omega) au 0 (by decide)) (va_cwS 3 hts gX6_books_X6_checkLive rfl rfl rfl (by decide +kernel) ⟨Nat.le_of_ble_eq_true rfl, Nat.le_of_ble_eq_true rfl⟩) rfl hl.1 rfl (Nat.le_of_ble_eq_true rfl) dX6_books_9 (Nat.le_of_ble_eq_true rfl) (Nat.le_of_ble_eq_true rfl) (fun E ce q9 M3 H locs hp hw hS hz hk hce hcv hcl9 => ?_) (fun M3 H locs hp hw hS hz hk => ?_)
  · exact m_out X hno hK hw hS hce hcv hcl9 (by omega) (by omega) (⟨Or.inr ⟨hp.1, i, ⟨hi, ei⟩, hp.2.1⟩, hp.2.2⟩)
  have hlv := hp.1
  rw [hp.2] at hw
  refine lv_aload_n hx hb dX6_books_12 rfl (lv_at hl 1 rfl) ?_
  refine lv_aload_n hx hb dX6_books_13 rfl (lv_at hl 0 rfl) ?_
  refine lv_iconst (v := 1) hx hb dX6_books_14 (by decide) ?_
  refine lv_iload_n hx hb dX6_books_15 rfl (lv_at hl 3 rfl) ?_
  refine m_callVv X (ci := 7) rfl hx9 hK hw hZ hS hA (As := [.ref (ad (4 + i)), .int 1, .int au]) (rest := []) (c_loadReferringK l G dce _ M x ad y z hcw i 1 hi (by decide) au (heq i 1 hi (by decide)) 1 (by decide)) (cwV 3 hts gX6_books_X6_loadReferring rfl rfl rfl (by decide +kernel) ⟨Nat.le_of_ble_eq_true rfl, Nat.le_of_ble_eq_true rfl⟩) rfl hl.1 rfl (Nat.le_of_ble_eq_true rfl) dX6_books_16 (Nat.le_of_ble_eq_true rfl) (Nat.le_of_ble_eq_true rfl) (fun M4 H locs hp hw hS hz hk => ?_)
  obtain ⟨y1, ho, hc1, hs1⟩ := hp
  obtain ⟨z1, hz1⟩ : ∃ z1, z1 = (itr (kLd i 1 au) (zN z 1) z) := ⟨_, rfl⟩
  rw [← hz1] at hc1 hs1
  have hn1 : zN z1 = zN z := by rw [hz1, itr_N (kLd_N i 1 au)]
  have hjn : zN z (sL i 1) ≤ 1024 := hcw.n (by unfold sL; omega)
  have hs8 : M4 (ad (4 + i)) = some (.inr (5, [.ref (ad (12 + 2 * i)), .ref (ad (13 + 2 * i)), .ref (ad (40 + i))])) := (hc1.1.2.2.2 i hi).1
  have hx8 : M4 x = some (.inr (7, [.ref (ad 0), .ref (ad 1), .ref (ad 2), .ref (ad 3)])) := hc1.1.1
  refine lv_iconst (v := 0) hx hb dX6_books_19 (by decide) ?_
  refine lv_istore (lv' := [(4, .int 0), (3, .ref (ad (4 + i))), (0, .ref x), (1, .int si), (2, .int au)]) hx hb dX6_books_20 hl (by decide) rfl (fun ls hl => ?_)
  refine lv_iconst (v := 0) hx hb dX6_books_22 (by decide) ?_
  refine lv_istore (lv' := [(5, .int 0), (4, .int 0), (3, .ref (ad (4 + i))), (0, .ref x), (1, .int si), (2, .int au)]) hx hb dX6_books_23 hl (by decide) rfl (fun ls hl => ?_)
  have loop : ∀ (d : Nat) (j : Nat) (H : Heap) (locs : List Loc) (ls : Array Slot), j ≤ (zN z (sL i 1)) → (zN z (sL i 1)) + 1 ≤ j + d → wd G A M4 H → va_S A s.heap H locs → lv_has ls 6 [(5, .int (nI j)), (4, .int (nI (cnt (fun j => fRefs (zE z1 (sL i 1) j) au) j))), (3, .ref (ad (4 + i))), (2, .int au)] → W p l e ({ frames := 7, cells := 2, slots := 12, locals := 114 }) s m [.ref x, .int si, .int au].toArray below meth c H locs (2) (12) (vx_MQ below (QI G (fun r M' => ∃ i, aS si i ∧ fLive (eV z i 0 au) = true ∧ r = nI (cnt (fun j => fRefs (zE (itr (kLd i 1 au) (zN z 1) z) (sL i 1) j) au) (zN z (sL i 1))) ∧ cTo G dce x ad M y z M' (itr (kLd i 1 au) (zN z 1) z)) A) (QX G (fun E M' => ((E = xIOB ∧ sOK si = false) ∨ (E = xISE ∧ ∃ i, aS si i ∧ fLive (eV z i 0 au) = false)) ∧ M' = M) A) [.ref x, .int si, .int au].toArray s (2) (12) A) (F0 m 25 ls []) := by
    intro d
    induction d with
    | zero => intro j H locs ls h1 h2; exact absurd h2 (by omega)
    | succ d ih =>
      intro j H locs ls hj1 hj2 hw hS hl
      refine lv_iload hx hb dX6_books_25 (lv_at hl 0 rfl) ?_
      refine lv_aload_n hx hb dX6_books_27 rfl (lv_at hl 2 rfl) ?_
      refine lv_iconst (v := 1) hx hb dX6_books_28 (by decide) ?_
      refine m_callVi X (ci := 5) rfl hs8 hK hw hZ hS hA (As := [.int 1]) (rest := [.int (nI j)]) (c_sizeOfK l G dce _ M4 x ad y1 z1 hc1 i 1 hi (by decide) 1 (by decide)) (cwV 1 hts gX6_books_X4_sizeOf rfl rfl rfl (by decide +kernel) ⟨Nat.le_of_ble_eq_true rfl, Nat.le_of_ble_eq_true rfl⟩) rfl hl.1 rfl (Nat.le_of_ble_eq_true rfl) dX6_books_29 (Nat.le_of_ble_eq_true rfl) (Nat.le_of_ble_eq_true rfl) (fun r6 M5 H locs hp hw hS hz hk => ?_)
      rw [hp.2] at hw
      rw [hp.1, hn1]
      refine lv_icmp_ge (tgt := 58) hx hb dX6_books_32 (by decide) (fun c_32 => ?_) (fun c_32 => ?_)
      · have hkn : (zN z (sL i 1)) ≤ j := (nI_leI (by omega) (by omega)).mp c_32
        refine lv_iload hx hb dX6_books_58 (lv_at hl 1 rfl) ?_
        have hjj : j = (zN z (sL i 1)) := by omega
        refine vx_ret ?_
        exact m_iret X hK hw hS ⟨i, ⟨hi, ei⟩, hlv, by rw [hjj, ← hz1], by rw [← hz1]; exact ⟨y1, ho, hc1, hs1⟩⟩ (by omega) (by omega) dX6_books_60
      · have hkl : j < (zN z (sL i 1)) := Nat.lt_of_not_le (fun q => c_32 (nI_le q (by omega)))
        refine lv_aload_n hx hb dX6_books_35 rfl (lv_at hl 2 rfl) ?_
        refine lv_iconst (v := 1) hx hb dX6_books_36 (by decide) ?_
        refine lv_iload hx hb dX6_books_37 (lv_at hl 0 rfl) ?_
        refine m_callVr X (ci := 5) rfl hs8 hK hw hZ hS hA (As := [.int 1, .int (nI j)]) (rest := []) (c_entityAtK l G dce _ M4 x ad y1 z1 hc1 i 1 hi (by decide) (nI j) 1 (by decide)) (cwV 2 hts gX6_books_X4_entityAt rfl rfl rfl (by decide +kernel) ⟨Nat.le_of_ble_eq_true rfl, Nat.le_of_ble_eq_true rfl⟩) rfl hl.1 rfl (Nat.le_of_ble_eq_true rfl) dX6_books_39 (Nat.le_of_ble_eq_true rfl) (Nat.le_of_ble_eq_true rfl) (fun r8 M7 H locs hp hw hS hz hk => ?_)
        rw [hp.2] at hw
        rw [hp.1, eA_in (by rw [hn1]; exact hjn) (by rw [hn1]; exact hkl)]
        have hen : M4 ((yO y1 (sL i 1) j)) = some (eE (zE z1 (sL i 1) j)) := hc1.ent (by unfold sL; omega) (by unfold sL; omega) (by rw [hn1]; exact hkl)
        obtain ⟨b1, b2, b3, nm, rf, sn, sr, sv, hev⟩ : ∃ b1 b2 b3 nm rf sn sr sv, (zE z1 (sL i 1) j) = (b1, b2, b3, nm, rf, sn, sr, sv) := ⟨_, _, _, _, _, _, _, _, rfl⟩
        have hec : M4 ((yO y1 (sL i 1) j)) = some (.inr (1, [.int (bI b1), .int (bI b2), .int (bI b3), .int nm, .int rf, .int sn, .int sr, .int sv])) := by rw [hen, hev]; rfl
        refine lv_iload_n hx hb dX6_books_42 rfl (lv_at hl 3 rfl) ?_
        refine m_callVi X (ci := 1) rfl hec hK hw hZ hS hA (As := [.int au]) (rest := []) (c_X0_isLiveAndRefersTo l G dce _ M4 (yO y1 (sL i 1) j) (zE z1 (sL i 1) j) hen au) (cwV 1 hts gX6_books_X0_isLiveAndRefersTo rfl rfl rfl (by decide +kernel) ⟨Nat.le_of_ble_eq_true rfl, Nat.le_of_ble_eq_true rfl⟩) rfl hl.1 rfl (Nat.le_of_ble_eq_true rfl) dX6_books_43 (Nat.le_of_ble_eq_true rfl) (Nat.le_of_ble_eq_true rfl) (fun r10 M9 H locs hp hw hS hz hk => ?_)
        rw [hp.2] at hw
        rw [hp.1]
        refine lv_if_eq (tgt := 52) hx hb dX6_books_46 (by decide) (fun c_46 => ?_) (fun c_46 => ?_)
        · refine lv_iinc (v := (nI (j + 1))) (lv' := [(5, .int (nI (j + 1))), (4, .int (nI (cnt (fun j => fRefs (zE z1 (sL i 1) j) au) j))), (3, .ref (ad (4 + i))), (2, .int au)]) hx hb dX6_books_52 hl (k := 0) rfl (nI_1 _) (by decide) rfl (fun ls hl => ?_)
          refine lv_goto (tgt := 25) hx hb dX6_books_55 (by decide) ?_
          have hcn : cnt (fun j => fRefs (zE z1 (sL i 1) j) au) j = cnt (fun j => fRefs (zE z1 (sL i 1) j) au) (j + 1) := by
            show _ = cnt (fun j => fRefs (zE z1 (sL i 1) j) au) j + (if fRefs (zE z1 (sL i 1) j) au = true then 1 else 0)
            rw [if_neg (bI_f c_46)]; exact (Nat.add_zero _).symm
          rw [hcn] at hl
          exact ih (j + 1) H locs ls (by omega) (by omega) hw hS (lv_sub hl [0, 1, 2, 3] rfl)
        · refine lv_iinc (v := (nI ((cnt (fun j => fRefs (zE z1 (sL i 1) j) au) j) + 1))) (lv' := [(4, .int (nI ((cnt (fun j => fRefs (zE z1 (sL i 1) j) au) j) + 1))), (5, .int (nI j)), (3, .ref (ad (4 + i))), (2, .int au)]) hx hb dX6_books_49 hl (k := 1) rfl (nI_1 _) (by decide) rfl (fun ls hl => ?_)
          refine lv_iinc (v := (nI (j + 1))) (lv' := [(5, .int (nI (j + 1))), (4, .int (nI ((cnt (fun j => fRefs (zE z1 (sL i 1) j) au) j) + 1))), (3, .ref (ad (4 + i))), (2, .int au)]) hx hb dX6_books_52 hl (k := 1) rfl (nI_1 _) (by decide) rfl (fun ls hl => ?_)
          refine lv_goto (tgt := 25) hx hb dX6_books_55 (by decide) ?_
          have hcn : cnt (fun j => fRefs (zE z1 (sL i 1) j) au) j + 1 = cnt (fun j => fRefs (zE z1 (sL i 1) j) au) (j + 1) := by
            show _ = cnt (fun j => fRefs (zE z1 (sL i 1) j) au) j + (if fRefs (zE z1 (sL i 1) j) au = true then 1 else 0)
            rw [if_pos (bI_t c_46)]
          rw [hcn] at hl
          exact ih (j + 1) H locs ls (by omega) (by omega) hw hS (lv_sub hl [0, 1, 2, 3] rfl)
  exact loop ((zN z (sL i 1)) + 1) 0 _ _ ls (Nat.zero_le _) (by omega) hw hS (lv_sub hl [0, 1, 2, 5] rfl)
set_option maxHeartbeats 4000000 in
set_option maxRecDepth 100000 in
theorem c_known (l : Launch) (G : gG) (dce sz : Nat) (M : gM) (hlt : l.stackTraces = false) (x : Nat) (ad : Nat → Nat) (y : cY) (z : cZ) (hcw : CW G dce x ad M y z) (si : Int32) : xI l yX6_known wsX6_known ({ frames := 7, cells := 1, slots := 6, locals := 110 }) G dce sz M [.ref x, .int si] (fun r M' => (∃ i, aS si i ∧ r = nI ((cnt (fun j => fLive (zE z (sL i 0) j)) (zN z (sL i 0))) + (cnt (fun j => fLive (zE z (sL i 1) j)) (zN z (sL i 1))))) ∧ M' = M) (fun E M' => (E = xIOB ∧ sOK si = false) ∧ M' = M) (1) (6) := by
  obtain ⟨f, hsa, hf⟩ := hcw.1.2.2.1
  have hx9 : M x = some (.inr (7, [.ref (ad 0), .ref (ad 1), .ref (ad 2), .ref (ad 3)])) := hcw.1.1
  refine xMet (Qc := QI G _) (XC := QX G _) (cc := cX6_known) (maxL := 3) (ret := (some .int)) (by decide) rfl (Nat.le_of_ble_eq_true rfl) ?_
  intro p e s m below meth c A ls X hno hnm hw hK hZ hA hS hsz eA hl
  obtain ⟨hx, hb, hr, hts, hown, hlk, hml⟩ := id X
  have hl : lv_has ls 3 [(0, .ref x), (1, .int si)] := hl
  refine lv_aload_n hx hb dX6_known_0 rfl (lv_at hl 0 rfl) ?_
  refine lv_iload_n hx hb dX6_known_1 rfl (lv_at hl 1 rfl) ?_
  refine x_callVr X (ci := 7) rfl hx9 hK hw hZ hS hA (As := [.int si]) (rest := []) (c_X6_sessionAt l G dce _ M hlt x (ad 0) (ad 1) (ad 2) (ad 3) hcw.1.1 f (fun i => ad (4 + i)) hsa hf si) (cwV 1 hts gX6_known_X6_sessionAt rfl rfl rfl (by decide +kernel) ⟨Nat.le_of_ble_eq_true rfl, Nat.le_of_ble_eq_true rfl⟩) rfl hl.1 rfl (Nat.le_of_ble_eq_true rfl) dX6_known_2 (Nat.le_of_ble_eq_true rfl) (Nat.le_of_ble_eq_true rfl) (fun E ce q9 M1 H locs hp hw hS hz hk hce hcv hcl9 => ?_) (fun r2 M1 H locs hp hw hS hz hk => ?_)
  · exact m_out X hno hK hw hS hce hcv hcl9 (by omega) (by omega) (⟨⟨hp.1, hp.2.1⟩, hp.2.2⟩)
  obtain ⟨⟨i, hi, ei, er⟩, hso, eM⟩ := hp
  have er : r2 = ad (4 + i) := er
  rw [er]
  rw [eM] at hw
  have hs9 : M (ad (4 + i)) = some (.inr (5, [.ref (ad (12 + 2 * i)), .ref (ad (13 + 2 * i)), .ref (ad (40 + i))])) := (hcw.1.2.2.2 i hi).1
  refine lv_astore_n (lv' := [(2, .ref (ad (4 + i))), (0, .ref x), (1, .int si)]) hx hb dX6_known_5 rfl hl (by decide) rfl (fun ls hl => ?_)
  refine lv_aload_n hx hb dX6_known_6 rfl (lv_at hl 0 rfl) ?_
  refine lv_iconst (v := 0) hx hb dX6_known_7 (by decide) ?_
  refine m_callVi X (ci := 5) rfl hs9 hK hw hZ hS hA (As := [.int 0]) (rest := []) (c_countLiveK l G dce _ M x ad y z hcw i 0 hi (by decide) 0 (by decide)) (cwV 1 hts gX6_known_X4_countLive rfl rfl rfl (by decide +kernel) ⟨Nat.le_of_ble_eq_true rfl, Nat.le_of_ble_eq_true rfl⟩) rfl hl.1 rfl (Nat.le_of_ble_eq_true rfl) dX6_known_8 (Nat.le_of_ble_eq_true rfl) (Nat.le_of_ble_eq_true rfl) (fun r4 M3 H locs hp hw hS hz hk => ?_)
  rw [hp.2] at hw
  rw [hp.1]
  refine lv_aload_n hx hb dX6_known_11 rfl (lv_at hl 0 rfl) ?_
  refine lv_iconst (v := 1) hx hb dX6_known_12 (by decide) ?_
  refine m_callVi X (ci := 5) rfl hs9 hK hw hZ hS hA (As := [.int 1]) (rest := [.int (nI (cnt (fun j => fLive (zE z (sL i 0) j)) (zN z (sL i 0))))]) (c_countLiveK l G dce _ M x ad y z hcw i 1 hi (by decide) 1 (by decide)) (cwV 1 hts gX6_known_X4_countLive rfl rfl rfl (by decide +kernel) ⟨Nat.le_of_ble_eq_true rfl, Nat.le_of_ble_eq_true rfl⟩) rfl hl.1 rfl (Nat.le_of_ble_eq_true rfl) dX6_known_13 (Nat.le_of_ble_eq_true rfl) (Nat.le_of_ble_eq_true rfl) (fun r6 M5 H locs hp hw hS hz hk => ?_)
  rw [hp.2] at hw
  rw [hp.1]
  refine lv_iadd hx hb dX6_known_16 ?_
  refine vx_ret ?_
  exact m_iret X hK hw hS (by exact ⟨⟨i, ⟨hi, ei⟩, nI_add _ _⟩, rfl⟩) (by omega) (by omega) dX6_known_17
set_option maxHeartbeats 4000000 in
set_option maxRecDepth 100000 in
theorem c_dirty (l : Launch) (G : gG) (dce sz : Nat) (M : gM) (hlt : l.stackTraces = false) (x : Nat) (ad : Nat → Nat) (y : cY) (z : cZ) (hcw : CW G dce x ad M y z) (si : Int32) : xI l yX6_dirty wsX6_dirty ({ frames := 7, cells := 1, slots := 6, locals := 111 }) G dce sz M [.ref x, .int si] (fun r M' => (∃ i, aS si i ∧ r = nI ((cnt (fun j => (fLive (zE z (sL i 0) j) && fChg (zE z (sL i 0) j))) (zN z (sL i 0))) + (cnt (fun j => (fLive (zE z (sL i 1) j) && fChg (zE z (sL i 1) j))) (zN z (sL i 1))))) ∧ M' = M) (fun E M' => (E = xIOB ∧ sOK si = false) ∧ M' = M) (1) (6) := by
  obtain ⟨f, hsa, hf⟩ := hcw.1.2.2.1
  have hx9 : M x = some (.inr (7, [.ref (ad 0), .ref (ad 1), .ref (ad 2), .ref (ad 3)])) := hcw.1.1
  refine xMet (Qc := QI G _) (XC := QX G _) (cc := cX6_dirty) (maxL := 3) (ret := (some .int)) (by decide) rfl (Nat.le_of_ble_eq_true rfl) ?_
  intro p e s m below meth c A ls X hno hnm hw hK hZ hA hS hsz eA hl
  obtain ⟨hx, hb, hr, hts, hown, hlk, hml⟩ := id X
  have hl : lv_has ls 3 [(0, .ref x), (1, .int si)] := hl
  refine lv_aload_n hx hb dX6_dirty_0 rfl (lv_at hl 0 rfl) ?_
  refine lv_iload_n hx hb dX6_dirty_1 rfl (lv_at hl 1 rfl) ?_
  refine x_callVr X (ci := 7) rfl hx9 hK hw hZ hS hA (As := [.int si]) (rest := []) (c_X6_sessionAt l G dce _ M hlt x (ad 0) (ad 1) (ad 2) (ad 3) hcw.1.1 f (fun i => ad (4 + i)) hsa hf si) (cwV 1 hts gX6_dirty_X6_sessionAt rfl rfl rfl (by decide +kernel) ⟨Nat.le_of_ble_eq_true rfl, Nat.le_of_ble_eq_true rfl⟩) rfl hl.1 rfl (Nat.le_of_ble_eq_true rfl) dX6_dirty_2 (Nat.le_of_ble_eq_true rfl) (Nat.le_of_ble_eq_true rfl) (fun E ce q9 M1 H locs hp hw hS hz hk hce hcv hcl9 => ?_) (fun r2 M1 H locs hp hw hS hz hk => ?_)
  · exact m_out X hno hK hw hS hce hcv hcl9 (by omega) (by omega) (⟨⟨hp.1, hp.2.1⟩, hp.2.2⟩)
  obtain ⟨⟨i, hi, ei, er⟩, hso, eM⟩ := hp
  have er : r2 = ad (4 + i) := er
  rw [er]
  rw [eM] at hw
  have hs9 : M (ad (4 + i)) = some (.inr (5, [.ref (ad (12 + 2 * i)), .ref (ad (13 + 2 * i)), .ref (ad (40 + i))])) := (hcw.1.2.2.2 i hi).1
  refine lv_astore_n (lv' := [(2, .ref (ad (4 + i))), (0, .ref x), (1, .int si)]) hx hb dX6_dirty_5 rfl hl (by decide) rfl (fun ls hl => ?_)
  refine lv_aload_n hx hb dX6_dirty_6 rfl (lv_at hl 0 rfl) ?_
  refine lv_iconst (v := 0) hx hb dX6_dirty_7 (by decide) ?_
  refine m_callVi X (ci := 5) rfl hs9 hK hw hZ hS hA (As := [.int 0]) (rest := []) (c_countDirtyK l G dce _ M x ad y z hcw i 0 hi (by decide) 0 (by decide)) (cwV 1 hts gX6_dirty_X4_countLiveAndDirty rfl rfl rfl (by decide +kernel) ⟨Nat.le_of_ble_eq_true rfl, Nat.le_of_ble_eq_true rfl⟩) rfl hl.1 rfl (Nat.le_of_ble_eq_true rfl) dX6_dirty_8 (Nat.le_of_ble_eq_true rfl) (Nat.le_of_ble_eq_true rfl) (fun r4 M3 H locs hp hw hS hz hk => ?_)
  rw [hp.2] at hw
  rw [hp.1]
  refine lv_aload_n hx hb dX6_dirty_11 rfl (lv_at hl 0 rfl) ?_
  refine lv_iconst (v := 1) hx hb dX6_dirty_12 (by decide) ?_
  refine m_callVi X (ci := 5) rfl hs9 hK hw hZ hS hA (As := [.int 1]) (rest := [.int (nI (cnt (fun j => (fLive (zE z (sL i 0) j) && fChg (zE z (sL i 0) j))) (zN z (sL i 0))))]) (c_countDirtyK l G dce _ M x ad y z hcw i 1 hi (by decide) 1 (by decide)) (cwV 1 hts gX6_dirty_X4_countLiveAndDirty rfl rfl rfl (by decide +kernel) ⟨Nat.le_of_ble_eq_true rfl, Nat.le_of_ble_eq_true rfl⟩) rfl hl.1 rfl (Nat.le_of_ble_eq_true rfl) dX6_dirty_13 (Nat.le_of_ble_eq_true rfl) (Nat.le_of_ble_eq_true rfl) (fun r6 M5 H locs hp hw hS hz hk => ?_)
  rw [hp.2] at hw
  rw [hp.1]
  refine lv_iadd hx hb dX6_dirty_16 ?_
  refine vx_ret ?_
  exact m_iret X hK hw hS (by exact ⟨⟨i, ⟨hi, ei⟩, nI_add _ _⟩, rfl⟩) (by omega) (by omega) dX6_dirty_17
set_option maxHeartbeats 4000000 in
set_option maxRecDepth 100000 in
theorem c_clear (l : Launch) (G : gG) (dce sz : Nat) (M : gM) (hlt : l.stackTraces = false) (x : Nat) (ad : Nat → Nat) (y : cY) (z : cZ) (hcw : CW G dce x ad M y z) (si : Int32) : xI l yX6_clear wsX6_clear ({ frames := 7, cells := 1, slots := 6, locals := 110 }) G dce sz M [.ref x, .int si] (fun r M' => ∃ i, aS si i ∧ r = nI ((cnt (fun j => fLive (zE z (sL i 0) j)) (zN z (sL i 0))) + (cnt (fun j => fLive (zE z (sL i 1) j)) (zN z (sL i 1)))) ∧ cTo G dce x ad M y z M' (itr (kFg i 1) (zN z (sL i 1)) (itr (kFg i 0) (zN z (sL i 0)) z))) (fun E M' => (E = xIOB ∧ sOK si = false) ∧ M' = M) (1) (6) := by
  obtain ⟨f, hsa, hf⟩ := hcw.1.2.2.1
  have hx9 : M x = some (.inr (7, [.ref (ad 0), .ref (ad 1), .ref (ad 2), .ref (ad 3)])) := hcw.1.1
  refine xMet (Qc := QI G _) (XC := QX G _) (cc := cX6_clear) (maxL := 4) (ret := (some .int)) (by decide) rfl (Nat.le_of_ble_eq_true rfl) ?_
  intro p e s m below meth c A ls X hno hnm hw hK hZ hA hS hsz eA hl
  obtain ⟨hx, hb, hr, hts, hown, hlk, hml⟩ := id X
  have hl : lv_has ls 4 [(0, .ref x), (1, .int si)] := hl
  refine lv_aload_n hx hb dX6_clear_0 rfl (lv_at hl 0 rfl) ?_
  refine lv_iload_n hx hb dX6_clear_1 rfl (lv_at hl 1 rfl) ?_
  refine x_callVr X (ci := 7) rfl hx9 hK hw hZ hS hA (As := [.int si]) (rest := []) (c_X6_sessionAt l G dce _ M hlt x (ad 0) (ad 1) (ad 2) (ad 3) hcw.1.1 f (fun i => ad (4 + i)) hsa hf si) (cwV 1 hts gX6_clear_X6_sessionAt rfl rfl rfl (by decide +kernel) ⟨Nat.le_of_ble_eq_true rfl, Nat.le_of_ble_eq_true rfl⟩) rfl hl.1 rfl (Nat.le_of_ble_eq_true rfl) dX6_clear_2 (Nat.le_of_ble_eq_true rfl) (Nat.le_of_ble_eq_true rfl) (fun E ce q9 M1 H locs hp hw hS hz hk hce hcv hcl9 => ?_) (fun r2 M1 H locs hp hw hS hz hk => ?_)
  · exact m_out X hno hK hw hS hce hcv hcl9 (by omega) (by omega) (⟨⟨hp.1, hp.2.1⟩, hp.2.2⟩)
  obtain ⟨⟨i, hi, ei, er⟩, hso, eM⟩ := hp
  have er : r2 = ad (4 + i) := er
  rw [er]
  rw [eM] at hw
  have hs9 : M (ad (4 + i)) = some (.inr (5, [.ref (ad (12 + 2 * i)), .ref (ad (13 + 2 * i)), .ref (ad (40 + i))])) := (hcw.1.2.2.2 i hi).1
  refine lv_astore_n (lv' := [(2, .ref (ad (4 + i))), (0, .ref x), (1, .int si)]) hx hb dX6_clear_5 rfl hl (by decide) rfl (fun ls hl => ?_)
  refine lv_aload_n hx hb dX6_clear_6 rfl (lv_at hl 0 rfl) ?_
  refine lv_iconst (v := 0) hx hb dX6_clear_7 (by decide) ?_
  refine m_callVi X (ci := 5) rfl hs9 hK hw hZ hS hA (As := [.int 0]) (rest := []) (c_countLiveK l G dce _ M x ad y z hcw i 0 hi (by decide) 0 (by decide)) (cwV 1 hts gX6_clear_X4_countLive rfl rfl rfl (by decide +kernel) ⟨Nat.le_of_ble_eq_true rfl, Nat.le_of_ble_eq_true rfl⟩) rfl hl.1 rfl (Nat.le_of_ble_eq_true rfl) dX6_clear_8 (Nat.le_of_ble_eq_true rfl) (Nat.le_of_ble_eq_true rfl) (fun r4 M3 H locs hp hw hS hz hk => ?_)
  rw [hp.2] at hw
  rw [hp.1]
  refine lv_aload_n hx hb dX6_clear_11 rfl (lv_at hl 0 rfl) ?_
  refine lv_iconst (v := 1) hx hb dX6_clear_12 (by decide) ?_
  refine m_callVi X (ci := 5) rfl hs9 hK hw hZ hS hA (As := [.int 1]) (rest := [.int (nI (cnt (fun j => fLive (zE z (sL i 0) j)) (zN z (sL i 0))))]) (c_countLiveK l G dce _ M x ad y z hcw i 1 hi (by decide) 1 (by decide)) (cwV 1 hts gX6_clear_X4_countLive rfl rfl rfl (by decide +kernel) ⟨Nat.le_of_ble_eq_true rfl, Nat.le_of_ble_eq_true rfl⟩) rfl hl.1 rfl (Nat.le_of_ble_eq_true rfl) dX6_clear_13 (Nat.le_of_ble_eq_true rfl) (Nat.le_of_ble_eq_true rfl) (fun r6 M5 H locs hp hw hS hz hk => ?_)
  rw [hp.2] at hw
  rw [hp.1]
  refine lv_iadd hx hb dX6_clear_16 ?_
  refine lv_istore_n (lv' := [(3, .int ((nI (cnt (fun j => fLive (zE z (sL i 0) j)) (zN z (sL i 0)))) + (nI (cnt (fun j => fLive (zE z (sL i 1) j)) (zN z (sL i 1)))))), (2, .ref (ad (4 + i))), (0, .ref x), (1, .int si)]) hx hb dX6_clear_17 rfl hl (by decide) rfl (fun ls hl => ?_)
  refine lv_aload_n hx hb dX6_clear_18 rfl (lv_at hl 1 rfl) ?_
  refine lv_iconst (v := 0) hx hb dX6_clear_19 (by decide) ?_
  refine m_callVv X (ci := 5) rfl hs9 hK hw hZ hS hA (As := [.int 0]) (rest := []) (c_forgetAllK l G dce _ M x ad y z hcw i 0 hi (by decide) 0 (by decide)) (cwV 1 hts gX6_clear_X4_forgetAll rfl rfl rfl (by decide +kernel) ⟨Nat.le_of_ble_eq_true rfl, Nat.le_of_ble_eq_true rfl⟩) rfl hl.1 rfl (Nat.le_of_ble_eq_true rfl) dX6_clear_20 (Nat.le_of_ble_eq_true rfl) (Nat.le_of_ble_eq_true rfl) (fun M7 H locs hp hw hS hz hk => ?_)
  obtain ⟨y1, ho, hc1, hs1⟩ := hp
  obtain ⟨z1, hz1⟩ : ∃ z1, z1 = itr (kFg i 0) (zN z (sL i 0)) z := ⟨_, rfl⟩
  rw [← hz1] at hc1 hs1
  have hn1 : zN z1 = zN z := by rw [hz1, itr_N (kFg_N i 0)]
  have hs8 : M7 (ad (4 + i)) = some (.inr (5, [.ref (ad (12 + 2 * i)), .ref (ad (13 + 2 * i)), .ref (ad (40 + i))])) := (hc1.1.2.2.2 i hi).1
  refine lv_aload_n hx hb dX6_clear_23 rfl (lv_at hl 1 rfl) ?_
  refine lv_iconst (v := 1) hx hb dX6_clear_24 (by decide) ?_
  refine m_callVv X (ci := 5) rfl hs8 hK hw hZ hS hA (As := [.int 1]) (rest := []) (c_forgetAllK l G dce _ M7 x ad y1 z1 hc1 i 1 hi (by decide) 1 (by decide)) (cwV 1 hts gX6_clear_X4_forgetAll rfl rfl rfl (by decide +kernel) ⟨Nat.le_of_ble_eq_true rfl, Nat.le_of_ble_eq_true rfl⟩) rfl hl.1 rfl (Nat.le_of_ble_eq_true rfl) dX6_clear_25 (Nat.le_of_ble_eq_true rfl) (Nat.le_of_ble_eq_true rfl) (fun M8 H locs hp hw hS hz hk => ?_)
  have hto := cTo.tr ho hs1 hp
  rw [hn1, hz1] at hto
  refine lv_iload_n hx hb dX6_clear_28 rfl (lv_at hl 0 rfl) ?_
  refine vx_ret ?_
  exact m_iret X hK hw hS (by exact ⟨i, ⟨hi, ei⟩, nI_add _ _, hto⟩) (by omega) (by omega) dX6_clear_29
set_option maxHeartbeats 4000000 in
set_option maxRecDepth 100000 in
theorem c_rows (l : Launch) (G : gG) (dce sz : Nat) (M : gM) (hlt : l.stackTraces = false) (x : Nat) (ad : Nat → Nat) (y : cY) (z : cZ) (hcw : CW G dce x ad M y z) (kd : Int32) : xI l yX6_rows wsX6_rows ({ frames := 7, cells := 1, slots := 6, locals := 107 }) G dce sz M [.ref x, .int kd] (fun r M' => (∃ k, aK kd k ∧ r = nI (cnt (fun j => (zR z k j).1) (zN z k))) ∧ M' = M) (fun E M' => (E = xIAE ∧ kOK kd = false) ∧ M' = M) (1) (6) := by
  have hx9 : M x = some (.inr (7, [.ref (ad 0), .ref (ad 1), .ref (ad 2), .ref (ad 3)])) := hcw.1.1
  refine xMet (Qc := QI G _) (XC := QX G _) (cc := cX6_rows) (maxL := 2) (ret := (some .int)) (by decide) rfl (Nat.le_of_ble_eq_true rfl) ?_
  intro p e s m below meth c A ls X hno hnm hw hK hZ hA hS hsz eA hl
  obtain ⟨hx, hb, hr, hts, hown, hlk, hml⟩ := id X
  have hl : lv_has ls 2 [(0, .ref x), (1, .int kd)] := hl
  refine lv_iload_n hx hb dX6_rows_0 rfl (lv_at hl 1 rfl) ?_
  refine x_callSv X hK hw hZ hS hA (As := [.int kd]) (rest := []) (c_X6_checkKind l G dce _ M hlt kd) (va_cwS 1 hts gX6_rows_X6_checkKind rfl rfl rfl (by decide +kernel) ⟨Nat.le_of_ble_eq_true rfl, Nat.le_of_ble_eq_true rfl⟩) rfl hl.1 rfl (Nat.le_of_ble_eq_true rfl) dX6_rows_1 (Nat.le_of_ble_eq_true rfl) (Nat.le_of_ble_eq_true rfl) (fun E ce q9 M1 H locs hp hw hS hz hk hce hcv hcl9 => ?_) (fun M1 H locs hp hw hS hz hk => ?_)
  · exact m_out X hno hK hw hS hce hcv hcl9 (by omega) (by omega) (⟨⟨hp.1, hp.2.1⟩, hp.2.2⟩)
  have hko := hp.1
  obtain ⟨k, hk2, ek⟩ := kOK_k hko
  rw [hp.2] at hw
  refine lv_aload_n hx hb dX6_rows_4 rfl (lv_at hl 0 rfl) ?_
  refine lv_iload_n hx hb dX6_rows_5 rfl (lv_at hl 1 rfl) ?_
  refine m_callVr X (ci := 7) rfl hx9 hK hw hZ hS hA (As := [.int kd]) (rest := []) (c_X6_tableOf l G dce _ M x (ad 0) (ad 1) (ad 2) (ad 3) hcw.1.1 kd) (cwV 1 hts gX6_rows_X6_tableOf rfl rfl rfl (by decide +kernel) ⟨Nat.le_of_ble_eq_true rfl, Nat.le_of_ble_eq_true rfl⟩) rfl hl.1 rfl (Nat.le_of_ble_eq_true rfl) dX6_rows_6 (Nat.le_of_ble_eq_true rfl) (Nat.le_of_ble_eq_true rfl) (fun r3 M2 H locs hp hw hS hz hk => ?_)
  rw [hp.2] at hw
  rw [hp.1, (ta_ifK hk2 ek)]
  have ht9 : M (ad k) = some (.inr (6, [.ref (ad (10 + k)), .ref (ad (20 + k))])) := (hcw.1.2.1 k hk2).1
  refine m_callVi X (ci := 6) rfl ht9 hK hw hZ hS hA (As := []) (rest := []) (c_countThere l G dce _ M x ad y z hcw k hk2) (cwV 0 hts gX6_rows_X5_countThere rfl rfl rfl (by decide +kernel) ⟨Nat.le_of_ble_eq_true rfl, Nat.le_of_ble_eq_true rfl⟩) rfl hl.1 rfl (Nat.le_of_ble_eq_true rfl) dX6_rows_9 (Nat.le_of_ble_eq_true rfl) (Nat.le_of_ble_eq_true rfl) (fun r5 M4 H locs hp hw hS hz hk => ?_)
  rw [hp.2] at hw
  rw [hp.1]
  refine vx_ret ?_
  exact m_iret X hK hw hS (by exact ⟨⟨k, ⟨hk2, ek⟩, rfl⟩, rfl⟩) (by omega) (by omega) dX6_rows_12
set_option maxHeartbeats 4000000 in
set_option maxRecDepth 100000 in
theorem c_checkedRow (l : Launch) (G : gG) (dce sz : Nat) (M : gM) (hlt : l.stackTraces = false) (x : Nat) (ad : Nat → Nat) (y : cY) (z : cZ) (hcw : CW G dce x ad M y z) (kd ky : Int32) : xR l yX6_checkedRow wsX6_checkedRow ({ frames := 7, cells := 2, slots := 12, locals := 102 }) G dce sz M [.ref x, .int kd, .int ky] (fun r M' => (∃ k, aK kd k ∧ (rV z k ky).1 = true ∧ r = rwA ad (yO y) (zN z) k ky) ∧ M' = M) (fun E M' => ((E = xIAE ∧ kOK kd = false) ∨ (E = xIOB ∧ ∃ k, aK kd k ∧ (rV z k ky).1 = false)) ∧ M' = M) (2) (12) := by
  have hx9 : M x = some (.inr (7, [.ref (ad 0), .ref (ad 1), .ref (ad 2), .ref (ad 3)])) := hcw.1.1
  refine xMet (Qc := QR G _) (XC := QX G _) (cc := cX6_checkedRow) (maxL := 4) (ret := (some (.object "ObjectMapper$Row"))) (by decide) rfl (Nat.le_of_ble_eq_true rfl) ?_
  intro p e s m below meth c A ls X hno hnm hw hK hZ hA hS hsz eA hl
  obtain ⟨hx, hb, hr, hts, hown, hlk, hml⟩ := id X
  have hl : lv_has ls 4 [(0, .ref x), (1, .int kd), (2, .int ky)] := hl
  have iX3 : ∀ w ∈ wsX30, w ∈ wsX6_checkedRow := by decide +kernel
  refine lv_iload_n hx hb dX6_checkedRow_0 rfl (lv_at hl 1 rfl) ?_
  refine x_callSv X hK hw hZ hS hA (As := [.int kd]) (rest := []) (c_X6_checkKind l G dce _ M hlt kd) (va_cwS 1 hts gX6_checkedRow_X6_checkKind rfl rfl rfl (by decide +kernel) ⟨Nat.le_of_ble_eq_true rfl, Nat.le_of_ble_eq_true rfl⟩) rfl hl.1 rfl (Nat.le_of_ble_eq_true rfl) dX6_checkedRow_1 (Nat.le_of_ble_eq_true rfl) (Nat.le_of_ble_eq_true rfl) (fun E ce q9 M1 H locs hp hw hS hz hk hce hcv hcl9 => ?_) (fun M1 H locs hp hw hS hz hk => ?_)
  · exact m_out X hno hK hw hS hce hcv hcl9 (by omega) (by omega) (⟨Or.inl ⟨hp.1, hp.2.1⟩, hp.2.2⟩)
  have hko := hp.1
  obtain ⟨k, hk2, ek⟩ := kOK_k hko
  rw [hp.2] at hw
  refine lv_aload_n hx hb dX6_checkedRow_4 rfl (lv_at hl 0 rfl) ?_
  refine lv_iload_n hx hb dX6_checkedRow_5 rfl (lv_at hl 1 rfl) ?_
  refine m_callVr X (ci := 7) rfl hx9 hK hw hZ hS hA (As := [.int kd]) (rest := []) (c_X6_tableOf l G dce _ M x (ad 0) (ad 1) (ad 2) (ad 3) hcw.1.1 kd) (cwV 1 hts gX6_checkedRow_X6_tableOf rfl rfl rfl (by decide +kernel) ⟨Nat.le_of_ble_eq_true rfl, Nat.le_of_ble_eq_true rfl⟩) rfl hl.1 rfl (Nat.le_of_ble_eq_true rfl) dX6_checkedRow_6 (Nat.le_of_ble_eq_true rfl) (Nat.le_of_ble_eq_true rfl) (fun r3 M2 H locs hp hw hS hz hk => ?_)
  rw [hp.2] at hw
  rw [hp.1, (ta_ifK hk2 ek)]
  refine lv_iload_n hx hb dX6_checkedRow_9 rfl (lv_at hl 2 rfl) ?_
  have ht9 : M (ad k) = some (.inr (6, [.ref (ad (10 + k)), .ref (ad (20 + k))])) := (hcw.1.2.1 k hk2).1
  refine m_callVr X (ci := 6) rfl ht9 hK hw hZ hS hA (As := [.int ky]) (rest := []) (c_rowAt l G dce _ M x ad y z hcw k hk2 ky) (cwV 1 hts gX6_checkedRow_X5_rowAt rfl rfl rfl (by decide +kernel) ⟨Nat.le_of_ble_eq_true rfl, Nat.le_of_ble_eq_true rfl⟩) rfl hl.1 rfl (Nat.le_of_ble_eq_true rfl) dX6_checkedRow_10 (Nat.le_of_ble_eq_true rfl) (Nat.le_of_ble_eq_true rfl) (fun r5 M4 H locs hp hw hS hz hk => ?_)
  rw [hp.2] at hw
  rw [hp.1]
  have hrw : M ((rwA ad (yO y) (zN z) k ky)) = some (eR (rV z k ky)) := CW_rA hcw hk2 ky
  obtain ⟨rb, rn, rr, rv, hrv⟩ : ∃ rb rn rr rv, (rV z k ky) = (rb, rn, rr, rv) := ⟨_, _, _, _, rfl⟩
  have hrc : M ((rwA ad (yO y) (zN z) k ky)) = some (.inr (4, [.int (bI rb), .int rn, .int rr, .int rv])) := by rw [hrw, hrv]; rfl
  refine lv_astore_n (lv' := [(3, .ref (rwA ad (yO y) (zN z) k ky)), (0, .ref x), (1, .int kd), (2, .int ky)]) hx hb dX6_checkedRow_13 rfl hl (by decide) rfl (fun ls hl => ?_)
  refine lv_aload_n hx hb dX6_checkedRow_14 rfl (lv_at hl 0 rfl) ?_
  refine m_get X iX3 hK hw hrc rfl 0 (by decide) (ref := "ObjectMapper$Row") (by decide +kernel) (Or.inl rfl) rfl dX6_checkedRow_15 ?_
  refine lv_if_ne (tgt := 31) hx hb dX6_checkedRow_18 (by decide) (fun c_18 => ?_) (fun c_18 => ?_)
  · refine lv_aload_n hx hb dX6_checkedRow_31 rfl (lv_at hl 0 rfl) ?_
    refine vx_ret ?_
    exact m_aret X (Or.inl ⟨_, rfl⟩) hK hw hS (by exact ⟨⟨k, ⟨hk2, ek⟩, by rw [hrv]; exact bI_t c_18, rfl⟩, rfl⟩) (by omega) (by omega) dX6_checkedRow_32
  · exact m_throwS X hno hlt rfl (cls := "java/lang/IndexOutOfBoundsException") (text := "no such row") (names := xNm) (by decide +kernel) (by decide +kernel) (by decide +kernel) (by decide +kernel) (by decide) (fun w h => List.mem_cons_of_mem _ (List.mem_append_left _ (List.mem_append_right _ h))) xng_IOB (by decide) xgd_IOB hK hw hZ hS hl.1 dX6_checkedRow_21 dX6_checkedRow_24 dX6_checkedRow_25 dX6_checkedRow_27 dX6_checkedRow_30 (Nat.le_of_ble_eq_true rfl) (Nat.le_of_ble_eq_true rfl) (Nat.le_of_ble_eq_true rfl) (Nat.le_of_ble_eq_true rfl) (by omega) (by omega) (⟨Or.inr ⟨rfl, k, ⟨hk2, ek⟩, by rw [hrv]; exact (bI_0 _).mp c_18⟩, rfl⟩)
set_option maxHeartbeats 4000000 in
set_option maxRecDepth 100000 in
theorem c_rowName (l : Launch) (G : gG) (dce sz : Nat) (M : gM) (hlt : l.stackTraces = false) (x : Nat) (ad : Nat → Nat) (y : cY) (z : cZ) (hcw : CW G dce x ad M y z) (kd ky : Int32) : xI l yX6_rowName wsX6_rowName ({ frames := 8, cells := 2, slots := 12, locals := 125 }) G dce sz M [.ref x, .int kd, .int ky] (fun r M' => (∃ k, aK kd k ∧ (rV z k ky).1 = true ∧ r = (rV z k ky).2.1) ∧ M' = M) (fun E M' => ((E = xIAE ∧ kOK kd = false) ∨ (E = xIOB ∧ ∃ k, aK kd k ∧ (rV z k ky).1 = false)) ∧ M' = M) (2) (12) := by
  have hx9 : M x = some (.inr (7, [.ref (ad 0), .ref (ad 1), .ref (ad 2), .ref (ad 3)])) := hcw.1.1
  refine xMet (Qc := QI G _) (XC := QX G _) (cc := cX6_rowName) (maxL := 3) (ret := (some .int)) (by decide) rfl (Nat.le_of_ble_eq_true rfl) ?_
  intro p e s m below meth c A ls X hno hnm hw hK hZ hA hS hsz eA hl
  obtain ⟨hx, hb, hr, hts, hown, hlk, hml⟩ := id X
  have hl : lv_has ls 3 [(0, .ref x), (1, .int kd), (2, .int ky)] := hl
  have iX3 : ∀ w ∈ wsX30, w ∈ wsX6_rowName := by decide +kernel
  refine lv_aload_n hx hb dX6_rowName_0 rfl (lv_at hl 0 rfl) ?_
  refine lv_iload_n hx hb dX6_rowName_1 rfl (lv_at hl 1 rfl) ?_
  refine lv_iload_n hx hb dX6_rowName_2 rfl (lv_at hl 2 rfl) ?_
  refine x_callVr X (ci := 7) rfl hx9 hK hw hZ hS hA (As := [.int kd, .int ky]) (rest := []) (c_checkedRow l G dce _ M hlt x ad y z hcw kd ky) (cwV 2 hts gX6_rowName_X6_checkedRow rfl rfl rfl (by decide +kernel) ⟨Nat.le_of_ble_eq_true rfl, Nat.le_of_ble_eq_true rfl⟩) rfl hl.1 rfl (Nat.le_of_ble_eq_true rfl) dX6_rowName_3 (Nat.le_of_ble_eq_true rfl) (Nat.le_of_ble_eq_true rfl) (fun E ce q9 M1 H locs hp hw hS hz hk hce hcv hcl9 => ?_) (fun r2 M1 H locs hp hw hS hz hk => ?_)
  · exact m_out X hno hK hw hS hce hcv hcl9 (by omega) (by omega) (hp)
  obtain ⟨⟨k, ⟨hk2, ek⟩, hth, er⟩, eM⟩ := hp
  rw [eM] at hw
  rw [er]
  have hrw : M ((rwA ad (yO y) (zN z) k ky)) = some (eR (rV z k ky)) := CW_rA hcw hk2 ky
  obtain ⟨rb, rn, rr, rv, hrv⟩ : ∃ rb rn rr rv, (rV z k ky) = (rb, rn, rr, rv) := ⟨_, _, _, _, rfl⟩
  have hrc : M ((rwA ad (yO y) (zN z) k ky)) = some (.inr (4, [.int (bI rb), .int rn, .int rr, .int rv])) := by rw [hrw, hrv]; rfl
  refine m_get X iX3 hK hw hrc rfl 1 (by decide) (ref := "ObjectMapper$Row") (by decide +kernel) (Or.inl rfl) rfl dX6_rowName_6 ?_
  refine vx_ret ?_
  exact m_iret X hK hw hS (by exact ⟨⟨k, ⟨hk2, ek⟩, hth, by rw [hrv]⟩, rfl⟩) (by omega) (by omega) dX6_rowName_9
set_option maxHeartbeats 4000000 in
set_option maxRecDepth 100000 in
theorem c_rowReference (l : Launch) (G : gG) (dce sz : Nat) (M : gM) (hlt : l.stackTraces = false) (x : Nat) (ad : Nat → Nat) (y : cY) (z : cZ) (hcw : CW G dce x ad M y z) (kd ky : Int32) : xI l yX6_rowReference wsX6_rowReference ({ frames := 8, cells := 2, slots := 12, locals := 125 }) G dce sz M [.ref x, .int kd, .int ky] (fun r M' => (∃ k, aK kd k ∧ (rV z k ky).1 = true ∧ r = (rV z k ky).2.2.1) ∧ M' = M) (fun E M' => ((E = xIAE ∧ kOK kd = false) ∨ (E = xIOB ∧ ∃ k, aK kd k ∧ (rV z k ky).1 = false)) ∧ M' = M) (2) (12) := by
  have hx9 : M x = some (.inr (7, [.ref (ad 0), .ref (ad 1), .ref (ad 2), .ref (ad 3)])) := hcw.1.1
  refine xMet (Qc := QI G _) (XC := QX G _) (cc := cX6_rowReference) (maxL := 3) (ret := (some .int)) (by decide) rfl (Nat.le_of_ble_eq_true rfl) ?_
  intro p e s m below meth c A ls X hno hnm hw hK hZ hA hS hsz eA hl
  obtain ⟨hx, hb, hr, hts, hown, hlk, hml⟩ := id X
  have hl : lv_has ls 3 [(0, .ref x), (1, .int kd), (2, .int ky)] := hl
  have iX3 : ∀ w ∈ wsX30, w ∈ wsX6_rowReference := by decide +kernel
  refine lv_aload_n hx hb dX6_rowReference_0 rfl (lv_at hl 0 rfl) ?_
  refine lv_iload_n hx hb dX6_rowReference_1 rfl (lv_at hl 1 rfl) ?_
  refine lv_iload_n hx hb dX6_rowReference_2 rfl (lv_at hl 2 rfl) ?_
  refine x_callVr X (ci := 7) rfl hx9 hK hw hZ hS hA (As := [.int kd, .int ky]) (rest := []) (c_checkedRow l G dce _ M hlt x ad y z hcw kd ky) (cwV 2 hts gX6_rowReference_X6_checkedRow rfl rfl rfl (by decide +kernel) ⟨Nat.le_of_ble_eq_true rfl, Nat.le_of_ble_eq_true rfl⟩) rfl hl.1 rfl (Nat.le_of_ble_eq_true rfl) dX6_rowReference_3 (Nat.le_of_ble_eq_true rfl) (Nat.le_of_ble_eq_true rfl) (fun E ce q9 M1 H locs hp hw hS hz hk hce hcv hcl9 => ?_) (fun r2 M1 H locs hp hw hS hz hk => ?_)
  · exact m_out X hno hK hw hS hce hcv hcl9 (by omega) (by omega) (hp)
  obtain ⟨⟨k, ⟨hk2, ek⟩, hth, er⟩, eM⟩ := hp
  rw [eM] at hw
  rw [er]
  have hrw : M ((rwA ad (yO y) (zN z) k ky)) = some (eR (rV z k ky)) := CW_rA hcw hk2 ky
  obtain ⟨rb, rn, rr, rv, hrv⟩ : ∃ rb rn rr rv, (rV z k ky) = (rb, rn, rr, rv) := ⟨_, _, _, _, rfl⟩
  have hrc : M ((rwA ad (yO y) (zN z) k ky)) = some (.inr (4, [.int (bI rb), .int rn, .int rr, .int rv])) := by rw [hrw, hrv]; rfl
  refine m_get X iX3 hK hw hrc rfl 2 (by decide) (ref := "ObjectMapper$Row") (by decide +kernel) (Or.inl rfl) rfl dX6_rowReference_6 ?_
  refine vx_ret ?_
  exact m_iret X hK hw hS (by exact ⟨⟨k, ⟨hk2, ek⟩, hth, by rw [hrv]⟩, rfl⟩) (by omega) (by omega) dX6_rowReference_9
set_option maxHeartbeats 4000000 in
set_option maxRecDepth 100000 in
theorem c_rowVersion (l : Launch) (G : gG) (dce sz : Nat) (M : gM) (hlt : l.stackTraces = false) (x : Nat) (ad : Nat → Nat) (y : cY) (z : cZ) (hcw : CW G dce x ad M y z) (kd ky : Int32) : xI l yX6_rowVersion wsX6_rowVersion ({ frames := 8, cells := 2, slots := 12, locals := 125 }) G dce sz M [.ref x, .int kd, .int ky] (fun r M' => (∃ k, aK kd k ∧ (rV z k ky).1 = true ∧ r = (rV z k ky).2.2.2) ∧ M' = M) (fun E M' => ((E = xIAE ∧ kOK kd = false) ∨ (E = xIOB ∧ ∃ k, aK kd k ∧ (rV z k ky).1 = false)) ∧ M' = M) (2) (12) := by
  have hx9 : M x = some (.inr (7, [.ref (ad 0), .ref (ad 1), .ref (ad 2), .ref (ad 3)])) := hcw.1.1
  refine xMet (Qc := QI G _) (XC := QX G _) (cc := cX6_rowVersion) (maxL := 3) (ret := (some .int)) (by decide) rfl (Nat.le_of_ble_eq_true rfl) ?_
  intro p e s m below meth c A ls X hno hnm hw hK hZ hA hS hsz eA hl
  obtain ⟨hx, hb, hr, hts, hown, hlk, hml⟩ := id X
  have hl : lv_has ls 3 [(0, .ref x), (1, .int kd), (2, .int ky)] := hl
  have iX3 : ∀ w ∈ wsX30, w ∈ wsX6_rowVersion := by decide +kernel
  refine lv_aload_n hx hb dX6_rowVersion_0 rfl (lv_at hl 0 rfl) ?_
  refine lv_iload_n hx hb dX6_rowVersion_1 rfl (lv_at hl 1 rfl) ?_
  refine lv_iload_n hx hb dX6_rowVersion_2 rfl (lv_at hl 2 rfl) ?_
  refine x_callVr X (ci := 7) rfl hx9 hK hw hZ hS hA (As := [.int kd, .int ky]) (rest := []) (c_checkedRow l G dce _ M hlt x ad y z hcw kd ky) (cwV 2 hts gX6_rowVersion_X6_checkedRow rfl rfl rfl (by decide +kernel) ⟨Nat.le_of_ble_eq_true rfl, Nat.le_of_ble_eq_true rfl⟩) rfl hl.1 rfl (Nat.le_of_ble_eq_true rfl) dX6_rowVersion_3 (Nat.le_of_ble_eq_true rfl) (Nat.le_of_ble_eq_true rfl) (fun E ce q9 M1 H locs hp hw hS hz hk hce hcv hcl9 => ?_) (fun r2 M1 H locs hp hw hS hz hk => ?_)
  · exact m_out X hno hK hw hS hce hcv hcl9 (by omega) (by omega) (hp)
  obtain ⟨⟨k, ⟨hk2, ek⟩, hth, er⟩, eM⟩ := hp
  rw [eM] at hw
  rw [er]
  have hrw : M ((rwA ad (yO y) (zN z) k ky)) = some (eR (rV z k ky)) := CW_rA hcw hk2 ky
  obtain ⟨rb, rn, rr, rv, hrv⟩ : ∃ rb rn rr rv, (rV z k ky) = (rb, rn, rr, rv) := ⟨_, _, _, _, rfl⟩
  have hrc : M ((rwA ad (yO y) (zN z) k ky)) = some (.inr (4, [.int (bI rb), .int rn, .int rr, .int rv])) := by rw [hrw, hrv]; rfl
  refine m_get X iX3 hK hw hrc rfl 3 (by decide) (ref := "ObjectMapper$Row") (by decide +kernel) (Or.inl rfl) rfl dX6_rowVersion_6 ?_
  refine vx_ret ?_
  exact m_iret X hK hw hS (by exact ⟨⟨k, ⟨hk2, ek⟩, hth, by rw [hrv]⟩, rfl⟩) (by omega) (by omega) dX6_rowVersion_9
set_option maxHeartbeats 4000000 in
set_option maxRecDepth 100000 in
theorem c_writes (l : Launch) (G : gG) (dce sz : Nat) (M : gM) (x : Nat) (ad : Nat → Nat) (y : cY) (z : cZ) (hcw : CW G dce x ad M y z) : mI l yX6_writes wsX6_writes ({ frames := 0, cells := 0, slots := 0, locals := 0 }) G dce sz M [.ref x] (fun r M' => r = nI (zW z) ∧ M' = M) (0) (0) := by
  have hx9 : M x = some (.inr (7, [.ref (ad 0), .ref (ad 1), .ref (ad 2), .ref (ad 3)])) := hcw.1.1
  have hj9 : M (ad 2) = some (.inr (3, [.int (nI (zW z)), .ref (yX y 8), .ref (yX y 9)])) := hcw.2.2.2.1.1
  refine wMet (Qc := QI G _) (cc := cX6_writes) (maxL := 1) (ret := (some .int)) (by decide) rfl (Nat.le_of_ble_eq_true rfl) ?_
  intro p e s m below meth c A ls X hnm hw hK hZ hA hS hsz eA hl
  obtain ⟨hx, hb, hr, hts, hown, hlk, hml⟩ := id X
  have hl : lv_has ls 1 [(0, .ref x)] := hl
  have iX2 : ∀ w ∈ wsX20, w ∈ wsX6_writes := by decide +kernel
  have iX6 : ∀ w ∈ wsX60, w ∈ wsX6_writes := by decide +kernel
  refine lv_aload_n hx hb dX6_writes_0 rfl (lv_at hl 0 rfl) ?_
  refine m_get X iX6 hK hw hx9 rfl 2 (by decide) (ref := "ObjectMapper") (by decide +kernel) (Or.inl rfl) rfl dX6_writes_1 ?_
  refine m_get X iX2 hK hw hj9 rfl 0 (by decide) (ref := "ObjectMapper$Journal") (by decide +kernel) (Or.inl rfl) rfl dX6_writes_4 ?_
  exact m_iret X hK hw hS (by exact ⟨rfl, rfl⟩) (by omega) (by omega) dX6_writes_7
set_option maxHeartbeats 4000000 in
set_option maxRecDepth 100000 in
theorem c_actionAt (l : Launch) (G : gG) (dce sz : Nat) (M : gM) (x : Nat) (ad : Nat → Nat) (y : cY) (z : cZ) (hcw : CW G dce x ad M y z) (j : Nat) (hjw : j < zW z) : mI l yX2_actionAt wsX2_actionAt ({ frames := 0, cells := 0, slots := 0, locals := 0 }) G dce sz M [.ref (ad 2), .int (nI j)] (fun r M' => r = zJ z 0 j ∧ M' = M) (0) (0) := by
  have hj9 : M (ad 2) = some (.inr (3, [.int (nI (zW z)), .ref (yX y 8), .ref (yX y 9)])) := hcw.2.2.2.1.1
  have h8 : M (yX y 8) = some (.inl (G.2 0, zC z, .inl (zJ z 0))) := hcw.2.2.2.1.2.1.1
  have hcc := hcw.2.2.2.1.2.1.2.2
  refine wMet (Qc := QI G _) (cc := cX2_actionAt) (maxL := 2) (ret := (some .int)) (by decide) rfl (Nat.le_of_ble_eq_true rfl) ?_
  intro p e s m below meth c A ls X hnm hw hK hZ hA hS hsz eA hl
  obtain ⟨hx, hb, hr, hts, hown, hlk, hml⟩ := id X
  have hl : lv_has ls 2 [(0, .ref (ad 2)), (1, .int (nI j))] := hl
  have iX2 : ∀ w ∈ wsX20, w ∈ wsX2_actionAt := by decide +kernel
  refine lv_iload_n hx hb dX2_actionAt_0 rfl (lv_at hl 1 rfl) ?_
  refine lv_if_lt (tgt := 13) hx hb dX2_actionAt_1 (by decide) (fun c_1 => ?_) (fun c_1 => ?_)
  · exact (by exfalso; first | exact absurd c_1 (nI_pos (by omega)) | exact c_10 (nI_lt (by omega) (by omega)))
  · refine lv_iload_n hx hb dX2_actionAt_4 rfl (lv_at hl 1 rfl) ?_
    refine lv_aload_n hx hb dX2_actionAt_5 rfl (lv_at hl 0 rfl) ?_
    refine m_get X iX2 hK hw hj9 rfl 1 (by decide) (ref := "ObjectMapper$Journal") (by decide +kernel) (Or.inl rfl) rfl dX2_actionAt_6 ?_
    refine m_alen X hK hw h8 0 rfl dX2_actionAt_9 ?_
    refine W.eq (g2 := F0 m 10 ls [.int (nI (zC z)), .int (nI j)]) rfl ?_
    refine lv_icmp_lt (tgt := 17) hx hb dX2_actionAt_10 (by decide) (fun c_10 => ?_) (fun c_10 => ?_)
    · refine lv_aload_n hx hb dX2_actionAt_17 rfl (lv_at hl 0 rfl) ?_
      refine m_get X iX2 hK hw hj9 rfl 1 (by decide) (ref := "ObjectMapper$Journal") (by decide +kernel) (Or.inl rfl) rfl dX2_actionAt_18 ?_
      refine lv_iload_n hx hb dX2_actionAt_21 rfl (lv_at hl 1 rfl) ?_
      refine m_iald X hK hw h8 (vp_in_nI (by omega) (by omega)) dX2_actionAt_22 ?_
      rw [nI_clamp (by omega)]
      exact m_iret X hK hw hS (by exact ⟨rfl, rfl⟩) (by omega) (by omega) dX2_actionAt_23
    · exact (by exfalso; first | exact absurd c_1 (nI_pos (by omega)) | exact c_10 (nI_lt (by omega) (by omega)))
theorem c_actionAtK (l : Launch) (G : gG) (dce sz : Nat) (M : gM) (x : Nat) (ad : Nat → Nat) (y : cY) (z : cZ) (hcw : CW G dce x ad M y z) (j : Nat) (hjw : j < zW z) (nu : Int32) (hnu : nu = nI j) : mI l yX2_actionAt wsX2_actionAt ({ frames := 0, cells := 0, slots := 0, locals := 0 }) G dce sz M [.ref (ad 2), .int nu] (fun r M' => r = zJ z 0 j ∧ M' = M) (0) (0) := by
  subst hnu
  exact c_actionAt l G dce sz M x ad y z hcw j hjw
set_option maxHeartbeats 4000000 in
set_option maxRecDepth 100000 in
theorem c_write (l : Launch) (G : gG) (dce sz : Nat) (M : gM) (hlt : l.stackTraces = false) (x : Nat) (ad : Nat → Nat) (y : cY) (z : cZ) (hcw : CW G dce x ad M y z) (nu : Int32) : xI l yX6_write wsX6_write ({ frames := 7, cells := 1, slots := 6, locals := 103 }) G dce sz M [.ref x, .int nu] (fun r M' => (∃ j, j < zW z ∧ nu = nI j ∧ r = zJ z 0 j) ∧ M' = M) (fun E M' => (E = xIOB ∧ ¬ (¬ nu < 0 ∧ nu < nI (zW z))) ∧ M' = M) (1) (6) := by
  have hx9 : M x = some (.inr (7, [.ref (ad 0), .ref (ad 1), .ref (ad 2), .ref (ad 3)])) := hcw.1.1
  have hj9 : M (ad 2) = some (.inr (3, [.int (nI (zW z)), .ref (yX y 8), .ref (yX y 9)])) := hcw.2.2.2.1.1
  refine xMet (Qc := QI G _) (XC := QX G _) (cc := cX6_write) (maxL := 2) (ret := (some .int)) (by decide) rfl (Nat.le_of_ble_eq_true rfl) ?_
  intro p e s m below meth c A ls X hno hnm hw hK hZ hA hS hsz eA hl
  obtain ⟨hx, hb, hr, hts, hown, hlk, hml⟩ := id X
  have hl : lv_has ls 2 [(0, .ref x), (1, .int nu)] := hl
  have iX6 : ∀ w ∈ wsX60, w ∈ wsX6_write := by decide +kernel
  refine lv_aload_n hx hb dX6_write_0 rfl (lv_at hl 0 rfl) ?_
  refine lv_iload_n hx hb dX6_write_1 rfl (lv_at hl 1 rfl) ?_
  refine x_callVv X (ci := 7) rfl hx9 hK hw hZ hS hA (As := [.int nu]) (rest := []) (c_X6_checkWrite l G dce _ M hlt x (ad 0) (ad 1) (ad 2) (ad 3) hcw.1.1 (nI (zW z)) (yX y 8) (yX y 9) hj9 nu) (cwV 1 hts gX6_write_X6_checkWrite rfl rfl rfl (by decide +kernel) ⟨Nat.le_of_ble_eq_true rfl, Nat.le_of_ble_eq_true rfl⟩) rfl hl.1 rfl (Nat.le_of_ble_eq_true rfl) dX6_write_2 (Nat.le_of_ble_eq_true rfl) (Nat.le_of_ble_eq_true rfl) (fun E ce q9 M1 H locs hp hw hS hz hk hce hcv hcl9 => ?_) (fun M1 H locs hp hw hS hz hk => ?_)
  · exact m_out X hno hK hw hS hce hcv hcl9 (by omega) (by omega) (⟨⟨hp.1, hp.2.1⟩, hp.2.2⟩)
  obtain ⟨⟨hn1, hn2⟩, eM⟩ := hp
  rw [eM] at hw
  obtain ⟨j, hjb, ej⟩ := nI_of hn1
  have hcc := hcw.2.2.2.1.2.1.2.2
  have hjw : j < zW z := (nI_ltI hjb (by omega)).mp (by rw [← ej]; exact hn2)
  refine lv_aload_n hx hb dX6_write_5 rfl (lv_at hl 0 rfl) ?_
  refine m_get X iX6 hK hw hx9 rfl 2 (by decide) (ref := "ObjectMapper") (by decide +kernel) (Or.inl rfl) rfl dX6_write_6 ?_
  refine lv_iload_n hx hb dX6_write_9 rfl (lv_at hl 1 rfl) ?_
  refine m_callVi X (ci := 3) rfl hj9 hK hw hZ hS hA (As := [.int nu]) (rest := []) (c_actionAtK l G dce _ M x ad y z hcw j hjw nu ej) (cwV 1 hts gX6_write_X2_actionAt rfl rfl rfl (by decide +kernel) ⟨Nat.le_of_ble_eq_true rfl, Nat.le_of_ble_eq_true rfl⟩) rfl hl.1 rfl (Nat.le_of_ble_eq_true rfl) dX6_write_10 (Nat.le_of_ble_eq_true rfl) (Nat.le_of_ble_eq_true rfl) (fun r3 M2 H locs hp hw hS hz hk => ?_)
  rw [hp.2] at hw
  rw [hp.1]
  refine vx_ret ?_
  exact m_iret X hK hw hS (by exact ⟨⟨j, hjw, ej, rfl⟩, rfl⟩) (by omega) (by omega) dX6_write_13
set_option maxHeartbeats 4000000 in
set_option maxRecDepth 100000 in
theorem c_rowNumberAt (l : Launch) (G : gG) (dce sz : Nat) (M : gM) (x : Nat) (ad : Nat → Nat) (y : cY) (z : cZ) (hcw : CW G dce x ad M y z) (j : Nat) (hjw : j < zW z) : mI l yX2_rowNumberAt wsX2_rowNumberAt ({ frames := 0, cells := 0, slots := 0, locals := 0 }) G dce sz M [.ref (ad 2), .int (nI j)] (fun r M' => r = zJ z 1 j ∧ M' = M) (0) (0) := by
  have hj9 : M (ad 2) = some (.inr (3, [.int (nI (zW z)), .ref (yX y 8), .ref (yX y 9)])) := hcw.2.2.2.1.1
  have h8 : M (yX y 9) = some (.inl (G.2 0, zC z, .inl (zJ z 1))) := hcw.2.2.2.1.2.1.2.1
  have hcc := hcw.2.2.2.1.2.1.2.2
  refine wMet (Qc := QI G _) (cc := cX2_rowNumberAt) (maxL := 2) (ret := (some .int)) (by decide) rfl (Nat.le_of_ble_eq_true rfl) ?_
  intro p e s m below meth c A ls X hnm hw hK hZ hA hS hsz eA hl
  obtain ⟨hx, hb, hr, hts, hown, hlk, hml⟩ := id X
  have hl : lv_has ls 2 [(0, .ref (ad 2)), (1, .int (nI j))] := hl
  have iX2 : ∀ w ∈ wsX20, w ∈ wsX2_rowNumberAt := by decide +kernel
  refine lv_iload_n hx hb dX2_rowNumberAt_0 rfl (lv_at hl 1 rfl) ?_
  refine lv_if_lt (tgt := 13) hx hb dX2_rowNumberAt_1 (by decide) (fun c_1 => ?_) (fun c_1 => ?_)
  · exact (by exfalso; first | exact absurd c_1 (nI_pos (by omega)) | exact c_10 (nI_lt (by omega) (by omega)))
  · refine lv_iload_n hx hb dX2_rowNumberAt_4 rfl (lv_at hl 1 rfl) ?_
    refine lv_aload_n hx hb dX2_rowNumberAt_5 rfl (lv_at hl 0 rfl) ?_
    refine m_get X iX2 hK hw hj9 rfl 2 (by decide) (ref := "ObjectMapper$Journal") (by decide +kernel) (Or.inl rfl) rfl dX2_rowNumberAt_6 ?_
    refine m_alen X hK hw h8 0 rfl dX2_rowNumberAt_9 ?_
    refine W.eq (g2 := F0 m 10 ls [.int (nI (zC z)), .int (nI j)]) rfl ?_
    refine lv_icmp_lt (tgt := 17) hx hb dX2_rowNumberAt_10 (by decide) (fun c_10 => ?_) (fun c_10 => ?_)
    · refine lv_aload_n hx hb dX2_rowNumberAt_17 rfl (lv_at hl 0 rfl) ?_
      refine m_get X iX2 hK hw hj9 rfl 2 (by decide) (ref := "ObjectMapper$Journal") (by decide +kernel) (Or.inl rfl) rfl dX2_rowNumberAt_18 ?_
      refine lv_iload_n hx hb dX2_rowNumberAt_21 rfl (lv_at hl 1 rfl) ?_
      refine m_iald X hK hw h8 (vp_in_nI (by omega) (by omega)) dX2_rowNumberAt_22 ?_
      rw [nI_clamp (by omega)]
      exact m_iret X hK hw hS (by exact ⟨rfl, rfl⟩) (by omega) (by omega) dX2_rowNumberAt_23
    · exact (by exfalso; first | exact absurd c_1 (nI_pos (by omega)) | exact c_10 (nI_lt (by omega) (by omega)))
theorem c_rowNumberAtK (l : Launch) (G : gG) (dce sz : Nat) (M : gM) (x : Nat) (ad : Nat → Nat) (y : cY) (z : cZ) (hcw : CW G dce x ad M y z) (j : Nat) (hjw : j < zW z) (nu : Int32) (hnu : nu = nI j) : mI l yX2_rowNumberAt wsX2_rowNumberAt ({ frames := 0, cells := 0, slots := 0, locals := 0 }) G dce sz M [.ref (ad 2), .int nu] (fun r M' => r = zJ z 1 j ∧ M' = M) (0) (0) := by
  subst hnu
  exact c_rowNumberAt l G dce sz M x ad y z hcw j hjw
set_option maxHeartbeats 4000000 in
set_option maxRecDepth 100000 in
theorem c_written (l : Launch) (G : gG) (dce sz : Nat) (M : gM) (hlt : l.stackTraces = false) (x : Nat) (ad : Nat → Nat) (y : cY) (z : cZ) (hcw : CW G dce x ad M y z) (nu : Int32) : xI l yX6_written wsX6_written ({ frames := 7, cells := 1, slots := 6, locals := 103 }) G dce sz M [.ref x, .int nu] (fun r M' => (∃ j, j < zW z ∧ nu = nI j ∧ r = zJ z 1 j) ∧ M' = M) (fun E M' => (E = xIOB ∧ ¬ (¬ nu < 0 ∧ nu < nI (zW z))) ∧ M' = M) (1) (6) := by
  have hx9 : M x = some (.inr (7, [.ref (ad 0), .ref (ad 1), .ref (ad 2), .ref (ad 3)])) := hcw.1.1
  have hj9 : M (ad 2) = some (.inr (3, [.int (nI (zW z)), .ref (yX y 8), .ref (yX y 9)])) := hcw.2.2.2.1.1
  refine xMet (Qc := QI G _) (XC := QX G _) (cc := cX6_written) (maxL := 2) (ret := (some .int)) (by decide) rfl (Nat.le_of_ble_eq_true rfl) ?_
  intro p e s m below meth c A ls X hno hnm hw hK hZ hA hS hsz eA hl
  obtain ⟨hx, hb, hr, hts, hown, hlk, hml⟩ := id X
  have hl : lv_has ls 2 [(0, .ref x), (1, .int nu)] := hl
  have iX6 : ∀ w ∈ wsX60, w ∈ wsX6_written := by decide +kernel
  refine lv_aload_n hx hb dX6_written_0 rfl (lv_at hl 0 rfl) ?_
  refine lv_iload_n hx hb dX6_written_1 rfl (lv_at hl 1 rfl) ?_
  refine x_callVv X (ci := 7) rfl hx9 hK hw hZ hS hA (As := [.int nu]) (rest := []) (c_X6_checkWrite l G dce _ M hlt x (ad 0) (ad 1) (ad 2) (ad 3) hcw.1.1 (nI (zW z)) (yX y 8) (yX y 9) hj9 nu) (cwV 1 hts gX6_written_X6_checkWrite rfl rfl rfl (by decide +kernel) ⟨Nat.le_of_ble_eq_true rfl, Nat.le_of_ble_eq_true rfl⟩) rfl hl.1 rfl (Nat.le_of_ble_eq_true rfl) dX6_written_2 (Nat.le_of_ble_eq_true rfl) (Nat.le_of_ble_eq_true rfl) (fun E ce q9 M1 H locs hp hw hS hz hk hce hcv hcl9 => ?_) (fun M1 H locs hp hw hS hz hk => ?_)
  · exact m_out X hno hK hw hS hce hcv hcl9 (by omega) (by omega) (⟨⟨hp.1, hp.2.1⟩, hp.2.2⟩)
  obtain ⟨⟨hn1, hn2⟩, eM⟩ := hp
  rw [eM] at hw
  obtain ⟨j, hjb, ej⟩ := nI_of hn1
  have hcc := hcw.2.2.2.1.2.1.2.2
  have hjw : j < zW z := (nI_ltI hjb (by omega)).mp (by rw [← ej]; exact hn2)
  refine lv_aload_n hx hb dX6_written_5 rfl (lv_at hl 0 rfl) ?_
  refine m_get X iX6 hK hw hx9 rfl 2 (by decide) (ref := "ObjectMapper") (by decide +kernel) (Or.inl rfl) rfl dX6_written_6 ?_
  refine lv_iload_n hx hb dX6_written_9 rfl (lv_at hl 1 rfl) ?_
  refine m_callVi X (ci := 3) rfl hj9 hK hw hZ hS hA (As := [.int nu]) (rest := []) (c_rowNumberAtK l G dce _ M x ad y z hcw j hjw nu ej) (cwV 1 hts gX6_written_X2_rowNumberAt rfl rfl rfl (by decide +kernel) ⟨Nat.le_of_ble_eq_true rfl, Nat.le_of_ble_eq_true rfl⟩) rfl hl.1 rfl (Nat.le_of_ble_eq_true rfl) dX6_written_10 (Nat.le_of_ble_eq_true rfl) (Nat.le_of_ble_eq_true rfl) (fun r3 M2 H locs hp hw hS hz hk => ?_)
  rw [hp.2] at hw
  rw [hp.1]
  refine vx_ret ?_
  exact m_iret X hK hw hS (by exact ⟨⟨j, hjw, ej, rfl⟩, rfl⟩) (by omega) (by omega) dX6_written_13
