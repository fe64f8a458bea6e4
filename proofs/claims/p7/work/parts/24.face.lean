set_option maxHeartbeats 4000000 in
set_option maxRecDepth 100000 in
theorem c_checkLive (l : Launch) (G : gG) (dce sz : Nat) (M : gM) (hlt : l.stackTraces = false) (x : Nat) (ad : Nat → Nat) (y : cY) (z : cZ) (hcw : CW G dce x ad M y z) (i k : Nat) (hi : i < 3) (hk2 : k < 2) (ky : Int32) : xV l yX6_checkLive wsX6_checkLive ({ frames := 6, cells := 1, slots := 6, locals := 87 }) G dce sz M [.ref (ad (4 + i)), .int (nI k), .int ky] (fun M' => fLive (eV z i k ky) = true ∧ M' = M) (fun E M' => E = xISE ∧ fLive (eV z i k ky) = false ∧ M' = M) (1) (6) := by
  have hs9 : M (ad (4 + i)) = some (.inr (5, [.ref (ad (12 + 2 * i)), .ref (ad (13 + 2 * i)), .ref (ad (40 + i))])) := (hcw.1.2.2.2 i hi).1
  refine xMet (Qc := QV G _) (XC := QX G _) (cc := cX6_checkLive) (maxL := 3) (ret := none) (by decide) rfl (Nat.le_of_ble_eq_true rfl) ?_
  intro p e s m below meth c A ls X hno hnm hw hK hZ hA hS hsz eA hl
  obtain ⟨hx, hb, hr, hts, hown, hlk, hml⟩ := id X
  have hl : lv_has ls 3 [(0, .ref (ad (4 + i))), (1, .int (nI k)), (2, .int ky)] := hl
  refine lv_aload_n hx hb dX6_checkLive_0 rfl (lv_at hl 0 rfl) ?_
  refine lv_iload_n hx hb dX6_checkLive_1 rfl (lv_at hl 1 rfl) ?_
  refine lv_iload_n hx hb dX6_checkLive_2 rfl (lv_at hl 2 rfl) ?_
  refine m_callVr X (ci := 5) rfl hs9 hK hw hZ hS hA (As := [.int (nI k), .int ky]) (rest := []) (c_entityAt l G dce _ M x ad y z hcw i k hi hk2 ky) (cwV 2 hts gX6_checkLive_X4_entityAt rfl rfl rfl (by decide +kernel) ⟨Nat.le_of_ble_eq_true rfl, Nat.le_of_ble_eq_true rfl⟩) rfl hl.1 rfl (Nat.le_of_ble_eq_true rfl) dX6_checkLive_3 (Nat.le_of_ble_eq_true rfl) (Nat.le_of_ble_eq_true rfl) (fun r2 M1 H locs hp hw hS hz hk => ?_)
  rw [hp.2] at hw
  rw [hp.1]
  have hen : M ((enA ad (yO y) (zN z) i k ky)) = some (eE (eV z i k ky)) := CW_eA hcw hi hk2 ky
  obtain ⟨b1, b2, b3, nm, rf, sn, sr, sv, hev⟩ : ∃ b1 b2 b3 nm rf sn sr sv, (eV z i k ky) = (b1, b2, b3, nm, rf, sn, sr, sv) := ⟨_, _, _, _, _, _, _, _, rfl⟩
  have hec : M ((enA ad (yO y) (zN z) i k ky)) = some (.inr (1, [.int (bI b1), .int (bI b2), .int (bI b3), .int nm, .int rf, .int sn, .int sr, .int sv])) := by rw [hen, hev]; rfl
  refine m_callVi X (ci := 1) rfl hec hK hw hZ hS hA (As := []) (rest := []) (c_X0_isLive l G dce _ M (enA ad (yO y) (zN z) i k ky) (eV z i k ky) hen) (cwV 0 hts gX6_checkLive_X0_isLive rfl rfl rfl (by decide +kernel) ⟨Nat.le_of_ble_eq_true rfl, Nat.le_of_ble_eq_true rfl⟩) rfl hl.1 rfl (Nat.le_of_ble_eq_true rfl) dX6_checkLive_6 (Nat.le_of_ble_eq_true rfl) (Nat.le_of_ble_eq_true rfl) (fun r4 M3 H locs hp hw hS hz hk => ?_)
  rw [hp.2] at hw
  rw [hp.1]
  refine lv_if_ne (tgt := 22) hx hb dX6_checkLive_9 (by decide) (fun c_9 => ?_) (fun c_9 => ?_)
  · refine vx_ret ?_
    exact m_vret X hK hw hS (by exact ⟨bI_t c_9, rfl⟩) (by omega) (by omega) dX6_checkLive_22
  · exact m_throwS X hno hlt rfl (cls := "java/lang/IllegalStateException") (text := "object not known or removed") (names := xNm) (by decide +kernel) (by decide +kernel) (by decide +kernel) (by decide +kernel) (by decide) (fun w h => List.mem_cons_of_mem _ (List.mem_append_right _ h)) xng_ISE (by decide) xgd_ISE hK hw hZ hS hl.1 dX6_checkLive_12 dX6_checkLive_15 dX6_checkLive_16 dX6_checkLive_18 dX6_checkLive_21 (Nat.le_of_ble_eq_true rfl) (Nat.le_of_ble_eq_true rfl) (Nat.le_of_ble_eq_true rfl) (Nat.le_of_ble_eq_true rfl) (by omega) (by omega) (⟨rfl, (bI_0 _).mp c_9, rfl⟩)
theorem c_checkLiveK (l : Launch) (G : gG) (dce sz : Nat) (M : gM) (hlt : l.stackTraces = false) (x : Nat) (ad : Nat → Nat) (y : cY) (z : cZ) (hcw : CW G dce x ad M y z) (i k : Nat) (hi : i < 3) (hk2 : k < 2) (ky : Int32) (kd : Int32) (hkd : kd = nI k) : xV l yX6_checkLive wsX6_checkLive ({ frames := 6, cells := 1, slots := 6, locals := 87 }) G dce sz M [.ref (ad (4 + i)), .int kd, .int ky] (fun M' => fLive (eV z i k ky) = true ∧ M' = M) (fun E M' => E = xISE ∧ fLive (eV z i k ky) = false ∧ M' = M) (1) (6) := by
  subst hkd
  exact c_checkLive l G dce sz M hlt x ad y z hcw i k hi hk2 ky
set_option maxHeartbeats 4000000 in
set_option maxRecDepth 100000 in
theorem c_name (l : Launch) (G : gG) (dce sz : Nat) (M : gM) (hlt : l.stackTraces = false) (x : Nat) (ad : Nat → Nat) (y : cY) (z : cZ) (hcw : CW G dce x ad M y z) (si kd ky : Int32) : xI l yX6_name wsX6_name ({ frames := 7, cells := 3, slots := 18, locals := 109 }) G dce sz M [.ref x, .int si, .int kd, .int ky] (fun r M' => (∃ i k j, aS si i ∧ aK kd k ∧ (j < zN z (sL i k) ∧ ky = nI j) ∧ fLive (zE z (sL i k) j) = true ∧ r = eNm (zE z (sL i k) j)) ∧ M' = M) (fun E M' => ((E = xIOB ∧ sOK si = false) ∨ (E = xIAE ∧ sOK si = true ∧ kOK kd = false) ∨ (E = xISE ∧ ∃ i k, aS si i ∧ aK kd k ∧ fLive (eV z i k ky) = false)) ∧ M' = M) (3) (18) := by
  obtain ⟨f, hsa, hf⟩ := hcw.1.2.2.1
  have hx9 : M x = some (.inr (7, [.ref (ad 0), .ref (ad 1), .ref (ad 2), .ref (ad 3)])) := hcw.1.1
  refine xMet (Qc := QI G _) (XC := QX G _) (cc := cX6_name) (maxL := 5) (ret := (some .int)) (by decide) rfl (Nat.le_of_ble_eq_true rfl) ?_
  intro p e s m below meth c A ls X hno hnm hw hK hZ hA hS hsz eA hl
  obtain ⟨hx, hb, hr, hts, hown, hlk, hml⟩ := id X
  have hl : lv_has ls 5 [(0, .ref x), (1, .int si), (2, .int kd), (3, .int ky)] := hl
  have iX0 : ∀ w ∈ wsX00, w ∈ wsX6_name := by decide +kernel
  refine lv_aload_n hx hb dX6_name_0 rfl (lv_at hl 0 rfl) ?_
  refine lv_iload_n hx hb dX6_name_1 rfl (lv_at hl 1 rfl) ?_
  refine x_callVr X (ci := 7) rfl hx9 hK hw hZ hS hA (As := [.int si]) (rest := []) (c_X6_sessionAt l G dce _ M hlt x (ad 0) (ad 1) (ad 2) (ad 3) hcw.1.1 f (fun i => ad (4 + i)) hsa hf si) (cwV 1 hts gX6_name_X6_sessionAt rfl rfl rfl (by decide +kernel) ⟨Nat.le_of_ble_eq_true rfl, Nat.le_of_ble_eq_true rfl⟩) rfl hl.1 rfl (Nat.le_of_ble_eq_true rfl) dX6_name_2 (Nat.le_of_ble_eq_true rfl) (Nat.le_of_ble_eq_true rfl) (fun E ce q9 M1 H locs hp hw hS hz hk hce hcv hcl9 => ?_) (fun r2 M1 H locs hp hw hS hz hk => ?_)
  · exact m_out X hno hK hw hS hce hcv hcl9 (by omega) (by omega) (⟨Or.inl ⟨hp.1, hp.2.1⟩, hp.2.2⟩)
  obtain ⟨⟨i, hi, ei, er⟩, hso, eM⟩ := hp
  have er : r2 = ad (4 + i) := er
  rw [er]
  rw [eM] at hw
  have hs9 : M (ad (4 + i)) = some (.inr (5, [.ref (ad (12 + 2 * i)), .ref (ad (13 + 2 * i)), .ref (ad (40 + i))])) := (hcw.1.2.2.2 i hi).1
  refine lv_astore (lv' := [(4, .ref (ad (4 + i))), (0, .ref x), (1, .int si), (2, .int kd), (3, .int ky)]) hx hb dX6_name_5 hl (by decide) rfl (fun ls hl => ?_)
  refine lv_iload_n hx hb dX6_name_7 rfl (lv_at hl 3 rfl) ?_
  refine x_callSv X hK hw hZ hS hA (As := [.int kd]) (rest := []) (c_X6_checkKind l G dce _ M hlt kd) (va_cwS 1 hts gX6_name_X6_checkKind rfl rfl rfl (by decide +kernel) ⟨Nat.le_of_ble_eq_true rfl, Nat.le_of_ble_eq_true rfl⟩) rfl hl.1 rfl (Nat.le_of_ble_eq_true rfl) dX6_name_8 (Nat.le_of_ble_eq_true rfl) (Nat.le_of_ble_eq_true rfl) (fun E ce q9 M3 H locs hp hw hS hz hk hce hcv hcl9 => ?_) (fun M3 H locs hp hw hS hz hk => ?_)
  · exact m_out X hno hK hw hS hce hcv hcl9 (by omega) (by omega) (⟨Or.inr (Or.inl ⟨hp.1, hso, hp.2.1⟩), hp.2.2⟩)
  have hko := hp.1
  obtain ⟨k, hk2, ek⟩ := kOK_k hko
  rw [hp.2] at hw
  refine lv_aload hx hb dX6_name_11 (lv_at hl 0 rfl) ?_
  refine lv_iload_n hx hb dX6_name_13 rfl (lv_at hl 3 rfl) ?_
  refine lv_iload_n hx hb dX6_name_14 rfl (lv_at hl 4 rfl) ?_
  refine x_callSv X hK hw hZ hS hA (As := [.ref (ad (4 + i)), .int kd, .int ky]) (rest := []) (c_checkLiveK l G dce _ M hlt x ad y z hcw i k hi hk2 ky kd ek) (va_cwS 3 hts gX6_name_X6_checkLive rfl rfl rfl (by decide +kernel) ⟨Nat.le_of_ble_eq_true rfl, Nat.le_of_ble_eq_true rfl⟩) rfl hl.1 rfl (Nat.le_of_ble_eq_true rfl) dX6_name_15 (Nat.le_of_ble_eq_true rfl) (Nat.le_of_ble_eq_true rfl) (fun E ce q9 M4 H locs hp hw hS hz hk hce hcv hcl9 => ?_) (fun M4 H locs hp hw hS hz hk => ?_)
  · exact m_out X hno hK hw hS hce hcv hcl9 (by omega) (by omega) (⟨Or.inr (Or.inr ⟨hp.1, i, k, ⟨hi, ei⟩, ⟨hk2, ek⟩, hp.2.1⟩), hp.2.2⟩)
  have hlv := hp.1
  rw [hp.2] at hw
  obtain ⟨j, hjk, ej⟩ := live_in (hcw.n (by unfold sL; omega)) hlv
  have hlv2 : fLive (zE z (sL i k) j) = true := by rw [ej, eV_in (hcw.n (by unfold sL; omega)) hjk] at hlv; exact hlv
  refine lv_aload hx hb dX6_name_18 (lv_at hl 0 rfl) ?_
  refine lv_iload_n hx hb dX6_name_20 rfl (lv_at hl 3 rfl) ?_
  refine lv_iload_n hx hb dX6_name_21 rfl (lv_at hl 4 rfl) ?_
  refine m_callVr X (ci := 5) rfl hs9 hK hw hZ hS hA (As := [.int kd, .int ky]) (rest := []) (c_entityAtK l G dce _ M x ad y z hcw i k hi hk2 ky kd ek) (cwV 2 hts gX6_name_X4_entityAt rfl rfl rfl (by decide +kernel) ⟨Nat.le_of_ble_eq_true rfl, Nat.le_of_ble_eq_true rfl⟩) rfl hl.1 rfl (Nat.le_of_ble_eq_true rfl) dX6_name_22 (Nat.le_of_ble_eq_true rfl) (Nat.le_of_ble_eq_true rfl) (fun r6 M5 H locs hp hw hS hz hk => ?_)
  rw [hp.2] at hw
  rw [hp.1, show enA ad (yO y) (zN z) i k ky = (yO y (sL i k) j) from by rw [ej]; exact eA_in (hcw.n (by unfold sL; omega)) hjk]
  have hene : M ((yO y (sL i k) j)) = some (eE (zE z (sL i k) j)) := hcw.ent (by unfold sL; omega) (by unfold sL; omega) hjk
  obtain ⟨b1e, b2e, b3e, nme, rfe, sne, sre, sve, heve⟩ : ∃ b1e b2e b3e nme rfe sne sre sve, (zE z (sL i k) j) = (b1e, b2e, b3e, nme, rfe, sne, sre, sve) := ⟨_, _, _, _, _, _, _, _, rfl⟩
  have hece : M ((yO y (sL i k) j)) = some (.inr (1, [.int (bI b1e), .int (bI b2e), .int (bI b3e), .int nme, .int rfe, .int sne, .int sre, .int sve])) := by rw [hene, heve]; rfl
  refine m_get X iX0 hK hw hece rfl 3 (by decide) (ref := "ObjectMapper$Entity") (by decide +kernel) (Or.inl rfl) rfl dX6_name_25 ?_
  refine vx_ret ?_
  exact m_iret X hK hw hS (by exact ⟨⟨i, k, j, ⟨hi, ei⟩, ⟨hk2, ek⟩, ⟨hjk, ej⟩, hlv2, by rw [heve]; rfl⟩, rfl⟩) (by omega) (by omega) dX6_name_28
set_option maxHeartbeats 4000000 in
set_option maxRecDepth 100000 in
theorem c_reference (l : Launch) (G : gG) (dce sz : Nat) (M : gM) (hlt : l.stackTraces = false) (x : Nat) (ad : Nat → Nat) (y : cY) (z : cZ) (hcw : CW G dce x ad M y z) (si kd ky : Int32) : xI l yX6_reference wsX6_reference ({ frames := 7, cells := 3, slots := 18, locals := 109 }) G dce sz M [.ref x, .int si, .int kd, .int ky] (fun r M' => (∃ i k j, aS si i ∧ aK kd k ∧ (j < zN z (sL i k) ∧ ky = nI j) ∧ fLive (zE z (sL i k) j) = true ∧ r = eRf (zE z (sL i k) j)) ∧ M' = M) (fun E M' => ((E = xIOB ∧ sOK si = false) ∨ (E = xIAE ∧ sOK si = true ∧ kOK kd = false) ∨ (E = xISE ∧ ∃ i k, aS si i ∧ aK kd k ∧ fLive (eV z i k ky) = false)) ∧ M' = M) (3) (18) := by
  obtain ⟨f, hsa, hf⟩ := hcw.1.2.2.1
  have hx9 : M x = some (.inr (7, [.ref (ad 0), .ref (ad 1), .ref (ad 2), .ref (ad 3)])) := hcw.1.1
  refine xMet (Qc := QI G _) (XC := QX G _) (cc := cX6_reference) (maxL := 5) (ret := (some .int)) (by decide) rfl (Nat.le_of_ble_eq_true rfl) ?_
  intro p e s m below meth c A ls X hno hnm hw hK hZ hA hS hsz eA hl
  obtain ⟨hx, hb, hr, hts, hown, hlk, hml⟩ := id X
  have hl : lv_has ls 5 [(0, .ref x), (1, .int si), (2, .int kd), (3, .int ky)] := hl
  have iX0 : ∀ w ∈ wsX00, w ∈ wsX6_reference := by decide +kernel
  refine lv_aload_n hx hb dX6_reference_0 rfl (lv_at hl 0 rfl) ?_
  refine lv_iload_n hx hb dX6_reference_1 rfl (lv_at hl 1 rfl) ?_
  refine x_callVr X (ci := 7) rfl hx9 hK hw hZ hS hA (As := [.int si]) (rest := []) (c_X6_sessionAt l G dce _ M hlt x (ad 0) (ad 1) (ad 2) (ad 3) hcw.1.1 f (fun i => ad (4 + i)) hsa hf si) (cwV 1 hts gX6_reference_X6_sessionAt rfl rfl rfl (by decide +kernel) ⟨Nat.le_of_ble_eq_true rfl, Nat.le_of_ble_eq_true rfl⟩) rfl hl.1 rfl (Nat.le_of_ble_eq_true rfl) dX6_reference_2 (Nat.le_of_ble_eq_true rfl) (Nat.le_of_ble_eq_true rfl) (fun E ce q9 M1 H locs hp hw hS hz hk hce hcv hcl9 => ?_) (fun r2 M1 H locs hp hw hS hz hk => ?_)
  · exact m_out X hno hK hw hS hce hcv hcl9 (by omega) (by omega) (⟨Or.inl ⟨hp.1, hp.2.1⟩, hp.2.2⟩)
  obtain ⟨⟨i, hi, ei, er⟩, hso, eM⟩ := hp
  have er : r2 = ad (4 + i) := er
  rw [er]
  rw [eM] at hw
  have hs9 : M (ad (4 + i)) = some (.inr (5, [.ref (ad (12 + 2 * i)), .ref (ad (13 + 2 * i)), .ref (ad (40 + i))])) := (hcw.1.2.2.2 i hi).1
  refine lv_astore (lv' := [(4, .ref (ad (4 + i))), (0, .ref x), (1, .int si), (2, .int kd), (3, .int ky)]) hx hb dX6_reference_5 hl (by decide) rfl (fun ls hl => ?_)
  refine lv_iload_n hx hb dX6_reference_7 rfl (lv_at hl 3 rfl) ?_
  refine x_callSv X hK hw hZ hS hA (As := [.int kd]) (rest := []) (c_X6_checkKind l G dce _ M hlt kd) (va_cwS 1 hts gX6_reference_X6_checkKind rfl rfl rfl (by decide +kernel) ⟨Nat.le_of_ble_eq_true rfl, Nat.le_of_ble_eq_true rfl⟩) rfl hl.1 rfl (Nat.le_of_ble_eq_true rfl) dX6_reference_8 (Nat.le_of_ble_eq_true rfl) (Nat.le_of_ble_eq_true rfl) (fun E ce q9 M3 H locs hp hw hS hz hk hce hcv hcl9 => ?_) (fun M3 H locs hp hw hS hz hk => ?_)
  · exact m_out X hno hK hw hS hce hcv hcl9 (by omega) (by omega) (⟨Or.inr (Or.inl ⟨hp.1, hso, hp.2.1⟩), hp.2.2⟩)
  have hko := hp.1
  obtain ⟨k, hk2, ek⟩ := kOK_k hko
  rw [hp.2] at hw
  refine lv_aload hx hb dX6_reference_11 (lv_at hl 0 rfl) ?_
  refine lv_iload_n hx hb dX6_reference_13 rfl (lv_at hl 3 rfl) ?_
  refine lv_iload_n hx hb dX6_reference_14 rfl (lv_at hl 4 rfl) ?_
  refine x_callSv X hK hw hZ hS hA (As := [.ref (ad (4 + i)), .int kd, .int ky]) (rest := []) (c_checkLiveK l G dce _ M hlt x ad y z hcw i k hi hk2 ky kd ek) (va_cwS 3 hts gX6_reference_X6_checkLive rfl rfl rfl (by decide +kernel) ⟨Nat.le_of_ble_eq_true rfl, Nat.le_of_ble_eq_true rfl⟩) rfl hl.1 rfl (Nat.le_of_ble_eq_true rfl) dX6_reference_15 (Nat.le_of_ble_eq_true rfl) (Nat.le_of_ble_eq_true rfl) (fun E ce q9 M4 H locs hp hw hS hz hk hce hcv hcl9 => ?_) (fun M4 H locs hp hw hS hz hk => ?_)
  · exact m_out X hno hK hw hS hce hcv hcl9 (by omega) (by omega) (⟨Or.inr (Or.inr ⟨hp.1, i, k, ⟨hi, ei⟩, ⟨hk2, ek⟩, hp.2.1⟩), hp.2.2⟩)
  have hlv := hp.1
  rw [hp.2] at hw
  obtain ⟨j, hjk, ej⟩ := live_in (hcw.n (by unfold sL; omega)) hlv
  have hlv2 : fLive (zE z (sL i k) j) = true := by rw [ej, eV_in (hcw.n (by unfold sL; omega)) hjk] at hlv; exact hlv
  refine lv_aload hx hb dX6_reference_18 (lv_at hl 0 rfl) ?_
  refine lv_iload_n hx hb dX6_reference_20 rfl (lv_at hl 3 rfl) ?_
  refine lv_iload_n hx hb dX6_reference_21 rfl (lv_at hl 4 rfl) ?_
  refine m_callVr X (ci := 5) rfl hs9 hK hw hZ hS hA (As := [.int kd, .int ky]) (rest := []) (c_entityAtK l G dce _ M x ad y z hcw i k hi hk2 ky kd ek) (cwV 2 hts gX6_reference_X4_entityAt rfl rfl rfl (by decide +kernel) ⟨Nat.le_of_ble_eq_true rfl, Nat.le_of_ble_eq_true rfl⟩) rfl hl.1 rfl (Nat.le_of_ble_eq_true rfl) dX6_reference_22 (Nat.le_of_ble_eq_true rfl) (Nat.le_of_ble_eq_true rfl) (fun r6 M5 H locs hp hw hS hz hk => ?_)
  rw [hp.2] at hw
  rw [hp.1, show enA ad (yO y) (zN z) i k ky = (yO y (sL i k) j) from by rw [ej]; exact eA_in (hcw.n (by unfold sL; omega)) hjk]
  have hene : M ((yO y (sL i k) j)) = some (eE (zE z (sL i k) j)) := hcw.ent (by unfold sL; omega) (by unfold sL; omega) hjk
  obtain ⟨b1e, b2e, b3e, nme, rfe, sne, sre, sve, heve⟩ : ∃ b1e b2e b3e nme rfe sne sre sve, (zE z (sL i k) j) = (b1e, b2e, b3e, nme, rfe, sne, sre, sve) := ⟨_, _, _, _, _, _, _, _, rfl⟩
  have hece : M ((yO y (sL i k) j)) = some (.inr (1, [.int (bI b1e), .int (bI b2e), .int (bI b3e), .int nme, .int rfe, .int sne, .int sre, .int sve])) := by rw [hene, heve]; rfl
  refine m_get X iX0 hK hw hece rfl 4 (by decide) (ref := "ObjectMapper$Entity") (by decide +kernel) (Or.inl rfl) rfl dX6_reference_25 ?_
  refine vx_ret ?_
  exact m_iret X hK hw hS (by exact ⟨⟨i, k, j, ⟨hi, ei⟩, ⟨hk2, ek⟩, ⟨hjk, ej⟩, hlv2, by rw [heve]; rfl⟩, rfl⟩) (by omega) (by omega) dX6_reference_28
set_option maxHeartbeats 4000000 in
set_option maxRecDepth 100000 in
theorem c_setName (l : Launch) (G : gG) (dce sz : Nat) (M : gM) (hlt : l.stackTraces = false) (x : Nat) (ad : Nat → Nat) (y : cY) (z : cZ) (hcw : CW G dce x ad M y z) (si kd ky nm : Int32) : xV l yX6_setName wsX6_setName ({ frames := 7, cells := 4, slots := 24, locals := 109 }) G dce sz M [.ref x, .int si, .int kd, .int ky, .int nm] (fun M' => ∃ i k j, aS si i ∧ aK kd k ∧ (j < zN z (sL i k) ∧ ky = nI j) ∧ fLive (zE z (sL i k) j) = true ∧ nOK nm = true ∧ cTo G dce x ad M y z M' (kNm i k j nm z)) (fun E M' => ((E = xIOB ∧ sOK si = false) ∨ (E = xIAE ∧ sOK si = true ∧ (kOK kd = false ∨ nOK nm = false)) ∨ (E = xISE ∧ ∃ i k, aS si i ∧ aK kd k ∧ nOK nm = true ∧ fLive (eV z i k ky) = false)) ∧ M' = M) (4) (24) := by
  obtain ⟨f, hsa, hf⟩ := hcw.1.2.2.1
  have hx9 : M x = some (.inr (7, [.ref (ad 0), .ref (ad 1), .ref (ad 2), .ref (ad 3)])) := hcw.1.1
  refine xMet (Qc := QV G _) (XC := QX G _) (cc := cX6_setName) (maxL := 6) (ret := none) (by decide) rfl (Nat.le_of_ble_eq_true rfl) ?_
  intro p e s m below meth c A ls X hno hnm hw hK hZ hA hS hsz eA hl
  obtain ⟨hx, hb, hr, hts, hown, hlk, hml⟩ := id X
  have hl : lv_has ls 6 [(0, .ref x), (1, .int si), (2, .int kd), (3, .int ky), (4, .int nm)] := hl
  have iX0 : ∀ w ∈ wsX00, w ∈ wsX6_setName := by decide +kernel
  refine lv_aload_n hx hb dX6_setName_0 rfl (lv_at hl 0 rfl) ?_
  refine lv_iload_n hx hb dX6_setName_1 rfl (lv_at hl 1 rfl) ?_
  refine x_callVr X (ci := 7) rfl hx9 hK hw hZ hS hA (As := [.int si]) (rest := []) (c_X6_sessionAt l G dce _ M hlt x (ad 0) (ad 1) (ad 2) (ad 3) hcw.1.1 f (fun i => ad (4 + i)) hsa hf si) (cwV 1 hts gX6_setName_X6_sessionAt rfl rfl rfl (by decide +kernel) ⟨Nat.le_of_ble_eq_true rfl, Nat.le_of_ble_eq_true rfl⟩) rfl hl.1 rfl (Nat.le_of_ble_eq_true rfl) dX6_setName_2 (Nat.le_of_ble_eq_true rfl) (Nat.le_of_ble_eq_true rfl) (fun E ce q9 M1 H locs hp hw hS hz hk hce hcv hcl9 => ?_) (fun r2 M1 H locs hp hw hS hz hk => ?_)
  · exact m_out X hno hK hw hS hce hcv hcl9 (by omega) (by omega) (⟨Or.inl ⟨hp.1, hp.2.1⟩, hp.2.2⟩)
  obtain ⟨⟨i, hi, ei, er⟩, hso, eM⟩ := hp
  have er : r2 = ad (4 + i) := er
  rw [er]
  rw [eM] at hw
  have hs9 : M (ad (4 + i)) = some (.inr (5, [.ref (ad (12 + 2 * i)), .ref (ad (13 + 2 * i)), .ref (ad (40 + i))])) := (hcw.1.2.2.2 i hi).1
  refine lv_astore (lv' := [(5, .ref (ad (4 + i))), (0, .ref x), (1, .int si), (2, .int kd), (3, .int ky), (4, .int nm)]) hx hb dX6_setName_5 hl (by decide) rfl (fun ls hl => ?_)
  refine lv_iload_n hx hb dX6_setName_7 rfl (lv_at hl 3 rfl) ?_
  refine x_callSv X hK hw hZ hS hA (As := [.int kd]) (rest := []) (c_X6_checkKind l G dce _ M hlt kd) (va_cwS 1 hts gX6_setName_X6_checkKind rfl rfl rfl (by decide +kernel) ⟨Nat.le_of_ble_eq_true rfl, Nat.le_of_ble_eq_true rfl⟩) rfl hl.1 rfl (Nat.le_of_ble_eq_true rfl) dX6_setName_8 (Nat.le_of_ble_eq_true rfl) (Nat.le_of_ble_eq_true rfl) (fun E ce q9 M3 H locs hp hw hS hz hk hce hcv hcl9 => ?_) (fun M3 H locs hp hw hS hz hk => ?_)
  · exact m_out X hno hK hw hS hce hcv hcl9 (by omega) (by omega) (⟨Or.inr (Or.inl ⟨hp.1, hso, Or.inl hp.2.1⟩), hp.2.2⟩)
  have hko := hp.1
  obtain ⟨k, hk2, ek⟩ := kOK_k hko
  rw [hp.2] at hw
  refine lv_iload hx hb dX6_setName_11 (lv_at hl 5 rfl) ?_
  refine x_callSv X hK hw hZ hS hA (As := [.int nm]) (rest := []) (c_X6_checkRangeOfName l G dce _ M hlt nm) (va_cwS 1 hts gX6_setName_X6_checkRangeOfName rfl rfl rfl (by decide +kernel) ⟨Nat.le_of_ble_eq_true rfl, Nat.le_of_ble_eq_true rfl⟩) rfl hl.1 rfl (Nat.le_of_ble_eq_true rfl) dX6_setName_13 (Nat.le_of_ble_eq_true rfl) (Nat.le_of_ble_eq_true rfl) (fun E ce q9 M4 H locs hp hw hS hz hk hce hcv hcl9 => ?_) (fun M4 H locs hp hw hS hz hk => ?_)
  · exact m_out X hno hK hw hS hce hcv hcl9 (by omega) (by omega) (⟨Or.inr (Or.inl ⟨hp.1, hso, Or.inr hp.2.1⟩), hp.2.2⟩)
  have hno1 := hp.1
  rw [hp.2] at hw
  refine lv_aload hx hb dX6_setName_16 (lv_at hl 0 rfl) ?_
  refine lv_iload_n hx hb dX6_setName_18 rfl (lv_at hl 3 rfl) ?_
  refine lv_iload_n hx hb dX6_setName_19 rfl (lv_at hl 4 rfl) ?_
  refine x_callSv X hK hw hZ hS hA (As := [.ref (ad (4 + i)), .int kd, .int ky]) (rest := []) (c_checkLiveK l G dce _ M hlt x ad y z hcw i k hi hk2 ky kd ek) (va_cwS 3 hts gX6_setName_X6_checkLive rfl rfl rfl (by decide +kernel) ⟨Nat.le_of_ble_eq_true rfl, Nat.le_of_ble_eq_true rfl⟩) rfl hl.1 rfl (Nat.le_of_ble_eq_true rfl) dX6_setName_20 (Nat.le_of_ble_eq_true rfl) (Nat.le_of_ble_eq_true rfl) (fun E ce q9 M5 H locs hp hw hS hz hk hce hcv hcl9 => ?_) (fun M5 H locs hp hw hS hz hk => ?_)
  · exact m_out X hno hK hw hS hce hcv hcl9 (by omega) (by omega) (⟨Or.inr (Or.inr ⟨hp.1, i, k, ⟨hi, ei⟩, ⟨hk2, ek⟩, hno1, hp.2.1⟩), hp.2.2⟩)
  have hlv := hp.1
  rw [hp.2] at hw
  obtain ⟨j, hjk, ej⟩ := live_in (hcw.n (by unfold sL; omega)) hlv
  have hlv2 : fLive (zE z (sL i k) j) = true := by rw [ej, eV_in (hcw.n (by unfold sL; omega)) hjk] at hlv; exact hlv
  refine lv_aload hx hb dX6_setName_23 (lv_at hl 0 rfl) ?_
  refine lv_iload_n hx hb dX6_setName_25 rfl (lv_at hl 3 rfl) ?_
  refine lv_iload_n hx hb dX6_setName_26 rfl (lv_at hl 4 rfl) ?_
  refine m_callVr X (ci := 5) rfl hs9 hK hw hZ hS hA (As := [.int kd, .int ky]) (rest := []) (c_entityAtK l G dce _ M x ad y z hcw i k hi hk2 ky kd ek) (cwV 2 hts gX6_setName_X4_entityAt rfl rfl rfl (by decide +kernel) ⟨Nat.le_of_ble_eq_true rfl, Nat.le_of_ble_eq_true rfl⟩) rfl hl.1 rfl (Nat.le_of_ble_eq_true rfl) dX6_setName_27 (Nat.le_of_ble_eq_true rfl) (Nat.le_of_ble_eq_true rfl) (fun r7 M6 H locs hp hw hS hz hk => ?_)
  rw [hp.2] at hw
  rw [hp.1, show enA ad (yO y) (zN z) i k ky = (yO y (sL i k) j) from by rw [ej]; exact eA_in (hcw.n (by unfold sL; omega)) hjk]
  have hene : M ((yO y (sL i k) j)) = some (eE (zE z (sL i k) j)) := hcw.ent (by unfold sL; omega) (by unfold sL; omega) hjk
  obtain ⟨b1e, b2e, b3e, nme, rfe, sne, sre, sve, heve⟩ : ∃ b1e b2e b3e nme rfe sne sre sve, (zE z (sL i k) j) = (b1e, b2e, b3e, nme, rfe, sne, sre, sve) := ⟨_, _, _, _, _, _, _, _, rfl⟩
  have hece : M ((yO y (sL i k) j)) = some (.inr (1, [.int (bI b1e), .int (bI b2e), .int (bI b3e), .int nme, .int rfe, .int sne, .int sre, .int sve])) := by rw [hene, heve]; rfl
  refine lv_iload hx hb dX6_setName_30 (lv_at hl 5 rfl) ?_
  refine m_put X iX0 tyX0_ok nmX0 hK hw hS hece rfl 3 (by decide) (ref := "ObjectMapper$Entity") (by decide +kernel) (Or.inl rfl) rfl (v := .int nm) rfl rfl (Nat.le_of_ble_eq_true rfl) (fs1 := [.int (bI b1e), .int (bI b2e), .int (bI b3e), .int nm, .int rfe, .int sne, .int sre, .int sve]) rfl dX6_setName_32 (fun M8 H locs eM8 hw hS => ?_)
  have k9 := (congrFun eM8 x).trans (mu_g hx9 (gM_ne hx9 hece (by simp)))
  have k10 := (congrFun eM8 ((ad (4 + i)))).trans (mu_g hs9 (gM_ne hs9 hece (by simp)))
  have k11 : M8 ((yO y (sL i k) j)) = some (.inr (1, [.int (bI b1e), .int (bI b2e), .int (bI b3e), .int nm, .int rfe, .int sne, .int sre, .int sve])) := by rw [eM8]; exact mu_s _ _ _
  have ep : M8 = mu M (yO y (sL i k) j) (eE (fNm (zE z (sL i k) j) nm)) := by rw [eM8, heve]; rfl
  obtain ⟨hc2, hs2⟩ := hcw.setE (u := sL i k) (k := j) (by unfold sL; omega) (by unfold sL; omega) hjk ep
  refine vx_ret ?_
  exact m_vret X hK hw hS (by exact ⟨i, k, j, ⟨hi, ei⟩, ⟨hk2, ek⟩, ⟨hjk, ej⟩, hlv2, hno1, ⟨y, rfl, hc2, hs2⟩⟩) (by omega) (by omega) dX6_setName_35
set_option maxHeartbeats 4000000 in
set_option maxRecDepth 100000 in
theorem c_setReference (l : Launch) (G : gG) (dce sz : Nat) (M : gM) (hlt : l.stackTraces = false) (x : Nat) (ad : Nat → Nat) (y : cY) (z : cZ) (hcw : CW G dce x ad M y z) (si kd ky rf : Int32) : xV l yX6_setReference wsX6_setReference ({ frames := 7, cells := 4, slots := 24, locals := 109 }) G dce sz M [.ref x, .int si, .int kd, .int ky, .int rf] (fun M' => ∃ i k j, aS si i ∧ aK kd k ∧ (j < zN z (sL i k) ∧ ky = nI j) ∧ fLive (zE z (sL i k) j) = true ∧ ¬ (kd = 1 ∧ rf = -1) ∧ (rf = -1 ∨ fLive (eV z i (1 - k) rf) = true) ∧ cTo G dce x ad M y z M' (kRf i k j rf z)) (fun E M' => ((E = xIOB ∧ sOK si = false) ∨ (E = xIAE ∧ sOK si = true ∧ (kOK kd = false ∨ (kd = 1 ∧ rf = -1))) ∨ (E = xISE ∧ ∃ i k, aS si i ∧ aK kd k ∧ ¬ (kd = 1 ∧ rf = -1) ∧ (fLive (eV z i k ky) = false ∨ (fLive (eV z i k ky) = true ∧ rf ≠ -1 ∧ fLive (eV z i (1 - k) rf) = false)))) ∧ M' = M) (4) (24) := by
  obtain ⟨f, hsa, hf⟩ := hcw.1.2.2.1
  have hx9 : M x = some (.inr (7, [.ref (ad 0), .ref (ad 1), .ref (ad 2), .ref (ad 3)])) := hcw.1.1
  refine xMet (Qc := QV G _) (XC := QX G _) (cc := cX6_setReference) (maxL := 6) (ret := none) (by decide) rfl (Nat.le_of_ble_eq_true rfl) ?_
  intro p e s m below meth c A ls X hno hnm hw hK hZ hA hS hsz eA hl
  obtain ⟨hx, hb, hr, hts, hown, hlk, hml⟩ := id X
  have hl : lv_has ls 6 [(0, .ref x), (1, .int si), (2, .int kd), (3, .int ky), (4, .int rf)] := hl
  have iX0 : ∀ w ∈ wsX00, w ∈ wsX6_setReference := by decide +kernel
  refine lv_aload_n hx hb dX6_setReference_0 rfl (lv_at hl 0 rfl) ?_
  refine lv_iload_n hx hb dX6_setReference_1 rfl (lv_at hl 1 rfl) ?_
  refine x_callVr X (ci := 7) rfl hx9 hK hw hZ hS hA (As := [.int si]) (rest := []) (c_X6_sessionAt l G dce _ M hlt x (ad 0) (ad 1) (ad 2) (ad 3) hcw.1.1 f (fun i => ad (4 + i)) hsa hf si) (cwV 1 hts gX6_setReference_X6_sessionAt rfl rfl rfl (by decide +kernel) ⟨Nat.le_of_ble_eq_true rfl, Nat.le_of_ble_eq_true rfl⟩) rfl hl.1 rfl (Nat.le_of_ble_eq_true rfl) dX6_setReference_2 (Nat.le_of_ble_eq_true rfl) (Nat.le_of_ble_eq_true rfl) (fun E ce q9 M1 H locs hp hw hS hz hk hce hcv hcl9 => ?_) (fun r2 M1 H locs hp hw hS hz hk => ?_)
  · exact m_out X hno hK hw hS hce hcv hcl9 (by omega) (by omega) (⟨Or.inl ⟨hp.1, hp.2.1⟩, hp.2.2⟩)
  obtain ⟨⟨i, hi, ei, er⟩, hso, eM⟩ := hp
  have er : r2 = ad (4 + i) := er
  rw [er]
  rw [eM] at hw
  have hs9 : M (ad (4 + i)) = some (.inr (5, [.ref (ad (12 + 2 * i)), .ref (ad (13 + 2 * i)), .ref (ad (40 + i))])) := (hcw.1.2.2.2 i hi).1
  refine lv_astore (lv' := [(5, .ref (ad (4 + i))), (0, .ref x), (1, .int si), (2, .int kd), (3, .int ky), (4, .int rf)]) hx hb dX6_setReference_5 hl (by decide) rfl (fun ls hl => ?_)
  refine lv_iload_n hx hb dX6_setReference_7 rfl (lv_at hl 3 rfl) ?_
  refine x_callSv X hK hw hZ hS hA (As := [.int kd]) (rest := []) (c_X6_checkKind l G dce _ M hlt kd) (va_cwS 1 hts gX6_setReference_X6_checkKind rfl rfl rfl (by decide +kernel) ⟨Nat.le_of_ble_eq_true rfl, Nat.le_of_ble_eq_true rfl⟩) rfl hl.1 rfl (Nat.le_of_ble_eq_true rfl) dX6_setReference_8 (Nat.le_of_ble_eq_true rfl) (Nat.le_of_ble_eq_true rfl) (fun E ce q9 M3 H locs hp hw hS hz hk hce hcv hcl9 => ?_) (fun M3 H locs hp hw hS hz hk => ?_)
  · exact m_out X hno hK hw hS hce hcv hcl9 (by omega) (by omega) (⟨Or.inr (Or.inl ⟨hp.1, hso, Or.inl hp.2.1⟩), hp.2.2⟩)
  have hko := hp.1
  obtain ⟨k, hk2, ek⟩ := kOK_k hko
  rw [hp.2] at hw
  refine lv_iload_n hx hb dX6_setReference_11 rfl (lv_at hl 3 rfl) ?_
  refine lv_iconst (v := 1) hx hb dX6_setReference_12 (by decide) ?_
  refine lv_icmp_ne (tgt := 32) hx hb dX6_setReference_13 (by decide) (fun c_13 => ?_) (fun c_13 => ?_)
  · have hnn : ¬ (kd = 1 ∧ rf = -1) := fun q => by first | exact c_13 q.1 | exact c_19 q.2
    refine lv_aload hx hb dX6_setReference_32 (lv_at hl 0 rfl) ?_
    refine lv_iload_n hx hb dX6_setReference_34 rfl (lv_at hl 3 rfl) ?_
    refine lv_iload_n hx hb dX6_setReference_35 rfl (lv_at hl 4 rfl) ?_
    refine x_callSv X hK hw hZ hS hA (As := [.ref (ad (4 + i)), .int kd, .int ky]) (rest := []) (c_checkLiveK l G dce _ M hlt x ad y z hcw i k hi hk2 ky kd ek) (va_cwS 3 hts gX6_setReference_X6_checkLive rfl rfl rfl (by decide +kernel) ⟨Nat.le_of_ble_eq_true rfl, Nat.le_of_ble_eq_true rfl⟩) rfl hl.1 rfl (Nat.le_of_ble_eq_true rfl) dX6_setReference_36 (Nat.le_of_ble_eq_true rfl) (Nat.le_of_ble_eq_true rfl) (fun E ce q9 M4 H locs hp hw hS hz hk hce hcv hcl9 => ?_) (fun M4 H locs hp hw hS hz hk => ?_)
    · exact m_out X hno hK hw hS hce hcv hcl9 (by omega) (by omega) (⟨Or.inr (Or.inr ⟨hp.1, i, k, ⟨hi, ei⟩, ⟨hk2, ek⟩, hnn, Or.inl hp.2.1⟩), hp.2.2⟩)
    have hlv := hp.1
    rw [hp.2] at hw
    obtain ⟨j, hjk, ej⟩ := live_in (hcw.n (by unfold sL; omega)) hlv
    have hlv2 : fLive (zE z (sL i k) j) = true := by rw [ej, eV_in (hcw.n (by unfold sL; omega)) hjk] at hlv; exact hlv
    refine lv_iload hx hb dX6_setReference_39 (lv_at hl 5 rfl) ?_
    refine lv_iconst (v := (-1)) hx hb dX6_setReference_41 (by decide) ?_
    refine lv_icmp_eq (tgt := 56) hx hb dX6_setReference_42 (by decide) (fun c_42 => ?_) (fun c_42 => ?_)
    · have hrr : rf = -1 ∨ fLive (eV z i (1 - k) rf) = true := by first | exact Or.inl (Classical.not_not.mp (fun q => by first | exact q c_42 | exact c_42 q)) | exact Or.inr hlr
      refine lv_aload hx hb dX6_setReference_56 (lv_at hl 0 rfl) ?_
      refine lv_iload_n hx hb dX6_setReference_58 rfl (lv_at hl 3 rfl) ?_
      refine lv_iload_n hx hb dX6_setReference_59 rfl (lv_at hl 4 rfl) ?_
      refine m_callVr X (ci := 5) rfl hs9 hK hw hZ hS hA (As := [.int kd, .int ky]) (rest := []) (c_entityAtK l G dce _ M x ad y z hcw i k hi hk2 ky kd ek) (cwV 2 hts gX6_setReference_X4_entityAt rfl rfl rfl (by decide +kernel) ⟨Nat.le_of_ble_eq_true rfl, Nat.le_of_ble_eq_true rfl⟩) rfl hl.1 rfl (Nat.le_of_ble_eq_true rfl) dX6_setReference_60 (Nat.le_of_ble_eq_true rfl) (Nat.le_of_ble_eq_true rfl) (fun r6 M5 H locs hp hw hS hz hk => ?_)
      rw [hp.2] at hw
      rw [hp.1, show enA ad (yO y) (zN z) i k ky = (yO y (sL i k) j) from by rw [ej]; exact eA_in (hcw.n (by unfold sL; omega)) hjk]
      have hene : M ((yO y (sL i k) j)) = some (eE (zE z (sL i k) j)) := hcw.ent (by unfold sL; omega) (by unfold sL; omega) hjk
      obtain ⟨b1e, b2e, b3e, nme, rfe, sne, sre, sve, heve⟩ : ∃ b1e b2e b3e nme rfe sne sre sve, (zE z (sL i k) j) = (b1e, b2e, b3e, nme, rfe, sne, sre, sve) := ⟨_, _, _, _, _, _, _, _, rfl⟩
      have hece : M ((yO y (sL i k) j)) = some (.inr (1, [.int (bI b1e), .int (bI b2e), .int (bI b3e), .int nme, .int rfe, .int sne, .int sre, .int sve])) := by rw [hene, heve]; rfl
      refine lv_iload hx hb dX6_setReference_63 (lv_at hl 5 rfl) ?_
      refine m_put X iX0 tyX0_ok nmX0 hK hw hS hece rfl 4 (by decide) (ref := "ObjectMapper$Entity") (by decide +kernel) (Or.inl rfl) rfl (v := .int rf) rfl rfl (Nat.le_of_ble_eq_true rfl) (fs1 := [.int (bI b1e), .int (bI b2e), .int (bI b3e), .int nme, .int rf, .int sne, .int sre, .int sve]) rfl dX6_setReference_65 (fun M7 H locs eM7 hw hS => ?_)
      have k8 := (congrFun eM7 x).trans (mu_g hx9 (gM_ne hx9 hece (by simp)))
      have k9 := (congrFun eM7 ((ad (4 + i)))).trans (mu_g hs9 (gM_ne hs9 hece (by simp)))
      have k10 : M7 ((yO y (sL i k) j)) = some (.inr (1, [.int (bI b1e), .int (bI b2e), .int (bI b3e), .int nme, .int rf, .int sne, .int sre, .int sve])) := by rw [eM7]; exact mu_s _ _ _
      have ep : M7 = mu M (yO y (sL i k) j) (eE (fRf (zE z (sL i k) j) rf)) := by rw [eM7, heve]; rfl
      obtain ⟨hc2, hs2⟩ := hcw.setE (u := sL i k) (k := j) (by unfold sL; omega) (by unfold sL; omega) hjk ep
      refine vx_ret ?_
      exact m_vret X hK hw hS (by exact ⟨i, k, j, ⟨hi, ei⟩, ⟨hk2, ek⟩, ⟨hjk, ej⟩, hlv2, hnn, hrr, ⟨y, rfl, hc2, hs2⟩⟩) (by omega) (by omega) dX6_setReference_68
    · refine lv_aload hx hb dX6_setReference_45 (lv_at hl 0 rfl) ?_
      refine lv_iload_n hx hb dX6_setReference_47 rfl (lv_at hl 3 rfl) ?_
      refine m_callSi X hK hw hZ hS hA (As := [.int kd]) (rest := [.ref (ad (4 + i))]) (c_X6_otherKind l G dce _ M kd) (va_cwS 1 hts gX6_setReference_X6_otherKind rfl rfl rfl (by decide +kernel) ⟨Nat.le_of_ble_eq_true rfl, Nat.le_of_ble_eq_true rfl⟩) rfl hl.1 rfl (Nat.le_of_ble_eq_true rfl) dX6_setReference_48 (Nat.le_of_ble_eq_true rfl) (Nat.le_of_ble_eq_true rfl) (fun r12 M11 H locs hp hw hS hz hk => ?_)
      rw [hp.2] at hw
      have eo : (if kd = 0 then 1 else 0 : Int32) = nI (1 - k) := by
        rcases (show k = 0 ∨ k = 1 by omega) with rfl | rfl
        · rw [ek]; decide
        · rw [ek]; decide
      rw [hp.1]
      refine lv_iload hx hb dX6_setReference_51 (lv_at hl 5 rfl) ?_
      refine x_callSv X hK hw hZ hS hA (As := [.ref (ad (4 + i)), .int (if kd = 0 then 1 else 0), .int rf]) (rest := []) (c_checkLiveK l G dce _ M hlt x ad y z hcw i (1 - k) hi (by omega) rf _ eo) (va_cwS 3 hts gX6_setReference_X6_checkLive rfl rfl rfl (by decide +kernel) ⟨Nat.le_of_ble_eq_true rfl, Nat.le_of_ble_eq_true rfl⟩) rfl hl.1 rfl (Nat.le_of_ble_eq_true rfl) dX6_setReference_53 (Nat.le_of_ble_eq_true rfl) (Nat.le_of_ble_eq_true rfl) (fun E ce q9 M13 H locs hp hw hS hz hk hce hcv hcl9 => ?_) (fun M13 H locs hp hw hS hz hk => ?_)
      · exact m_out X hno hK hw hS hce hcv hcl9 (by omega) (by omega) (⟨Or.inr (Or.inr ⟨hp.1, i, k, ⟨hi, ei⟩, ⟨hk2, ek⟩, hnn, Or.inr ⟨hlv, c_42, hp.2.1⟩⟩), hp.2.2⟩)
      have hlr := hp.1
      rw [hp.2] at hw
      have hrr : rf = -1 ∨ fLive (eV z i (1 - k) rf) = true := by first | exact Or.inl (Classical.not_not.mp (fun q => by first | exact q c_42 | exact c_42 q)) | exact Or.inr hlr
      refine lv_aload hx hb dX6_setReference_56 (lv_at hl 0 rfl) ?_
      refine lv_iload_n hx hb dX6_setReference_58 rfl (lv_at hl 3 rfl) ?_
      refine lv_iload_n hx hb dX6_setReference_59 rfl (lv_at hl 4 rfl) ?_
      refine m_callVr X (ci := 5) rfl hs9 hK hw hZ hS hA (As := [.int kd, .int ky]) (rest := []) (c_entityAtK l G dce _ M x ad y z hcw i k hi hk2 ky kd ek) (cwV 2 hts gX6_setReference_X4_entityAt rfl rfl rfl (by decide +kernel) ⟨Nat.le_of_ble_eq_true rfl, Nat.le_of_ble_eq_true rfl⟩) rfl hl.1 rfl (Nat.le_of_ble_eq_true rfl) dX6_setReference_60 (Nat.le_of_ble_eq_true rfl) (Nat.le_of_ble_eq_true rfl) (fun r15 M14 H locs hp hw hS hz hk => ?_)
      rw [hp.2] at hw
      rw [hp.1, show enA ad (yO y) (zN z) i k ky = (yO y (sL i k) j) from by rw [ej]; exact eA_in (hcw.n (by unfold sL; omega)) hjk]
      have hene : M ((yO y (sL i k) j)) = some (eE (zE z (sL i k) j)) := hcw.ent (by unfold sL; omega) (by unfold sL; omega) hjk
      obtain ⟨b1e, b2e, b3e, nme, rfe, sne, sre, sve, heve⟩ : ∃ b1e b2e b3e nme rfe sne sre sve, (zE z (sL i k) j) = (b1e, b2e, b3e, nme, rfe, sne, sre, sve) := ⟨_, _, _, _, _, _, _, _, rfl⟩
      have hece : M ((yO y (sL i k) j)) = some (.inr (1, [.int (bI b1e), .int (bI b2e), .int (bI b3e), .int nme, .int rfe, .int sne, .int sre, .int sve])) := by rw [hene, heve]; rfl
      refine lv_iload hx hb dX6_setReference_63 (lv_at hl 5 rfl) ?_
      refine m_put X iX0 tyX0_ok nmX0 hK hw hS hece rfl 4 (by decide) (ref := "ObjectMapper$Entity") (by decide +kernel) (Or.inl rfl) rfl (v := .int rf) rfl rfl (Nat.le_of_ble_eq_true rfl) (fs1 := [.int (bI b1e), .int (bI b2e), .int (bI b3e), .int nme, .int rf, .int sne, .int sre, .int sve]) rfl dX6_setReference_65 (fun M16 H locs eM16 hw hS => ?_)
      have k17 := (congrFun eM16 x).trans (mu_g hx9 (gM_ne hx9 hece (by simp)))
      have k18 := (congrFun eM16 ((ad (4 + i)))).trans (mu_g hs9 (gM_ne hs9 hece (by simp)))
      have k19 : M16 ((yO y (sL i k) j)) = some (.inr (1, [.int (bI b1e), .int (bI b2e), .int (bI b3e), .int nme, .int rf, .int sne, .int sre, .int sve])) := by rw [eM16]; exact mu_s _ _ _
      have ep : M16 = mu M (yO y (sL i k) j) (eE (fRf (zE z (sL i k) j) rf)) := by rw [eM16, heve]; rfl
      obtain ⟨hc2, hs2⟩ := hcw.setE (u := sL i k) (k := j) (by unfold sL; omega) (by unfold sL; omega) hjk ep
      refine vx_ret ?_
      exact m_vret X hK hw hS (by exact ⟨i, k, j, ⟨hi, ei⟩, ⟨hk2, ek⟩, ⟨hjk, ej⟩, hlv2, hnn, hrr, ⟨y, rfl, hc2, hs2⟩⟩) (by omega) (by omega) dX6_setReference_68
  · refine lv_iload hx hb dX6_setReference_16 (lv_at hl 5 rfl) ?_
    refine lv_iconst (v := (-1)) hx hb dX6_setReference_18 (by decide) ?_
    refine lv_icmp_ne (tgt := 32) hx hb dX6_setReference_19 (by decide) (fun c_19 => ?_) (fun c_19 => ?_)
    · have hnn : ¬ (kd = 1 ∧ rf = -1) := fun q => by first | exact c_13 q.1 | exact c_19 q.2
      refine lv_aload hx hb dX6_setReference_32 (lv_at hl 0 rfl) ?_
      refine lv_iload_n hx hb dX6_setReference_34 rfl (lv_at hl 3 rfl) ?_
      refine lv_iload_n hx hb dX6_setReference_35 rfl (lv_at hl 4 rfl) ?_
      refine x_callSv X hK hw hZ hS hA (As := [.ref (ad (4 + i)), .int kd, .int ky]) (rest := []) (c_checkLiveK l G dce _ M hlt x ad y z hcw i k hi hk2 ky kd ek) (va_cwS 3 hts gX6_setReference_X6_checkLive rfl rfl rfl (by decide +kernel) ⟨Nat.le_of_ble_eq_true rfl, Nat.le_of_ble_eq_true rfl⟩) rfl hl.1 rfl (Nat.le_of_ble_eq_true rfl) dX6_setReference_36 (Nat.le_of_ble_eq_true rfl) (Nat.le_of_ble_eq_true rfl) (fun E ce q9 M20 H locs hp hw hS hz hk hce hcv hcl9 => ?_) (fun M20 H locs hp hw hS hz hk => ?_)
      · exact m_out X hno hK hw hS hce hcv hcl9 (by omega) (by omega) (⟨Or.inr (Or.inr ⟨hp.1, i, k, ⟨hi, ei⟩, ⟨hk2, ek⟩, hnn, Or.inl hp.2.1⟩), hp.2.2⟩)
      have hlv := hp.1
      rw [hp.2] at hw
      obtain ⟨j, hjk, ej⟩ := live_in (hcw.n (by unfold sL; omega)) hlv
      have hlv2 : fLive (zE z (sL i k) j) = true := by rw [ej, eV_in (hcw.n (by unfold sL; omega)) hjk] at hlv; exact hlv
      refine lv_iload hx hb dX6_setReference_39 (lv_at hl 5 rfl) ?_
      refine lv_iconst (v := (-1)) hx hb dX6_setReference_41 (by decide) ?_
      refine lv_icmp_eq (tgt := 56) hx hb dX6_setReference_42 (by decide) (fun c_42 => ?_) (fun c_42 => ?_)
      · have hrr : rf = -1 ∨ fLive (eV z i (1 - k) rf) = true := by first | exact Or.inl (Classical.not_not.mp (fun q => by first | exact q c_42 | exact c_42 q)) | exact Or.inr hlr
        refine lv_aload hx hb dX6_setReference_56 (lv_at hl 0 rfl) ?_
        refine lv_iload_n hx hb dX6_setReference_58 rfl (lv_at hl 3 rfl) ?_
        refine lv_iload_n hx hb dX6_setReference_59 rfl (lv_at hl 4 rfl) ?_
        refine m_callVr X (ci := 5) rfl hs9 hK hw hZ hS hA (As := [.int kd, .int ky]) (rest := []) (c_entityAtK l G dce _ M x ad y z hcw i k hi hk2 ky kd ek) (cwV 2 hts gX6_setReference_X4_entityAt rfl rfl rfl (by decide +kernel) ⟨Nat.le_of_ble_eq_true rfl, Nat.le_of_ble_eq_true rfl⟩) rfl hl.1 rfl (Nat.le_of_ble_eq_true rfl) dX6_setReference_60 (Nat.le_of_ble_eq_true rfl) (Nat.le_of_ble_eq_true rfl) (fun r22 M21 H locs hp hw hS hz hk => ?_)
        rw [hp.2] at hw
        rw [hp.1, show enA ad (yO y) (zN z) i k ky = (yO y (sL i k) j) from by rw [ej]; exact eA_in (hcw.n (by unfold sL; omega)) hjk]
        have hene : M ((yO y (sL i k) j)) = some (eE (zE z (sL i k) j)) := hcw.ent (by unfold sL; omega) (by unfold sL; omega) hjk
        obtain ⟨b1e, b2e, b3e, nme, rfe, sne, sre, sve, heve⟩ : ∃ b1e b2e b3e nme rfe sne sre sve, (zE z (sL i k) j) = (b1e, b2e, b3e, nme, rfe, sne, sre, sve) := ⟨_, _, _, _, _, _, _, _, rfl⟩
        have hece : M ((yO y (sL i k) j)) = some (.inr (1, [.int (bI b1e), .int (bI b2e), .int (bI b3e), .int nme, .int rfe, .int sne, .int sre, .int sve])) := by rw [hene, heve]; rfl
        refine lv_iload hx hb dX6_setReference_63 (lv_at hl 5 rfl) ?_
        refine m_put X iX0 tyX0_ok nmX0 hK hw hS hece rfl 4 (by decide) (ref := "ObjectMapper$Entity") (by decide +kernel) (Or.inl rfl) rfl (v := .int rf) rfl rfl (Nat.le_of_ble_eq_true rfl) (fs1 := [.int (bI b1e), .int (bI b2e), .int (bI b3e), .int nme, .int rf, .int sne, .int sre, .int sve]) rfl dX6_setReference_65 (fun M23 H locs eM23 hw hS => ?_)
        have k24 := (congrFun eM23 x).trans (mu_g hx9 (gM_ne hx9 hece (by simp)))
        have k25 := (congrFun eM23 ((ad (4 + i)))).trans (mu_g hs9 (gM_ne hs9 hece (by simp)))
        have k26 : M23 ((yO y (sL i k) j)) = some (.inr (1, [.int (bI b1e), .int (bI b2e), .int (bI b3e), .int nme, .int rf, .int sne, .int sre, .int sve])) := by rw [eM23]; exact mu_s _ _ _
        have ep : M23 = mu M (yO y (sL i k) j) (eE (fRf (zE z (sL i k) j) rf)) := by rw [eM23, heve]; rfl
        obtain ⟨hc2, hs2⟩ := hcw.setE (u := sL i k) (k := j) (by unfold sL; omega) (by unfold sL; omega) hjk ep
        refine vx_ret ?_
        exact m_vret X hK hw hS (by exact ⟨i, k, j, ⟨hi, ei⟩, ⟨hk2, ek⟩, ⟨hjk, ej⟩, hlv2, hnn, hrr, ⟨y, rfl, hc2, hs2⟩⟩) (by omega) (by omega) dX6_setReference_68
      · refine lv_aload hx hb dX6_setReference_45 (lv_at hl 0 rfl) ?_
        refine lv_iload_n hx hb dX6_setReference_47 rfl (lv_at hl 3 rfl) ?_
        refine m_callSi X hK hw hZ hS hA (As := [.int kd]) (rest := [.ref (ad (4 + i))]) (c_X6_otherKind l G dce _ M kd) (va_cwS 1 hts gX6_setReference_X6_otherKind rfl rfl rfl (by decide +kernel) ⟨Nat.le_of_ble_eq_true rfl, Nat.le_of_ble_eq_true rfl⟩) rfl hl.1 rfl (Nat.le_of_ble_eq_true rfl) dX6_setReference_48 (Nat.le_of_ble_eq_true rfl) (Nat.le_of_ble_eq_true rfl) (fun r28 M27 H locs hp hw hS hz hk => ?_)
        rw [hp.2] at hw
        have eo : (if kd = 0 then 1 else 0 : Int32) = nI (1 - k) := by
          rcases (show k = 0 ∨ k = 1 by omega) with rfl | rfl
          · rw [ek]; decide
          · rw [ek]; decide
        rw [hp.1]
        refine lv_iload hx hb dX6_setReference_51 (lv_at hl 5 rfl) ?_
        refine x_callSv X hK hw hZ hS hA (As := [.ref (ad (4 + i)), .int (if kd = 0 then 1 else 0), .int rf]) (rest := []) (c_checkLiveK l G dce _ M hlt x ad y z hcw i (1 - k) hi (by omega) rf _ eo) (va_cwS 3 hts gX6_setReference_X6_checkLive rfl rfl rfl (by decide +kernel) ⟨Nat.le_of_ble_eq_true rfl, Nat.le_of_ble_eq_true rfl⟩) rfl hl.1 rfl (Nat.le_of_ble_eq_true rfl) dX6_setReference_53 (Nat.le_of_ble_eq_true rfl) (Nat.le_of_ble_eq_true rfl) (fun E ce q9 M29 H locs hp hw hS hz hk hce hcv hcl9 => ?_) (fun M29 H locs hp hw hS hz hk => ?_)
        · exact m_out X hno hK hw hS hce hcv hcl9 (by omega) (by omega) (⟨Or.inr (Or.inr ⟨hp.1, i, k, ⟨hi, ei⟩, ⟨hk2, ek⟩, hnn, Or.inr ⟨hlv, c_42, hp.2.1⟩⟩), hp.2.2⟩)
        have hlr := hp.1
        rw [hp.2] at hw
        have hrr : rf = -1 ∨ fLive (eV z i (1 - k) rf) = true := by first | exact Or.inl (Classical.not_not.mp (fun q => by first | exact q c_42 | exact c_42 q)) | exact Or.inr hlr
        refine lv_aload hx hb dX6_setReference_56 (lv_at hl 0 rfl) ?_
        refine lv_iload_n hx hb dX6_setReference_58 rfl (lv_at hl 3 rfl) ?_
        refine lv_iload_n hx hb dX6_setReference_59 rfl (lv_at hl 4 rfl) ?_
        refine m_callVr X (ci := 5) rfl hs9 hK hw hZ hS hA (As := [.int kd, .int ky]) (rest := []) (c_entityAtK l G dce _ M x ad y z hcw i k hi hk2 ky kd ek) (cwV 2 hts gX6_setReference_X4_entityAt rfl rfl rfl (by decide +kernel) ⟨Nat.le_of_ble_eq_true rfl, Nat.le_of_ble_eq_true rfl⟩) rfl hl.1 rfl (Nat.le_of_ble_eq_true rfl) dX6_setReference_60 (Nat.le_of_ble_eq_true rfl) (Nat.le_of_ble_eq_true rfl) (fun r31 M30 H locs hp hw hS hz hk => ?_)
        rw [hp.2] at hw
        rw [hp.1, show enA ad (yO y) (zN z) i k ky = (yO y (sL i k) j) from by rw [ej]; exact eA_in (hcw.n (by unfold sL; omega)) hjk]
        have hene : M ((yO y (sL i k) j)) = some (eE (zE z (sL i k) j)) := hcw.ent (by unfold sL; omega) (by unfold sL; omega) hjk
        obtain ⟨b1e, b2e, b3e, nme, rfe, sne, sre, sve, heve⟩ : ∃ b1e b2e b3e nme rfe sne sre sve, (zE z (sL i k) j) = (b1e, b2e, b3e, nme, rfe, sne, sre, sve) := ⟨_, _, _, _, _, _, _, _, rfl⟩
        have hece : M ((yO y (sL i k) j)) = some (.inr (1, [.int (bI b1e), .int (bI b2e), .int (bI b3e), .int nme, .int rfe, .int sne, .int sre, .int sve])) := by rw [hene, heve]; rfl
        refine lv_iload hx hb dX6_setReference_63 (lv_at hl 5 rfl) ?_
        refine m_put X iX0 tyX0_ok nmX0 hK hw hS hece rfl 4 (by decide) (ref := "ObjectMapper$Entity") (by decide +kernel) (Or.inl rfl) rfl (v := .int rf) rfl rfl (Nat.le_of_ble_eq_true rfl) (fs1 := [.int (bI b1e), .int (bI b2e), .int (bI b3e), .int nme, .int rf, .int sne, .int sre, .int sve]) rfl dX6_setReference_65 (fun M32 H locs eM32 hw hS => ?_)
        have k33 := (congrFun eM32 x).trans (mu_g hx9 (gM_ne hx9 hece (by simp)))
        have k34 := (congrFun eM32 ((ad (4 + i)))).trans (mu_g hs9 (gM_ne hs9 hece (by simp)))
        have k35 : M32 ((yO y (sL i k) j)) = some (.inr (1, [.int (bI b1e), .int (bI b2e), .int (bI b3e), .int nme, .int rf, .int sne, .int sre, .int sve])) := by rw [eM32]; exact mu_s _ _ _
        have ep : M32 = mu M (yO y (sL i k) j) (eE (fRf (zE z (sL i k) j) rf)) := by rw [eM32, heve]; rfl
        obtain ⟨hc2, hs2⟩ := hcw.setE (u := sL i k) (k := j) (by unfold sL; omega) (by unfold sL; omega) hjk ep
        refine vx_ret ?_
        exact m_vret X hK hw hS (by exact ⟨i, k, j, ⟨hi, ei⟩, ⟨hk2, ek⟩, ⟨hjk, ej⟩, hlv2, hnn, hrr, ⟨y, rfl, hc2, hs2⟩⟩) (by omega) (by omega) dX6_setReference_68
    · exact m_throwS X hno hlt rfl (cls := "java/lang/IllegalArgumentException") (text := "a book needs an author") (names := xNm) (by decide +kernel) (by decide +kernel) (by decide +kernel) (by decide +kernel) (by decide) (fun w h => List.mem_cons_of_mem _ (List.mem_append_left _ (List.mem_append_left _ (List.mem_append_right _ h)))) xng_IAE (by decide) xgd_IAE hK hw hZ hS hl.1 dX6_setReference_22 dX6_setReference_25 dX6_setReference_26 dX6_setReference_28 dX6_setReference_31 (Nat.le_of_ble_eq_true rfl) (Nat.le_of_ble_eq_true rfl) (Nat.le_of_ble_eq_true rfl) (Nat.le_of_ble_eq_true rfl) (by omega) (by omega) (⟨Or.inr (Or.inl ⟨rfl, hso, Or.inr ⟨c_13, c_19⟩⟩), rfl⟩)
set_option maxHeartbeats 4000000 in
set_option maxRecDepth 100000 in
theorem c_remove (l : Launch) (G : gG) (dce sz : Nat) (M : gM) (hlt : l.stackTraces = false) (x : Nat) (ad : Nat → Nat) (y : cY) (z : cZ) (hcw : CW G dce x ad M y z) (heq : cEq z) (si kd ky : Int32) : xI l yX6_remove wsX6_remove ({ frames := 7, cells := 3, slots := 18, locals := 162 }) G dce sz M [.ref x, .int si, .int kd, .int ky] (fun r M' => ∃ i k j, aS si i ∧ aK kd k ∧ (j < zN z (sL i k) ∧ ky = nI j) ∧ fLive (zE z (sL i k) j) = true ∧ ((k = 0 ∧ r = nI (cnt (fun j9 => fRefs (zE (itr (kRb i (nI j)) j9 (kRm0 i j z)) (sL i 1) j9) (nI j)) (zN z (sL i 1)) + 1) ∧ cTo G dce x ad M y z M' (kRmA i j z)) ∨ (k = 1 ∧ r = 1 ∧ cTo G dce x ad M y z M' (kRmB i j z)))) (fun E M' => ((E = xIOB ∧ sOK si = false) ∨ (E = xIAE ∧ sOK si = true ∧ kOK kd = false) ∨ (E = xISE ∧ ∃ i k, aS si i ∧ aK kd k ∧ fLive (eV z i k ky) = false)) ∧ M' = M) (3) (18) := by
  obtain ⟨f, hsa, hf⟩ := hcw.1.2.2.1
  have hx9 : M x = some (.inr (7, [.ref (ad 0), .ref (ad 1), .ref (ad 2), .ref (ad 3)])) := hcw.1.1
  refine xMet (Qc := QI G _) (XC := QX G _) (cc := cX6_remove) (maxL := 5) (ret := (some .int)) (by decide) rfl (Nat.le_of_ble_eq_true rfl) ?_
  intro p e s m below meth c A ls X hno hnm hw hK hZ hA hS hsz eA hl
  obtain ⟨hx, hb, hr, hts, hown, hlk, hml⟩ := id X
  have hl : lv_has ls 5 [(0, .ref x), (1, .int si), (2, .int kd), (3, .int ky)] := hl
  refine lv_aload_n hx hb dX6_remove_0 rfl (lv_at hl 0 rfl) ?_
  refine lv_iload_n hx hb dX6_remove_1 rfl (lv_at hl 1 rfl) ?_
  refine x_callVr X (ci := 7) rfl hx9 hK hw hZ hS hA (As := [.int si]) (rest := []) (c_X6_sessionAt l G dce _ M hlt x (ad 0) (ad 1) (ad 2) (ad 3) hcw.1.1 f (fun i => ad (4 + i)) hsa hf si) (cwV 1 hts gX6_remove_X6_sessionAt rfl rfl rfl (by decide +kernel) ⟨Nat.le_of_ble_eq_true rfl, Nat.le_of_ble_eq_true rfl⟩) rfl hl.1 rfl (Nat.le_of_ble_eq_true rfl) dX6_remove_2 (Nat.le_of_ble_eq_true rfl) (Nat.le_of_ble_eq_true rfl) (fun E ce q9 M1 H locs hp hw hS hz hk hce hcv hcl9 => ?_) (fun r2 M1 H locs hp hw hS hz hk => ?_)
  · exact m_out X hno hK hw hS hce hcv hcl9 (by omega) (by omega) (⟨Or.inl ⟨hp.1, hp.2.1⟩, hp.2.2⟩)
  obtain ⟨⟨i, hi, ei, er⟩, hso, eM⟩ := hp
  have er : r2 = ad (4 + i) := er
  rw [er]
  rw [eM] at hw
  have hs9 : M (ad (4 + i)) = some (.inr (5, [.ref (ad (12 + 2 * i)), .ref (ad (13 + 2 * i)), .ref (ad (40 + i))])) := (hcw.1.2.2.2 i hi).1
  refine lv_astore (lv' := [(4, .ref (ad (4 + i))), (0, .ref x), (1, .int si), (2, .int kd), (3, .int ky)]) hx hb dX6_remove_5 hl (by decide) rfl (fun ls hl => ?_)
  refine lv_iload_n hx hb dX6_remove_7 rfl (lv_at hl 3 rfl) ?_
  refine x_callSv X hK hw hZ hS hA (As := [.int kd]) (rest := []) (c_X6_checkKind l G dce _ M hlt kd) (va_cwS 1 hts gX6_remove_X6_checkKind rfl rfl rfl (by decide +kernel) ⟨Nat.le_of_ble_eq_true rfl, Nat.le_of_ble_eq_true rfl⟩) rfl hl.1 rfl (Nat.le_of_ble_eq_true rfl) dX6_remove_8 (Nat.le_of_ble_eq_true rfl) (Nat.le_of_ble_eq_true rfl) (fun E ce q9 M3 H locs hp hw hS hz hk hce hcv hcl9 => ?_) (fun M3 H locs hp hw hS hz hk => ?_)
  · exact m_out X hno hK hw hS hce hcv hcl9 (by omega) (by omega) (⟨Or.inr (Or.inl ⟨hp.1, hso, hp.2.1⟩), hp.2.2⟩)
  have hko := hp.1
  obtain ⟨k, hk2, ek⟩ := kOK_k hko
  rw [hp.2] at hw
  refine lv_aload hx hb dX6_remove_11 (lv_at hl 0 rfl) ?_
  refine lv_iload_n hx hb dX6_remove_13 rfl (lv_at hl 3 rfl) ?_
  refine lv_iload_n hx hb dX6_remove_14 rfl (lv_at hl 4 rfl) ?_
  refine x_callSv X hK hw hZ hS hA (As := [.ref (ad (4 + i)), .int kd, .int ky]) (rest := []) (c_checkLiveK l G dce _ M hlt x ad y z hcw i k hi hk2 ky kd ek) (va_cwS 3 hts gX6_remove_X6_checkLive rfl rfl rfl (by decide +kernel) ⟨Nat.le_of_ble_eq_true rfl, Nat.le_of_ble_eq_true rfl⟩) rfl hl.1 rfl (Nat.le_of_ble_eq_true rfl) dX6_remove_15 (Nat.le_of_ble_eq_true rfl) (Nat.le_of_ble_eq_true rfl) (fun E ce q9 M4 H locs hp hw hS hz hk hce hcv hcl9 => ?_) (fun M4 H locs hp hw hS hz hk => ?_)
  · exact m_out X hno hK hw hS hce hcv hcl9 (by omega) (by omega) (⟨Or.inr (Or.inr ⟨hp.1, i, k, ⟨hi, ei⟩, ⟨hk2, ek⟩, hp.2.1⟩), hp.2.2⟩)
  have hlv := hp.1
  rw [hp.2] at hw
  obtain ⟨j, hjk, ej⟩ := live_in (hcw.n (by unfold sL; omega)) hlv
  have hlv2 : fLive (zE z (sL i k) j) = true := by rw [ej, eV_in (hcw.n (by unfold sL; omega)) hjk] at hlv; exact hlv
  refine lv_iload_n hx hb dX6_remove_18 rfl (lv_at hl 3 rfl) ?_
  refine lv_if_ne (tgt := 30) hx hb dX6_remove_19 (by decide) (fun c_19 => ?_) (fun c_19 => ?_)
  · refine lv_aload_n hx hb dX6_remove_30 rfl (lv_at hl 1 rfl) ?_
    refine lv_aload hx hb dX6_remove_31 (lv_at hl 0 rfl) ?_
    refine lv_iload_n hx hb dX6_remove_33 rfl (lv_at hl 4 rfl) ?_
    have hk0 : k = 1 := by
      rcases (show k = 0 ∨ k = 1 by omega) with h9 | h9
      · rw [ek, h9] at c_19; exact absurd (by decide) c_19
      · exact h9
    subst hk0
    refine m_callVv X (ci := 7) rfl hx9 hK hw hZ hS hA (As := [.ref (ad (4 + i)), .int ky]) (rest := []) (c_removeBookK l G dce _ M x ad y z hcw i hi heq j hjk ky ej) (cwV 2 hts gX6_remove_X6_removeBook rfl rfl rfl (by decide +kernel) ⟨Nat.le_of_ble_eq_true rfl, Nat.le_of_ble_eq_true rfl⟩) rfl hl.1 rfl (Nat.le_of_ble_eq_true rfl) dX6_remove_34 (Nat.le_of_ble_eq_true rfl) (Nat.le_of_ble_eq_true rfl) (fun M5 H locs hp hw hS hz hk => ?_)
    have hra := hp
    refine lv_iconst (v := 1) hx hb dX6_remove_37 (by decide) ?_
    refine vx_ret ?_
    exact m_iret X hK hw hS ⟨i, 1, j, ⟨hi, ei⟩, ⟨hk2, ek⟩, ⟨hjk, ej⟩, hlv2, Or.inr ⟨rfl, rfl, hra⟩⟩ (by omega) (by omega) dX6_remove_38
  · refine lv_aload_n hx hb dX6_remove_22 rfl (lv_at hl 1 rfl) ?_
    refine lv_aload hx hb dX6_remove_23 (lv_at hl 0 rfl) ?_
    refine lv_iload_n hx hb dX6_remove_25 rfl (lv_at hl 4 rfl) ?_
    have hk0 : k = 0 := by
      rcases (show k = 0 ∨ k = 1 by omega) with h9 | h9
      · exact h9
      · rw [ek, h9] at c_19; exact absurd c_19 (by decide)
    subst hk0
    refine m_callVi X (ci := 7) rfl hx9 hK hw hZ hS hA (As := [.ref (ad (4 + i)), .int ky]) (rest := []) (c_removeAuthorK l G dce _ M x ad y z hcw i hi heq j hjk ky ej) (cwV 2 hts gX6_remove_X6_removeAuthor rfl rfl rfl (by decide +kernel) ⟨Nat.le_of_ble_eq_true rfl, Nat.le_of_ble_eq_true rfl⟩) rfl hl.1 rfl (Nat.le_of_ble_eq_true rfl) dX6_remove_26 (Nat.le_of_ble_eq_true rfl) (Nat.le_of_ble_eq_true rfl) (fun r7 M6 H locs hp hw hS hz hk => ?_)
    have hra := hp
    rw [hp.1]
    refine vx_ret ?_
    exact m_iret X hK hw hS ⟨i, 0, j, ⟨hi, ei⟩, ⟨hk2, ek⟩, ⟨hjk, ej⟩, hlv2, Or.inl ⟨rfl, rfl, hra.2⟩⟩ (by omega) (by omega) dX6_remove_29
