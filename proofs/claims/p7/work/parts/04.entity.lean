set_option maxHeartbeats 4000000 in
set_option maxRecDepth 100000 in
/-- Entity.isLive -/
theorem c_X0_isLive (l : Launch) (G : gG) (dce sz : Nat) (M : gM) (h : Nat) (v : vE) (hv : M h = some (eE v)) : mI l yX0_isLive wsX0_isLive ({ frames := 0, cells := 0, slots := 0, locals := 0 }) G dce sz M [.ref h] (fun r M' => r = bI (fLive v) ∧ M' = M) (0) (0) := by
  obtain ⟨b1, b2, b3, nm, rf, sn, sr, sv⟩ := v
  have hv : M h = some (.inr (1, [.int (bI b1), .int (bI b2), .int (bI b3), .int nm, .int rf, .int sn, .int sr, .int sv])) := hv
  refine wMet (Qc := QI G _) (cc := cX0_isLive) (maxL := 1) (ret := (some .boolean)) (by decide) rfl (Nat.le_of_ble_eq_true rfl) ?_
  intro p e s m below meth c A ls X hnm hw hK hZ hA hS hsz eA hl
  obtain ⟨hx, hb, hr, hts, hown, hlk, hml⟩ := id X
  have hl : lv_has ls 1 [(0, .ref h)] := hl
  have iX0 : ∀ w ∈ wsX00, w ∈ wsX0_isLive := by decide +kernel
  refine lv_aload_n hx hb dX0_isLive_0 rfl (lv_at hl 0 rfl) ?_
  refine m_get X iX0 hK hw hv rfl 0 (by decide) (ref := "ObjectMapper$Entity") (by decide +kernel) (Or.inl rfl) rfl dX0_isLive_1 ?_
  refine lv_if_eq (tgt := 18) hx hb dX0_isLive_4 (by decide) (fun c_4 => ?_) (fun c_4 => ?_)
  · refine lv_iconst (v := 0) hx hb dX0_isLive_18 (by decide) ?_
    exact m_zret X (by decide) hK hw hS (by refine ⟨?_, rfl⟩; simp_all [fLive, bI, bI_0]) (by omega) (by omega) dX0_isLive_19
  · refine lv_aload_n hx hb dX0_isLive_7 rfl (lv_at hl 0 rfl) ?_
    refine m_get X iX0 hK hw hv rfl 1 (by decide) (ref := "ObjectMapper$Entity") (by decide +kernel) (Or.inl rfl) rfl dX0_isLive_8 ?_
    refine lv_if_ne (tgt := 18) hx hb dX0_isLive_11 (by decide) (fun c_11 => ?_) (fun c_11 => ?_)
    · refine lv_iconst (v := 0) hx hb dX0_isLive_18 (by decide) ?_
      exact m_zret X (by decide) hK hw hS (by refine ⟨?_, rfl⟩; simp_all [fLive, bI, bI_0]) (by omega) (by omega) dX0_isLive_19
    · refine lv_iconst (v := 1) hx hb dX0_isLive_14 (by decide) ?_
      refine lv_goto (tgt := 19) hx hb dX0_isLive_15 (by decide) ?_
      exact m_zret X (by decide) hK hw hS (by refine ⟨?_, rfl⟩; simp_all [fLive, bI, bI_0]) (by omega) (by omega) dX0_isLive_19
set_option maxHeartbeats 4000000 in
set_option maxRecDepth 100000 in
/-- Entity.isNew -/
theorem c_X0_isNew (l : Launch) (G : gG) (dce sz : Nat) (M : gM) (h : Nat) (v : vE) (hv : M h = some (eE v)) : mI l yX0_isNew wsX0_isNew ({ frames := 0, cells := 0, slots := 0, locals := 0 }) G dce sz M [.ref h] (fun r M' => r = bI (fNew v) ∧ M' = M) (0) (0) := by
  obtain ⟨b1, b2, b3, nm, rf, sn, sr, sv⟩ := v
  have hv : M h = some (.inr (1, [.int (bI b1), .int (bI b2), .int (bI b3), .int nm, .int rf, .int sn, .int sr, .int sv])) := hv
  refine wMet (Qc := QI G _) (cc := cX0_isNew) (maxL := 1) (ret := (some .boolean)) (by decide) rfl (Nat.le_of_ble_eq_true rfl) ?_
  intro p e s m below meth c A ls X hnm hw hK hZ hA hS hsz eA hl
  obtain ⟨hx, hb, hr, hts, hown, hlk, hml⟩ := id X
  have hl : lv_has ls 1 [(0, .ref h)] := hl
  have iX0 : ∀ w ∈ wsX00, w ∈ wsX0_isNew := by decide +kernel
  refine lv_aload_n hx hb dX0_isNew_0 rfl (lv_at hl 0 rfl) ?_
  refine m_get X iX0 hK hw hv rfl 0 (by decide) (ref := "ObjectMapper$Entity") (by decide +kernel) (Or.inl rfl) rfl dX0_isNew_1 ?_
  refine lv_if_eq (tgt := 18) hx hb dX0_isNew_4 (by decide) (fun c_4 => ?_) (fun c_4 => ?_)
  · refine lv_iconst (v := 0) hx hb dX0_isNew_18 (by decide) ?_
    exact m_zret X (by decide) hK hw hS (by refine ⟨?_, rfl⟩; simp_all [fNew, bI, bI_0]) (by omega) (by omega) dX0_isNew_19
  · refine lv_aload_n hx hb dX0_isNew_7 rfl (lv_at hl 0 rfl) ?_
    refine m_get X iX0 hK hw hv rfl 2 (by decide) (ref := "ObjectMapper$Entity") (by decide +kernel) (Or.inl rfl) rfl dX0_isNew_8 ?_
    refine lv_if_ne (tgt := 18) hx hb dX0_isNew_11 (by decide) (fun c_11 => ?_) (fun c_11 => ?_)
    · refine lv_iconst (v := 0) hx hb dX0_isNew_18 (by decide) ?_
      exact m_zret X (by decide) hK hw hS (by refine ⟨?_, rfl⟩; simp_all [fNew, bI, bI_0]) (by omega) (by omega) dX0_isNew_19
    · refine lv_iconst (v := 1) hx hb dX0_isNew_14 (by decide) ?_
      refine lv_goto (tgt := 19) hx hb dX0_isNew_15 (by decide) ?_
      exact m_zret X (by decide) hK hw hS (by refine ⟨?_, rfl⟩; simp_all [fNew, bI, bI_0]) (by omega) (by omega) dX0_isNew_19
set_option maxHeartbeats 4000000 in
set_option maxRecDepth 100000 in
/-- Entity.isChanged -/
theorem c_X0_isChanged (l : Launch) (G : gG) (dce sz : Nat) (M : gM) (h : Nat) (v : vE) (hv : M h = some (eE v)) : mI l yX0_isChanged wsX0_isChanged ({ frames := 0, cells := 0, slots := 0, locals := 0 }) G dce sz M [.ref h] (fun r M' => r = bI (fChg v) ∧ M' = M) (0) (0) := by
  obtain ⟨b1, b2, b3, nm, rf, sn, sr, sv⟩ := v
  have hv : M h = some (.inr (1, [.int (bI b1), .int (bI b2), .int (bI b3), .int nm, .int rf, .int sn, .int sr, .int sv])) := hv
  refine wMet (Qc := QI G _) (cc := cX0_isChanged) (maxL := 1) (ret := (some .boolean)) (by decide) rfl (Nat.le_of_ble_eq_true rfl) ?_
  intro p e s m below meth c A ls X hnm hw hK hZ hA hS hsz eA hl
  obtain ⟨hx, hb, hr, hts, hown, hlk, hml⟩ := id X
  have hl : lv_has ls 1 [(0, .ref h)] := hl
  have iX0 : ∀ w ∈ wsX00, w ∈ wsX0_isChanged := by decide +kernel
  refine lv_aload_n hx hb dX0_isChanged_0 rfl (lv_at hl 0 rfl) ?_
  refine m_get X iX0 hK hw hv rfl 2 (by decide) (ref := "ObjectMapper$Entity") (by decide +kernel) (Or.inl rfl) rfl dX0_isChanged_1 ?_
  refine lv_if_eq (tgt := 33) hx hb dX0_isChanged_4 (by decide) (fun c_4 => ?_) (fun c_4 => ?_)
  · refine lv_iconst (v := 0) hx hb dX0_isChanged_33 (by decide) ?_
    exact m_zret X (by decide) hK hw hS (by refine ⟨?_, rfl⟩; simp_all [fChg, bI, bI_0]) (by omega) (by omega) dX0_isChanged_34
  · refine lv_aload_n hx hb dX0_isChanged_7 rfl (lv_at hl 0 rfl) ?_
    refine m_get X iX0 hK hw hv rfl 3 (by decide) (ref := "ObjectMapper$Entity") (by decide +kernel) (Or.inl rfl) rfl dX0_isChanged_8 ?_
    refine lv_aload_n hx hb dX0_isChanged_11 rfl (lv_at hl 0 rfl) ?_
    refine m_get X iX0 hK hw hv rfl 5 (by decide) (ref := "ObjectMapper$Entity") (by decide +kernel) (Or.inl rfl) rfl dX0_isChanged_12 ?_
    refine lv_icmp_ne (tgt := 29) hx hb dX0_isChanged_15 (by decide) (fun c_15 => ?_) (fun c_15 => ?_)
    · refine lv_iconst (v := 1) hx hb dX0_isChanged_29 (by decide) ?_
      refine lv_goto (tgt := 34) hx hb dX0_isChanged_30 (by decide) ?_
      exact m_zret X (by decide) hK hw hS (by refine ⟨?_, rfl⟩; simp_all [fChg, bI, bI_0]) (by omega) (by omega) dX0_isChanged_34
    · refine lv_aload_n hx hb dX0_isChanged_18 rfl (lv_at hl 0 rfl) ?_
      refine m_get X iX0 hK hw hv rfl 4 (by decide) (ref := "ObjectMapper$Entity") (by decide +kernel) (Or.inl rfl) rfl dX0_isChanged_19 ?_
      refine lv_aload_n hx hb dX0_isChanged_22 rfl (lv_at hl 0 rfl) ?_
      refine m_get X iX0 hK hw hv rfl 6 (by decide) (ref := "ObjectMapper$Entity") (by decide +kernel) (Or.inl rfl) rfl dX0_isChanged_23 ?_
      refine lv_icmp_eq (tgt := 33) hx hb dX0_isChanged_26 (by decide) (fun c_26 => ?_) (fun c_26 => ?_)
      · refine lv_iconst (v := 0) hx hb dX0_isChanged_33 (by decide) ?_
        exact m_zret X (by decide) hK hw hS (by refine ⟨?_, rfl⟩; simp_all [fChg, bI, bI_0]) (by omega) (by omega) dX0_isChanged_34
      · refine lv_iconst (v := 1) hx hb dX0_isChanged_29 (by decide) ?_
        refine lv_goto (tgt := 34) hx hb dX0_isChanged_30 (by decide) ?_
        exact m_zret X (by decide) hK hw hS (by refine ⟨?_, rfl⟩; simp_all [fChg, bI, bI_0]) (by omega) (by omega) dX0_isChanged_34
set_option maxHeartbeats 4000000 in
set_option maxRecDepth 100000 in
/-- Entity.isLiveAndRefersTo -/
theorem c_X0_isLiveAndRefersTo (l : Launch) (G : gG) (dce sz : Nat) (M : gM) (h : Nat) (v : vE) (hv : M h = some (eE v)) (t : Int32) : mI l yX0_isLiveAndRefersTo wsX0_isLiveAndRefersTo ({ frames := 1, cells := 0, slots := 0, locals := 20 }) G dce sz M [.ref h, .int t] (fun r M' => r = bI (fRefs v t) ∧ M' = M) (0) (0) := by
  obtain ⟨b1, b2, b3, nm, rf, sn, sr, sv⟩ := v
  have hv : M h = some (.inr (1, [.int (bI b1), .int (bI b2), .int (bI b3), .int nm, .int rf, .int sn, .int sr, .int sv])) := hv
  refine wMet (Qc := QI G _) (cc := cX0_isLiveAndRefersTo) (maxL := 2) (ret := (some .boolean)) (by decide) rfl (Nat.le_of_ble_eq_true rfl) ?_
  intro p e s m below meth c A ls X hnm hw hK hZ hA hS hsz eA hl
  obtain ⟨hx, hb, hr, hts, hown, hlk, hml⟩ := id X
  have hl : lv_has ls 2 [(0, .ref h), (1, .int t)] := hl
  have iX0 : ∀ w ∈ wsX00, w ∈ wsX0_isLiveAndRefersTo := by decide +kernel
  refine lv_aload_n hx hb dX0_isLiveAndRefersTo_0 rfl (lv_at hl 0 rfl) ?_
  refine m_callVi X (ci := 1) rfl hv hK hw hZ hS hA (As := []) (rest := []) (c_X0_isLive l G dce _ M h (b1, b2, b3, nm, rf, sn, sr, sv) hv) (cwV 0 hts gX0_isLiveAndRefersTo_X0_isLive rfl rfl rfl (by decide +kernel) ⟨Nat.le_of_ble_eq_true rfl, Nat.le_of_ble_eq_true rfl⟩) rfl hl.1 rfl (Nat.le_of_ble_eq_true rfl) dX0_isLiveAndRefersTo_1 (Nat.le_of_ble_eq_true rfl) (Nat.le_of_ble_eq_true rfl) (fun r2 M1 H locs hp hw hS hz hk => ?_)
  rw [hp.2] at hw
  rw [hp.1]
  refine lv_if_eq (tgt := 19) hx hb dX0_isLiveAndRefersTo_4 (by decide) (fun c_4 => ?_) (fun c_4 => ?_)
  · refine lv_iconst (v := 0) hx hb dX0_isLiveAndRefersTo_19 (by decide) ?_
    exact m_zret X (by decide) hK hw hS (by refine ⟨?_, rfl⟩; simp_all [fRefs, fLive, bI, bI_0]) (by omega) (by omega) dX0_isLiveAndRefersTo_20
  · refine lv_aload_n hx hb dX0_isLiveAndRefersTo_7 rfl (lv_at hl 0 rfl) ?_
    refine m_get X iX0 hK hw hv rfl 4 (by decide) (ref := "ObjectMapper$Entity") (by decide +kernel) (Or.inl rfl) rfl dX0_isLiveAndRefersTo_8 ?_
    refine lv_iload_n hx hb dX0_isLiveAndRefersTo_11 rfl (lv_at hl 1 rfl) ?_
    refine lv_icmp_ne (tgt := 19) hx hb dX0_isLiveAndRefersTo_12 (by decide) (fun c_12 => ?_) (fun c_12 => ?_)
    · refine lv_iconst (v := 0) hx hb dX0_isLiveAndRefersTo_19 (by decide) ?_
      exact m_zret X (by decide) hK hw hS (by refine ⟨?_, rfl⟩; simp_all [fRefs, fLive, bI, bI_0]) (by omega) (by omega) dX0_isLiveAndRefersTo_20
    · refine lv_iconst (v := 1) hx hb dX0_isLiveAndRefersTo_15 (by decide) ?_
      refine lv_goto (tgt := 20) hx hb dX0_isLiveAndRefersTo_16 (by decide) ?_
      exact m_zret X (by decide) hK hw hS (by refine ⟨?_, rfl⟩; simp_all [fRefs, fLive, bI, bI_0]) (by omega) (by omega) dX0_isLiveAndRefersTo_20
set_option maxHeartbeats 4000000 in
set_option maxRecDepth 100000 in
/-- Entity.clashesWith -/
theorem c_X0_clashesWith (l : Launch) (G : gG) (dce sz : Nat) (M : gM) (h : Nat) (v : vE) (hv : M h = some (eE v)) (q : Nat) (w : vR) (hr0 : M q = some (eR w)) : mI l yX0_clashesWith wsX0_clashesWith ({ frames := 1, cells := 0, slots := 0, locals := 20 }) G dce sz M [.ref h, .ref q] (fun r M' => r = bI (fClash v w) ∧ M' = M) (0) (0) := by
  obtain ⟨b1, b2, b3, nm, rf, sn, sr, sv⟩ := v
  have hv : M h = some (.inr (1, [.int (bI b1), .int (bI b2), .int (bI b3), .int nm, .int rf, .int sn, .int sr, .int sv])) := hv
  obtain ⟨rb, rn, rr, rv⟩ := w
  have hw0 : M q = some (.inr (4, [.int (bI rb), .int rn, .int rr, .int rv])) := hr0
  refine wMet (Qc := QI G _) (cc := cX0_clashesWith) (maxL := 2) (ret := (some .boolean)) (by decide) rfl (Nat.le_of_ble_eq_true rfl) ?_
  intro p e s m below meth c A ls X hnm hw hK hZ hA hS hsz eA hl
  obtain ⟨hx, hb, hr, hts, hown, hlk, hml⟩ := id X
  have hl : lv_has ls 2 [(0, .ref h), (1, .ref q)] := hl
  have iX0 : ∀ w ∈ wsX00, w ∈ wsX0_clashesWith := by decide +kernel
  have iX3 : ∀ w ∈ wsX30, w ∈ wsX0_clashesWith := by decide +kernel
  refine lv_aload_n hx hb dX0_clashesWith_0 rfl (lv_at hl 0 rfl) ?_
  refine m_callVi X (ci := 1) rfl hv hK hw hZ hS hA (As := []) (rest := []) (c_X0_isChanged l G dce _ M h (b1, b2, b3, nm, rf, sn, sr, sv) hv) (cwV 0 hts gX0_clashesWith_X0_isChanged rfl rfl rfl (by decide +kernel) ⟨Nat.le_of_ble_eq_true rfl, Nat.le_of_ble_eq_true rfl⟩) rfl hl.1 rfl (Nat.le_of_ble_eq_true rfl) dX0_clashesWith_1 (Nat.le_of_ble_eq_true rfl) (Nat.le_of_ble_eq_true rfl) (fun r2 M1 H locs hp hw hS hz hk => ?_)
  rw [hp.2] at hw
  rw [hp.1]
  refine lv_if_ne (tgt := 14) hx hb dX0_clashesWith_4 (by decide) (fun c_4 => ?_) (fun c_4 => ?_)
  · refine lv_aload_n hx hb dX0_clashesWith_14 rfl (lv_at hl 1 rfl) ?_
    refine m_get X iX3 hK hw hw0 rfl 0 (by decide) (ref := "ObjectMapper$Row") (by decide +kernel) (Or.inl rfl) rfl dX0_clashesWith_15 ?_
    refine lv_if_eq (tgt := 32) hx hb dX0_clashesWith_18 (by decide) (fun c_18 => ?_) (fun c_18 => ?_)
    · refine lv_iconst (v := 1) hx hb dX0_clashesWith_32 (by decide) ?_
      refine lv_goto (tgt := 37) hx hb dX0_clashesWith_33 (by decide) ?_
      exact m_zret X (by decide) hK hw hS (by refine ⟨?_, rfl⟩; simp_all [fClash, fChg, bI, bI_0]) (by omega) (by omega) dX0_clashesWith_37
    · refine lv_aload_n hx hb dX0_clashesWith_21 rfl (lv_at hl 1 rfl) ?_
      refine m_get X iX3 hK hw hw0 rfl 3 (by decide) (ref := "ObjectMapper$Row") (by decide +kernel) (Or.inl rfl) rfl dX0_clashesWith_22 ?_
      refine lv_aload_n hx hb dX0_clashesWith_25 rfl (lv_at hl 0 rfl) ?_
      refine m_get X iX0 hK hw hv rfl 7 (by decide) (ref := "ObjectMapper$Entity") (by decide +kernel) (Or.inl rfl) rfl dX0_clashesWith_26 ?_
      refine lv_icmp_eq (tgt := 36) hx hb dX0_clashesWith_29 (by decide) (fun c_29 => ?_) (fun c_29 => ?_)
      · refine lv_iconst (v := 0) hx hb dX0_clashesWith_36 (by decide) ?_
        exact m_zret X (by decide) hK hw hS (by refine ⟨?_, rfl⟩; simp_all [fClash, fChg, bI, bI_0]) (by omega) (by omega) dX0_clashesWith_37
      · refine lv_iconst (v := 1) hx hb dX0_clashesWith_32 (by decide) ?_
        refine lv_goto (tgt := 37) hx hb dX0_clashesWith_33 (by decide) ?_
        exact m_zret X (by decide) hK hw hS (by refine ⟨?_, rfl⟩; simp_all [fClash, fChg, bI, bI_0]) (by omega) (by omega) dX0_clashesWith_37
  · refine lv_aload_n hx hb dX0_clashesWith_7 rfl (lv_at hl 0 rfl) ?_
    refine m_get X iX0 hK hw hv rfl 1 (by decide) (ref := "ObjectMapper$Entity") (by decide +kernel) (Or.inl rfl) rfl dX0_clashesWith_8 ?_
    refine lv_if_eq (tgt := 36) hx hb dX0_clashesWith_11 (by decide) (fun c_11 => ?_) (fun c_11 => ?_)
    · refine lv_iconst (v := 0) hx hb dX0_clashesWith_36 (by decide) ?_
      exact m_zret X (by decide) hK hw hS (by refine ⟨?_, rfl⟩; simp_all [fClash, fChg, bI, bI_0]) (by omega) (by omega) dX0_clashesWith_37
    · refine lv_aload_n hx hb dX0_clashesWith_14 rfl (lv_at hl 1 rfl) ?_
      refine m_get X iX3 hK hw hw0 rfl 0 (by decide) (ref := "ObjectMapper$Row") (by decide +kernel) (Or.inl rfl) rfl dX0_clashesWith_15 ?_
      refine lv_if_eq (tgt := 32) hx hb dX0_clashesWith_18 (by decide) (fun c_18 => ?_) (fun c_18 => ?_)
      · refine lv_iconst (v := 1) hx hb dX0_clashesWith_32 (by decide) ?_
        refine lv_goto (tgt := 37) hx hb dX0_clashesWith_33 (by decide) ?_
        exact m_zret X (by decide) hK hw hS (by refine ⟨?_, rfl⟩; simp_all [fClash, fChg, bI, bI_0]) (by omega) (by omega) dX0_clashesWith_37
      · refine lv_aload_n hx hb dX0_clashesWith_21 rfl (lv_at hl 1 rfl) ?_
        refine m_get X iX3 hK hw hw0 rfl 3 (by decide) (ref := "ObjectMapper$Row") (by decide +kernel) (Or.inl rfl) rfl dX0_clashesWith_22 ?_
        refine lv_aload_n hx hb dX0_clashesWith_25 rfl (lv_at hl 0 rfl) ?_
        refine m_get X iX0 hK hw hv rfl 7 (by decide) (ref := "ObjectMapper$Entity") (by decide +kernel) (Or.inl rfl) rfl dX0_clashesWith_26 ?_
        refine lv_icmp_eq (tgt := 36) hx hb dX0_clashesWith_29 (by decide) (fun c_29 => ?_) (fun c_29 => ?_)
        · refine lv_iconst (v := 0) hx hb dX0_clashesWith_36 (by decide) ?_
          exact m_zret X (by decide) hK hw hS (by refine ⟨?_, rfl⟩; simp_all [fClash, fChg, bI, bI_0]) (by omega) (by omega) dX0_clashesWith_37
        · refine lv_iconst (v := 1) hx hb dX0_clashesWith_32 (by decide) ?_
          refine lv_goto (tgt := 37) hx hb dX0_clashesWith_33 (by decide) ?_
          exact m_zret X (by decide) hK hw hS (by refine ⟨?_, rfl⟩; simp_all [fClash, fChg, bI, bI_0]) (by omega) (by omega) dX0_clashesWith_37
set_option maxHeartbeats 4000000 in
set_option maxRecDepth 100000 in
/-- Entity.make -/
theorem c_X0_make (l : Launch) (G : gG) (dce sz : Nat) (M : gM) (h : Nat) (v : vE) (hv : M h = some (eE v)) (x y : Int32) : mV l yX0_make wsX0_make ({ frames := 0, cells := 0, slots := 0, locals := 0 }) G dce sz M [.ref h, .int x, .int y] (fun M' => M' = mu M h (eE (fMake v x y))) (0) (0) := by
  obtain ⟨b1, b2, b3, nm, rf, sn, sr, sv⟩ := v
  have hv : M h = some (.inr (1, [.int (bI b1), .int (bI b2), .int (bI b3), .int nm, .int rf, .int sn, .int sr, .int sv])) := hv
  refine wMet (Qc := QV G _) (cc := cX0_make) (maxL := 3) (ret := none) (by decide) rfl (Nat.le_of_ble_eq_true rfl) ?_
  intro p e s m below meth c A ls X hnm hw hK hZ hA hS hsz eA hl
  obtain ⟨hx, hb, hr, hts, hown, hlk, hml⟩ := id X
  have hl : lv_has ls 3 [(0, .ref h), (1, .int x), (2, .int y)] := hl
  have iX0 : ∀ w ∈ wsX00, w ∈ wsX0_make := by decide +kernel
  refine lv_aload_n hx hb dX0_make_0 rfl (lv_at hl 0 rfl) ?_
  refine lv_iconst (v := 1) hx hb dX0_make_1 (by decide) ?_
  refine m_put X iX0 tyX0_ok nmX0 hK hw hS hv rfl 0 (by decide) (ref := "ObjectMapper$Entity") (by decide +kernel) (Or.inl rfl) rfl (v := .int 1) (by decide) (by decide) (Nat.le_of_ble_eq_true rfl) (fs1 := [.int 1, .int (bI b2), .int (bI b3), .int nm, .int rf, .int sn, .int sr, .int sv]) rfl dX0_make_2 (fun M1 H locs eM1 hw hS => ?_)
  have k2 : M1 h = some (.inr (1, [.int 1, .int (bI b2), .int (bI b3), .int nm, .int rf, .int sn, .int sr, .int sv])) := by rw [eM1]; exact mu_s _ _ _
  refine lv_aload_n hx hb dX0_make_5 rfl (lv_at hl 0 rfl) ?_
  refine lv_iload_n hx hb dX0_make_6 rfl (lv_at hl 1 rfl) ?_
  refine m_put X iX0 tyX0_ok nmX0 hK hw hS k2 rfl 3 (by decide) (ref := "ObjectMapper$Entity") (by decide +kernel) (Or.inl rfl) rfl (v := .int x) rfl rfl (Nat.le_of_ble_eq_true rfl) (fs1 := [.int 1, .int (bI b2), .int (bI b3), .int x, .int rf, .int sn, .int sr, .int sv]) rfl dX0_make_7 (fun M3 H locs eM3 hw hS => ?_)
  have k4 : M3 h = some (.inr (1, [.int 1, .int (bI b2), .int (bI b3), .int x, .int rf, .int sn, .int sr, .int sv])) := by rw [eM3]; exact mu_s _ _ _
  refine lv_aload_n hx hb dX0_make_10 rfl (lv_at hl 0 rfl) ?_
  refine lv_iload_n hx hb dX0_make_11 rfl (lv_at hl 2 rfl) ?_
  refine m_put X iX0 tyX0_ok nmX0 hK hw hS k4 rfl 4 (by decide) (ref := "ObjectMapper$Entity") (by decide +kernel) (Or.inl rfl) rfl (v := .int y) rfl rfl (Nat.le_of_ble_eq_true rfl) (fs1 := [.int 1, .int (bI b2), .int (bI b3), .int x, .int y, .int sn, .int sr, .int sv]) rfl dX0_make_12 (fun M5 H locs eM5 hw hS => ?_)
  have k6 : M5 h = some (.inr (1, [.int 1, .int (bI b2), .int (bI b3), .int x, .int y, .int sn, .int sr, .int sv])) := by rw [eM5]; exact mu_s _ _ _
  exact m_vret X hK hw hS (by subst_vars; simp only [mu_mu]; rfl) (by omega) (by omega) dX0_make_15
set_option maxHeartbeats 4000000 in
set_option maxRecDepth 100000 in
/-- Entity.forget -/
theorem c_X0_forget (l : Launch) (G : gG) (dce sz : Nat) (M : gM) (h : Nat) (v : vE) (hv : M h = some (eE v)) : mV l yX0_forget wsX0_forget ({ frames := 0, cells := 0, slots := 0, locals := 0 }) G dce sz M [.ref h] (fun M' => M' = mu M h (eE (fForget v))) (0) (0) := by
  obtain ⟨b1, b2, b3, nm, rf, sn, sr, sv⟩ := v
  have hv : M h = some (.inr (1, [.int (bI b1), .int (bI b2), .int (bI b3), .int nm, .int rf, .int sn, .int sr, .int sv])) := hv
  refine wMet (Qc := QV G _) (cc := cX0_forget) (maxL := 1) (ret := none) (by decide) rfl (Nat.le_of_ble_eq_true rfl) ?_
  intro p e s m below meth c A ls X hnm hw hK hZ hA hS hsz eA hl
  obtain ⟨hx, hb, hr, hts, hown, hlk, hml⟩ := id X
  have hl : lv_has ls 1 [(0, .ref h)] := hl
  have iX0 : ∀ w ∈ wsX00, w ∈ wsX0_forget := by decide +kernel
  refine lv_aload_n hx hb dX0_forget_0 rfl (lv_at hl 0 rfl) ?_
  refine lv_iconst (v := 0) hx hb dX0_forget_1 (by decide) ?_
  refine m_put X iX0 tyX0_ok nmX0 hK hw hS hv rfl 0 (by decide) (ref := "ObjectMapper$Entity") (by decide +kernel) (Or.inl rfl) rfl (v := .int 0) (by decide) (by decide) (Nat.le_of_ble_eq_true rfl) (fs1 := [.int 0, .int (bI b2), .int (bI b3), .int nm, .int rf, .int sn, .int sr, .int sv]) rfl dX0_forget_2 (fun M1 H locs eM1 hw hS => ?_)
  have k2 : M1 h = some (.inr (1, [.int 0, .int (bI b2), .int (bI b3), .int nm, .int rf, .int sn, .int sr, .int sv])) := by rw [eM1]; exact mu_s _ _ _
  refine lv_aload_n hx hb dX0_forget_5 rfl (lv_at hl 0 rfl) ?_
  refine lv_iconst (v := 0) hx hb dX0_forget_6 (by decide) ?_
  refine m_put X iX0 tyX0_ok nmX0 hK hw hS k2 rfl 1 (by decide) (ref := "ObjectMapper$Entity") (by decide +kernel) (Or.inl rfl) rfl (v := .int 0) (by decide) (by decide) (Nat.le_of_ble_eq_true rfl) (fs1 := [.int 0, .int 0, .int (bI b3), .int nm, .int rf, .int sn, .int sr, .int sv]) rfl dX0_forget_7 (fun M3 H locs eM3 hw hS => ?_)
  have k4 : M3 h = some (.inr (1, [.int 0, .int 0, .int (bI b3), .int nm, .int rf, .int sn, .int sr, .int sv])) := by rw [eM3]; exact mu_s _ _ _
  refine lv_aload_n hx hb dX0_forget_10 rfl (lv_at hl 0 rfl) ?_
  refine lv_iconst (v := 0) hx hb dX0_forget_11 (by decide) ?_
  refine m_put X iX0 tyX0_ok nmX0 hK hw hS k4 rfl 2 (by decide) (ref := "ObjectMapper$Entity") (by decide +kernel) (Or.inl rfl) rfl (v := .int 0) (by decide) (by decide) (Nat.le_of_ble_eq_true rfl) (fs1 := [.int 0, .int 0, .int 0, .int nm, .int rf, .int sn, .int sr, .int sv]) rfl dX0_forget_12 (fun M5 H locs eM5 hw hS => ?_)
  have k6 : M5 h = some (.inr (1, [.int 0, .int 0, .int 0, .int nm, .int rf, .int sn, .int sr, .int sv])) := by rw [eM5]; exact mu_s _ _ _
  exact m_vret X hK hw hS (by subst_vars; simp only [mu_mu]; rfl) (by omega) (by omega) dX0_forget_15
set_option maxHeartbeats 4000000 in
set_option maxRecDepth 100000 in
/-- Entity.takeSnapshot -/
theorem c_X0_takeSnapshot (l : Launch) (G : gG) (dce sz : Nat) (M : gM) (h : Nat) (v : vE) (hv : M h = some (eE v)) (q : Nat) (w : vR) (hr0 : M q = some (eR w)) : mV l yX0_takeSnapshot wsX0_takeSnapshot ({ frames := 0, cells := 0, slots := 0, locals := 0 }) G dce sz M [.ref h, .ref q] (fun M' => M' = mu M h (eE (fSnap v w))) (0) (0) := by
  obtain ⟨b1, b2, b3, nm, rf, sn, sr, sv⟩ := v
  have hv : M h = some (.inr (1, [.int (bI b1), .int (bI b2), .int (bI b3), .int nm, .int rf, .int sn, .int sr, .int sv])) := hv
  obtain ⟨rb, rn, rr, rv⟩ := w
  have hw0 : M q = some (.inr (4, [.int (bI rb), .int rn, .int rr, .int rv])) := hr0
  refine wMet (Qc := QV G _) (cc := cX0_takeSnapshot) (maxL := 2) (ret := none) (by decide) rfl (Nat.le_of_ble_eq_true rfl) ?_
  intro p e s m below meth c A ls X hnm hw hK hZ hA hS hsz eA hl
  obtain ⟨hx, hb, hr, hts, hown, hlk, hml⟩ := id X
  have hl : lv_has ls 2 [(0, .ref h), (1, .ref q)] := hl
  have iX0 : ∀ w ∈ wsX00, w ∈ wsX0_takeSnapshot := by decide +kernel
  have iX3 : ∀ w ∈ wsX30, w ∈ wsX0_takeSnapshot := by decide +kernel
  refine lv_aload_n hx hb dX0_takeSnapshot_0 rfl (lv_at hl 0 rfl) ?_
  refine lv_iconst (v := 1) hx hb dX0_takeSnapshot_1 (by decide) ?_
  refine m_put X iX0 tyX0_ok nmX0 hK hw hS hv rfl 2 (by decide) (ref := "ObjectMapper$Entity") (by decide +kernel) (Or.inl rfl) rfl (v := .int 1) (by decide) (by decide) (Nat.le_of_ble_eq_true rfl) (fs1 := [.int (bI b1), .int (bI b2), .int 1, .int nm, .int rf, .int sn, .int sr, .int sv]) rfl dX0_takeSnapshot_2 (fun M1 H locs eM1 hw hS => ?_)
  have k2 : M1 h = some (.inr (1, [.int (bI b1), .int (bI b2), .int 1, .int nm, .int rf, .int sn, .int sr, .int sv])) := by rw [eM1]; exact mu_s _ _ _
  have k3 := (congrFun eM1 q).trans (mu_g hw0 (gM_ne hw0 hv (by simp)))
  refine lv_aload_n hx hb dX0_takeSnapshot_5 rfl (lv_at hl 0 rfl) ?_
  refine lv_aload_n hx hb dX0_takeSnapshot_6 rfl (lv_at hl 1 rfl) ?_
  refine m_get X iX3 hK hw k3 rfl 1 (by decide) (ref := "ObjectMapper$Row") (by decide +kernel) (Or.inl rfl) rfl dX0_takeSnapshot_7 ?_
  refine m_put X iX0 tyX0_ok nmX0 hK hw hS k2 rfl 5 (by decide) (ref := "ObjectMapper$Entity") (by decide +kernel) (Or.inl rfl) rfl (v := .int rn) rfl rfl (Nat.le_of_ble_eq_true rfl) (fs1 := [.int (bI b1), .int (bI b2), .int 1, .int nm, .int rf, .int rn, .int sr, .int sv]) rfl dX0_takeSnapshot_10 (fun M4 H locs eM4 hw hS => ?_)
  have k5 : M4 h = some (.inr (1, [.int (bI b1), .int (bI b2), .int 1, .int nm, .int rf, .int rn, .int sr, .int sv])) := by rw [eM4]; exact mu_s _ _ _
  have k6 := (congrFun eM4 q).trans (mu_g k3 (gM_ne k3 k2 (by simp)))
  refine lv_aload_n hx hb dX0_takeSnapshot_13 rfl (lv_at hl 0 rfl) ?_
  refine lv_aload_n hx hb dX0_takeSnapshot_14 rfl (lv_at hl 1 rfl) ?_
  refine m_get X iX3 hK hw k6 rfl 2 (by decide) (ref := "ObjectMapper$Row") (by decide +kernel) (Or.inl rfl) rfl dX0_takeSnapshot_15 ?_
  refine m_put X iX0 tyX0_ok nmX0 hK hw hS k5 rfl 6 (by decide) (ref := "ObjectMapper$Entity") (by decide +kernel) (Or.inl rfl) rfl (v := .int rr) rfl rfl (Nat.le_of_ble_eq_true rfl) (fs1 := [.int (bI b1), .int (bI b2), .int 1, .int nm, .int rf, .int rn, .int rr, .int sv]) rfl dX0_takeSnapshot_18 (fun M7 H locs eM7 hw hS => ?_)
  have k8 : M7 h = some (.inr (1, [.int (bI b1), .int (bI b2), .int 1, .int nm, .int rf, .int rn, .int rr, .int sv])) := by rw [eM7]; exact mu_s _ _ _
  have k9 := (congrFun eM7 q).trans (mu_g k6 (gM_ne k6 k5 (by simp)))
  refine lv_aload_n hx hb dX0_takeSnapshot_21 rfl (lv_at hl 0 rfl) ?_
  refine lv_aload_n hx hb dX0_takeSnapshot_22 rfl (lv_at hl 1 rfl) ?_
  refine m_get X iX3 hK hw k9 rfl 3 (by decide) (ref := "ObjectMapper$Row") (by decide +kernel) (Or.inl rfl) rfl dX0_takeSnapshot_23 ?_
  refine m_put X iX0 tyX0_ok nmX0 hK hw hS k8 rfl 7 (by decide) (ref := "ObjectMapper$Entity") (by decide +kernel) (Or.inl rfl) rfl (v := .int rv) rfl rfl (Nat.le_of_ble_eq_true rfl) (fs1 := [.int (bI b1), .int (bI b2), .int 1, .int nm, .int rf, .int rn, .int rr, .int rv]) rfl dX0_takeSnapshot_26 (fun M10 H locs eM10 hw hS => ?_)
  have k11 : M10 h = some (.inr (1, [.int (bI b1), .int (bI b2), .int 1, .int nm, .int rf, .int rn, .int rr, .int rv])) := by rw [eM10]; exact mu_s _ _ _
  have k12 := (congrFun eM10 q).trans (mu_g k9 (gM_ne k9 k8 (by simp)))
  exact m_vret X hK hw hS (by subst_vars; simp only [mu_mu]; rfl) (by omega) (by omega) dX0_takeSnapshot_29
set_option maxHeartbeats 4000000 in
set_option maxRecDepth 100000 in
/-- Entity.load -/
theorem c_X0_load (l : Launch) (G : gG) (dce sz : Nat) (M : gM) (h : Nat) (v : vE) (hv : M h = some (eE v)) (q : Nat) (w : vR) (hr0 : M q = some (eR w)) : mV l yX0_load wsX0_load ({ frames := 1, cells := 0, slots := 0, locals := 22 }) G dce sz M [.ref h, .ref q] (fun M' => M' = mu M h (eE (fLoad v w))) (0) (0) := by
  obtain ⟨b1, b2, b3, nm, rf, sn, sr, sv⟩ := v
  have hv : M h = some (.inr (1, [.int (bI b1), .int (bI b2), .int (bI b3), .int nm, .int rf, .int sn, .int sr, .int sv])) := hv
  obtain ⟨rb, rn, rr, rv⟩ := w
  have hw0 : M q = some (.inr (4, [.int (bI rb), .int rn, .int rr, .int rv])) := hr0
  refine wMet (Qc := QV G _) (cc := cX0_load) (maxL := 2) (ret := none) (by decide) rfl (Nat.le_of_ble_eq_true rfl) ?_
  intro p e s m below meth c A ls X hnm hw hK hZ hA hS hsz eA hl
  obtain ⟨hx, hb, hr, hts, hown, hlk, hml⟩ := id X
  have hl : lv_has ls 2 [(0, .ref h), (1, .ref q)] := hl
  have iX3 : ∀ w ∈ wsX30, w ∈ wsX0_load := by decide +kernel
  refine lv_aload_n hx hb dX0_load_0 rfl (lv_at hl 0 rfl) ?_
  refine lv_aload_n hx hb dX0_load_1 rfl (lv_at hl 1 rfl) ?_
  refine m_get X iX3 hK hw hw0 rfl 1 (by decide) (ref := "ObjectMapper$Row") (by decide +kernel) (Or.inl rfl) rfl dX0_load_2 ?_
  refine lv_aload_n hx hb dX0_load_5 rfl (lv_at hl 1 rfl) ?_
  refine m_get X iX3 hK hw hw0 rfl 2 (by decide) (ref := "ObjectMapper$Row") (by decide +kernel) (Or.inl rfl) rfl dX0_load_6 ?_
  refine m_callVv X (ci := 1) rfl hv hK hw hZ hS hA (As := [.int rn, .int rr]) (rest := []) (c_X0_make l G dce _ M h (b1, b2, b3, nm, rf, sn, sr, sv) hv rn rr) (cwV 2 hts gX0_load_X0_make rfl rfl rfl (by decide +kernel) ⟨Nat.le_of_ble_eq_true rfl, Nat.le_of_ble_eq_true rfl⟩) rfl hl.1 rfl (Nat.le_of_ble_eq_true rfl) dX0_load_9 (Nat.le_of_ble_eq_true rfl) (Nat.le_of_ble_eq_true rfl) (fun M1 H locs hp hw hS hz hk => ?_)
  have eM1 := hp
  have k2 : M1 h = some (.inr (1, [.int (bI true), .int (bI b2), .int (bI b3), .int rn, .int rr, .int sn, .int sr, .int sv])) := by rw [eM1]; exact mu_s _ _ _
  have k3 := (congrFun eM1 q).trans (mu_g hw0 (gM_ne hw0 hv (by simp)))
  refine lv_aload_n hx hb dX0_load_12 rfl (lv_at hl 0 rfl) ?_
  refine lv_aload_n hx hb dX0_load_13 rfl (lv_at hl 1 rfl) ?_
  refine m_callVv X (ci := 1) rfl k2 hK hw hZ hS hA (As := [.ref q]) (rest := []) (c_X0_takeSnapshot l G dce _ M1 h (true, b2, b3, rn, rr, sn, sr, sv) k2 q (rb, rn, rr, rv) k3) (cwV 1 hts gX0_load_X0_takeSnapshot rfl rfl rfl (by decide +kernel) ⟨Nat.le_of_ble_eq_true rfl, Nat.le_of_ble_eq_true rfl⟩) rfl hl.1 rfl (Nat.le_of_ble_eq_true rfl) dX0_load_14 (Nat.le_of_ble_eq_true rfl) (Nat.le_of_ble_eq_true rfl) (fun M4 H locs hp hw hS hz hk => ?_)
  have eM4 := hp
  exact m_vret X hK hw hS (by subst_vars; simp only [mu_mu]; rfl) (by omega) (by omega) dX0_load_17
set_option maxHeartbeats 4000000 in
set_option maxRecDepth 100000 in
/-- Entity.strikeOut -/
theorem c_X0_strikeOut (l : Launch) (G : gG) (dce sz : Nat) (M : gM) (h : Nat) (v : vE) (hv : M h = some (eE v)) : mV l yX0_strikeOut wsX0_strikeOut ({ frames := 1, cells := 0, slots := 0, locals := 20 }) G dce sz M [.ref h] (fun M' => M' = mu M h (eE (fStrike v))) (0) (0) := by
  obtain ⟨b1, b2, b3, nm, rf, sn, sr, sv⟩ := v
  have hv : M h = some (.inr (1, [.int (bI b1), .int (bI b2), .int (bI b3), .int nm, .int rf, .int sn, .int sr, .int sv])) := hv
  refine wMet (Qc := QV G _) (cc := cX0_strikeOut) (maxL := 1) (ret := none) (by decide) rfl (Nat.le_of_ble_eq_true rfl) ?_
  intro p e s m below meth c A ls X hnm hw hK hZ hA hS hsz eA hl
  obtain ⟨hx, hb, hr, hts, hown, hlk, hml⟩ := id X
  have hl : lv_has ls 1 [(0, .ref h)] := hl
  have iX0 : ∀ w ∈ wsX00, w ∈ wsX0_strikeOut := by decide +kernel
  refine lv_aload_n hx hb dX0_strikeOut_0 rfl (lv_at hl 0 rfl) ?_
  refine m_get X iX0 hK hw hv rfl 2 (by decide) (ref := "ObjectMapper$Entity") (by decide +kernel) (Or.inl rfl) rfl dX0_strikeOut_1 ?_
  refine lv_if_eq (tgt := 15) hx hb dX0_strikeOut_4 (by decide) (fun c_4 => ?_) (fun c_4 => ?_)
  · refine lv_aload_n hx hb dX0_strikeOut_15 rfl (lv_at hl 0 rfl) ?_
    refine m_callVv X (ci := 1) rfl hv hK hw hZ hS hA (As := []) (rest := []) (c_X0_forget l G dce _ M h (b1, b2, b3, nm, rf, sn, sr, sv) hv) (cwV 0 hts gX0_strikeOut_X0_forget rfl rfl rfl (by decide +kernel) ⟨Nat.le_of_ble_eq_true rfl, Nat.le_of_ble_eq_true rfl⟩) rfl hl.1 rfl (Nat.le_of_ble_eq_true rfl) dX0_strikeOut_16 (Nat.le_of_ble_eq_true rfl) (Nat.le_of_ble_eq_true rfl) (fun M1 H locs hp hw hS hz hk => ?_)
    have eM1 := hp
    exact m_vret X hK hw hS (by subst_vars; simp_all [fStrike, fForget, bI_0, eE, mu_mu, bI]) (by omega) (by omega) dX0_strikeOut_19
  · refine lv_aload_n hx hb dX0_strikeOut_7 rfl (lv_at hl 0 rfl) ?_
    refine lv_iconst (v := 1) hx hb dX0_strikeOut_8 (by decide) ?_
    refine m_put X iX0 tyX0_ok nmX0 hK hw hS hv rfl 1 (by decide) (ref := "ObjectMapper$Entity") (by decide +kernel) (Or.inl rfl) rfl (v := .int 1) (by decide) (by decide) (Nat.le_of_ble_eq_true rfl) (fs1 := [.int (bI b1), .int 1, .int (bI b3), .int nm, .int rf, .int sn, .int sr, .int sv]) rfl dX0_strikeOut_9 (fun M2 H locs eM2 hw hS => ?_)
    have k3 : M2 h = some (.inr (1, [.int (bI b1), .int 1, .int (bI b3), .int nm, .int rf, .int sn, .int sr, .int sv])) := by rw [eM2]; exact mu_s _ _ _
    refine lv_goto (tgt := 19) hx hb dX0_strikeOut_12 (by decide) ?_
    exact m_vret X hK hw hS (by subst_vars; simp_all [fStrike, fForget, bI_0, eE, mu_mu, bI]) (by omega) (by omega) dX0_strikeOut_19
set_option maxHeartbeats 4000000 in
set_option maxRecDepth 100000 in
/-- Entity() -/
theorem c_X0_init (l : Launch) (G : gG) (dce sz : Nat) (M : gM) (h : Nat) (hv : M h = some (.inr (1, [.int 0, .int 0, .int 0, .int 0, .int 0, .int 0, .int 0, .int 0]))) : mV l yX0_init wsX0_init ({ frames := 1, cells := 0, slots := 0, locals := 12 }) G dce sz M [.ref h] (fun M' => M' = mu M h (eE (false, false, false, 0, -1, 0, 0, 0))) (0) (0) := by
  refine wMet (Qc := QV G _) (cc := cX0_init) (maxL := 1) (ret := none) (by decide) rfl (Nat.le_of_ble_eq_true rfl) ?_
  intro p e s m below meth c A ls X hnm hw hK hZ hA hS hsz eA hl
  obtain ⟨hx, hb, hr, hts, hown, hlk, hml⟩ := id X
  have hl : lv_has ls 1 [(0, .ref h)] := hl
  have hin : meth.name = "<init>" := hnm
  have iX0 : ∀ w ∈ wsX00, w ∈ wsX0_init := by decide +kernel
  refine lv_aload_n hx hb dX0_init_0 rfl (lv_at hl 0 rfl) ?_
  refine W.objInit hx hb hown (hts (.methodLink RX0 3 objectInit) (by decide +kernel)) (hts (.instanceMethod objectInit) (by decide +kernel)) (hts (.code objectInit ⟨#[0xb1]⟩ 1 none) (by decide +kernel)) rfl (by rw [hml]; exact hl.1) rfl dX0_init_1 (Nat.le_of_ble_eq_true rfl) (Nat.le_of_ble_eq_true rfl) ?_
  refine W.eq (g2 := F0 m 4 ls []) rfl ?_
  refine lv_aload_n hx hb dX0_init_4 rfl (lv_at hl 0 rfl) ?_
  refine lv_iconst (v := (-1)) hx hb dX0_init_5 (by decide) ?_
  refine m_put X iX0 tyX0_ok nmX0 hK hw hS hv rfl 4 (by decide) (ref := "ObjectMapper$Entity") (by decide +kernel) (Or.inl rfl) rfl (v := .int (-1)) rfl rfl (Nat.le_of_ble_eq_true rfl) (fs1 := [.int 0, .int 0, .int 0, .int 0, .int (-1), .int 0, .int 0, .int 0]) rfl dX0_init_6 (fun M1 H locs eM1 hw hS => ?_)
  have k2 : M1 h = some (.inr (1, [.int 0, .int 0, .int 0, .int 0, .int (-1), .int 0, .int 0, .int 0])) := by rw [eM1]; exact mu_s _ _ _
  exact m_vret X hK hw hS (by subst_vars; rfl) (by omega) (by omega) dX0_init_9
set_option maxHeartbeats 4000000 in
set_option maxRecDepth 100000 in
/-- Row() -/
theorem c_X3_init (l : Launch) (G : gG) (dce sz : Nat) (M : gM) (h : Nat) (hv : M h = some (.inr (4, [.int 0, .int 0, .int 0, .int 0]))) : mV l yX3_init wsX3_init ({ frames := 1, cells := 0, slots := 0, locals := 12 }) G dce sz M [.ref h] (fun M' => M' = mu M h (eR (false, 0, -1, 0))) (0) (0) := by
  refine wMet (Qc := QV G _) (cc := cX3_init) (maxL := 1) (ret := none) (by decide) rfl (Nat.le_of_ble_eq_true rfl) ?_
  intro p e s m below meth c A ls X hnm hw hK hZ hA hS hsz eA hl
  obtain ⟨hx, hb, hr, hts, hown, hlk, hml⟩ := id X
  have hl : lv_has ls 1 [(0, .ref h)] := hl
  have hin : meth.name = "<init>" := hnm
  have iX3 : ∀ w ∈ wsX30, w ∈ wsX3_init := by decide +kernel
  refine lv_aload_n hx hb dX3_init_0 rfl (lv_at hl 0 rfl) ?_
  refine W.objInit hx hb hown (hts (.methodLink RX3 3 objectInit) (by decide +kernel)) (hts (.instanceMethod objectInit) (by decide +kernel)) (hts (.code objectInit ⟨#[0xb1]⟩ 1 none) (by decide +kernel)) rfl (by rw [hml]; exact hl.1) rfl dX3_init_1 (Nat.le_of_ble_eq_true rfl) (Nat.le_of_ble_eq_true rfl) ?_
  refine W.eq (g2 := F0 m 4 ls []) rfl ?_
  refine lv_aload_n hx hb dX3_init_4 rfl (lv_at hl 0 rfl) ?_
  refine lv_iconst (v := (-1)) hx hb dX3_init_5 (by decide) ?_
  refine m_put X iX3 tyX3_ok nmX3 hK hw hS hv rfl 2 (by decide) (ref := "ObjectMapper$Row") (by decide +kernel) (Or.inl rfl) rfl (v := .int (-1)) rfl rfl (Nat.le_of_ble_eq_true rfl) (fs1 := [.int 0, .int 0, .int (-1), .int 0]) rfl dX3_init_6 (fun M1 H locs eM1 hw hS => ?_)
  have k2 : M1 h = some (.inr (4, [.int 0, .int 0, .int (-1), .int 0])) := by rw [eM1]; exact mu_s _ _ _
  exact m_vret X hK hw hS (by subst_vars; rfl) (by omega) (by omega) dX3_init_9
set_option maxHeartbeats 4000000 in
set_option maxRecDepth 100000 in
/-- Row.insert -/
theorem c_X3_insert (l : Launch) (G : gG) (dce sz : Nat) (M : gM) (q : Nat) (w : vR) (hr0 : M q = some (eR w)) (x y : Int32) : mV l yX3_insert wsX3_insert ({ frames := 0, cells := 0, slots := 0, locals := 0 }) G dce sz M [.ref q, .int x, .int y] (fun M' => M' = mu M q (eR (fIns w x y))) (0) (0) := by
  obtain ⟨rb, rn, rr, rv⟩ := w
  have hw0 : M q = some (.inr (4, [.int (bI rb), .int rn, .int rr, .int rv])) := hr0
  refine wMet (Qc := QV G _) (cc := cX3_insert) (maxL := 3) (ret := none) (by decide) rfl (Nat.le_of_ble_eq_true rfl) ?_
  intro p e s m below meth c A ls X hnm hw hK hZ hA hS hsz eA hl
  obtain ⟨hx, hb, hr, hts, hown, hlk, hml⟩ := id X
  have hl : lv_has ls 3 [(0, .ref q), (1, .int x), (2, .int y)] := hl
  have iX3 : ∀ w ∈ wsX30, w ∈ wsX3_insert := by decide +kernel
  refine lv_aload_n hx hb dX3_insert_0 rfl (lv_at hl 0 rfl) ?_
  refine lv_iconst (v := 1) hx hb dX3_insert_1 (by decide) ?_
  refine m_put X iX3 tyX3_ok nmX3 hK hw hS hw0 rfl 0 (by decide) (ref := "ObjectMapper$Row") (by decide +kernel) (Or.inl rfl) rfl (v := .int 1) (by decide) (by decide) (Nat.le_of_ble_eq_true rfl) (fs1 := [.int 1, .int rn, .int rr, .int rv]) rfl dX3_insert_2 (fun M1 H locs eM1 hw hS => ?_)
  have k2 : M1 q = some (.inr (4, [.int 1, .int rn, .int rr, .int rv])) := by rw [eM1]; exact mu_s _ _ _
  refine lv_aload_n hx hb dX3_insert_5 rfl (lv_at hl 0 rfl) ?_
  refine lv_iload_n hx hb dX3_insert_6 rfl (lv_at hl 1 rfl) ?_
  refine m_put X iX3 tyX3_ok nmX3 hK hw hS k2 rfl 1 (by decide) (ref := "ObjectMapper$Row") (by decide +kernel) (Or.inl rfl) rfl (v := .int x) rfl rfl (Nat.le_of_ble_eq_true rfl) (fs1 := [.int 1, .int x, .int rr, .int rv]) rfl dX3_insert_7 (fun M3 H locs eM3 hw hS => ?_)
  have k4 : M3 q = some (.inr (4, [.int 1, .int x, .int rr, .int rv])) := by rw [eM3]; exact mu_s _ _ _
  refine lv_aload_n hx hb dX3_insert_10 rfl (lv_at hl 0 rfl) ?_
  refine lv_iload_n hx hb dX3_insert_11 rfl (lv_at hl 2 rfl) ?_
  refine m_put X iX3 tyX3_ok nmX3 hK hw hS k4 rfl 2 (by decide) (ref := "ObjectMapper$Row") (by decide +kernel) (Or.inl rfl) rfl (v := .int y) rfl rfl (Nat.le_of_ble_eq_true rfl) (fs1 := [.int 1, .int x, .int y, .int rv]) rfl dX3_insert_12 (fun M5 H locs eM5 hw hS => ?_)
  have k6 : M5 q = some (.inr (4, [.int 1, .int x, .int y, .int rv])) := by rw [eM5]; exact mu_s _ _ _
  refine lv_aload_n hx hb dX3_insert_15 rfl (lv_at hl 0 rfl) ?_
  refine lv_iconst (v := 0) hx hb dX3_insert_16 (by decide) ?_
  refine m_put X iX3 tyX3_ok nmX3 hK hw hS k6 rfl 3 (by decide) (ref := "ObjectMapper$Row") (by decide +kernel) (Or.inl rfl) rfl (v := .int 0) rfl rfl (Nat.le_of_ble_eq_true rfl) (fs1 := [.int 1, .int x, .int y, .int 0]) rfl dX3_insert_17 (fun M7 H locs eM7 hw hS => ?_)
  have k8 : M7 q = some (.inr (4, [.int 1, .int x, .int y, .int 0])) := by rw [eM7]; exact mu_s _ _ _
  exact m_vret X hK hw hS (by subst_vars; simp only [mu_mu]; rfl) (by omega) (by omega) dX3_insert_20
set_option maxHeartbeats 4000000 in
set_option maxRecDepth 100000 in
/-- Row.update -/
theorem c_X3_update (l : Launch) (G : gG) (dce sz : Nat) (M : gM) (q : Nat) (w : vR) (hr0 : M q = some (eR w)) (x y : Int32) : mV l yX3_update wsX3_update ({ frames := 0, cells := 0, slots := 0, locals := 0 }) G dce sz M [.ref q, .int x, .int y] (fun M' => M' = mu M q (eR (fUpd w x y))) (0) (0) := by
  obtain ⟨rb, rn, rr, rv⟩ := w
  have hw0 : M q = some (.inr (4, [.int (bI rb), .int rn, .int rr, .int rv])) := hr0
  refine wMet (Qc := QV G _) (cc := cX3_update) (maxL := 3) (ret := none) (by decide) rfl (Nat.le_of_ble_eq_true rfl) ?_
  intro p e s m below meth c A ls X hnm hw hK hZ hA hS hsz eA hl
  obtain ⟨hx, hb, hr, hts, hown, hlk, hml⟩ := id X
  have hl : lv_has ls 3 [(0, .ref q), (1, .int x), (2, .int y)] := hl
  have iX3 : ∀ w ∈ wsX30, w ∈ wsX3_update := by decide +kernel
  refine lv_aload_n hx hb dX3_update_0 rfl (lv_at hl 0 rfl) ?_
  refine lv_iload_n hx hb dX3_update_1 rfl (lv_at hl 1 rfl) ?_
  refine m_put X iX3 tyX3_ok nmX3 hK hw hS hw0 rfl 1 (by decide) (ref := "ObjectMapper$Row") (by decide +kernel) (Or.inl rfl) rfl (v := .int x) rfl rfl (Nat.le_of_ble_eq_true rfl) (fs1 := [.int (bI rb), .int x, .int rr, .int rv]) rfl dX3_update_2 (fun M1 H locs eM1 hw hS => ?_)
  have k2 : M1 q = some (.inr (4, [.int (bI rb), .int x, .int rr, .int rv])) := by rw [eM1]; exact mu_s _ _ _
  refine lv_aload_n hx hb dX3_update_5 rfl (lv_at hl 0 rfl) ?_
  refine lv_iload_n hx hb dX3_update_6 rfl (lv_at hl 2 rfl) ?_
  refine m_put X iX3 tyX3_ok nmX3 hK hw hS k2 rfl 2 (by decide) (ref := "ObjectMapper$Row") (by decide +kernel) (Or.inl rfl) rfl (v := .int y) rfl rfl (Nat.le_of_ble_eq_true rfl) (fs1 := [.int (bI rb), .int x, .int y, .int rv]) rfl dX3_update_7 (fun M3 H locs eM3 hw hS => ?_)
  have k4 : M3 q = some (.inr (4, [.int (bI rb), .int x, .int y, .int rv])) := by rw [eM3]; exact mu_s _ _ _
  refine lv_aload_n hx hb dX3_update_10 rfl (lv_at hl 0 rfl) ?_
  refine lv_dup hx hb dX3_update_11 rfl ?_
  refine m_get X iX3 hK hw k4 rfl 3 (by decide) (ref := "ObjectMapper$Row") (by decide +kernel) (Or.inl rfl) rfl dX3_update_12 ?_
  refine lv_iconst (v := 1) hx hb dX3_update_15 (by decide) ?_
  refine lv_iadd hx hb dX3_update_16 ?_
  refine m_put X iX3 tyX3_ok nmX3 hK hw hS k4 rfl 3 (by decide) (ref := "ObjectMapper$Row") (by decide +kernel) (Or.inl rfl) rfl (v := .int (rv + 1)) rfl rfl (Nat.le_of_ble_eq_true rfl) (fs1 := [.int (bI rb), .int x, .int y, .int (rv + 1)]) rfl dX3_update_17 (fun M5 H locs eM5 hw hS => ?_)
  have k6 : M5 q = some (.inr (4, [.int (bI rb), .int x, .int y, .int (rv + 1)])) := by rw [eM5]; exact mu_s _ _ _
  exact m_vret X hK hw hS (by subst_vars; simp only [mu_mu]; rfl) (by omega) (by omega) dX3_update_20
