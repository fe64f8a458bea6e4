set_option maxHeartbeats 4000000 in
set_option maxRecDepth 100000 in
theorem c_mKnown (l : Launch) (G : gG) (dce sz : Nat) (M : gM) (x : Nat) (ad : Nat → Nat) (w : mW) (hm : MW G M x ad w) (si : Int32) : mI l yX7_known wsX7_known ({ frames := 3, cells := 0, slots := 0, locals := 69 }) G dce sz M [.ref x, .int si] (fun r M' => mFr x ad M M' ∧ (((aSe si) = 0 ∧ ∃ i, aS si i ∧ r = nI (cnt (fun j => mKn (mH w 0) i 0 (nI j)) (rdK w 0) + cnt (fun j => mKn (mH w 0) i 1 (nI j)) (rdK w 1)) ∧ MW G M' x ad (mH w 0)) ∨ ((aSe si) ≠ 0 ∧ MW G M' x ad (mH w (aSe si))))) (0) (0) := by
  have hx0 : M x = some (.inr (8, [.int (rdH w), .ref (ad 1), .ref (ad 2), .ref (ad 3), .ref (ad 4), .ref (ad 5), .ref (ad 6), .ref (ad 7), .ref (ad 8), .ref (ad 9), .ref (ad 10), .ref (ad 11), .ref (ad 12), .ref (ad 13), .int (nI (rdN w)), .ref (ad 15)])) := hm.1
  refine wMet (Qc := QI G _) (cc := cX7_known) (maxL := 2) (ret := (some .int)) (by decide) rfl (Nat.le_of_ble_eq_true rfl) ?_
  intro p e s m below meth c A ls X hnm hw hK hZ hA hS hsz eA hl
  obtain ⟨hx, hb, hr, hts, hown, hlk, hml⟩ := id X
  have hl : lv_has ls 2 [(0, .ref x), (1, .int si)] := hl
  refine lv_aload_n hx hb dX7_known_0 rfl (lv_at hl 0 rfl) ?_
  refine lv_iload_n hx hb dX7_known_1 rfl (lv_at hl 1 rfl) ?_
  refine m_callSi X hK hw hZ hS hA (As := [.int si]) (rest := [.ref x]) (c_X7_isSession l G dce _ M si) (va_cwS 1 hts gX7_known_X7_isSession rfl rfl rfl (by decide +kernel) ⟨Nat.le_of_ble_eq_true rfl, Nat.le_of_ble_eq_true rfl⟩) rfl hl.1 rfl (Nat.le_of_ble_eq_true rfl) dX7_known_2 (Nat.le_of_ble_eq_true rfl) (Nat.le_of_ble_eq_true rfl) (fun r2 M1 H locs hp hw hS hz hk => ?_)
  rw [hp.2] at hw
  rw [hp.1]
  refine lv_if_eq (tgt := 12) hx hb dX7_known_5 (by decide) (fun c_5 => ?_) (fun c_5 => ?_)
  · refine lv_iconst (v := 1) hx hb dX7_known_12 (by decide) ?_
    refine m_callVi X (ci := 8) rfl hx0 hK hw hZ hS hA (As := [.int 1]) (rest := []) (c_holds l G dce _ M x ad w hm 1) (cwV 1 hts gX7_known_X7_holds rfl rfl rfl (by decide +kernel) ⟨Nat.le_of_ble_eq_true rfl, Nat.le_of_ble_eq_true rfl⟩) rfl hl.1 rfl (Nat.le_of_ble_eq_true rfl) dX7_known_13 (Nat.le_of_ble_eq_true rfl) (Nat.le_of_ble_eq_true rfl) (fun r4 M3 H locs hp hw hS hz hk => ?_)
    obtain ⟨hrt5, hmt5, hft5⟩ := hp
    rw [hrt5]
    have frt5 := mFr.tr mFr.rf hft5
    have hxt5 : M3 x = some (.inr (8, [.int (rdH (mH w 1)), .ref (ad 1), .ref (ad 2), .ref (ad 3), .ref (ad 4), .ref (ad 5), .ref (ad 6), .ref (ad 7), .ref (ad 8), .ref (ad 9), .ref (ad 10), .ref (ad 11), .ref (ad 12), .ref (ad 13), .int (nI (rdN (mH w 1))), .ref (ad 15)])) := hmt5.1
    rw [show bI (decide ((1 : Int32) = 0)) = 0 from by decide]
    refine lv_if_eq (tgt := 27) hx hb dX7_known_16 (by decide) (fun _ => ?_) (fun c_16 => absurd (by decide) c_16)
    refine lv_iconst (v := 0) hx hb dX7_known_27 (by decide) ?_
    have hC : aSe si = 1 := by simp [aSe, ((bI_0 _).mp c_5)]
    exact m_iret X hK hw hS ⟨frt5, Or.inr ⟨by rw [hC]; decide, by rw [hC]; exact hmt5⟩⟩ (by omega) (by omega) dX7_known_28
  · obtain ⟨i, hi, ei⟩ := sOK_i (bI_t c_5)
    have si9 : si.toNatClampNeg = i := by rw [ei]; exact nI_clamp (by omega)
    refine lv_iconst (v := 0) hx hb dX7_known_8 (by decide) ?_
    refine lv_goto (tgt := 13) hx hb dX7_known_9 (by decide) ?_
    refine m_callVi X (ci := 8) rfl hx0 hK hw hZ hS hA (As := [.int 0]) (rest := []) (c_holds l G dce _ M x ad w hm 0) (cwV 1 hts gX7_known_X7_holds rfl rfl rfl (by decide +kernel) ⟨Nat.le_of_ble_eq_true rfl, Nat.le_of_ble_eq_true rfl⟩) rfl hl.1 rfl (Nat.le_of_ble_eq_true rfl) dX7_known_13 (Nat.le_of_ble_eq_true rfl) (Nat.le_of_ble_eq_true rfl) (fun r7 M6 H locs hp hw hS hz hk => ?_)
    obtain ⟨hrt8, hmt8, hft8⟩ := hp
    rw [hrt8]
    have frt8 := mFr.tr mFr.rf hft8
    have hxt8 : M6 x = some (.inr (8, [.int (rdH (mH w 0)), .ref (ad 1), .ref (ad 2), .ref (ad 3), .ref (ad 4), .ref (ad 5), .ref (ad 6), .ref (ad 7), .ref (ad 8), .ref (ad 9), .ref (ad 10), .ref (ad 11), .ref (ad 12), .ref (ad 13), .int (nI (rdN (mH w 0))), .ref (ad 15)])) := hmt8.1
    rw [show bI (decide ((0 : Int32) = 0)) = 1 from by decide]
    refine lv_if_eq (tgt := 27) hx hb dX7_known_16 (by decide) (fun c_16 => absurd c_16 (by decide)) (fun _ => ?_)
    refine lv_aload_n hx hb dX7_known_19 rfl (lv_at hl 0 rfl) ?_
    refine lv_iload_n hx hb dX7_known_20 rfl (lv_at hl 1 rfl) ?_
    refine m_callVi X (ci := 8) rfl hxt8 hK hw hZ hS hA (As := [.int si]) (rest := []) (c_knownOfK l G dce _ M6 x ad (mH w 0) hmt8 i hi si ei) (cwV 1 hts gX7_known_X7_knownOf rfl rfl rfl (by decide +kernel) ⟨Nat.le_of_ble_eq_true rfl, Nat.le_of_ble_eq_true rfl⟩) rfl hl.1 rfl (Nat.le_of_ble_eq_true rfl) dX7_known_21 (Nat.le_of_ble_eq_true rfl) (Nat.le_of_ble_eq_true rfl) (fun r10 M9 H locs hp hw hS hz hk => ?_)
    rw [hp.2] at hw
    rw [hp.1]
    refine lv_goto (tgt := 28) hx hb dX7_known_24 (by decide) ?_
    have hC : aSe si = 0 := by simp [aSe, (bI_t c_5), si9]
    exact m_iret X hK hw hS ⟨frt8, Or.inl ⟨hC, i, ⟨hi, ei⟩, rfl, hmt8⟩⟩ (by omega) (by omega) dX7_known_28
set_option maxHeartbeats 4000000 in
set_option maxRecDepth 100000 in
theorem c_isRowAsked (l : Launch) (G : gG) (dce sz : Nat) (M : gM) (x : Nat) (ad : Nat → Nat) (w : mW) (hm : MW G M x ad w) (kd ky : Int32) : mI l yX7_isRowAsked wsX7_isRowAsked ({ frames := 2, cells := 0, slots := 0, locals := 44 }) G dce sz M [.ref x, .int kd, .int ky] (fun r M' => r = bI (decide (aRw w kd ky = 0)) ∧ MW G M' x ad (mH w (aRw w kd ky)) ∧ mFr x ad M M') (0) (0) := by
  have hx0 : M x = some (.inr (8, [.int (rdH w), .ref (ad 1), .ref (ad 2), .ref (ad 3), .ref (ad 4), .ref (ad 5), .ref (ad 6), .ref (ad 7), .ref (ad 8), .ref (ad 9), .ref (ad 10), .ref (ad 11), .ref (ad 12), .ref (ad 13), .int (nI (rdN w)), .ref (ad 15)])) := hm.1
  refine wMet (Qc := QI G _) (cc := cX7_isRowAsked) (maxL := 3) (ret := (some .boolean)) (by decide) rfl (Nat.le_of_ble_eq_true rfl) ?_
  intro p e s m below meth c A ls X hnm hw hK hZ hA hS hsz eA hl
  obtain ⟨hx, hb, hr, hts, hown, hlk, hml⟩ := id X
  have hl : lv_has ls 3 [(0, .ref x), (1, .int kd), (2, .int ky)] := hl
  refine lv_aload_n hx hb dX7_isRowAsked_0 rfl (lv_at hl 0 rfl) ?_
  refine lv_iload_n hx hb dX7_isRowAsked_1 rfl (lv_at hl 1 rfl) ?_
  refine m_callSi X hK hw hZ hS hA (As := [.int kd]) (rest := [.ref x]) (c_X7_isKind l G dce _ M kd) (va_cwS 1 hts gX7_isRowAsked_X7_isKind rfl rfl rfl (by decide +kernel) ⟨Nat.le_of_ble_eq_true rfl, Nat.le_of_ble_eq_true rfl⟩) rfl hl.1 rfl (Nat.le_of_ble_eq_true rfl) dX7_isRowAsked_2 (Nat.le_of_ble_eq_true rfl) (Nat.le_of_ble_eq_true rfl) (fun r2 M1 H locs hp hw hS hz hk => ?_)
  rw [hp.2] at hw
  rw [hp.1]
  refine lv_if_ne (tgt := 12) hx hb dX7_isRowAsked_5 (by decide) (fun c_5 => ?_) (fun c_5 => ?_)
  · obtain ⟨k, hk2, ek⟩ := kOK_k (bI_t c_5)
    have kd9 : kd.toNatClampNeg = k := by rw [ek]; exact nI_clamp (by omega)
    refine lv_aload_n hx hb dX7_isRowAsked_12 rfl (lv_at hl 0 rfl) ?_
    refine lv_iload_n hx hb dX7_isRowAsked_13 rfl (lv_at hl 1 rfl) ?_
    refine lv_iload_n hx hb dX7_isRowAsked_14 rfl (lv_at hl 2 rfl) ?_
    refine m_callVi X (ci := 8) rfl hx0 hK hw hZ hS hA (As := [.int kd, .int ky]) (rest := [.ref x]) (c_hasRowK l G dce _ M x ad w hm k hk2 ky kd ek) (cwV 2 hts gX7_isRowAsked_X7_hasRow rfl rfl rfl (by decide +kernel) ⟨Nat.le_of_ble_eq_true rfl, Nat.le_of_ble_eq_true rfl⟩) rfl hl.1 rfl (Nat.le_of_ble_eq_true rfl) dX7_isRowAsked_15 (Nat.le_of_ble_eq_true rfl) (Nat.le_of_ble_eq_true rfl) (fun r4 M3 H locs hp hw hS hz hk => ?_)
    rw [hp.2] at hw
    rw [hp.1]
    refine lv_if_eq (tgt := 25) hx hb dX7_isRowAsked_18 (by decide) (fun c_18 => ?_) (fun c_18 => ?_)
    · refine lv_iconst (v := 2) hx hb dX7_isRowAsked_25 (by decide) ?_
      refine m_callVi X (ci := 8) rfl hx0 hK hw hZ hS hA (As := [.int 2]) (rest := []) (c_holds l G dce _ M x ad w hm 2) (cwV 1 hts gX7_isRowAsked_X7_holds rfl rfl rfl (by decide +kernel) ⟨Nat.le_of_ble_eq_true rfl, Nat.le_of_ble_eq_true rfl⟩) rfl hl.1 rfl (Nat.le_of_ble_eq_true rfl) dX7_isRowAsked_26 (Nat.le_of_ble_eq_true rfl) (Nat.le_of_ble_eq_true rfl) (fun r6 M5 H locs hp hw hS hz hk => ?_)
      obtain ⟨hrt7, hmt7, hft7⟩ := hp
      rw [hrt7]
      have frt7 := mFr.tr mFr.rf hft7
      have hxt7 : M5 x = some (.inr (8, [.int (rdH (mH w 2)), .ref (ad 1), .ref (ad 2), .ref (ad 3), .ref (ad 4), .ref (ad 5), .ref (ad 6), .ref (ad 7), .ref (ad 8), .ref (ad 9), .ref (ad 10), .ref (ad 11), .ref (ad 12), .ref (ad 13), .int (nI (rdN (mH w 2))), .ref (ad 15)])) := hmt7.1
      rw [show bI (decide ((2 : Int32) = 0)) = 0 from by decide]
      have hC : aRw w kd ky = 2 := by simp [aRw, (bI_t c_5), ((bI_0 _).mp c_18), kd9]
      exact m_zret X (by decide) hK hw hS ⟨by rw [hC]; decide, by rw [hC]; exact hmt7, frt7⟩ (by omega) (by omega) dX7_isRowAsked_29
    · refine lv_iconst (v := 0) hx hb dX7_isRowAsked_21 (by decide) ?_
      refine lv_goto (tgt := 26) hx hb dX7_isRowAsked_22 (by decide) ?_
      refine m_callVi X (ci := 8) rfl hx0 hK hw hZ hS hA (As := [.int 0]) (rest := []) (c_holds l G dce _ M x ad w hm 0) (cwV 1 hts gX7_isRowAsked_X7_holds rfl rfl rfl (by decide +kernel) ⟨Nat.le_of_ble_eq_true rfl, Nat.le_of_ble_eq_true rfl⟩) rfl hl.1 rfl (Nat.le_of_ble_eq_true rfl) dX7_isRowAsked_26 (Nat.le_of_ble_eq_true rfl) (Nat.le_of_ble_eq_true rfl) (fun r9 M8 H locs hp hw hS hz hk => ?_)
      obtain ⟨hrt10, hmt10, hft10⟩ := hp
      rw [hrt10]
      have frt10 := mFr.tr mFr.rf hft10
      have hxt10 : M8 x = some (.inr (8, [.int (rdH (mH w 0)), .ref (ad 1), .ref (ad 2), .ref (ad 3), .ref (ad 4), .ref (ad 5), .ref (ad 6), .ref (ad 7), .ref (ad 8), .ref (ad 9), .ref (ad 10), .ref (ad 11), .ref (ad 12), .ref (ad 13), .int (nI (rdN (mH w 0))), .ref (ad 15)])) := hmt10.1
      rw [show bI (decide ((0 : Int32) = 0)) = 1 from by decide]
      have hC : aRw w kd ky = 0 := by simp [aRw, (bI_t c_5), (bI_t c_18), kd9]
      exact m_zret X (by decide) hK hw hS ⟨by rw [hC]; decide, by rw [hC]; exact hmt10, frt10⟩ (by omega) (by omega) dX7_isRowAsked_29
  · refine lv_iconst (v := 1) hx hb dX7_isRowAsked_8 (by decide) ?_
    refine lv_goto (tgt := 26) hx hb dX7_isRowAsked_9 (by decide) ?_
    refine m_callVi X (ci := 8) rfl hx0 hK hw hZ hS hA (As := [.int 1]) (rest := []) (c_holds l G dce _ M x ad w hm 1) (cwV 1 hts gX7_isRowAsked_X7_holds rfl rfl rfl (by decide +kernel) ⟨Nat.le_of_ble_eq_true rfl, Nat.le_of_ble_eq_true rfl⟩) rfl hl.1 rfl (Nat.le_of_ble_eq_true rfl) dX7_isRowAsked_26 (Nat.le_of_ble_eq_true rfl) (Nat.le_of_ble_eq_true rfl) (fun r12 M11 H locs hp hw hS hz hk => ?_)
    obtain ⟨hrt13, hmt13, hft13⟩ := hp
    rw [hrt13]
    have frt13 := mFr.tr mFr.rf hft13
    have hxt13 : M11 x = some (.inr (8, [.int (rdH (mH w 1)), .ref (ad 1), .ref (ad 2), .ref (ad 3), .ref (ad 4), .ref (ad 5), .ref (ad 6), .ref (ad 7), .ref (ad 8), .ref (ad 9), .ref (ad 10), .ref (ad 11), .ref (ad 12), .ref (ad 13), .int (nI (rdN (mH w 1))), .ref (ad 15)])) := hmt13.1
    rw [show bI (decide ((1 : Int32) = 0)) = 0 from by decide]
    have hC : aRw w kd ky = 1 := by simp [aRw, ((bI_0 _).mp c_5)]
    exact m_zret X (by decide) hK hw hS ⟨by rw [hC]; decide, by rw [hC]; exact hmt13, frt13⟩ (by omega) (by omega) dX7_isRowAsked_29
theorem aRw_0 {w : mW} {kd ky : Int32} (hn : ∀ k, k < 2 → rdK w k ≤ 1024) (h : aRw w kd ky = 0) : ∃ k j : Nat, aK kd k ∧ (j < rdK w k ∧ ky = nI j) ∧ mHr w k (nI j) = true := by
  unfold aRw at h
  split at h
  · rename_i h2
    split at h
    · rename_i h3
      obtain ⟨k, hk, ek⟩ := kOK_k h2
      rw [ek, nI_clamp (by omega)] at h3
      obtain ⟨j, hj, ej⟩ := mHr_in (hn k hk) h3
      exact ⟨k, j, ⟨hk, ek⟩, ⟨hj, ej⟩, by rw [← ej]; exact h3⟩
    · exact absurd h (by decide)
  · exact absurd h (by decide)
set_option maxHeartbeats 4000000 in
set_option maxRecDepth 100000 in
theorem c_mRowName (l : Launch) (G : gG) (dce sz : Nat) (M : gM) (x : Nat) (ad : Nat → Nat) (w : mW) (hm : MW G M x ad w) (kd ky : Int32) : mI l yX7_rowName wsX7_rowName ({ frames := 3, cells := 0, slots := 0, locals := 66 }) G dce sz M [.ref x, .int kd, .int ky] (fun r M' => mFr x ad M M' ∧ (((aRw w kd ky) = 0 ∧ ∃ k j, aK kd k ∧ (j < rdK w k ∧ ky = nI j) ∧ mHr w k (nI j) = true ∧ r = rdT w 3 (rP k j) ∧ MW G M' x ad (mH w 0)) ∨ ((aRw w kd ky) ≠ 0 ∧ MW G M' x ad (mH w (aRw w kd ky))))) (0) (0) := by
  have hx0 : M x = some (.inr (8, [.int (rdH w), .ref (ad 1), .ref (ad 2), .ref (ad 3), .ref (ad 4), .ref (ad 5), .ref (ad 6), .ref (ad 7), .ref (ad 8), .ref (ad 9), .ref (ad 10), .ref (ad 11), .ref (ad 12), .ref (ad 13), .int (nI (rdN w)), .ref (ad 15)])) := hm.1
  refine wMet (Qc := QI G _) (cc := cX7_rowName) (maxL := 3) (ret := (some .int)) (by decide) rfl (Nat.le_of_ble_eq_true rfl) ?_
  intro p e s m below meth c A ls X hnm hw hK hZ hA hS hsz eA hl
  obtain ⟨hx, hb, hr, hts, hown, hlk, hml⟩ := id X
  have hl : lv_has ls 3 [(0, .ref x), (1, .int kd), (2, .int ky)] := hl
  have iX7 : ∀ w ∈ wsX70, w ∈ wsX7_rowName := by decide +kernel
  refine lv_aload_n hx hb dX7_rowName_0 rfl (lv_at hl 0 rfl) ?_
  refine lv_iload_n hx hb dX7_rowName_1 rfl (lv_at hl 1 rfl) ?_
  refine lv_iload_n hx hb dX7_rowName_2 rfl (lv_at hl 2 rfl) ?_
  refine m_callVi X (ci := 8) rfl hx0 hK hw hZ hS hA (As := [.int kd, .int ky]) (rest := []) (c_isRowAsked l G dce _ M x ad w hm kd ky) (cwV 2 hts gX7_rowName_X7_isRowAsked rfl rfl rfl (by decide +kernel) ⟨Nat.le_of_ble_eq_true rfl, Nat.le_of_ble_eq_true rfl⟩) rfl hl.1 rfl (Nat.le_of_ble_eq_true rfl) dX7_rowName_3 (Nat.le_of_ble_eq_true rfl) (Nat.le_of_ble_eq_true rfl) (fun r2 M1 H locs hp hw hS hz hk => ?_)
  obtain ⟨hrt3, hmt3, hft3⟩ := hp
  rw [hrt3]
  have frt3 := mFr.tr mFr.rf hft3
  have hxt3 : M1 x = some (.inr (8, [.int (rdH (mH w (aRw w kd ky))), .ref (ad 1), .ref (ad 2), .ref (ad 3), .ref (ad 4), .ref (ad 5), .ref (ad 6), .ref (ad 7), .ref (ad 8), .ref (ad 9), .ref (ad 10), .ref (ad 11), .ref (ad 12), .ref (ad 13), .int (nI (rdN (mH w (aRw w kd ky)))), .ref (ad 15)])) := hmt3.1
  refine lv_if_eq (tgt := 22) hx hb dX7_rowName_6 (by decide) (fun c_6 => ?_) (fun c_6 => ?_)
  · refine lv_iconst (v := 0) hx hb dX7_rowName_22 (by decide) ?_
    exact m_iret X hK hw hS ⟨frt3, Or.inr ⟨of_decide_eq_false (((bI_0 _).mp c_6)), hmt3⟩⟩ (by omega) (by omega) dX7_rowName_23
  · have h0 : aRw w kd ky = 0 := of_decide_eq_true (bI_t c_6)
    obtain ⟨k, j, ⟨hk2, ek⟩, ⟨hjk, ej⟩, hkn⟩ := aRw_0 (fun k hk => hm.kb hk) h0
    have hjb := hm.kb hk2
    have hj2 : j < 1024 := by omega
    have hm0 : MW G M1 x ad (mH w 0) := by have h9 := hmt3; rw [h0] at h9; exact h9
    have hxo0 : M1 x = some (.inr (8, [.int (rdH (mH w 0)), .ref (ad 1), .ref (ad 2), .ref (ad 3), .ref (ad 4), .ref (ad 5), .ref (ad 6), .ref (ad 7), .ref (ad 8), .ref (ad 9), .ref (ad 10), .ref (ad 11), .ref (ad 12), .ref (ad 13), .int (nI (rdN (mH w 0))), .ref (ad 15)])) := hm0.1
    refine lv_aload_n hx hb dX7_rowName_9 rfl (lv_at hl 0 rfl) ?_
    refine m_get X iX7 hK hw hxo0 rfl 3 (by decide) (ref := "ObjectMapperModel") (by decide +kernel) (Or.inl rfl) rfl dX7_rowName_10 ?_
    refine lv_iload_n hx hb dX7_rowName_13 rfl (lv_at hl 1 rfl) ?_
    refine lv_iload_n hx hb dX7_rowName_14 rfl (lv_at hl 2 rfl) ?_
    refine m_callSi X hK hw hZ hS hA (As := [.int kd, .int ky]) (rest := [.ref (ad 3)]) (c_rowK l G dce _ M1 k j kd ek ky ej) (va_cwS 2 hts gX7_rowName_X7_row rfl rfl rfl (by decide +kernel) ⟨Nat.le_of_ble_eq_true rfl, Nat.le_of_ble_eq_true rfl⟩) rfl hl.1 rfl (Nat.le_of_ble_eq_true rfl) dX7_rowName_15 (Nat.le_of_ble_eq_true rfl) (Nat.le_of_ble_eq_true rfl) (fun r5 M4 H locs hp hw hS hz hk => ?_)
    rw [hp.2] at hw
    rw [hp.1]
    have ix6 : ((nI (rP k j)) : Int32) = nI (rP k j) := rfl
    have ix6b : (rP k j) < 2048 := (rP_lt hk2 hj2)
    refine m_iald X hK hw (hm0.a3) (i := (nI (rP k j))) (by rw [ix6]; exact vp_in_nI ix6b (by decide)) dX7_rowName_18 ?_
    rw [show ((nI (rP k j)) : Int32).toNatClampNeg = (rP k j) from by rw [ix6]; exact nI_clamp (by omega)]
    refine lv_goto (tgt := 23) hx hb dX7_rowName_19 (by decide) ?_
    exact m_iret X hK hw hS ⟨frt3, Or.inl ⟨h0, k, j, ⟨hk2, ek⟩, ⟨hjk, ej⟩, hkn, rfl, hm0⟩⟩ (by omega) (by omega) dX7_rowName_23
set_option maxHeartbeats 4000000 in
set_option maxRecDepth 100000 in
theorem c_mRowReference (l : Launch) (G : gG) (dce sz : Nat) (M : gM) (x : Nat) (ad : Nat → Nat) (w : mW) (hm : MW G M x ad w) (kd ky : Int32) : mI l yX7_rowReference wsX7_rowReference ({ frames := 3, cells := 0, slots := 0, locals := 66 }) G dce sz M [.ref x, .int kd, .int ky] (fun r M' => mFr x ad M M' ∧ (((aRw w kd ky) = 0 ∧ ∃ k j, aK kd k ∧ (j < rdK w k ∧ ky = nI j) ∧ mHr w k (nI j) = true ∧ r = rdT w 4 (rP k j) ∧ MW G M' x ad (mH w 0)) ∨ ((aRw w kd ky) ≠ 0 ∧ MW G M' x ad (mH w (aRw w kd ky))))) (0) (0) := by
  have hx0 : M x = some (.inr (8, [.int (rdH w), .ref (ad 1), .ref (ad 2), .ref (ad 3), .ref (ad 4), .ref (ad 5), .ref (ad 6), .ref (ad 7), .ref (ad 8), .ref (ad 9), .ref (ad 10), .ref (ad 11), .ref (ad 12), .ref (ad 13), .int (nI (rdN w)), .ref (ad 15)])) := hm.1
  refine wMet (Qc := QI G _) (cc := cX7_rowReference) (maxL := 3) (ret := (some .int)) (by decide) rfl (Nat.le_of_ble_eq_true rfl) ?_
  intro p e s m below meth c A ls X hnm hw hK hZ hA hS hsz eA hl
  obtain ⟨hx, hb, hr, hts, hown, hlk, hml⟩ := id X
  have hl : lv_has ls 3 [(0, .ref x), (1, .int kd), (2, .int ky)] := hl
  have iX7 : ∀ w ∈ wsX70, w ∈ wsX7_rowReference := by decide +kernel
  refine lv_aload_n hx hb dX7_rowReference_0 rfl (lv_at hl 0 rfl) ?_
  refine lv_iload_n hx hb dX7_rowReference_1 rfl (lv_at hl 1 rfl) ?_
  refine lv_iload_n hx hb dX7_rowReference_2 rfl (lv_at hl 2 rfl) ?_
  refine m_callVi X (ci := 8) rfl hx0 hK hw hZ hS hA (As := [.int kd, .int ky]) (rest := []) (c_isRowAsked l G dce _ M x ad w hm kd ky) (cwV 2 hts gX7_rowReference_X7_isRowAsked rfl rfl rfl (by decide +kernel) ⟨Nat.le_of_ble_eq_true rfl, Nat.le_of_ble_eq_true rfl⟩) rfl hl.1 rfl (Nat.le_of_ble_eq_true rfl) dX7_rowReference_3 (Nat.le_of_ble_eq_true rfl) (Nat.le_of_ble_eq_true rfl) (fun r2 M1 H locs hp hw hS hz hk => ?_)
  obtain ⟨hrt3, hmt3, hft3⟩ := hp
  rw [hrt3]
  have frt3 := mFr.tr mFr.rf hft3
  have hxt3 : M1 x = some (.inr (8, [.int (rdH (mH w (aRw w kd ky))), .ref (ad 1), .ref (ad 2), .ref (ad 3), .ref (ad 4), .ref (ad 5), .ref (ad 6), .ref (ad 7), .ref (ad 8), .ref (ad 9), .ref (ad 10), .ref (ad 11), .ref (ad 12), .ref (ad 13), .int (nI (rdN (mH w (aRw w kd ky)))), .ref (ad 15)])) := hmt3.1
  refine lv_if_eq (tgt := 22) hx hb dX7_rowReference_6 (by decide) (fun c_6 => ?_) (fun c_6 => ?_)
  · refine lv_iconst (v := 0) hx hb dX7_rowReference_22 (by decide) ?_
    exact m_iret X hK hw hS ⟨frt3, Or.inr ⟨of_decide_eq_false (((bI_0 _).mp c_6)), hmt3⟩⟩ (by omega) (by omega) dX7_rowReference_23
  · have h0 : aRw w kd ky = 0 := of_decide_eq_true (bI_t c_6)
    obtain ⟨k, j, ⟨hk2, ek⟩, ⟨hjk, ej⟩, hkn⟩ := aRw_0 (fun k hk => hm.kb hk) h0
    have hjb := hm.kb hk2
    have hj2 : j < 1024 := by omega
    have hm0 : MW G M1 x ad (mH w 0) := by have h9 := hmt3; rw [h0] at h9; exact h9
    have hxo0 : M1 x = some (.inr (8, [.int (rdH (mH w 0)), .ref (ad 1), .ref (ad 2), .ref (ad 3), .ref (ad 4), .ref (ad 5), .ref (ad 6), .ref (ad 7), .ref (ad 8), .ref (ad 9), .ref (ad 10), .ref (ad 11), .ref (ad 12), .ref (ad 13), .int (nI (rdN (mH w 0))), .ref (ad 15)])) := hm0.1
    refine lv_aload_n hx hb dX7_rowReference_9 rfl (lv_at hl 0 rfl) ?_
    refine m_get X iX7 hK hw hxo0 rfl 4 (by decide) (ref := "ObjectMapperModel") (by decide +kernel) (Or.inl rfl) rfl dX7_rowReference_10 ?_
    refine lv_iload_n hx hb dX7_rowReference_13 rfl (lv_at hl 1 rfl) ?_
    refine lv_iload_n hx hb dX7_rowReference_14 rfl (lv_at hl 2 rfl) ?_
    refine m_callSi X hK hw hZ hS hA (As := [.int kd, .int ky]) (rest := [.ref (ad 4)]) (c_rowK l G dce _ M1 k j kd ek ky ej) (va_cwS 2 hts gX7_rowReference_X7_row rfl rfl rfl (by decide +kernel) ⟨Nat.le_of_ble_eq_true rfl, Nat.le_of_ble_eq_true rfl⟩) rfl hl.1 rfl (Nat.le_of_ble_eq_true rfl) dX7_rowReference_15 (Nat.le_of_ble_eq_true rfl) (Nat.le_of_ble_eq_true rfl) (fun r5 M4 H locs hp hw hS hz hk => ?_)
    rw [hp.2] at hw
    rw [hp.1]
    have ix6 : ((nI (rP k j)) : Int32) = nI (rP k j) := rfl
    have ix6b : (rP k j) < 2048 := (rP_lt hk2 hj2)
    refine m_iald X hK hw (hm0.a4) (i := (nI (rP k j))) (by rw [ix6]; exact vp_in_nI ix6b (by decide)) dX7_rowReference_18 ?_
    rw [show ((nI (rP k j)) : Int32).toNatClampNeg = (rP k j) from by rw [ix6]; exact nI_clamp (by omega)]
    refine lv_goto (tgt := 23) hx hb dX7_rowReference_19 (by decide) ?_
    exact m_iret X hK hw hS ⟨frt3, Or.inl ⟨h0, k, j, ⟨hk2, ek⟩, ⟨hjk, ej⟩, hkn, rfl, hm0⟩⟩ (by omega) (by omega) dX7_rowReference_23
set_option maxHeartbeats 4000000 in
set_option maxRecDepth 100000 in
theorem c_mRowVersion (l : Launch) (G : gG) (dce sz : Nat) (M : gM) (x : Nat) (ad : Nat → Nat) (w : mW) (hm : MW G M x ad w) (kd ky : Int32) : mI l yX7_rowVersion wsX7_rowVersion ({ frames := 3, cells := 0, slots := 0, locals := 66 }) G dce sz M [.ref x, .int kd, .int ky] (fun r M' => mFr x ad M M' ∧ (((aRw w kd ky) = 0 ∧ ∃ k j, aK kd k ∧ (j < rdK w k ∧ ky = nI j) ∧ mHr w k (nI j) = true ∧ r = rdT w 5 (rP k j) ∧ MW G M' x ad (mH w 0)) ∨ ((aRw w kd ky) ≠ 0 ∧ MW G M' x ad (mH w (aRw w kd ky))))) (0) (0) := by
  have hx0 : M x = some (.inr (8, [.int (rdH w), .ref (ad 1), .ref (ad 2), .ref (ad 3), .ref (ad 4), .ref (ad 5), .ref (ad 6), .ref (ad 7), .ref (ad 8), .ref (ad 9), .ref (ad 10), .ref (ad 11), .ref (ad 12), .ref (ad 13), .int (nI (rdN w)), .ref (ad 15)])) := hm.1
  refine wMet (Qc := QI G _) (cc := cX7_rowVersion) (maxL := 3) (ret := (some .int)) (by decide) rfl (Nat.le_of_ble_eq_true rfl) ?_
  intro p e s m below meth c A ls X hnm hw hK hZ hA hS hsz eA hl
  obtain ⟨hx, hb, hr, hts, hown, hlk, hml⟩ := id X
  have hl : lv_has ls 3 [(0, .ref x), (1, .int kd), (2, .int ky)] := hl
  have iX7 : ∀ w ∈ wsX70, w ∈ wsX7_rowVersion := by decide +kernel
  refine lv_aload_n hx hb dX7_rowVersion_0 rfl (lv_at hl 0 rfl) ?_
  refine lv_iload_n hx hb dX7_rowVersion_1 rfl (lv_at hl 1 rfl) ?_
  refine lv_iload_n hx hb dX7_rowVersion_2 rfl (lv_at hl 2 rfl) ?_
  refine m_callVi X (ci := 8) rfl hx0 hK hw hZ hS hA (As := [.int kd, .int ky]) (rest := []) (c_isRowAsked l G dce _ M x ad w hm kd ky) (cwV 2 hts gX7_rowVersion_X7_isRowAsked rfl rfl rfl (by decide +kernel) ⟨Nat.le_of_ble_eq_true rfl, Nat.le_of_ble_eq_true rfl⟩) rfl hl.1 rfl (Nat.le_of_ble_eq_true rfl) dX7_rowVersion_3 (Nat.le_of_ble_eq_true rfl) (Nat.le_of_ble_eq_true rfl) (fun r2 M1 H locs hp hw hS hz hk => ?_)
  obtain ⟨hrt3, hmt3, hft3⟩ := hp
  rw [hrt3]
  have frt3 := mFr.tr mFr.rf hft3
  have hxt3 : M1 x = some (.inr (8, [.int (rdH (mH w (aRw w kd ky))), .ref (ad 1), .ref (ad 2), .ref (ad 3), .ref (ad 4), .ref (ad 5), .ref (ad 6), .ref (ad 7), .ref (ad 8), .ref (ad 9), .ref (ad 10), .ref (ad 11), .ref (ad 12), .ref (ad 13), .int (nI (rdN (mH w (aRw w kd ky)))), .ref (ad 15)])) := hmt3.1
  refine lv_if_eq (tgt := 22) hx hb dX7_rowVersion_6 (by decide) (fun c_6 => ?_) (fun c_6 => ?_)
  · refine lv_iconst (v := 0) hx hb dX7_rowVersion_22 (by decide) ?_
    exact m_iret X hK hw hS ⟨frt3, Or.inr ⟨of_decide_eq_false (((bI_0 _).mp c_6)), hmt3⟩⟩ (by omega) (by omega) dX7_rowVersion_23
  · have h0 : aRw w kd ky = 0 := of_decide_eq_true (bI_t c_6)
    obtain ⟨k, j, ⟨hk2, ek⟩, ⟨hjk, ej⟩, hkn⟩ := aRw_0 (fun k hk => hm.kb hk) h0
    have hjb := hm.kb hk2
    have hj2 : j < 1024 := by omega
    have hm0 : MW G M1 x ad (mH w 0) := by have h9 := hmt3; rw [h0] at h9; exact h9
    have hxo0 : M1 x = some (.inr (8, [.int (rdH (mH w 0)), .ref (ad 1), .ref (ad 2), .ref (ad 3), .ref (ad 4), .ref (ad 5), .ref (ad 6), .ref (ad 7), .ref (ad 8), .ref (ad 9), .ref (ad 10), .ref (ad 11), .ref (ad 12), .ref (ad 13), .int (nI (rdN (mH w 0))), .ref (ad 15)])) := hm0.1
    refine lv_aload_n hx hb dX7_rowVersion_9 rfl (lv_at hl 0 rfl) ?_
    refine m_get X iX7 hK hw hxo0 rfl 5 (by decide) (ref := "ObjectMapperModel") (by decide +kernel) (Or.inl rfl) rfl dX7_rowVersion_10 ?_
    refine lv_iload_n hx hb dX7_rowVersion_13 rfl (lv_at hl 1 rfl) ?_
    refine lv_iload_n hx hb dX7_rowVersion_14 rfl (lv_at hl 2 rfl) ?_
    refine m_callSi X hK hw hZ hS hA (As := [.int kd, .int ky]) (rest := [.ref (ad 5)]) (c_rowK l G dce _ M1 k j kd ek ky ej) (va_cwS 2 hts gX7_rowVersion_X7_row rfl rfl rfl (by decide +kernel) ⟨Nat.le_of_ble_eq_true rfl, Nat.le_of_ble_eq_true rfl⟩) rfl hl.1 rfl (Nat.le_of_ble_eq_true rfl) dX7_rowVersion_15 (Nat.le_of_ble_eq_true rfl) (Nat.le_of_ble_eq_true rfl) (fun r5 M4 H locs hp hw hS hz hk => ?_)
    rw [hp.2] at hw
    rw [hp.1]
    have ix6 : ((nI (rP k j)) : Int32) = nI (rP k j) := rfl
    have ix6b : (rP k j) < 2048 := (rP_lt hk2 hj2)
    refine m_iald X hK hw (hm0.a5) (i := (nI (rP k j))) (by rw [ix6]; exact vp_in_nI ix6b (by decide)) dX7_rowVersion_18 ?_
    rw [show ((nI (rP k j)) : Int32).toNatClampNeg = (rP k j) from by rw [ix6]; exact nI_clamp (by omega)]
    refine lv_goto (tgt := 23) hx hb dX7_rowVersion_19 (by decide) ?_
    exact m_iret X hK hw hS ⟨frt3, Or.inl ⟨h0, k, j, ⟨hk2, ek⟩, ⟨hjk, ej⟩, hkn, rfl, hm0⟩⟩ (by omega) (by omega) dX7_rowVersion_23
set_option maxHeartbeats 4000000 in
set_option maxRecDepth 100000 in
theorem c_isWrite (l : Launch) (G : gG) (dce sz : Nat) (M : gM) (x : Nat) (ad : Nat → Nat) (w : mW) (hm : MW G M x ad w) (nu : Int32) : mI l yX7_isWrite wsX7_isWrite ({ frames := 1, cells := 0, slots := 0, locals := 21 }) G dce sz M [.ref x, .int nu] (fun r M' => r = bI (decide (aWr w nu = 0)) ∧ MW G M' x ad (mH w (aWr w nu)) ∧ mFr x ad M M') (0) (0) := by
  have hx0 : M x = some (.inr (8, [.int (rdH w), .ref (ad 1), .ref (ad 2), .ref (ad 3), .ref (ad 4), .ref (ad 5), .ref (ad 6), .ref (ad 7), .ref (ad 8), .ref (ad 9), .ref (ad 10), .ref (ad 11), .ref (ad 12), .ref (ad 13), .int (nI (rdN w)), .ref (ad 15)])) := hm.1
  refine wMet (Qc := QI G _) (cc := cX7_isWrite) (maxL := 2) (ret := (some .boolean)) (by decide) rfl (Nat.le_of_ble_eq_true rfl) ?_
  intro p e s m below meth c A ls X hnm hw hK hZ hA hS hsz eA hl
  obtain ⟨hx, hb, hr, hts, hown, hlk, hml⟩ := id X
  have hl : lv_has ls 2 [(0, .ref x), (1, .int nu)] := hl
  have iX7 : ∀ w ∈ wsX70, w ∈ wsX7_isWrite := by decide +kernel
  refine lv_aload_n hx hb dX7_isWrite_0 rfl (lv_at hl 0 rfl) ?_
  refine lv_iload_n hx hb dX7_isWrite_1 rfl (lv_at hl 1 rfl) ?_
  refine lv_if_lt (tgt := 17) hx hb dX7_isWrite_2 (by decide) (fun c_2 => ?_) (fun c_2 => ?_)
  · refine lv_iconst (v := 1) hx hb dX7_isWrite_17 (by decide) ?_
    refine m_callVi X (ci := 8) rfl hx0 hK hw hZ hS hA (As := [.int 1]) (rest := []) (c_holds l G dce _ M x ad w hm 1) (cwV 1 hts gX7_isWrite_X7_holds rfl rfl rfl (by decide +kernel) ⟨Nat.le_of_ble_eq_true rfl, Nat.le_of_ble_eq_true rfl⟩) rfl hl.1 rfl (Nat.le_of_ble_eq_true rfl) dX7_isWrite_18 (Nat.le_of_ble_eq_true rfl) (Nat.le_of_ble_eq_true rfl) (fun r2 M1 H locs hp hw hS hz hk => ?_)
    obtain ⟨hrt3, hmt3, hft3⟩ := hp
    rw [hrt3]
    have frt3 := mFr.tr mFr.rf hft3
    have hxt3 : M1 x = some (.inr (8, [.int (rdH (mH w 1)), .ref (ad 1), .ref (ad 2), .ref (ad 3), .ref (ad 4), .ref (ad 5), .ref (ad 6), .ref (ad 7), .ref (ad 8), .ref (ad 9), .ref (ad 10), .ref (ad 11), .ref (ad 12), .ref (ad 13), .int (nI (rdN (mH w 1))), .ref (ad 15)])) := hmt3.1
    rw [show bI (decide ((1 : Int32) = 0)) = 0 from by decide]
    have hC : aWr w nu = 1 := by unfold aWr wOK; rw [decide_eq_true c_2]; rfl
    exact m_zret X (by decide) hK hw hS ⟨by rw [hC]; decide, by rw [hC]; exact hmt3, frt3⟩ (by omega) (by omega) dX7_isWrite_21
  · refine lv_iload_n hx hb dX7_isWrite_5 rfl (lv_at hl 1 rfl) ?_
    refine lv_aload_n hx hb dX7_isWrite_6 rfl (lv_at hl 0 rfl) ?_
    refine m_get X iX7 hK hw hx0 rfl 14 (by decide) (ref := "ObjectMapperModel") (by decide +kernel) (Or.inl rfl) rfl dX7_isWrite_7 ?_
    refine lv_icmp_ge (tgt := 17) hx hb dX7_isWrite_10 (by decide) (fun c_10 => ?_) (fun c_10 => ?_)
    · refine lv_iconst (v := 1) hx hb dX7_isWrite_17 (by decide) ?_
      refine m_callVi X (ci := 8) rfl hx0 hK hw hZ hS hA (As := [.int 1]) (rest := []) (c_holds l G dce _ M x ad w hm 1) (cwV 1 hts gX7_isWrite_X7_holds rfl rfl rfl (by decide +kernel) ⟨Nat.le_of_ble_eq_true rfl, Nat.le_of_ble_eq_true rfl⟩) rfl hl.1 rfl (Nat.le_of_ble_eq_true rfl) dX7_isWrite_18 (Nat.le_of_ble_eq_true rfl) (Nat.le_of_ble_eq_true rfl) (fun r5 M4 H locs hp hw hS hz hk => ?_)
      obtain ⟨hrt6, hmt6, hft6⟩ := hp
      rw [hrt6]
      have frt6 := mFr.tr mFr.rf hft6
      have hxt6 : M4 x = some (.inr (8, [.int (rdH (mH w 1)), .ref (ad 1), .ref (ad 2), .ref (ad 3), .ref (ad 4), .ref (ad 5), .ref (ad 6), .ref (ad 7), .ref (ad 8), .ref (ad 9), .ref (ad 10), .ref (ad 11), .ref (ad 12), .ref (ad 13), .int (nI (rdN (mH w 1))), .ref (ad 15)])) := hmt6.1
      rw [show bI (decide ((1 : Int32) = 0)) = 0 from by decide]
      have hC : aWr w nu = 1 := by unfold aWr wOK; rw [decide_eq_false c_2, decide_eq_true c_10]; rfl
      exact m_zret X (by decide) hK hw hS ⟨by rw [hC]; decide, by rw [hC]; exact hmt6, frt6⟩ (by omega) (by omega) dX7_isWrite_21
    · refine lv_iconst (v := 0) hx hb dX7_isWrite_13 (by decide) ?_
      refine lv_goto (tgt := 18) hx hb dX7_isWrite_14 (by decide) ?_
      refine m_callVi X (ci := 8) rfl hx0 hK hw hZ hS hA (As := [.int 0]) (rest := []) (c_holds l G dce _ M x ad w hm 0) (cwV 1 hts gX7_isWrite_X7_holds rfl rfl rfl (by decide +kernel) ⟨Nat.le_of_ble_eq_true rfl, Nat.le_of_ble_eq_true rfl⟩) rfl hl.1 rfl (Nat.le_of_ble_eq_true rfl) dX7_isWrite_18 (Nat.le_of_ble_eq_true rfl) (Nat.le_of_ble_eq_true rfl) (fun r8 M7 H locs hp hw hS hz hk => ?_)
      obtain ⟨hrt9, hmt9, hft9⟩ := hp
      rw [hrt9]
      have frt9 := mFr.tr mFr.rf hft9
      have hxt9 : M7 x = some (.inr (8, [.int (rdH (mH w 0)), .ref (ad 1), .ref (ad 2), .ref (ad 3), .ref (ad 4), .ref (ad 5), .ref (ad 6), .ref (ad 7), .ref (ad 8), .ref (ad 9), .ref (ad 10), .ref (ad 11), .ref (ad 12), .ref (ad 13), .int (nI (rdN (mH w 0))), .ref (ad 15)])) := hmt9.1
      rw [show bI (decide ((0 : Int32) = 0)) = 1 from by decide]
      have hC : aWr w nu = 0 := by unfold aWr wOK; rw [decide_eq_false c_2, decide_eq_false c_10]; rfl
      exact m_zret X (by decide) hK hw hS ⟨by rw [hC]; decide, by rw [hC]; exact hmt9, frt9⟩ (by omega) (by omega) dX7_isWrite_21
theorem aWr_0 {w : mW} {nu : Int32} (hN : rdN w < 2 ^ 31) (h : aWr w nu = 0) : ∃ n : Nat, n < rdN w ∧ nu = nI n := by
  unfold aWr at h
  split at h
  · rename_i h1
    simp only [wOK, Bool.and_eq_true, Bool.not_eq_true', decide_eq_false_iff_not] at h1
    obtain ⟨n, h2, h3⟩ := nI_of h1.1
    refine ⟨n, Nat.lt_of_not_le (fun q => h1.2 ?_), h3⟩
    rw [h3]
    exact nI_le q h2
  · exact absurd h (by decide)
set_option maxHeartbeats 4000000 in
set_option maxRecDepth 100000 in
theorem c_mWrite (l : Launch) (G : gG) (dce sz : Nat) (M : gM) (x : Nat) (ad : Nat → Nat) (w : mW) (hm : MW G M x ad w) (nu : Int32) (hN : rdN w < 2 ^ 31) : mI l yX7_write wsX7_write ({ frames := 2, cells := 0, slots := 0, locals := 42 }) G dce sz M [.ref x, .int nu] (fun r M' => mFr x ad M M' ∧ (((aWr w nu) = 0 ∧ ∃ n, n < rdN w ∧ nu = nI n ∧ r = rdT w 15 (n % 16384) / 4096 ∧ MW G M' x ad (mH w 0)) ∨ ((aWr w nu) ≠ 0 ∧ MW G M' x ad (mH w (aWr w nu))))) (0) (0) := by
  have hx0 : M x = some (.inr (8, [.int (rdH w), .ref (ad 1), .ref (ad 2), .ref (ad 3), .ref (ad 4), .ref (ad 5), .ref (ad 6), .ref (ad 7), .ref (ad 8), .ref (ad 9), .ref (ad 10), .ref (ad 11), .ref (ad 12), .ref (ad 13), .int (nI (rdN w)), .ref (ad 15)])) := hm.1
  refine wMet (Qc := QI G _) (cc := cX7_write) (maxL := 2) (ret := (some .int)) (by decide) rfl (Nat.le_of_ble_eq_true rfl) ?_
  intro p e s m below meth c A ls X hnm hw hK hZ hA hS hsz eA hl
  obtain ⟨hx, hb, hr, hts, hown, hlk, hml⟩ := id X
  have hl : lv_has ls 2 [(0, .ref x), (1, .int nu)] := hl
  have iX7 : ∀ w ∈ wsX70, w ∈ wsX7_write := by decide +kernel
  refine lv_aload_n hx hb dX7_write_0 rfl (lv_at hl 0 rfl) ?_
  refine lv_iload_n hx hb dX7_write_1 rfl (lv_at hl 1 rfl) ?_
  refine m_callVi X (ci := 8) rfl hx0 hK hw hZ hS hA (As := [.int nu]) (rest := []) (c_isWrite l G dce _ M x ad w hm nu) (cwV 1 hts gX7_write_X7_isWrite rfl rfl rfl (by decide +kernel) ⟨Nat.le_of_ble_eq_true rfl, Nat.le_of_ble_eq_true rfl⟩) rfl hl.1 rfl (Nat.le_of_ble_eq_true rfl) dX7_write_2 (Nat.le_of_ble_eq_true rfl) (Nat.le_of_ble_eq_true rfl) (fun r2 M1 H locs hp hw hS hz hk => ?_)
  obtain ⟨hrt3, hmt3, hft3⟩ := hp
  rw [hrt3]
  have frt3 := mFr.tr mFr.rf hft3
  have hxt3 : M1 x = some (.inr (8, [.int (rdH (mH w (aWr w nu))), .ref (ad 1), .ref (ad 2), .ref (ad 3), .ref (ad 4), .ref (ad 5), .ref (ad 6), .ref (ad 7), .ref (ad 8), .ref (ad 9), .ref (ad 10), .ref (ad 11), .ref (ad 12), .ref (ad 13), .int (nI (rdN (mH w (aWr w nu)))), .ref (ad 15)])) := hmt3.1
  refine lv_if_eq (tgt := 25) hx hb dX7_write_5 (by decide) (fun c_5 => ?_) (fun c_5 => ?_)
  · refine lv_iconst (v := 0) hx hb dX7_write_25 (by decide) ?_
    exact m_iret X hK hw hS ⟨frt3, Or.inr ⟨of_decide_eq_false (((bI_0 _).mp c_5)), hmt3⟩⟩ (by omega) (by omega) dX7_write_26
  · have h0 : aWr w nu = 0 := of_decide_eq_true (bI_t c_5)
    obtain ⟨n, hnk, en⟩ := aWr_0 hN h0
    have hm0 : MW G M1 x ad (mH w 0) := by have h9 := hmt3; rw [h0] at h9; exact h9
    have hxo0 : M1 x = some (.inr (8, [.int (rdH (mH w 0)), .ref (ad 1), .ref (ad 2), .ref (ad 3), .ref (ad 4), .ref (ad 5), .ref (ad 6), .ref (ad 7), .ref (ad 8), .ref (ad 9), .ref (ad 10), .ref (ad 11), .ref (ad 12), .ref (ad 13), .int (nI (rdN (mH w 0))), .ref (ad 15)])) := hm0.1
    refine lv_aload_n hx hb dX7_write_8 rfl (lv_at hl 0 rfl) ?_
    refine m_get X iX7 hK hw hxo0 rfl 15 (by decide) (ref := "ObjectMapperModel") (by decide +kernel) (Or.inl rfl) rfl dX7_write_9 ?_
    refine lv_iload_n hx hb dX7_write_12 rfl (lv_at hl 1 rfl) ?_
    refine lv_sipush (v := 16384) hx hb dX7_write_13 (by decide) ?_
    refine lv_irem hx hb dX7_write_16 (by decide) ?_
    rw [show nu - nu / (16384 : Int32) * (16384 : Int32) = nI (n % 16384) from by rw [en]; exact pk_rem (a := n) (d := 16384) (by omega) (by decide) (by decide)]
    have ix4 : ((nI (n % 16384)) : Int32) = nI (n % 16384) := rfl
    have ix4b : (n % 16384) < 16384 := (Nat.mod_lt _ (by decide))
    refine m_iald X hK hw (hm0.a15) (i := (nI (n % 16384))) (by rw [ix4]; exact vp_in_nI ix4b (by decide)) dX7_write_17 ?_
    rw [show ((nI (n % 16384)) : Int32).toNatClampNeg = (n % 16384) from by rw [ix4]; exact nI_clamp (by omega)]
    refine lv_sipush (v := 4096) hx hb dX7_write_18 (by decide) ?_
    refine lv_idiv hx hb dX7_write_21 (by decide) ?_
    refine lv_goto (tgt := 26) hx hb dX7_write_22 (by decide) ?_
    exact m_iret X hK hw hS ⟨frt3, Or.inl ⟨h0, n, hnk, en, rfl, hm0⟩⟩ (by omega) (by omega) dX7_write_26
set_option maxHeartbeats 4000000 in
set_option maxRecDepth 100000 in
theorem c_mWritten (l : Launch) (G : gG) (dce sz : Nat) (M : gM) (x : Nat) (ad : Nat → Nat) (w : mW) (hm : MW G M x ad w) (nu : Int32) (hN : rdN w < 2 ^ 31) : mI l yX7_written wsX7_written ({ frames := 2, cells := 0, slots := 0, locals := 42 }) G dce sz M [.ref x, .int nu] (fun r M' => mFr x ad M M' ∧ (((aWr w nu) = 0 ∧ ∃ n, n < rdN w ∧ nu = nI n ∧ r = rdT w 15 (n % 16384) - rdT w 15 (n % 16384) / 4096 * 4096 ∧ MW G M' x ad (mH w 0)) ∨ ((aWr w nu) ≠ 0 ∧ MW G M' x ad (mH w (aWr w nu))))) (0) (0) := by
  have hx0 : M x = some (.inr (8, [.int (rdH w), .ref (ad 1), .ref (ad 2), .ref (ad 3), .ref (ad 4), .ref (ad 5), .ref (ad 6), .ref (ad 7), .ref (ad 8), .ref (ad 9), .ref (ad 10), .ref (ad 11), .ref (ad 12), .ref (ad 13), .int (nI (rdN w)), .ref (ad 15)])) := hm.1
  refine wMet (Qc := QI G _) (cc := cX7_written) (maxL := 2) (ret := (some .int)) (by decide) rfl (Nat.le_of_ble_eq_true rfl) ?_
  intro p e s m below meth c A ls X hnm hw hK hZ hA hS hsz eA hl
  obtain ⟨hx, hb, hr, hts, hown, hlk, hml⟩ := id X
  have hl : lv_has ls 2 [(0, .ref x), (1, .int nu)] := hl
  have iX7 : ∀ w ∈ wsX70, w ∈ wsX7_written := by decide +kernel
  refine lv_aload_n hx hb dX7_written_0 rfl (lv_at hl 0 rfl) ?_
  refine lv_iload_n hx hb dX7_written_1 rfl (lv_at hl 1 rfl) ?_
  refine m_callVi X (ci := 8) rfl hx0 hK hw hZ hS hA (As := [.int nu]) (rest := []) (c_isWrite l G dce _ M x ad w hm nu) (cwV 1 hts gX7_written_X7_isWrite rfl rfl rfl (by decide +kernel) ⟨Nat.le_of_ble_eq_true rfl, Nat.le_of_ble_eq_true rfl⟩) rfl hl.1 rfl (Nat.le_of_ble_eq_true rfl) dX7_written_2 (Nat.le_of_ble_eq_true rfl) (Nat.le_of_ble_eq_true rfl) (fun r2 M1 H locs hp hw hS hz hk => ?_)
  obtain ⟨hrt3, hmt3, hft3⟩ := hp
  rw [hrt3]
  have frt3 := mFr.tr mFr.rf hft3
  have hxt3 : M1 x = some (.inr (8, [.int (rdH (mH w (aWr w nu))), .ref (ad 1), .ref (ad 2), .ref (ad 3), .ref (ad 4), .ref (ad 5), .ref (ad 6), .ref (ad 7), .ref (ad 8), .ref (ad 9), .ref (ad 10), .ref (ad 11), .ref (ad 12), .ref (ad 13), .int (nI (rdN (mH w (aWr w nu)))), .ref (ad 15)])) := hmt3.1
  refine lv_if_eq (tgt := 25) hx hb dX7_written_5 (by decide) (fun c_5 => ?_) (fun c_5 => ?_)
  · refine lv_iconst (v := 0) hx hb dX7_written_25 (by decide) ?_
    exact m_iret X hK hw hS ⟨frt3, Or.inr ⟨of_decide_eq_false (((bI_0 _).mp c_5)), hmt3⟩⟩ (by omega) (by omega) dX7_written_26
  · have h0 : aWr w nu = 0 := of_decide_eq_true (bI_t c_5)
    obtain ⟨n, hnk, en⟩ := aWr_0 hN h0
    have hm0 : MW G M1 x ad (mH w 0) := by have h9 := hmt3; rw [h0] at h9; exact h9
    have hxo0 : M1 x = some (.inr (8, [.int (rdH (mH w 0)), .ref (ad 1), .ref (ad 2), .ref (ad 3), .ref (ad 4), .ref (ad 5), .ref (ad 6), .ref (ad 7), .ref (ad 8), .ref (ad 9), .ref (ad 10), .ref (ad 11), .ref (ad 12), .ref (ad 13), .int (nI (rdN (mH w 0))), .ref (ad 15)])) := hm0.1
    refine lv_aload_n hx hb dX7_written_8 rfl (lv_at hl 0 rfl) ?_
    refine m_get X iX7 hK hw hxo0 rfl 15 (by decide) (ref := "ObjectMapperModel") (by decide +kernel) (Or.inl rfl) rfl dX7_written_9 ?_
    refine lv_iload_n hx hb dX7_written_12 rfl (lv_at hl 1 rfl) ?_
    refine lv_sipush (v := 16384) hx hb dX7_written_13 (by decide) ?_
    refine lv_irem hx hb dX7_written_16 (by decide) ?_
    rw [show nu - nu / (16384 : Int32) * (16384 : Int32) = nI (n % 16384) from by rw [en]; exact pk_rem (a := n) (d := 16384) (by omega) (by decide) (by decide)]
    have ix4 : ((nI (n % 16384)) : Int32) = nI (n % 16384) := rfl
    have ix4b : (n % 16384) < 16384 := (Nat.mod_lt _ (by decide))
    refine m_iald X hK hw (hm0.a15) (i := (nI (n % 16384))) (by rw [ix4]; exact vp_in_nI ix4b (by decide)) dX7_written_17 ?_
    rw [show ((nI (n % 16384)) : Int32).toNatClampNeg = (n % 16384) from by rw [ix4]; exact nI_clamp (by omega)]
    refine lv_sipush (v := 4096) hx hb dX7_written_18 (by decide) ?_
    refine lv_irem hx hb dX7_written_21 (by decide) ?_
    refine lv_goto (tgt := 26) hx hb dX7_written_22 (by decide) ?_
    exact m_iret X hK hw hS ⟨frt3, Or.inl ⟨h0, n, hnk, en, rfl, hm0⟩⟩ (by omega) (by omega) dX7_written_26
set_option maxHeartbeats 4000000 in
set_option maxRecDepth 100000 in
theorem c_mRows (l : Launch) (G : gG) (dce sz : Nat) (M : gM) (x : Nat) (ad : Nat → Nat) (w : mW) (hm : MW G M x ad w) (kd : Int32) : mI l yX7_rows wsX7_rows ({ frames := 2, cells := 0, slots := 0, locals := 44 }) G dce sz M [.ref x, .int kd] (fun r M' => mFr x ad M M' ∧ (((aKi kd) = 0 ∧ ∃ k, aK kd k ∧ r = nI (cnt (fun j => mHr (mH w 0) k (nI j)) (rdK w k)) ∧ MW G M' x ad (mH w 0)) ∨ ((aKi kd) ≠ 0 ∧ MW G M' x ad (mH w (aKi kd))))) (0) (0) := by
  have hx0 : M x = some (.inr (8, [.int (rdH w), .ref (ad 1), .ref (ad 2), .ref (ad 3), .ref (ad 4), .ref (ad 5), .ref (ad 6), .ref (ad 7), .ref (ad 8), .ref (ad 9), .ref (ad 10), .ref (ad 11), .ref (ad 12), .ref (ad 13), .int (nI (rdN w)), .ref (ad 15)])) := hm.1
  refine wMet (Qc := QI G _) (cc := cX7_rows) (maxL := 4) (ret := (some .int)) (by decide) rfl (Nat.le_of_ble_eq_true rfl) ?_
  intro p e s m below meth c A ls X hnm hw hK hZ hA hS hsz eA hl
  obtain ⟨hx, hb, hr, hts, hown, hlk, hml⟩ := id X
  have hl : lv_has ls 4 [(0, .ref x), (1, .int kd)] := hl
  have iX7 : ∀ w ∈ wsX70, w ∈ wsX7_rows := by decide +kernel
  refine lv_aload_n hx hb dX7_rows_0 rfl (lv_at hl 0 rfl) ?_
  refine lv_iload_n hx hb dX7_rows_1 rfl (lv_at hl 1 rfl) ?_
  refine m_callSi X hK hw hZ hS hA (As := [.int kd]) (rest := [.ref x]) (c_X7_isKind l G dce _ M kd) (va_cwS 1 hts gX7_rows_X7_isKind rfl rfl rfl (by decide +kernel) ⟨Nat.le_of_ble_eq_true rfl, Nat.le_of_ble_eq_true rfl⟩) rfl hl.1 rfl (Nat.le_of_ble_eq_true rfl) dX7_rows_2 (Nat.le_of_ble_eq_true rfl) (Nat.le_of_ble_eq_true rfl) (fun r2 M1 H locs hp hw hS hz hk => ?_)
  rw [hp.2] at hw
  rw [hp.1]
  refine lv_if_eq (tgt := 12) hx hb dX7_rows_5 (by decide) (fun c_5 => ?_) (fun c_5 => ?_)
  · refine lv_iconst (v := 1) hx hb dX7_rows_12 (by decide) ?_
    refine m_callVi X (ci := 8) rfl hx0 hK hw hZ hS hA (As := [.int 1]) (rest := []) (c_holds l G dce _ M x ad w hm 1) (cwV 1 hts gX7_rows_X7_holds rfl rfl rfl (by decide +kernel) ⟨Nat.le_of_ble_eq_true rfl, Nat.le_of_ble_eq_true rfl⟩) rfl hl.1 rfl (Nat.le_of_ble_eq_true rfl) dX7_rows_13 (Nat.le_of_ble_eq_true rfl) (Nat.le_of_ble_eq_true rfl) (fun r4 M3 H locs hp hw hS hz hk => ?_)
    obtain ⟨hrt5, hmt5, hft5⟩ := hp
    rw [hrt5]
    have frt5 := mFr.tr mFr.rf hft5
    have hxt5 : M3 x = some (.inr (8, [.int (rdH (mH w 1)), .ref (ad 1), .ref (ad 2), .ref (ad 3), .ref (ad 4), .ref (ad 5), .ref (ad 6), .ref (ad 7), .ref (ad 8), .ref (ad 9), .ref (ad 10), .ref (ad 11), .ref (ad 12), .ref (ad 13), .int (nI (rdN (mH w 1))), .ref (ad 15)])) := hmt5.1
    rw [show bI (decide ((1 : Int32) = 0)) = 0 from by decide]
    refine lv_if_ne (tgt := 21) hx hb dX7_rows_16 (by decide) (fun c_16 => absurd (by decide) c_16) (fun _ => ?_)
    refine lv_iconst (v := 0) hx hb dX7_rows_19 (by decide) ?_
    have hC : aKi kd = 1 := by simp [aKi, ((bI_0 _).mp c_5)]
    exact m_iret X hK hw hS ⟨frt5, Or.inr ⟨by rw [hC]; decide, by rw [hC]; exact hmt5⟩⟩ (by omega) (by omega) dX7_rows_20
  · obtain ⟨k, hk2, ek⟩ := kOK_k (bI_t c_5)
    have kd9 : kd.toNatClampNeg = k := by rw [ek]; exact nI_clamp (by omega)
    refine lv_iconst (v := 0) hx hb dX7_rows_8 (by decide) ?_
    refine lv_goto (tgt := 13) hx hb dX7_rows_9 (by decide) ?_
    refine m_callVi X (ci := 8) rfl hx0 hK hw hZ hS hA (As := [.int 0]) (rest := []) (c_holds l G dce _ M x ad w hm 0) (cwV 1 hts gX7_rows_X7_holds rfl rfl rfl (by decide +kernel) ⟨Nat.le_of_ble_eq_true rfl, Nat.le_of_ble_eq_true rfl⟩) rfl hl.1 rfl (Nat.le_of_ble_eq_true rfl) dX7_rows_13 (Nat.le_of_ble_eq_true rfl) (Nat.le_of_ble_eq_true rfl) (fun r7 M6 H locs hp hw hS hz hk => ?_)
    obtain ⟨hrt8, hmt8, hft8⟩ := hp
    rw [hrt8]
    have frt8 := mFr.tr mFr.rf hft8
    have hxt8 : M6 x = some (.inr (8, [.int (rdH (mH w 0)), .ref (ad 1), .ref (ad 2), .ref (ad 3), .ref (ad 4), .ref (ad 5), .ref (ad 6), .ref (ad 7), .ref (ad 8), .ref (ad 9), .ref (ad 10), .ref (ad 11), .ref (ad 12), .ref (ad 13), .int (nI (rdN (mH w 0))), .ref (ad 15)])) := hmt8.1
    rw [show bI (decide ((0 : Int32) = 0)) = 1 from by decide]
    refine lv_if_ne (tgt := 21) hx hb dX7_rows_16 (by decide) (fun _ => ?_) (fun c_16 => absurd c_16 (by decide))
    have hC : aKi kd = 0 := by simp [aKi, (bI_t c_5), kd9]
    refine lv_iconst (v := 0) hx hb dX7_rows_21 (by decide) ?_
    refine lv_istore_n (lv' := [(2, .int (nI (0 + cnt (fun j => mHr (mH w 0) k (nI j)) 0))), (0, .ref x), (1, .int kd)]) hx hb dX7_rows_22 rfl hl (by decide) rfl (fun ls hl => ?_)
    refine lv_iconst (v := 0) hx hb dX7_rows_23 (by decide) ?_
    refine lv_istore_n (lv' := [(3, .int (nI 0)), (2, .int (nI (0 + cnt (fun j => mHr (mH w 0) k (nI j)) 0))), (0, .ref x), (1, .int kd)]) hx hb dX7_rows_24 rfl hl (by decide) rfl (fun ls hl => ?_)
    have loopa : ∀ (d : Nat) (ja : Nat) (H : Heap) (locs : List Loc) (ls : Array Slot), ja ≤ rdK (mH w 0) k → rdK (mH w 0) k + 1 ≤ ja + d → wd G A M6 H → va_S A s.heap H locs → lv_has ls 4 [(3, .int (nI ja)), (2, .int (nI (0 + cnt (fun j => mHr (mH w 0) k (nI j)) ja))), (0, .ref x), (1, .int kd)] → W p l e ({ frames := 2, cells := 0, slots := 0, locals := 44 }) s m [.ref x, .int kd].toArray below meth c H locs (0) (0) (MQ below (QI G (fun r M' => mFr x ad M M' ∧ (((aKi kd) = 0 ∧ ∃ k, aK kd k ∧ r = nI (cnt (fun j => mHr (mH w 0) k (nI j)) (rdK w k)) ∧ MW G M' x ad (mH w 0)) ∨ ((aKi kd) ≠ 0 ∧ MW G M' x ad (mH w (aKi kd))))) A) [.ref x, .int kd].toArray s (0) (0) A) (F0 m 25 ls []) := by
      intro d
      induction d with
      | zero => intro ja H locs ls h1 h2; exact absurd h2 (by omega)
      | succ d ih =>
        intro ja H locs ls hja1 hja2 hw hS hl
        have hba : rdK (mH w 0) k ≤ 1024 := hmt8.kb hk2
        refine lv_iload_n hx hb dX7_rows_25 rfl (lv_at hl 0 rfl) ?_
        refine lv_aload_n hx hb dX7_rows_26 rfl (lv_at hl 2 rfl) ?_
        refine m_get X iX7 hK hw hxt8 rfl 1 (by decide) (ref := "ObjectMapperModel") (by decide +kernel) (Or.inl rfl) rfl dX7_rows_27 ?_
        refine lv_iload_n hx hb dX7_rows_30 rfl (lv_at hl 3 rfl) ?_
        have ix9 : (kd : Int32) = nI k := ek
        have ix9b : k < 2 := hk2
        refine m_iald X hK hw (hmt8.a1) (i := kd) (by rw [ix9]; exact vp_in_nI ix9b (by decide)) dX7_rows_31 ?_
        rw [show (kd : Int32).toNatClampNeg = k from by rw [ix9]; exact nI_clamp (by omega)]
        refine lv_icmp_ge (tgt := 58) hx hb dX7_rows_32 (by decide) (fun c_32 => ?_) (fun c_32 => ?_)
        · have hkna : rdK (mH w 0) k ≤ ja := (nI_leI (by omega) (by omega)).mp c_32
          have hjja : ja = rdK (mH w 0) k := by omega
          refine lv_iload_n hx hb dX7_rows_58 rfl (lv_at hl 1 rfl) ?_
          exact m_iret X hK hw hS ⟨frt8, Or.inl ⟨hC, k, ⟨hk2, ek⟩, by rw [hjja, Nat.zero_add]; rfl, hmt8⟩⟩ (by omega) (by omega) dX7_rows_59
        · have hkla : ja < rdK (mH w 0) k := Nat.lt_of_not_le (fun q => c_32 (nI_le q (by omega)))
          have hj9a : ja < 1024 := by omega
          have hkwa : ja < rdK (mH w 0) k := hkla
          refine lv_iload_n hx hb dX7_rows_35 rfl (lv_at hl 1 rfl) ?_
          have jn36_q10 : ∀ (v : Int32) (H : Heap) (locs : List Loc), v = bI ((fun j => mHr (mH w 0) k (nI j)) ja) → wd G A M6 H → va_S A s.heap H locs → W p l e ({ frames := 2, cells := 0, slots := 0, locals := 44 }) s m [.ref x, .int kd].toArray below meth c H locs (0) (0) (MQ below (QI G (fun r M' => mFr x ad M M' ∧ (((aKi kd) = 0 ∧ ∃ k, aK kd k ∧ r = nI (cnt (fun j => mHr (mH w 0) k (nI j)) (rdK w k)) ∧ MW G M' x ad (mH w 0)) ∨ ((aKi kd) ≠ 0 ∧ MW G M' x ad (mH w (aKi kd))))) A) [.ref x, .int kd].toArray s (0) (0) A) (F0 m 50 ls [(.int v), .int (nI (0 + cnt (fun j => mHr (mH w 0) k (nI j)) ja))]) := by
            intro v H locs hv9 hw hS
            rw [hv9]
            refine lv_iadd hx hb dX7_rows_50 ?_
            rw [show nI (0 + cnt (fun j => mHr (mH w 0) k (nI j)) ja) + bI ((fun j => mHr (mH w 0) k (nI j)) ja) = nI (0 + cnt (fun j => mHr (mH w 0) k (nI j)) (ja + 1)) from cnt_p]
            refine lv_istore_n (lv' := [(2, .int (nI (0 + cnt (fun j => mHr (mH w 0) k (nI j)) (ja + 1)))), (3, .int (nI ja)), (0, .ref x), (1, .int kd)]) hx hb dX7_rows_51 rfl hl (by decide) rfl (fun ls hl => ?_)
            refine lv_iinc (v := (nI (ja + 1))) (lv' := [(3, .int (nI (ja + 1))), (2, .int (nI (0 + cnt (fun j => mHr (mH w 0) k (nI j)) (ja + 1)))), (0, .ref x), (1, .int kd)]) hx hb dX7_rows_52 hl (k := 1) rfl (nI_1 _) (by decide) rfl (fun ls hl => ?_)
            refine lv_goto (tgt := 25) hx hb dX7_rows_55 (by decide) ?_
            exact ih (ja + 1) H locs ls (by omega) (by omega) hw hS (lv_sub hl [0, 1, 2, 3] rfl)
          refine lv_aload_n hx hb dX7_rows_36 rfl (lv_at hl 2 rfl) ?_
          refine lv_iload_n hx hb dX7_rows_37 rfl (lv_at hl 3 rfl) ?_
          refine lv_iload_n hx hb dX7_rows_38 rfl (lv_at hl 0 rfl) ?_
          refine m_callVi X (ci := 8) rfl hxt8 hK hw hZ hS hA (As := [.int kd, .int (nI ja)]) (rest := [.int (nI (0 + cnt (fun j => mHr (mH w 0) k (nI j)) ja))]) (c_hasRowK l G dce _ M6 x ad (mH w 0) hmt8 k hk2 (nI ja) kd ek) (cwV 2 hts gX7_rows_X7_hasRow rfl rfl rfl (by decide +kernel) ⟨Nat.le_of_ble_eq_true rfl, Nat.le_of_ble_eq_true rfl⟩) rfl hl.1 rfl (Nat.le_of_ble_eq_true rfl) dX7_rows_39 (Nat.le_of_ble_eq_true rfl) (Nat.le_of_ble_eq_true rfl) (fun r12 M11 H locs hp hw hS hz hk => ?_)
          rw [hp.2] at hw
          rw [hp.1]
          refine lv_if_eq (tgt := 49) hx hb dX7_rows_42 (by decide) (fun c_42 => ?_) (fun c_42 => ?_)
          · refine lv_iconst (v := 0) hx hb dX7_rows_49 (by decide) ?_
            exact jn36_q10 _ _ _ (by simp [bI, ((bI_0 _).mp c_42)]) hw hS
          · refine lv_iconst (v := 1) hx hb dX7_rows_45 (by decide) ?_
            refine lv_goto (tgt := 50) hx hb dX7_rows_46 (by decide) ?_
            exact jn36_q10 _ _ _ (by simp [bI, (bI_t c_42)]) hw hS
    exact loopa (rdK (mH w 0) k + 1) 0 _ _ ls (Nat.zero_le _) (Nat.le_of_eq (Nat.zero_add _).symm) hw hS (lv_sub hl [0, 1, 2, 3] rfl)
theorem c_isDirtyK (l : Launch) (G : gG) (dce sz : Nat) (M : gM) (x : Nat) (ad : Nat → Nat) (w : mW) (hm : MW G M x ad w) (i k j : Nat) (hi : i < 3) (hk2 : k < 2) (hj2 : j < 1024) (si : Int32) (hsi : si = nI i) (kd : Int32) (hkd : kd = nI k) : mI l yX7_isDirty wsX7_isDirty ({ frames := 2, cells := 0, slots := 0, locals := 45 }) G dce sz M [.ref x, .int si, .int kd, .int (nI j)] (fun r M' => r = bI (mDr w i k j) ∧ M' = M) (0) (0) := by
  subst hsi
  subst hkd
  exact c_isDirty l G dce sz M x ad w hm i k j hi hk2 hj2
theorem c_isMadeK (l : Launch) (G : gG) (dce sz : Nat) (M : gM) (x : Nat) (ad : Nat → Nat) (w : mW) (hm : MW G M x ad w) (i k j : Nat) (hi : i < 3) (hk2 : k < 2) (hj2 : j < 1024) (si : Int32) (hsi : si = nI i) (kd : Int32) (hkd : kd = nI k) : mI l yX7_isMade wsX7_isMade ({ frames := 1, cells := 0, slots := 0, locals := 22 }) G dce sz M [.ref x, .int si, .int kd, .int (nI j)] (fun r M' => r = bI (mMd w i k j) ∧ M' = M) (0) (0) := by
  subst hsi
  subst hkd
  exact c_isMade l G dce sz M x ad w hm i k j hi hk2 hj2
theorem c_isGoneK (l : Launch) (G : gG) (dce sz : Nat) (M : gM) (x : Nat) (ad : Nat → Nat) (w : mW) (hm : MW G M x ad w) (i k j : Nat) (hi : i < 3) (hk2 : k < 2) (hj2 : j < 1024) (si : Int32) (hsi : si = nI i) (kd : Int32) (hkd : kd = nI k) : mI l yX7_isGone wsX7_isGone ({ frames := 1, cells := 0, slots := 0, locals := 22 }) G dce sz M [.ref x, .int si, .int kd, .int (nI j)] (fun r M' => r = bI (mGn w i k j) ∧ M' = M) (0) (0) := by
  subst hsi
  subst hkd
  exact c_isGone l G dce sz M x ad w hm i k j hi hk2 hj2
set_option maxHeartbeats 4000000 in
set_option maxRecDepth 100000 in
theorem c_mDirty (l : Launch) (G : gG) (dce sz : Nat) (M : gM) (x : Nat) (ad : Nat → Nat) (w : mW) (hm : MW G M x ad w) (si : Int32) : mI l yX7_dirty wsX7_dirty ({ frames := 3, cells := 0, slots := 0, locals := 69 }) G dce sz M [.ref x, .int si] (fun r M' => mFr x ad M M' ∧ (((aSe si) = 0 ∧ ∃ i, aS si i ∧ r = nI (cnt (fun j => mDr (mH w 0) i 0 j) (rdK w 0) + cnt (fun j => mDr (mH w 0) i 1 j) (rdK w 1)) ∧ MW G M' x ad (mH w 0)) ∨ ((aSe si) ≠ 0 ∧ MW G M' x ad (mH w (aSe si))))) (0) (0) := by
  have hx0 : M x = some (.inr (8, [.int (rdH w), .ref (ad 1), .ref (ad 2), .ref (ad 3), .ref (ad 4), .ref (ad 5), .ref (ad 6), .ref (ad 7), .ref (ad 8), .ref (ad 9), .ref (ad 10), .ref (ad 11), .ref (ad 12), .ref (ad 13), .int (nI (rdN w)), .ref (ad 15)])) := hm.1
  refine wMet (Qc := QI G _) (cc := cX7_dirty) (maxL := 5) (ret := (some .int)) (by decide) rfl (Nat.le_of_ble_eq_true rfl) ?_
  intro p e s m below meth c A ls X hnm hw hK hZ hA hS hsz eA hl
  obtain ⟨hx, hb, hr, hts, hown, hlk, hml⟩ := id X
  have hl : lv_has ls 5 [(0, .ref x), (1, .int si)] := hl
  have iX7 : ∀ w ∈ wsX70, w ∈ wsX7_dirty := by decide +kernel
  refine lv_aload_n hx hb dX7_dirty_0 rfl (lv_at hl 0 rfl) ?_
  refine lv_iload_n hx hb dX7_dirty_1 rfl (lv_at hl 1 rfl) ?_
  refine m_callSi X hK hw hZ hS hA (As := [.int si]) (rest := [.ref x]) (c_X7_isSession l G dce _ M si) (va_cwS 1 hts gX7_dirty_X7_isSession rfl rfl rfl (by decide +kernel) ⟨Nat.le_of_ble_eq_true rfl, Nat.le_of_ble_eq_true rfl⟩) rfl hl.1 rfl (Nat.le_of_ble_eq_true rfl) dX7_dirty_2 (Nat.le_of_ble_eq_true rfl) (Nat.le_of_ble_eq_true rfl) (fun r2 M1 H locs hp hw hS hz hk => ?_)
  rw [hp.2] at hw
  rw [hp.1]
  refine lv_if_eq (tgt := 12) hx hb dX7_dirty_5 (by decide) (fun c_5 => ?_) (fun c_5 => ?_)
  · refine lv_iconst (v := 1) hx hb dX7_dirty_12 (by decide) ?_
    refine m_callVi X (ci := 8) rfl hx0 hK hw hZ hS hA (As := [.int 1]) (rest := []) (c_holds l G dce _ M x ad w hm 1) (cwV 1 hts gX7_dirty_X7_holds rfl rfl rfl (by decide +kernel) ⟨Nat.le_of_ble_eq_true rfl, Nat.le_of_ble_eq_true rfl⟩) rfl hl.1 rfl (Nat.le_of_ble_eq_true rfl) dX7_dirty_13 (Nat.le_of_ble_eq_true rfl) (Nat.le_of_ble_eq_true rfl) (fun r4 M3 H locs hp hw hS hz hk => ?_)
    obtain ⟨hrt5, hmt5, hft5⟩ := hp
    rw [hrt5]
    have frt5 := mFr.tr mFr.rf hft5
    have hxt5 : M3 x = some (.inr (8, [.int (rdH (mH w 1)), .ref (ad 1), .ref (ad 2), .ref (ad 3), .ref (ad 4), .ref (ad 5), .ref (ad 6), .ref (ad 7), .ref (ad 8), .ref (ad 9), .ref (ad 10), .ref (ad 11), .ref (ad 12), .ref (ad 13), .int (nI (rdN (mH w 1))), .ref (ad 15)])) := hmt5.1
    rw [show bI (decide ((1 : Int32) = 0)) = 0 from by decide]
    refine lv_if_ne (tgt := 21) hx hb dX7_dirty_16 (by decide) (fun c_16 => absurd (by decide) c_16) (fun _ => ?_)
    refine lv_iconst (v := 0) hx hb dX7_dirty_19 (by decide) ?_
    have hC : aSe si = 1 := by simp [aSe, ((bI_0 _).mp c_5)]
    exact m_iret X hK hw hS ⟨frt5, Or.inr ⟨by rw [hC]; decide, by rw [hC]; exact hmt5⟩⟩ (by omega) (by omega) dX7_dirty_20
  · obtain ⟨i, hi, ei⟩ := sOK_i (bI_t c_5)
    have si9 : si.toNatClampNeg = i := by rw [ei]; exact nI_clamp (by omega)
    refine lv_iconst (v := 0) hx hb dX7_dirty_8 (by decide) ?_
    refine lv_goto (tgt := 13) hx hb dX7_dirty_9 (by decide) ?_
    refine m_callVi X (ci := 8) rfl hx0 hK hw hZ hS hA (As := [.int 0]) (rest := []) (c_holds l G dce _ M x ad w hm 0) (cwV 1 hts gX7_dirty_X7_holds rfl rfl rfl (by decide +kernel) ⟨Nat.le_of_ble_eq_true rfl, Nat.le_of_ble_eq_true rfl⟩) rfl hl.1 rfl (Nat.le_of_ble_eq_true rfl) dX7_dirty_13 (Nat.le_of_ble_eq_true rfl) (Nat.le_of_ble_eq_true rfl) (fun r7 M6 H locs hp hw hS hz hk => ?_)
    obtain ⟨hrt8, hmt8, hft8⟩ := hp
    rw [hrt8]
    have frt8 := mFr.tr mFr.rf hft8
    have hxt8 : M6 x = some (.inr (8, [.int (rdH (mH w 0)), .ref (ad 1), .ref (ad 2), .ref (ad 3), .ref (ad 4), .ref (ad 5), .ref (ad 6), .ref (ad 7), .ref (ad 8), .ref (ad 9), .ref (ad 10), .ref (ad 11), .ref (ad 12), .ref (ad 13), .int (nI (rdN (mH w 0))), .ref (ad 15)])) := hmt8.1
    rw [show bI (decide ((0 : Int32) = 0)) = 1 from by decide]
    refine lv_if_ne (tgt := 21) hx hb dX7_dirty_16 (by decide) (fun _ => ?_) (fun c_16 => absurd c_16 (by decide))
    have hC : aSe si = 0 := by simp [aSe, (bI_t c_5), si9]
    refine lv_iconst (v := 0) hx hb dX7_dirty_21 (by decide) ?_
    refine lv_istore_n (lv' := [(2, .int (nI 0)), (0, .ref x), (1, .int si)]) hx hb dX7_dirty_22 rfl hl (by decide) rfl (fun ls hl => ?_)
    refine lv_iconst (v := 0) hx hb dX7_dirty_23 (by decide) ?_
    refine lv_istore_n (lv' := [(3, .int 0), (2, .int (nI 0)), (0, .ref x), (1, .int si)]) hx hb dX7_dirty_24 rfl hl (by decide) rfl (fun ls hl => ?_)
    refine lv_iload_n hx hb dX7_dirty_25 rfl (lv_at hl 0 rfl) ?_
    refine lv_iconst (v := 1) hx hb dX7_dirty_26 (by decide) ?_
    refine lv_icmp_gt (tgt := 75) hx hb dX7_dirty_27 (by decide) (fun c_27 => absurd c_27 (by decide)) (fun _ => ?_)
    refine lv_iconst (v := 0) hx hb dX7_dirty_30 (by decide) ?_
    refine lv_istore (lv' := [(4, .int (nI 0)), (3, .int 0), (2, .int (nI 0)), (0, .ref x), (1, .int si)]) hx hb dX7_dirty_31 hl (by decide) rfl (fun ls hl => ?_)
    have hl : lv_has ls 5 [(4, .int (nI 0)), (3, .int 0), (2, .int (nI (0 + cnt (fun j => mDr (mH w 0) i 0 j) 0))), (0, .ref x), (1, .int si)] := hl
    have loopa : ∀ (d : Nat) (ja : Nat) (H : Heap) (locs : List Loc) (ls : Array Slot), ja ≤ rdK (mH w 0) 0 → rdK (mH w 0) 0 + 1 ≤ ja + d → wd G A M6 H → va_S A s.heap H locs → lv_has ls 5 [(4, .int (nI ja)), (2, .int (nI (0 + cnt (fun j => mDr (mH w 0) i 0 j) ja))), (0, .ref x), (1, .int si), (3, .int 0)] → W p l e ({ frames := 3, cells := 0, slots := 0, locals := 69 }) s m [.ref x, .int si].toArray below meth c H locs (0) (0) (MQ below (QI G (fun r M' => mFr x ad M M' ∧ (((aSe si) = 0 ∧ ∃ i, aS si i ∧ r = nI (cnt (fun j => mDr (mH w 0) i 0 j) (rdK w 0) + cnt (fun j => mDr (mH w 0) i 1 j) (rdK w 1)) ∧ MW G M' x ad (mH w 0)) ∨ ((aSe si) ≠ 0 ∧ MW G M' x ad (mH w (aSe si))))) A) [.ref x, .int si].toArray s (0) (0) A) (F0 m 33 ls []) := by
      intro d
      induction d with
      | zero => intro ja H locs ls h1 h2; exact absurd h2 (by omega)
      | succ d ih =>
        intro ja H locs ls hja1 hja2 hw hS hl
        have hba : rdK (mH w 0) 0 ≤ 1024 := hmt8.kb (by decide)
        refine lv_iload hx hb dX7_dirty_33 (lv_at hl 0 rfl) ?_
        refine lv_aload_n hx hb dX7_dirty_35 rfl (lv_at hl 2 rfl) ?_
        refine m_get X iX7 hK hw hxt8 rfl 1 (by decide) (ref := "ObjectMapperModel") (by decide +kernel) (Or.inl rfl) rfl dX7_dirty_36 ?_
        refine lv_iload_n hx hb dX7_dirty_39 rfl (lv_at hl 4 rfl) ?_
        have ix9 : (0 : Int32) = nI 0 := rfl
        have ix9b : 0 < 2 := (by decide)
        refine m_iald X hK hw (hmt8.a1) (i := 0) (by rw [ix9]; exact vp_in_nI ix9b (by decide)) dX7_dirty_40 ?_
        rw [show (0 : Int32).toNatClampNeg = 0 from by rw [ix9]; exact nI_clamp (by omega)]
        refine lv_icmp_ge (tgt := 69) hx hb dX7_dirty_41 (by decide) (fun c_41 => ?_) (fun c_41 => ?_)
        · have hkna : rdK (mH w 0) 0 ≤ ja := (nI_leI (by omega) (by omega)).mp c_41
          have hjja : ja = rdK (mH w 0) 0 := by omega
          rw [hjja] at hl
          refine lv_iinc (v := 1) (lv' := [(3, .int 1), (4, .int (nI (rdK w 0))), (2, .int (nI (0 + cnt (fun j => mDr (mH w 0) i 0 j) (rdK w 0)))), (0, .ref x), (1, .int si)]) hx hb dX7_dirty_69 hl (k := 4) rfl (by decide) (by decide) rfl (fun ls hl => ?_)
          refine lv_goto (tgt := 25) hx hb dX7_dirty_72 (by decide) ?_
          refine lv_iload_n hx hb dX7_dirty_25 rfl (lv_at hl 0 rfl) ?_
          refine lv_iconst (v := 1) hx hb dX7_dirty_26 (by decide) ?_
          refine lv_icmp_gt (tgt := 75) hx hb dX7_dirty_27 (by decide) (fun c_27 => absurd c_27 (by decide)) (fun _ => ?_)
          refine lv_iconst (v := 0) hx hb dX7_dirty_30 (by decide) ?_
          refine lv_istore (lv' := [(4, .int (nI 0)), (3, .int 1), (2, .int (nI (0 + cnt (fun j => mDr (mH w 0) i 0 j) (rdK w 0)))), (0, .ref x), (1, .int si)]) hx hb dX7_dirty_31 hl (by decide) rfl (fun ls hl => ?_)
          have hl : lv_has ls 5 [(4, .int (nI 0)), (3, .int 1), (2, .int (nI ((0 + cnt (fun j => mDr (mH w 0) i 0 j) (rdK w 0)) + cnt (fun j => mDr (mH w 0) i 1 j) 0))), (0, .ref x), (1, .int si)] := hl
          have loopb : ∀ (d : Nat) (jb : Nat) (H : Heap) (locs : List Loc) (ls : Array Slot), jb ≤ rdK (mH w 0) 1 → rdK (mH w 0) 1 + 1 ≤ jb + d → wd G A M6 H → va_S A s.heap H locs → lv_has ls 5 [(4, .int (nI jb)), (2, .int (nI ((0 + cnt (fun j => mDr (mH w 0) i 0 j) (rdK w 0)) + cnt (fun j => mDr (mH w 0) i 1 j) jb))), (0, .ref x), (1, .int si), (3, .int 1)] → W p l e ({ frames := 3, cells := 0, slots := 0, locals := 69 }) s m [.ref x, .int si].toArray below meth c H locs (0) (0) (MQ below (QI G (fun r M' => mFr x ad M M' ∧ (((aSe si) = 0 ∧ ∃ i, aS si i ∧ r = nI (cnt (fun j => mDr (mH w 0) i 0 j) (rdK w 0) + cnt (fun j => mDr (mH w 0) i 1 j) (rdK w 1)) ∧ MW G M' x ad (mH w 0)) ∨ ((aSe si) ≠ 0 ∧ MW G M' x ad (mH w (aSe si))))) A) [.ref x, .int si].toArray s (0) (0) A) (F0 m 33 ls []) := by
            intro d
            induction d with
            | zero => intro jb H locs ls h1 h2; exact absurd h2 (by omega)
            | succ d ih =>
              intro jb H locs ls hjb1 hjb2 hw hS hl
              have hbb : rdK (mH w 0) 1 ≤ 1024 := hmt8.kb (by decide)
              refine lv_iload hx hb dX7_dirty_33 (lv_at hl 0 rfl) ?_
              refine lv_aload_n hx hb dX7_dirty_35 rfl (lv_at hl 2 rfl) ?_
              refine m_get X iX7 hK hw hxt8 rfl 1 (by decide) (ref := "ObjectMapperModel") (by decide +kernel) (Or.inl rfl) rfl dX7_dirty_36 ?_
              refine lv_iload_n hx hb dX7_dirty_39 rfl (lv_at hl 4 rfl) ?_
              have ix10 : (1 : Int32) = nI 1 := rfl
              have ix10b : 1 < 2 := (by decide)
              refine m_iald X hK hw (hmt8.a1) (i := 1) (by rw [ix10]; exact vp_in_nI ix10b (by decide)) dX7_dirty_40 ?_
              rw [show (1 : Int32).toNatClampNeg = 1 from by rw [ix10]; exact nI_clamp (by omega)]
              refine lv_icmp_ge (tgt := 69) hx hb dX7_dirty_41 (by decide) (fun c_41 => ?_) (fun c_41 => ?_)
              · have hknb : rdK (mH w 0) 1 ≤ jb := (nI_leI (by omega) (by omega)).mp c_41
                have hjjb : jb = rdK (mH w 0) 1 := by omega
                refine lv_iinc (v := 2) (lv' := [(3, .int 2), (4, .int (nI jb)), (2, .int (nI ((0 + cnt (fun j => mDr (mH w 0) i 0 j) (rdK w 0)) + cnt (fun j => mDr (mH w 0) i 1 j) jb))), (0, .ref x), (1, .int si)]) hx hb dX7_dirty_69 hl (k := 4) rfl (by decide) (by decide) rfl (fun ls hl => ?_)
                refine lv_goto (tgt := 25) hx hb dX7_dirty_72 (by decide) ?_
                refine lv_iload_n hx hb dX7_dirty_25 rfl (lv_at hl 0 rfl) ?_
                refine lv_iconst (v := 1) hx hb dX7_dirty_26 (by decide) ?_
                refine lv_icmp_gt (tgt := 75) hx hb dX7_dirty_27 (by decide) (fun _ => ?_) (fun c_27 => absurd (by decide) c_27)
                refine lv_iload_n hx hb dX7_dirty_75 rfl (lv_at hl 2 rfl) ?_
                exact m_iret X hK hw hS ⟨frt8, Or.inl ⟨hC, i, ⟨hi, ei⟩, by rw [hjjb, Nat.zero_add]; rfl, hmt8⟩⟩ (by omega) (by omega) dX7_dirty_76
              · have hklb : jb < rdK (mH w 0) 1 := Nat.lt_of_not_le (fun q => c_41 (nI_le q (by omega)))
                have hj9b : jb < 1024 := by omega
                have hkwb : jb < rdK (mH w 0) 1 := hklb
                refine lv_iload_n hx hb dX7_dirty_44 rfl (lv_at hl 1 rfl) ?_
                have jn45_q11 : ∀ (v : Int32) (H : Heap) (locs : List Loc), v = bI ((fun j => mDr (mH w 0) i 1 j) jb) → wd G A M6 H → va_S A s.heap H locs → W p l e ({ frames := 3, cells := 0, slots := 0, locals := 69 }) s m [.ref x, .int si].toArray below meth c H locs (0) (0) (MQ below (QI G (fun r M' => mFr x ad M M' ∧ (((aSe si) = 0 ∧ ∃ i, aS si i ∧ r = nI (cnt (fun j => mDr (mH w 0) i 0 j) (rdK w 0) + cnt (fun j => mDr (mH w 0) i 1 j) (rdK w 1)) ∧ MW G M' x ad (mH w 0)) ∨ ((aSe si) ≠ 0 ∧ MW G M' x ad (mH w (aSe si))))) A) [.ref x, .int si].toArray s (0) (0) A) (F0 m 61 ls [(.int v), .int (nI ((0 + cnt (fun j => mDr (mH w 0) i 0 j) (rdK w 0)) + cnt (fun j => mDr (mH w 0) i 1 j) jb))]) := by
                  intro v H locs hv9 hw hS
                  rw [hv9]
                  refine lv_iadd hx hb dX7_dirty_61 ?_
                  rw [show nI ((0 + cnt (fun j => mDr (mH w 0) i 0 j) (rdK w 0)) + cnt (fun j => mDr (mH w 0) i 1 j) jb) + bI ((fun j => mDr (mH w 0) i 1 j) jb) = nI ((0 + cnt (fun j => mDr (mH w 0) i 0 j) (rdK w 0)) + cnt (fun j => mDr (mH w 0) i 1 j) (jb + 1)) from cnt_p]
                  refine lv_istore_n (lv' := [(2, .int (nI ((0 + cnt (fun j => mDr (mH w 0) i 0 j) (rdK w 0)) + cnt (fun j => mDr (mH w 0) i 1 j) (jb + 1)))), (4, .int (nI jb)), (0, .ref x), (1, .int si), (3, .int 1)]) hx hb dX7_dirty_62 rfl hl (by decide) rfl (fun ls hl => ?_)
                  refine lv_iinc (v := (nI (jb + 1))) (lv' := [(4, .int (nI (jb + 1))), (2, .int (nI ((0 + cnt (fun j => mDr (mH w 0) i 0 j) (rdK w 0)) + cnt (fun j => mDr (mH w 0) i 1 j) (jb + 1)))), (0, .ref x), (1, .int si), (3, .int 1)]) hx hb dX7_dirty_63 hl (k := 1) rfl (nI_1 _) (by decide) rfl (fun ls hl => ?_)
                  refine lv_goto (tgt := 33) hx hb dX7_dirty_66 (by decide) ?_
                  exact ih (jb + 1) H locs ls (by omega) (by omega) hw hS (lv_sub hl [0, 1, 2, 3, 4] rfl)
                refine lv_aload_n hx hb dX7_dirty_45 rfl (lv_at hl 2 rfl) ?_
                refine lv_iload_n hx hb dX7_dirty_46 rfl (lv_at hl 3 rfl) ?_
                refine lv_iload_n hx hb dX7_dirty_47 rfl (lv_at hl 4 rfl) ?_
                refine lv_iload hx hb dX7_dirty_48 (lv_at hl 0 rfl) ?_
                refine m_callVi X (ci := 8) rfl hxt8 hK hw hZ hS hA (As := [.int si, .int 1, .int (nI jb)]) (rest := [.int (nI ((0 + cnt (fun j => mDr (mH w 0) i 0 j) (rdK w 0)) + cnt (fun j => mDr (mH w 0) i 1 j) jb))]) (c_isDirtyK l G dce _ M6 x ad (mH w 0) hmt8 i 1 jb hi (by decide) hj9b si ei 1 rfl) (cwV 3 hts gX7_dirty_X7_isDirty rfl rfl rfl (by decide +kernel) ⟨Nat.le_of_ble_eq_true rfl, Nat.le_of_ble_eq_true rfl⟩) rfl hl.1 rfl (Nat.le_of_ble_eq_true rfl) dX7_dirty_50 (Nat.le_of_ble_eq_true rfl) (Nat.le_of_ble_eq_true rfl) (fun r13 M12 H locs hp hw hS hz hk => ?_)
                rw [hp.2] at hw
                rw [hp.1]
                refine lv_if_eq (tgt := 60) hx hb dX7_dirty_53 (by decide) (fun c_53 => ?_) (fun c_53 => ?_)
                · refine lv_iconst (v := 0) hx hb dX7_dirty_60 (by decide) ?_
                  exact jn45_q11 _ _ _ (by simp [bI, ((bI_0 _).mp c_53)]) hw hS
                · refine lv_iconst (v := 1) hx hb dX7_dirty_56 (by decide) ?_
                  refine lv_goto (tgt := 61) hx hb dX7_dirty_57 (by decide) ?_
                  exact jn45_q11 _ _ _ (by simp [bI, (bI_t c_53)]) hw hS
          exact loopb (rdK (mH w 0) 1 + 1) 0 _ _ ls (Nat.zero_le _) (Nat.le_of_eq (Nat.zero_add _).symm) hw hS (lv_sub hl [0, 2, 3, 4, 1] rfl)
        · have hkla : ja < rdK (mH w 0) 0 := Nat.lt_of_not_le (fun q => c_41 (nI_le q (by omega)))
          have hj9a : ja < 1024 := by omega
          have hkwa : ja < rdK (mH w 0) 0 := hkla
          refine lv_iload_n hx hb dX7_dirty_44 rfl (lv_at hl 1 rfl) ?_
          have jn45_q14 : ∀ (v : Int32) (H : Heap) (locs : List Loc), v = bI ((fun j => mDr (mH w 0) i 0 j) ja) → wd G A M6 H → va_S A s.heap H locs → W p l e ({ frames := 3, cells := 0, slots := 0, locals := 69 }) s m [.ref x, .int si].toArray below meth c H locs (0) (0) (MQ below (QI G (fun r M' => mFr x ad M M' ∧ (((aSe si) = 0 ∧ ∃ i, aS si i ∧ r = nI (cnt (fun j => mDr (mH w 0) i 0 j) (rdK w 0) + cnt (fun j => mDr (mH w 0) i 1 j) (rdK w 1)) ∧ MW G M' x ad (mH w 0)) ∨ ((aSe si) ≠ 0 ∧ MW G M' x ad (mH w (aSe si))))) A) [.ref x, .int si].toArray s (0) (0) A) (F0 m 61 ls [(.int v), .int (nI (0 + cnt (fun j => mDr (mH w 0) i 0 j) ja))]) := by
            intro v H locs hv9 hw hS
            rw [hv9]
            refine lv_iadd hx hb dX7_dirty_61 ?_
            rw [show nI (0 + cnt (fun j => mDr (mH w 0) i 0 j) ja) + bI ((fun j => mDr (mH w 0) i 0 j) ja) = nI (0 + cnt (fun j => mDr (mH w 0) i 0 j) (ja + 1)) from cnt_p]
            refine lv_istore_n (lv' := [(2, .int (nI (0 + cnt (fun j => mDr (mH w 0) i 0 j) (ja + 1)))), (4, .int (nI ja)), (0, .ref x), (1, .int si), (3, .int 0)]) hx hb dX7_dirty_62 rfl hl (by decide) rfl (fun ls hl => ?_)
            refine lv_iinc (v := (nI (ja + 1))) (lv' := [(4, .int (nI (ja + 1))), (2, .int (nI (0 + cnt (fun j => mDr (mH w 0) i 0 j) (ja + 1)))), (0, .ref x), (1, .int si), (3, .int 0)]) hx hb dX7_dirty_63 hl (k := 1) rfl (nI_1 _) (by decide) rfl (fun ls hl => ?_)
            refine lv_goto (tgt := 33) hx hb dX7_dirty_66 (by decide) ?_
            exact ih (ja + 1) H locs ls (by omega) (by omega) hw hS (lv_sub hl [0, 1, 2, 3, 4] rfl)
          refine lv_aload_n hx hb dX7_dirty_45 rfl (lv_at hl 2 rfl) ?_
          refine lv_iload_n hx hb dX7_dirty_46 rfl (lv_at hl 3 rfl) ?_
          refine lv_iload_n hx hb dX7_dirty_47 rfl (lv_at hl 4 rfl) ?_
          refine lv_iload hx hb dX7_dirty_48 (lv_at hl 0 rfl) ?_
          refine m_callVi X (ci := 8) rfl hxt8 hK hw hZ hS hA (As := [.int si, .int 0, .int (nI ja)]) (rest := [.int (nI (0 + cnt (fun j => mDr (mH w 0) i 0 j) ja))]) (c_isDirtyK l G dce _ M6 x ad (mH w 0) hmt8 i 0 ja hi (by decide) hj9a si ei 0 rfl) (cwV 3 hts gX7_dirty_X7_isDirty rfl rfl rfl (by decide +kernel) ⟨Nat.le_of_ble_eq_true rfl, Nat.le_of_ble_eq_true rfl⟩) rfl hl.1 rfl (Nat.le_of_ble_eq_true rfl) dX7_dirty_50 (Nat.le_of_ble_eq_true rfl) (Nat.le_of_ble_eq_true rfl) (fun r16 M15 H locs hp hw hS hz hk => ?_)
          rw [hp.2] at hw
          rw [hp.1]
          refine lv_if_eq (tgt := 60) hx hb dX7_dirty_53 (by decide) (fun c_53 => ?_) (fun c_53 => ?_)
          · refine lv_iconst (v := 0) hx hb dX7_dirty_60 (by decide) ?_
            exact jn45_q14 _ _ _ (by simp [bI, ((bI_0 _).mp c_53)]) hw hS
          · refine lv_iconst (v := 1) hx hb dX7_dirty_56 (by decide) ?_
            refine lv_goto (tgt := 61) hx hb dX7_dirty_57 (by decide) ?_
            exact jn45_q14 _ _ _ (by simp [bI, (bI_t c_53)]) hw hS
    exact loopa (rdK (mH w 0) 0 + 1) 0 _ _ ls (Nat.zero_le _) (Nat.le_of_eq (Nat.zero_add _).symm) hw hS (lv_sub hl [0, 2, 3, 4, 1] rfl)
def mFg (i k j : Nat) (w : mW) : mW := mS (mS w 7 (aP i k j) 0) 8 (aP i k j) 0
theorem mFg_K (i k j : Nat) (w : mW) : rdK (mFg i k j w) = rdK w := rfl
def mCr (i : Nat) (w : mW) : mW := itm (mFg i 1) (rdK w 1) (itm (mFg i 0) (rdK w 0) w)
set_option maxHeartbeats 4000000 in
set_option maxRecDepth 100000 in
theorem c_mClear (l : Launch) (G : gG) (dce sz : Nat) (M : gM) (x : Nat) (ad : Nat → Nat) (w : mW) (hm : MW G M x ad w) (si : Int32) : mI l yX7_clear wsX7_clear ({ frames := 3, cells := 0, slots := 0, locals := 69 }) G dce sz M [.ref x, .int si] (fun r M' => mFr x ad M M' ∧ (((aSe si) = 0 ∧ ∃ i, aS si i ∧ r = nI (cnt (fun j => mKn (mH w 0) i 0 (nI j)) (rdK w 0) + cnt (fun j => mKn (mH w 0) i 1 (nI j)) (rdK w 1)) ∧ MW G M' x ad (mCr i (mH w 0))) ∨ ((aSe si) ≠ 0 ∧ MW G M' x ad (mH w (aSe si))))) (0) (0) := by
  have hx0 : M x = some (.inr (8, [.int (rdH w), .ref (ad 1), .ref (ad 2), .ref (ad 3), .ref (ad 4), .ref (ad 5), .ref (ad 6), .ref (ad 7), .ref (ad 8), .ref (ad 9), .ref (ad 10), .ref (ad 11), .ref (ad 12), .ref (ad 13), .int (nI (rdN w)), .ref (ad 15)])) := hm.1
  refine wMet (Qc := QI G _) (cc := cX7_clear) (maxL := 5) (ret := (some .int)) (by decide) rfl (Nat.le_of_ble_eq_true rfl) ?_
  intro p e s m below meth c A ls X hnm hw hK hZ hA hS hsz eA hl
  obtain ⟨hx, hb, hr, hts, hown, hlk, hml⟩ := id X
  have hl : lv_has ls 5 [(0, .ref x), (1, .int si)] := hl
  have iX7 : ∀ w ∈ wsX70, w ∈ wsX7_clear := by decide +kernel
  refine lv_aload_n hx hb dX7_clear_0 rfl (lv_at hl 0 rfl) ?_
  refine lv_iload_n hx hb dX7_clear_1 rfl (lv_at hl 1 rfl) ?_
  refine m_callSi X hK hw hZ hS hA (As := [.int si]) (rest := [.ref x]) (c_X7_isSession l G dce _ M si) (va_cwS 1 hts gX7_clear_X7_isSession rfl rfl rfl (by decide +kernel) ⟨Nat.le_of_ble_eq_true rfl, Nat.le_of_ble_eq_true rfl⟩) rfl hl.1 rfl (Nat.le_of_ble_eq_true rfl) dX7_clear_2 (Nat.le_of_ble_eq_true rfl) (Nat.le_of_ble_eq_true rfl) (fun r2 M1 H locs hp hw hS hz hk => ?_)
  rw [hp.2] at hw
  rw [hp.1]
  refine lv_if_eq (tgt := 12) hx hb dX7_clear_5 (by decide) (fun c_5 => ?_) (fun c_5 => ?_)
  · refine lv_iconst (v := 1) hx hb dX7_clear_12 (by decide) ?_
    refine m_callVi X (ci := 8) rfl hx0 hK hw hZ hS hA (As := [.int 1]) (rest := []) (c_holds l G dce _ M x ad w hm 1) (cwV 1 hts gX7_clear_X7_holds rfl rfl rfl (by decide +kernel) ⟨Nat.le_of_ble_eq_true rfl, Nat.le_of_ble_eq_true rfl⟩) rfl hl.1 rfl (Nat.le_of_ble_eq_true rfl) dX7_clear_13 (Nat.le_of_ble_eq_true rfl) (Nat.le_of_ble_eq_true rfl) (fun r4 M3 H locs hp hw hS hz hk => ?_)
    obtain ⟨hrt5, hmt5, hft5⟩ := hp
    rw [hrt5]
    have frt5 := mFr.tr mFr.rf hft5
    have hxt5 : M3 x = some (.inr (8, [.int (rdH (mH w 1)), .ref (ad 1), .ref (ad 2), .ref (ad 3), .ref (ad 4), .ref (ad 5), .ref (ad 6), .ref (ad 7), .ref (ad 8), .ref (ad 9), .ref (ad 10), .ref (ad 11), .ref (ad 12), .ref (ad 13), .int (nI (rdN (mH w 1))), .ref (ad 15)])) := hmt5.1
    rw [show bI (decide ((1 : Int32) = 0)) = 0 from by decide]
    refine lv_if_ne (tgt := 21) hx hb dX7_clear_16 (by decide) (fun c_16 => absurd (by decide) c_16) (fun _ => ?_)
    refine lv_iconst (v := 0) hx hb dX7_clear_19 (by decide) ?_
    have hC : aSe si = 1 := by simp [aSe, ((bI_0 _).mp c_5)]
    exact m_iret X hK hw hS ⟨frt5, Or.inr ⟨by rw [hC]; decide, by rw [hC]; exact hmt5⟩⟩ (by omega) (by omega) dX7_clear_20
  · obtain ⟨i, hi, ei⟩ := sOK_i (bI_t c_5)
    have si9 : si.toNatClampNeg = i := by rw [ei]; exact nI_clamp (by omega)
    refine lv_iconst (v := 0) hx hb dX7_clear_8 (by decide) ?_
    refine lv_goto (tgt := 13) hx hb dX7_clear_9 (by decide) ?_
    refine m_callVi X (ci := 8) rfl hx0 hK hw hZ hS hA (As := [.int 0]) (rest := []) (c_holds l G dce _ M x ad w hm 0) (cwV 1 hts gX7_clear_X7_holds rfl rfl rfl (by decide +kernel) ⟨Nat.le_of_ble_eq_true rfl, Nat.le_of_ble_eq_true rfl⟩) rfl hl.1 rfl (Nat.le_of_ble_eq_true rfl) dX7_clear_13 (Nat.le_of_ble_eq_true rfl) (Nat.le_of_ble_eq_true rfl) (fun r7 M6 H locs hp hw hS hz hk => ?_)
    obtain ⟨hrt8, hmt8, hft8⟩ := hp
    rw [hrt8]
    have frt8 := mFr.tr mFr.rf hft8
    have hxt8 : M6 x = some (.inr (8, [.int (rdH (mH w 0)), .ref (ad 1), .ref (ad 2), .ref (ad 3), .ref (ad 4), .ref (ad 5), .ref (ad 6), .ref (ad 7), .ref (ad 8), .ref (ad 9), .ref (ad 10), .ref (ad 11), .ref (ad 12), .ref (ad 13), .int (nI (rdN (mH w 0))), .ref (ad 15)])) := hmt8.1
    rw [show bI (decide ((0 : Int32) = 0)) = 1 from by decide]
    refine lv_if_ne (tgt := 21) hx hb dX7_clear_16 (by decide) (fun _ => ?_) (fun c_16 => absurd c_16 (by decide))
    have hC : aSe si = 0 := by simp [aSe, (bI_t c_5), si9]
    refine lv_aload_n hx hb dX7_clear_21 rfl (lv_at hl 0 rfl) ?_
    refine lv_iload_n hx hb dX7_clear_22 rfl (lv_at hl 1 rfl) ?_
    refine m_callVi X (ci := 8) rfl hxt8 hK hw hZ hS hA (As := [.int si]) (rest := []) (c_knownOfK l G dce _ M6 x ad (mH w 0) hmt8 i hi si ei) (cwV 1 hts gX7_clear_X7_knownOf rfl rfl rfl (by decide +kernel) ⟨Nat.le_of_ble_eq_true rfl, Nat.le_of_ble_eq_true rfl⟩) rfl hl.1 rfl (Nat.le_of_ble_eq_true rfl) dX7_clear_23 (Nat.le_of_ble_eq_true rfl) (Nat.le_of_ble_eq_true rfl) (fun r10 M9 H locs hp hw hS hz hk => ?_)
    rw [hp.2] at hw
    rw [hp.1]
    refine lv_istore_n (lv' := [(2, .int (nI (cnt (fun j => mKn (mH w 0) i 0 (nI j)) (rdK w 0) + cnt (fun j => mKn (mH w 0) i 1 (nI j)) (rdK w 1)))), (0, .ref x), (1, .int si)]) hx hb dX7_clear_26 rfl hl (by decide) rfl (fun ls hl => ?_)
    refine lv_iconst (v := 0) hx hb dX7_clear_27 (by decide) ?_
    refine lv_istore_n (lv' := [(3, .int 0), (2, .int (nI (cnt (fun j => mKn (mH w 0) i 0 (nI j)) (rdK w 0) + cnt (fun j => mKn (mH w 0) i 1 (nI j)) (rdK w 1)))), (0, .ref x), (1, .int si)]) hx hb dX7_clear_28 rfl hl (by decide) rfl (fun ls hl => ?_)
    refine lv_iload_n hx hb dX7_clear_29 rfl (lv_at hl 0 rfl) ?_
    refine lv_iconst (v := 1) hx hb dX7_clear_30 (by decide) ?_
    refine lv_icmp_gt (tgt := 86) hx hb dX7_clear_31 (by decide) (fun c_31 => absurd c_31 (by decide)) (fun _ => ?_)
    refine lv_iconst (v := 0) hx hb dX7_clear_34 (by decide) ?_
    refine lv_istore (lv' := [(4, .int (nI 0)), (3, .int 0), (2, .int (nI (cnt (fun j => mKn (mH w 0) i 0 (nI j)) (rdK w 0) + cnt (fun j => mKn (mH w 0) i 1 (nI j)) (rdK w 1)))), (0, .ref x), (1, .int si)]) hx hb dX7_clear_35 hl (by decide) rfl (fun ls hl => ?_)
    have loopa : ∀ (d : Nat) (ja : Nat) (wa : mW) (Ma : gM) (H : Heap) (locs : List Loc) (ls : Array Slot), ja ≤ rdK (mH w 0) 0 → rdK (mH w 0) 0 + 1 ≤ ja + d → wa = itm (mFg i 0) ja (mH w 0) → MW G Ma x ad wa → mFr x ad M Ma → wd G A Ma H → va_S A s.heap H locs → lv_has ls 5 [(4, .int (nI ja)), (2, .int (nI (cnt (fun j => mKn (mH w 0) i 0 (nI j)) (rdK w 0) + cnt (fun j => mKn (mH w 0) i 1 (nI j)) (rdK w 1)))), (0, .ref x), (1, .int si), (3, .int 0)] → W p l e ({ frames := 3, cells := 0, slots := 0, locals := 69 }) s m [.ref x, .int si].toArray below meth c H locs (0) (0) (MQ below (QI G (fun r M' => mFr x ad M M' ∧ (((aSe si) = 0 ∧ ∃ i, aS si i ∧ r = nI (cnt (fun j => mKn (mH w 0) i 0 (nI j)) (rdK w 0) + cnt (fun j => mKn (mH w 0) i 1 (nI j)) (rdK w 1)) ∧ MW G M' x ad (mCr i (mH w 0))) ∨ ((aSe si) ≠ 0 ∧ MW G M' x ad (mH w (aSe si))))) A) [.ref x, .int si].toArray s (0) (0) A) (F0 m 37 ls []) := by
      intro d
      induction d with
      | zero => intro ja wa Ma H locs ls h1 h2; exact absurd h2 (by omega)
      | succ d ih =>
        intro ja wa Ma H locs ls hja1 hja2 hza hma hfa hw hS hl
        have hxla : Ma x = some (.inr (8, [.int (rdH wa), .ref (ad 1), .ref (ad 2), .ref (ad 3), .ref (ad 4), .ref (ad 5), .ref (ad 6), .ref (ad 7), .ref (ad 8), .ref (ad 9), .ref (ad 10), .ref (ad 11), .ref (ad 12), .ref (ad 13), .int (nI (rdN wa)), .ref (ad 15)])) := hma.1
        have hna : rdK wa = rdK (mH w 0) := by rw [hza]; exact itm_K (mFg_K i 0) ja (mH w 0)
        have hba : rdK (mH w 0) 0 ≤ 1024 := hmt8.kb (by decide)
        refine lv_iload hx hb dX7_clear_37 (lv_at hl 0 rfl) ?_
        refine lv_aload_n hx hb dX7_clear_39 rfl (lv_at hl 2 rfl) ?_
        refine m_get X iX7 hK hw hxla rfl 1 (by decide) (ref := "ObjectMapperModel") (by decide +kernel) (Or.inl rfl) rfl dX7_clear_40 ?_
        refine lv_iload_n hx hb dX7_clear_43 rfl (lv_at hl 4 rfl) ?_
        have ix11 : (0 : Int32) = nI 0 := rfl
        have ix11b : 0 < 2 := (by decide)
        refine m_iald X hK hw (hma.a1) (i := 0) (by rw [ix11]; exact vp_in_nI ix11b (by decide)) dX7_clear_44 ?_
        rw [show (0 : Int32).toNatClampNeg = 0 from by rw [ix11]; exact nI_clamp (by omega)]
        rw [show nI (rdK wa 0) = nI (rdK (mH w 0) 0) from by rw [hna]]
        refine lv_icmp_ge (tgt := 80) hx hb dX7_clear_45 (by decide) (fun c_45 => ?_) (fun c_45 => ?_)
        · have hkna : rdK (mH w 0) 0 ≤ ja := (nI_leI (by omega) (by omega)).mp c_45
          have hjja : ja = rdK (mH w 0) 0 := by omega
          rw [hjja] at hza
          refine lv_iinc (v := 1) (lv' := [(3, .int 1), (4, .int (nI ja)), (2, .int (nI (cnt (fun j => mKn (mH w 0) i 0 (nI j)) (rdK w 0) + cnt (fun j => mKn (mH w 0) i 1 (nI j)) (rdK w 1)))), (0, .ref x), (1, .int si)]) hx hb dX7_clear_80 hl (k := 4) rfl (by decide) (by decide) rfl (fun ls hl => ?_)
          refine lv_goto (tgt := 29) hx hb dX7_clear_83 (by decide) ?_
          refine lv_iload_n hx hb dX7_clear_29 rfl (lv_at hl 0 rfl) ?_
          refine lv_iconst (v := 1) hx hb dX7_clear_30 (by decide) ?_
          refine lv_icmp_gt (tgt := 86) hx hb dX7_clear_31 (by decide) (fun c_31 => absurd c_31 (by decide)) (fun _ => ?_)
          refine lv_iconst (v := 0) hx hb dX7_clear_34 (by decide) ?_
          refine lv_istore (lv' := [(4, .int (nI 0)), (3, .int 1), (2, .int (nI (cnt (fun j => mKn (mH w 0) i 0 (nI j)) (rdK w 0) + cnt (fun j => mKn (mH w 0) i 1 (nI j)) (rdK w 1)))), (0, .ref x), (1, .int si)]) hx hb dX7_clear_35 hl (by decide) rfl (fun ls hl => ?_)
          have loopb : ∀ (d : Nat) (jb : Nat) (wb : mW) (Mb : gM) (H : Heap) (locs : List Loc) (ls : Array Slot), jb ≤ rdK wa 1 → rdK wa 1 + 1 ≤ jb + d → wb = itm (mFg i 1) jb wa → MW G Mb x ad wb → mFr x ad M Mb → wd G A Mb H → va_S A s.heap H locs → lv_has ls 5 [(4, .int (nI jb)), (2, .int (nI (cnt (fun j => mKn (mH w 0) i 0 (nI j)) (rdK w 0) + cnt (fun j => mKn (mH w 0) i 1 (nI j)) (rdK w 1)))), (0, .ref x), (1, .int si), (3, .int 1)] → W p l e ({ frames := 3, cells := 0, slots := 0, locals := 69 }) s m [.ref x, .int si].toArray below meth c H locs (0) (0) (MQ below (QI G (fun r M' => mFr x ad M M' ∧ (((aSe si) = 0 ∧ ∃ i, aS si i ∧ r = nI (cnt (fun j => mKn (mH w 0) i 0 (nI j)) (rdK w 0) + cnt (fun j => mKn (mH w 0) i 1 (nI j)) (rdK w 1)) ∧ MW G M' x ad (mCr i (mH w 0))) ∨ ((aSe si) ≠ 0 ∧ MW G M' x ad (mH w (aSe si))))) A) [.ref x, .int si].toArray s (0) (0) A) (F0 m 37 ls []) := by
            intro d
            induction d with
            | zero => intro jb wb Mb H locs ls h1 h2; exact absurd h2 (by omega)
            | succ d ih =>
              intro jb wb Mb H locs ls hjb1 hjb2 hzb hmb hfb hw hS hl
              have hxlb : Mb x = some (.inr (8, [.int (rdH wb), .ref (ad 1), .ref (ad 2), .ref (ad 3), .ref (ad 4), .ref (ad 5), .ref (ad 6), .ref (ad 7), .ref (ad 8), .ref (ad 9), .ref (ad 10), .ref (ad 11), .ref (ad 12), .ref (ad 13), .int (nI (rdN wb)), .ref (ad 15)])) := hmb.1
              have hnb : rdK wb = rdK wa := by rw [hzb]; exact itm_K (mFg_K i 1) jb wa
              have hbb : rdK wa 1 ≤ 1024 := hma.kb (by decide)
              refine lv_iload hx hb dX7_clear_37 (lv_at hl 0 rfl) ?_
              refine lv_aload_n hx hb dX7_clear_39 rfl (lv_at hl 2 rfl) ?_
              refine m_get X iX7 hK hw hxlb rfl 1 (by decide) (ref := "ObjectMapperModel") (by decide +kernel) (Or.inl rfl) rfl dX7_clear_40 ?_
              refine lv_iload_n hx hb dX7_clear_43 rfl (lv_at hl 4 rfl) ?_
              have ix12 : (1 : Int32) = nI 1 := rfl
              have ix12b : 1 < 2 := (by decide)
              refine m_iald X hK hw (hmb.a1) (i := 1) (by rw [ix12]; exact vp_in_nI ix12b (by decide)) dX7_clear_44 ?_
              rw [show (1 : Int32).toNatClampNeg = 1 from by rw [ix12]; exact nI_clamp (by omega)]
              rw [show nI (rdK wb 1) = nI (rdK wa 1) from by rw [hnb]]
              refine lv_icmp_ge (tgt := 80) hx hb dX7_clear_45 (by decide) (fun c_45 => ?_) (fun c_45 => ?_)
              · have hknb : rdK wa 1 ≤ jb := (nI_leI (by omega) (by omega)).mp c_45
                have hjjb : jb = rdK wa 1 := by omega
                rw [hjjb] at hzb
                refine lv_iinc (v := 2) (lv' := [(3, .int 2), (4, .int (nI jb)), (2, .int (nI (cnt (fun j => mKn (mH w 0) i 0 (nI j)) (rdK w 0) + cnt (fun j => mKn (mH w 0) i 1 (nI j)) (rdK w 1)))), (0, .ref x), (1, .int si)]) hx hb dX7_clear_80 hl (k := 4) rfl (by decide) (by decide) rfl (fun ls hl => ?_)
                refine lv_goto (tgt := 29) hx hb dX7_clear_83 (by decide) ?_
                refine lv_iload_n hx hb dX7_clear_29 rfl (lv_at hl 0 rfl) ?_
                refine lv_iconst (v := 1) hx hb dX7_clear_30 (by decide) ?_
                refine lv_icmp_gt (tgt := 86) hx hb dX7_clear_31 (by decide) (fun _ => ?_) (fun c_31 => absurd (by decide) c_31)
                refine lv_iload_n hx hb dX7_clear_86 rfl (lv_at hl 2 rfl) ?_
                have hfin : mCr i (mH w 0) = wb := by rw [hzb, hza, show rdK (itm (mFg i 0) (rdK (mH w 0) 0) (mH w 0)) = rdK (mH w 0) from itm_K (mFg_K i 0) _ _]; rfl
                exact m_iret X hK hw hS ⟨hfb, Or.inl ⟨hC, i, ⟨hi, ei⟩, rfl, by rw [hfin]; exact hmb⟩⟩ (by omega) (by omega) dX7_clear_87
              · have hklb : jb < rdK wa 1 := Nat.lt_of_not_le (fun q => c_45 (nI_le q (by omega)))
                have hj9b : jb < 1024 := by omega
                have hkwb : jb < rdK wb 1 := by rw [hnb]; exact hklb
                refine lv_aload_n hx hb dX7_clear_48 rfl (lv_at hl 2 rfl) ?_
                refine m_get X iX7 hK hw hxlb rfl 7 (by decide) (ref := "ObjectMapperModel") (by decide +kernel) (Or.inl rfl) rfl dX7_clear_49 ?_
                refine lv_iload_n hx hb dX7_clear_52 rfl (lv_at hl 3 rfl) ?_
                refine lv_iload_n hx hb dX7_clear_53 rfl (lv_at hl 4 rfl) ?_
                refine lv_iload hx hb dX7_clear_54 (lv_at hl 0 rfl) ?_
                refine m_callSi X hK hw hZ hS hA (As := [.int si, .int 1, .int (nI jb)]) (rest := [.ref (ad 7)]) (c_atK l G dce _ Mb i 1 jb si ei 1 rfl (nI jb) rfl) (va_cwS 3 hts gX7_clear_X7_at rfl rfl rfl (by decide +kernel) ⟨Nat.le_of_ble_eq_true rfl, Nat.le_of_ble_eq_true rfl⟩) rfl hl.1 rfl (Nat.le_of_ble_eq_true rfl) dX7_clear_56 (Nat.le_of_ble_eq_true rfl) (Nat.le_of_ble_eq_true rfl) (fun r14 M13 H locs hp hw hS hz hk => ?_)
                rw [hp.2] at hw
                rw [hp.1]
                refine lv_iconst (v := 0) hx hb dX7_clear_59 (by decide) ?_
                have ix16 : ((nI (aP i 1 jb)) : Int32) = nI (aP i 1 jb) := rfl
                have ix16b : (aP i 1 jb) < 6144 := (aP_lt hi (by decide) hj9b)
                refine m_iast X hK hw hS (hmb.a7) (i := (nI (aP i 1 jb))) (x := 0) (by rw [ix16]; exact vp_in_nI ix16b (by decide)) dX7_clear_60 (fun M15 H locs eM15 hw hS => ?_)
                rw [show ((nI (aP i 1 jb)) : Int32).toNatClampNeg = (aP i 1 jb) from by rw [ix16]; exact nI_clamp (by omega)] at eM15
                obtain ⟨wt17, ewt17⟩ : ∃ w9, w9 = mS wb 7 (aP i 1 jb) 0 := ⟨_, rfl⟩
                have hmt17 : MW G M15 x ad wt17 := by rw [ewt17]; exact hmb.set7 eM15
                have frt17 := mFr.tr hfb (mFr.wr (x := x) (ad := ad) (a := 7) (by decide) eM15)
                have hxt17 : M15 x = some (.inr (8, [.int (rdH wt17), .ref (ad 1), .ref (ad 2), .ref (ad 3), .ref (ad 4), .ref (ad 5), .ref (ad 6), .ref (ad 7), .ref (ad 8), .ref (ad 9), .ref (ad 10), .ref (ad 11), .ref (ad 12), .ref (ad 13), .int (nI (rdN wt17)), .ref (ad 15)])) := hmt17.1
                refine lv_aload_n hx hb dX7_clear_61 rfl (lv_at hl 2 rfl) ?_
                refine m_get X iX7 hK hw hxt17 rfl 8 (by decide) (ref := "ObjectMapperModel") (by decide +kernel) (Or.inl rfl) rfl dX7_clear_62 ?_
                refine lv_iload_n hx hb dX7_clear_65 rfl (lv_at hl 3 rfl) ?_
                refine lv_iload_n hx hb dX7_clear_66 rfl (lv_at hl 4 rfl) ?_
                refine lv_iload hx hb dX7_clear_67 (lv_at hl 0 rfl) ?_
                refine m_callSi X hK hw hZ hS hA (As := [.int si, .int 1, .int (nI jb)]) (rest := [.ref (ad 8)]) (c_atK l G dce _ M15 i 1 jb si ei 1 rfl (nI jb) rfl) (va_cwS 3 hts gX7_clear_X7_at rfl rfl rfl (by decide +kernel) ⟨Nat.le_of_ble_eq_true rfl, Nat.le_of_ble_eq_true rfl⟩) rfl hl.1 rfl (Nat.le_of_ble_eq_true rfl) dX7_clear_69 (Nat.le_of_ble_eq_true rfl) (Nat.le_of_ble_eq_true rfl) (fun r19 M18 H locs hp hw hS hz hk => ?_)
                rw [hp.2] at hw
                rw [hp.1]
                refine lv_iconst (v := 0) hx hb dX7_clear_72 (by decide) ?_
                have ix21 : ((nI (aP i 1 jb)) : Int32) = nI (aP i 1 jb) := rfl
                have ix21b : (aP i 1 jb) < 6144 := (aP_lt hi (by decide) hj9b)
                refine m_zast X hK hw hS (hmt17.a8) (i := (nI (aP i 1 jb))) (x := 0) (by decide) (by rw [ix21]; exact vp_in_nI ix21b (by decide)) dX7_clear_73 (fun M20 H locs eM20 hw hS => ?_)
                rw [show ((nI (aP i 1 jb)) : Int32).toNatClampNeg = (aP i 1 jb) from by rw [ix21]; exact nI_clamp (by omega)] at eM20
                obtain ⟨wt22, ewt22⟩ : ∃ w9, w9 = mS wt17 8 (aP i 1 jb) 0 := ⟨_, rfl⟩
                have hmt22 : MW G M20 x ad wt22 := by rw [ewt22]; exact hmt17.set8 eM20
                have frt22 := mFr.tr frt17 (mFr.wr (x := x) (ad := ad) (a := 8) (by decide) eM20)
                have hxt22 : M20 x = some (.inr (8, [.int (rdH wt22), .ref (ad 1), .ref (ad 2), .ref (ad 3), .ref (ad 4), .ref (ad 5), .ref (ad 6), .ref (ad 7), .ref (ad 8), .ref (ad 9), .ref (ad 10), .ref (ad 11), .ref (ad 12), .ref (ad 13), .int (nI (rdN wt22)), .ref (ad 15)])) := hmt22.1
                refine lv_iinc (v := (nI (jb + 1))) (lv' := [(4, .int (nI (jb + 1))), (2, .int (nI (cnt (fun j => mKn (mH w 0) i 0 (nI j)) (rdK w 0) + cnt (fun j => mKn (mH w 0) i 1 (nI j)) (rdK w 1)))), (0, .ref x), (1, .int si), (3, .int 1)]) hx hb dX7_clear_74 hl (k := 0) rfl (nI_1 _) (by decide) rfl (fun ls hl => ?_)
                refine lv_goto (tgt := 37) hx hb dX7_clear_77 (by decide) ?_
                have hzb2 : wt22 = itm (mFg i 1) (jb + 1) wa := by
                  show _ = (mFg i 1) jb (itm (mFg i 1) jb wa)
                  rw [← hzb]
                  rw [ewt22, ewt17]
                  rfl
                exact ih (jb + 1) wt22 M20 H locs ls (by omega) (by omega) hzb2 hmt22 frt22 hw hS (lv_sub hl [0, 1, 2, 3, 4] rfl)
          exact loopb (rdK wa 1 + 1) 0 wa Ma _ _ ls (Nat.zero_le _) (Nat.le_of_eq (Nat.zero_add _).symm) rfl hma hfa hw hS (lv_sub hl [0, 2, 3, 4, 1] rfl)
        · have hkla : ja < rdK (mH w 0) 0 := Nat.lt_of_not_le (fun q => c_45 (nI_le q (by omega)))
          have hj9a : ja < 1024 := by omega
          have hkwa : ja < rdK wa 0 := by rw [hna]; exact hkla
          refine lv_aload_n hx hb dX7_clear_48 rfl (lv_at hl 2 rfl) ?_
          refine m_get X iX7 hK hw hxla rfl 7 (by decide) (ref := "ObjectMapperModel") (by decide +kernel) (Or.inl rfl) rfl dX7_clear_49 ?_
          refine lv_iload_n hx hb dX7_clear_52 rfl (lv_at hl 3 rfl) ?_
          refine lv_iload_n hx hb dX7_clear_53 rfl (lv_at hl 4 rfl) ?_
          refine lv_iload hx hb dX7_clear_54 (lv_at hl 0 rfl) ?_
          refine m_callSi X hK hw hZ hS hA (As := [.int si, .int 0, .int (nI ja)]) (rest := [.ref (ad 7)]) (c_atK l G dce _ Ma i 0 ja si ei 0 rfl (nI ja) rfl) (va_cwS 3 hts gX7_clear_X7_at rfl rfl rfl (by decide +kernel) ⟨Nat.le_of_ble_eq_true rfl, Nat.le_of_ble_eq_true rfl⟩) rfl hl.1 rfl (Nat.le_of_ble_eq_true rfl) dX7_clear_56 (Nat.le_of_ble_eq_true rfl) (Nat.le_of_ble_eq_true rfl) (fun r24 M23 H locs hp hw hS hz hk => ?_)
          rw [hp.2] at hw
          rw [hp.1]
          refine lv_iconst (v := 0) hx hb dX7_clear_59 (by decide) ?_
          have ix26 : ((nI (aP i 0 ja)) : Int32) = nI (aP i 0 ja) := rfl
          have ix26b : (aP i 0 ja) < 6144 := (aP_lt hi (by decide) hj9a)
          refine m_iast X hK hw hS (hma.a7) (i := (nI (aP i 0 ja))) (x := 0) (by rw [ix26]; exact vp_in_nI ix26b (by decide)) dX7_clear_60 (fun M25 H locs eM25 hw hS => ?_)
          rw [show ((nI (aP i 0 ja)) : Int32).toNatClampNeg = (aP i 0 ja) from by rw [ix26]; exact nI_clamp (by omega)] at eM25
          obtain ⟨wt27, ewt27⟩ : ∃ w9, w9 = mS wa 7 (aP i 0 ja) 0 := ⟨_, rfl⟩
          have hmt27 : MW G M25 x ad wt27 := by rw [ewt27]; exact hma.set7 eM25
          have frt27 := mFr.tr hfa (mFr.wr (x := x) (ad := ad) (a := 7) (by decide) eM25)
          have hxt27 : M25 x = some (.inr (8, [.int (rdH wt27), .ref (ad 1), .ref (ad 2), .ref (ad 3), .ref (ad 4), .ref (ad 5), .ref (ad 6), .ref (ad 7), .ref (ad 8), .ref (ad 9), .ref (ad 10), .ref (ad 11), .ref (ad 12), .ref (ad 13), .int (nI (rdN wt27)), .ref (ad 15)])) := hmt27.1
          refine lv_aload_n hx hb dX7_clear_61 rfl (lv_at hl 2 rfl) ?_
          refine m_get X iX7 hK hw hxt27 rfl 8 (by decide) (ref := "ObjectMapperModel") (by decide +kernel) (Or.inl rfl) rfl dX7_clear_62 ?_
          refine lv_iload_n hx hb dX7_clear_65 rfl (lv_at hl 3 rfl) ?_
          refine lv_iload_n hx hb dX7_clear_66 rfl (lv_at hl 4 rfl) ?_
          refine lv_iload hx hb dX7_clear_67 (lv_at hl 0 rfl) ?_
          refine m_callSi X hK hw hZ hS hA (As := [.int si, .int 0, .int (nI ja)]) (rest := [.ref (ad 8)]) (c_atK l G dce _ M25 i 0 ja si ei 0 rfl (nI ja) rfl) (va_cwS 3 hts gX7_clear_X7_at rfl rfl rfl (by decide +kernel) ⟨Nat.le_of_ble_eq_true rfl, Nat.le_of_ble_eq_true rfl⟩) rfl hl.1 rfl (Nat.le_of_ble_eq_true rfl) dX7_clear_69 (Nat.le_of_ble_eq_true rfl) (Nat.le_of_ble_eq_true rfl) (fun r29 M28 H locs hp hw hS hz hk => ?_)
          rw [hp.2] at hw
          rw [hp.1]
          refine lv_iconst (v := 0) hx hb dX7_clear_72 (by decide) ?_
          have ix31 : ((nI (aP i 0 ja)) : Int32) = nI (aP i 0 ja) := rfl
          have ix31b : (aP i 0 ja) < 6144 := (aP_lt hi (by decide) hj9a)
          refine m_zast X hK hw hS (hmt27.a8) (i := (nI (aP i 0 ja))) (x := 0) (by decide) (by rw [ix31]; exact vp_in_nI ix31b (by decide)) dX7_clear_73 (fun M30 H locs eM30 hw hS => ?_)
          rw [show ((nI (aP i 0 ja)) : Int32).toNatClampNeg = (aP i 0 ja) from by rw [ix31]; exact nI_clamp (by omega)] at eM30
          obtain ⟨wt32, ewt32⟩ : ∃ w9, w9 = mS wt27 8 (aP i 0 ja) 0 := ⟨_, rfl⟩
          have hmt32 : MW G M30 x ad wt32 := by rw [ewt32]; exact hmt27.set8 eM30
          have frt32 := mFr.tr frt27 (mFr.wr (x := x) (ad := ad) (a := 8) (by decide) eM30)
          have hxt32 : M30 x = some (.inr (8, [.int (rdH wt32), .ref (ad 1), .ref (ad 2), .ref (ad 3), .ref (ad 4), .ref (ad 5), .ref (ad 6), .ref (ad 7), .ref (ad 8), .ref (ad 9), .ref (ad 10), .ref (ad 11), .ref (ad 12), .ref (ad 13), .int (nI (rdN wt32)), .ref (ad 15)])) := hmt32.1
          refine lv_iinc (v := (nI (ja + 1))) (lv' := [(4, .int (nI (ja + 1))), (2, .int (nI (cnt (fun j => mKn (mH w 0) i 0 (nI j)) (rdK w 0) + cnt (fun j => mKn (mH w 0) i 1 (nI j)) (rdK w 1)))), (0, .ref x), (1, .int si), (3, .int 0)]) hx hb dX7_clear_74 hl (k := 0) rfl (nI_1 _) (by decide) rfl (fun ls hl => ?_)
          refine lv_goto (tgt := 37) hx hb dX7_clear_77 (by decide) ?_
          have hza2 : wt32 = itm (mFg i 0) (ja + 1) (mH w 0) := by
            show _ = (mFg i 0) ja (itm (mFg i 0) ja (mH w 0))
            rw [← hza]
            rw [ewt32, ewt27]
            rfl
          exact ih (ja + 1) wt32 M30 H locs ls (by omega) (by omega) hza2 hmt32 frt32 hw hS (lv_sub hl [0, 1, 2, 3, 4] rfl)
    exact loopa (rdK (mH w 0) 0 + 1) 0 (mH w 0) M6 _ _ ls (Nat.zero_le _) (Nat.le_of_eq (Nat.zero_add _).symm) rfl hmt8 frt8 hw hS (lv_sub hl [0, 2, 3, 4, 1] rfl)
def mRm0 (i a : Nat) (w : mW) : mW := mGo i 0 a (itm (mLd i 1 (nI a)) (rdK w 1) w)
def mRmA (i a : Nat) (w : mW) : mW := itm (mRb i (nI a)) (rdK w 1) (mRm0 i a w)
/-- how many books go with an author: counted on the way -/
def cnm (p : mW → Nat → Bool) (F : Nat → mW → mW) (w : mW) : Nat → Nat
  | 0 => 0
  | n + 1 => cnm p F w n + (if p (itm F n w) n = true then 1 else 0)
def mRef (i : Nat) (t : Int32) (w : mW) (j : Nat) : Bool := mKn w i 1 (nI j) && decide (rdT w 10 (aP i 1 j) = t)
theorem c_loadsKt (l : Launch) (G : gG) (dce sz : Nat) (M : gM) (x : Nat) (ad : Nat → Nat) (w : mW) (hm : MW G M x ad w) (i k : Nat) (hi : i < 3) (hk2 : k < 2) (t : Int32) (si : Int32) (hsi : si = nI i) (kd : Int32) (hkd : kd = nI k) (ty : Int32) (hty : ty = t) : mV l yX7_loads wsX7_loads ({ frames := 2, cells := 0, slots := 0, locals := 47 }) G dce sz M [.ref x, .int si, .int kd, .int ty] (fun M' => MW G M' x ad (itm (mLd i k t) (rdK w k) w) ∧ mFr x ad M M') (0) (0) := by
  subst hsi
  subst hkd
  subst hty
  exact c_loads l G dce sz M x ad w hm i k hi hk2 ty
theorem c_goesKy (l : Launch) (G : gG) (dce sz : Nat) (M : gM) (x : Nat) (ad : Nat → Nat) (w : mW) (hm : MW G M x ad w) (i k j : Nat) (hi : i < 3) (hk2 : k < 2) (hj2 : j < 1024) (si : Int32) (hsi : si = nI i) (kd : Int32) (hkd : kd = nI k) (ky : Int32) (hky : ky = nI j) : mV l yX7_goes wsX7_goes ({ frames := 1, cells := 0, slots := 0, locals := 22 }) G dce sz M [.ref x, .int si, .int kd, .int ky] (fun M' => MW G M' x ad (mGo i k j w) ∧ mFr x ad M M') (0) (0) := by
  subst hsi
  subst hkd
  subst hky
  exact c_goes l G dce sz M x ad w hm i k j hi hk2 hj2
set_option maxHeartbeats 4000000 in
set_option maxRecDepth 100000 in
theorem c_mRemove (l : Launch) (G : gG) (dce sz : Nat) (M : gM) (x : Nat) (ad : Nat → Nat) (w : mW) (hm : MW G M x ad w) (si kd ky : Int32) : mI l yX7_remove wsX7_remove ({ frames := 4, cells := 0, slots := 0, locals := 96 }) G dce sz M [.ref x, .int si, .int kd, .int ky] (fun r M' => mFr x ad M M' ∧ (((aA w si kd ky true) = 0 ∧ ∃ i k j, aS si i ∧ aK kd k ∧ (j < rdK w k ∧ ky = nI j) ∧ mKn w i k (nI j) = true ∧ ((k = 1 ∧ r = 1 ∧ MW G M' x ad (mRmB i j (mH w 0))) ∨ (k = 0 ∧ r = nI (1 + cnm (mRef i (nI j)) (mRb i (nI j)) (mRm0 i j (mH w 0)) (rdK w 1)) ∧ MW G M' x ad (mRmA i j (mH w 0))))) ∨ ((aA w si kd ky true) ≠ 0 ∧ MW G M' x ad (mH w (aA w si kd ky true))))) (0) (0) := by
  have hx0 : M x = some (.inr (8, [.int (rdH w), .ref (ad 1), .ref (ad 2), .ref (ad 3), .ref (ad 4), .ref (ad 5), .ref (ad 6), .ref (ad 7), .ref (ad 8), .ref (ad 9), .ref (ad 10), .ref (ad 11), .ref (ad 12), .ref (ad 13), .int (nI (rdN w)), .ref (ad 15)])) := hm.1
  refine wMet (Qc := QI G _) (cc := cX7_remove) (maxL := 6) (ret := (some .int)) (by decide) rfl (Nat.le_of_ble_eq_true rfl) ?_
  intro p e s m below meth c A ls X hnm hw hK hZ hA hS hsz eA hl
  obtain ⟨hx, hb, hr, hts, hown, hlk, hml⟩ := id X
  have hl : lv_has ls 6 [(0, .ref x), (1, .int si), (2, .int kd), (3, .int ky)] := hl
  have iX7 : ∀ w ∈ wsX70, w ∈ wsX7_remove := by decide +kernel
  refine lv_aload_n hx hb dX7_remove_0 rfl (lv_at hl 0 rfl) ?_
  refine lv_iload_n hx hb dX7_remove_1 rfl (lv_at hl 1 rfl) ?_
  refine lv_iload_n hx hb dX7_remove_2 rfl (lv_at hl 2 rfl) ?_
  refine lv_iload_n hx hb dX7_remove_3 rfl (lv_at hl 3 rfl) ?_
  refine lv_iconst (v := 1) hx hb dX7_remove_4 (by decide) ?_
  refine m_callVi X (ci := 8) rfl hx0 hK hw hZ hS hA (As := [.int si, .int kd, .int ky, .int 1]) (rest := []) (c_isAsked l G dce _ M x ad w hm si kd ky true) (cwV 4 hts gX7_remove_X7_isAsked rfl rfl rfl (by decide +kernel) ⟨Nat.le_of_ble_eq_true rfl, Nat.le_of_ble_eq_true rfl⟩) rfl hl.1 rfl (Nat.le_of_ble_eq_true rfl) dX7_remove_5 (Nat.le_of_ble_eq_true rfl) (Nat.le_of_ble_eq_true rfl) (fun r2 M1 H locs hp hw hS hz hk => ?_)
  obtain ⟨hrt3, hmt3, hft3⟩ := hp
  rw [hrt3]
  have frt3 := mFr.tr mFr.rf hft3
  have hxt3 : M1 x = some (.inr (8, [.int (rdH (mH w (aA w si kd ky true))), .ref (ad 1), .ref (ad 2), .ref (ad 3), .ref (ad 4), .ref (ad 5), .ref (ad 6), .ref (ad 7), .ref (ad 8), .ref (ad 9), .ref (ad 10), .ref (ad 11), .ref (ad 12), .ref (ad 13), .int (nI (rdN (mH w (aA w si kd ky true)))), .ref (ad 15)])) := hmt3.1
  refine lv_if_ne (tgt := 13) hx hb dX7_remove_8 (by decide) (fun c_8 => ?_) (fun c_8 => ?_)
  · have h0 : aA w si kd ky true = 0 := of_decide_eq_true (bI_t c_8)
    obtain ⟨i, k, j, ⟨hi, ei⟩, ⟨hk2, ek⟩, hb9, ⟨hjk, ej⟩, hkn⟩ := aA_0 (fun k hk => hm.kb hk) h0
    have hjb := hm.kb hk2
    have hj2 : j < 1024 := by omega
    have hm0 : MW G M1 x ad (mH w 0) := by have h9 := hmt3; rw [h0] at h9; exact h9
    have hxo0 : M1 x = some (.inr (8, [.int (rdH (mH w 0)), .ref (ad 1), .ref (ad 2), .ref (ad 3), .ref (ad 4), .ref (ad 5), .ref (ad 6), .ref (ad 7), .ref (ad 8), .ref (ad 9), .ref (ad 10), .ref (ad 11), .ref (ad 12), .ref (ad 13), .int (nI (rdN (mH w 0))), .ref (ad 15)])) := hm0.1
    refine lv_iload_n hx hb dX7_remove_13 rfl (lv_at hl 2 rfl) ?_
    refine lv_iconst (v := 1) hx hb dX7_remove_14 (by decide) ?_
    refine lv_icmp_ne (tgt := 26) hx hb dX7_remove_15 (by decide) (fun c_15 => ?_) (fun c_15 => ?_)
    · have hk1 : k = 0 := by
        rcases (show k = 0 ∨ k = 1 by omega) with h9 | h9
        · exact h9
        · exact absurd (ek.trans (by rw [h9]; rfl)) c_15
      subst hk1
      refine lv_aload_n hx hb dX7_remove_26 rfl (lv_at hl 0 rfl) ?_
      refine lv_iload_n hx hb dX7_remove_27 rfl (lv_at hl 1 rfl) ?_
      refine lv_iconst (v := 1) hx hb dX7_remove_28 (by decide) ?_
      refine lv_iload_n hx hb dX7_remove_29 rfl (lv_at hl 3 rfl) ?_
      refine m_callVv X (ci := 8) rfl hxo0 hK hw hZ hS hA (As := [.int si, .int 1, .int ky]) (rest := []) (c_loadsKt l G dce _ M1 x ad (mH w 0) hm0 i 1 hi (by decide) (nI j) si ei 1 rfl ky ej) (cwV 3 hts gX7_remove_X7_loads rfl rfl rfl (by decide +kernel) ⟨Nat.le_of_ble_eq_true rfl, Nat.le_of_ble_eq_true rfl⟩) rfl hl.1 rfl (Nat.le_of_ble_eq_true rfl) dX7_remove_30 (Nat.le_of_ble_eq_true rfl) (Nat.le_of_ble_eq_true rfl) (fun M4 H locs hp hw hS hz hk => ?_)
      obtain ⟨hmt5, hft5⟩ := hp
      have frt5 := mFr.tr frt3 hft5
      have hxt5 : M4 x = some (.inr (8, [.int (rdH (itm (mLd i 1 (nI j)) (rdK w 1) (mH w 0))), .ref (ad 1), .ref (ad 2), .ref (ad 3), .ref (ad 4), .ref (ad 5), .ref (ad 6), .ref (ad 7), .ref (ad 8), .ref (ad 9), .ref (ad 10), .ref (ad 11), .ref (ad 12), .ref (ad 13), .int (nI (rdN (itm (mLd i 1 (nI j)) (rdK w 1) (mH w 0)))), .ref (ad 15)])) := hmt5.1
      refine lv_aload_n hx hb dX7_remove_33 rfl (lv_at hl 0 rfl) ?_
      refine lv_iload_n hx hb dX7_remove_34 rfl (lv_at hl 1 rfl) ?_
      refine lv_iconst (v := 0) hx hb dX7_remove_35 (by decide) ?_
      refine lv_iload_n hx hb dX7_remove_36 rfl (lv_at hl 3 rfl) ?_
      refine m_callVv X (ci := 8) rfl hxt5 hK hw hZ hS hA (As := [.int si, .int 0, .int ky]) (rest := []) (c_goesKy l G dce _ M4 x ad (itm (mLd i 1 (nI j)) (rdK w 1) (mH w 0)) hmt5 i 0 j hi (by decide) hj2 si ei 0 rfl ky ej) (cwV 3 hts gX7_remove_X7_goes rfl rfl rfl (by decide +kernel) ⟨Nat.le_of_ble_eq_true rfl, Nat.le_of_ble_eq_true rfl⟩) rfl hl.1 rfl (Nat.le_of_ble_eq_true rfl) dX7_remove_37 (Nat.le_of_ble_eq_true rfl) (Nat.le_of_ble_eq_true rfl) (fun M6 H locs hp hw hS hz hk => ?_)
      obtain ⟨hmt7, hft7⟩ := hp
      have frt7 := mFr.tr frt5 hft7
      have hxt7 : M6 x = some (.inr (8, [.int (rdH (mRm0 i j (mH w 0))), .ref (ad 1), .ref (ad 2), .ref (ad 3), .ref (ad 4), .ref (ad 5), .ref (ad 6), .ref (ad 7), .ref (ad 8), .ref (ad 9), .ref (ad 10), .ref (ad 11), .ref (ad 12), .ref (ad 13), .int (nI (rdN (mRm0 i j (mH w 0)))), .ref (ad 15)])) := hmt7.1
      refine lv_iconst (v := 1) hx hb dX7_remove_40 (by decide) ?_
      refine lv_istore (lv' := [(4, .int (nI (1 + cnm (mRef i (nI j)) (mRb i (nI j)) (mRm0 i j (mH w 0)) 0))), (0, .ref x), (1, .int si), (2, .int kd), (3, .int ky)]) hx hb dX7_remove_41 hl (by decide) rfl (fun ls hl => ?_)
      refine lv_iconst (v := 0) hx hb dX7_remove_43 (by decide) ?_
      refine lv_istore (lv' := [(5, .int (nI 0)), (4, .int (nI (1 + cnm (mRef i (nI j)) (mRb i (nI j)) (mRm0 i j (mH w 0)) 0))), (0, .ref x), (1, .int si), (2, .int kd), (3, .int ky)]) hx hb dX7_remove_44 hl (by decide) rfl (fun ls hl => ?_)
      have loopa : ∀ (d : Nat) (ja : Nat) (wa : mW) (Ma : gM) (H : Heap) (locs : List Loc) (ls : Array Slot), ja ≤ rdK (mRm0 i j (mH w 0)) 1 → rdK (mRm0 i j (mH w 0)) 1 + 1 ≤ ja + d → wa = itm (mRb i (nI j)) ja (mRm0 i j (mH w 0)) → MW G Ma x ad wa → mFr x ad M Ma → wd G A Ma H → va_S A s.heap H locs → lv_has ls 6 [(5, .int (nI ja)), (4, .int (nI (1 + cnm (mRef i (nI j)) (mRb i (nI j)) (mRm0 i j (mH w 0)) ja))), (0, .ref x), (1, .int si), (3, .int ky)] → W p l e ({ frames := 4, cells := 0, slots := 0, locals := 96 }) s m [.ref x, .int si, .int kd, .int ky].toArray below meth c H locs (0) (0) (MQ below (QI G (fun r M' => mFr x ad M M' ∧ (((aA w si kd ky true) = 0 ∧ ∃ i k j, aS si i ∧ aK kd k ∧ (j < rdK w k ∧ ky = nI j) ∧ mKn w i k (nI j) = true ∧ ((k = 1 ∧ r = 1 ∧ MW G M' x ad (mRmB i j (mH w 0))) ∨ (k = 0 ∧ r = nI (1 + cnm (mRef i (nI j)) (mRb i (nI j)) (mRm0 i j (mH w 0)) (rdK w 1)) ∧ MW G M' x ad (mRmA i j (mH w 0))))) ∨ ((aA w si kd ky true) ≠ 0 ∧ MW G M' x ad (mH w (aA w si kd ky true))))) A) [.ref x, .int si, .int kd, .int ky].toArray s (0) (0) A) (F0 m 46 ls []) := by
        intro d
        induction d with
        | zero => intro ja wa Ma H locs ls h1 h2; exact absurd h2 (by omega)
        | succ d ih =>
          intro ja wa Ma H locs ls hja1 hja2 hza hma hfa hw hS hl
          have hxla : Ma x = some (.inr (8, [.int (rdH wa), .ref (ad 1), .ref (ad 2), .ref (ad 3), .ref (ad 4), .ref (ad 5), .ref (ad 6), .ref (ad 7), .ref (ad 8), .ref (ad 9), .ref (ad 10), .ref (ad 11), .ref (ad 12), .ref (ad 13), .int (nI (rdN wa)), .ref (ad 15)])) := hma.1
          have hna : rdK wa = rdK (mRm0 i j (mH w 0)) := by rw [hza]; exact itm_K (mRb_K i (nI j)) ja (mRm0 i j (mH w 0))
          have hba : rdK (mRm0 i j (mH w 0)) 1 ≤ 1024 := hmt7.kb (by decide)
          refine lv_iload hx hb dX7_remove_46 (lv_at hl 0 rfl) ?_
          refine lv_aload_n hx hb dX7_remove_48 rfl (lv_at hl 2 rfl) ?_
          refine m_get X iX7 hK hw hxla rfl 1 (by decide) (ref := "ObjectMapperModel") (by decide +kernel) (Or.inl rfl) rfl dX7_remove_49 ?_
          refine lv_iconst (v := 1) hx hb dX7_remove_52 (by decide) ?_
          have ix8 : (1 : Int32) = nI 1 := rfl
          have ix8b : 1 < 2 := (by decide)
          refine m_iald X hK hw (hma.a1) (i := 1) (by rw [ix8]; exact vp_in_nI ix8b (by decide)) dX7_remove_53 ?_
          rw [show (1 : Int32).toNatClampNeg = 1 from by rw [ix8]; exact nI_clamp (by omega)]
          rw [show nI (rdK wa 1) = nI (rdK (mRm0 i j (mH w 0)) 1) from by rw [hna]]
          refine lv_icmp_ge (tgt := 100) hx hb dX7_remove_54 (by decide) (fun c_54 => ?_) (fun c_54 => ?_)
          · have hkna : rdK (mRm0 i j (mH w 0)) 1 ≤ ja := (nI_leI (by omega) (by omega)).mp c_54
            have hjja : ja = rdK (mRm0 i j (mH w 0)) 1 := by omega
            rw [hjja] at hza
            refine lv_iload hx hb dX7_remove_100 (lv_at hl 1 rfl) ?_
            have hkr : rdK (mRm0 i j (mH w 0)) = rdK w := itm_K (mLd_K i 1 (nI j)) _ _
            have hfin : mRmA i j (mH w 0) = wa := by rw [hza, hkr]; rfl
            exact m_iret X hK hw hS ⟨hfa, Or.inl ⟨h0, i, 0, j, ⟨hi, ei⟩, ⟨by decide, ek⟩, ⟨hjk, ej⟩, hkn, Or.inr ⟨rfl, by rw [hjja, hkr], by rw [hfin]; exact hma⟩⟩⟩ (by omega) (by omega) dX7_remove_102
          · have hkla : ja < rdK (mRm0 i j (mH w 0)) 1 := Nat.lt_of_not_le (fun q => c_54 (nI_le q (by omega)))
            have hj9a : ja < 1024 := by omega
            have hkwa : ja < rdK wa 1 := by rw [hna]; exact hkla
            refine lv_aload_n hx hb dX7_remove_57 rfl (lv_at hl 2 rfl) ?_
            refine lv_iload_n hx hb dX7_remove_58 rfl (lv_at hl 3 rfl) ?_
            refine lv_iconst (v := 1) hx hb dX7_remove_59 (by decide) ?_
            refine lv_iload hx hb dX7_remove_60 (lv_at hl 0 rfl) ?_
            refine m_callVi X (ci := 8) rfl hxla hK hw hZ hS hA (As := [.int si, .int 1, .int (nI ja)]) (rest := []) (c_knowsK l G dce _ Ma x ad wa hma i 1 hi (by decide) (nI ja) si ei 1 rfl) (cwV 3 hts gX7_remove_X7_knows rfl rfl rfl (by decide +kernel) ⟨Nat.le_of_ble_eq_true rfl, Nat.le_of_ble_eq_true rfl⟩) rfl hl.1 rfl (Nat.le_of_ble_eq_true rfl) dX7_remove_62 (Nat.le_of_ble_eq_true rfl) (Nat.le_of_ble_eq_true rfl) (fun r10 M9 H locs hp hw hS hz hk => ?_)
            rw [hp.2] at hw
            rw [hp.1]
            refine lv_if_eq (tgt := 94) hx hb dX7_remove_65 (by decide) (fun c_65 => ?_) (fun c_65 => ?_)
            · have hp9 : (mRef i (nI j) wa ja) = false := by unfold mRef; simp [((bI_0 _).mp c_65), ← ej]
              have hcn : 1 + cnm (mRef i (nI j)) (mRb i (nI j)) (mRm0 i j (mH w 0)) ja = 1 + cnm (mRef i (nI j)) (mRb i (nI j)) (mRm0 i j (mH w 0)) (ja + 1) := by show _ = 1 + (cnm (mRef i (nI j)) (mRb i (nI j)) (mRm0 i j (mH w 0)) ja + (if mRef i (nI j) (itm (mRb i (nI j)) ja (mRm0 i j (mH w 0))) ja = true then 1 else 0)); rw [← hza, if_neg (by rw [hp9]; decide)]; rfl
              rw [hcn] at hl
              refine lv_iinc (v := (nI (ja + 1))) (lv' := [(5, .int (nI (ja + 1))), (4, .int (nI (1 + cnm (mRef i (nI j)) (mRb i (nI j)) (mRm0 i j (mH w 0)) (ja + 1)))), (0, .ref x), (1, .int si), (3, .int ky)]) hx hb dX7_remove_94 hl (k := 0) rfl (nI_1 _) (by decide) rfl (fun ls hl => ?_)
              refine lv_goto (tgt := 46) hx hb dX7_remove_97 (by decide) ?_
              have hza2 : wa = itm (mRb i (nI j)) (ja + 1) (mRm0 i j (mH w 0)) := by
                show _ = (mRb i (nI j)) ja (itm (mRb i (nI j)) ja (mRm0 i j (mH w 0)))
                rw [← hza]
                unfold mRb
                rw [if_neg (by show ¬ mRef i (nI j) wa ja = true; rw [hp9]; decide)]
              exact ih (ja + 1) wa Ma H locs ls (by omega) (by omega) hza2 hma hfa hw hS (lv_sub hl [0, 1, 2, 3, 4] rfl)
            · refine lv_aload_n hx hb dX7_remove_68 rfl (lv_at hl 2 rfl) ?_
              refine m_get X iX7 hK hw hxla rfl 10 (by decide) (ref := "ObjectMapperModel") (by decide +kernel) (Or.inl rfl) rfl dX7_remove_69 ?_
              refine lv_iload_n hx hb dX7_remove_72 rfl (lv_at hl 3 rfl) ?_
              refine lv_iconst (v := 1) hx hb dX7_remove_73 (by decide) ?_
              refine lv_iload hx hb dX7_remove_74 (lv_at hl 0 rfl) ?_
              refine m_callSi X hK hw hZ hS hA (As := [.int si, .int 1, .int (nI ja)]) (rest := [.ref (ad 10)]) (c_atK l G dce _ Ma i 1 ja si ei 1 rfl (nI ja) rfl) (va_cwS 3 hts gX7_remove_X7_at rfl rfl rfl (by decide +kernel) ⟨Nat.le_of_ble_eq_true rfl, Nat.le_of_ble_eq_true rfl⟩) rfl hl.1 rfl (Nat.le_of_ble_eq_true rfl) dX7_remove_76 (Nat.le_of_ble_eq_true rfl) (Nat.le_of_ble_eq_true rfl) (fun r12 M11 H locs hp hw hS hz hk => ?_)
              rw [hp.2] at hw
              rw [hp.1]
              have ix13 : ((nI (aP i 1 ja)) : Int32) = nI (aP i 1 ja) := rfl
              have ix13b : (aP i 1 ja) < 6144 := (aP_lt hi (by decide) hj9a)
              refine m_iald X hK hw (hma.a10) (i := (nI (aP i 1 ja))) (by rw [ix13]; exact vp_in_nI ix13b (by decide)) dX7_remove_79 ?_
              rw [show ((nI (aP i 1 ja)) : Int32).toNatClampNeg = (aP i 1 ja) from by rw [ix13]; exact nI_clamp (by omega)]
              refine lv_iload_n hx hb dX7_remove_80 rfl (lv_at hl 4 rfl) ?_
              refine lv_icmp_ne (tgt := 94) hx hb dX7_remove_81 (by decide) (fun c_81 => ?_) (fun c_81 => ?_)
              · have hp9 : (mRef i (nI j) wa ja) = false := by unfold mRef; simp [(bI_t c_65), c_81, ← ej]
                have hcn : 1 + cnm (mRef i (nI j)) (mRb i (nI j)) (mRm0 i j (mH w 0)) ja = 1 + cnm (mRef i (nI j)) (mRb i (nI j)) (mRm0 i j (mH w 0)) (ja + 1) := by show _ = 1 + (cnm (mRef i (nI j)) (mRb i (nI j)) (mRm0 i j (mH w 0)) ja + (if mRef i (nI j) (itm (mRb i (nI j)) ja (mRm0 i j (mH w 0))) ja = true then 1 else 0)); rw [← hza, if_neg (by rw [hp9]; decide)]; rfl
                rw [hcn] at hl
                refine lv_iinc (v := (nI (ja + 1))) (lv' := [(5, .int (nI (ja + 1))), (4, .int (nI (1 + cnm (mRef i (nI j)) (mRb i (nI j)) (mRm0 i j (mH w 0)) (ja + 1)))), (0, .ref x), (1, .int si), (3, .int ky)]) hx hb dX7_remove_94 hl (k := 0) rfl (nI_1 _) (by decide) rfl (fun ls hl => ?_)
                refine lv_goto (tgt := 46) hx hb dX7_remove_97 (by decide) ?_
                have hza2 : wa = itm (mRb i (nI j)) (ja + 1) (mRm0 i j (mH w 0)) := by
                  show _ = (mRb i (nI j)) ja (itm (mRb i (nI j)) ja (mRm0 i j (mH w 0)))
                  rw [← hza]
                  unfold mRb
                  rw [if_neg (by show ¬ mRef i (nI j) wa ja = true; rw [hp9]; decide)]
                exact ih (ja + 1) wa Ma H locs ls (by omega) (by omega) hza2 hma hfa hw hS (lv_sub hl [0, 1, 2, 3, 4] rfl)
              · refine lv_aload_n hx hb dX7_remove_84 rfl (lv_at hl 2 rfl) ?_
                refine lv_iload_n hx hb dX7_remove_85 rfl (lv_at hl 3 rfl) ?_
                refine lv_iload hx hb dX7_remove_86 (lv_at hl 0 rfl) ?_
                refine m_callVv X (ci := 8) rfl hxla hK hw hZ hS hA (As := [.int si, .int (nI ja)]) (rest := []) (c_removesBookK l G dce _ Ma x ad wa hma i hi ja hj9a si ei (nI ja) rfl) (cwV 2 hts gX7_remove_X7_removesBook rfl rfl rfl (by decide +kernel) ⟨Nat.le_of_ble_eq_true rfl, Nat.le_of_ble_eq_true rfl⟩) rfl hl.1 rfl (Nat.le_of_ble_eq_true rfl) dX7_remove_88 (Nat.le_of_ble_eq_true rfl) (Nat.le_of_ble_eq_true rfl) (fun M14 H locs hp hw hS hz hk => ?_)
                obtain ⟨hmt15, hft15⟩ := hp
                have frt15 := mFr.tr hfa hft15
                have hxt15 : M14 x = some (.inr (8, [.int (rdH (mRmB i ja wa)), .ref (ad 1), .ref (ad 2), .ref (ad 3), .ref (ad 4), .ref (ad 5), .ref (ad 6), .ref (ad 7), .ref (ad 8), .ref (ad 9), .ref (ad 10), .ref (ad 11), .ref (ad 12), .ref (ad 13), .int (nI (rdN (mRmB i ja wa))), .ref (ad 15)])) := hmt15.1
                refine lv_iinc (v := (nI (1 + cnm (mRef i (nI j)) (mRb i (nI j)) (mRm0 i j (mH w 0)) ja + 1))) (lv' := [(4, .int (nI (1 + cnm (mRef i (nI j)) (mRb i (nI j)) (mRm0 i j (mH w 0)) ja + 1))), (5, .int (nI ja)), (0, .ref x), (1, .int si), (3, .int ky)]) hx hb dX7_remove_91 hl (k := 1) rfl (nI_1 _) (by decide) rfl (fun ls hl => ?_)
                have hp9 : (mRef i (nI j) wa ja) = true := by unfold mRef; simp [(bI_t c_65), c_81, ← ej]
                have hcn : 1 + cnm (mRef i (nI j)) (mRb i (nI j)) (mRm0 i j (mH w 0)) ja + 1 = 1 + cnm (mRef i (nI j)) (mRb i (nI j)) (mRm0 i j (mH w 0)) (ja + 1) := by show _ = 1 + (cnm (mRef i (nI j)) (mRb i (nI j)) (mRm0 i j (mH w 0)) ja + (if mRef i (nI j) (itm (mRb i (nI j)) ja (mRm0 i j (mH w 0))) ja = true then 1 else 0)); rw [← hza, if_pos hp9]; omega
                rw [hcn] at hl
                refine lv_iinc (v := (nI (ja + 1))) (lv' := [(5, .int (nI (ja + 1))), (4, .int (nI (1 + cnm (mRef i (nI j)) (mRb i (nI j)) (mRm0 i j (mH w 0)) (ja + 1)))), (0, .ref x), (1, .int si), (3, .int ky)]) hx hb dX7_remove_94 hl (k := 1) rfl (nI_1 _) (by decide) rfl (fun ls hl => ?_)
                refine lv_goto (tgt := 46) hx hb dX7_remove_97 (by decide) ?_
                have hza2 : (mRmB i ja wa) = itm (mRb i (nI j)) (ja + 1) (mRm0 i j (mH w 0)) := by
                  show _ = (mRb i (nI j)) ja (itm (mRb i (nI j)) ja (mRm0 i j (mH w 0)))
                  rw [← hza]
                  unfold mRb
                  rw [if_pos (show (mKn wa i 1 (nI ja) && decide (rdT wa 10 (aP i 1 ja) = nI j)) = true from hp9)]
                exact ih (ja + 1) (mRmB i ja wa) M14 H locs ls (by omega) (by omega) hza2 hmt15 frt15 hw hS (lv_sub hl [0, 1, 2, 3, 4] rfl)
      exact loopa (rdK (mRm0 i j (mH w 0)) 1 + 1) 0 (mRm0 i j (mH w 0)) M6 _ _ ls (Nat.zero_le _) (Nat.le_of_eq (Nat.zero_add _).symm) rfl hmt7 frt7 hw hS (lv_sub hl [0, 1, 2, 3, 5] rfl)
    · have hk1 : k = 1 := (nI_eq (by omega) (by decide)).mp (ek.symm.trans c_15)
      subst hk1
      refine lv_aload_n hx hb dX7_remove_18 rfl (lv_at hl 0 rfl) ?_
      refine lv_iload_n hx hb dX7_remove_19 rfl (lv_at hl 1 rfl) ?_
      refine lv_iload_n hx hb dX7_remove_20 rfl (lv_at hl 3 rfl) ?_
      refine m_callVv X (ci := 8) rfl hxo0 hK hw hZ hS hA (As := [.int si, .int ky]) (rest := []) (c_removesBookK l G dce _ M1 x ad (mH w 0) hm0 i hi j hj2 si ei ky ej) (cwV 2 hts gX7_remove_X7_removesBook rfl rfl rfl (by decide +kernel) ⟨Nat.le_of_ble_eq_true rfl, Nat.le_of_ble_eq_true rfl⟩) rfl hl.1 rfl (Nat.le_of_ble_eq_true rfl) dX7_remove_21 (Nat.le_of_ble_eq_true rfl) (Nat.le_of_ble_eq_true rfl) (fun M16 H locs hp hw hS hz hk => ?_)
      obtain ⟨hmt17, hft17⟩ := hp
      have frt17 := mFr.tr frt3 hft17
      have hxt17 : M16 x = some (.inr (8, [.int (rdH (mRmB i j (mH w 0))), .ref (ad 1), .ref (ad 2), .ref (ad 3), .ref (ad 4), .ref (ad 5), .ref (ad 6), .ref (ad 7), .ref (ad 8), .ref (ad 9), .ref (ad 10), .ref (ad 11), .ref (ad 12), .ref (ad 13), .int (nI (rdN (mRmB i j (mH w 0)))), .ref (ad 15)])) := hmt17.1
      refine lv_iconst (v := 1) hx hb dX7_remove_24 (by decide) ?_
      exact m_iret X hK hw hS ⟨frt17, Or.inl ⟨h0, i, 1, j, ⟨hi, ei⟩, ⟨by decide, ek⟩, ⟨hjk, ej⟩, hkn, Or.inl ⟨rfl, rfl, hmt17⟩⟩⟩ (by omega) (by omega) dX7_remove_25
  · refine lv_iconst (v := 0) hx hb dX7_remove_11 (by decide) ?_
    exact m_iret X hK hw hS ⟨frt3, Or.inr ⟨of_decide_eq_false (((bI_0 _).mp c_8)), hmt3⟩⟩ (by omega) (by omega) dX7_remove_12
