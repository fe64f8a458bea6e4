set_option maxHeartbeats 4000000 in
set_option maxRecDepth 100000 in
theorem c_holds (l : Launch) (G : gG) (dce sz : Nat) (M : gM) (x : Nat) (ad : Nat → Nat) (w : mW) (hm : MW G M x ad w) (pl : Int32) : mI l yX7_holds wsX7_holds ({ frames := 0, cells := 0, slots := 0, locals := 0 }) G dce sz M [.ref x, .int pl] (fun r M' => r = bI (decide (pl = 0)) ∧ MW G M' x ad (mH w pl) ∧ mFr x ad M M') (0) (0) := by
  have hx0 : M x = some (.inr (8, [.int (rdH w), .ref (ad 1), .ref (ad 2), .ref (ad 3), .ref (ad 4), .ref (ad 5), .ref (ad 6), .ref (ad 7), .ref (ad 8), .ref (ad 9), .ref (ad 10), .ref (ad 11), .ref (ad 12), .ref (ad 13), .int (nI (rdN w)), .ref (ad 15)])) := hm.1
  refine wMet (Qc := QI G _) (cc := cX7_holds) (maxL := 2) (ret := (some .boolean)) (by decide) rfl (Nat.le_of_ble_eq_true rfl) ?_
  intro p e s m below meth c A ls X hnm hw hK hZ hA hS hsz eA hl
  obtain ⟨hx, hb, hr, hts, hown, hlk, hml⟩ := id X
  have hl : lv_has ls 2 [(0, .ref x), (1, .int pl)] := hl
  have iX7 : ∀ w ∈ wsX70, w ∈ wsX7_holds := by decide +kernel
  refine lv_aload_n hx hb dX7_holds_0 rfl (lv_at hl 0 rfl) ?_
  refine lv_iload_n hx hb dX7_holds_1 rfl (lv_at hl 1 rfl) ?_
  refine m_put X iX7 tyX7_ok nmX7 hK hw hS hx0 rfl 0 (by decide) (ref := "ObjectMapperModel") (by decide +kernel) (Or.inl rfl) rfl (v := .int pl) rfl rfl (Nat.le_of_ble_eq_true rfl) (fs1 := [.int pl, .ref (ad 1), .ref (ad 2), .ref (ad 3), .ref (ad 4), .ref (ad 5), .ref (ad 6), .ref (ad 7), .ref (ad 8), .ref (ad 9), .ref (ad 10), .ref (ad 11), .ref (ad 12), .ref (ad 13), .int (nI (rdN w)), .ref (ad 15)]) rfl dX7_holds_2 (fun M1 H locs eM1 hw hS => ?_)
  have k2 : M1 x = some (.inr (8, [.int pl, .ref (ad 1), .ref (ad 2), .ref (ad 3), .ref (ad 4), .ref (ad 5), .ref (ad 6), .ref (ad 7), .ref (ad 8), .ref (ad 9), .ref (ad 10), .ref (ad 11), .ref (ad 12), .ref (ad 13), .int (nI (rdN w)), .ref (ad 15)])) := by rw [eM1]; exact mu_s _ _ _
  have hmt3 : MW G M1 x ad (mH w pl) := hm.setH eM1
  have frt3 := mFr.tr mFr.rf (mFr.mx (x := x) (ad := ad) eM1)
  have hxt3 : M1 x = some (.inr (8, [.int (rdH (mH w pl)), .ref (ad 1), .ref (ad 2), .ref (ad 3), .ref (ad 4), .ref (ad 5), .ref (ad 6), .ref (ad 7), .ref (ad 8), .ref (ad 9), .ref (ad 10), .ref (ad 11), .ref (ad 12), .ref (ad 13), .int (nI (rdN (mH w pl))), .ref (ad 15)])) := hmt3.1
  refine lv_iload_n hx hb dX7_holds_5 rfl (lv_at hl 1 rfl) ?_
  refine lv_if_ne (tgt := 13) hx hb dX7_holds_6 (by decide) (fun c_6 => ?_) (fun c_6 => ?_)
  · refine lv_iconst (v := 0) hx hb dX7_holds_13 (by decide) ?_
    exact m_zret X (by decide) hK hw hS ⟨by simp [bI, c_6], hmt3, frt3⟩ (by omega) (by omega) dX7_holds_14
  · refine lv_iconst (v := 1) hx hb dX7_holds_9 (by decide) ?_
    refine lv_goto (tgt := 14) hx hb dX7_holds_10 (by decide) ?_
    exact m_zret X (by decide) hK hw hS ⟨by simp [bI, c_6], hmt3, frt3⟩ (by omega) (by omega) dX7_holds_14
set_option maxHeartbeats 4000000 in
set_option maxRecDepth 100000 in
theorem c_thrown (l : Launch) (G : gG) (dce sz : Nat) (M : gM) (x : Nat) (ad : Nat → Nat) (w : mW) (hm : MW G M x ad w) : mI l yX7_thrown wsX7_thrown ({ frames := 0, cells := 0, slots := 0, locals := 0 }) G dce sz M [.ref x] (fun r M' => r = rdH w ∧ M' = M) (0) (0) := by
  have hx0 : M x = some (.inr (8, [.int (rdH w), .ref (ad 1), .ref (ad 2), .ref (ad 3), .ref (ad 4), .ref (ad 5), .ref (ad 6), .ref (ad 7), .ref (ad 8), .ref (ad 9), .ref (ad 10), .ref (ad 11), .ref (ad 12), .ref (ad 13), .int (nI (rdN w)), .ref (ad 15)])) := hm.1
  refine wMet (Qc := QI G _) (cc := cX7_thrown) (maxL := 1) (ret := (some .int)) (by decide) rfl (Nat.le_of_ble_eq_true rfl) ?_
  intro p e s m below meth c A ls X hnm hw hK hZ hA hS hsz eA hl
  obtain ⟨hx, hb, hr, hts, hown, hlk, hml⟩ := id X
  have hl : lv_has ls 1 [(0, .ref x)] := hl
  have iX7 : ∀ w ∈ wsX70, w ∈ wsX7_thrown := by decide +kernel
  refine lv_aload_n hx hb dX7_thrown_0 rfl (lv_at hl 0 rfl) ?_
  refine m_get X iX7 hK hw hx0 rfl 0 (by decide) (ref := "ObjectMapperModel") (by decide +kernel) (Or.inl rfl) rfl dX7_thrown_1 ?_
  exact m_iret X hK hw hS (by exact ⟨rfl, rfl⟩) (by omega) (by omega) dX7_thrown_4
set_option maxHeartbeats 4000000 in
set_option maxRecDepth 100000 in
theorem c_mwrites (l : Launch) (G : gG) (dce sz : Nat) (M : gM) (x : Nat) (ad : Nat → Nat) (w : mW) (hm : MW G M x ad w) : mI l yX7_writes wsX7_writes ({ frames := 0, cells := 0, slots := 0, locals := 0 }) G dce sz M [.ref x] (fun r M' => r = nI (rdN w) ∧ MW G M' x ad (mH w 0) ∧ mFr x ad M M') (0) (0) := by
  have hx0 : M x = some (.inr (8, [.int (rdH w), .ref (ad 1), .ref (ad 2), .ref (ad 3), .ref (ad 4), .ref (ad 5), .ref (ad 6), .ref (ad 7), .ref (ad 8), .ref (ad 9), .ref (ad 10), .ref (ad 11), .ref (ad 12), .ref (ad 13), .int (nI (rdN w)), .ref (ad 15)])) := hm.1
  refine wMet (Qc := QI G _) (cc := cX7_writes) (maxL := 1) (ret := (some .int)) (by decide) rfl (Nat.le_of_ble_eq_true rfl) ?_
  intro p e s m below meth c A ls X hnm hw hK hZ hA hS hsz eA hl
  obtain ⟨hx, hb, hr, hts, hown, hlk, hml⟩ := id X
  have hl : lv_has ls 1 [(0, .ref x)] := hl
  have iX7 : ∀ w ∈ wsX70, w ∈ wsX7_writes := by decide +kernel
  refine lv_aload_n hx hb dX7_writes_0 rfl (lv_at hl 0 rfl) ?_
  refine lv_iconst (v := 0) hx hb dX7_writes_1 (by decide) ?_
  refine m_put X iX7 tyX7_ok nmX7 hK hw hS hx0 rfl 0 (by decide) (ref := "ObjectMapperModel") (by decide +kernel) (Or.inl rfl) rfl (v := .int 0) rfl rfl (Nat.le_of_ble_eq_true rfl) (fs1 := [.int 0, .ref (ad 1), .ref (ad 2), .ref (ad 3), .ref (ad 4), .ref (ad 5), .ref (ad 6), .ref (ad 7), .ref (ad 8), .ref (ad 9), .ref (ad 10), .ref (ad 11), .ref (ad 12), .ref (ad 13), .int (nI (rdN w)), .ref (ad 15)]) rfl dX7_writes_2 (fun M1 H locs eM1 hw hS => ?_)
  have k2 : M1 x = some (.inr (8, [.int 0, .ref (ad 1), .ref (ad 2), .ref (ad 3), .ref (ad 4), .ref (ad 5), .ref (ad 6), .ref (ad 7), .ref (ad 8), .ref (ad 9), .ref (ad 10), .ref (ad 11), .ref (ad 12), .ref (ad 13), .int (nI (rdN w)), .ref (ad 15)])) := by rw [eM1]; exact mu_s _ _ _
  have hmt3 : MW G M1 x ad (mH w 0) := hm.setH eM1
  have frt3 := mFr.tr mFr.rf (mFr.mx (x := x) (ad := ad) eM1)
  have hxt3 : M1 x = some (.inr (8, [.int (rdH (mH w 0)), .ref (ad 1), .ref (ad 2), .ref (ad 3), .ref (ad 4), .ref (ad 5), .ref (ad 6), .ref (ad 7), .ref (ad 8), .ref (ad 9), .ref (ad 10), .ref (ad 11), .ref (ad 12), .ref (ad 13), .int (nI (rdN (mH w 0))), .ref (ad 15)])) := hmt3.1
  refine lv_aload_n hx hb dX7_writes_5 rfl (lv_at hl 0 rfl) ?_
  refine m_get X iX7 hK hw hxt3 rfl 14 (by decide) (ref := "ObjectMapperModel") (by decide +kernel) (Or.inl rfl) rfl dX7_writes_6 ?_
  exact m_iret X hK hw hS ⟨rfl, hmt3, frt3⟩ (by omega) (by omega) dX7_writes_9
set_option maxHeartbeats 4000000 in
set_option maxRecDepth 100000 in
theorem c_notes (l : Launch) (G : gG) (dce sz : Nat) (M : gM) (x : Nat) (ad : Nat → Nat) (w : mW) (hm : MW G M x ad w) (ac k j : Nat) (hN : rdN w < 2 ^ 31) : mV l yX7_notes wsX7_notes ({ frames := 0, cells := 0, slots := 0, locals := 0 }) G dce sz M [.ref x, .int (nI ac), .int (nI k), .int (nI j)] (fun M' => MW G M' x ad (mNo ac k j w) ∧ mFr x ad M M') (0) (0) := by
  have hx0 : M x = some (.inr (8, [.int (rdH w), .ref (ad 1), .ref (ad 2), .ref (ad 3), .ref (ad 4), .ref (ad 5), .ref (ad 6), .ref (ad 7), .ref (ad 8), .ref (ad 9), .ref (ad 10), .ref (ad 11), .ref (ad 12), .ref (ad 13), .int (nI (rdN w)), .ref (ad 15)])) := hm.1
  refine wMet (Qc := QV G _) (cc := cX7_notes) (maxL := 4) (ret := none) (by decide) rfl (Nat.le_of_ble_eq_true rfl) ?_
  intro p e s m below meth c A ls X hnm hw hK hZ hA hS hsz eA hl
  obtain ⟨hx, hb, hr, hts, hown, hlk, hml⟩ := id X
  have hl : lv_has ls 4 [(0, .ref x), (1, .int (nI ac)), (2, .int (nI k)), (3, .int (nI j))] := hl
  have iX7 : ∀ w ∈ wsX70, w ∈ wsX7_notes := by decide +kernel
  refine lv_aload_n hx hb dX7_notes_0 rfl (lv_at hl 0 rfl) ?_
  refine m_get X iX7 hK hw hx0 rfl 15 (by decide) (ref := "ObjectMapperModel") (by decide +kernel) (Or.inl rfl) rfl dX7_notes_1 ?_
  refine lv_aload_n hx hb dX7_notes_4 rfl (lv_at hl 0 rfl) ?_
  refine m_get X iX7 hK hw hx0 rfl 14 (by decide) (ref := "ObjectMapperModel") (by decide +kernel) (Or.inl rfl) rfl dX7_notes_5 ?_
  refine lv_sipush (v := 16384) hx hb dX7_notes_8 (by decide) ?_
  refine lv_irem hx hb dX7_notes_11 (by decide) ?_
  rw [show ((nI (rdN w)) : Int32) - (nI (rdN w)) / (16384 : Int32) * (16384 : Int32) = nI (rdN w % 16384) from pk_rem (a := rdN w) (d := 16384) hN (by decide) (by decide)]
  refine lv_sipush (v := 4096) hx hb dX7_notes_12 (by decide) ?_
  refine lv_iload_n hx hb dX7_notes_15 rfl (lv_at hl 1 rfl) ?_
  refine lv_imul hx hb dX7_notes_16 ?_
  rw [show (4096 : Int32) * nI ac = nI (4096 * ac) from nI_mul 4096 ac]
  refine lv_iconst (v := 2) hx hb dX7_notes_17 (by decide) ?_
  refine lv_iload_n hx hb dX7_notes_18 rfl (lv_at hl 3 rfl) ?_
  refine lv_imul hx hb dX7_notes_19 ?_
  rw [show (2 : Int32) * nI j = nI (2 * j) from nI_mul 2 j]
  refine lv_iadd hx hb dX7_notes_20 ?_
  rw [nI_add]
  refine lv_iload_n hx hb dX7_notes_21 rfl (lv_at hl 2 rfl) ?_
  refine lv_iadd hx hb dX7_notes_22 ?_
  rw [nI_add]
  have ix2 : ((nI (rdN w % 16384)) : Int32) = nI (rdN w % 16384) := rfl
  have ix2b : (rdN w % 16384) < 16384 := (Nat.mod_lt _ (by decide))
  refine m_iast X hK hw hS (hm.a15) (i := (nI (rdN w % 16384))) (x := (nI (4096 * ac + 2 * j + k))) (by rw [ix2]; exact vp_in_nI ix2b (by decide)) dX7_notes_23 (fun M1 H locs eM1 hw hS => ?_)
  rw [show ((nI (rdN w % 16384)) : Int32).toNatClampNeg = (rdN w % 16384) from by rw [ix2]; exact nI_clamp (by omega)] at eM1
  obtain ⟨wt3, ewt3⟩ : ∃ w9, w9 = mS w 15 (rdN w % 16384) (nI (4096 * ac + 2 * j + k)) := ⟨_, rfl⟩
  have hmt3 : MW G M1 x ad wt3 := by rw [ewt3]; exact hm.set15 eM1
  have frt3 := mFr.tr mFr.rf (mFr.wr (x := x) (ad := ad) (a := 15) (by decide) eM1)
  have hxt3 : M1 x = some (.inr (8, [.int (rdH wt3), .ref (ad 1), .ref (ad 2), .ref (ad 3), .ref (ad 4), .ref (ad 5), .ref (ad 6), .ref (ad 7), .ref (ad 8), .ref (ad 9), .ref (ad 10), .ref (ad 11), .ref (ad 12), .ref (ad 13), .int (nI (rdN wt3)), .ref (ad 15)])) := hmt3.1
  refine lv_aload_n hx hb dX7_notes_24 rfl (lv_at hl 0 rfl) ?_
  refine lv_dup hx hb dX7_notes_25 rfl ?_
  refine m_get X iX7 hK hw hxt3 rfl 14 (by decide) (ref := "ObjectMapperModel") (by decide +kernel) (Or.inl rfl) rfl dX7_notes_26 ?_
  refine lv_iconst (v := 1) hx hb dX7_notes_29 (by decide) ?_
  refine lv_iadd hx hb dX7_notes_30 ?_
  rw [show nI (rdN wt3) + (1 : Int32) = nI ((rdN wt3) + 1) from nI_1 _]
  refine m_put X iX7 tyX7_ok nmX7 hK hw hS hxt3 rfl 14 (by decide) (ref := "ObjectMapperModel") (by decide +kernel) (Or.inl rfl) rfl (v := .int (nI ((rdN wt3) + 1))) rfl rfl (Nat.le_of_ble_eq_true rfl) (fs1 := [.int (rdH wt3), .ref (ad 1), .ref (ad 2), .ref (ad 3), .ref (ad 4), .ref (ad 5), .ref (ad 6), .ref (ad 7), .ref (ad 8), .ref (ad 9), .ref (ad 10), .ref (ad 11), .ref (ad 12), .ref (ad 13), .int (nI ((rdN wt3) + 1)), .ref (ad 15)]) rfl dX7_notes_31 (fun M4 H locs eM4 hw hS => ?_)
  have k5 : M4 x = some (.inr (8, [.int (rdH wt3), .ref (ad 1), .ref (ad 2), .ref (ad 3), .ref (ad 4), .ref (ad 5), .ref (ad 6), .ref (ad 7), .ref (ad 8), .ref (ad 9), .ref (ad 10), .ref (ad 11), .ref (ad 12), .ref (ad 13), .int (nI ((rdN wt3) + 1)), .ref (ad 15)])) := by rw [eM4]; exact mu_s _ _ _
  have hmt6 : MW G M4 x ad (mN wt3 (rdN wt3 + 1)) := hmt3.setN eM4
  have frt6 := mFr.tr frt3 (mFr.mx (x := x) (ad := ad) eM4)
  have hxt6 : M4 x = some (.inr (8, [.int (rdH (mN wt3 (rdN wt3 + 1))), .ref (ad 1), .ref (ad 2), .ref (ad 3), .ref (ad 4), .ref (ad 5), .ref (ad 6), .ref (ad 7), .ref (ad 8), .ref (ad 9), .ref (ad 10), .ref (ad 11), .ref (ad 12), .ref (ad 13), .int (nI (rdN (mN wt3 (rdN wt3 + 1)))), .ref (ad 15)])) := hmt6.1
  have hfin : mNo ac k j w = (mN wt3 (rdN wt3 + 1)) := by rw [ewt3]; rfl
  exact m_vret X hK hw hS ⟨by rw [hfin]; exact hmt6, frt6⟩ (by omega) (by omega) dX7_notes_34
theorem c_notesK (l : Launch) (G : gG) (dce sz : Nat) (M : gM) (x : Nat) (ad : Nat → Nat) (w : mW) (hm : MW G M x ad w) (ac k j : Nat) (hN : rdN w < 2 ^ 31) (aci : Int32) (haci : aci = nI ac) (kd : Int32) (hkd : kd = nI k) (ky : Int32) (hky : ky = nI j) : mV l yX7_notes wsX7_notes ({ frames := 0, cells := 0, slots := 0, locals := 0 }) G dce sz M [.ref x, .int aci, .int kd, .int ky] (fun M' => MW G M' x ad (mNo ac k j w) ∧ mFr x ad M M') (0) (0) := by
  subst haci
  subst hkd
  subst hky
  exact c_notes l G dce sz M x ad w hm ac k j hN
theorem nI_1sub {k : Nat} (hk : k < 2) : (1 : Int32) - nI k = nI (1 - k) := by
  rcases (show k = 0 ∨ k = 1 by omega) with rfl | rfl <;> decide
def rOK (w : mW) (k : Nat) (r : Int32) : Prop := r = -1 ∨ ∃ q : Nat, q < rdK w k ∧ r = nI q
def mIt (i k j : Nat) (w : mW) : Bool := !decide (rdT w 10 (aP i k j) = -1) && !decide (rdT w 2 (rP (1 - k) (rdT w 10 (aP i k j)).toNatClampNeg) = 0)
def mRi (i k j : Nat) (w : mW) : mW := mS (mS (mS (mS w 2 (rP k j) 1) 3 (rP k j) (rdT w 9 (aP i k j))) 4 (rP k j) (if mIt i k j w = true then rdT w 10 (aP i k j) else -1)) 5 (rP k j) 0
def mIns (i k j : Nat) (w : mW) : mW := mNo 0 k j (mS (mTk i k j (mRi i k j w)) 10 (aP i k j) (rdT w 10 (aP i k j)))
def mRu (i k j : Nat) (w : mW) : mW := mS (mS (mS w 3 (rP k j) (rdT w 9 (aP i k j))) 4 (rP k j) (rdT w 10 (aP i k j))) 5 (rP k j) (rdT w 5 (rP k j) + 1)
def mUpd (i k j : Nat) (w : mW) : mW := mNo 1 k j (mTk i k j (mRu i k j w))
def mDel (i k j : Nat) (w : mW) : mW := mNo 2 k j (mS (mS (mS w 2 (rP k j) 0) 7 (aP i k j) 0) 8 (aP i k j) 0)
set_option maxHeartbeats 4000000 in
set_option maxRecDepth 100000 in
theorem c_inserts (l : Launch) (G : gG) (dce sz : Nat) (M : gM) (x : Nat) (ad : Nat → Nat) (w : mW) (hm : MW G M x ad w) (i k j : Nat) (hi : i < 3) (hk2 : k < 2) (hj2 : j < 1024) (hro : rOK w (1 - k) (rdT w 10 (aP i k j))) (hN : rdN w < 2 ^ 31) : mV l yX7_inserts wsX7_inserts ({ frames := 2, cells := 0, slots := 0, locals := 47 }) G dce sz M [.ref x, .int (nI i), .int (nI k), .int (nI j)] (fun M' => MW G M' x ad (mIns i k j w) ∧ mFr x ad M M') (0) (0) := by
  have hx0 : M x = some (.inr (8, [.int (rdH w), .ref (ad 1), .ref (ad 2), .ref (ad 3), .ref (ad 4), .ref (ad 5), .ref (ad 6), .ref (ad 7), .ref (ad 8), .ref (ad 9), .ref (ad 10), .ref (ad 11), .ref (ad 12), .ref (ad 13), .int (nI (rdN w)), .ref (ad 15)])) := hm.1
  refine wMet (Qc := QV G _) (cc := cX7_inserts) (maxL := 8) (ret := none) (by decide) rfl (Nat.le_of_ble_eq_true rfl) ?_
  intro p e s m below meth c A ls X hnm hw hK hZ hA hS hsz eA hl
  obtain ⟨hx, hb, hr, hts, hown, hlk, hml⟩ := id X
  have hl : lv_has ls 8 [(0, .ref x), (1, .int (nI i)), (2, .int (nI k)), (3, .int (nI j))] := hl
  have iX7 : ∀ w ∈ wsX70, w ∈ wsX7_inserts := by decide +kernel
  refine lv_iload_n hx hb dX7_inserts_0 rfl (lv_at hl 1 rfl) ?_
  refine lv_iload_n hx hb dX7_inserts_1 rfl (lv_at hl 2 rfl) ?_
  refine lv_iload_n hx hb dX7_inserts_2 rfl (lv_at hl 3 rfl) ?_
  refine m_callSi X hK hw hZ hS hA (As := [.int (nI i), .int (nI k), .int (nI j)]) (rest := []) (c_atK l G dce _ M i k j (nI i) rfl (nI k) rfl (nI j) rfl) (va_cwS 3 hts gX7_inserts_X7_at rfl rfl rfl (by decide +kernel) ⟨Nat.le_of_ble_eq_true rfl, Nat.le_of_ble_eq_true rfl⟩) rfl hl.1 rfl (Nat.le_of_ble_eq_true rfl) dX7_inserts_3 (Nat.le_of_ble_eq_true rfl) (Nat.le_of_ble_eq_true rfl) (fun r2 M1 H locs hp hw hS hz hk => ?_)
  rw [hp.2] at hw
  rw [hp.1]
  refine lv_istore (lv' := [(4, .int (nI (aP i k j))), (0, .ref x), (1, .int (nI i)), (2, .int (nI k)), (3, .int (nI j))]) hx hb dX7_inserts_6 hl (by decide) rfl (fun ls hl => ?_)
  refine lv_iload_n hx hb dX7_inserts_8 rfl (lv_at hl 3 rfl) ?_
  refine lv_iload_n hx hb dX7_inserts_9 rfl (lv_at hl 4 rfl) ?_
  refine m_callSi X hK hw hZ hS hA (As := [.int (nI k), .int (nI j)]) (rest := []) (c_rowK l G dce _ M k j (nI k) rfl (nI j) rfl) (va_cwS 2 hts gX7_inserts_X7_row rfl rfl rfl (by decide +kernel) ⟨Nat.le_of_ble_eq_true rfl, Nat.le_of_ble_eq_true rfl⟩) rfl hl.1 rfl (Nat.le_of_ble_eq_true rfl) dX7_inserts_10 (Nat.le_of_ble_eq_true rfl) (Nat.le_of_ble_eq_true rfl) (fun r4 M3 H locs hp hw hS hz hk => ?_)
  rw [hp.2] at hw
  rw [hp.1]
  refine lv_istore (lv' := [(5, .int (nI (rP k j))), (4, .int (nI (aP i k j))), (0, .ref x), (1, .int (nI i)), (2, .int (nI k)), (3, .int (nI j))]) hx hb dX7_inserts_13 hl (by decide) rfl (fun ls hl => ?_)
  have jn15_q5 : ∀ (v : Int32) (H : Heap) (locs : List Loc), v = bI (mIt i k j w) → wd G A M H → va_S A s.heap H locs → W p l e ({ frames := 2, cells := 0, slots := 0, locals := 47 }) s m [.ref x, .int (nI i), .int (nI k), .int (nI j)].toArray below meth c H locs (0) (0) (MQ below (QV G (fun M' => MW G M' x ad (mIns i k j w) ∧ mFr x ad M M') A) [.ref x, .int (nI i), .int (nI k), .int (nI j)].toArray s (0) (0) A) (F0 m 52 ls [(.int v)]) := by
    intro v H locs hv9 hw hS
    rw [hv9]
    refine lv_istore (lv' := [(6, .int (bI (mIt i k j w))), (5, .int (nI (rP k j))), (4, .int (nI (aP i k j))), (0, .ref x), (1, .int (nI i)), (2, .int (nI k)), (3, .int (nI j))]) hx hb dX7_inserts_52 hl (by decide) rfl (fun ls hl => ?_)
    refine lv_aload_n hx hb dX7_inserts_54 rfl (lv_at hl 3 rfl) ?_
    refine m_get X iX7 hK hw hx0 rfl 2 (by decide) (ref := "ObjectMapperModel") (by decide +kernel) (Or.inl rfl) rfl dX7_inserts_55 ?_
    refine lv_iload hx hb dX7_inserts_58 (lv_at hl 1 rfl) ?_
    refine lv_iconst (v := 1) hx hb dX7_inserts_60 (by decide) ?_
    have ix7 : ((nI (rP k j)) : Int32) = nI (rP k j) := rfl
    have ix7b : (rP k j) < 2048 := (rP_lt hk2 hj2)
    refine m_zast X hK hw hS (hm.a2) (i := (nI (rP k j))) (x := 1) (by decide) (by rw [ix7]; exact vp_in_nI ix7b (by decide)) dX7_inserts_61 (fun M6 H locs eM6 hw hS => ?_)
    rw [show ((nI (rP k j)) : Int32).toNatClampNeg = (rP k j) from by rw [ix7]; exact nI_clamp (by omega)] at eM6
    obtain ⟨wt8, ewt8⟩ : ∃ w9, w9 = mS w 2 (rP k j) 1 := ⟨_, rfl⟩
    have hmt8 : MW G M6 x ad wt8 := by rw [ewt8]; exact hm.set2 eM6
    have frt8 := mFr.tr mFr.rf (mFr.wr (x := x) (ad := ad) (a := 2) (by decide) eM6)
    have hxt8 : M6 x = some (.inr (8, [.int (rdH wt8), .ref (ad 1), .ref (ad 2), .ref (ad 3), .ref (ad 4), .ref (ad 5), .ref (ad 6), .ref (ad 7), .ref (ad 8), .ref (ad 9), .ref (ad 10), .ref (ad 11), .ref (ad 12), .ref (ad 13), .int (nI (rdN wt8)), .ref (ad 15)])) := hmt8.1
    refine lv_aload_n hx hb dX7_inserts_62 rfl (lv_at hl 3 rfl) ?_
    refine m_get X iX7 hK hw hxt8 rfl 3 (by decide) (ref := "ObjectMapperModel") (by decide +kernel) (Or.inl rfl) rfl dX7_inserts_63 ?_
    refine lv_iload hx hb dX7_inserts_66 (lv_at hl 1 rfl) ?_
    refine lv_aload_n hx hb dX7_inserts_68 rfl (lv_at hl 3 rfl) ?_
    refine m_get X iX7 hK hw hxt8 rfl 9 (by decide) (ref := "ObjectMapperModel") (by decide +kernel) (Or.inl rfl) rfl dX7_inserts_69 ?_
    refine lv_iload hx hb dX7_inserts_72 (lv_at hl 2 rfl) ?_
    have ix9 : ((nI (aP i k j)) : Int32) = nI (aP i k j) := rfl
    have ix9b : (aP i k j) < 6144 := (aP_lt hi hk2 hj2)
    refine m_iald X hK hw (hmt8.a9) (i := (nI (aP i k j))) (by rw [ix9]; exact vp_in_nI ix9b (by decide)) dX7_inserts_74 ?_
    rw [show ((nI (aP i k j)) : Int32).toNatClampNeg = (aP i k j) from by rw [ix9]; exact nI_clamp (by omega)]
    rw [show rdT wt8 9 = rdT w 9 from by rw [ewt8, rdT_o (by decide)]]
    have ix11 : ((nI (rP k j)) : Int32) = nI (rP k j) := rfl
    have ix11b : (rP k j) < 2048 := (rP_lt hk2 hj2)
    refine m_iast X hK hw hS (hmt8.a3) (i := (nI (rP k j))) (x := (rdT w 9 (aP i k j))) (by rw [ix11]; exact vp_in_nI ix11b (by decide)) dX7_inserts_75 (fun M10 H locs eM10 hw hS => ?_)
    rw [show ((nI (rP k j)) : Int32).toNatClampNeg = (rP k j) from by rw [ix11]; exact nI_clamp (by omega)] at eM10
    obtain ⟨wt12, ewt12⟩ : ∃ w9, w9 = mS wt8 3 (rP k j) (rdT w 9 (aP i k j)) := ⟨_, rfl⟩
    have hmt12 : MW G M10 x ad wt12 := by rw [ewt12]; exact hmt8.set3 eM10
    have frt12 := mFr.tr frt8 (mFr.wr (x := x) (ad := ad) (a := 3) (by decide) eM10)
    have hxt12 : M10 x = some (.inr (8, [.int (rdH wt12), .ref (ad 1), .ref (ad 2), .ref (ad 3), .ref (ad 4), .ref (ad 5), .ref (ad 6), .ref (ad 7), .ref (ad 8), .ref (ad 9), .ref (ad 10), .ref (ad 11), .ref (ad 12), .ref (ad 13), .int (nI (rdN wt12)), .ref (ad 15)])) := hmt12.1
    refine lv_aload_n hx hb dX7_inserts_76 rfl (lv_at hl 3 rfl) ?_
    refine m_get X iX7 hK hw hxt12 rfl 4 (by decide) (ref := "ObjectMapperModel") (by decide +kernel) (Or.inl rfl) rfl dX7_inserts_77 ?_
    refine lv_iload hx hb dX7_inserts_80 (lv_at hl 1 rfl) ?_
    have jn82_q13 : ∀ (v : Int32) (H : Heap) (locs : List Loc), v = (if mIt i k j w = true then rdT w 10 (aP i k j) else (-1 : Int32)) → wd G A M10 H → va_S A s.heap H locs → W p l e ({ frames := 2, cells := 0, slots := 0, locals := 47 }) s m [.ref x, .int (nI i), .int (nI k), .int (nI j)].toArray below meth c H locs (0) (0) (MQ below (QV G (fun M' => MW G M' x ad (mIns i k j w) ∧ mFr x ad M M') A) [.ref x, .int (nI i), .int (nI k), .int (nI j)].toArray s (0) (0) A) (F0 m 98 ls [(.int v), .int (nI (rP k j)), .ref (ad 4)]) := by
      intro v H locs hv9 hw hS
      rw [hv9]
      have ix15 : ((nI (rP k j)) : Int32) = nI (rP k j) := rfl
      have ix15b : (rP k j) < 2048 := (rP_lt hk2 hj2)
      refine m_iast X hK hw hS (hmt12.a4) (i := (nI (rP k j))) (x := ((if mIt i k j w = true then rdT w 10 (aP i k j) else (-1 : Int32)))) (by rw [ix15]; exact vp_in_nI ix15b (by decide)) dX7_inserts_98 (fun M14 H locs eM14 hw hS => ?_)
      rw [show ((nI (rP k j)) : Int32).toNatClampNeg = (rP k j) from by rw [ix15]; exact nI_clamp (by omega)] at eM14
      obtain ⟨wt16, ewt16⟩ : ∃ w9, w9 = mS wt12 4 (rP k j) ((if mIt i k j w = true then rdT w 10 (aP i k j) else (-1 : Int32))) := ⟨_, rfl⟩
      have hmt16 : MW G M14 x ad wt16 := by rw [ewt16]; exact hmt12.set4 eM14
      have frt16 := mFr.tr frt12 (mFr.wr (x := x) (ad := ad) (a := 4) (by decide) eM14)
      have hxt16 : M14 x = some (.inr (8, [.int (rdH wt16), .ref (ad 1), .ref (ad 2), .ref (ad 3), .ref (ad 4), .ref (ad 5), .ref (ad 6), .ref (ad 7), .ref (ad 8), .ref (ad 9), .ref (ad 10), .ref (ad 11), .ref (ad 12), .ref (ad 13), .int (nI (rdN wt16)), .ref (ad 15)])) := hmt16.1
      refine lv_aload_n hx hb dX7_inserts_99 rfl (lv_at hl 3 rfl) ?_
      refine m_get X iX7 hK hw hxt16 rfl 5 (by decide) (ref := "ObjectMapperModel") (by decide +kernel) (Or.inl rfl) rfl dX7_inserts_100 ?_
      refine lv_iload hx hb dX7_inserts_103 (lv_at hl 1 rfl) ?_
      refine lv_iconst (v := 0) hx hb dX7_inserts_105 (by decide) ?_
      have ix18 : ((nI (rP k j)) : Int32) = nI (rP k j) := rfl
      have ix18b : (rP k j) < 2048 := (rP_lt hk2 hj2)
      refine m_iast X hK hw hS (hmt16.a5) (i := (nI (rP k j))) (x := 0) (by rw [ix18]; exact vp_in_nI ix18b (by decide)) dX7_inserts_106 (fun M17 H locs eM17 hw hS => ?_)
      rw [show ((nI (rP k j)) : Int32).toNatClampNeg = (rP k j) from by rw [ix18]; exact nI_clamp (by omega)] at eM17
      obtain ⟨wt19, ewt19⟩ : ∃ w9, w9 = mS wt16 5 (rP k j) 0 := ⟨_, rfl⟩
      have hmt19 : MW G M17 x ad wt19 := by rw [ewt19]; exact hmt16.set5 eM17
      have frt19 := mFr.tr frt16 (mFr.wr (x := x) (ad := ad) (a := 5) (by decide) eM17)
      have hxt19 : M17 x = some (.inr (8, [.int (rdH wt19), .ref (ad 1), .ref (ad 2), .ref (ad 3), .ref (ad 4), .ref (ad 5), .ref (ad 6), .ref (ad 7), .ref (ad 8), .ref (ad 9), .ref (ad 10), .ref (ad 11), .ref (ad 12), .ref (ad 13), .int (nI (rdN wt19)), .ref (ad 15)])) := hmt19.1
      refine lv_aload_n hx hb dX7_inserts_107 rfl (lv_at hl 3 rfl) ?_
      refine m_get X iX7 hK hw hxt19 rfl 10 (by decide) (ref := "ObjectMapperModel") (by decide +kernel) (Or.inl rfl) rfl dX7_inserts_108 ?_
      refine lv_iload hx hb dX7_inserts_111 (lv_at hl 2 rfl) ?_
      have ix20 : ((nI (aP i k j)) : Int32) = nI (aP i k j) := rfl
      have ix20b : (aP i k j) < 6144 := (aP_lt hi hk2 hj2)
      refine m_iald X hK hw (hmt19.a10) (i := (nI (aP i k j))) (by rw [ix20]; exact vp_in_nI ix20b (by decide)) dX7_inserts_113 ?_
      rw [show ((nI (aP i k j)) : Int32).toNatClampNeg = (aP i k j) from by rw [ix20]; exact nI_clamp (by omega)]
      rw [show rdT wt19 10 = rdT w 10 from by rw [ewt19, rdT_o (by decide), ewt16, rdT_o (by decide), ewt12, rdT_o (by decide), ewt8, rdT_o (by decide)]]
      refine lv_istore (lv' := [(7, .int (rdT w 10 (aP i k j))), (6, .int (bI (mIt i k j w))), (5, .int (nI (rP k j))), (4, .int (nI (aP i k j))), (0, .ref x), (1, .int (nI i)), (2, .int (nI k)), (3, .int (nI j))]) hx hb dX7_inserts_114 hl (by decide) rfl (fun ls hl => ?_)
      have hri : wt19 = mRi i k j w := by rw [ewt19, ewt16, ewt12, ewt8]; rfl
      refine lv_aload_n hx hb dX7_inserts_116 rfl (lv_at hl 4 rfl) ?_
      refine lv_iload_n hx hb dX7_inserts_117 rfl (lv_at hl 5 rfl) ?_
      refine lv_iload_n hx hb dX7_inserts_118 rfl (lv_at hl 6 rfl) ?_
      refine lv_iload_n hx hb dX7_inserts_119 rfl (lv_at hl 7 rfl) ?_
      refine m_callVv X (ci := 8) rfl hxt19 hK hw hZ hS hA (As := [.int (nI i), .int (nI k), .int (nI j)]) (rest := []) (c_takes l G dce _ M17 x ad wt19 hmt19 i k j hi hk2 hj2) (cwV 3 hts gX7_inserts_X7_takes rfl rfl rfl (by decide +kernel) ⟨Nat.le_of_ble_eq_true rfl, Nat.le_of_ble_eq_true rfl⟩) rfl hl.1 rfl (Nat.le_of_ble_eq_true rfl) dX7_inserts_120 (Nat.le_of_ble_eq_true rfl) (Nat.le_of_ble_eq_true rfl) (fun M21 H locs hp hw hS hz hk => ?_)
      obtain ⟨hmt22, hft22⟩ := hp
      have frt22 := mFr.tr frt19 hft22
      have hxt22 : M21 x = some (.inr (8, [.int (rdH (mTk i k j wt19)), .ref (ad 1), .ref (ad 2), .ref (ad 3), .ref (ad 4), .ref (ad 5), .ref (ad 6), .ref (ad 7), .ref (ad 8), .ref (ad 9), .ref (ad 10), .ref (ad 11), .ref (ad 12), .ref (ad 13), .int (nI (rdN (mTk i k j wt19))), .ref (ad 15)])) := hmt22.1
      refine lv_aload_n hx hb dX7_inserts_123 rfl (lv_at hl 4 rfl) ?_
      refine m_get X iX7 hK hw hxt22 rfl 10 (by decide) (ref := "ObjectMapperModel") (by decide +kernel) (Or.inl rfl) rfl dX7_inserts_124 ?_
      refine lv_iload hx hb dX7_inserts_127 (lv_at hl 3 rfl) ?_
      refine lv_iload hx hb dX7_inserts_129 (lv_at hl 0 rfl) ?_
      have ix24 : ((nI (aP i k j)) : Int32) = nI (aP i k j) := rfl
      have ix24b : (aP i k j) < 6144 := (aP_lt hi hk2 hj2)
      refine m_iast X hK hw hS (hmt22.a10) (i := (nI (aP i k j))) (x := (rdT w 10 (aP i k j))) (by rw [ix24]; exact vp_in_nI ix24b (by decide)) dX7_inserts_131 (fun M23 H locs eM23 hw hS => ?_)
      rw [show ((nI (aP i k j)) : Int32).toNatClampNeg = (aP i k j) from by rw [ix24]; exact nI_clamp (by omega)] at eM23
      obtain ⟨wt25, ewt25⟩ : ∃ w9, w9 = mS (mTk i k j wt19) 10 (aP i k j) (rdT w 10 (aP i k j)) := ⟨_, rfl⟩
      have hmt25 : MW G M23 x ad wt25 := by rw [ewt25]; exact hmt22.set10 eM23
      have frt25 := mFr.tr frt22 (mFr.wr (x := x) (ad := ad) (a := 10) (by decide) eM23)
      have hxt25 : M23 x = some (.inr (8, [.int (rdH wt25), .ref (ad 1), .ref (ad 2), .ref (ad 3), .ref (ad 4), .ref (ad 5), .ref (ad 6), .ref (ad 7), .ref (ad 8), .ref (ad 9), .ref (ad 10), .ref (ad 11), .ref (ad 12), .ref (ad 13), .int (nI (rdN wt25)), .ref (ad 15)])) := hmt25.1
      refine lv_aload_n hx hb dX7_inserts_132 rfl (lv_at hl 4 rfl) ?_
      refine lv_iconst (v := 0) hx hb dX7_inserts_133 (by decide) ?_
      refine lv_iload_n hx hb dX7_inserts_134 rfl (lv_at hl 6 rfl) ?_
      refine lv_iload_n hx hb dX7_inserts_135 rfl (lv_at hl 7 rfl) ?_
      have hNn : rdN wt25 = rdN w := by rw [ewt25, hri]; rfl
      refine m_callVv X (ci := 8) rfl hxt25 hK hw hZ hS hA (As := [.int 0, .int (nI k), .int (nI j)]) (rest := []) (c_notesK l G dce _ M23 x ad wt25 hmt25 0 k j (by rw [hNn]; exact hN) 0 rfl (nI k) rfl (nI j) rfl) (cwV 3 hts gX7_inserts_X7_notes rfl rfl rfl (by decide +kernel) ⟨Nat.le_of_ble_eq_true rfl, Nat.le_of_ble_eq_true rfl⟩) rfl hl.1 rfl (Nat.le_of_ble_eq_true rfl) dX7_inserts_136 (Nat.le_of_ble_eq_true rfl) (Nat.le_of_ble_eq_true rfl) (fun M26 H locs hp hw hS hz hk => ?_)
      obtain ⟨hmt27, hft27⟩ := hp
      have frt27 := mFr.tr frt25 hft27
      have hxt27 : M26 x = some (.inr (8, [.int (rdH (mNo 0 k j wt25)), .ref (ad 1), .ref (ad 2), .ref (ad 3), .ref (ad 4), .ref (ad 5), .ref (ad 6), .ref (ad 7), .ref (ad 8), .ref (ad 9), .ref (ad 10), .ref (ad 11), .ref (ad 12), .ref (ad 13), .int (nI (rdN (mNo 0 k j wt25))), .ref (ad 15)])) := hmt27.1
      have hfin : mIns i k j w = (mNo 0 k j wt25) := by unfold mIns; rw [← hri, ← ewt25]
      exact m_vret X hK hw hS ⟨by rw [hfin]; exact hmt27, frt27⟩ (by omega) (by omega) dX7_inserts_139
    refine lv_iload hx hb dX7_inserts_82 (lv_at hl 0 rfl) ?_
    refine lv_if_eq (tgt := 97) hx hb dX7_inserts_84 (by decide) (fun c_84 => ?_) (fun c_84 => ?_)
    · refine lv_iconst (v := (-1)) hx hb dX7_inserts_97 (by decide) ?_
      exact jn82_q13 _ _ _ (by rw [if_neg (by simp [((bI_0 _).mp c_84)])]) hw hS
    · refine lv_aload_n hx hb dX7_inserts_87 rfl (lv_at hl 3 rfl) ?_
      refine m_get X iX7 hK hw hxt12 rfl 10 (by decide) (ref := "ObjectMapperModel") (by decide +kernel) (Or.inl rfl) rfl dX7_inserts_88 ?_
      refine lv_iload hx hb dX7_inserts_91 (lv_at hl 2 rfl) ?_
      have ix28 : ((nI (aP i k j)) : Int32) = nI (aP i k j) := rfl
      have ix28b : (aP i k j) < 6144 := (aP_lt hi hk2 hj2)
      refine m_iald X hK hw (hmt12.a10) (i := (nI (aP i k j))) (by rw [ix28]; exact vp_in_nI ix28b (by decide)) dX7_inserts_93 ?_
      rw [show ((nI (aP i k j)) : Int32).toNatClampNeg = (aP i k j) from by rw [ix28]; exact nI_clamp (by omega)]
      rw [show rdT wt12 10 = rdT w 10 from by rw [ewt12, rdT_o (by decide), ewt8, rdT_o (by decide)]]
      refine lv_goto (tgt := 98) hx hb dX7_inserts_94 (by decide) ?_
      exact jn82_q13 _ _ _ (by rw [if_pos (by simp [(bI_t c_84)])]) hw hS
  refine lv_aload_n hx hb dX7_inserts_15 rfl (lv_at hl 2 rfl) ?_
  refine m_get X iX7 hK hw hx0 rfl 10 (by decide) (ref := "ObjectMapperModel") (by decide +kernel) (Or.inl rfl) rfl dX7_inserts_16 ?_
  refine lv_iload hx hb dX7_inserts_19 (lv_at hl 1 rfl) ?_
  have ix29 : ((nI (aP i k j)) : Int32) = nI (aP i k j) := rfl
  have ix29b : (aP i k j) < 6144 := (aP_lt hi hk2 hj2)
  refine m_iald X hK hw (hm.a10) (i := (nI (aP i k j))) (by rw [ix29]; exact vp_in_nI ix29b (by decide)) dX7_inserts_21 ?_
  rw [show ((nI (aP i k j)) : Int32).toNatClampNeg = (aP i k j) from by rw [ix29]; exact nI_clamp (by omega)]
  refine lv_iconst (v := (-1)) hx hb dX7_inserts_22 (by decide) ?_
  refine lv_icmp_eq (tgt := 51) hx hb dX7_inserts_23 (by decide) (fun c_23 => ?_) (fun c_23 => ?_)
  · refine lv_iconst (v := 0) hx hb dX7_inserts_51 (by decide) ?_
    exact jn15_q5 _ _ _ (by unfold mIt; simp [bI, c_23]) hw hS
  · obtain ⟨q9, hq9, eq9⟩ : ∃ q : Nat, q < rdK w (1 - k) ∧ rdT w 10 (aP i k j) = nI q := hro.resolve_left c_23
    have hq9b := hm.kb (k := 1 - k) (by omega)
    have eq9c : (rdT w 10 (aP i k j)).toNatClampNeg = q9 := by rw [eq9]; exact nI_clamp (by omega)
    have h1k : 1 - k < 2 := by omega
    have hq9d : q9 < 1024 := by omega
    refine lv_aload_n hx hb dX7_inserts_26 rfl (lv_at hl 2 rfl) ?_
    refine m_get X iX7 hK hw hx0 rfl 2 (by decide) (ref := "ObjectMapperModel") (by decide +kernel) (Or.inl rfl) rfl dX7_inserts_27 ?_
    refine lv_iconst (v := 1) hx hb dX7_inserts_30 (by decide) ?_
    refine lv_iload_n hx hb dX7_inserts_31 rfl (lv_at hl 4 rfl) ?_
    refine lv_isub hx hb dX7_inserts_32 ?_
    rw [nI_1sub hk2]
    refine lv_aload_n hx hb dX7_inserts_33 rfl (lv_at hl 2 rfl) ?_
    refine m_get X iX7 hK hw hx0 rfl 10 (by decide) (ref := "ObjectMapperModel") (by decide +kernel) (Or.inl rfl) rfl dX7_inserts_34 ?_
    refine lv_iload hx hb dX7_inserts_37 (lv_at hl 1 rfl) ?_
    have ix30 : ((nI (aP i k j)) : Int32) = nI (aP i k j) := rfl
    have ix30b : (aP i k j) < 6144 := (aP_lt hi hk2 hj2)
    refine m_iald X hK hw (hm.a10) (i := (nI (aP i k j))) (by rw [ix30]; exact vp_in_nI ix30b (by decide)) dX7_inserts_39 ?_
    rw [show ((nI (aP i k j)) : Int32).toNatClampNeg = (aP i k j) from by rw [ix30]; exact nI_clamp (by omega)]
    refine m_callSi X hK hw hZ hS hA (As := [.int (nI (1 - k)), .int (rdT w 10 (aP i k j))]) (rest := [.ref (ad 2)]) (c_rowK l G dce _ M (1 - k) q9 (nI (1 - k)) rfl (rdT w 10 (aP i k j)) eq9) (va_cwS 2 hts gX7_inserts_X7_row rfl rfl rfl (by decide +kernel) ⟨Nat.le_of_ble_eq_true rfl, Nat.le_of_ble_eq_true rfl⟩) rfl hl.1 rfl (Nat.le_of_ble_eq_true rfl) dX7_inserts_40 (Nat.le_of_ble_eq_true rfl) (Nat.le_of_ble_eq_true rfl) (fun r32 M31 H locs hp hw hS hz hk => ?_)
    rw [hp.2] at hw
    rw [hp.1]
    have ix33 : ((nI (rP (1 - k) q9)) : Int32) = nI (rP (1 - k) q9) := rfl
    have ix33b : (rP (1 - k) q9) < 2048 := (rP_lt h1k hq9d)
    refine m_zald X hK hw (hm.a2) (i := (nI (rP (1 - k) q9))) (by rw [ix33]; exact vp_in_nI ix33b (by decide)) dX7_inserts_43 ?_
    rw [show ((nI (rP (1 - k) q9)) : Int32).toNatClampNeg = (rP (1 - k) q9) from by rw [ix33]; exact nI_clamp (by omega)]
    refine lv_if_eq (tgt := 51) hx hb dX7_inserts_44 (by decide) (fun c_44 => ?_) (fun c_44 => ?_)
    · refine lv_iconst (v := 0) hx hb dX7_inserts_51 (by decide) ?_
      exact jn15_q5 _ _ _ (by unfold mIt; rw [eq9c]; simp [bI, c_23, c_44]) hw hS
    · refine lv_iconst (v := 1) hx hb dX7_inserts_47 (by decide) ?_
      refine lv_goto (tgt := 52) hx hb dX7_inserts_48 (by decide) ?_
      exact jn15_q5 _ _ _ (by unfold mIt; rw [eq9c]; simp [bI, c_23, c_44]) hw hS
theorem c_insertsK (l : Launch) (G : gG) (dce sz : Nat) (M : gM) (x : Nat) (ad : Nat → Nat) (w : mW) (hm : MW G M x ad w) (i k j : Nat) (hi : i < 3) (hk2 : k < 2) (hj2 : j < 1024) (hro : rOK w (1 - k) (rdT w 10 (aP i k j))) (hN : rdN w < 2 ^ 31) (si : Int32) (hsi : si = nI i) (kd : Int32) (hkd : kd = nI k) : mV l yX7_inserts wsX7_inserts ({ frames := 2, cells := 0, slots := 0, locals := 47 }) G dce sz M [.ref x, .int si, .int kd, .int (nI j)] (fun M' => MW G M' x ad (mIns i k j w) ∧ mFr x ad M M') (0) (0) := by
  subst hsi
  subst hkd
  exact c_inserts l G dce sz M x ad w hm i k j hi hk2 hj2 hro hN
set_option maxHeartbeats 4000000 in
set_option maxRecDepth 100000 in
theorem c_updates (l : Launch) (G : gG) (dce sz : Nat) (M : gM) (x : Nat) (ad : Nat → Nat) (w : mW) (hm : MW G M x ad w) (i k j : Nat) (hi : i < 3) (hk2 : k < 2) (hj2 : j < 1024) (hN : rdN w < 2 ^ 31) : mV l yX7_updates wsX7_updates ({ frames := 2, cells := 0, slots := 0, locals := 47 }) G dce sz M [.ref x, .int (nI i), .int (nI k), .int (nI j)] (fun M' => MW G M' x ad (mUpd i k j w) ∧ mFr x ad M M') (0) (0) := by
  have hx0 : M x = some (.inr (8, [.int (rdH w), .ref (ad 1), .ref (ad 2), .ref (ad 3), .ref (ad 4), .ref (ad 5), .ref (ad 6), .ref (ad 7), .ref (ad 8), .ref (ad 9), .ref (ad 10), .ref (ad 11), .ref (ad 12), .ref (ad 13), .int (nI (rdN w)), .ref (ad 15)])) := hm.1
  refine wMet (Qc := QV G _) (cc := cX7_updates) (maxL := 6) (ret := none) (by decide) rfl (Nat.le_of_ble_eq_true rfl) ?_
  intro p e s m below meth c A ls X hnm hw hK hZ hA hS hsz eA hl
  obtain ⟨hx, hb, hr, hts, hown, hlk, hml⟩ := id X
  have hl : lv_has ls 6 [(0, .ref x), (1, .int (nI i)), (2, .int (nI k)), (3, .int (nI j))] := hl
  have iX7 : ∀ w ∈ wsX70, w ∈ wsX7_updates := by decide +kernel
  refine lv_iload_n hx hb dX7_updates_0 rfl (lv_at hl 1 rfl) ?_
  refine lv_iload_n hx hb dX7_updates_1 rfl (lv_at hl 2 rfl) ?_
  refine lv_iload_n hx hb dX7_updates_2 rfl (lv_at hl 3 rfl) ?_
  refine m_callSi X hK hw hZ hS hA (As := [.int (nI i), .int (nI k), .int (nI j)]) (rest := []) (c_atK l G dce _ M i k j (nI i) rfl (nI k) rfl (nI j) rfl) (va_cwS 3 hts gX7_updates_X7_at rfl rfl rfl (by decide +kernel) ⟨Nat.le_of_ble_eq_true rfl, Nat.le_of_ble_eq_true rfl⟩) rfl hl.1 rfl (Nat.le_of_ble_eq_true rfl) dX7_updates_3 (Nat.le_of_ble_eq_true rfl) (Nat.le_of_ble_eq_true rfl) (fun r2 M1 H locs hp hw hS hz hk => ?_)
  rw [hp.2] at hw
  rw [hp.1]
  refine lv_istore (lv' := [(4, .int (nI (aP i k j))), (0, .ref x), (1, .int (nI i)), (2, .int (nI k)), (3, .int (nI j))]) hx hb dX7_updates_6 hl (by decide) rfl (fun ls hl => ?_)
  refine lv_iload_n hx hb dX7_updates_8 rfl (lv_at hl 3 rfl) ?_
  refine lv_iload_n hx hb dX7_updates_9 rfl (lv_at hl 4 rfl) ?_
  refine m_callSi X hK hw hZ hS hA (As := [.int (nI k), .int (nI j)]) (rest := []) (c_rowK l G dce _ M k j (nI k) rfl (nI j) rfl) (va_cwS 2 hts gX7_updates_X7_row rfl rfl rfl (by decide +kernel) ⟨Nat.le_of_ble_eq_true rfl, Nat.le_of_ble_eq_true rfl⟩) rfl hl.1 rfl (Nat.le_of_ble_eq_true rfl) dX7_updates_10 (Nat.le_of_ble_eq_true rfl) (Nat.le_of_ble_eq_true rfl) (fun r4 M3 H locs hp hw hS hz hk => ?_)
  rw [hp.2] at hw
  rw [hp.1]
  refine lv_istore (lv' := [(5, .int (nI (rP k j))), (4, .int (nI (aP i k j))), (0, .ref x), (1, .int (nI i)), (2, .int (nI k)), (3, .int (nI j))]) hx hb dX7_updates_13 hl (by decide) rfl (fun ls hl => ?_)
  refine lv_aload_n hx hb dX7_updates_15 rfl (lv_at hl 2 rfl) ?_
  refine m_get X iX7 hK hw hx0 rfl 3 (by decide) (ref := "ObjectMapperModel") (by decide +kernel) (Or.inl rfl) rfl dX7_updates_16 ?_
  refine lv_iload hx hb dX7_updates_19 (lv_at hl 0 rfl) ?_
  refine lv_aload_n hx hb dX7_updates_21 rfl (lv_at hl 2 rfl) ?_
  refine m_get X iX7 hK hw hx0 rfl 9 (by decide) (ref := "ObjectMapperModel") (by decide +kernel) (Or.inl rfl) rfl dX7_updates_22 ?_
  refine lv_iload hx hb dX7_updates_25 (lv_at hl 1 rfl) ?_
  have ix5 : ((nI (aP i k j)) : Int32) = nI (aP i k j) := rfl
  have ix5b : (aP i k j) < 6144 := (aP_lt hi hk2 hj2)
  refine m_iald X hK hw (hm.a9) (i := (nI (aP i k j))) (by rw [ix5]; exact vp_in_nI ix5b (by decide)) dX7_updates_27 ?_
  rw [show ((nI (aP i k j)) : Int32).toNatClampNeg = (aP i k j) from by rw [ix5]; exact nI_clamp (by omega)]
  have ix7 : ((nI (rP k j)) : Int32) = nI (rP k j) := rfl
  have ix7b : (rP k j) < 2048 := (rP_lt hk2 hj2)
  refine m_iast X hK hw hS (hm.a3) (i := (nI (rP k j))) (x := (rdT w 9 (aP i k j))) (by rw [ix7]; exact vp_in_nI ix7b (by decide)) dX7_updates_28 (fun M6 H locs eM6 hw hS => ?_)
  rw [show ((nI (rP k j)) : Int32).toNatClampNeg = (rP k j) from by rw [ix7]; exact nI_clamp (by omega)] at eM6
  obtain ⟨wt8, ewt8⟩ : ∃ w9, w9 = mS w 3 (rP k j) (rdT w 9 (aP i k j)) := ⟨_, rfl⟩
  have hmt8 : MW G M6 x ad wt8 := by rw [ewt8]; exact hm.set3 eM6
  have frt8 := mFr.tr mFr.rf (mFr.wr (x := x) (ad := ad) (a := 3) (by decide) eM6)
  have hxt8 : M6 x = some (.inr (8, [.int (rdH wt8), .ref (ad 1), .ref (ad 2), .ref (ad 3), .ref (ad 4), .ref (ad 5), .ref (ad 6), .ref (ad 7), .ref (ad 8), .ref (ad 9), .ref (ad 10), .ref (ad 11), .ref (ad 12), .ref (ad 13), .int (nI (rdN wt8)), .ref (ad 15)])) := hmt8.1
  refine lv_aload_n hx hb dX7_updates_29 rfl (lv_at hl 2 rfl) ?_
  refine m_get X iX7 hK hw hxt8 rfl 4 (by decide) (ref := "ObjectMapperModel") (by decide +kernel) (Or.inl rfl) rfl dX7_updates_30 ?_
  refine lv_iload hx hb dX7_updates_33 (lv_at hl 0 rfl) ?_
  refine lv_aload_n hx hb dX7_updates_35 rfl (lv_at hl 2 rfl) ?_
  refine m_get X iX7 hK hw hxt8 rfl 10 (by decide) (ref := "ObjectMapperModel") (by decide +kernel) (Or.inl rfl) rfl dX7_updates_36 ?_
  refine lv_iload hx hb dX7_updates_39 (lv_at hl 1 rfl) ?_
  have ix9 : ((nI (aP i k j)) : Int32) = nI (aP i k j) := rfl
  have ix9b : (aP i k j) < 6144 := (aP_lt hi hk2 hj2)
  refine m_iald X hK hw (hmt8.a10) (i := (nI (aP i k j))) (by rw [ix9]; exact vp_in_nI ix9b (by decide)) dX7_updates_41 ?_
  rw [show ((nI (aP i k j)) : Int32).toNatClampNeg = (aP i k j) from by rw [ix9]; exact nI_clamp (by omega)]
  rw [show rdT wt8 10 = rdT w 10 from by rw [ewt8, rdT_o (by decide)]]
  have ix11 : ((nI (rP k j)) : Int32) = nI (rP k j) := rfl
  have ix11b : (rP k j) < 2048 := (rP_lt hk2 hj2)
  refine m_iast X hK hw hS (hmt8.a4) (i := (nI (rP k j))) (x := (rdT w 10 (aP i k j))) (by rw [ix11]; exact vp_in_nI ix11b (by decide)) dX7_updates_42 (fun M10 H locs eM10 hw hS => ?_)
  rw [show ((nI (rP k j)) : Int32).toNatClampNeg = (rP k j) from by rw [ix11]; exact nI_clamp (by omega)] at eM10
  obtain ⟨wt12, ewt12⟩ : ∃ w9, w9 = mS wt8 4 (rP k j) (rdT w 10 (aP i k j)) := ⟨_, rfl⟩
  have hmt12 : MW G M10 x ad wt12 := by rw [ewt12]; exact hmt8.set4 eM10
  have frt12 := mFr.tr frt8 (mFr.wr (x := x) (ad := ad) (a := 4) (by decide) eM10)
  have hxt12 : M10 x = some (.inr (8, [.int (rdH wt12), .ref (ad 1), .ref (ad 2), .ref (ad 3), .ref (ad 4), .ref (ad 5), .ref (ad 6), .ref (ad 7), .ref (ad 8), .ref (ad 9), .ref (ad 10), .ref (ad 11), .ref (ad 12), .ref (ad 13), .int (nI (rdN wt12)), .ref (ad 15)])) := hmt12.1
  refine lv_aload_n hx hb dX7_updates_43 rfl (lv_at hl 2 rfl) ?_
  refine m_get X iX7 hK hw hxt12 rfl 5 (by decide) (ref := "ObjectMapperModel") (by decide +kernel) (Or.inl rfl) rfl dX7_updates_44 ?_
  refine lv_iload hx hb dX7_updates_47 (lv_at hl 0 rfl) ?_
  refine lv_dup2_11 hx hb dX7_updates_49 rfl rfl ?_
  have ix13 : ((nI (rP k j)) : Int32) = nI (rP k j) := rfl
  have ix13b : (rP k j) < 2048 := (rP_lt hk2 hj2)
  refine m_iald X hK hw (hmt12.a5) (i := (nI (rP k j))) (by rw [ix13]; exact vp_in_nI ix13b (by decide)) dX7_updates_50 ?_
  rw [show ((nI (rP k j)) : Int32).toNatClampNeg = (rP k j) from by rw [ix13]; exact nI_clamp (by omega)]
  rw [show rdT wt12 5 = rdT w 5 from by rw [ewt12, rdT_o (by decide), ewt8, rdT_o (by decide)]]
  refine lv_iconst (v := 1) hx hb dX7_updates_51 (by decide) ?_
  refine lv_iadd hx hb dX7_updates_52 ?_
  have ix15 : ((nI (rP k j)) : Int32) = nI (rP k j) := rfl
  have ix15b : (rP k j) < 2048 := (rP_lt hk2 hj2)
  refine m_iast X hK hw hS (hmt12.a5) (i := (nI (rP k j))) (x := ((rdT w 5 (rP k j)) + 1)) (by rw [ix15]; exact vp_in_nI ix15b (by decide)) dX7_updates_53 (fun M14 H locs eM14 hw hS => ?_)
  rw [show ((nI (rP k j)) : Int32).toNatClampNeg = (rP k j) from by rw [ix15]; exact nI_clamp (by omega)] at eM14
  obtain ⟨wt16, ewt16⟩ : ∃ w9, w9 = mS wt12 5 (rP k j) ((rdT w 5 (rP k j)) + 1) := ⟨_, rfl⟩
  have hmt16 : MW G M14 x ad wt16 := by rw [ewt16]; exact hmt12.set5 eM14
  have frt16 := mFr.tr frt12 (mFr.wr (x := x) (ad := ad) (a := 5) (by decide) eM14)
  have hxt16 : M14 x = some (.inr (8, [.int (rdH wt16), .ref (ad 1), .ref (ad 2), .ref (ad 3), .ref (ad 4), .ref (ad 5), .ref (ad 6), .ref (ad 7), .ref (ad 8), .ref (ad 9), .ref (ad 10), .ref (ad 11), .ref (ad 12), .ref (ad 13), .int (nI (rdN wt16)), .ref (ad 15)])) := hmt16.1
  have hri : wt16 = mRu i k j w := by rw [ewt16, ewt12, ewt8]; rfl
  refine lv_aload_n hx hb dX7_updates_54 rfl (lv_at hl 2 rfl) ?_
  refine lv_iload_n hx hb dX7_updates_55 rfl (lv_at hl 3 rfl) ?_
  refine lv_iload_n hx hb dX7_updates_56 rfl (lv_at hl 4 rfl) ?_
  refine lv_iload_n hx hb dX7_updates_57 rfl (lv_at hl 5 rfl) ?_
  refine m_callVv X (ci := 8) rfl hxt16 hK hw hZ hS hA (As := [.int (nI i), .int (nI k), .int (nI j)]) (rest := []) (c_takes l G dce _ M14 x ad wt16 hmt16 i k j hi hk2 hj2) (cwV 3 hts gX7_updates_X7_takes rfl rfl rfl (by decide +kernel) ⟨Nat.le_of_ble_eq_true rfl, Nat.le_of_ble_eq_true rfl⟩) rfl hl.1 rfl (Nat.le_of_ble_eq_true rfl) dX7_updates_58 (Nat.le_of_ble_eq_true rfl) (Nat.le_of_ble_eq_true rfl) (fun M17 H locs hp hw hS hz hk => ?_)
  obtain ⟨hmt18, hft18⟩ := hp
  have frt18 := mFr.tr frt16 hft18
  have hxt18 : M17 x = some (.inr (8, [.int (rdH (mTk i k j wt16)), .ref (ad 1), .ref (ad 2), .ref (ad 3), .ref (ad 4), .ref (ad 5), .ref (ad 6), .ref (ad 7), .ref (ad 8), .ref (ad 9), .ref (ad 10), .ref (ad 11), .ref (ad 12), .ref (ad 13), .int (nI (rdN (mTk i k j wt16))), .ref (ad 15)])) := hmt18.1
  refine lv_aload_n hx hb dX7_updates_61 rfl (lv_at hl 2 rfl) ?_
  refine lv_iconst (v := 1) hx hb dX7_updates_62 (by decide) ?_
  refine lv_iload_n hx hb dX7_updates_63 rfl (lv_at hl 4 rfl) ?_
  refine lv_iload_n hx hb dX7_updates_64 rfl (lv_at hl 5 rfl) ?_
  have hNn : rdN (mTk i k j wt16) = rdN w := by rw [hri]; rfl
  refine m_callVv X (ci := 8) rfl hxt18 hK hw hZ hS hA (As := [.int 1, .int (nI k), .int (nI j)]) (rest := []) (c_notesK l G dce _ M17 x ad (mTk i k j wt16) hmt18 1 k j (by rw [hNn]; exact hN) 1 rfl (nI k) rfl (nI j) rfl) (cwV 3 hts gX7_updates_X7_notes rfl rfl rfl (by decide +kernel) ⟨Nat.le_of_ble_eq_true rfl, Nat.le_of_ble_eq_true rfl⟩) rfl hl.1 rfl (Nat.le_of_ble_eq_true rfl) dX7_updates_65 (Nat.le_of_ble_eq_true rfl) (Nat.le_of_ble_eq_true rfl) (fun M19 H locs hp hw hS hz hk => ?_)
  obtain ⟨hmt20, hft20⟩ := hp
  have frt20 := mFr.tr frt18 hft20
  have hxt20 : M19 x = some (.inr (8, [.int (rdH (mNo 1 k j (mTk i k j wt16))), .ref (ad 1), .ref (ad 2), .ref (ad 3), .ref (ad 4), .ref (ad 5), .ref (ad 6), .ref (ad 7), .ref (ad 8), .ref (ad 9), .ref (ad 10), .ref (ad 11), .ref (ad 12), .ref (ad 13), .int (nI (rdN (mNo 1 k j (mTk i k j wt16)))), .ref (ad 15)])) := hmt20.1
  have hfin : mUpd i k j w = (mNo 1 k j (mTk i k j wt16)) := by unfold mUpd; rw [← hri]
  exact m_vret X hK hw hS ⟨by rw [hfin]; exact hmt20, frt20⟩ (by omega) (by omega) dX7_updates_68
theorem c_updatesK (l : Launch) (G : gG) (dce sz : Nat) (M : gM) (x : Nat) (ad : Nat → Nat) (w : mW) (hm : MW G M x ad w) (i k j : Nat) (hi : i < 3) (hk2 : k < 2) (hj2 : j < 1024) (hN : rdN w < 2 ^ 31) (si : Int32) (hsi : si = nI i) (kd : Int32) (hkd : kd = nI k) : mV l yX7_updates wsX7_updates ({ frames := 2, cells := 0, slots := 0, locals := 47 }) G dce sz M [.ref x, .int si, .int kd, .int (nI j)] (fun M' => MW G M' x ad (mUpd i k j w) ∧ mFr x ad M M') (0) (0) := by
  subst hsi
  subst hkd
  exact c_updates l G dce sz M x ad w hm i k j hi hk2 hj2 hN
set_option maxHeartbeats 4000000 in
set_option maxRecDepth 100000 in
theorem c_removesBook (l : Launch) (G : gG) (dce sz : Nat) (M : gM) (x : Nat) (ad : Nat → Nat) (w : mW) (hm : MW G M x ad w) (i : Nat) (hi : i < 3) (b : Nat) (hb2 : b < 1024) : mV l yX7_removesBook wsX7_removesBook ({ frames := 3, cells := 0, slots := 0, locals := 72 }) G dce sz M [.ref x, .int (nI i), .int (nI b)] (fun M' => MW G M' x ad (mRmB i b w) ∧ mFr x ad M M') (0) (0) := by
  have hx0 : M x = some (.inr (8, [.int (rdH w), .ref (ad 1), .ref (ad 2), .ref (ad 3), .ref (ad 4), .ref (ad 5), .ref (ad 6), .ref (ad 7), .ref (ad 8), .ref (ad 9), .ref (ad 10), .ref (ad 11), .ref (ad 12), .ref (ad 13), .int (nI (rdN w)), .ref (ad 15)])) := hm.1
  refine wMet (Qc := QV G _) (cc := cX7_removesBook) (maxL := 5) (ret := none) (by decide) rfl (Nat.le_of_ble_eq_true rfl) ?_
  intro p e s m below meth c A ls X hnm hw hK hZ hA hS hsz eA hl
  obtain ⟨hx, hb, hr, hts, hown, hlk, hml⟩ := id X
  have hl : lv_has ls 5 [(0, .ref x), (1, .int (nI i)), (2, .int (nI b))] := hl
  have iX7 : ∀ w ∈ wsX70, w ∈ wsX7_removesBook := by decide +kernel
  refine lv_aload_n hx hb dX7_removesBook_0 rfl (lv_at hl 0 rfl) ?_
  refine lv_iload_n hx hb dX7_removesBook_1 rfl (lv_at hl 1 rfl) ?_
  refine lv_iconst (v := 1) hx hb dX7_removesBook_2 (by decide) ?_
  refine lv_iload_n hx hb dX7_removesBook_3 rfl (lv_at hl 2 rfl) ?_
  refine m_callVv X (ci := 8) rfl hx0 hK hw hZ hS hA (As := [.int (nI i), .int 1, .int (nI b)]) (rest := []) (c_goesK l G dce _ M x ad w hm i 1 b hi (by decide) hb2 (nI i) rfl 1 rfl) (cwV 3 hts gX7_removesBook_X7_goes rfl rfl rfl (by decide +kernel) ⟨Nat.le_of_ble_eq_true rfl, Nat.le_of_ble_eq_true rfl⟩) rfl hl.1 rfl (Nat.le_of_ble_eq_true rfl) dX7_removesBook_4 (Nat.le_of_ble_eq_true rfl) (Nat.le_of_ble_eq_true rfl) (fun M1 H locs hp hw hS hz hk => ?_)
  obtain ⟨hmt2, hft2⟩ := hp
  have frt2 := mFr.tr mFr.rf hft2
  have hxt2 : M1 x = some (.inr (8, [.int (rdH (mGo i 1 b w)), .ref (ad 1), .ref (ad 2), .ref (ad 3), .ref (ad 4), .ref (ad 5), .ref (ad 6), .ref (ad 7), .ref (ad 8), .ref (ad 9), .ref (ad 10), .ref (ad 11), .ref (ad 12), .ref (ad 13), .int (nI (rdN (mGo i 1 b w))), .ref (ad 15)])) := hmt2.1
  refine lv_aload_n hx hb dX7_removesBook_7 rfl (lv_at hl 0 rfl) ?_
  refine lv_iload_n hx hb dX7_removesBook_8 rfl (lv_at hl 1 rfl) ?_
  refine lv_iconst (v := 0) hx hb dX7_removesBook_9 (by decide) ?_
  refine lv_iload_n hx hb dX7_removesBook_10 rfl (lv_at hl 2 rfl) ?_
  refine m_callVv X (ci := 8) rfl hxt2 hK hw hZ hS hA (As := [.int (nI i), .int 0, .int (nI b)]) (rest := []) (c_loadsK l G dce _ M1 x ad (mGo i 1 b w) hmt2 i 0 hi (by decide) (nI b) (nI i) rfl 0 rfl) (cwV 3 hts gX7_removesBook_X7_loads rfl rfl rfl (by decide +kernel) ⟨Nat.le_of_ble_eq_true rfl, Nat.le_of_ble_eq_true rfl⟩) rfl hl.1 rfl (Nat.le_of_ble_eq_true rfl) dX7_removesBook_11 (Nat.le_of_ble_eq_true rfl) (Nat.le_of_ble_eq_true rfl) (fun M3 H locs hp hw hS hz hk => ?_)
  obtain ⟨hmt4, hft4⟩ := hp
  have frt4 := mFr.tr frt2 hft4
  have hxt4 : M3 x = some (.inr (8, [.int (rdH (itm (mLd i 0 (nI b)) (rdK w 0) (mGo i 1 b w))), .ref (ad 1), .ref (ad 2), .ref (ad 3), .ref (ad 4), .ref (ad 5), .ref (ad 6), .ref (ad 7), .ref (ad 8), .ref (ad 9), .ref (ad 10), .ref (ad 11), .ref (ad 12), .ref (ad 13), .int (nI (rdN (itm (mLd i 0 (nI b)) (rdK w 0) (mGo i 1 b w)))), .ref (ad 15)])) := hmt4.1
  refine lv_iconst (v := 0) hx hb dX7_removesBook_14 (by decide) ?_
  refine lv_istore_n (lv' := [(3, .int (nI 0)), (0, .ref x), (1, .int (nI i)), (2, .int (nI b))]) hx hb dX7_removesBook_15 rfl hl (by decide) rfl (fun ls hl => ?_)
  have loopa : ∀ (d : Nat) (ja : Nat) (wa : mW) (Ma : gM) (H : Heap) (locs : List Loc) (ls : Array Slot), ja ≤ rdK (itm (mLd i 0 (nI b)) (rdK w 0) (mGo i 1 b w)) 0 → rdK (itm (mLd i 0 (nI b)) (rdK w 0) (mGo i 1 b w)) 0 + 1 ≤ ja + d → wa = itm (mCl i (nI b)) ja (itm (mLd i 0 (nI b)) (rdK w 0) (mGo i 1 b w)) → MW G Ma x ad wa → mFr x ad M Ma → wd G A Ma H → va_S A s.heap H locs → lv_has ls 5 [(3, .int (nI ja)), (0, .ref x), (1, .int (nI i)), (2, .int (nI b))] → W p l e ({ frames := 3, cells := 0, slots := 0, locals := 72 }) s m [.ref x, .int (nI i), .int (nI b)].toArray below meth c H locs (0) (0) (MQ below (QV G (fun M' => MW G M' x ad (mRmB i b w) ∧ mFr x ad M M') A) [.ref x, .int (nI i), .int (nI b)].toArray s (0) (0) A) (F0 m 16 ls []) := by
    intro d
    induction d with
    | zero => intro ja wa Ma H locs ls h1 h2; exact absurd h2 (by omega)
    | succ d ih =>
      intro ja wa Ma H locs ls hja1 hja2 hza hma hfa hw hS hl
      have hxla : Ma x = some (.inr (8, [.int (rdH wa), .ref (ad 1), .ref (ad 2), .ref (ad 3), .ref (ad 4), .ref (ad 5), .ref (ad 6), .ref (ad 7), .ref (ad 8), .ref (ad 9), .ref (ad 10), .ref (ad 11), .ref (ad 12), .ref (ad 13), .int (nI (rdN wa)), .ref (ad 15)])) := hma.1
      have hna : rdK wa = rdK (itm (mLd i 0 (nI b)) (rdK w 0) (mGo i 1 b w)) := by rw [hza]; exact itm_K (mCl_K i (nI b)) ja (itm (mLd i 0 (nI b)) (rdK w 0) (mGo i 1 b w))
      have hba : rdK (itm (mLd i 0 (nI b)) (rdK w 0) (mGo i 1 b w)) 0 ≤ 1024 := hmt4.kb (by decide)
      refine lv_iload_n hx hb dX7_removesBook_16 rfl (lv_at hl 0 rfl) ?_
      refine lv_aload_n hx hb dX7_removesBook_17 rfl (lv_at hl 1 rfl) ?_
      refine m_get X iX7 hK hw hxla rfl 1 (by decide) (ref := "ObjectMapperModel") (by decide +kernel) (Or.inl rfl) rfl dX7_removesBook_18 ?_
      refine lv_iconst (v := 0) hx hb dX7_removesBook_21 (by decide) ?_
      have ix5 : (0 : Int32) = nI 0 := rfl
      have ix5b : 0 < 2 := (by decide)
      refine m_iald X hK hw (hma.a1) (i := 0) (by rw [ix5]; exact vp_in_nI ix5b (by decide)) dX7_removesBook_22 ?_
      rw [show (0 : Int32).toNatClampNeg = 0 from by rw [ix5]; exact nI_clamp (by omega)]
      rw [show nI (rdK wa 0) = nI (rdK (itm (mLd i 0 (nI b)) (rdK w 0) (mGo i 1 b w)) 0) from by rw [hna]]
      refine lv_icmp_ge (tgt := 79) hx hb dX7_removesBook_23 (by decide) (fun c_23 => ?_) (fun c_23 => ?_)
      · have hkna : rdK (itm (mLd i 0 (nI b)) (rdK w 0) (mGo i 1 b w)) 0 ≤ ja := (nI_leI (by omega) (by omega)).mp c_23
        have hjja : ja = rdK (itm (mLd i 0 (nI b)) (rdK w 0) (mGo i 1 b w)) 0 := by omega
        rw [hjja] at hza
        have hfin : mRmB i b w = wa := by rw [hza, show rdK (itm (mLd i 0 (nI b)) (rdK w 0) (mGo i 1 b w)) = rdK w from itm_K (mLd_K i 0 (nI b)) _ _]; rfl
        exact m_vret X hK hw hS ⟨by rw [hfin]; exact hma, hfa⟩ (by omega) (by omega) dX7_removesBook_79
      · have hkla : ja < rdK (itm (mLd i 0 (nI b)) (rdK w 0) (mGo i 1 b w)) 0 := Nat.lt_of_not_le (fun q => c_23 (nI_le q (by omega)))
        have hj9a : ja < 1024 := by omega
        have hkwa : ja < rdK wa 0 := by rw [hna]; exact hkla
        refine lv_iload_n hx hb dX7_removesBook_26 rfl (lv_at hl 2 rfl) ?_
        refine lv_iconst (v := 0) hx hb dX7_removesBook_27 (by decide) ?_
        refine lv_iload_n hx hb dX7_removesBook_28 rfl (lv_at hl 0 rfl) ?_
        refine m_callSi X hK hw hZ hS hA (As := [.int (nI i), .int 0, .int (nI ja)]) (rest := []) (c_atK l G dce _ Ma i 0 ja (nI i) rfl 0 rfl (nI ja) rfl) (va_cwS 3 hts gX7_removesBook_X7_at rfl rfl rfl (by decide +kernel) ⟨Nat.le_of_ble_eq_true rfl, Nat.le_of_ble_eq_true rfl⟩) rfl hl.1 rfl (Nat.le_of_ble_eq_true rfl) dX7_removesBook_29 (Nat.le_of_ble_eq_true rfl) (Nat.le_of_ble_eq_true rfl) (fun r7 M6 H locs hp hw hS hz hk => ?_)
        rw [hp.2] at hw
        rw [hp.1]
        refine lv_istore (lv' := [(4, .int (nI (aP i 0 ja))), (3, .int (nI ja)), (0, .ref x), (1, .int (nI i)), (2, .int (nI b))]) hx hb dX7_removesBook_32 hl (by decide) rfl (fun ls hl => ?_)
        refine lv_aload_n hx hb dX7_removesBook_34 rfl (lv_at hl 2 rfl) ?_
        refine m_get X iX7 hK hw hxla rfl 10 (by decide) (ref := "ObjectMapperModel") (by decide +kernel) (Or.inl rfl) rfl dX7_removesBook_35 ?_
        refine lv_iload hx hb dX7_removesBook_38 (lv_at hl 0 rfl) ?_
        have jn40_q8 : ∀ (v : Int32) (H : Heap) (locs : List Loc), v = (if (mKn wa i 0 (nI ja) && decide (rdT wa 10 (aP i 0 ja) = nI b)) = true then (-1 : Int32) else rdT wa 10 (aP i 0 ja)) → wd G A Ma H → va_S A s.heap H locs → W p l e ({ frames := 3, cells := 0, slots := 0, locals := 72 }) s m [.ref x, .int (nI i), .int (nI b)].toArray below meth c H locs (0) (0) (MQ below (QV G (fun M' => MW G M' x ad (mRmB i b w) ∧ mFr x ad M M') A) [.ref x, .int (nI i), .int (nI b)].toArray s (0) (0) A) (F0 m 72 ls [(.int v), .int (nI (aP i 0 ja)), .ref (ad 10)]) := by
          intro v H locs hv9 hw hS
          rw [hv9]
          have ix10 : ((nI (aP i 0 ja)) : Int32) = nI (aP i 0 ja) := rfl
          have ix10b : (aP i 0 ja) < 6144 := (aP_lt hi (by decide) hj9a)
          refine m_iast X hK hw hS (hma.a10) (i := (nI (aP i 0 ja))) (x := ((if (mKn wa i 0 (nI ja) && decide (rdT wa 10 (aP i 0 ja) = nI b)) = true then (-1 : Int32) else rdT wa 10 (aP i 0 ja)))) (by rw [ix10]; exact vp_in_nI ix10b (by decide)) dX7_removesBook_72 (fun M9 H locs eM9 hw hS => ?_)
          rw [show ((nI (aP i 0 ja)) : Int32).toNatClampNeg = (aP i 0 ja) from by rw [ix10]; exact nI_clamp (by omega)] at eM9
          obtain ⟨wt11, ewt11⟩ : ∃ w9, w9 = mS wa 10 (aP i 0 ja) ((if (mKn wa i 0 (nI ja) && decide (rdT wa 10 (aP i 0 ja) = nI b)) = true then (-1 : Int32) else rdT wa 10 (aP i 0 ja))) := ⟨_, rfl⟩
          have hmt11 : MW G M9 x ad wt11 := by rw [ewt11]; exact hma.set10 eM9
          have frt11 := mFr.tr hfa (mFr.wr (x := x) (ad := ad) (a := 10) (by decide) eM9)
          have hxt11 : M9 x = some (.inr (8, [.int (rdH wt11), .ref (ad 1), .ref (ad 2), .ref (ad 3), .ref (ad 4), .ref (ad 5), .ref (ad 6), .ref (ad 7), .ref (ad 8), .ref (ad 9), .ref (ad 10), .ref (ad 11), .ref (ad 12), .ref (ad 13), .int (nI (rdN wt11)), .ref (ad 15)])) := hmt11.1
          refine lv_iinc (v := (nI (ja + 1))) (lv' := [(3, .int (nI (ja + 1))), (4, .int (nI (aP i 0 ja))), (0, .ref x), (1, .int (nI i)), (2, .int (nI b))]) hx hb dX7_removesBook_73 hl (k := 1) rfl (nI_1 _) (by decide) rfl (fun ls hl => ?_)
          refine lv_goto (tgt := 16) hx hb dX7_removesBook_76 (by decide) ?_
          have hza2 : wt11 = itm (mCl i (nI b)) (ja + 1) (itm (mLd i 0 (nI b)) (rdK w 0) (mGo i 1 b w)) := by
            show _ = (mCl i (nI b)) ja (itm (mCl i (nI b)) ja (itm (mLd i 0 (nI b)) (rdK w 0) (mGo i 1 b w)))
            rw [← hza]
            rw [ewt11]
            rfl
          exact ih (ja + 1) wt11 M9 H locs ls (by omega) (by omega) hza2 hmt11 frt11 hw hS (lv_sub hl [0, 2, 3, 4] rfl)
        refine lv_aload_n hx hb dX7_removesBook_40 rfl (lv_at hl 2 rfl) ?_
        refine lv_iload_n hx hb dX7_removesBook_41 rfl (lv_at hl 3 rfl) ?_
        refine lv_iconst (v := 0) hx hb dX7_removesBook_42 (by decide) ?_
        refine lv_iload_n hx hb dX7_removesBook_43 rfl (lv_at hl 1 rfl) ?_
        refine m_callVi X (ci := 8) rfl hxla hK hw hZ hS hA (As := [.int (nI i), .int 0, .int (nI ja)]) (rest := [.int (nI (aP i 0 ja)), .ref (ad 10)]) (c_knowsK l G dce _ Ma x ad wa hma i 0 hi (by decide) (nI ja) (nI i) rfl 0 rfl) (cwV 3 hts gX7_removesBook_X7_knows rfl rfl rfl (by decide +kernel) ⟨Nat.le_of_ble_eq_true rfl, Nat.le_of_ble_eq_true rfl⟩) rfl hl.1 rfl (Nat.le_of_ble_eq_true rfl) dX7_removesBook_44 (Nat.le_of_ble_eq_true rfl) (Nat.le_of_ble_eq_true rfl) (fun r13 M12 H locs hp hw hS hz hk => ?_)
        rw [hp.2] at hw
        rw [hp.1]
        refine lv_if_eq (tgt := 65) hx hb dX7_removesBook_47 (by decide) (fun c_47 => ?_) (fun c_47 => ?_)
        · refine lv_aload_n hx hb dX7_removesBook_65 rfl (lv_at hl 2 rfl) ?_
          refine m_get X iX7 hK hw hxla rfl 10 (by decide) (ref := "ObjectMapperModel") (by decide +kernel) (Or.inl rfl) rfl dX7_removesBook_66 ?_
          refine lv_iload hx hb dX7_removesBook_69 (lv_at hl 0 rfl) ?_
          have ix14 : ((nI (aP i 0 ja)) : Int32) = nI (aP i 0 ja) := rfl
          have ix14b : (aP i 0 ja) < 6144 := (aP_lt hi (by decide) hj9a)
          refine m_iald X hK hw (hma.a10) (i := (nI (aP i 0 ja))) (by rw [ix14]; exact vp_in_nI ix14b (by decide)) dX7_removesBook_71 ?_
          rw [show ((nI (aP i 0 ja)) : Int32).toNatClampNeg = (aP i 0 ja) from by rw [ix14]; exact nI_clamp (by omega)]
          exact jn40_q8 _ _ _ (by rw [if_neg (by simp [((bI_0 _).mp c_47)])]) hw hS
        · refine lv_aload_n hx hb dX7_removesBook_50 rfl (lv_at hl 2 rfl) ?_
          refine m_get X iX7 hK hw hxla rfl 10 (by decide) (ref := "ObjectMapperModel") (by decide +kernel) (Or.inl rfl) rfl dX7_removesBook_51 ?_
          refine lv_iload hx hb dX7_removesBook_54 (lv_at hl 0 rfl) ?_
          have ix15 : ((nI (aP i 0 ja)) : Int32) = nI (aP i 0 ja) := rfl
          have ix15b : (aP i 0 ja) < 6144 := (aP_lt hi (by decide) hj9a)
          refine m_iald X hK hw (hma.a10) (i := (nI (aP i 0 ja))) (by rw [ix15]; exact vp_in_nI ix15b (by decide)) dX7_removesBook_56 ?_
          rw [show ((nI (aP i 0 ja)) : Int32).toNatClampNeg = (aP i 0 ja) from by rw [ix15]; exact nI_clamp (by omega)]
          refine lv_iload_n hx hb dX7_removesBook_57 rfl (lv_at hl 4 rfl) ?_
          refine lv_icmp_ne (tgt := 65) hx hb dX7_removesBook_58 (by decide) (fun c_58 => ?_) (fun c_58 => ?_)
          · refine lv_aload_n hx hb dX7_removesBook_65 rfl (lv_at hl 2 rfl) ?_
            refine m_get X iX7 hK hw hxla rfl 10 (by decide) (ref := "ObjectMapperModel") (by decide +kernel) (Or.inl rfl) rfl dX7_removesBook_66 ?_
            refine lv_iload hx hb dX7_removesBook_69 (lv_at hl 0 rfl) ?_
            have ix16 : ((nI (aP i 0 ja)) : Int32) = nI (aP i 0 ja) := rfl
            have ix16b : (aP i 0 ja) < 6144 := (aP_lt hi (by decide) hj9a)
            refine m_iald X hK hw (hma.a10) (i := (nI (aP i 0 ja))) (by rw [ix16]; exact vp_in_nI ix16b (by decide)) dX7_removesBook_71 ?_
            rw [show ((nI (aP i 0 ja)) : Int32).toNatClampNeg = (aP i 0 ja) from by rw [ix16]; exact nI_clamp (by omega)]
            exact jn40_q8 _ _ _ (by rw [if_neg (by simp [(bI_t c_47), c_58])]) hw hS
          · refine lv_iconst (v := (-1)) hx hb dX7_removesBook_61 (by decide) ?_
            refine lv_goto (tgt := 72) hx hb dX7_removesBook_62 (by decide) ?_
            exact jn40_q8 _ _ _ (by rw [if_pos (by simp [(bI_t c_47), c_58])]) hw hS
  exact loopa (rdK (itm (mLd i 0 (nI b)) (rdK w 0) (mGo i 1 b w)) 0 + 1) 0 (itm (mLd i 0 (nI b)) (rdK w 0) (mGo i 1 b w)) M3 _ _ ls (Nat.zero_le _) (Nat.le_of_eq (Nat.zero_add _).symm) rfl hmt4 frt4 hw hS (lv_sub hl [0, 1, 2, 3] rfl)
theorem c_removesBookK (l : Launch) (G : gG) (dce sz : Nat) (M : gM) (x : Nat) (ad : Nat → Nat) (w : mW) (hm : MW G M x ad w) (i : Nat) (hi : i < 3) (b : Nat) (hb2 : b < 1024) (si : Int32) (hsi : si = nI i) (ky : Int32) (hky : ky = nI b) : mV l yX7_removesBook wsX7_removesBook ({ frames := 3, cells := 0, slots := 0, locals := 72 }) G dce sz M [.ref x, .int si, .int ky] (fun M' => MW G M' x ad (mRmB i b w) ∧ mFr x ad M M') (0) (0) := by
  subst hsi
  subst hky
  exact c_removesBook l G dce sz M x ad w hm i hi b hb2
set_option maxHeartbeats 4000000 in
set_option maxRecDepth 100000 in
theorem c_countOf (l : Launch) (G : gG) (dce sz : Nat) (M : gM) (x : Nat) (ad : Nat → Nat) (w : mW) (hm : MW G M x ad w) (i : Nat) (hi : i < 3) (t : Int32) : mI l yX7_countOf wsX7_countOf ({ frames := 2, cells := 0, slots := 0, locals := 45 }) G dce sz M [.ref x, .int (nI i), .int t] (fun r M' => r = nI (cnt (fun j => mKn w i 1 (nI j) && decide (rdT w 10 (aP i 1 j) = t)) (rdK w 1)) ∧ M' = M) (0) (0) := by
  have hx0 : M x = some (.inr (8, [.int (rdH w), .ref (ad 1), .ref (ad 2), .ref (ad 3), .ref (ad 4), .ref (ad 5), .ref (ad 6), .ref (ad 7), .ref (ad 8), .ref (ad 9), .ref (ad 10), .ref (ad 11), .ref (ad 12), .ref (ad 13), .int (nI (rdN w)), .ref (ad 15)])) := hm.1
  refine wMet (Qc := QI G _) (cc := cX7_countOf) (maxL := 5) (ret := (some .int)) (by decide) rfl (Nat.le_of_ble_eq_true rfl) ?_
  intro p e s m below meth c A ls X hnm hw hK hZ hA hS hsz eA hl
  obtain ⟨hx, hb, hr, hts, hown, hlk, hml⟩ := id X
  have hl : lv_has ls 5 [(0, .ref x), (1, .int (nI i)), (2, .int t)] := hl
  have iX7 : ∀ w ∈ wsX70, w ∈ wsX7_countOf := by decide +kernel
  refine lv_iconst (v := 0) hx hb dX7_countOf_0 (by decide) ?_
  refine lv_istore_n (lv' := [(3, .int (nI (0 + cnt (fun j => mKn w i 1 (nI j) && decide (rdT w 10 (aP i 1 j) = t)) 0))), (0, .ref x), (1, .int (nI i)), (2, .int t)]) hx hb dX7_countOf_1 rfl hl (by decide) rfl (fun ls hl => ?_)
  refine lv_iconst (v := 0) hx hb dX7_countOf_2 (by decide) ?_
  refine lv_istore (lv' := [(4, .int (nI 0)), (3, .int (nI (0 + cnt (fun j => mKn w i 1 (nI j) && decide (rdT w 10 (aP i 1 j) = t)) 0))), (0, .ref x), (1, .int (nI i)), (2, .int t)]) hx hb dX7_countOf_3 hl (by decide) rfl (fun ls hl => ?_)
  have loopa : ∀ (d : Nat) (ja : Nat) (H : Heap) (locs : List Loc) (ls : Array Slot), ja ≤ rdK w 1 → rdK w 1 + 1 ≤ ja + d → wd G A M H → va_S A s.heap H locs → lv_has ls 5 [(4, .int (nI ja)), (3, .int (nI (0 + cnt (fun j => mKn w i 1 (nI j) && decide (rdT w 10 (aP i 1 j) = t)) ja))), (0, .ref x), (1, .int (nI i)), (2, .int t)] → W p l e ({ frames := 2, cells := 0, slots := 0, locals := 45 }) s m [.ref x, .int (nI i), .int t].toArray below meth c H locs (0) (0) (MQ below (QI G (fun r M' => r = nI (cnt (fun j => mKn w i 1 (nI j) && decide (rdT w 10 (aP i 1 j) = t)) (rdK w 1)) ∧ M' = M) A) [.ref x, .int (nI i), .int t].toArray s (0) (0) A) (F0 m 5 ls []) := by
    intro d
    induction d with
    | zero => intro ja H locs ls h1 h2; exact absurd h2 (by omega)
    | succ d ih =>
      intro ja H locs ls hja1 hja2 hw hS hl
      have hba : rdK w 1 ≤ 1024 := hm.kb (by decide)
      refine lv_iload hx hb dX7_countOf_5 (lv_at hl 0 rfl) ?_
      refine lv_aload_n hx hb dX7_countOf_7 rfl (lv_at hl 2 rfl) ?_
      refine m_get X iX7 hK hw hx0 rfl 1 (by decide) (ref := "ObjectMapperModel") (by decide +kernel) (Or.inl rfl) rfl dX7_countOf_8 ?_
      refine lv_iconst (v := 1) hx hb dX7_countOf_11 (by decide) ?_
      have ix1 : (1 : Int32) = nI 1 := rfl
      have ix1b : 1 < 2 := (by decide)
      refine m_iald X hK hw (hm.a1) (i := 1) (by rw [ix1]; exact vp_in_nI ix1b (by decide)) dX7_countOf_12 ?_
      rw [show (1 : Int32).toNatClampNeg = 1 from by rw [ix1]; exact nI_clamp (by omega)]
      refine lv_icmp_ge (tgt := 57) hx hb dX7_countOf_13 (by decide) (fun c_13 => ?_) (fun c_13 => ?_)
      · have hkna : rdK w 1 ≤ ja := (nI_leI (by omega) (by omega)).mp c_13
        have hjja : ja = rdK w 1 := by omega
        refine lv_iload_n hx hb dX7_countOf_57 rfl (lv_at hl 1 rfl) ?_
        exact m_iret X hK hw hS ⟨by rw [hjja, Nat.zero_add], rfl⟩ (by omega) (by omega) dX7_countOf_58
      · have hkla : ja < rdK w 1 := Nat.lt_of_not_le (fun q => c_13 (nI_le q (by omega)))
        have hj9a : ja < 1024 := by omega
        have hkwa : ja < rdK w 1 := hkla
        refine lv_iload_n hx hb dX7_countOf_16 rfl (lv_at hl 1 rfl) ?_
        have jn17_q2 : ∀ (v : Int32) (H : Heap) (locs : List Loc), v = bI ((fun j => mKn w i 1 (nI j) && decide (rdT w 10 (aP i 1 j) = t)) ja) → wd G A M H → va_S A s.heap H locs → W p l e ({ frames := 2, cells := 0, slots := 0, locals := 45 }) s m [.ref x, .int (nI i), .int t].toArray below meth c H locs (0) (0) (MQ below (QI G (fun r M' => r = nI (cnt (fun j => mKn w i 1 (nI j) && decide (rdT w 10 (aP i 1 j) = t)) (rdK w 1)) ∧ M' = M) A) [.ref x, .int (nI i), .int t].toArray s (0) (0) A) (F0 m 49 ls [(.int v), .int (nI (0 + cnt (fun j => mKn w i 1 (nI j) && decide (rdT w 10 (aP i 1 j) = t)) ja))]) := by
          intro v H locs hv9 hw hS
          rw [hv9]
          refine lv_iadd hx hb dX7_countOf_49 ?_
          rw [show nI (0 + cnt (fun j => mKn w i 1 (nI j) && decide (rdT w 10 (aP i 1 j) = t)) ja) + bI ((fun j => mKn w i 1 (nI j) && decide (rdT w 10 (aP i 1 j) = t)) ja) = nI (0 + cnt (fun j => mKn w i 1 (nI j) && decide (rdT w 10 (aP i 1 j) = t)) (ja + 1)) from cnt_p]
          refine lv_istore_n (lv' := [(3, .int (nI (0 + cnt (fun j => mKn w i 1 (nI j) && decide (rdT w 10 (aP i 1 j) = t)) (ja + 1)))), (4, .int (nI ja)), (0, .ref x), (1, .int (nI i)), (2, .int t)]) hx hb dX7_countOf_50 rfl hl (by decide) rfl (fun ls hl => ?_)
          refine lv_iinc (v := (nI (ja + 1))) (lv' := [(4, .int (nI (ja + 1))), (3, .int (nI (0 + cnt (fun j => mKn w i 1 (nI j) && decide (rdT w 10 (aP i 1 j) = t)) (ja + 1)))), (0, .ref x), (1, .int (nI i)), (2, .int t)]) hx hb dX7_countOf_51 hl (k := 1) rfl (nI_1 _) (by decide) rfl (fun ls hl => ?_)
          refine lv_goto (tgt := 5) hx hb dX7_countOf_54 (by decide) ?_
          exact ih (ja + 1) H locs ls (by omega) (by omega) hw hS (lv_sub hl [0, 1, 2, 3, 4] rfl)
        refine lv_aload_n hx hb dX7_countOf_17 rfl (lv_at hl 2 rfl) ?_
        refine lv_iload_n hx hb dX7_countOf_18 rfl (lv_at hl 3 rfl) ?_
        refine lv_iconst (v := 1) hx hb dX7_countOf_19 (by decide) ?_
        refine lv_iload hx hb dX7_countOf_20 (lv_at hl 0 rfl) ?_
        refine m_callVi X (ci := 8) rfl hx0 hK hw hZ hS hA (As := [.int (nI i), .int 1, .int (nI ja)]) (rest := [.int (nI (0 + cnt (fun j => mKn w i 1 (nI j) && decide (rdT w 10 (aP i 1 j) = t)) ja))]) (c_knowsK l G dce _ M x ad w hm i 1 hi (by decide) (nI ja) (nI i) rfl 1 rfl) (cwV 3 hts gX7_countOf_X7_knows rfl rfl rfl (by decide +kernel) ⟨Nat.le_of_ble_eq_true rfl, Nat.le_of_ble_eq_true rfl⟩) rfl hl.1 rfl (Nat.le_of_ble_eq_true rfl) dX7_countOf_22 (Nat.le_of_ble_eq_true rfl) (Nat.le_of_ble_eq_true rfl) (fun r4 M3 H locs hp hw hS hz hk => ?_)
        rw [hp.2] at hw
        rw [hp.1]
        refine lv_if_eq (tgt := 48) hx hb dX7_countOf_25 (by decide) (fun c_25 => ?_) (fun c_25 => ?_)
        · refine lv_iconst (v := 0) hx hb dX7_countOf_48 (by decide) ?_
          exact jn17_q2 _ _ _ (by simp [bI, ((bI_0 _).mp c_25)]) hw hS
        · refine lv_aload_n hx hb dX7_countOf_28 rfl (lv_at hl 2 rfl) ?_
          refine m_get X iX7 hK hw hx0 rfl 10 (by decide) (ref := "ObjectMapperModel") (by decide +kernel) (Or.inl rfl) rfl dX7_countOf_29 ?_
          refine lv_iload_n hx hb dX7_countOf_32 rfl (lv_at hl 3 rfl) ?_
          refine lv_iconst (v := 1) hx hb dX7_countOf_33 (by decide) ?_
          refine lv_iload hx hb dX7_countOf_34 (lv_at hl 0 rfl) ?_
          refine m_callSi X hK hw hZ hS hA (As := [.int (nI i), .int 1, .int (nI ja)]) (rest := [.ref (ad 10), .int (nI (0 + cnt (fun j => mKn w i 1 (nI j) && decide (rdT w 10 (aP i 1 j) = t)) ja))]) (c_atK l G dce _ M i 1 ja (nI i) rfl 1 rfl (nI ja) rfl) (va_cwS 3 hts gX7_countOf_X7_at rfl rfl rfl (by decide +kernel) ⟨Nat.le_of_ble_eq_true rfl, Nat.le_of_ble_eq_true rfl⟩) rfl hl.1 rfl (Nat.le_of_ble_eq_true rfl) dX7_countOf_36 (Nat.le_of_ble_eq_true rfl) (Nat.le_of_ble_eq_true rfl) (fun r6 M5 H locs hp hw hS hz hk => ?_)
          rw [hp.2] at hw
          rw [hp.1]
          have ix7 : ((nI (aP i 1 ja)) : Int32) = nI (aP i 1 ja) := rfl
          have ix7b : (aP i 1 ja) < 6144 := (aP_lt hi (by decide) hj9a)
          refine m_iald X hK hw (hm.a10) (i := (nI (aP i 1 ja))) (by rw [ix7]; exact vp_in_nI ix7b (by decide)) dX7_countOf_39 ?_
          rw [show ((nI (aP i 1 ja)) : Int32).toNatClampNeg = (aP i 1 ja) from by rw [ix7]; exact nI_clamp (by omega)]
          refine lv_iload_n hx hb dX7_countOf_40 rfl (lv_at hl 4 rfl) ?_
          refine lv_icmp_ne (tgt := 48) hx hb dX7_countOf_41 (by decide) (fun c_41 => ?_) (fun c_41 => ?_)
          · refine lv_iconst (v := 0) hx hb dX7_countOf_48 (by decide) ?_
            exact jn17_q2 _ _ _ (by simp [bI, (bI_t c_25), c_41]) hw hS
          · refine lv_iconst (v := 1) hx hb dX7_countOf_44 (by decide) ?_
            refine lv_goto (tgt := 49) hx hb dX7_countOf_45 (by decide) ?_
            exact jn17_q2 _ _ _ (by simp [bI, (bI_t c_25), c_41]) hw hS
  exact loopa (rdK w 1 + 1) 0 _ _ ls (Nat.zero_le _) (Nat.le_of_eq (Nat.zero_add _).symm) hw hS (lv_sub hl [0, 1, 2, 3, 4] rfl)
theorem c_countOfK (l : Launch) (G : gG) (dce sz : Nat) (M : gM) (x : Nat) (ad : Nat → Nat) (w : mW) (hm : MW G M x ad w) (i : Nat) (hi : i < 3) (t : Int32) (si : Int32) (hsi : si = nI i) : mI l yX7_countOf wsX7_countOf ({ frames := 2, cells := 0, slots := 0, locals := 45 }) G dce sz M [.ref x, .int si, .int t] (fun r M' => r = nI (cnt (fun j => mKn w i 1 (nI j) && decide (rdT w 10 (aP i 1 j) = t)) (rdK w 1)) ∧ M' = M) (0) (0) := by
  subst hsi
  exact c_countOf l G dce sz M x ad w hm i hi t
set_option maxHeartbeats 4000000 in
set_option maxRecDepth 100000 in
theorem c_knownOf (l : Launch) (G : gG) (dce sz : Nat) (M : gM) (x : Nat) (ad : Nat → Nat) (w : mW) (hm : MW G M x ad w) (i : Nat) (hi : i < 3) : mI l yX7_knownOf wsX7_knownOf ({ frames := 2, cells := 0, slots := 0, locals := 45 }) G dce sz M [.ref x, .int (nI i)] (fun r M' => r = nI (cnt (fun j => mKn w i 0 (nI j)) (rdK w 0) + cnt (fun j => mKn w i 1 (nI j)) (rdK w 1)) ∧ M' = M) (0) (0) := by
  have hx0 : M x = some (.inr (8, [.int (rdH w), .ref (ad 1), .ref (ad 2), .ref (ad 3), .ref (ad 4), .ref (ad 5), .ref (ad 6), .ref (ad 7), .ref (ad 8), .ref (ad 9), .ref (ad 10), .ref (ad 11), .ref (ad 12), .ref (ad 13), .int (nI (rdN w)), .ref (ad 15)])) := hm.1
  refine wMet (Qc := QI G _) (cc := cX7_knownOf) (maxL := 5) (ret := (some .int)) (by decide) rfl (Nat.le_of_ble_eq_true rfl) ?_
  intro p e s m below meth c A ls X hnm hw hK hZ hA hS hsz eA hl
  obtain ⟨hx, hb, hr, hts, hown, hlk, hml⟩ := id X
  have hl : lv_has ls 5 [(0, .ref x), (1, .int (nI i))] := hl
  have iX7 : ∀ w ∈ wsX70, w ∈ wsX7_knownOf := by decide +kernel
  refine lv_iconst (v := 0) hx hb dX7_knownOf_0 (by decide) ?_
  refine lv_istore_n (lv' := [(2, .int (nI 0)), (0, .ref x), (1, .int (nI i))]) hx hb dX7_knownOf_1 rfl hl (by decide) rfl (fun ls hl => ?_)
  refine lv_iconst (v := 0) hx hb dX7_knownOf_2 (by decide) ?_
  refine lv_istore_n (lv' := [(3, .int 0), (2, .int (nI 0)), (0, .ref x), (1, .int (nI i))]) hx hb dX7_knownOf_3 rfl hl (by decide) rfl (fun ls hl => ?_)
  refine lv_iload_n hx hb dX7_knownOf_4 rfl (lv_at hl 0 rfl) ?_
  refine lv_iconst (v := 1) hx hb dX7_knownOf_5 (by decide) ?_
  refine lv_icmp_gt (tgt := 54) hx hb dX7_knownOf_6 (by decide) (fun c_6 => absurd c_6 (by decide)) (fun _ => ?_)
  refine lv_iconst (v := 0) hx hb dX7_knownOf_9 (by decide) ?_
  refine lv_istore (lv' := [(4, .int (nI 0)), (3, .int 0), (2, .int (nI 0)), (0, .ref x), (1, .int (nI i))]) hx hb dX7_knownOf_10 hl (by decide) rfl (fun ls hl => ?_)
  have hl : lv_has ls 5 [(4, .int (nI 0)), (3, .int 0), (2, .int (nI (0 + cnt (fun j => mKn w i 0 (nI j)) 0))), (0, .ref x), (1, .int (nI i))] := hl
  have loopa : ∀ (d : Nat) (ja : Nat) (H : Heap) (locs : List Loc) (ls : Array Slot), ja ≤ rdK w 0 → rdK w 0 + 1 ≤ ja + d → wd G A M H → va_S A s.heap H locs → lv_has ls 5 [(4, .int (nI ja)), (2, .int (nI (0 + cnt (fun j => mKn w i 0 (nI j)) ja))), (0, .ref x), (1, .int (nI i)), (3, .int 0)] → W p l e ({ frames := 2, cells := 0, slots := 0, locals := 45 }) s m [.ref x, .int (nI i)].toArray below meth c H locs (0) (0) (MQ below (QI G (fun r M' => r = nI (cnt (fun j => mKn w i 0 (nI j)) (rdK w 0) + cnt (fun j => mKn w i 1 (nI j)) (rdK w 1)) ∧ M' = M) A) [.ref x, .int (nI i)].toArray s (0) (0) A) (F0 m 12 ls []) := by
    intro d
    induction d with
    | zero => intro ja H locs ls h1 h2; exact absurd h2 (by omega)
    | succ d ih =>
      intro ja H locs ls hja1 hja2 hw hS hl
      have hba : rdK w 0 ≤ 1024 := hm.kb (by decide)
      refine lv_iload hx hb dX7_knownOf_12 (lv_at hl 0 rfl) ?_
      refine lv_aload_n hx hb dX7_knownOf_14 rfl (lv_at hl 2 rfl) ?_
      refine m_get X iX7 hK hw hx0 rfl 1 (by decide) (ref := "ObjectMapperModel") (by decide +kernel) (Or.inl rfl) rfl dX7_knownOf_15 ?_
      refine lv_iload_n hx hb dX7_knownOf_18 rfl (lv_at hl 4 rfl) ?_
      have ix1 : (0 : Int32) = nI 0 := rfl
      have ix1b : 0 < 2 := (by decide)
      refine m_iald X hK hw (hm.a1) (i := 0) (by rw [ix1]; exact vp_in_nI ix1b (by decide)) dX7_knownOf_19 ?_
      rw [show (0 : Int32).toNatClampNeg = 0 from by rw [ix1]; exact nI_clamp (by omega)]
      refine lv_icmp_ge (tgt := 48) hx hb dX7_knownOf_20 (by decide) (fun c_20 => ?_) (fun c_20 => ?_)
      · have hkna : rdK w 0 ≤ ja := (nI_leI (by omega) (by omega)).mp c_20
        have hjja : ja = rdK w 0 := by omega
        rw [hjja] at hl
        refine lv_iinc (v := 1) (lv' := [(3, .int 1), (4, .int (nI (rdK w 0))), (2, .int (nI (0 + cnt (fun j => mKn w i 0 (nI j)) (rdK w 0)))), (0, .ref x), (1, .int (nI i))]) hx hb dX7_knownOf_48 hl (k := 4) rfl (by decide) (by decide) rfl (fun ls hl => ?_)
        refine lv_goto (tgt := 4) hx hb dX7_knownOf_51 (by decide) ?_
        refine lv_iload_n hx hb dX7_knownOf_4 rfl (lv_at hl 0 rfl) ?_
        refine lv_iconst (v := 1) hx hb dX7_knownOf_5 (by decide) ?_
        refine lv_icmp_gt (tgt := 54) hx hb dX7_knownOf_6 (by decide) (fun c_6 => absurd c_6 (by decide)) (fun _ => ?_)
        refine lv_iconst (v := 0) hx hb dX7_knownOf_9 (by decide) ?_
        refine lv_istore (lv' := [(4, .int (nI 0)), (3, .int 1), (2, .int (nI (0 + cnt (fun j => mKn w i 0 (nI j)) (rdK w 0)))), (0, .ref x), (1, .int (nI i))]) hx hb dX7_knownOf_10 hl (by decide) rfl (fun ls hl => ?_)
        have hl : lv_has ls 5 [(4, .int (nI 0)), (3, .int 1), (2, .int (nI ((0 + cnt (fun j => mKn w i 0 (nI j)) (rdK w 0)) + cnt (fun j => mKn w i 1 (nI j)) 0))), (0, .ref x), (1, .int (nI i))] := hl
        have loopb : ∀ (d : Nat) (jb : Nat) (H : Heap) (locs : List Loc) (ls : Array Slot), jb ≤ rdK w 1 → rdK w 1 + 1 ≤ jb + d → wd G A M H → va_S A s.heap H locs → lv_has ls 5 [(4, .int (nI jb)), (2, .int (nI ((0 + cnt (fun j => mKn w i 0 (nI j)) (rdK w 0)) + cnt (fun j => mKn w i 1 (nI j)) jb))), (0, .ref x), (1, .int (nI i)), (3, .int 1)] → W p l e ({ frames := 2, cells := 0, slots := 0, locals := 45 }) s m [.ref x, .int (nI i)].toArray below meth c H locs (0) (0) (MQ below (QI G (fun r M' => r = nI (cnt (fun j => mKn w i 0 (nI j)) (rdK w 0) + cnt (fun j => mKn w i 1 (nI j)) (rdK w 1)) ∧ M' = M) A) [.ref x, .int (nI i)].toArray s (0) (0) A) (F0 m 12 ls []) := by
          intro d
          induction d with
          | zero => intro jb H locs ls h1 h2; exact absurd h2 (by omega)
          | succ d ih =>
            intro jb H locs ls hjb1 hjb2 hw hS hl
            have hbb : rdK w 1 ≤ 1024 := hm.kb (by decide)
            refine lv_iload hx hb dX7_knownOf_12 (lv_at hl 0 rfl) ?_
            refine lv_aload_n hx hb dX7_knownOf_14 rfl (lv_at hl 2 rfl) ?_
            refine m_get X iX7 hK hw hx0 rfl 1 (by decide) (ref := "ObjectMapperModel") (by decide +kernel) (Or.inl rfl) rfl dX7_knownOf_15 ?_
            refine lv_iload_n hx hb dX7_knownOf_18 rfl (lv_at hl 4 rfl) ?_
            have ix2 : (1 : Int32) = nI 1 := rfl
            have ix2b : 1 < 2 := (by decide)
            refine m_iald X hK hw (hm.a1) (i := 1) (by rw [ix2]; exact vp_in_nI ix2b (by decide)) dX7_knownOf_19 ?_
            rw [show (1 : Int32).toNatClampNeg = 1 from by rw [ix2]; exact nI_clamp (by omega)]
            refine lv_icmp_ge (tgt := 48) hx hb dX7_knownOf_20 (by decide) (fun c_20 => ?_) (fun c_20 => ?_)
            · have hknb : rdK w 1 ≤ jb := (nI_leI (by omega) (by omega)).mp c_20
              have hjjb : jb = rdK w 1 := by omega
              refine lv_iinc (v := 2) (lv' := [(3, .int 2), (4, .int (nI jb)), (2, .int (nI ((0 + cnt (fun j => mKn w i 0 (nI j)) (rdK w 0)) + cnt (fun j => mKn w i 1 (nI j)) jb))), (0, .ref x), (1, .int (nI i))]) hx hb dX7_knownOf_48 hl (k := 4) rfl (by decide) (by decide) rfl (fun ls hl => ?_)
              refine lv_goto (tgt := 4) hx hb dX7_knownOf_51 (by decide) ?_
              refine lv_iload_n hx hb dX7_knownOf_4 rfl (lv_at hl 0 rfl) ?_
              refine lv_iconst (v := 1) hx hb dX7_knownOf_5 (by decide) ?_
              refine lv_icmp_gt (tgt := 54) hx hb dX7_knownOf_6 (by decide) (fun _ => ?_) (fun c_6 => absurd (by decide) c_6)
              refine lv_iload_n hx hb dX7_knownOf_54 rfl (lv_at hl 2 rfl) ?_
              exact m_iret X hK hw hS ⟨by rw [hjjb, Nat.zero_add], rfl⟩ (by omega) (by omega) dX7_knownOf_55
            · have hklb : jb < rdK w 1 := Nat.lt_of_not_le (fun q => c_20 (nI_le q (by omega)))
              have hj9b : jb < 1024 := by omega
              have hkwb : jb < rdK w 1 := hklb
              refine lv_iload_n hx hb dX7_knownOf_23 rfl (lv_at hl 1 rfl) ?_
              have jn24_q3 : ∀ (v : Int32) (H : Heap) (locs : List Loc), v = bI ((fun j => mKn w i 1 (nI j)) jb) → wd G A M H → va_S A s.heap H locs → W p l e ({ frames := 2, cells := 0, slots := 0, locals := 45 }) s m [.ref x, .int (nI i)].toArray below meth c H locs (0) (0) (MQ below (QI G (fun r M' => r = nI (cnt (fun j => mKn w i 0 (nI j)) (rdK w 0) + cnt (fun j => mKn w i 1 (nI j)) (rdK w 1)) ∧ M' = M) A) [.ref x, .int (nI i)].toArray s (0) (0) A) (F0 m 40 ls [(.int v), .int (nI ((0 + cnt (fun j => mKn w i 0 (nI j)) (rdK w 0)) + cnt (fun j => mKn w i 1 (nI j)) jb))]) := by
                intro v H locs hv9 hw hS
                rw [hv9]
                refine lv_iadd hx hb dX7_knownOf_40 ?_
                rw [show nI ((0 + cnt (fun j => mKn w i 0 (nI j)) (rdK w 0)) + cnt (fun j => mKn w i 1 (nI j)) jb) + bI ((fun j => mKn w i 1 (nI j)) jb) = nI ((0 + cnt (fun j => mKn w i 0 (nI j)) (rdK w 0)) + cnt (fun j => mKn w i 1 (nI j)) (jb + 1)) from cnt_p]
                refine lv_istore_n (lv' := [(2, .int (nI ((0 + cnt (fun j => mKn w i 0 (nI j)) (rdK w 0)) + cnt (fun j => mKn w i 1 (nI j)) (jb + 1)))), (4, .int (nI jb)), (0, .ref x), (1, .int (nI i)), (3, .int 1)]) hx hb dX7_knownOf_41 rfl hl (by decide) rfl (fun ls hl => ?_)
                refine lv_iinc (v := (nI (jb + 1))) (lv' := [(4, .int (nI (jb + 1))), (2, .int (nI ((0 + cnt (fun j => mKn w i 0 (nI j)) (rdK w 0)) + cnt (fun j => mKn w i 1 (nI j)) (jb + 1)))), (0, .ref x), (1, .int (nI i)), (3, .int 1)]) hx hb dX7_knownOf_42 hl (k := 1) rfl (nI_1 _) (by decide) rfl (fun ls hl => ?_)
                refine lv_goto (tgt := 12) hx hb dX7_knownOf_45 (by decide) ?_
                exact ih (jb + 1) H locs ls (by omega) (by omega) hw hS (lv_sub hl [0, 1, 2, 3, 4] rfl)
              refine lv_aload_n hx hb dX7_knownOf_24 rfl (lv_at hl 2 rfl) ?_
              refine lv_iload_n hx hb dX7_knownOf_25 rfl (lv_at hl 3 rfl) ?_
              refine lv_iload_n hx hb dX7_knownOf_26 rfl (lv_at hl 4 rfl) ?_
              refine lv_iload hx hb dX7_knownOf_27 (lv_at hl 0 rfl) ?_
              refine m_callVi X (ci := 8) rfl hx0 hK hw hZ hS hA (As := [.int (nI i), .int 1, .int (nI jb)]) (rest := [.int (nI ((0 + cnt (fun j => mKn w i 0 (nI j)) (rdK w 0)) + cnt (fun j => mKn w i 1 (nI j)) jb))]) (c_knowsK l G dce _ M x ad w hm i 1 hi (by decide) (nI jb) (nI i) rfl 1 rfl) (cwV 3 hts gX7_knownOf_X7_knows rfl rfl rfl (by decide +kernel) ⟨Nat.le_of_ble_eq_true rfl, Nat.le_of_ble_eq_true rfl⟩) rfl hl.1 rfl (Nat.le_of_ble_eq_true rfl) dX7_knownOf_29 (Nat.le_of_ble_eq_true rfl) (Nat.le_of_ble_eq_true rfl) (fun r5 M4 H locs hp hw hS hz hk => ?_)
              rw [hp.2] at hw
              rw [hp.1]
              refine lv_if_eq (tgt := 39) hx hb dX7_knownOf_32 (by decide) (fun c_32 => ?_) (fun c_32 => ?_)
              · refine lv_iconst (v := 0) hx hb dX7_knownOf_39 (by decide) ?_
                exact jn24_q3 _ _ _ (by simp [bI, ((bI_0 _).mp c_32)]) hw hS
              · refine lv_iconst (v := 1) hx hb dX7_knownOf_35 (by decide) ?_
                refine lv_goto (tgt := 40) hx hb dX7_knownOf_36 (by decide) ?_
                exact jn24_q3 _ _ _ (by simp [bI, (bI_t c_32)]) hw hS
        exact loopb (rdK w 1 + 1) 0 _ _ ls (Nat.zero_le _) (Nat.le_of_eq (Nat.zero_add _).symm) hw hS (lv_sub hl [0, 2, 3, 4, 1] rfl)
      · have hkla : ja < rdK w 0 := Nat.lt_of_not_le (fun q => c_20 (nI_le q (by omega)))
        have hj9a : ja < 1024 := by omega
        have hkwa : ja < rdK w 0 := hkla
        refine lv_iload_n hx hb dX7_knownOf_23 rfl (lv_at hl 1 rfl) ?_
        have jn24_q6 : ∀ (v : Int32) (H : Heap) (locs : List Loc), v = bI ((fun j => mKn w i 0 (nI j)) ja) → wd G A M H → va_S A s.heap H locs → W p l e ({ frames := 2, cells := 0, slots := 0, locals := 45 }) s m [.ref x, .int (nI i)].toArray below meth c H locs (0) (0) (MQ below (QI G (fun r M' => r = nI (cnt (fun j => mKn w i 0 (nI j)) (rdK w 0) + cnt (fun j => mKn w i 1 (nI j)) (rdK w 1)) ∧ M' = M) A) [.ref x, .int (nI i)].toArray s (0) (0) A) (F0 m 40 ls [(.int v), .int (nI (0 + cnt (fun j => mKn w i 0 (nI j)) ja))]) := by
          intro v H locs hv9 hw hS
          rw [hv9]
          refine lv_iadd hx hb dX7_knownOf_40 ?_
          rw [show nI (0 + cnt (fun j => mKn w i 0 (nI j)) ja) + bI ((fun j => mKn w i 0 (nI j)) ja) = nI (0 + cnt (fun j => mKn w i 0 (nI j)) (ja + 1)) from cnt_p]
          refine lv_istore_n (lv' := [(2, .int (nI (0 + cnt (fun j => mKn w i 0 (nI j)) (ja + 1)))), (4, .int (nI ja)), (0, .ref x), (1, .int (nI i)), (3, .int 0)]) hx hb dX7_knownOf_41 rfl hl (by decide) rfl (fun ls hl => ?_)
          refine lv_iinc (v := (nI (ja + 1))) (lv' := [(4, .int (nI (ja + 1))), (2, .int (nI (0 + cnt (fun j => mKn w i 0 (nI j)) (ja + 1)))), (0, .ref x), (1, .int (nI i)), (3, .int 0)]) hx hb dX7_knownOf_42 hl (k := 1) rfl (nI_1 _) (by decide) rfl (fun ls hl => ?_)
          refine lv_goto (tgt := 12) hx hb dX7_knownOf_45 (by decide) ?_
          exact ih (ja + 1) H locs ls (by omega) (by omega) hw hS (lv_sub hl [0, 1, 2, 3, 4] rfl)
        refine lv_aload_n hx hb dX7_knownOf_24 rfl (lv_at hl 2 rfl) ?_
        refine lv_iload_n hx hb dX7_knownOf_25 rfl (lv_at hl 3 rfl) ?_
        refine lv_iload_n hx hb dX7_knownOf_26 rfl (lv_at hl 4 rfl) ?_
        refine lv_iload hx hb dX7_knownOf_27 (lv_at hl 0 rfl) ?_
        refine m_callVi X (ci := 8) rfl hx0 hK hw hZ hS hA (As := [.int (nI i), .int 0, .int (nI ja)]) (rest := [.int (nI (0 + cnt (fun j => mKn w i 0 (nI j)) ja))]) (c_knowsK l G dce _ M x ad w hm i 0 hi (by decide) (nI ja) (nI i) rfl 0 rfl) (cwV 3 hts gX7_knownOf_X7_knows rfl rfl rfl (by decide +kernel) ⟨Nat.le_of_ble_eq_true rfl, Nat.le_of_ble_eq_true rfl⟩) rfl hl.1 rfl (Nat.le_of_ble_eq_true rfl) dX7_knownOf_29 (Nat.le_of_ble_eq_true rfl) (Nat.le_of_ble_eq_true rfl) (fun r8 M7 H locs hp hw hS hz hk => ?_)
        rw [hp.2] at hw
        rw [hp.1]
        refine lv_if_eq (tgt := 39) hx hb dX7_knownOf_32 (by decide) (fun c_32 => ?_) (fun c_32 => ?_)
        · refine lv_iconst (v := 0) hx hb dX7_knownOf_39 (by decide) ?_
          exact jn24_q6 _ _ _ (by simp [bI, ((bI_0 _).mp c_32)]) hw hS
        · refine lv_iconst (v := 1) hx hb dX7_knownOf_35 (by decide) ?_
          refine lv_goto (tgt := 40) hx hb dX7_knownOf_36 (by decide) ?_
          exact jn24_q6 _ _ _ (by simp [bI, (bI_t c_32)]) hw hS
  exact loopa (rdK w 0 + 1) 0 _ _ ls (Nat.zero_le _) (Nat.le_of_eq (Nat.zero_add _).symm) hw hS (lv_sub hl [0, 2, 3, 4, 1] rfl)
theorem c_knownOfK (l : Launch) (G : gG) (dce sz : Nat) (M : gM) (x : Nat) (ad : Nat → Nat) (w : mW) (hm : MW G M x ad w) (i : Nat) (hi : i < 3) (si : Int32) (hsi : si = nI i) : mI l yX7_knownOf wsX7_knownOf ({ frames := 2, cells := 0, slots := 0, locals := 45 }) G dce sz M [.ref x, .int si] (fun r M' => r = nI (cnt (fun j => mKn w i 0 (nI j)) (rdK w 0) + cnt (fun j => mKn w i 1 (nI j)) (rdK w 1)) ∧ M' = M) (0) (0) := by
  subst hsi
  exact c_knownOf l G dce sz M x ad w hm i hi
