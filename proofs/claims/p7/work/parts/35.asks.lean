def aP (i k j : Nat) : Nat := 1024 * (2 * i + k) + j
def rP (k j : Nat) : Nat := 1024 * k + j
theorem aP_lt {i k j : Nat} (hi : i < 3) (hk : k < 2) (hj : j < 1024) : aP i k j < 6144 := by unfold aP; omega
theorem rP_lt {k j : Nat} (hk : k < 2) (hj : j < 1024) : rP k j < 2048 := by unfold rP; omega
def mHr (w : mW) (k : Nat) (ky : Int32) : Bool := inK (rdK w k) ky && decide (rdT w 2 (rP k ky.toNatClampNeg) ≠ 0)
def mKn (w : mW) (i k : Nat) (ky : Int32) : Bool := inK (rdK w k) ky && (decide (rdT w 7 (aP i k ky.toNatClampNeg) ≠ 0) && decide (rdT w 8 (aP i k ky.toNatClampNeg) = 0))
def mMd (w : mW) (i k j : Nat) : Bool := decide (rdT w 7 (aP i k j) = 1)
def mGn (w : mW) (i k j : Nat) : Bool := decide (rdT w 7 (aP i k j) = 2) && decide (rdT w 8 (aP i k j) ≠ 0)
def mDr (w : mW) (i k j : Nat) : Bool := mKn w i k (nI j) && (decide (rdT w 7 (aP i k j) = 2) && (decide (rdT w 9 (aP i k j) ≠ rdT w 11 (aP i k j)) || decide (rdT w 10 (aP i k j) ≠ rdT w 12 (aP i k j))))
set_option maxHeartbeats 4000000 in
set_option maxRecDepth 100000 in
theorem c_at (l : Launch) (G : gG) (dce sz : Nat) (M : gM) (i k j : Nat) : mI l yX7_at wsX7_at ({ frames := 0, cells := 0, slots := 0, locals := 0 }) G dce sz M [.int (nI i), .int (nI k), .int (nI j)] (fun r M' => r = nI (aP i k j) ∧ M' = M) (0) (0) := by
  refine wMet (Qc := QI G _) (cc := cX7_at) (maxL := 3) (ret := (some .int)) (by decide) rfl (Nat.le_of_ble_eq_true rfl) ?_
  intro p e s m below meth c A ls X hnm hw hK hZ hA hS hsz eA hl
  obtain ⟨hx, hb, hr, hts, hown, hlk, hml⟩ := id X
  have hl : lv_has ls 3 [(0, .int (nI i)), (1, .int (nI k)), (2, .int (nI j))] := hl
  refine lv_sipush (v := 1024) hx hb dX7_at_0 (by decide) ?_
  refine lv_iconst (v := 2) hx hb dX7_at_3 (by decide) ?_
  refine lv_iload_n hx hb dX7_at_4 rfl (lv_at hl 0 rfl) ?_
  refine lv_imul hx hb dX7_at_5 ?_
  rw [show (2 : Int32) * nI i = nI (2 * i) from nI_mul 2 i]
  refine lv_iload_n hx hb dX7_at_6 rfl (lv_at hl 1 rfl) ?_
  refine lv_iadd hx hb dX7_at_7 ?_
  rw [nI_add]
  refine lv_imul hx hb dX7_at_8 ?_
  rw [show (1024 : Int32) * nI (2 * i + k) = nI (1024 * (2 * i + k)) from nI_mul 1024 (2 * i + k)]
  refine lv_iload_n hx hb dX7_at_9 rfl (lv_at hl 2 rfl) ?_
  refine lv_iadd hx hb dX7_at_10 ?_
  rw [nI_add]
  exact m_iret X hK hw hS (by exact ⟨rfl, rfl⟩) (by omega) (by omega) dX7_at_11
theorem c_atK (l : Launch) (G : gG) (dce sz : Nat) (M : gM) (i k j : Nat) (si : Int32) (hsi : si = nI i) (kd : Int32) (hkd : kd = nI k) (ky : Int32) (hky : ky = nI j) : mI l yX7_at wsX7_at ({ frames := 0, cells := 0, slots := 0, locals := 0 }) G dce sz M [.int si, .int kd, .int ky] (fun r M' => r = nI (aP i k j) ∧ M' = M) (0) (0) := by
  subst hsi
  subst hkd
  subst hky
  exact c_at l G dce sz M i k j
set_option maxHeartbeats 4000000 in
set_option maxRecDepth 100000 in
theorem c_row (l : Launch) (G : gG) (dce sz : Nat) (M : gM) (k j : Nat) : mI l yX7_row wsX7_row ({ frames := 0, cells := 0, slots := 0, locals := 0 }) G dce sz M [.int (nI k), .int (nI j)] (fun r M' => r = nI (rP k j) ∧ M' = M) (0) (0) := by
  refine wMet (Qc := QI G _) (cc := cX7_row) (maxL := 2) (ret := (some .int)) (by decide) rfl (Nat.le_of_ble_eq_true rfl) ?_
  intro p e s m below meth c A ls X hnm hw hK hZ hA hS hsz eA hl
  obtain ⟨hx, hb, hr, hts, hown, hlk, hml⟩ := id X
  have hl : lv_has ls 2 [(0, .int (nI k)), (1, .int (nI j))] := hl
  refine lv_sipush (v := 1024) hx hb dX7_row_0 (by decide) ?_
  refine lv_iload_n hx hb dX7_row_3 rfl (lv_at hl 0 rfl) ?_
  refine lv_imul hx hb dX7_row_4 ?_
  rw [show (1024 : Int32) * nI k = nI (1024 * k) from nI_mul 1024 k]
  refine lv_iload_n hx hb dX7_row_5 rfl (lv_at hl 1 rfl) ?_
  refine lv_iadd hx hb dX7_row_6 ?_
  rw [nI_add]
  exact m_iret X hK hw hS (by exact ⟨rfl, rfl⟩) (by omega) (by omega) dX7_row_7
theorem c_rowK (l : Launch) (G : gG) (dce sz : Nat) (M : gM) (k j : Nat) (kd : Int32) (hkd : kd = nI k) (ky : Int32) (hky : ky = nI j) : mI l yX7_row wsX7_row ({ frames := 0, cells := 0, slots := 0, locals := 0 }) G dce sz M [.int kd, .int ky] (fun r M' => r = nI (rP k j) ∧ M' = M) (0) (0) := by
  subst hkd
  subst hky
  exact c_row l G dce sz M k j
set_option maxHeartbeats 4000000 in
set_option maxRecDepth 100000 in
theorem c_isKey (l : Launch) (G : gG) (dce sz : Nat) (M : gM) (x : Nat) (ad : Nat → Nat) (w : mW) (hm : MW G M x ad w) (k : Nat) (hk2 : k < 2) (ky : Int32) : mI l yX7_isKey wsX7_isKey ({ frames := 0, cells := 0, slots := 0, locals := 0 }) G dce sz M [.ref x, .int (nI k), .int ky] (fun r M' => r = bI (inK (rdK w k) ky) ∧ M' = M) (0) (0) := by
  have hx0 : M x = some (.inr (8, [.int (rdH w), .ref (ad 1), .ref (ad 2), .ref (ad 3), .ref (ad 4), .ref (ad 5), .ref (ad 6), .ref (ad 7), .ref (ad 8), .ref (ad 9), .ref (ad 10), .ref (ad 11), .ref (ad 12), .ref (ad 13), .int (nI (rdN w)), .ref (ad 15)])) := hm.1
  refine wMet (Qc := QI G _) (cc := cX7_isKey) (maxL := 3) (ret := (some .boolean)) (by decide) rfl (Nat.le_of_ble_eq_true rfl) ?_
  intro p e s m below meth c A ls X hnm hw hK hZ hA hS hsz eA hl
  obtain ⟨hx, hb, hr, hts, hown, hlk, hml⟩ := id X
  have hl : lv_has ls 3 [(0, .ref x), (1, .int (nI k)), (2, .int ky)] := hl
  have iX7 : ∀ w ∈ wsX70, w ∈ wsX7_isKey := by decide +kernel
  refine lv_iload_n hx hb dX7_isKey_0 rfl (lv_at hl 2 rfl) ?_
  refine lv_if_lt (tgt := 18) hx hb dX7_isKey_1 (by decide) (fun c_1 => ?_) (fun c_1 => ?_)
  · refine lv_iconst (v := 0) hx hb dX7_isKey_18 (by decide) ?_
    exact m_zret X (by decide) hK hw hS ⟨by rw [show inK (rdK w k) ky = false from by unfold inK; rw [decide_eq_true c_1]; rfl]; rfl, rfl⟩ (by omega) (by omega) dX7_isKey_19
  · refine lv_iload_n hx hb dX7_isKey_4 rfl (lv_at hl 2 rfl) ?_
    refine lv_aload_n hx hb dX7_isKey_5 rfl (lv_at hl 0 rfl) ?_
    refine m_get X iX7 hK hw hx0 rfl 1 (by decide) (ref := "ObjectMapperModel") (by decide +kernel) (Or.inl rfl) rfl dX7_isKey_6 ?_
    refine lv_iload_n hx hb dX7_isKey_9 rfl (lv_at hl 1 rfl) ?_
    refine m_iald X hK hw (hm.a1) (vp_in_nI (n := k) hk2 (by decide)) dX7_isKey_10 ?_
    rw [nI_clamp (n := k) (by have h7 : k < 2 := hk2; omega)]
    refine lv_icmp_ge (tgt := 18) hx hb dX7_isKey_11 (by decide) (fun c_11 => ?_) (fun c_11 => ?_)
    · refine lv_iconst (v := 0) hx hb dX7_isKey_18 (by decide) ?_
      exact m_zret X (by decide) hK hw hS ⟨by rw [show inK (rdK w k) ky = false from by unfold inK; rw [decide_eq_false c_1, decide_eq_false (Int32.not_lt.mpr c_11)]; rfl]; rfl, rfl⟩ (by omega) (by omega) dX7_isKey_19
    · refine lv_iconst (v := 1) hx hb dX7_isKey_14 (by decide) ?_
      refine lv_goto (tgt := 19) hx hb dX7_isKey_15 (by decide) ?_
      exact m_zret X (by decide) hK hw hS ⟨by rw [show inK (rdK w k) ky = true from by unfold inK; rw [decide_eq_false c_1, decide_eq_true (Int32.not_le.mp c_11)]; rfl]; rfl, rfl⟩ (by omega) (by omega) dX7_isKey_19
theorem c_isKeyK (l : Launch) (G : gG) (dce sz : Nat) (M : gM) (x : Nat) (ad : Nat → Nat) (w : mW) (hm : MW G M x ad w) (k : Nat) (hk2 : k < 2) (ky : Int32) (kd : Int32) (hkd : kd = nI k) : mI l yX7_isKey wsX7_isKey ({ frames := 0, cells := 0, slots := 0, locals := 0 }) G dce sz M [.ref x, .int kd, .int ky] (fun r M' => r = bI (inK (rdK w k) ky) ∧ M' = M) (0) (0) := by
  subst hkd
  exact c_isKey l G dce sz M x ad w hm k hk2 ky
set_option maxHeartbeats 4000000 in
set_option maxRecDepth 100000 in
theorem c_hasRow (l : Launch) (G : gG) (dce sz : Nat) (M : gM) (x : Nat) (ad : Nat → Nat) (w : mW) (hm : MW G M x ad w) (k : Nat) (hk2 : k < 2) (ky : Int32) : mI l yX7_hasRow wsX7_hasRow ({ frames := 1, cells := 0, slots := 0, locals := 22 }) G dce sz M [.ref x, .int (nI k), .int ky] (fun r M' => r = bI (mHr w k ky) ∧ M' = M) (0) (0) := by
  have hx0 : M x = some (.inr (8, [.int (rdH w), .ref (ad 1), .ref (ad 2), .ref (ad 3), .ref (ad 4), .ref (ad 5), .ref (ad 6), .ref (ad 7), .ref (ad 8), .ref (ad 9), .ref (ad 10), .ref (ad 11), .ref (ad 12), .ref (ad 13), .int (nI (rdN w)), .ref (ad 15)])) := hm.1
  refine wMet (Qc := QI G _) (cc := cX7_hasRow) (maxL := 3) (ret := (some .boolean)) (by decide) rfl (Nat.le_of_ble_eq_true rfl) ?_
  intro p e s m below meth c A ls X hnm hw hK hZ hA hS hsz eA hl
  obtain ⟨hx, hb, hr, hts, hown, hlk, hml⟩ := id X
  have hl : lv_has ls 3 [(0, .ref x), (1, .int (nI k)), (2, .int ky)] := hl
  have iX7 : ∀ w ∈ wsX70, w ∈ wsX7_hasRow := by decide +kernel
  refine lv_aload_n hx hb dX7_hasRow_0 rfl (lv_at hl 0 rfl) ?_
  refine lv_iload_n hx hb dX7_hasRow_1 rfl (lv_at hl 1 rfl) ?_
  refine lv_iload_n hx hb dX7_hasRow_2 rfl (lv_at hl 2 rfl) ?_
  refine m_callVi X (ci := 8) rfl hx0 hK hw hZ hS hA (As := [.int (nI k), .int ky]) (rest := []) (c_isKey l G dce _ M x ad w hm k hk2 ky) (cwV 2 hts gX7_hasRow_X7_isKey rfl rfl rfl (by decide +kernel) ⟨Nat.le_of_ble_eq_true rfl, Nat.le_of_ble_eq_true rfl⟩) rfl hl.1 rfl (Nat.le_of_ble_eq_true rfl) dX7_hasRow_3 (Nat.le_of_ble_eq_true rfl) (Nat.le_of_ble_eq_true rfl) (fun r2 M1 H locs hp hw hS hz hk => ?_)
  rw [hp.2] at hw
  rw [hp.1]
  refine lv_if_eq (tgt := 26) hx hb dX7_hasRow_6 (by decide) (fun c_6 => ?_) (fun c_6 => ?_)
  · refine lv_iconst (v := 0) hx hb dX7_hasRow_26 (by decide) ?_
    exact m_zret X (by decide) hK hw hS ⟨by rw [show mHr w k ky = false from by unfold mHr; rw [(bI_0 _).mp c_6]; rfl]; rfl, rfl⟩ (by omega) (by omega) dX7_hasRow_27
  · obtain ⟨j, hj, ej⟩ := inK_n (hm.kb hk2) (bI_t c_6)
    have hkb := hm.kb hk2
    have hj2 : j < 1024 := by omega
    have hcl : ky.toNatClampNeg = j := by rw [ej]; exact nI_clamp (by omega)
    refine lv_aload_n hx hb dX7_hasRow_9 rfl (lv_at hl 0 rfl) ?_
    refine m_get X iX7 hK hw hx0 rfl 2 (by decide) (ref := "ObjectMapperModel") (by decide +kernel) (Or.inl rfl) rfl dX7_hasRow_10 ?_
    refine lv_iload_n hx hb dX7_hasRow_13 rfl (lv_at hl 1 rfl) ?_
    refine lv_iload_n hx hb dX7_hasRow_14 rfl (lv_at hl 2 rfl) ?_
    refine m_callSi X hK hw hZ hS hA (As := [.int (nI k), .int ky]) (rest := [.ref (ad 2)]) (c_rowK l G dce _ M k j (nI k) rfl ky ej) (va_cwS 2 hts gX7_hasRow_X7_row rfl rfl rfl (by decide +kernel) ⟨Nat.le_of_ble_eq_true rfl, Nat.le_of_ble_eq_true rfl⟩) rfl hl.1 rfl (Nat.le_of_ble_eq_true rfl) dX7_hasRow_15 (Nat.le_of_ble_eq_true rfl) (Nat.le_of_ble_eq_true rfl) (fun r4 M3 H locs hp hw hS hz hk => ?_)
    rw [hp.2] at hw
    rw [hp.1]
    refine m_zald X hK hw (hm.a2) (vp_in_nI (n := (rP k j)) (rP_lt hk2 hj2) (by decide)) dX7_hasRow_18 ?_
    rw [nI_clamp (n := (rP k j)) (by have h7 : (rP k j) < 2048 := (rP_lt hk2 hj2); omega)]
    refine lv_if_eq (tgt := 26) hx hb dX7_hasRow_19 (by decide) (fun c_19 => ?_) (fun c_19 => ?_)
    · refine lv_iconst (v := 0) hx hb dX7_hasRow_26 (by decide) ?_
      exact m_zret X (by decide) hK hw hS ⟨by rw [show mHr w k ky = false from by unfold mHr; rw [bI_t c_6, hcl, decide_eq_false (fun q => q c_19)]; rfl]; rfl, rfl⟩ (by omega) (by omega) dX7_hasRow_27
    · refine lv_iconst (v := 1) hx hb dX7_hasRow_22 (by decide) ?_
      refine lv_goto (tgt := 27) hx hb dX7_hasRow_23 (by decide) ?_
      exact m_zret X (by decide) hK hw hS ⟨by rw [show mHr w k ky = true from by unfold mHr; rw [bI_t c_6, hcl, decide_eq_true (by exact c_19)]; rfl]; rfl, rfl⟩ (by omega) (by omega) dX7_hasRow_27
theorem c_hasRowK (l : Launch) (G : gG) (dce sz : Nat) (M : gM) (x : Nat) (ad : Nat → Nat) (w : mW) (hm : MW G M x ad w) (k : Nat) (hk2 : k < 2) (ky : Int32) (kd : Int32) (hkd : kd = nI k) : mI l yX7_hasRow wsX7_hasRow ({ frames := 1, cells := 0, slots := 0, locals := 22 }) G dce sz M [.ref x, .int kd, .int ky] (fun r M' => r = bI (mHr w k ky) ∧ M' = M) (0) (0) := by
  subst hkd
  exact c_hasRow l G dce sz M x ad w hm k hk2 ky
set_option maxHeartbeats 4000000 in
set_option maxRecDepth 100000 in
theorem c_knows (l : Launch) (G : gG) (dce sz : Nat) (M : gM) (x : Nat) (ad : Nat → Nat) (w : mW) (hm : MW G M x ad w) (i k : Nat) (hi : i < 3) (hk2 : k < 2) (ky : Int32) : mI l yX7_knows wsX7_knows ({ frames := 1, cells := 0, slots := 0, locals := 22 }) G dce sz M [.ref x, .int (nI i), .int (nI k), .int ky] (fun r M' => r = bI (mKn w i k ky) ∧ M' = M) (0) (0) := by
  have hx0 : M x = some (.inr (8, [.int (rdH w), .ref (ad 1), .ref (ad 2), .ref (ad 3), .ref (ad 4), .ref (ad 5), .ref (ad 6), .ref (ad 7), .ref (ad 8), .ref (ad 9), .ref (ad 10), .ref (ad 11), .ref (ad 12), .ref (ad 13), .int (nI (rdN w)), .ref (ad 15)])) := hm.1
  refine wMet (Qc := QI G _) (cc := cX7_knows) (maxL := 4) (ret := (some .boolean)) (by decide) rfl (Nat.le_of_ble_eq_true rfl) ?_
  intro p e s m below meth c A ls X hnm hw hK hZ hA hS hsz eA hl
  obtain ⟨hx, hb, hr, hts, hown, hlk, hml⟩ := id X
  have hl : lv_has ls 4 [(0, .ref x), (1, .int (nI i)), (2, .int (nI k)), (3, .int ky)] := hl
  have iX7 : ∀ w ∈ wsX70, w ∈ wsX7_knows := by decide +kernel
  refine lv_aload_n hx hb dX7_knows_0 rfl (lv_at hl 0 rfl) ?_
  refine lv_iload_n hx hb dX7_knows_1 rfl (lv_at hl 2 rfl) ?_
  refine lv_iload_n hx hb dX7_knows_2 rfl (lv_at hl 3 rfl) ?_
  refine m_callVi X (ci := 8) rfl hx0 hK hw hZ hS hA (As := [.int (nI k), .int ky]) (rest := []) (c_isKey l G dce _ M x ad w hm k hk2 ky) (cwV 2 hts gX7_knows_X7_isKey rfl rfl rfl (by decide +kernel) ⟨Nat.le_of_ble_eq_true rfl, Nat.le_of_ble_eq_true rfl⟩) rfl hl.1 rfl (Nat.le_of_ble_eq_true rfl) dX7_knows_3 (Nat.le_of_ble_eq_true rfl) (Nat.le_of_ble_eq_true rfl) (fun r2 M1 H locs hp hw hS hz hk => ?_)
  rw [hp.2] at hw
  rw [hp.1]
  refine lv_if_eq (tgt := 41) hx hb dX7_knows_6 (by decide) (fun c_6 => ?_) (fun c_6 => ?_)
  · refine lv_iconst (v := 0) hx hb dX7_knows_41 (by decide) ?_
    exact m_zret X (by decide) hK hw hS ⟨by rw [show mKn w i k ky = false from by unfold mKn; rw [(bI_0 _).mp c_6]; rfl]; rfl, rfl⟩ (by omega) (by omega) dX7_knows_42
  · obtain ⟨j, hj, ej⟩ := inK_n (hm.kb hk2) (bI_t c_6)
    have hkb := hm.kb hk2
    have hj2 : j < 1024 := by omega
    have hcl : ky.toNatClampNeg = j := by rw [ej]; exact nI_clamp (by omega)
    refine lv_aload_n hx hb dX7_knows_9 rfl (lv_at hl 0 rfl) ?_
    refine m_get X iX7 hK hw hx0 rfl 7 (by decide) (ref := "ObjectMapperModel") (by decide +kernel) (Or.inl rfl) rfl dX7_knows_10 ?_
    refine lv_iload_n hx hb dX7_knows_13 rfl (lv_at hl 1 rfl) ?_
    refine lv_iload_n hx hb dX7_knows_14 rfl (lv_at hl 2 rfl) ?_
    refine lv_iload_n hx hb dX7_knows_15 rfl (lv_at hl 3 rfl) ?_
    refine m_callSi X hK hw hZ hS hA (As := [.int (nI i), .int (nI k), .int ky]) (rest := [.ref (ad 7)]) (c_atK l G dce _ M i k j (nI i) rfl (nI k) rfl ky ej) (va_cwS 3 hts gX7_knows_X7_at rfl rfl rfl (by decide +kernel) ⟨Nat.le_of_ble_eq_true rfl, Nat.le_of_ble_eq_true rfl⟩) rfl hl.1 rfl (Nat.le_of_ble_eq_true rfl) dX7_knows_16 (Nat.le_of_ble_eq_true rfl) (Nat.le_of_ble_eq_true rfl) (fun r4 M3 H locs hp hw hS hz hk => ?_)
    rw [hp.2] at hw
    rw [hp.1]
    refine m_iald X hK hw (hm.a7) (vp_in_nI (n := (aP i k j)) (aP_lt hi hk2 hj2) (by decide)) dX7_knows_19 ?_
    rw [nI_clamp (n := (aP i k j)) (by have h7 : (aP i k j) < 6144 := (aP_lt hi hk2 hj2); omega)]
    refine lv_if_eq (tgt := 41) hx hb dX7_knows_20 (by decide) (fun c_20 => ?_) (fun c_20 => ?_)
    · refine lv_iconst (v := 0) hx hb dX7_knows_41 (by decide) ?_
      exact m_zret X (by decide) hK hw hS ⟨by rw [show mKn w i k ky = false from by unfold mKn; rw [bI_t c_6, hcl, decide_eq_false (fun q => q c_20)]; rfl]; rfl, rfl⟩ (by omega) (by omega) dX7_knows_42
    · refine lv_aload_n hx hb dX7_knows_23 rfl (lv_at hl 0 rfl) ?_
      refine m_get X iX7 hK hw hx0 rfl 8 (by decide) (ref := "ObjectMapperModel") (by decide +kernel) (Or.inl rfl) rfl dX7_knows_24 ?_
      refine lv_iload_n hx hb dX7_knows_27 rfl (lv_at hl 1 rfl) ?_
      refine lv_iload_n hx hb dX7_knows_28 rfl (lv_at hl 2 rfl) ?_
      refine lv_iload_n hx hb dX7_knows_29 rfl (lv_at hl 3 rfl) ?_
      refine m_callSi X hK hw hZ hS hA (As := [.int (nI i), .int (nI k), .int ky]) (rest := [.ref (ad 8)]) (c_atK l G dce _ M i k j (nI i) rfl (nI k) rfl ky ej) (va_cwS 3 hts gX7_knows_X7_at rfl rfl rfl (by decide +kernel) ⟨Nat.le_of_ble_eq_true rfl, Nat.le_of_ble_eq_true rfl⟩) rfl hl.1 rfl (Nat.le_of_ble_eq_true rfl) dX7_knows_30 (Nat.le_of_ble_eq_true rfl) (Nat.le_of_ble_eq_true rfl) (fun r6 M5 H locs hp hw hS hz hk => ?_)
      rw [hp.2] at hw
      rw [hp.1]
      refine m_zald X hK hw (hm.a8) (vp_in_nI (n := (aP i k j)) (aP_lt hi hk2 hj2) (by decide)) dX7_knows_33 ?_
      rw [nI_clamp (n := (aP i k j)) (by have h7 : (aP i k j) < 6144 := (aP_lt hi hk2 hj2); omega)]
      refine lv_if_ne (tgt := 41) hx hb dX7_knows_34 (by decide) (fun c_34 => ?_) (fun c_34 => ?_)
      · refine lv_iconst (v := 0) hx hb dX7_knows_41 (by decide) ?_
        exact m_zret X (by decide) hK hw hS ⟨by rw [show mKn w i k ky = false from by unfold mKn; rw [bI_t c_6, hcl, decide_eq_true (by exact c_20), decide_eq_false (by exact c_34)]; rfl]; rfl, rfl⟩ (by omega) (by omega) dX7_knows_42
      · refine lv_iconst (v := 1) hx hb dX7_knows_37 (by decide) ?_
        refine lv_goto (tgt := 42) hx hb dX7_knows_38 (by decide) ?_
        exact m_zret X (by decide) hK hw hS ⟨by rw [show mKn w i k ky = true from by unfold mKn; rw [bI_t c_6, hcl, decide_eq_true (by exact c_20), decide_eq_true (by exact c_34)]; rfl]; rfl, rfl⟩ (by omega) (by omega) dX7_knows_42
theorem c_knowsK (l : Launch) (G : gG) (dce sz : Nat) (M : gM) (x : Nat) (ad : Nat → Nat) (w : mW) (hm : MW G M x ad w) (i k : Nat) (hi : i < 3) (hk2 : k < 2) (ky : Int32) (si : Int32) (hsi : si = nI i) (kd : Int32) (hkd : kd = nI k) : mI l yX7_knows wsX7_knows ({ frames := 1, cells := 0, slots := 0, locals := 22 }) G dce sz M [.ref x, .int si, .int kd, .int ky] (fun r M' => r = bI (mKn w i k ky) ∧ M' = M) (0) (0) := by
  subst hsi
  subst hkd
  exact c_knows l G dce sz M x ad w hm i k hi hk2 ky
set_option maxHeartbeats 4000000 in
set_option maxRecDepth 100000 in
theorem c_isMade (l : Launch) (G : gG) (dce sz : Nat) (M : gM) (x : Nat) (ad : Nat → Nat) (w : mW) (hm : MW G M x ad w) (i k j : Nat) (hi : i < 3) (hk2 : k < 2) (hj2 : j < 1024) : mI l yX7_isMade wsX7_isMade ({ frames := 1, cells := 0, slots := 0, locals := 22 }) G dce sz M [.ref x, .int (nI i), .int (nI k), .int (nI j)] (fun r M' => r = bI (mMd w i k j) ∧ M' = M) (0) (0) := by
  have hx0 : M x = some (.inr (8, [.int (rdH w), .ref (ad 1), .ref (ad 2), .ref (ad 3), .ref (ad 4), .ref (ad 5), .ref (ad 6), .ref (ad 7), .ref (ad 8), .ref (ad 9), .ref (ad 10), .ref (ad 11), .ref (ad 12), .ref (ad 13), .int (nI (rdN w)), .ref (ad 15)])) := hm.1
  refine wMet (Qc := QI G _) (cc := cX7_isMade) (maxL := 4) (ret := (some .boolean)) (by decide) rfl (Nat.le_of_ble_eq_true rfl) ?_
  intro p e s m below meth c A ls X hnm hw hK hZ hA hS hsz eA hl
  obtain ⟨hx, hb, hr, hts, hown, hlk, hml⟩ := id X
  have hl : lv_has ls 4 [(0, .ref x), (1, .int (nI i)), (2, .int (nI k)), (3, .int (nI j))] := hl
  have iX7 : ∀ w ∈ wsX70, w ∈ wsX7_isMade := by decide +kernel
  refine lv_aload_n hx hb dX7_isMade_0 rfl (lv_at hl 0 rfl) ?_
  refine m_get X iX7 hK hw hx0 rfl 7 (by decide) (ref := "ObjectMapperModel") (by decide +kernel) (Or.inl rfl) rfl dX7_isMade_1 ?_
  refine lv_iload_n hx hb dX7_isMade_4 rfl (lv_at hl 1 rfl) ?_
  refine lv_iload_n hx hb dX7_isMade_5 rfl (lv_at hl 2 rfl) ?_
  refine lv_iload_n hx hb dX7_isMade_6 rfl (lv_at hl 3 rfl) ?_
  refine m_callSi X hK hw hZ hS hA (As := [.int (nI i), .int (nI k), .int (nI j)]) (rest := [.ref (ad 7)]) (c_atK l G dce _ M i k j (nI i) rfl (nI k) rfl (nI j) rfl) (va_cwS 3 hts gX7_isMade_X7_at rfl rfl rfl (by decide +kernel) ⟨Nat.le_of_ble_eq_true rfl, Nat.le_of_ble_eq_true rfl⟩) rfl hl.1 rfl (Nat.le_of_ble_eq_true rfl) dX7_isMade_7 (Nat.le_of_ble_eq_true rfl) (Nat.le_of_ble_eq_true rfl) (fun r2 M1 H locs hp hw hS hz hk => ?_)
  rw [hp.2] at hw
  rw [hp.1]
  refine m_iald X hK hw (hm.a7) (vp_in_nI (n := (aP i k j)) (aP_lt hi hk2 hj2) (by decide)) dX7_isMade_10 ?_
  rw [nI_clamp (n := (aP i k j)) (by have h7 : (aP i k j) < 6144 := (aP_lt hi hk2 hj2); omega)]
  refine lv_iconst (v := 1) hx hb dX7_isMade_11 (by decide) ?_
  refine lv_icmp_ne (tgt := 19) hx hb dX7_isMade_12 (by decide) (fun c_12 => ?_) (fun c_12 => ?_)
  · refine lv_iconst (v := 0) hx hb dX7_isMade_19 (by decide) ?_
    exact m_zret X (by decide) hK hw hS ⟨by rw [show mMd w i k j = false from decide_eq_false (by exact c_12)]; rfl, rfl⟩ (by omega) (by omega) dX7_isMade_20
  · refine lv_iconst (v := 1) hx hb dX7_isMade_15 (by decide) ?_
    refine lv_goto (tgt := 20) hx hb dX7_isMade_16 (by decide) ?_
    exact m_zret X (by decide) hK hw hS ⟨by rw [show mMd w i k j = true from decide_eq_true (by first | exact c_12 | exact Classical.not_not.mp c_12)]; rfl, rfl⟩ (by omega) (by omega) dX7_isMade_20
set_option maxHeartbeats 4000000 in
set_option maxRecDepth 100000 in
theorem c_isGone (l : Launch) (G : gG) (dce sz : Nat) (M : gM) (x : Nat) (ad : Nat → Nat) (w : mW) (hm : MW G M x ad w) (i k j : Nat) (hi : i < 3) (hk2 : k < 2) (hj2 : j < 1024) : mI l yX7_isGone wsX7_isGone ({ frames := 1, cells := 0, slots := 0, locals := 22 }) G dce sz M [.ref x, .int (nI i), .int (nI k), .int (nI j)] (fun r M' => r = bI (mGn w i k j) ∧ M' = M) (0) (0) := by
  have hx0 : M x = some (.inr (8, [.int (rdH w), .ref (ad 1), .ref (ad 2), .ref (ad 3), .ref (ad 4), .ref (ad 5), .ref (ad 6), .ref (ad 7), .ref (ad 8), .ref (ad 9), .ref (ad 10), .ref (ad 11), .ref (ad 12), .ref (ad 13), .int (nI (rdN w)), .ref (ad 15)])) := hm.1
  refine wMet (Qc := QI G _) (cc := cX7_isGone) (maxL := 4) (ret := (some .boolean)) (by decide) rfl (Nat.le_of_ble_eq_true rfl) ?_
  intro p e s m below meth c A ls X hnm hw hK hZ hA hS hsz eA hl
  obtain ⟨hx, hb, hr, hts, hown, hlk, hml⟩ := id X
  have hl : lv_has ls 4 [(0, .ref x), (1, .int (nI i)), (2, .int (nI k)), (3, .int (nI j))] := hl
  have iX7 : ∀ w ∈ wsX70, w ∈ wsX7_isGone := by decide +kernel
  refine lv_aload_n hx hb dX7_isGone_0 rfl (lv_at hl 0 rfl) ?_
  refine m_get X iX7 hK hw hx0 rfl 7 (by decide) (ref := "ObjectMapperModel") (by decide +kernel) (Or.inl rfl) rfl dX7_isGone_1 ?_
  refine lv_iload_n hx hb dX7_isGone_4 rfl (lv_at hl 1 rfl) ?_
  refine lv_iload_n hx hb dX7_isGone_5 rfl (lv_at hl 2 rfl) ?_
  refine lv_iload_n hx hb dX7_isGone_6 rfl (lv_at hl 3 rfl) ?_
  refine m_callSi X hK hw hZ hS hA (As := [.int (nI i), .int (nI k), .int (nI j)]) (rest := [.ref (ad 7)]) (c_atK l G dce _ M i k j (nI i) rfl (nI k) rfl (nI j) rfl) (va_cwS 3 hts gX7_isGone_X7_at rfl rfl rfl (by decide +kernel) ⟨Nat.le_of_ble_eq_true rfl, Nat.le_of_ble_eq_true rfl⟩) rfl hl.1 rfl (Nat.le_of_ble_eq_true rfl) dX7_isGone_7 (Nat.le_of_ble_eq_true rfl) (Nat.le_of_ble_eq_true rfl) (fun r2 M1 H locs hp hw hS hz hk => ?_)
  rw [hp.2] at hw
  rw [hp.1]
  refine m_iald X hK hw (hm.a7) (vp_in_nI (n := (aP i k j)) (aP_lt hi hk2 hj2) (by decide)) dX7_isGone_10 ?_
  rw [nI_clamp (n := (aP i k j)) (by have h7 : (aP i k j) < 6144 := (aP_lt hi hk2 hj2); omega)]
  refine lv_iconst (v := 2) hx hb dX7_isGone_11 (by decide) ?_
  refine lv_icmp_ne (tgt := 33) hx hb dX7_isGone_12 (by decide) (fun c_12 => ?_) (fun c_12 => ?_)
  · refine lv_iconst (v := 0) hx hb dX7_isGone_33 (by decide) ?_
    exact m_zret X (by decide) hK hw hS ⟨by rw [show mGn w i k j = false from by unfold mGn; rw [decide_eq_false (by exact c_12)]; rfl]; rfl, rfl⟩ (by omega) (by omega) dX7_isGone_34
  · refine lv_aload_n hx hb dX7_isGone_15 rfl (lv_at hl 0 rfl) ?_
    refine m_get X iX7 hK hw hx0 rfl 8 (by decide) (ref := "ObjectMapperModel") (by decide +kernel) (Or.inl rfl) rfl dX7_isGone_16 ?_
    refine lv_iload_n hx hb dX7_isGone_19 rfl (lv_at hl 1 rfl) ?_
    refine lv_iload_n hx hb dX7_isGone_20 rfl (lv_at hl 2 rfl) ?_
    refine lv_iload_n hx hb dX7_isGone_21 rfl (lv_at hl 3 rfl) ?_
    refine m_callSi X hK hw hZ hS hA (As := [.int (nI i), .int (nI k), .int (nI j)]) (rest := [.ref (ad 8)]) (c_atK l G dce _ M i k j (nI i) rfl (nI k) rfl (nI j) rfl) (va_cwS 3 hts gX7_isGone_X7_at rfl rfl rfl (by decide +kernel) ⟨Nat.le_of_ble_eq_true rfl, Nat.le_of_ble_eq_true rfl⟩) rfl hl.1 rfl (Nat.le_of_ble_eq_true rfl) dX7_isGone_22 (Nat.le_of_ble_eq_true rfl) (Nat.le_of_ble_eq_true rfl) (fun r4 M3 H locs hp hw hS hz hk => ?_)
    rw [hp.2] at hw
    rw [hp.1]
    refine m_zald X hK hw (hm.a8) (vp_in_nI (n := (aP i k j)) (aP_lt hi hk2 hj2) (by decide)) dX7_isGone_25 ?_
    rw [nI_clamp (n := (aP i k j)) (by have h7 : (aP i k j) < 6144 := (aP_lt hi hk2 hj2); omega)]
    refine lv_if_eq (tgt := 33) hx hb dX7_isGone_26 (by decide) (fun c_26 => ?_) (fun c_26 => ?_)
    · refine lv_iconst (v := 0) hx hb dX7_isGone_33 (by decide) ?_
      exact m_zret X (by decide) hK hw hS ⟨by rw [show mGn w i k j = false from by unfold mGn; rw [decide_eq_true (by first | exact c_12 | exact Classical.not_not.mp c_12), decide_eq_false (fun q => q c_26)]; rfl]; rfl, rfl⟩ (by omega) (by omega) dX7_isGone_34
    · refine lv_iconst (v := 1) hx hb dX7_isGone_29 (by decide) ?_
      refine lv_goto (tgt := 34) hx hb dX7_isGone_30 (by decide) ?_
      exact m_zret X (by decide) hK hw hS ⟨by rw [show mGn w i k j = true from by unfold mGn; rw [decide_eq_true (by first | exact c_12 | exact Classical.not_not.mp c_12), decide_eq_true (by exact c_26)]; rfl]; rfl, rfl⟩ (by omega) (by omega) dX7_isGone_34
set_option maxHeartbeats 4000000 in
set_option maxRecDepth 100000 in
theorem c_isDirty (l : Launch) (G : gG) (dce sz : Nat) (M : gM) (x : Nat) (ad : Nat → Nat) (w : mW) (hm : MW G M x ad w) (i k j : Nat) (hi : i < 3) (hk2 : k < 2) (hj2 : j < 1024) : mI l yX7_isDirty wsX7_isDirty ({ frames := 2, cells := 0, slots := 0, locals := 45 }) G dce sz M [.ref x, .int (nI i), .int (nI k), .int (nI j)] (fun r M' => r = bI (mDr w i k j) ∧ M' = M) (0) (0) := by
  have hx0 : M x = some (.inr (8, [.int (rdH w), .ref (ad 1), .ref (ad 2), .ref (ad 3), .ref (ad 4), .ref (ad 5), .ref (ad 6), .ref (ad 7), .ref (ad 8), .ref (ad 9), .ref (ad 10), .ref (ad 11), .ref (ad 12), .ref (ad 13), .int (nI (rdN w)), .ref (ad 15)])) := hm.1
  refine wMet (Qc := QI G _) (cc := cX7_isDirty) (maxL := 5) (ret := (some .boolean)) (by decide) rfl (Nat.le_of_ble_eq_true rfl) ?_
  intro p e s m below meth c A ls X hnm hw hK hZ hA hS hsz eA hl
  obtain ⟨hx, hb, hr, hts, hown, hlk, hml⟩ := id X
  have hl : lv_has ls 5 [(0, .ref x), (1, .int (nI i)), (2, .int (nI k)), (3, .int (nI j))] := hl
  have iX7 : ∀ w ∈ wsX70, w ∈ wsX7_isDirty := by decide +kernel
  refine lv_iload_n hx hb dX7_isDirty_0 rfl (lv_at hl 1 rfl) ?_
  refine lv_iload_n hx hb dX7_isDirty_1 rfl (lv_at hl 2 rfl) ?_
  refine lv_iload_n hx hb dX7_isDirty_2 rfl (lv_at hl 3 rfl) ?_
  refine m_callSi X hK hw hZ hS hA (As := [.int (nI i), .int (nI k), .int (nI j)]) (rest := []) (c_atK l G dce _ M i k j (nI i) rfl (nI k) rfl (nI j) rfl) (va_cwS 3 hts gX7_isDirty_X7_at rfl rfl rfl (by decide +kernel) ⟨Nat.le_of_ble_eq_true rfl, Nat.le_of_ble_eq_true rfl⟩) rfl hl.1 rfl (Nat.le_of_ble_eq_true rfl) dX7_isDirty_3 (Nat.le_of_ble_eq_true rfl) (Nat.le_of_ble_eq_true rfl) (fun r2 M1 H locs hp hw hS hz hk => ?_)
  rw [hp.2] at hw
  rw [hp.1]
  refine lv_istore (lv' := [(4, .int (nI (aP i k j))), (0, .ref x), (1, .int (nI i)), (2, .int (nI k)), (3, .int (nI j))]) hx hb dX7_isDirty_6 hl (by decide) rfl (fun ls hl => ?_)
  refine lv_aload_n hx hb dX7_isDirty_8 rfl (lv_at hl 1 rfl) ?_
  refine lv_iload_n hx hb dX7_isDirty_9 rfl (lv_at hl 2 rfl) ?_
  refine lv_iload_n hx hb dX7_isDirty_10 rfl (lv_at hl 3 rfl) ?_
  refine lv_iload_n hx hb dX7_isDirty_11 rfl (lv_at hl 4 rfl) ?_
  refine m_callVi X (ci := 8) rfl hx0 hK hw hZ hS hA (As := [.int (nI i), .int (nI k), .int (nI j)]) (rest := []) (c_knows l G dce _ M x ad w hm i k hi hk2 (nI j)) (cwV 3 hts gX7_isDirty_X7_knows rfl rfl rfl (by decide +kernel) ⟨Nat.le_of_ble_eq_true rfl, Nat.le_of_ble_eq_true rfl⟩) rfl hl.1 rfl (Nat.le_of_ble_eq_true rfl) dX7_isDirty_12 (Nat.le_of_ble_eq_true rfl) (Nat.le_of_ble_eq_true rfl) (fun r4 M3 H locs hp hw hS hz hk => ?_)
  rw [hp.2] at hw
  rw [hp.1]
  refine lv_if_eq (tgt := 67) hx hb dX7_isDirty_15 (by decide) (fun c_15 => ?_) (fun c_15 => ?_)
  · refine lv_iconst (v := 0) hx hb dX7_isDirty_67 (by decide) ?_
    exact m_zret X (by decide) hK hw hS ⟨by rw [show mDr w i k j = false from by unfold mDr; rw [(bI_0 _).mp c_15]; rfl]; rfl, rfl⟩ (by omega) (by omega) dX7_isDirty_68
  · refine lv_aload_n hx hb dX7_isDirty_18 rfl (lv_at hl 1 rfl) ?_
    refine m_get X iX7 hK hw hx0 rfl 7 (by decide) (ref := "ObjectMapperModel") (by decide +kernel) (Or.inl rfl) rfl dX7_isDirty_19 ?_
    refine lv_iload hx hb dX7_isDirty_22 (lv_at hl 0 rfl) ?_
    refine m_iald X hK hw (hm.a7) (vp_in_nI (n := (aP i k j)) (aP_lt hi hk2 hj2) (by decide)) dX7_isDirty_24 ?_
    rw [nI_clamp (n := (aP i k j)) (by have h7 : (aP i k j) < 6144 := (aP_lt hi hk2 hj2); omega)]
    refine lv_iconst (v := 2) hx hb dX7_isDirty_25 (by decide) ?_
    refine lv_icmp_ne (tgt := 67) hx hb dX7_isDirty_26 (by decide) (fun c_26 => ?_) (fun c_26 => ?_)
    · refine lv_iconst (v := 0) hx hb dX7_isDirty_67 (by decide) ?_
      exact m_zret X (by decide) hK hw hS ⟨by rw [show mDr w i k j = false from by unfold mDr; rw [bI_t c_15, decide_eq_false (by exact c_26)]; rfl]; rfl, rfl⟩ (by omega) (by omega) dX7_isDirty_68
    · refine lv_aload_n hx hb dX7_isDirty_29 rfl (lv_at hl 1 rfl) ?_
      refine m_get X iX7 hK hw hx0 rfl 9 (by decide) (ref := "ObjectMapperModel") (by decide +kernel) (Or.inl rfl) rfl dX7_isDirty_30 ?_
      refine lv_iload hx hb dX7_isDirty_33 (lv_at hl 0 rfl) ?_
      refine m_iald X hK hw (hm.a9) (vp_in_nI (n := (aP i k j)) (aP_lt hi hk2 hj2) (by decide)) dX7_isDirty_35 ?_
      rw [nI_clamp (n := (aP i k j)) (by have h7 : (aP i k j) < 6144 := (aP_lt hi hk2 hj2); omega)]
      refine lv_aload_n hx hb dX7_isDirty_36 rfl (lv_at hl 1 rfl) ?_
      refine m_get X iX7 hK hw hx0 rfl 11 (by decide) (ref := "ObjectMapperModel") (by decide +kernel) (Or.inl rfl) rfl dX7_isDirty_37 ?_
      refine lv_iload hx hb dX7_isDirty_40 (lv_at hl 0 rfl) ?_
      refine m_iald X hK hw (hm.a11) (vp_in_nI (n := (aP i k j)) (aP_lt hi hk2 hj2) (by decide)) dX7_isDirty_42 ?_
      rw [nI_clamp (n := (aP i k j)) (by have h7 : (aP i k j) < 6144 := (aP_lt hi hk2 hj2); omega)]
      refine lv_icmp_ne (tgt := 63) hx hb dX7_isDirty_43 (by decide) (fun c_43 => ?_) (fun c_43 => ?_)
      · refine lv_iconst (v := 1) hx hb dX7_isDirty_63 (by decide) ?_
        refine lv_goto (tgt := 68) hx hb dX7_isDirty_64 (by decide) ?_
        exact m_zret X (by decide) hK hw hS ⟨by rw [show mDr w i k j = true from by unfold mDr; rw [bI_t c_15, decide_eq_true (by first | exact c_26 | exact Classical.not_not.mp c_26), decide_eq_true (by exact c_43)]; rfl]; rfl, rfl⟩ (by omega) (by omega) dX7_isDirty_68
      · refine lv_aload_n hx hb dX7_isDirty_46 rfl (lv_at hl 1 rfl) ?_
        refine m_get X iX7 hK hw hx0 rfl 10 (by decide) (ref := "ObjectMapperModel") (by decide +kernel) (Or.inl rfl) rfl dX7_isDirty_47 ?_
        refine lv_iload hx hb dX7_isDirty_50 (lv_at hl 0 rfl) ?_
        refine m_iald X hK hw (hm.a10) (vp_in_nI (n := (aP i k j)) (aP_lt hi hk2 hj2) (by decide)) dX7_isDirty_52 ?_
        rw [nI_clamp (n := (aP i k j)) (by have h7 : (aP i k j) < 6144 := (aP_lt hi hk2 hj2); omega)]
        refine lv_aload_n hx hb dX7_isDirty_53 rfl (lv_at hl 1 rfl) ?_
        refine m_get X iX7 hK hw hx0 rfl 12 (by decide) (ref := "ObjectMapperModel") (by decide +kernel) (Or.inl rfl) rfl dX7_isDirty_54 ?_
        refine lv_iload hx hb dX7_isDirty_57 (lv_at hl 0 rfl) ?_
        refine m_iald X hK hw (hm.a12) (vp_in_nI (n := (aP i k j)) (aP_lt hi hk2 hj2) (by decide)) dX7_isDirty_59 ?_
        rw [nI_clamp (n := (aP i k j)) (by have h7 : (aP i k j) < 6144 := (aP_lt hi hk2 hj2); omega)]
        refine lv_icmp_eq (tgt := 67) hx hb dX7_isDirty_60 (by decide) (fun c_60 => ?_) (fun c_60 => ?_)
        · refine lv_iconst (v := 0) hx hb dX7_isDirty_67 (by decide) ?_
          exact m_zret X (by decide) hK hw hS ⟨by rw [show mDr w i k j = false from by unfold mDr; rw [bI_t c_15, decide_eq_true (by first | exact c_26 | exact Classical.not_not.mp c_26), decide_eq_false (fun q => by first | exact c_43 q | exact q c_43 | exact absurd (Classical.not_not.mp c_43) q), decide_eq_false (fun q => q (by first | exact c_60 | exact Classical.not_not.mp c_60))]; rfl]; rfl, rfl⟩ (by omega) (by omega) dX7_isDirty_68
        · refine lv_iconst (v := 1) hx hb dX7_isDirty_63 (by decide) ?_
          refine lv_goto (tgt := 68) hx hb dX7_isDirty_64 (by decide) ?_
          exact m_zret X (by decide) hK hw hS ⟨by rw [show mDr w i k j = true from by unfold mDr; rw [bI_t c_15, decide_eq_true (by first | exact c_26 | exact Classical.not_not.mp c_26), decide_eq_false (fun q => by first | exact c_43 q | exact q c_43 | exact absurd (Classical.not_not.mp c_43) q), decide_eq_true (by exact c_60)]; rfl]; rfl, rfl⟩ (by omega) (by omega) dX7_isDirty_68
