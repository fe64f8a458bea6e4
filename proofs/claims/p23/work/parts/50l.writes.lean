/-! P23: writes that are there: asked for without a cell more -/
set_option maxHeartbeats 4000000 in
set_option maxRecDepth 100000 in
theorem c_checkWriteN (l : Launch) (G : gG) (dce sz : Nat) (M : gM) (x ta tb j sa : Nat) (hv : M x = some (oX ta tb j sa)) (w : Int32) (ja jr : Nat) (hj : M j = some (oJ w ja jr)) (nu : Int32) (h1 : ¬ nu < 0) (h2 : nu < w) : mV l yX6_checkWrite wsX6_checkWrite ({ frames := 6, cells := 0, slots := 0, locals := 82 }) G dce sz M [.ref x, .int nu] (fun M' => M' = M) (0) (0) := by
  have hv : M x = some (.inr (7, [.ref ta, .ref tb, .ref j, .ref sa])) := hv
  have hj : M j = some (.inr (3, [.int w, .ref ja, .ref jr])) := hj
  refine wMet (Qc := QV G _) (cc := cX6_checkWrite) (maxL := 2) (ret := none) (by decide) rfl (Nat.le_of_ble_eq_true rfl) ?_
  intro p e s m below meth c A ls X hnm hw hK hZ hA hS hsz eA hl
  obtain ⟨hx, hb, hr, hts, hown, hlk, hml⟩ := id X
  have hl : lv_has ls 2 [(0, .ref x), (1, .int nu)] := hl
  have iX2 : ∀ w ∈ wsX20, w ∈ wsX6_checkWrite := by decide +kernel
  have iX6 : ∀ w ∈ wsX60, w ∈ wsX6_checkWrite := by decide +kernel
  refine lv_iload_n hx hb dX6_checkWrite_0 rfl (lv_at hl 1 rfl) ?_
  refine lv_if_lt (tgt := 15) hx hb dX6_checkWrite_1 (by decide) (fun c_1 => absurd c_1 h1) (fun c_1 => ?_)
  refine lv_iload_n hx hb dX6_checkWrite_4 rfl (lv_at hl 1 rfl) ?_
  refine lv_aload_n hx hb dX6_checkWrite_5 rfl (lv_at hl 0 rfl) ?_
  refine m_get X iX6 hK hw hv rfl 2 (by decide) (ref := "ObjectMapper") (by decide +kernel) (Or.inl rfl) rfl dX6_checkWrite_6 ?_
  refine m_get X iX2 hK hw hj rfl 0 (by decide) (ref := "ObjectMapper$Journal") (by decide +kernel) (Or.inl rfl) rfl dX6_checkWrite_9 ?_
  refine lv_icmp_lt (tgt := 25) hx hb dX6_checkWrite_12 (by decide) (fun c_12 => ?_) (fun c_12 => absurd h2 c_12)
  exact m_vret X hK hw hS (by exact rfl) (by omega) (by omega) dX6_checkWrite_25
set_option maxHeartbeats 4000000 in
set_option maxRecDepth 100000 in
theorem c_writeN (l : Launch) (G : gG) (dce sz : Nat) (M : gM) (x : Nat) (ad : Nat → Nat) (y : cY) (z : cZ) (hcw : CW G dce x ad M y z) (j : Nat) (hjw : j < zW z) : mI l yX6_write wsX6_write ({ frames := 7, cells := 0, slots := 0, locals := 103 }) G dce sz M [.ref x, .int (nI j)] (fun r M' => r = zJ z 0 j ∧ M' = M) (0) (0) := by
  have hx9 : M x = some (.inr (7, [.ref (ad 0), .ref (ad 1), .ref (ad 2), .ref (ad 3)])) := hcw.1.1
  have hj9 : M (ad 2) = some (.inr (3, [.int (nI (zW z)), .ref (yX y 8), .ref (yX y 9)])) := hcw.2.2.2.1.1
  have hcc := hcw.2.2.2.1.2.1.2.2
  refine wMet (Qc := QI G _) (cc := cX6_write) (maxL := 2) (ret := (some .int)) (by decide) rfl (Nat.le_of_ble_eq_true rfl) ?_
  intro p e s m below meth c A ls X hnm hw hK hZ hA hS hsz eA hl
  obtain ⟨hx, hb, hr, hts, hown, hlk, hml⟩ := id X
  have hl : lv_has ls 2 [(0, .ref x), (1, .int (nI j))] := hl
  have iX6 : ∀ w ∈ wsX60, w ∈ wsX6_write := by decide +kernel
  refine lv_aload_n hx hb dX6_write_0 rfl (lv_at hl 0 rfl) ?_
  refine lv_iload_n hx hb dX6_write_1 rfl (lv_at hl 1 rfl) ?_
  refine m_callVv X (ci := 7) rfl hx9 hK hw hZ hS hA (As := [.int (nI j)]) (rest := []) (c_checkWriteN l G dce _ M x (ad 0) (ad 1) (ad 2) (ad 3) hcw.1.1 (nI (zW z)) (yX y 8) (yX y 9) hj9 (nI j) (nI_pos (by omega)) (nI_lt (by omega) (by omega))) (cwV 1 hts gX6_write_X6_checkWrite rfl rfl rfl (by decide +kernel) ⟨Nat.le_of_ble_eq_true rfl, Nat.le_of_ble_eq_true rfl⟩) rfl hl.1 rfl (Nat.le_of_ble_eq_true rfl) dX6_write_2 (Nat.le_of_ble_eq_true rfl) (Nat.le_of_ble_eq_true rfl) (fun M1 H locs eM hw hS hz hk => ?_)
  rw [eM] at hw
  refine lv_aload_n hx hb dX6_write_5 rfl (lv_at hl 0 rfl) ?_
  refine m_get X iX6 hK hw hx9 rfl 2 (by decide) (ref := "ObjectMapper") (by decide +kernel) (Or.inl rfl) rfl dX6_write_6 ?_
  refine lv_iload_n hx hb dX6_write_9 rfl (lv_at hl 1 rfl) ?_
  refine m_callVi X (ci := 3) rfl hj9 hK hw hZ hS hA (As := [.int (nI j)]) (rest := []) (c_actionAtK l G dce _ M x ad y z hcw j hjw (nI j) rfl) (cwV 1 hts gX6_write_X2_actionAt rfl rfl rfl (by decide +kernel) ⟨Nat.le_of_ble_eq_true rfl, Nat.le_of_ble_eq_true rfl⟩) rfl hl.1 rfl (Nat.le_of_ble_eq_true rfl) dX6_write_10 (Nat.le_of_ble_eq_true rfl) (Nat.le_of_ble_eq_true rfl) (fun r3 M2 H locs hp hw hS hz hk => ?_)
  rw [hp.2] at hw
  rw [hp.1]
  exact m_iret X hK hw hS (by exact ⟨rfl, rfl⟩) (by omega) (by omega) dX6_write_13
set_option maxHeartbeats 4000000 in
set_option maxRecDepth 100000 in
theorem c_writtenN (l : Launch) (G : gG) (dce sz : Nat) (M : gM) (x : Nat) (ad : Nat → Nat) (y : cY) (z : cZ) (hcw : CW G dce x ad M y z) (j : Nat) (hjw : j < zW z) : mI l yX6_written wsX6_written ({ frames := 7, cells := 0, slots := 0, locals := 103 }) G dce sz M [.ref x, .int (nI j)] (fun r M' => r = zJ z 1 j ∧ M' = M) (0) (0) := by
  have hx9 : M x = some (.inr (7, [.ref (ad 0), .ref (ad 1), .ref (ad 2), .ref (ad 3)])) := hcw.1.1
  have hj9 : M (ad 2) = some (.inr (3, [.int (nI (zW z)), .ref (yX y 8), .ref (yX y 9)])) := hcw.2.2.2.1.1
  have hcc := hcw.2.2.2.1.2.1.2.2
  refine wMet (Qc := QI G _) (cc := cX6_written) (maxL := 2) (ret := (some .int)) (by decide) rfl (Nat.le_of_ble_eq_true rfl) ?_
  intro p e s m below meth c A ls X hnm hw hK hZ hA hS hsz eA hl
  obtain ⟨hx, hb, hr, hts, hown, hlk, hml⟩ := id X
  have hl : lv_has ls 2 [(0, .ref x), (1, .int (nI j))] := hl
  have iX6 : ∀ w ∈ wsX60, w ∈ wsX6_written := by decide +kernel
  refine lv_aload_n hx hb dX6_written_0 rfl (lv_at hl 0 rfl) ?_
  refine lv_iload_n hx hb dX6_written_1 rfl (lv_at hl 1 rfl) ?_
  refine m_callVv X (ci := 7) rfl hx9 hK hw hZ hS hA (As := [.int (nI j)]) (rest := []) (c_checkWriteN l G dce _ M x (ad 0) (ad 1) (ad 2) (ad 3) hcw.1.1 (nI (zW z)) (yX y 8) (yX y 9) hj9 (nI j) (nI_pos (by omega)) (nI_lt (by omega) (by omega))) (cwV 1 hts gX6_written_X6_checkWrite rfl rfl rfl (by decide +kernel) ⟨Nat.le_of_ble_eq_true rfl, Nat.le_of_ble_eq_true rfl⟩) rfl hl.1 rfl (Nat.le_of_ble_eq_true rfl) dX6_written_2 (Nat.le_of_ble_eq_true rfl) (Nat.le_of_ble_eq_true rfl) (fun M1 H locs eM hw hS hz hk => ?_)
  rw [eM] at hw
  refine lv_aload_n hx hb dX6_written_5 rfl (lv_at hl 0 rfl) ?_
  refine m_get X iX6 hK hw hx9 rfl 2 (by decide) (ref := "ObjectMapper") (by decide +kernel) (Or.inl rfl) rfl dX6_written_6 ?_
  refine lv_iload_n hx hb dX6_written_9 rfl (lv_at hl 1 rfl) ?_
  refine m_callVi X (ci := 3) rfl hj9 hK hw hZ hS hA (As := [.int (nI j)]) (rest := []) (c_rowNumberAtK l G dce _ M x ad y z hcw j hjw (nI j) rfl) (cwV 1 hts gX6_written_X2_rowNumberAt rfl rfl rfl (by decide +kernel) ⟨Nat.le_of_ble_eq_true rfl, Nat.le_of_ble_eq_true rfl⟩) rfl hl.1 rfl (Nat.le_of_ble_eq_true rfl) dX6_written_10 (Nat.le_of_ble_eq_true rfl) (Nat.le_of_ble_eq_true rfl) (fun r3 M2 H locs hp hw hS hz hk => ?_)
  rw [hp.2] at hw
  rw [hp.1]
  exact m_iret X hK hw hS (by exact ⟨rfl, rfl⟩) (by omega) (by omega) dX6_written_13
