def oL (mc : Int32) (ex : Nat) (n : Int32) : va_E := .inr (0, [.int mc, .ref ex, .int n])
def oA (G : gG) (cap : Nat) (g : Nat → Option Nat) : va_E := .inl (G.2 3, cap, .inr (.inr (.inr (.inr g))))
/-- a list of n references: its object, its row -/
def isL (G : gG) (dce : Nat) (M : gM) (lx ex n : Nat) (f : Nat → Nat) : Prop := (∃ mc : Int32, M lx = some (oL mc ex (nI n))) ∧ ((n = 0 ∧ ex = dce) ∨ ∃ (cap : Nat) (g : Nat → Option Nat), M ex = some (oA G cap g) ∧ n ≤ cap ∧ cap ≤ 2048 ∧ ∀ k, k < n → g k = some (f k))
def Fr (M M' : gM) (P : Nat → Prop) : Prop := ∀ b e, M b = some e → ¬ P b → M' b = some e
set_option maxHeartbeats 4000000 in
set_option maxRecDepth 100000 in
theorem c_Jxa1e45_init_da8c8 (l : Launch) (G : gG) (dce sz : Nat) (M : gM) (h : Nat) : mV l yJxa1e45_init_da8c8 wsJxa1e45_init_da8c8 ({ frames := 1, cells := 0, slots := 0, locals := 12 }) G dce sz M [.ref h] (fun M' => M' = M) (0) (0) := by
  refine wMet (Qc := QV G _) (cc := cJxa1e45_init_da8c8) (maxL := 1) (ret := none) (by decide) rfl (Nat.le_of_ble_eq_true rfl) ?_
  intro p e s m below meth c A ls X hnm hw hK hZ hA hS hsz eA hl
  obtain ⟨hx, hb, hr, hts, hown, hlk, hml⟩ := id X
  have hl : lv_has ls 1 [(0, .ref h)] := hl
  have hin : meth.name = "<init>" := hnm
  refine lv_aload_n hx hb dJxa1e45_init_da8c8_0 rfl (lv_at hl 0 rfl) ?_
  refine W.objInit hx hb hown (hts (.methodLink RJxa1e45 1 objectInit) (by decide +kernel)) (hts (.instanceMethod objectInit) (by decide +kernel)) (hts (.code objectInit ⟨#[0xb1]⟩ 1 none) (by decide +kernel)) rfl (by rw [hml]; exact hl.1) rfl dJxa1e45_init_da8c8_1 (Nat.le_of_ble_eq_true rfl) (Nat.le_of_ble_eq_true rfl) ?_
  refine W.eq (g2 := F0 m 4 ls []) rfl ?_
  exact m_vret X hK hw hS (by rfl) (by omega) (by omega) dJxa1e45_init_da8c8_4
set_option maxHeartbeats 4000000 in
set_option maxRecDepth 100000 in
theorem c_Jxc12de_init_da8c8 (l : Launch) (G : gG) (dce sz : Nat) (M : gM) (h : Nat) (hv : M h = some (.inr (0, [.int 0, .null, .int 0]))) : mV l yJxc12de_init_da8c8 wsJxc12de_init_da8c8 ({ frames := 2, cells := 0, slots := 0, locals := 32 }) G dce sz M [.ref h] (fun M' => M' = mu M h (.inr (0, [.int 0, .null, .int 0]))) (0) (0) := by
  refine wMet (Qc := QV G _) (cc := cJxc12de_init_da8c8) (maxL := 1) (ret := none) (by decide) rfl (Nat.le_of_ble_eq_true rfl) ?_
  intro p e s m below meth c A ls X hnm hw hK hZ hA hS hsz eA hl
  obtain ⟨hx, hb, hr, hts, hown, hlk, hml⟩ := id X
  have hl : lv_has ls 1 [(0, .ref h)] := hl
  have hin : meth.name = "<init>" := hnm
  have iJx4a65c : ∀ w ∈ wsJx4a65c0, w ∈ wsJxc12de_init_da8c8 := by decide +kernel
  refine lv_aload_n hx hb dJxc12de_init_da8c8_0 rfl (lv_at hl 0 rfl) ?_
  refine m_callIv (ret9 := none) X hK hw hZ hS hA (As := []) (rest := []) (c_Jxa1e45_init_da8c8 l G dce _ M h) (cwI 0 hts gJxc12de_init_da8c8_Jxa1e45_init_da8c8 rfl rfl rfl (hts (.initialized RJxa1e45) (by decide +kernel)) (hts (.methodLink RJxc12de 1 yJxa1e45_init_da8c8) (by decide +kernel)) (hts (.instanceMethod yJxa1e45_init_da8c8) (by decide +kernel)) rfl (by decide +kernel) ⟨Nat.le_of_ble_eq_true rfl, Nat.le_of_ble_eq_true rfl⟩) rfl hl.1 rfl (Nat.le_of_ble_eq_true rfl) dJxc12de_init_da8c8_1 (Nat.le_of_ble_eq_true rfl) (Nat.le_of_ble_eq_true rfl) (fun M1 H locs hp hw hS hz hk => ?_)
  rw [hp] at hw
  refine lv_aload_n hx hb dJxc12de_init_da8c8_4 rfl (lv_at hl 0 rfl) ?_
  refine lv_iconst (v := 0) hx hb dJxc12de_init_da8c8_5 (by decide) ?_
  refine m_put X iJx4a65c tyJx4a65c_ok nmJx4a65c hK hw hS hv rfl 0 (by decide) (ref := "java/util/AbstractList") (by decide +kernel) (Or.inl rfl) rfl (v := .int 0) rfl rfl (Nat.le_of_ble_eq_true rfl) (fs1 := [.int 0, .null, .int 0]) rfl dJxc12de_init_da8c8_6 (fun M2 H locs eM2 hw hS => ?_)
  have k3 : M2 h = some (.inr (0, [.int 0, .null, .int 0])) := by rw [eM2]; exact mu_s _ _ _
  exact m_vret X hK hw hS (by subst_vars; rfl) (by omega) (by omega) dJxc12de_init_da8c8_9
set_option maxHeartbeats 4000000 in
set_option maxRecDepth 100000 in
theorem c_Jx4a65c_init_da8c8 (l : Launch) (G : gG) (dce sz : Nat) (M : gM) (h : Nat) (hv : M h = some (.inr (0, [.int 0, .null, .int 0]))) : mV l yJx4a65c_init_da8c8 wsJx4a65c_init_da8c8 ({ frames := 3, cells := 0, slots := 0, locals := 52 }) G dce sz M [.ref h] (fun M' => M' = mu M h (oL 0 dce 0)) (0) (0) := by
  refine wMet (Qc := QV G _) (cc := cJx4a65c_init_da8c8) (maxL := 1) (ret := none) (by decide) rfl (Nat.le_of_ble_eq_true rfl) ?_
  intro p e s m below meth c A ls X hnm hw hK hZ hA hS hsz eA hl
  obtain ⟨hx, hb, hr, hts, hown, hlk, hml⟩ := id X
  have hl : lv_has ls 1 [(0, .ref h)] := hl
  have hin : meth.name = "<init>" := hnm
  have iJx4a65c : ∀ w ∈ wsJx4a65c0, w ∈ wsJx4a65c_init_da8c8 := by decide +kernel
  refine lv_aload_n hx hb dJx4a65c_init_da8c8_0 rfl (lv_at hl 0 rfl) ?_
  refine m_callIv (ret9 := none) X hK hw hZ hS hA (As := []) (rest := []) (c_Jxc12de_init_da8c8 l G dce _ M h hv) (cwI 0 hts gJx4a65c_init_da8c8_Jxc12de_init_da8c8 rfl rfl rfl (hts (.initialized RJxc12de) (by decide +kernel)) (hts (.methodLink RJx4a65c 1 yJxc12de_init_da8c8) (by decide +kernel)) (hts (.instanceMethod yJxc12de_init_da8c8) (by decide +kernel)) rfl (by decide +kernel) ⟨Nat.le_of_ble_eq_true rfl, Nat.le_of_ble_eq_true rfl⟩) rfl hl.1 rfl (Nat.le_of_ble_eq_true rfl) dJx4a65c_init_da8c8_1 (Nat.le_of_ble_eq_true rfl) (Nat.le_of_ble_eq_true rfl) (fun M1 H locs hp hw hS hz hk => ?_)
  have eM1 := hp
  have k2 : M1 h = some (.inr (0, [.int 0, .null, .int 0])) := by rw [eM1]; exact mu_s _ _ _
  refine lv_aload_n hx hb dJx4a65c_init_da8c8_4 rfl (lv_at hl 0 rfl) ?_
  refine m_gets X hZ hS (by decide +kernel) dJx4a65c_init_da8c8_5 ?_
  refine m_put X iJx4a65c tyJx4a65c_ok nmJx4a65c hK hw hS k2 rfl 1 (by decide) (ref := "java/util/ArrayList") (by decide +kernel) (Or.inl rfl) rfl (v := .ref dce) rfl rfl (Nat.le_of_ble_eq_true rfl) (fs1 := [.int 0, .ref dce, .int 0]) rfl dJx4a65c_init_da8c8_8 (fun M3 H locs eM3 hw hS => ?_)
  have k4 : M3 h = some (.inr (0, [.int 0, .ref dce, .int 0])) := by rw [eM3]; exact mu_s _ _ _
  exact m_vret X hK hw hS (by subst_vars; simp only [mu_mu]; rfl) (by omega) (by omega) dJx4a65c_init_da8c8_11
set_option maxHeartbeats 4000000 in
set_option maxRecDepth 100000 in
theorem c_Jx4a65c_size_8abf5 (l : Launch) (G : gG) (dce sz : Nat) (M : gM) (h ex : Nat) (mc n : Int32) (hv : M h = some (oL mc ex n)) : mI l yJx4a65c_size_8abf5 wsJx4a65c_size_8abf5 ({ frames := 0, cells := 0, slots := 0, locals := 0 }) G dce sz M [.ref h] (fun r M' => r = n ∧ M' = M) (0) (0) := by
  have hv : M h = some (.inr (0, [.int mc, .ref ex, .int n])) := hv
  refine wMet (Qc := QI G _) (cc := cJx4a65c_size_8abf5) (maxL := 1) (ret := (some .int)) (by decide) rfl (Nat.le_of_ble_eq_true rfl) ?_
  intro p e s m below meth c A ls X hnm hw hK hZ hA hS hsz eA hl
  obtain ⟨hx, hb, hr, hts, hown, hlk, hml⟩ := id X
  have hl : lv_has ls 1 [(0, .ref h)] := hl
  have iJx4a65c : ∀ w ∈ wsJx4a65c0, w ∈ wsJx4a65c_size_8abf5 := by decide +kernel
  refine lv_aload_n hx hb dJx4a65c_size_8abf5_0 rfl (lv_at hl 0 rfl) ?_
  refine m_get X iJx4a65c hK hw hv rfl 2 (by decide) (ref := "java/util/ArrayList") (by decide +kernel) (Or.inl rfl) rfl dJx4a65c_size_8abf5_1 ?_
  exact m_iret X hK hw hS (by exact ⟨rfl, rfl⟩) (by omega) (by omega) dJx4a65c_size_8abf5_4
set_option maxHeartbeats 4000000 in
set_option maxRecDepth 100000 in
theorem c_Jx4a65c_elementData_915e3 (l : Launch) (G : gG) (dce sz : Nat) (M : gM) (h ex k cap a : Nat) (mc n : Int32) (g : Nat → Option Nat) (hv : M h = some (oL mc ex n)) (hex : M ex = some (oA G cap g)) (hk0 : k < cap) (hcap : cap ≤ 2048) (hg : g k = some a) : mR l yJx4a65c_elementData_915e3 wsJx4a65c_elementData_915e3 ({ frames := 0, cells := 0, slots := 0, locals := 0 }) G dce sz M [.ref h, .int (nI k)] (fun r M' => r = a ∧ M' = M) (0) (0) := by
  have hv : M h = some (.inr (0, [.int mc, .ref ex, .int n])) := hv
  refine wMet (Qc := QR G _) (cc := cJx4a65c_elementData_915e3) (maxL := 2) (ret := (some (.object "java/lang/Object"))) (by decide) rfl (Nat.le_of_ble_eq_true rfl) ?_
  intro p e s m below meth c A ls X hnm hw hK hZ hA hS hsz eA hl
  obtain ⟨hx, hb, hr, hts, hown, hlk, hml⟩ := id X
  have hl : lv_has ls 2 [(0, .ref h), (1, .int (nI k))] := hl
  have iJx4a65c : ∀ w ∈ wsJx4a65c0, w ∈ wsJx4a65c_elementData_915e3 := by decide +kernel
  refine lv_aload_n hx hb dJx4a65c_elementData_915e3_0 rfl (lv_at hl 0 rfl) ?_
  refine m_get X iJx4a65c hK hw hv rfl 1 (by decide) (ref := "java/util/ArrayList") (by decide +kernel) (Or.inl rfl) rfl dJx4a65c_elementData_915e3_1 ?_
  refine lv_iload_n hx hb dJx4a65c_elementData_915e3_4 rfl (lv_at hl 1 rfl) ?_
  refine m_aald X hK hw 3 hex rfl (v := a) (by rw [nI_clamp (by omega)]; exact hg) (vp_in_nI hk0 (by omega)) dJx4a65c_elementData_915e3_5 ?_
  exact m_aret X (Or.inl ⟨_, rfl⟩) hK hw hS (by exact ⟨rfl, rfl⟩) (by omega) (by omega) dJx4a65c_elementData_915e3_6
set_option maxHeartbeats 4000000 in
set_option maxRecDepth 100000 in
theorem c_J3_checkIndex_8e157 (l : Launch) (G : gG) (dce sz : Nat) (M : gM) (k n : Nat) (hk0 : k < n) (hn : n < 2 ^ 31) : mI l yJ3_checkIndex_8e157 wsJ3_checkIndex_8e157 ({ frames := 0, cells := 0, slots := 0, locals := 0 }) G dce sz M [.int (nI k), .int (nI n), .null] (fun r M' => r = nI k ∧ M' = M) (0) (0) := by
  refine wMet (Qc := QI G _) (cc := cJ3_checkIndex_8e157) (maxL := 3) (ret := (some .int)) (by decide) rfl (Nat.le_of_ble_eq_true rfl) ?_
  intro p e s m below meth c A ls X hnm hw hK hZ hA hS hsz eA hl
  obtain ⟨hx, hb, hr, hts, hown, hlk, hml⟩ := id X
  have hl : lv_has ls 3 [(0, .int (nI k)), (1, .int (nI n)), (2, .null)] := hl
  refine lv_iload_n hx hb dJ3_checkIndex_8e157_0 rfl (lv_at hl 0 rfl) ?_
  refine lv_if_lt (tgt := 9) hx hb dJ3_checkIndex_8e157_1 (by decide) (fun c_1 => ?_) (fun c_1 => ?_)
  · exact (by exfalso; first | exact absurd c_1 (nI_pos (by omega)) | exact absurd (nI_lt hk0 hn) c_6)
  · refine lv_iload_n hx hb dJ3_checkIndex_8e157_4 rfl (lv_at hl 0 rfl) ?_
    refine lv_iload_n hx hb dJ3_checkIndex_8e157_5 rfl (lv_at hl 1 rfl) ?_
    refine lv_icmp_lt (tgt := 16) hx hb dJ3_checkIndex_8e157_6 (by decide) (fun c_6 => ?_) (fun c_6 => ?_)
    · refine lv_iload_n hx hb dJ3_checkIndex_8e157_16 rfl (lv_at hl 0 rfl) ?_
      exact m_iret X hK hw hS (by exact ⟨rfl, rfl⟩) (by omega) (by omega) dJ3_checkIndex_8e157_17
    · exact (by exfalso; first | exact absurd c_1 (nI_pos (by omega)) | exact absurd (nI_lt hk0 hn) c_6)
set_option maxHeartbeats 4000000 in
set_option maxRecDepth 100000 in
theorem c_J15_checkIndex_7cf53 (l : Launch) (G : gG) (dce sz : Nat) (M : gM) (k n : Nat) (hk0 : k < n) (hn : n < 2 ^ 31) : mI l yJ15_checkIndex_7cf53 wsJ15_checkIndex_7cf53 ({ frames := 1, cells := 0, slots := 0, locals := 22 }) G dce sz M [.int (nI k), .int (nI n)] (fun r M' => r = nI k ∧ M' = M) (0) (0) := by
  refine wMet (Qc := QI G _) (cc := cJ15_checkIndex_7cf53) (maxL := 2) (ret := (some .int)) (by decide) rfl (Nat.le_of_ble_eq_true rfl) ?_
  intro p e s m below meth c A ls X hnm hw hK hZ hA hS hsz eA hl
  obtain ⟨hx, hb, hr, hts, hown, hlk, hml⟩ := id X
  have hl : lv_has ls 2 [(0, .int (nI k)), (1, .int (nI n))] := hl
  refine lv_iload_n hx hb dJ15_checkIndex_7cf53_0 rfl (lv_at hl 0 rfl) ?_
  refine lv_iload_n hx hb dJ15_checkIndex_7cf53_1 rfl (lv_at hl 1 rfl) ?_
  refine lv_null hx hb dJ15_checkIndex_7cf53_2 ?_
  refine m_callSi X hK hw hZ hS hA (As := [.int (nI k), .int (nI n), .null]) (rest := []) (c_J3_checkIndex_8e157 l G dce _ M k n hk0 hn) (va_cwS 3 hts gJ15_checkIndex_7cf53_J3_checkIndex_8e157 rfl rfl rfl (by decide +kernel) ⟨Nat.le_of_ble_eq_true rfl, Nat.le_of_ble_eq_true rfl⟩) rfl hl.1 rfl (Nat.le_of_ble_eq_true rfl) dJ15_checkIndex_7cf53_3 (Nat.le_of_ble_eq_true rfl) (Nat.le_of_ble_eq_true rfl) (fun r2 M1 H locs hp hw hS hz hk => ?_)
  rw [hp.2] at hw
  rw [hp.1]
  exact m_iret X hK hw hS (by exact ⟨rfl, rfl⟩) (by omega) (by omega) dJ15_checkIndex_7cf53_6
set_option maxHeartbeats 4000000 in
set_option maxRecDepth 100000 in
theorem c_Jx4a65c_get_915e3 (l : Launch) (G : gG) (dce sz : Nat) (M : gM) (h ex k n cap a : Nat) (mc : Int32) (g : Nat → Option Nat) (hv : M h = some (oL mc ex (nI n))) (hex : M ex = some (oA G cap g)) (hk0 : k < n) (hnc : n ≤ cap) (hcap : cap ≤ 2048) (hg : g k = some a) : mR l yJx4a65c_get_915e3 wsJx4a65c_get_915e3 ({ frames := 2, cells := 0, slots := 0, locals := 43 }) G dce sz M [.ref h, .int (nI k)] (fun r M' => r = a ∧ M' = M) (0) (0) := by
  have hv : M h = some (.inr (0, [.int mc, .ref ex, .int (nI n)])) := hv
  refine wMet (Qc := QR G _) (cc := cJx4a65c_get_915e3) (maxL := 2) (ret := (some (.object "java/lang/Object"))) (by decide) rfl (Nat.le_of_ble_eq_true rfl) ?_
  intro p e s m below meth c A ls X hnm hw hK hZ hA hS hsz eA hl
  obtain ⟨hx, hb, hr, hts, hown, hlk, hml⟩ := id X
  have hl : lv_has ls 2 [(0, .ref h), (1, .int (nI k))] := hl
  have iJx4a65c : ∀ w ∈ wsJx4a65c0, w ∈ wsJx4a65c_get_915e3 := by decide +kernel
  refine lv_iload_n hx hb dJx4a65c_get_915e3_0 rfl (lv_at hl 1 rfl) ?_
  refine lv_aload_n hx hb dJx4a65c_get_915e3_1 rfl (lv_at hl 0 rfl) ?_
  refine m_get X iJx4a65c hK hw hv rfl 2 (by decide) (ref := "java/util/ArrayList") (by decide +kernel) (Or.inl rfl) rfl dJx4a65c_get_915e3_2 ?_
  refine m_callSi X hK hw hZ hS hA (As := [.int (nI k), .int (nI n)]) (rest := []) (c_J15_checkIndex_7cf53 l G dce _ M k n hk0 (by omega)) (va_cwS 2 hts gJx4a65c_get_915e3_J15_checkIndex_7cf53 rfl rfl rfl (by decide +kernel) ⟨Nat.le_of_ble_eq_true rfl, Nat.le_of_ble_eq_true rfl⟩) rfl hl.1 rfl (Nat.le_of_ble_eq_true rfl) dJx4a65c_get_915e3_5 (Nat.le_of_ble_eq_true rfl) (Nat.le_of_ble_eq_true rfl) (fun r2 M1 H locs hp hw hS hz hk => ?_)
  rw [hp.2] at hw
  rw [hp.1]
  refine lv_pop hx hb dJx4a65c_get_915e3_8 rfl ?_
  refine lv_aload_n hx hb dJx4a65c_get_915e3_9 rfl (lv_at hl 0 rfl) ?_
  refine lv_iload_n hx hb dJx4a65c_get_915e3_10 rfl (lv_at hl 1 rfl) ?_
  refine m_callVr X (ci := 0) rfl hv hK hw hZ hS hA (As := [.int (nI k)]) (rest := []) (c_Jx4a65c_elementData_915e3 l G dce _ M h ex k cap a mc (nI n) g hv hex (by omega) hcap hg) (cwV 1 hts gJx4a65c_get_915e3_Jx4a65c_elementData_915e3 rfl rfl rfl (by decide +kernel) ⟨Nat.le_of_ble_eq_true rfl, Nat.le_of_ble_eq_true rfl⟩) rfl hl.1 rfl (Nat.le_of_ble_eq_true rfl) dJx4a65c_get_915e3_11 (Nat.le_of_ble_eq_true rfl) (Nat.le_of_ble_eq_true rfl) (fun r4 M3 H locs hp hw hS hz hk => ?_)
  rw [hp.2] at hw
  rw [hp.1]
  exact m_aret X (Or.inl ⟨_, rfl⟩) hK hw hS (by exact ⟨rfl, rfl⟩) (by omega) (by omega) dJx4a65c_get_915e3_14
