theorem sOK_3 {si : Int32} (h : sOK si = true) : si = 0 ∨ si = 1 ∨ si = 2 := by
  unfold sOK at h
  simp only [Bool.and_eq_true, Bool.not_eq_true', decide_eq_false_iff_not, decide_eq_true_eq] at h
  obtain ⟨i, h1, h2⟩ := nI_of h.1
  have h3 : i < 3 := (nI_ltI h1 (by decide)).mp (by rw [← h2]; exact h.2)
  rcases (show i = 0 ∨ i = 1 ∨ i = 2 by omega) with rfl | rfl | rfl
  · exact Or.inl h2
  · exact Or.inr (Or.inl h2)
  · exact Or.inr (Or.inr h2)
set_option maxHeartbeats 4000000 in
set_option maxRecDepth 100000 in
theorem c_X7_at (l : Launch) (G : gG) (dce sz : Nat) (M : gM) (si kd ky : Int32) : mI l yX7_at wsX7_at ({ frames := 0, cells := 0, slots := 0, locals := 0 }) G dce sz M [.int si, .int kd, .int ky] (fun r M' => r = 1024 * (2 * si + kd) + ky ∧ M' = M) (0) (0) := by
  refine wMet (Qc := QI G _) (cc := cX7_at) (maxL := 3) (ret := (some .int)) (by decide) rfl (Nat.le_of_ble_eq_true rfl) ?_
  intro p e s m below meth c A ls X hnm hw hK hZ hA hS hsz eA hl
  obtain ⟨hx, hb, hr, hts, hown, hlk, hml⟩ := id X
  have hl : lv_has ls 3 [(0, .int si), (1, .int kd), (2, .int ky)] := hl
  refine lv_sipush (v := 1024) hx hb dX7_at_0 (by decide) ?_
  refine lv_iconst (v := 2) hx hb dX7_at_3 (by decide) ?_
  refine lv_iload_n hx hb dX7_at_4 rfl (lv_at hl 0 rfl) ?_
  refine lv_imul hx hb dX7_at_5 ?_
  refine lv_iload_n hx hb dX7_at_6 rfl (lv_at hl 1 rfl) ?_
  refine lv_iadd hx hb dX7_at_7 ?_
  refine lv_imul hx hb dX7_at_8 ?_
  refine lv_iload_n hx hb dX7_at_9 rfl (lv_at hl 2 rfl) ?_
  refine lv_iadd hx hb dX7_at_10 ?_
  exact m_iret X hK hw hS (by exact ⟨rfl, rfl⟩) (by omega) (by omega) dX7_at_11
set_option maxHeartbeats 4000000 in
set_option maxRecDepth 100000 in
theorem c_X7_row (l : Launch) (G : gG) (dce sz : Nat) (M : gM) (kd ky : Int32) : mI l yX7_row wsX7_row ({ frames := 0, cells := 0, slots := 0, locals := 0 }) G dce sz M [.int kd, .int ky] (fun r M' => r = 1024 * kd + ky ∧ M' = M) (0) (0) := by
  refine wMet (Qc := QI G _) (cc := cX7_row) (maxL := 2) (ret := (some .int)) (by decide) rfl (Nat.le_of_ble_eq_true rfl) ?_
  intro p e s m below meth c A ls X hnm hw hK hZ hA hS hsz eA hl
  obtain ⟨hx, hb, hr, hts, hown, hlk, hml⟩ := id X
  have hl : lv_has ls 2 [(0, .int kd), (1, .int ky)] := hl
  refine lv_sipush (v := 1024) hx hb dX7_row_0 (by decide) ?_
  refine lv_iload_n hx hb dX7_row_3 rfl (lv_at hl 0 rfl) ?_
  refine lv_imul hx hb dX7_row_4 ?_
  refine lv_iload_n hx hb dX7_row_5 rfl (lv_at hl 1 rfl) ?_
  refine lv_iadd hx hb dX7_row_6 ?_
  exact m_iret X hK hw hS (by exact ⟨rfl, rfl⟩) (by omega) (by omega) dX7_row_7
set_option maxHeartbeats 4000000 in
set_option maxRecDepth 100000 in
theorem c_X7_makes_0 (l : Launch) (G : gG) (dce sz : Nat) (M : gM) (x : Nat) (ad : Nat → Nat) (th : Int32) (hmF : mF G M x ad th) (si nm rf : Int32) (hsi : si = 0 ∨ si = 1 ∨ si = 2) : mI l yX7_makes wsX7_makes ({ frames := 1, cells := 0, slots := 0, locals := 22 }) G dce sz M [.ref x, .int si, .int 0, .int nm, .int rf] (fun r M' => r = 0 ∧ M' x = some (oM th 0 ad) ∧ ∀ (b : Nat) (g : Nat → Int64), M b = some (.inl (G.2 2, 1, .inr (.inl g))) → M' b = some (.inl (G.2 2, 1, .inr (.inl g)))) (0) (0) := by
  obtain ⟨hm, hks, m2, m3, m4, m5, m6, m7, m8, m9, m10, m11, m12, m13, m15, hdd⟩ := id hmF
  have hm : M x = some (.inr (8, [.int th, .ref (ad 1), .ref (ad 2), .ref (ad 3), .ref (ad 4), .ref (ad 5), .ref (ad 6), .ref (ad 7), .ref (ad 8), .ref (ad 9), .ref (ad 10), .ref (ad 11), .ref (ad 12), .ref (ad 13), .int 0, .ref (ad 15)])) := hm
  have hks : M (ad 1) = some (.inl (G.2 0, 2, .inl (fun _ => 0))) := hks
  have m7 : M (ad 7) = some (.inl (G.2 0, 6144, .inl (fun _ => 0))) := m7
  have m8 : M (ad 8) = some (.inl (G.2 1, 6144, .inl (fun _ => 0))) := m8
  have m9 : M (ad 9) = some (.inl (G.2 0, 6144, .inl (fun _ => 0))) := m9
  have m10 : M (ad 10) = some (.inl (G.2 0, 6144, .inl (fun _ => 0))) := m10
  have fo0 : ∀ (b : Nat) (g : Nat → Int64), M b = some (.inl (G.2 2, 1, .inr (.inl g))) → M b = some (.inl (G.2 2, 1, .inr (.inl g))) := fun _ _ h => h
  refine wMet (Qc := QI G _) (cc := cX7_makes) (maxL := 7) (ret := (some .int)) (by decide) rfl (Nat.le_of_ble_eq_true rfl) ?_
  intro p e s m below meth c A ls X hnm hw hK hZ hA hS hsz eA hl
  obtain ⟨hx, hb, hr, hts, hown, hlk, hml⟩ := id X
  have hl : lv_has ls 7 [(0, .ref x), (1, .int si), (2, .int 0), (3, .int nm), (4, .int rf)] := hl
  have iX7 : ∀ w ∈ wsX70, w ∈ wsX7_makes := by decide +kernel
  refine lv_aload_n hx hb dX7_makes_0 rfl (lv_at hl 0 rfl) ?_
  refine m_get X iX7 hK hw hm rfl 1 (by decide) (ref := "ObjectMapperModel") (by decide +kernel) (Or.inl rfl) rfl dX7_makes_1 ?_
  refine lv_iload_n hx hb dX7_makes_4 rfl (lv_at hl 2 rfl) ?_
  refine m_iald X hK hw hks (by unfold vp_in; decide) dX7_makes_5 ?_
  refine W.eq (g2 := F0 m 6 ls [.int 0]) rfl ?_
  refine lv_istore (lv' := [(5, .int 0), (0, .ref x), (1, .int si), (2, .int 0), (3, .int nm), (4, .int rf)]) hx hb dX7_makes_6 hl (by decide) rfl (fun ls hl => ?_)
  refine lv_iload_n hx hb dX7_makes_8 rfl (lv_at hl 2 rfl) ?_
  refine lv_iload_n hx hb dX7_makes_9 rfl (lv_at hl 3 rfl) ?_
  refine lv_iload hx hb dX7_makes_10 (lv_at hl 0 rfl) ?_
  refine m_callSi X hK hw hZ hS hA (As := [.int si, .int 0, .int 0]) (rest := []) (c_X7_at l G dce _ M si 0 0) (va_cwS 3 hts gX7_makes_X7_at rfl rfl rfl (by decide +kernel) ⟨Nat.le_of_ble_eq_true rfl, Nat.le_of_ble_eq_true rfl⟩) rfl hl.1 rfl (Nat.le_of_ble_eq_true rfl) dX7_makes_12 (Nat.le_of_ble_eq_true rfl) (Nat.le_of_ble_eq_true rfl) (fun r2 M1 H locs hp hw hS hz hk => ?_)
  rw [hp.2] at hw
  rw [hp.1]
  refine lv_istore (lv' := [(6, .int (1024 * (2 * si + 0) + 0)), (5, .int 0), (0, .ref x), (1, .int si), (2, .int 0), (3, .int nm), (4, .int rf)]) hx hb dX7_makes_15 hl (by decide) rfl (fun ls hl => ?_)
  refine lv_aload_n hx hb dX7_makes_17 rfl (lv_at hl 2 rfl) ?_
  refine m_get X iX7 hK hw hm rfl 1 (by decide) (ref := "ObjectMapperModel") (by decide +kernel) (Or.inl rfl) rfl dX7_makes_18 ?_
  refine lv_iload_n hx hb dX7_makes_21 rfl (lv_at hl 4 rfl) ?_
  refine lv_dup2_11 hx hb dX7_makes_22 rfl rfl ?_
  refine m_iald X hK hw hks (by unfold vp_in; decide) dX7_makes_23 ?_
  refine W.eq (g2 := F0 m 24 ls [.int 0, .int 0, .ref (ad 1)]) rfl ?_
  refine lv_iconst (v := 1) hx hb dX7_makes_24 (by decide) ?_
  refine lv_iadd hx hb dX7_makes_25 ?_
  rw [show (0 : Int32) + 1 = 1 from by decide]
  refine m_iast X hK hw hS hks (by unfold vp_in; decide) dX7_makes_26 (fun M3 H locs eM3 hw hS => ?_)
  have k4 := (congrFun eM3 x).trans (mu_g hm (gM_ne hm hks (by simp)))
  have k5 : M3 (ad 1) = some (.inl (G.2 0, 2, .inl (upd (fun _ => 0) (0 : Int32).toNatClampNeg 1))) := by rw [eM3]; exact mu_s _ _ _
  have k6 := (congrFun eM3 (ad 7)).trans (mu_g m7 (Ne.symm ((hdd 1 7 (by omega) (by omega) (by omega)).resolve_right (by omega))))
  have k7 := (congrFun eM3 (ad 8)).trans (mu_g m8 (Ne.symm ((hdd 1 8 (by omega) (by omega) (by omega)).resolve_right (by omega))))
  have k8 := (congrFun eM3 (ad 9)).trans (mu_g m9 (Ne.symm ((hdd 1 9 (by omega) (by omega) (by omega)).resolve_right (by omega))))
  have k9 := (congrFun eM3 (ad 10)).trans (mu_g m10 (Ne.symm ((hdd 1 10 (by omega) (by omega) (by omega)).resolve_right (by omega))))
  have fo10 : ∀ (b : Nat) (g : Nat → Int64), M b = some (.inl (G.2 2, 1, .inr (.inl g))) → M3 b = some (.inl (G.2 2, 1, .inr (.inl g))) := fun b g hb => (congrFun eM3 b).trans (mu_g (fo0 b g hb) (gM_ne (fo0 b g hb) hks (by simp)))
  refine lv_aload_n hx hb dX7_makes_27 rfl (lv_at hl 2 rfl) ?_
  refine m_get X iX7 hK hw k4 rfl 7 (by decide) (ref := "ObjectMapperModel") (by decide +kernel) (Or.inl rfl) rfl dX7_makes_28 ?_
  refine lv_iload hx hb dX7_makes_31 (lv_at hl 0 rfl) ?_
  refine lv_iconst (v := 1) hx hb dX7_makes_33 (by decide) ?_
  refine m_iast X hK hw hS k6 (by rcases hsi with q | q | q <;> rw [q] <;> (unfold vp_in; decide)) dX7_makes_34 (fun M11 H locs eM11 hw hS => ?_)
  have k12 := (congrFun eM11 x).trans (mu_g k4 (gM_ne k4 k6 (by simp)))
  have k13 := (congrFun eM11 (ad 1)).trans (mu_g k5 ((hdd 1 7 (by omega) (by omega) (by omega)).resolve_right (by omega)))
  have k14 : M11 (ad 7) = some (.inl (G.2 0, 6144, .inl (upd (fun _ => 0) ((1024 * (2 * si + 0) + 0) : Int32).toNatClampNeg 1))) := by rw [eM11]; exact mu_s _ _ _
  have k15 := (congrFun eM11 (ad 8)).trans (mu_g k7 (Ne.symm ((hdd 7 8 (by omega) (by omega) (by omega)).resolve_right (by omega))))
  have k16 := (congrFun eM11 (ad 9)).trans (mu_g k8 (Ne.symm ((hdd 7 9 (by omega) (by omega) (by omega)).resolve_right (by omega))))
  have k17 := (congrFun eM11 (ad 10)).trans (mu_g k9 (Ne.symm ((hdd 7 10 (by omega) (by omega) (by omega)).resolve_right (by omega))))
  have fo18 : ∀ (b : Nat) (g : Nat → Int64), M b = some (.inl (G.2 2, 1, .inr (.inl g))) → M11 b = some (.inl (G.2 2, 1, .inr (.inl g))) := fun b g hb => (congrFun eM11 b).trans (mu_g (fo10 b g hb) (gM_ne (fo10 b g hb) k6 (by simp)))
  refine lv_aload_n hx hb dX7_makes_35 rfl (lv_at hl 2 rfl) ?_
  refine m_get X iX7 hK hw k12 rfl 8 (by decide) (ref := "ObjectMapperModel") (by decide +kernel) (Or.inl rfl) rfl dX7_makes_36 ?_
  refine lv_iload hx hb dX7_makes_39 (lv_at hl 0 rfl) ?_
  refine lv_iconst (v := 0) hx hb dX7_makes_41 (by decide) ?_
  refine m_zast X hK hw hS k15 (x := 0) (by decide) (by rcases hsi with q | q | q <;> rw [q] <;> (unfold vp_in; decide)) dX7_makes_42 (fun M19 H locs eM19 hw hS => ?_)
  have k20 := (congrFun eM19 x).trans (mu_g k12 (gM_ne k12 k15 (by simp)))
  have k21 := (congrFun eM19 (ad 1)).trans (mu_g k13 ((hdd 1 8 (by omega) (by omega) (by omega)).resolve_right (by omega)))
  have k22 := (congrFun eM19 (ad 7)).trans (mu_g k14 ((hdd 7 8 (by omega) (by omega) (by omega)).resolve_right (by omega)))
  have k23 : M19 (ad 8) = some (.inl (G.2 1, 6144, .inl (upd (fun _ => 0) ((1024 * (2 * si + 0) + 0) : Int32).toNatClampNeg 0))) := by rw [eM19]; exact mu_s _ _ _
  have k24 := (congrFun eM19 (ad 9)).trans (mu_g k16 (Ne.symm ((hdd 8 9 (by omega) (by omega) (by omega)).resolve_right (by omega))))
  have k25 := (congrFun eM19 (ad 10)).trans (mu_g k17 (Ne.symm ((hdd 8 10 (by omega) (by omega) (by omega)).resolve_right (by omega))))
  have fo26 : ∀ (b : Nat) (g : Nat → Int64), M b = some (.inl (G.2 2, 1, .inr (.inl g))) → M19 b = some (.inl (G.2 2, 1, .inr (.inl g))) := fun b g hb => (congrFun eM19 b).trans (mu_g (fo18 b g hb) (gM_ne (fo18 b g hb) k15 (by simp)))
  refine lv_aload_n hx hb dX7_makes_43 rfl (lv_at hl 2 rfl) ?_
  refine m_get X iX7 hK hw k20 rfl 9 (by decide) (ref := "ObjectMapperModel") (by decide +kernel) (Or.inl rfl) rfl dX7_makes_44 ?_
  refine lv_iload hx hb dX7_makes_47 (lv_at hl 0 rfl) ?_
  refine lv_iload_n hx hb dX7_makes_49 rfl (lv_at hl 5 rfl) ?_
  refine m_iast X hK hw hS k24 (by rcases hsi with q | q | q <;> rw [q] <;> (unfold vp_in; decide)) dX7_makes_50 (fun M27 H locs eM27 hw hS => ?_)
  have k28 := (congrFun eM27 x).trans (mu_g k20 (gM_ne k20 k24 (by simp)))
  have k29 := (congrFun eM27 (ad 1)).trans (mu_g k21 ((hdd 1 9 (by omega) (by omega) (by omega)).resolve_right (by omega)))
  have k30 := (congrFun eM27 (ad 7)).trans (mu_g k22 ((hdd 7 9 (by omega) (by omega) (by omega)).resolve_right (by omega)))
  have k31 := (congrFun eM27 (ad 8)).trans (mu_g k23 ((hdd 8 9 (by omega) (by omega) (by omega)).resolve_right (by omega)))
  have k32 : M27 (ad 9) = some (.inl (G.2 0, 6144, .inl (upd (fun _ => 0) ((1024 * (2 * si + 0) + 0) : Int32).toNatClampNeg nm))) := by rw [eM27]; exact mu_s _ _ _
  have k33 := (congrFun eM27 (ad 10)).trans (mu_g k25 (Ne.symm ((hdd 9 10 (by omega) (by omega) (by omega)).resolve_right (by omega))))
  have fo34 : ∀ (b : Nat) (g : Nat → Int64), M b = some (.inl (G.2 2, 1, .inr (.inl g))) → M27 b = some (.inl (G.2 2, 1, .inr (.inl g))) := fun b g hb => (congrFun eM27 b).trans (mu_g (fo26 b g hb) (gM_ne (fo26 b g hb) k24 (by simp)))
  refine lv_aload_n hx hb dX7_makes_51 rfl (lv_at hl 2 rfl) ?_
  refine m_get X iX7 hK hw k28 rfl 10 (by decide) (ref := "ObjectMapperModel") (by decide +kernel) (Or.inl rfl) rfl dX7_makes_52 ?_
  refine lv_iload hx hb dX7_makes_55 (lv_at hl 0 rfl) ?_
  refine lv_iload hx hb dX7_makes_57 (lv_at hl 6 rfl) ?_
  refine m_iast X hK hw hS k33 (by rcases hsi with q | q | q <;> rw [q] <;> (unfold vp_in; decide)) dX7_makes_59 (fun M35 H locs eM35 hw hS => ?_)
  have k36 := (congrFun eM35 x).trans (mu_g k28 (gM_ne k28 k33 (by simp)))
  have k37 := (congrFun eM35 (ad 1)).trans (mu_g k29 ((hdd 1 10 (by omega) (by omega) (by omega)).resolve_right (by omega)))
  have k38 := (congrFun eM35 (ad 7)).trans (mu_g k30 ((hdd 7 10 (by omega) (by omega) (by omega)).resolve_right (by omega)))
  have k39 := (congrFun eM35 (ad 8)).trans (mu_g k31 ((hdd 8 10 (by omega) (by omega) (by omega)).resolve_right (by omega)))
  have k40 := (congrFun eM35 (ad 9)).trans (mu_g k32 ((hdd 9 10 (by omega) (by omega) (by omega)).resolve_right (by omega)))
  have k41 : M35 (ad 10) = some (.inl (G.2 0, 6144, .inl (upd (fun _ => 0) ((1024 * (2 * si + 0) + 0) : Int32).toNatClampNeg rf))) := by rw [eM35]; exact mu_s _ _ _
  have fo42 : ∀ (b : Nat) (g : Nat → Int64), M b = some (.inl (G.2 2, 1, .inr (.inl g))) → M35 b = some (.inl (G.2 2, 1, .inr (.inl g))) := fun b g hb => (congrFun eM35 b).trans (mu_g (fo34 b g hb) (gM_ne (fo34 b g hb) k33 (by simp)))
  refine lv_iload hx hb dX7_makes_60 (lv_at hl 1 rfl) ?_
  exact m_iret X hK hw hS ⟨rfl, k36, fo42⟩ (by omega) (by omega) dX7_makes_62
theorem mF_th {G : gG} {M M1 : gM} {x : Nat} {ad : Nat → Nat} {th th1 : Int32} (h : mF G M x ad th) (e : M1 = mu M x (oM th1 0 ad)) : mF G M1 x ad th1 := by
  obtain ⟨hm, h1, m2, m3, m4, m5, m6, m7, m8, m9, m10, m11, m12, m13, m15, hdd⟩ := h
  have t : ∀ (b : Nat) (c : ClassId) (n : Nat) (f : Nat → Int32), M b = some (.inl (c, n, .inl f)) → M1 b = some (.inl (c, n, .inl f)) := fun b c n f hb => by
    rw [e]
    exact mu_g hb (gM_ne hb hm (by simp [oM]))
  exact ⟨by rw [e]; exact mu_s _ _ _, t _ _ _ _ h1, t _ _ _ _ m2, t _ _ _ _ m3, t _ _ _ _ m4, t _ _ _ _ m5, t _ _ _ _ m6, t _ _ _ _ m7, t _ _ _ _ m8, t _ _ _ _ m9, t _ _ _ _ m10, t _ _ _ _ m11, t _ _ _ _ m12, t _ _ _ _ m13, t _ _ _ _ m15, hdd⟩
set_option maxHeartbeats 4000000 in
set_option maxRecDepth 100000 in
theorem c_X7_makeAuthor_0 (l : Launch) (G : gG) (dce sz : Nat) (M : gM) (x : Nat) (ad : Nat → Nat) (th : Int32) (hmF : mF G M x ad th) (si nm : Int32) : mI l yX7_makeAuthor wsX7_makeAuthor ({ frames := 2, cells := 0, slots := 0, locals := 48 }) G dce sz M [.ref x, .int si, .int nm] (fun r M' => r = 0 ∧ M' x = some (oM (if sOK si then (if nOK nm then 0 else 2) else 1) 0 ad) ∧ ∀ (b : Nat) (g : Nat → Int64), M b = some (.inl (G.2 2, 1, .inr (.inl g))) → M' b = some (.inl (G.2 2, 1, .inr (.inl g)))) (0) (0) := by
  obtain ⟨hm, hks, m2, m3, m4, m5, m6, m7, m8, m9, m10, m11, m12, m13, m15, hdd⟩ := id hmF
  have hm : M x = some (.inr (8, [.int th, .ref (ad 1), .ref (ad 2), .ref (ad 3), .ref (ad 4), .ref (ad 5), .ref (ad 6), .ref (ad 7), .ref (ad 8), .ref (ad 9), .ref (ad 10), .ref (ad 11), .ref (ad 12), .ref (ad 13), .int 0, .ref (ad 15)])) := hm
  have hks : M (ad 1) = some (.inl (G.2 0, 2, .inl (fun _ => 0))) := hks
  have m7 : M (ad 7) = some (.inl (G.2 0, 6144, .inl (fun _ => 0))) := m7
  have m8 : M (ad 8) = some (.inl (G.2 1, 6144, .inl (fun _ => 0))) := m8
  have m9 : M (ad 9) = some (.inl (G.2 0, 6144, .inl (fun _ => 0))) := m9
  have m10 : M (ad 10) = some (.inl (G.2 0, 6144, .inl (fun _ => 0))) := m10
  have fo0 : ∀ (b : Nat) (g : Nat → Int64), M b = some (.inl (G.2 2, 1, .inr (.inl g))) → M b = some (.inl (G.2 2, 1, .inr (.inl g))) := fun _ _ h => h
  refine wMet (Qc := QI G _) (cc := cX7_makeAuthor) (maxL := 3) (ret := (some .int)) (by decide) rfl (Nat.le_of_ble_eq_true rfl) ?_
  intro p e s m below meth c A ls X hnm hw hK hZ hA hS hsz eA hl
  obtain ⟨hx, hb, hr, hts, hown, hlk, hml⟩ := id X
  have hl : lv_has ls 3 [(0, .ref x), (1, .int si), (2, .int nm)] := hl
  refine lv_aload_n hx hb dX7_makeAuthor_0 rfl (lv_at hl 0 rfl) ?_
  refine lv_iload_n hx hb dX7_makeAuthor_1 rfl (lv_at hl 1 rfl) ?_
  refine m_callSi X hK hw hZ hS hA (As := [.int si]) (rest := [.ref x]) (c_X7_isSession l G dce _ M si) (va_cwS 1 hts gX7_makeAuthor_X7_isSession rfl rfl rfl (by decide +kernel) ⟨Nat.le_of_ble_eq_true rfl, Nat.le_of_ble_eq_true rfl⟩) rfl hl.1 rfl (Nat.le_of_ble_eq_true rfl) dX7_makeAuthor_2 (Nat.le_of_ble_eq_true rfl) (Nat.le_of_ble_eq_true rfl) (fun r2 M1 H locs hp hw hS hz hk => ?_)
  rw [hp.2] at hw
  rw [hp.1]
  refine lv_if_ne (tgt := 12) hx hb dX7_makeAuthor_5 (by decide) (fun c_5 => ?_) (fun c_5 => ?_)
  · refine lv_iload_n hx hb dX7_makeAuthor_12 rfl (lv_at hl 2 rfl) ?_
    refine m_callSi X hK hw hZ hS hA (As := [.int nm]) (rest := [.ref x]) (c_X7_isName l G dce _ M nm) (va_cwS 1 hts gX7_makeAuthor_X7_isName rfl rfl rfl (by decide +kernel) ⟨Nat.le_of_ble_eq_true rfl, Nat.le_of_ble_eq_true rfl⟩) rfl hl.1 rfl (Nat.le_of_ble_eq_true rfl) dX7_makeAuthor_13 (Nat.le_of_ble_eq_true rfl) (Nat.le_of_ble_eq_true rfl) (fun r4 M3 H locs hp hw hS hz hk => ?_)
    rw [hp.2] at hw
    rw [hp.1]
    refine lv_if_eq (tgt := 23) hx hb dX7_makeAuthor_16 (by decide) (fun c_16 => ?_) (fun c_16 => ?_)
    · refine lv_iconst (v := 2) hx hb dX7_makeAuthor_23 (by decide) ?_
      refine m_callVi X (ci := 8) rfl hm hK hw hZ hS hA (As := [.int 2]) (rest := []) (c_X7_holds l G dce _ M x ad th 0 hm 2) (cwV 1 hts gX7_makeAuthor_X7_holds rfl rfl rfl (by decide +kernel) ⟨Nat.le_of_ble_eq_true rfl, Nat.le_of_ble_eq_true rfl⟩) rfl hl.1 rfl (Nat.le_of_ble_eq_true rfl) dX7_makeAuthor_24 (Nat.le_of_ble_eq_true rfl) (Nat.le_of_ble_eq_true rfl) (fun r6 M5 H locs hp hw hS hz hk => ?_)
      have eM5 := hp.2
      have er6 := hp.1
      have k7 : M5 x = some (.inr (8, [.int 2, .ref (ad 1), .ref (ad 2), .ref (ad 3), .ref (ad 4), .ref (ad 5), .ref (ad 6), .ref (ad 7), .ref (ad 8), .ref (ad 9), .ref (ad 10), .ref (ad 11), .ref (ad 12), .ref (ad 13), .int 0, .ref (ad 15)])) := by rw [eM5]; exact mu_s _ _ _
      have hk8 : M5 (ad 1) = some (oI G 2 (fun _ => 0)) := (congrFun eM5 (ad 1)).trans (mu_g hks (gM_ne hks hm (by simp [oI])))
      rw [show r6 = 0 from by rw [er6]; decide]
      refine lv_if_eq (tgt := 41) hx hb dX7_makeAuthor_27 (by decide) (fun _ => ?_) (fun c_27 => absurd (by decide) c_27)
      refine lv_iconst (v := 0) hx hb dX7_makeAuthor_41 (by decide) ?_
      exact m_iret X hK hw hS ⟨rfl, by rw [(show (if sOK si then (if nOK nm then (0 : Int32) else 2) else 1) = 2 from by simp_all [bI_0, bI])]; exact k7, fun b g hb => (congrFun eM5 b).trans (mu_g hb (gM_ne hb hm (by simp)))⟩ (by omega) (by omega) dX7_makeAuthor_42
    · refine lv_iconst (v := 0) hx hb dX7_makeAuthor_19 (by decide) ?_
      refine lv_goto (tgt := 24) hx hb dX7_makeAuthor_20 (by decide) ?_
      refine m_callVi X (ci := 8) rfl hm hK hw hZ hS hA (As := [.int 0]) (rest := []) (c_X7_holds l G dce _ M x ad th 0 hm 0) (cwV 1 hts gX7_makeAuthor_X7_holds rfl rfl rfl (by decide +kernel) ⟨Nat.le_of_ble_eq_true rfl, Nat.le_of_ble_eq_true rfl⟩) rfl hl.1 rfl (Nat.le_of_ble_eq_true rfl) dX7_makeAuthor_24 (Nat.le_of_ble_eq_true rfl) (Nat.le_of_ble_eq_true rfl) (fun r10 M9 H locs hp hw hS hz hk => ?_)
      have eM9 := hp.2
      have er10 := hp.1
      have k11 : M9 x = some (.inr (8, [.int 0, .ref (ad 1), .ref (ad 2), .ref (ad 3), .ref (ad 4), .ref (ad 5), .ref (ad 6), .ref (ad 7), .ref (ad 8), .ref (ad 9), .ref (ad 10), .ref (ad 11), .ref (ad 12), .ref (ad 13), .int 0, .ref (ad 15)])) := by rw [eM9]; exact mu_s _ _ _
      have hk12 : M9 (ad 1) = some (oI G 2 (fun _ => 0)) := (congrFun eM9 (ad 1)).trans (mu_g hks (gM_ne hks hm (by simp [oI])))
      rw [show r10 = 1 from by rw [er10]; decide]
      refine lv_if_eq (tgt := 41) hx hb dX7_makeAuthor_27 (by decide) (fun c_27 => absurd c_27 (by decide)) (fun _ => ?_)
      refine lv_aload_n hx hb dX7_makeAuthor_30 rfl (lv_at hl 0 rfl) ?_
      refine lv_iload_n hx hb dX7_makeAuthor_31 rfl (lv_at hl 1 rfl) ?_
      refine lv_iconst (v := 0) hx hb dX7_makeAuthor_32 (by decide) ?_
      refine lv_iload_n hx hb dX7_makeAuthor_33 rfl (lv_at hl 2 rfl) ?_
      refine lv_iconst (v := (-1)) hx hb dX7_makeAuthor_34 (by decide) ?_
      have w13 := sOK_3 (show sOK si = true by simp_all [bI_0])
      refine m_callVi X (ci := 8) rfl k11 hK hw hZ hS hA (As := [.int si, .int 0, .int nm, .int (-1)]) (rest := []) (c_X7_makes_0 l G dce _ M9 x ad 0 (mF_th hmF eM9) si nm (-1) w13) (cwV 4 hts gX7_makeAuthor_X7_makes rfl rfl rfl (by decide +kernel) ⟨Nat.le_of_ble_eq_true rfl, Nat.le_of_ble_eq_true rfl⟩) rfl hl.1 rfl (Nat.le_of_ble_eq_true rfl) dX7_makeAuthor_35 (Nat.le_of_ble_eq_true rfl) (Nat.le_of_ble_eq_true rfl) (fun r15 M14 H locs hp hw hS hz hk => ?_)
      have hq := hp
      rw [hp.1]
      refine lv_goto (tgt := 42) hx hb dX7_makeAuthor_38 (by decide) ?_
      exact m_iret X hK hw hS ⟨rfl, by rw [(show (if sOK si then (if nOK nm then (0 : Int32) else 2) else 1) = 0 from by simp_all [bI_0, bI])]; exact hq.2.1, fun b g hb => hq.2.2 b g ((congrFun eM9 b).trans (mu_g hb (gM_ne hb hm (by simp))))⟩ (by omega) (by omega) dX7_makeAuthor_42
  · refine lv_iconst (v := 1) hx hb dX7_makeAuthor_8 (by decide) ?_
    refine lv_goto (tgt := 24) hx hb dX7_makeAuthor_9 (by decide) ?_
    refine m_callVi X (ci := 8) rfl hm hK hw hZ hS hA (As := [.int 1]) (rest := []) (c_X7_holds l G dce _ M x ad th 0 hm 1) (cwV 1 hts gX7_makeAuthor_X7_holds rfl rfl rfl (by decide +kernel) ⟨Nat.le_of_ble_eq_true rfl, Nat.le_of_ble_eq_true rfl⟩) rfl hl.1 rfl (Nat.le_of_ble_eq_true rfl) dX7_makeAuthor_24 (Nat.le_of_ble_eq_true rfl) (Nat.le_of_ble_eq_true rfl) (fun r17 M16 H locs hp hw hS hz hk => ?_)
    have eM16 := hp.2
    have er17 := hp.1
    have k18 : M16 x = some (.inr (8, [.int 1, .ref (ad 1), .ref (ad 2), .ref (ad 3), .ref (ad 4), .ref (ad 5), .ref (ad 6), .ref (ad 7), .ref (ad 8), .ref (ad 9), .ref (ad 10), .ref (ad 11), .ref (ad 12), .ref (ad 13), .int 0, .ref (ad 15)])) := by rw [eM16]; exact mu_s _ _ _
    have hk19 : M16 (ad 1) = some (oI G 2 (fun _ => 0)) := (congrFun eM16 (ad 1)).trans (mu_g hks (gM_ne hks hm (by simp [oI])))
    rw [show r17 = 0 from by rw [er17]; decide]
    refine lv_if_eq (tgt := 41) hx hb dX7_makeAuthor_27 (by decide) (fun _ => ?_) (fun c_27 => absurd (by decide) c_27)
    refine lv_iconst (v := 0) hx hb dX7_makeAuthor_41 (by decide) ?_
    exact m_iret X hK hw hS ⟨rfl, by rw [(show (if sOK si then (if nOK nm then (0 : Int32) else 2) else 1) = 1 from by simp_all [bI_0, bI])]; exact k18, fun b g hb => (congrFun eM16 b).trans (mu_g hb (gM_ne hb hm (by simp)))⟩ (by omega) (by omega) dX7_makeAuthor_42
