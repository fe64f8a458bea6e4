set_option maxHeartbeats 4000000 in
set_option maxRecDepth 100000 in
theorem c_X4_init (l : Launch) (G : gG) (dce sz : Nat) (M : gM) (h : Nat) (hv : M h = some (.inr (5, [.null, .null, .null]))) : mV l yX4_init wsX4_init ({ frames := 4, cells := 3, slots := 14, locals := 72 }) G dce sz M [.ref h] (fun M' => ∃ la lb nb, M la = none ∧ M lb = none ∧ M nb = none ∧ la ≠ lb ∧ M' h = some (oS la lb nb) ∧ M' la = some (oL 0 dce 0) ∧ M' lb = some (oL 0 dce 0) ∧ M' nb = some (eE v0E) ∧ ∀ b e, M b = some e → b ≠ h → M' b = some e) (3) (14) := by
  refine wMet (Qc := QV G _) (cc := cX4_init) (maxL := 1) (ret := none) (by decide) rfl (Nat.le_of_ble_eq_true rfl) ?_
  intro p e s m below meth c A ls X hnm hw hK hZ hA hS hsz eA hl
  obtain ⟨hx, hb, hr, hts, hown, hlk, hml⟩ := id X
  have hl : lv_has ls 1 [(0, .ref h)] := hl
  have hin : meth.name = "<init>" := hnm
  have iJx4a65c : ∀ w ∈ wsJx4a65c0, w ∈ wsX4_init := by decide +kernel
  have iX0 : ∀ w ∈ wsX00, w ∈ wsX4_init := by decide +kernel
  have iX4 : ∀ w ∈ wsX40, w ∈ wsX4_init := by decide +kernel
  have f0 : ∀ b e, M b = some e → b ≠ h → M b = some e := fun _ _ h _ => h
  refine lv_aload_n hx hb dX4_init_0 rfl (lv_at hl 0 rfl) ?_
  refine W.objInit hx hb hown (hts (.methodLink RX4 3 objectInit) (by decide +kernel)) (hts (.instanceMethod objectInit) (by decide +kernel)) (hts (.code objectInit ⟨#[0xb1]⟩ 1 none) (by decide +kernel)) rfl (by rw [hml]; exact hl.1) rfl dX4_init_1 (Nat.le_of_ble_eq_true rfl) (Nat.le_of_ble_eq_true rfl) ?_
  refine W.eq (g2 := F0 m 4 ls []) rfl ?_
  refine lv_aload_n hx hb dX4_init_4 rfl (lv_at hl 0 rfl) ?_
  refine m_new X iJx4a65c tyJx4a65c_ok (ci := 0) (by decide +kernel) (by decide +kernel) (by decide +kernel) hK hw hS hA rfl (fs := [.int 0, .null, .int 0]) rfl (Nat.le_of_ble_eq_true rfl) (Nat.le_of_ble_eq_true rfl) dX4_init_5 (fun la M1 H nla eM1 hw hS => ?_)
  have d_h_la : h ≠ la := gM_nn nla hv
  have k2 := (congrFun eM1 h).trans (mu_g hv d_h_la)
  have k3 : M1 la = some (.inr (0, [.int 0, .null, .int 0])) := by rw [eM1]; exact mu_s _ _ _
  have f4 : ∀ b e, M b = some e → b ≠ h → M1 b = some e := fun b e hb hne => (congrFun eM1 b).trans (mu_g (f0 b e hb hne) (gM_nn nla (f0 b e hb hne)))
  have zla : M la = none := fr_none f0 nla hv
  refine lv_dup hx hb dX4_init_8 rfl ?_
  refine m_callIv (ret9 := none) X hK hw hZ hS hA (As := []) (rest := [.ref la, .ref h]) (c_Jx4a65c_init_da8c8 l G dce _ M1 la k3) (cwI 0 hts gX4_init_Jx4a65c_init_da8c8 rfl rfl rfl (hts (.initialized RJx4a65c) (by decide +kernel)) (hts (.methodLink RX4 11 yJx4a65c_init_da8c8) (by decide +kernel)) (hts (.instanceMethod yJx4a65c_init_da8c8) (by decide +kernel)) rfl (by decide +kernel) ⟨Nat.le_of_ble_eq_true rfl, Nat.le_of_ble_eq_true rfl⟩) rfl hl.1 rfl (Nat.le_of_ble_eq_true rfl) dX4_init_9 (Nat.le_of_ble_eq_true rfl) (Nat.le_of_ble_eq_true rfl) (fun M5 H locs hp hw hS hz hk => ?_)
  have eM5 := hp
  have k6 := (congrFun eM5 h).trans (mu_g k2 d_h_la)
  have k7 : M5 la = some (.inr (0, [.int 0, .ref dce, .int 0])) := by rw [eM5]; exact mu_s _ _ _
  have f8 : ∀ b e, M b = some e → b ≠ h → M5 b = some e := fun b e hb hne => (congrFun eM5 b).trans (mu_g (f4 b e hb hne) (gM_nn nla (f0 b e hb hne)))
  refine m_putF X iX4 tyX4_ok nmX4 hK hw hS k6 rfl 0 (by decide) (ref := "ObjectMapper$Session") (by decide +kernel) (Or.inl rfl) rfl hin rfl (v := .ref la) rfl rfl (Nat.le_of_ble_eq_true rfl) (fs1 := [.ref la, .null, .null]) rfl dX4_init_12 (fun M9 H locs eM9 hw hS => ?_)
  have k10 : M9 h = some (.inr (5, [.ref la, .null, .null])) := by rw [eM9]; exact mu_s _ _ _
  have k11 := (congrFun eM9 la).trans (mu_g k7 (Ne.symm d_h_la))
  have f12 : ∀ b e, M b = some e → b ≠ h → M9 b = some e := fun b e hb hne => (congrFun eM9 b).trans (mu_g (f8 b e hb hne) hne)
  refine lv_aload_n hx hb dX4_init_15 rfl (lv_at hl 0 rfl) ?_
  refine m_new X iJx4a65c tyJx4a65c_ok (ci := 0) (by decide +kernel) (by decide +kernel) (by decide +kernel) hK hw hS hA rfl (fs := [.int 0, .null, .int 0]) rfl (Nat.le_of_ble_eq_true rfl) (Nat.le_of_ble_eq_true rfl) dX4_init_16 (fun lb M13 H nlb eM13 hw hS => ?_)
  have d_h_lb : h ≠ lb := gM_nn nlb k10
  have k14 := (congrFun eM13 h).trans (mu_g k10 d_h_lb)
  have d_la_lb : la ≠ lb := gM_nn nlb k11
  have k15 := (congrFun eM13 la).trans (mu_g k11 d_la_lb)
  have k16 : M13 lb = some (.inr (0, [.int 0, .null, .int 0])) := by rw [eM13]; exact mu_s _ _ _
  have f17 : ∀ b e, M b = some e → b ≠ h → M13 b = some e := fun b e hb hne => (congrFun eM13 b).trans (mu_g (f12 b e hb hne) (gM_nn nlb (f12 b e hb hne)))
  have zlb : M lb = none := fr_none f12 nlb k10
  refine lv_dup hx hb dX4_init_19 rfl ?_
  refine m_callIv (ret9 := none) X hK hw hZ hS hA (As := []) (rest := [.ref lb, .ref h]) (c_Jx4a65c_init_da8c8 l G dce _ M13 lb k16) (cwI 0 hts gX4_init_Jx4a65c_init_da8c8 rfl rfl rfl (hts (.initialized RJx4a65c) (by decide +kernel)) (hts (.methodLink RX4 11 yJx4a65c_init_da8c8) (by decide +kernel)) (hts (.instanceMethod yJx4a65c_init_da8c8) (by decide +kernel)) rfl (by decide +kernel) ⟨Nat.le_of_ble_eq_true rfl, Nat.le_of_ble_eq_true rfl⟩) rfl hl.1 rfl (Nat.le_of_ble_eq_true rfl) dX4_init_20 (Nat.le_of_ble_eq_true rfl) (Nat.le_of_ble_eq_true rfl) (fun M18 H locs hp hw hS hz hk => ?_)
  have eM18 := hp
  have k19 := (congrFun eM18 h).trans (mu_g k14 d_h_lb)
  have k20 := (congrFun eM18 la).trans (mu_g k15 d_la_lb)
  have k21 : M18 lb = some (.inr (0, [.int 0, .ref dce, .int 0])) := by rw [eM18]; exact mu_s _ _ _
  have f22 : ∀ b e, M b = some e → b ≠ h → M18 b = some e := fun b e hb hne => (congrFun eM18 b).trans (mu_g (f17 b e hb hne) (gM_nn nlb (f12 b e hb hne)))
  refine m_putF X iX4 tyX4_ok nmX4 hK hw hS k19 rfl 1 (by decide) (ref := "ObjectMapper$Session") (by decide +kernel) (Or.inl rfl) rfl hin rfl (v := .ref lb) rfl rfl (Nat.le_of_ble_eq_true rfl) (fs1 := [.ref la, .ref lb, .null]) rfl dX4_init_23 (fun M23 H locs eM23 hw hS => ?_)
  have k24 : M23 h = some (.inr (5, [.ref la, .ref lb, .null])) := by rw [eM23]; exact mu_s _ _ _
  have k25 := (congrFun eM23 la).trans (mu_g k20 (Ne.symm d_h_la))
  have k26 := (congrFun eM23 lb).trans (mu_g k21 (Ne.symm d_h_lb))
  have f27 : ∀ b e, M b = some e → b ≠ h → M23 b = some e := fun b e hb hne => (congrFun eM23 b).trans (mu_g (f22 b e hb hne) hne)
  refine lv_aload_n hx hb dX4_init_26 rfl (lv_at hl 0 rfl) ?_
  refine m_new X iX0 tyX0_ok (ci := 1) (by decide +kernel) (by decide +kernel) (by decide +kernel) hK hw hS hA rfl (fs := [.int 0, .int 0, .int 0, .int 0, .int 0, .int 0, .int 0, .int 0]) rfl (Nat.le_of_ble_eq_true rfl) (Nat.le_of_ble_eq_true rfl) dX4_init_27 (fun nb M28 H nnb eM28 hw hS => ?_)
  have d_h_nb : h ≠ nb := gM_nn nnb k24
  have k29 := (congrFun eM28 h).trans (mu_g k24 d_h_nb)
  have d_la_nb : la ≠ nb := gM_nn nnb k25
  have k30 := (congrFun eM28 la).trans (mu_g k25 d_la_nb)
  have d_lb_nb : lb ≠ nb := gM_nn nnb k26
  have k31 := (congrFun eM28 lb).trans (mu_g k26 d_lb_nb)
  have k32 : M28 nb = some (.inr (1, [.int 0, .int 0, .int 0, .int 0, .int 0, .int 0, .int 0, .int 0])) := by rw [eM28]; exact mu_s _ _ _
  have f33 : ∀ b e, M b = some e → b ≠ h → M28 b = some e := fun b e hb hne => (congrFun eM28 b).trans (mu_g (f27 b e hb hne) (gM_nn nnb (f27 b e hb hne)))
  have znb : M nb = none := fr_none f27 nnb k24
  refine lv_dup hx hb dX4_init_30 rfl ?_
  refine m_callNIv (ret9 := none) X hK hw hZ hS hA (As := []) (rest := [.ref nb, .ref h]) (c_X0_init l G dce _ M28 nb k32) ⟨va_cnB 0 hts gX4_init_X0_init_n23 rfl rfl rfl (hZ.2.2.2.2.2.2.2.2.2.1 (RX4, 23, yX0_init, RX6) (by decide +kernel)) (hts (.initialized RX0) (by decide +kernel)) (by decide +kernel) ⟨Nat.le_of_ble_eq_true rfl, Nat.le_of_ble_eq_true rfl⟩, rfl, hts (.instanceMethod yX0_init) (by decide +kernel)⟩ rfl hl.1 rfl (Nat.le_of_ble_eq_true rfl) dX4_init_31 (Nat.le_of_ble_eq_true rfl) (Nat.le_of_ble_eq_true rfl) (fun M34 H locs hp hw hS hz hk => ?_)
  have eM34 := hp
  have k35 := (congrFun eM34 h).trans (mu_g k29 d_h_nb)
  have k36 := (congrFun eM34 la).trans (mu_g k30 d_la_nb)
  have k37 := (congrFun eM34 lb).trans (mu_g k31 d_lb_nb)
  have k38 : M34 nb = some (.inr (1, [.int (bI false), .int (bI false), .int (bI false), .int 0, .int (-1), .int 0, .int 0, .int 0])) := by rw [eM34]; exact mu_s _ _ _
  have f39 : ∀ b e, M b = some e → b ≠ h → M34 b = some e := fun b e hb hne => (congrFun eM34 b).trans (mu_g (f33 b e hb hne) (gM_nn nnb (f27 b e hb hne)))
  refine m_putF X iX4 tyX4_ok nmX4 hK hw hS k35 rfl 2 (by decide) (ref := "ObjectMapper$Session") (by decide +kernel) (Or.inl rfl) rfl hin rfl (v := .ref nb) rfl rfl (Nat.le_of_ble_eq_true rfl) (fs1 := [.ref la, .ref lb, .ref nb]) rfl dX4_init_34 (fun M40 H locs eM40 hw hS => ?_)
  have k41 : M40 h = some (.inr (5, [.ref la, .ref lb, .ref nb])) := by rw [eM40]; exact mu_s _ _ _
  have k42 := (congrFun eM40 la).trans (mu_g k36 (Ne.symm d_h_la))
  have k43 := (congrFun eM40 lb).trans (mu_g k37 (Ne.symm d_h_lb))
  have k44 := (congrFun eM40 nb).trans (mu_g k38 (Ne.symm d_h_nb))
  have f45 : ∀ b e, M b = some e → b ≠ h → M40 b = some e := fun b e hb hne => (congrFun eM40 b).trans (mu_g (f39 b e hb hne) hne)
  exact m_vret X hK hw hS ⟨la, lb, nb, zla, zlb, znb, d_la_lb, k41, k42, k43, k44, f45⟩ (by omega) (by omega) dX4_init_37
set_option maxHeartbeats 4000000 in
set_option maxRecDepth 100000 in
theorem c_X5_init (l : Launch) (G : gG) (dce sz : Nat) (M : gM) (h : Nat) (hv : M h = some (.inr (6, [.null, .null]))) : mV l yX5_init wsX5_init ({ frames := 4, cells := 2, slots := 7, locals := 72 }) G dce sz M [.ref h] (fun M' => ∃ lp nr, M lp = none ∧ M nr = none ∧ M' h = some (oT lp nr) ∧ M' lp = some (oL 0 dce 0) ∧ M' nr = some (eR v0R) ∧ ∀ b e, M b = some e → b ≠ h → M' b = some e) (2) (7) := by
  refine wMet (Qc := QV G _) (cc := cX5_init) (maxL := 1) (ret := none) (by decide) rfl (Nat.le_of_ble_eq_true rfl) ?_
  intro p e s m below meth c A ls X hnm hw hK hZ hA hS hsz eA hl
  obtain ⟨hx, hb, hr, hts, hown, hlk, hml⟩ := id X
  have hl : lv_has ls 1 [(0, .ref h)] := hl
  have hin : meth.name = "<init>" := hnm
  have iJx4a65c : ∀ w ∈ wsJx4a65c0, w ∈ wsX5_init := by decide +kernel
  have iX3 : ∀ w ∈ wsX30, w ∈ wsX5_init := by decide +kernel
  have iX5 : ∀ w ∈ wsX50, w ∈ wsX5_init := by decide +kernel
  have f0 : ∀ b e, M b = some e → b ≠ h → M b = some e := fun _ _ h _ => h
  refine lv_aload_n hx hb dX5_init_0 rfl (lv_at hl 0 rfl) ?_
  refine W.objInit hx hb hown (hts (.methodLink RX5 1 objectInit) (by decide +kernel)) (hts (.instanceMethod objectInit) (by decide +kernel)) (hts (.code objectInit ⟨#[0xb1]⟩ 1 none) (by decide +kernel)) rfl (by rw [hml]; exact hl.1) rfl dX5_init_1 (Nat.le_of_ble_eq_true rfl) (Nat.le_of_ble_eq_true rfl) ?_
  refine W.eq (g2 := F0 m 4 ls []) rfl ?_
  refine lv_aload_n hx hb dX5_init_4 rfl (lv_at hl 0 rfl) ?_
  refine m_new X iJx4a65c tyJx4a65c_ok (ci := 0) (by decide +kernel) (by decide +kernel) (by decide +kernel) hK hw hS hA rfl (fs := [.int 0, .null, .int 0]) rfl (Nat.le_of_ble_eq_true rfl) (Nat.le_of_ble_eq_true rfl) dX5_init_5 (fun lp M1 H nlp eM1 hw hS => ?_)
  have d_h_lp : h ≠ lp := gM_nn nlp hv
  have k2 := (congrFun eM1 h).trans (mu_g hv d_h_lp)
  have k3 : M1 lp = some (.inr (0, [.int 0, .null, .int 0])) := by rw [eM1]; exact mu_s _ _ _
  have f4 : ∀ b e, M b = some e → b ≠ h → M1 b = some e := fun b e hb hne => (congrFun eM1 b).trans (mu_g (f0 b e hb hne) (gM_nn nlp (f0 b e hb hne)))
  have zlp : M lp = none := fr_none f0 nlp hv
  refine lv_dup hx hb dX5_init_8 rfl ?_
  refine m_callIv (ret9 := none) X hK hw hZ hS hA (As := []) (rest := [.ref lp, .ref h]) (c_Jx4a65c_init_da8c8 l G dce _ M1 lp k3) (cwI 0 hts gX5_init_Jx4a65c_init_da8c8 rfl rfl rfl (hts (.initialized RJx4a65c) (by decide +kernel)) (hts (.methodLink RX5 9 yJx4a65c_init_da8c8) (by decide +kernel)) (hts (.instanceMethod yJx4a65c_init_da8c8) (by decide +kernel)) rfl (by decide +kernel) ⟨Nat.le_of_ble_eq_true rfl, Nat.le_of_ble_eq_true rfl⟩) rfl hl.1 rfl (Nat.le_of_ble_eq_true rfl) dX5_init_9 (Nat.le_of_ble_eq_true rfl) (Nat.le_of_ble_eq_true rfl) (fun M5 H locs hp hw hS hz hk => ?_)
  have eM5 := hp
  have k6 := (congrFun eM5 h).trans (mu_g k2 d_h_lp)
  have k7 : M5 lp = some (.inr (0, [.int 0, .ref dce, .int 0])) := by rw [eM5]; exact mu_s _ _ _
  have f8 : ∀ b e, M b = some e → b ≠ h → M5 b = some e := fun b e hb hne => (congrFun eM5 b).trans (mu_g (f4 b e hb hne) (gM_nn nlp (f0 b e hb hne)))
  refine m_putF X iX5 tyX5_ok nmX5 hK hw hS k6 rfl 0 (by decide) (ref := "ObjectMapper$Table") (by decide +kernel) (Or.inl rfl) rfl hin rfl (v := .ref lp) rfl rfl (Nat.le_of_ble_eq_true rfl) (fs1 := [.ref lp, .null]) rfl dX5_init_12 (fun M9 H locs eM9 hw hS => ?_)
  have k10 : M9 h = some (.inr (6, [.ref lp, .null])) := by rw [eM9]; exact mu_s _ _ _
  have k11 := (congrFun eM9 lp).trans (mu_g k7 (Ne.symm d_h_lp))
  have f12 : ∀ b e, M b = some e → b ≠ h → M9 b = some e := fun b e hb hne => (congrFun eM9 b).trans (mu_g (f8 b e hb hne) hne)
  refine lv_aload_n hx hb dX5_init_15 rfl (lv_at hl 0 rfl) ?_
  refine m_new X iX3 tyX3_ok (ci := 4) (by decide +kernel) (by decide +kernel) (by decide +kernel) hK hw hS hA rfl (fs := [.int 0, .int 0, .int 0, .int 0]) rfl (Nat.le_of_ble_eq_true rfl) (Nat.le_of_ble_eq_true rfl) dX5_init_16 (fun nr M13 H nnr eM13 hw hS => ?_)
  have d_h_nr : h ≠ nr := gM_nn nnr k10
  have k14 := (congrFun eM13 h).trans (mu_g k10 d_h_nr)
  have d_lp_nr : lp ≠ nr := gM_nn nnr k11
  have k15 := (congrFun eM13 lp).trans (mu_g k11 d_lp_nr)
  have k16 : M13 nr = some (.inr (4, [.int 0, .int 0, .int 0, .int 0])) := by rw [eM13]; exact mu_s _ _ _
  have f17 : ∀ b e, M b = some e → b ≠ h → M13 b = some e := fun b e hb hne => (congrFun eM13 b).trans (mu_g (f12 b e hb hne) (gM_nn nnr (f12 b e hb hne)))
  have znr : M nr = none := fr_none f12 nnr k10
  refine lv_dup hx hb dX5_init_19 rfl ?_
  refine m_callNIv (ret9 := none) X hK hw hZ hS hA (As := []) (rest := [.ref nr, .ref h]) (c_X3_init l G dce _ M13 nr k16) ⟨va_cnB 0 hts gX5_init_X3_init_n18 rfl rfl rfl (hZ.2.2.2.2.2.2.2.2.2.1 (RX5, 18, yX3_init, RX6) (by decide +kernel)) (hts (.initialized RX3) (by decide +kernel)) (by decide +kernel) ⟨Nat.le_of_ble_eq_true rfl, Nat.le_of_ble_eq_true rfl⟩, rfl, hts (.instanceMethod yX3_init) (by decide +kernel)⟩ rfl hl.1 rfl (Nat.le_of_ble_eq_true rfl) dX5_init_20 (Nat.le_of_ble_eq_true rfl) (Nat.le_of_ble_eq_true rfl) (fun M18 H locs hp hw hS hz hk => ?_)
  have eM18 := hp
  have k19 := (congrFun eM18 h).trans (mu_g k14 d_h_nr)
  have k20 := (congrFun eM18 lp).trans (mu_g k15 d_lp_nr)
  have k21 : M18 nr = some (.inr (4, [.int (bI false), .int 0, .int (-1), .int 0])) := by rw [eM18]; exact mu_s _ _ _
  have f22 : ∀ b e, M b = some e → b ≠ h → M18 b = some e := fun b e hb hne => (congrFun eM18 b).trans (mu_g (f17 b e hb hne) (gM_nn nnr (f12 b e hb hne)))
  refine m_putF X iX5 tyX5_ok nmX5 hK hw hS k19 rfl 1 (by decide) (ref := "ObjectMapper$Table") (by decide +kernel) (Or.inl rfl) rfl hin rfl (v := .ref nr) rfl rfl (Nat.le_of_ble_eq_true rfl) (fs1 := [.ref lp, .ref nr]) rfl dX5_init_23 (fun M23 H locs eM23 hw hS => ?_)
  have k24 : M23 h = some (.inr (6, [.ref lp, .ref nr])) := by rw [eM23]; exact mu_s _ _ _
  have k25 := (congrFun eM23 lp).trans (mu_g k20 (Ne.symm d_h_lp))
  have k26 := (congrFun eM23 nr).trans (mu_g k21 (Ne.symm d_h_nr))
  have f27 : ∀ b e, M b = some e → b ≠ h → M23 b = some e := fun b e hb hne => (congrFun eM23 b).trans (mu_g (f22 b e hb hne) hne)
  exact m_vret X hK hw hS ⟨lp, nr, zlp, znr, k24, k25, k26, f27⟩ (by omega) (by omega) dX5_init_26
set_option maxHeartbeats 4000000 in
set_option maxRecDepth 100000 in
theorem c_X2_init (l : Launch) (G : gG) (dce sz : Nat) (M : gM) (h : Nat) (hv : M h = some (.inr (3, [.int 0, .null, .null]))) : mV l yX2_init wsX2_init ({ frames := 1, cells := 2, slots := 128, locals := 12 }) G dce sz M [.ref h] (fun M' => ∃ ja jr, M ja = none ∧ M jr = none ∧ ja ≠ jr ∧ M' h = some (oJ 0 ja jr) ∧ M' ja = some (oI G 64 (fun _ => 0)) ∧ M' jr = some (oI G 64 (fun _ => 0)) ∧ ∀ b e, M b = some e → b ≠ h → M' b = some e) (2) (128) := by
  refine wMet (Qc := QV G _) (cc := cX2_init) (maxL := 1) (ret := none) (by decide) rfl (Nat.le_of_ble_eq_true rfl) ?_
  intro p e s m below meth c A ls X hnm hw hK hZ hA hS hsz eA hl
  obtain ⟨hx, hb, hr, hts, hown, hlk, hml⟩ := id X
  have hl : lv_has ls 1 [(0, .ref h)] := hl
  have hin : meth.name = "<init>" := hnm
  have iX2 : ∀ w ∈ wsX20, w ∈ wsX2_init := by decide +kernel
  have f0 : ∀ b e, M b = some e → b ≠ h → M b = some e := fun _ _ h _ => h
  refine lv_aload_n hx hb dX2_init_0 rfl (lv_at hl 0 rfl) ?_
  refine W.objInit hx hb hown (hts (.methodLink RX2 3 objectInit) (by decide +kernel)) (hts (.instanceMethod objectInit) (by decide +kernel)) (hts (.code objectInit ⟨#[0xb1]⟩ 1 none) (by decide +kernel)) rfl (by rw [hml]; exact hl.1) rfl dX2_init_1 (Nat.le_of_ble_eq_true rfl) (Nat.le_of_ble_eq_true rfl) ?_
  refine W.eq (g2 := F0 m 4 ls []) rfl ?_
  refine lv_aload_n hx hb dX2_init_4 rfl (lv_at hl 0 rfl) ?_
  refine lv_bipush (v := 64) hx hb dX2_init_5 (by decide) ?_
  refine m_newa_int X (by decide +kernel) hK hw hS hA (N' := 64) (by decide) (by decide) (by decide) (Nat.le_of_ble_eq_true rfl) (Nat.le_of_ble_eq_true rfl) dX2_init_7 (fun ja M1 H nja eM1 hw hS => ?_)
  have d_h_ja : h ≠ ja := gM_nn nja hv
  have k2 := (congrFun eM1 h).trans (mu_g hv d_h_ja)
  have k3 : M1 ja = some (.inl (G.2 0, 64, .inl (fun _ => 0))) := by rw [eM1]; exact mu_s _ _ _
  have f4 : ∀ b e, M b = some e → b ≠ h → M1 b = some e := fun b e hb hne => (congrFun eM1 b).trans (mu_g (f0 b e hb hne) (gM_nn nja (f0 b e hb hne)))
  have zja : M ja = none := fr_none f0 nja hv
  refine m_put X iX2 tyX2_ok nmX2 hK hw hS k2 rfl 1 (by decide) (ref := "ObjectMapper$Journal") (by decide +kernel) (Or.inl rfl) rfl (v := .ref ja) rfl rfl (Nat.le_of_ble_eq_true rfl) (fs1 := [.int 0, .ref ja, .null]) rfl dX2_init_9 (fun M5 H locs eM5 hw hS => ?_)
  have k6 : M5 h = some (.inr (3, [.int 0, .ref ja, .null])) := by rw [eM5]; exact mu_s _ _ _
  have k7 := (congrFun eM5 ja).trans (mu_g k3 (Ne.symm d_h_ja))
  have f8 : ∀ b e, M b = some e → b ≠ h → M5 b = some e := fun b e hb hne => (congrFun eM5 b).trans (mu_g (f4 b e hb hne) hne)
  refine lv_aload_n hx hb dX2_init_12 rfl (lv_at hl 0 rfl) ?_
  refine lv_bipush (v := 64) hx hb dX2_init_13 (by decide) ?_
  refine m_newa_int X (by decide +kernel) hK hw hS hA (N' := 64) (by decide) (by decide) (by decide) (Nat.le_of_ble_eq_true rfl) (Nat.le_of_ble_eq_true rfl) dX2_init_15 (fun jr M9 H njr eM9 hw hS => ?_)
  have d_h_jr : h ≠ jr := gM_nn njr k6
  have k10 := (congrFun eM9 h).trans (mu_g k6 d_h_jr)
  have d_ja_jr : ja ≠ jr := gM_nn njr k7
  have k11 := (congrFun eM9 ja).trans (mu_g k7 d_ja_jr)
  have k12 : M9 jr = some (.inl (G.2 0, 64, .inl (fun _ => 0))) := by rw [eM9]; exact mu_s _ _ _
  have f13 : ∀ b e, M b = some e → b ≠ h → M9 b = some e := fun b e hb hne => (congrFun eM9 b).trans (mu_g (f8 b e hb hne) (gM_nn njr (f8 b e hb hne)))
  have zjr : M jr = none := fr_none f8 njr k6
  refine m_put X iX2 tyX2_ok nmX2 hK hw hS k10 rfl 2 (by decide) (ref := "ObjectMapper$Journal") (by decide +kernel) (Or.inl rfl) rfl (v := .ref jr) rfl rfl (Nat.le_of_ble_eq_true rfl) (fs1 := [.int 0, .ref ja, .ref jr]) rfl dX2_init_17 (fun M14 H locs eM14 hw hS => ?_)
  have k15 : M14 h = some (.inr (3, [.int 0, .ref ja, .ref jr])) := by rw [eM14]; exact mu_s _ _ _
  have k16 := (congrFun eM14 ja).trans (mu_g k11 (Ne.symm d_h_ja))
  have k17 := (congrFun eM14 jr).trans (mu_g k12 (Ne.symm d_h_jr))
  have f18 : ∀ b e, M b = some e → b ≠ h → M14 b = some e := fun b e hb hne => (congrFun eM14 b).trans (mu_g (f13 b e hb hne) hne)
  exact m_vret X hK hw hS ⟨ja, jr, zja, zjr, d_ja_jr, k15, k16, k17, f18⟩ (by omega) (by omega) dX2_init_20
set_option maxHeartbeats 4000000 in
set_option maxRecDepth 100000 in
theorem c_X4_addPlace_0 (l : Launch) (G : gG) (dce sz : Nat) (M : gM) (hs la lb nb : Nat) (hv : M hs = some (oS la lb nb)) (kd : Int32) (mc : Int32) (hli : M (if kd = 0 then la else lb) = some (oL mc dce 0)) : mV l yX4_addPlace wsX4_addPlace ({ frames := 5, cells := 2, slots := 18, locals := 102 }) G dce sz M [.ref hs, .int kd] (fun M' => (∃ q a, M q = none ∧ M a = none ∧ M' (if kd = 0 then la else lb) = some (oL (mc + 1) q 1) ∧ M' q = some (oA G 10 (va_up (fun _ => none) 0 (some a))) ∧ M' a = some (eE v0E)) ∧ ∀ b e, M b = some e → b ≠ (if kd = 0 then la else lb) → M' b = some e) (2) (18) := by
  have hv : M hs = some (.inr (5, [.ref la, .ref lb, .ref nb])) := hv
  have hli : M (if kd = 0 then la else lb) = some (.inr (0, [.int mc, .ref dce, .int 0])) := hli
  refine wMet (Qc := QV G _) (cc := cX4_addPlace) (maxL := 2) (ret := none) (by decide) rfl (Nat.le_of_ble_eq_true rfl) ?_
  intro p e s m below meth c A ls X hnm hw hK hZ hA hS hsz eA hl
  obtain ⟨hx, hb, hr, hts, hown, hlk, hml⟩ := id X
  have hl : lv_has ls 2 [(0, .ref hs), (1, .int kd)] := hl
  have iX0 : ∀ w ∈ wsX00, w ∈ wsX4_addPlace := by decide +kernel
  have f0 : ∀ b e, M b = some e → b ≠ (if kd = 0 then la else lb) → M b = some e := fun _ _ h _ => h
  refine lv_aload_n hx hb dX4_addPlace_0 rfl (lv_at hl 0 rfl) ?_
  refine lv_iload_n hx hb dX4_addPlace_1 rfl (lv_at hl 1 rfl) ?_
  refine m_callVr X (ci := 5) rfl hv hK hw hZ hS hA (As := [.int kd]) (rest := []) (c_X4_listOf l G dce _ M hs la lb nb hv kd) (cwV 1 hts gX4_addPlace_X4_listOf rfl rfl rfl (by decide +kernel) ⟨Nat.le_of_ble_eq_true rfl, Nat.le_of_ble_eq_true rfl⟩) rfl hl.1 rfl (Nat.le_of_ble_eq_true rfl) dX4_addPlace_2 (Nat.le_of_ble_eq_true rfl) (Nat.le_of_ble_eq_true rfl) (fun r2 M1 H locs hp hw hS hz hk => ?_)
  rw [hp.2] at hw
  rw [hp.1]
  refine m_new X iX0 tyX0_ok (ci := 1) (by decide +kernel) (by decide +kernel) (by decide +kernel) hK hw hS hA rfl (fs := [.int 0, .int 0, .int 0, .int 0, .int 0, .int 0, .int 0, .int 0]) rfl (Nat.le_of_ble_eq_true rfl) (Nat.le_of_ble_eq_true rfl) dX4_addPlace_5 (fun q9 M3 H nq9 eM3 hw hS => ?_)
  have d_hs_q9 : hs ≠ q9 := gM_nn nq9 hv
  have k4 := (congrFun eM3 hs).trans (mu_g hv d_hs_q9)
  have d6 : (if kd = 0 then la else lb) ≠ q9 := gM_nn nq9 hli
  have k5 := (congrFun eM3 ((if kd = 0 then la else lb))).trans (mu_g hli d6)
  have k7 : M3 q9 = some (.inr (1, [.int 0, .int 0, .int 0, .int 0, .int 0, .int 0, .int 0, .int 0])) := by rw [eM3]; exact mu_s _ _ _
  have f8 : ∀ b e, M b = some e → b ≠ (if kd = 0 then la else lb) → M3 b = some e := fun b e hb hne => (congrFun eM3 b).trans (mu_g (f0 b e hb hne) (gM_nn nq9 (f0 b e hb hne)))
  have zq9 : M q9 = none := fr_none f0 nq9 hli
  refine lv_dup hx hb dX4_addPlace_8 rfl ?_
  refine m_callNIv (ret9 := none) X hK hw hZ hS hA (As := []) (rest := [.ref q9, .ref (if kd = 0 then la else lb)]) (c_X0_init l G dce _ M3 q9 k7) ⟨va_cnB 0 hts gX4_addPlace_X0_init_n23 rfl rfl rfl (hZ.2.2.2.2.2.2.2.2.2.1 (RX4, 23, yX0_init, RX6) (by decide +kernel)) (hts (.initialized RX0) (by decide +kernel)) (by decide +kernel) ⟨Nat.le_of_ble_eq_true rfl, Nat.le_of_ble_eq_true rfl⟩, rfl, hts (.instanceMethod yX0_init) (by decide +kernel)⟩ rfl hl.1 rfl (Nat.le_of_ble_eq_true rfl) dX4_addPlace_9 (Nat.le_of_ble_eq_true rfl) (Nat.le_of_ble_eq_true rfl) (fun M9 H locs hp hw hS hz hk => ?_)
  have eM9 := hp
  have k10 := (congrFun eM9 hs).trans (mu_g k4 d_hs_q9)
  have k11 := (congrFun eM9 ((if kd = 0 then la else lb))).trans (mu_g k5 d6)
  have k12 : M9 q9 = some (.inr (1, [.int (bI false), .int (bI false), .int (bI false), .int 0, .int (-1), .int 0, .int 0, .int 0])) := by rw [eM9]; exact mu_s _ _ _
  have f13 : ∀ b e, M b = some e → b ≠ (if kd = 0 then la else lb) → M9 b = some e := fun b e hb hne => (congrFun eM9 b).trans (mu_g (f8 b e hb hne) (gM_nn nq9 (f0 b e hb hne)))
  refine m_callVi X (ci := 0) rfl k11 hK hw hZ hS hA (As := [.ref q9]) (rest := []) (c_Jx4a65c_add_9ea2d l G dce _ M9 (if kd = 0 then la else lb) q9 1 8 RX0 TX0 _ mc k11 k12 rfl (by decide) (by decide)) (cwV 1 hts gX4_addPlace_Jx4a65c_add_9ea2d rfl rfl rfl (by decide +kernel) ⟨Nat.le_of_ble_eq_true rfl, Nat.le_of_ble_eq_true rfl⟩) rfl hl.1 rfl (Nat.le_of_ble_eq_true rfl) dX4_addPlace_12 (Nat.le_of_ble_eq_true rfl) (Nat.le_of_ble_eq_true rfl) (fun r15 M14 H locs hp hw hS hz hk => ?_)
  refine lv_pop hx hb dX4_addPlace_15 rfl ?_
  obtain ⟨-, q, nq, eMq⟩ := hp
  have dLq : (if kd = 0 then la else lb) ≠ q := gM_nn nq k11
  have daq : q9 ≠ q := gM_nn nq k12
  have daL : q9 ≠ (if kd = 0 then la else lb) := gM_ne k12 k11 (by simp)
  exact m_vret X hK hw hS ⟨⟨q, q9, fr_none f13 nq k11, zq9, by rw [eMq]; exact mu_s _ _ _, by rw [eMq, mu_n (Ne.symm dLq)]; exact mu_s _ _ _, by rw [eMq, mu_n daL, mu_n daq]; exact k12⟩, fun b e hb hne => by rw [eMq, mu_n hne, mu_n (gM_nn nq (f13 b e hb (fun q => hne q)))]; exact f13 b e hb hne⟩ (by omega) (by omega) dX4_addPlace_16
set_option maxHeartbeats 4000000 in
set_option maxRecDepth 100000 in
theorem c_X5_addPlace_0 (l : Launch) (G : gG) (dce sz : Nat) (M : gM) (ht lp nr : Nat) (hv : M ht = some (oT lp nr)) (mc : Int32) (hli : M lp = some (oL mc dce 0)) : mV l yX5_addPlace wsX5_addPlace ({ frames := 5, cells := 2, slots := 14, locals := 102 }) G dce sz M [.ref ht] (fun M' => (∃ q a, M q = none ∧ M a = none ∧ M' lp = some (oL (mc + 1) q 1) ∧ M' q = some (oA G 10 (va_up (fun _ => none) 0 (some a))) ∧ M' a = some (eR v0R)) ∧ ∀ b e, M b = some e → b ≠ lp → M' b = some e) (2) (14) := by
  have hv : M ht = some (.inr (6, [.ref lp, .ref nr])) := hv
  have hli : M lp = some (.inr (0, [.int mc, .ref dce, .int 0])) := hli
  refine wMet (Qc := QV G _) (cc := cX5_addPlace) (maxL := 1) (ret := none) (by decide) rfl (Nat.le_of_ble_eq_true rfl) ?_
  intro p e s m below meth c A ls X hnm hw hK hZ hA hS hsz eA hl
  obtain ⟨hx, hb, hr, hts, hown, hlk, hml⟩ := id X
  have hl : lv_has ls 1 [(0, .ref ht)] := hl
  have iX3 : ∀ w ∈ wsX30, w ∈ wsX5_addPlace := by decide +kernel
  have iX5 : ∀ w ∈ wsX50, w ∈ wsX5_addPlace := by decide +kernel
  have f0 : ∀ b e, M b = some e → b ≠ lp → M b = some e := fun _ _ h _ => h
  refine lv_aload_n hx hb dX5_addPlace_0 rfl (lv_at hl 0 rfl) ?_
  refine m_get X iX5 hK hw hv rfl 0 (by decide) (ref := "ObjectMapper$Table") (by decide +kernel) (Or.inl rfl) rfl dX5_addPlace_1 ?_
  refine m_new X iX3 tyX3_ok (ci := 4) (by decide +kernel) (by decide +kernel) (by decide +kernel) hK hw hS hA rfl (fs := [.int 0, .int 0, .int 0, .int 0]) rfl (Nat.le_of_ble_eq_true rfl) (Nat.le_of_ble_eq_true rfl) dX5_addPlace_4 (fun q9 M1 H nq9 eM1 hw hS => ?_)
  have d_ht_q9 : ht ≠ q9 := gM_nn nq9 hv
  have k2 := (congrFun eM1 ht).trans (mu_g hv d_ht_q9)
  have d_lp_q9 : lp ≠ q9 := gM_nn nq9 hli
  have k3 := (congrFun eM1 lp).trans (mu_g hli d_lp_q9)
  have k4 : M1 q9 = some (.inr (4, [.int 0, .int 0, .int 0, .int 0])) := by rw [eM1]; exact mu_s _ _ _
  have f5 : ∀ b e, M b = some e → b ≠ lp → M1 b = some e := fun b e hb hne => (congrFun eM1 b).trans (mu_g (f0 b e hb hne) (gM_nn nq9 (f0 b e hb hne)))
  have zq9 : M q9 = none := fr_none f0 nq9 hli
  refine lv_dup hx hb dX5_addPlace_7 rfl ?_
  refine m_callNIv (ret9 := none) X hK hw hZ hS hA (As := []) (rest := [.ref q9, .ref lp]) (c_X3_init l G dce _ M1 q9 k4) ⟨va_cnB 0 hts gX5_addPlace_X3_init_n18 rfl rfl rfl (hZ.2.2.2.2.2.2.2.2.2.1 (RX5, 18, yX3_init, RX6) (by decide +kernel)) (hts (.initialized RX3) (by decide +kernel)) (by decide +kernel) ⟨Nat.le_of_ble_eq_true rfl, Nat.le_of_ble_eq_true rfl⟩, rfl, hts (.instanceMethod yX3_init) (by decide +kernel)⟩ rfl hl.1 rfl (Nat.le_of_ble_eq_true rfl) dX5_addPlace_8 (Nat.le_of_ble_eq_true rfl) (Nat.le_of_ble_eq_true rfl) (fun M6 H locs hp hw hS hz hk => ?_)
  have eM6 := hp
  have k7 := (congrFun eM6 ht).trans (mu_g k2 d_ht_q9)
  have k8 := (congrFun eM6 lp).trans (mu_g k3 d_lp_q9)
  have k9 : M6 q9 = some (.inr (4, [.int (bI false), .int 0, .int (-1), .int 0])) := by rw [eM6]; exact mu_s _ _ _
  have f10 : ∀ b e, M b = some e → b ≠ lp → M6 b = some e := fun b e hb hne => (congrFun eM6 b).trans (mu_g (f5 b e hb hne) (gM_nn nq9 (f0 b e hb hne)))
  refine m_callVi X (ci := 0) rfl k8 hK hw hZ hS hA (As := [.ref q9]) (rest := []) (c_Jx4a65c_add_9ea2d l G dce _ M6 lp q9 4 4 RX3 TX3 _ mc k8 k9 rfl (by decide) (by decide)) (cwV 1 hts gX5_addPlace_Jx4a65c_add_9ea2d rfl rfl rfl (by decide +kernel) ⟨Nat.le_of_ble_eq_true rfl, Nat.le_of_ble_eq_true rfl⟩) rfl hl.1 rfl (Nat.le_of_ble_eq_true rfl) dX5_addPlace_11 (Nat.le_of_ble_eq_true rfl) (Nat.le_of_ble_eq_true rfl) (fun r12 M11 H locs hp hw hS hz hk => ?_)
  refine lv_pop hx hb dX5_addPlace_14 rfl ?_
  obtain ⟨-, q, nq, eMq⟩ := hp
  have dLq : lp ≠ q := gM_nn nq k8
  have daq : q9 ≠ q := gM_nn nq k9
  have daL : q9 ≠ lp := gM_ne k9 k8 (by simp)
  exact m_vret X hK hw hS ⟨⟨q, q9, fr_none f10 nq k8, zq9, by rw [eMq]; exact mu_s _ _ _, by rw [eMq, mu_n (Ne.symm dLq)]; exact mu_s _ _ _, by rw [eMq, mu_n daL, mu_n daq]; exact k9⟩, fun b e hb hne => by rw [eMq, mu_n hne, mu_n (gM_nn nq (f10 b e hb (fun q => hne q)))]; exact f10 b e hb hne⟩ (by omega) (by omega) dX5_addPlace_15
