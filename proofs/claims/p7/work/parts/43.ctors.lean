set_option maxHeartbeats 4000000 in
set_option maxRecDepth 100000 in
theorem c_X4_init (l : Launch) (G : gG) (dce sz : Nat) (M : gM) (h : Nat) (hv : M h = some (.inr (5, [.null, .null, .null]))) : mV l yX4_init wsX4_init ({ frames := 4, cells := 3, slots := 14, locals := 72 }) G dce sz M [.ref h] (fun M' => ∃ la lb nb, M la = none ∧ M lb = none ∧ M nb = none ∧ la ≠ lb ∧ M' h = some (oS la lb nb) ∧ M' la = some (oL 0 dce 0) ∧ M' lb = some (oL 0 dce 0) ∧ M' nb = some (eE v0E) ∧ ∀ b e, M b = some e → b ≠ h → M' b = some e) (3) (14) := by
  refine wMet (Qc := QV G _) (cc := cX4_init) (maxL := 1) (ret := none) (by decide) rfl (Nat.le_of_ble_eq_true rfl) ?_
  intro p e s m below meth c A ls X hnm hw hK hZ hA hS hsz eA hl
  obtain ⟨hx, hb, hr, hts, hown, hlk, hml⟩ := id X
  have hl : lv_has ls 1 [(0, .ref h)] := hl
  have hin : meth.name = "<init>" := hnm
  have iJx4a65c : ∀ w ∈ wsJx4a65c0, w ∈ wsX4_init := by decide +kernel
  have iX0 : ∀ w ∈ wsX00, w ∈ wsX4_init := by decide +kernel
  have iX4 : ∀ w ∈ wsX40, w ∈ wsX4_init := by decide +kernel
  have f0 : ∀ b e, M b = some e → b ≠ h → M b = some e := fun _ _ h _ => h
  refine lv_aload_n hx hb dX4_init_0 rfl (lv_at hl 0 rfl) ?_
  refine W.objInit hx hb hown (hts (.methodLink RX4 3 objectInit) (by decide +kernel)) (hts (.instanceMethod objectInit) (by decide +kernel)) (hts (.code objectInit ⟨#[0xb1]⟩ 1 none) (by decide +kernel)) rfl (by rw [hml]; exact hl.1) rfl dX4_init_1 (Nat.le_of_ble_eq_true rfl) (Nat.le_of_ble_eq_true rfl) ?_
  refine W.eq (g2 := F0 m 4 ls []) rfl ?_
  refine lv_aload_n hx hb dX4_init_4 rfl (lv_at hl 0 rfl) ?_
  refine m_new X iJx4a65c tyJx4a65c_ok (ci := 0) (by decide +kernel) (by decide +kernel) (by decide +kernel) hK hw hS hA rfl (fs := [.int 0, .null, .int 0]) rfl (Nat.le_of_ble_eq_true rfl) (Nat.le_of_ble_eq_true rfl) dX4_init_5 (fun la M1 H nla eM1 hw hS => ?_)
  have d_h_la : h ≠ la := gM_nn nla hv
  have k2 := (congrFun eM1 h).trans (mu_g hv d_h_la)
  have k3 : M1 la = some (.inr (0, [.int 0, .null, .int 0])) := by rw [eM1]; exact mu_s _ _ _
  have f4 : ∀ b e, M b = some e → b ≠ h → M1 b = some e := fun b e hb hne => (congrFun eM1 b).trans (mu_g (f0 b e hb hne) (gM_nn nla (f0 b e hb hne)))
  have zla : M la = none := fr_none f0 nla hv
  refine lv_dup hx hb dX4_init_8 rfl ?_
  refine m_callIv (ret9 := none) X hK hw hZ hS hA (As := []) (rest := [.ref la, .ref h]) (c_Jx4a65c_init_da8c8 l G dce _ M1 la k3) (cwI 0 hts gX4_init_Jx4a65c_init_da8c8 rfl rfl rfl (hts (.initialized RJx4a65c) (by decide +kernel)) (hts (.methodLink RX4 11 yJx4a65c_init_da8c8) (by decide +kernel)) (hts (.instanceMethod yJx4a65c_init_da8c8) (by decide +kernel)) rfl (by decide +kernel) ⟨Nat.le_of_ble_eq_true rfl, Nat.le_of_ble_eq_true rfl⟩) rfl hl.1 rfl (Nat.le_of_ble_eq_true rfl) dX4_init_9 (Nat.le_of_ble_eq_true rfl) (Nat.le_of_ble_eq_true rfl) (fun M5 H locs hp hw hS hz hk => ?_)
  have eM5 := hp
  have k6 := (congrFun eM5 h).trans (mu_g k2 d_h_la)
  have k7 : M5 la = some (.inr (0, [.int 0, .ref dce, .int 0])) := by rw [eM5]; exact mu_s _ _ _
  have f8 : ∀ b e, M b = some e → b ≠ h → M5 b = some e := fun b e hb hne => (congrFun eM5 b).trans (mu_g (f4 b e hb hne) (gM_nn nla (f0 b e hb hne)))
  refine m_putF X iX4 tyX4_ok nmX4 hK hw hS k6 rfl 0 (by decide) (ref := "ObjectMapper$Session") (by decide +kernel) (Or.inl rfl) rfl hin rfl (v := .ref la) rfl rfl (Nat.le_of_ble_eq_true rfl) (fs1 := [.ref la, .null, .null]) rfl dX4_init_12 (fun M9 H locs eM9 hw hS => ?_)
  have k10 : M9 h = some (.inr (5, [.ref la, .null, .null])) := by rw [eM9]; exact mu_s _ _ _
  have k11 := (congrFun eM9 la).trans (mu_g k7 (Ne.symm d_h_la))
  have f12 : ∀ b e, M b = some e → b ≠ h → M9 b = some e := fun b e hb hne => (congrFun eM9 b).trans (mu_g (f8 b e hb hne) hne)
  refine lv_aload_n hx hb dX4_init_15 rfl (lv_at hl 0 rfl) ?_
  refine m_new X iJx4a65c tyJx4a65c_ok (ci := 0) (by decide +kernel) (by decide +kernel) (by decide +kernel) hK hw hS hA rfl (fs := [.int 0, .null, .int 0]) rfl (Nat.le_of_ble_eq_true rfl) (Nat.le_of_ble_eq_true rfl) dX4_init_16 (fun lb M13 H nlb eM13 hw hS => ?_)
  have d_h_lb : h ≠ lb := gM_nn nlb k10
  have k14 := (congrFun eM13 h).trans (mu_g k10 d_h_lb)
  have d_la_lb : la ≠ lb := gM_nn nlb k11
  have k15 := (congrFun eM13 la).trans (mu_g k11 d_la_lb)
  have k16 : M13 lb = some (.inr (0, [.int 0, .null, .int 0])) := by rw [eM13]; exact mu_s _ _ _
  have f17 : ∀ b e, M b = some e → b ≠ h → M13 b = some e := fun b e hb hne => (congrFun eM13 b).trans (mu_g (f12 b e hb hne) (gM_nn nlb (f12 b e hb hne)))
  have zlb : M lb = none := fr_none f12 nlb k10
  refine lv_dup hx hb dX4_init_19 rfl ?_
  refine m_callIv (ret9 := none) X hK hw hZ hS hA (As := []) (rest := [.ref lb, .ref h]) (c_Jx4a65c_init_da8c8 l G dce _ M13 lb k16) (cwI 0 hts gX4_init_Jx4a65c_init_da8c8 rfl rfl rfl (hts (.initialized RJx4a65c) (by decide +kernel)) (hts (.methodLink RX4 11 yJx4a65c_init_da8c8) (by decide +kernel)) (hts (.instanceMethod yJx4a65c_init_da8c8) (by decide +kernel)) rfl (by decide +kernel) ⟨Nat.le_of_ble_eq_true rfl, Nat.le_of_ble_eq_true rfl⟩) rfl hl.1 rfl (Nat.le_of_ble_eq_true rfl) dX4_init_20 (Nat.le_of_ble_eq_true rfl) (Nat.le_of_ble_eq_true rfl) (fun M18 H locs hp hw hS hz hk => ?_)
  have eM18 := hp
  have k19 := (congrFun eM18 h).trans (mu_g k14 d_h_lb)
  have k20 := (congrFun eM18 la).trans (mu_g k15 d_la_lb)
  have k21 : M18 lb = some (.inr (0, [.int 0, .ref dce, .int 0])) := by rw [eM18]; exact mu_s _ _ _
  have f22 : ∀ b e, M b = some e → b ≠ h → M18 b = some e := fun b e hb hne => (congrFun eM18 b).trans (mu_g (f17 b e hb hne) (gM_nn nlb (f12 b e hb hne)))
  refine m_putF X iX4 tyX4_ok nmX4 hK hw hS k19 rfl 1 (by decide) (ref := "ObjectMapper$Session") (by decide +kernel) (Or.inl rfl) rfl hin rfl (v := .ref lb) rfl rfl (Nat.le_of_ble_eq_true rfl) (fs1 := [.ref la, .ref lb, .null]) rfl dX4_init_23 (fun M23 H locs eM23 hw hS => ?_)
  have k24 : M23 h = some (.inr (5, [.ref la, .ref lb, .null])) := by rw [eM23]; exact mu_s _ _ _
  have k25 := (congrFun eM23 la).trans (mu_g k20 (Ne.symm d_h_la))
  have k26 := (congrFun eM23 lb).trans (mu_g k21 (Ne.symm d_h_lb))
  have f27 : ∀ b e, M b = some e → b ≠ h → M23 b = some e := fun b e hb hne => (congrFun eM23 b).trans (mu_g (f22 b e hb hne) hne)
  refine lv_aload_n hx hb dX4_init_26 rfl (lv_at hl 0 rfl) ?_
  refine m_new X iX0 tyX0_ok (ci := 1) (by decide +kernel) (by decide +kernel) (by decide +kernel) hK hw hS hA rfl (fs := [.int 0, .int 0, .int 0, .int 0, .int 0, .int 0, .int 0, .int 0]) rfl (Nat.le_of_ble_eq_true rfl) (Nat.le_of_ble_eq_true rfl) dX4_init_27 (fun nb M28 H nnb eM28 hw hS => ?_)
  have d_h_nb : h ≠ nb := gM_nn nnb k24
  have k29 := (congrFun eM28 h).trans (mu_g k24 d_h_nb)
  have d_la_nb : la ≠ nb := gM_nn nnb k25
  have k30 := (congrFun eM28 la).trans (mu_g k25 d_la_nb)
  have d_lb_nb : lb ≠ nb := gM_nn nnb k26
  have k31 := (congrFun eM28 lb).trans (mu_g k26 d_lb_nb)
  have k32 : M28 nb = some (.inr (1, [.int 0, .int 0, .int 0, .int 0, .int 0, .int 0, .int 0, .int 0])) := by rw [eM28]; exact mu_s _ _ _
  have f33 : ∀ b e, M b = some e → b ≠ h → M28 b = some e := fun b e hb hne => (congrFun eM28 b).trans (mu_g (f27 b e hb hne) (gM_nn nnb (f27 b e hb hne)))
  have znb : M nb = none := fr_none f27 nnb k24
  refine lv_dup hx hb dX4_init_30 rfl ?_
  refine m_callNIv (ret9 := none) X hK hw hZ hS hA (As := []) (rest := [.ref nb, .ref h]) (c_X0_init l G dce _ M28 nb k32) ⟨va_cnB 0 hts gX4_init_X0_init_n23 rfl rfl rfl (hZ.2.2.2.2.2.2.2.2.2.1 (RX4, 23, yX0_init, RX6) (by decide +kernel)) (hts (.initialized RX0) (by decide +kernel)) (by decide +kernel) ⟨Nat.le_of_ble_eq_true rfl, Nat.le_of_ble_eq_true rfl⟩, rfl, hts (.instanceMethod yX0_init) (by decide +kernel)⟩ rfl hl.1 rfl (Nat.le_of_ble_eq_true rfl) dX4_init_31 (Nat.le_of_ble_eq_true rfl) (Nat.le_of_ble_eq_true rfl) (fun M34 H locs hp hw hS hz hk => ?_)
  have eM34 := hp
  have k35 := (congrFun eM34 h).trans (mu_g k29 d_h_nb)
  have k36 := (congrFun eM34 la).trans (mu_g k30 d_la_nb)
  have k37 := (congrFun eM34 lb).trans (mu_g k31 d_lb_nb)
  have k38 : M34 nb = some (.inr (1, [.int (bI false), .int (bI false), .int (bI false), .int 0, .int (-1), .int 0, .int 0, .int 0])) := by rw [eM34]; exact mu_s _ _ _
  have f39 : ∀ b e, M b = some e → b ≠ h → M34 b = some e := fun b e hb hne => (congrFun eM34 b).trans (mu_g (f33 b e hb hne) (gM_nn nnb (f27 b e hb hne)))
  refine m_putF X iX4 tyX4_ok nmX4 hK hw hS k35 rfl 2 (by decide) (ref := "ObjectMapper$Session") (by decide +kernel) (Or.inl rfl) rfl hin rfl (v := .ref nb) rfl rfl (Nat.le_of_ble_eq_true rfl) (fs1 := [.ref la, .ref lb, .ref nb]) rfl dX4_init_34 (fun M40 H locs eM40 hw hS => ?_)
  have k41 : M40 h = some (.inr (5, [.ref la, .ref lb, .ref nb])) := by rw [eM40]; exact mu_s _ _ _
  have k42 := (congrFun eM40 la).trans (mu_g k36 (Ne.symm d_h_la))
  have k43 := (congrFun eM40 lb).trans (mu_g k37 (Ne.symm d_h_lb))
  have k44 := (congrFun eM40 nb).trans (mu_g k38 (Ne.symm d_h_nb))
  have f45 : ∀ b e, M b = some e → b ≠ h → M40 b = some e := fun b e hb hne => (congrFun eM40 b).trans (mu_g (f39 b e hb hne) hne)
  exact m_vret X hK hw hS ⟨la, lb, nb, zla, zlb, znb, d_la_lb, k41, k42, k43, k44, f45⟩ (by omega) (by omega) dX4_init_37
set_option maxHeartbeats 4000000 in
set_option maxRecDepth 100000 in
theorem c_X5_init (l : Launch) (G : gG) (dce sz : Nat) (M : gM) (h : Nat) (hv : M h = some (.inr (6, [.null, .null]))) : mV l yX5_init wsX5_init ({ frames := 4, cells := 2, slots := 7, locals := 72 }) G dce sz M [.ref h] (fun M' => ∃ lp nr, M lp = none ∧ M nr = none ∧ M' h = some (oT lp nr) ∧ M' lp = some (oL 0 dce 0) ∧ M' nr = some (eR v0R) ∧ ∀ b e, M b = some e → b ≠ h → M' b = some e) (2) (7) := by
  refine wMet (Qc := QV G _) (cc := cX5_init) (maxL := 1) (ret := none) (by decide) rfl (Nat.le_of_ble_eq_true rfl) ?_
  intro p e s m below meth c A ls X hnm hw hK hZ hA hS hsz eA hl
  obtain ⟨hx, hb, hr, hts, hown, hlk, hml⟩ := id X
  have hl : lv_has ls 1 [(0, .ref h)] := hl
  have hin : meth.name = "<init>" := hnm
  have iJx4a65c : ∀ w ∈ wsJx4a65c0, w ∈ wsX5_init := by decide +kernel
  have iX3 : ∀ w ∈ wsX30, w ∈ wsX5_init := by decide +kernel
  have iX5 : ∀ w ∈ wsX50, w ∈ wsX5_init := by decide +kernel
  have f0 : ∀ b e, M b = some e → b ≠ h → M b = some e := fun _ _ h _ => h
  refine lv_aload_n hx hb dX5_init_0 rfl (lv_at hl 0 rfl) ?_
  refine W.objInit hx hb hown (hts (.methodLink RX5 1 objectInit) (by decide +kernel)) (hts (.instanceMethod objectInit) (by decide +kernel)) (hts (.code objectInit ⟨#[0xb1]⟩ 1 none) (by decide +kernel)) rfl (by rw [hml]; exact hl.1) rfl dX5_init_1 (Nat.le_of_ble_eq_true rfl) (Nat.le_of_ble_eq_true rfl) ?_
  refine W.eq (g2 := F0 m 4 ls []) rfl ?_
  refine lv_aload_n hx hb dX5_init_4 rfl (lv_at hl 0 rfl) ?_
  refine m_new X iJx4a65c tyJx4a65c_ok (ci := 0) (by decide +kernel) (by decide +kernel) (by decide +kernel) hK hw hS hA rfl (fs := [.int 0, .null, .int 0]) rfl (Nat.le_of_ble_eq_true rfl) (Nat.le_of_ble_eq_true rfl) dX5_init_5 (fun lp M1 H nlp eM1 hw hS => ?_)
  have d_h_lp : h ≠ lp := gM_nn nlp hv
  have k2 := (congrFun eM1 h).trans (mu_g hv d_h_lp)
  have k3 : M1 lp = some (.inr (0, [.int 0, .null, .int 0])) := by rw [eM1]; exact mu_s _ _ _
  have f4 : ∀ b e, M b = some e → b ≠ h → M1 b = some e := fun b e hb hne => (congrFun eM1 b).trans (mu_g (f0 b e hb hne) (gM_nn nlp (f0 b e hb hne)))
  have zlp : M lp = none := fr_none f0 nlp hv
  refine lv_dup hx hb dX5_init_8 rfl ?_
  refine m_callIv (ret9 := none) X hK hw hZ hS hA (As := []) (rest := [.ref lp, .ref h]) (c_Jx4a65c_init_da8c8 l G dce _ M1 lp k3) (cwI 0 hts gX5_init_Jx4a65c_init_da8c8 rfl rfl rfl (hts (.initialized RJx4a65c) (by decide +kernel)) (hts (.methodLink RX5 9 yJx4a65c_init_da8c8) (by decide +kernel)) (hts (.instanceMethod yJx4a65c_init_da8c8) (by decide +kernel)) rfl (by decide +kernel) ⟨Nat.le_of_ble_eq_true rfl, Nat.le_of_ble_eq_true rfl⟩) rfl hl.1 rfl (Nat.le_of_ble_eq_true rfl) dX5_init_9 (Nat.le_of_ble_eq_true rfl) (Nat.le_of_ble_eq_true rfl) (fun M5 H locs hp hw hS hz hk => ?_)
  have eM5 := hp
  have k6 := (congrFun eM5 h).trans (mu_g k2 d_h_lp)
  have k7 : M5 lp = some (.inr (0, [.int 0, .ref dce, .int 0])) := by rw [eM5]; exact mu_s _ _ _
  have f8 : ∀ b e, M b = some e → b ≠ h → M5 b = some e := fun b e hb hne => (congrFun eM5 b).trans (mu_g (f4 b e hb hne) (gM_nn nlp (f0 b e hb hne)))
  refine m_putF X iX5 tyX5_ok nmX5 hK hw hS k6 rfl 0 (by decide) (ref := "ObjectMapper$Table") (by decide +kernel) (Or.inl rfl) rfl hin rfl (v := .ref lp) rfl rfl (Nat.le_of_ble_eq_true rfl) (fs1 := [.ref lp, .null]) rfl dX5_init_12 (fun M9 H locs eM9 hw hS => ?_)
  have k10 : M9 h = some (.inr (6, [.ref lp, .null])) := by rw [eM9]; exact mu_s _ _ _
  have k11 := (congrFun eM9 lp).trans (mu_g k7 (Ne.symm d_h_lp))
  have f12 : ∀ b e, M b = some e → b ≠ h → M9 b = some e := fun b e hb hne => (congrFun eM9 b).trans (mu_g (f8 b e hb hne) hne)
  refine lv_aload_n hx hb dX5_init_15 rfl (lv_at hl 0 rfl) ?_
  refine m_new X iX3 tyX3_ok (ci := 4) (by decide +kernel) (by decide +kernel) (by decide +kernel) hK hw hS hA rfl (fs := [.int 0, .int 0, .int 0, .int 0]) rfl (Nat.le_of_ble_eq_true rfl) (Nat.le_of_ble_eq_true rfl) dX5_init_16 (fun nr M13 H nnr eM13 hw hS => ?_)
  have d_h_nr : h ≠ nr := gM_nn nnr k10
  have k14 := (congrFun eM13 h).trans (mu_g k10 d_h_nr)
  have d_lp_nr : lp ≠ nr := gM_nn nnr k11
  have k15 := (congrFun eM13 lp).trans (mu_g k11 d_lp_nr)
  have k16 : M13 nr = some (.inr (4, [.int 0, .int 0, .int 0, .int 0])) := by rw [eM13]; exact mu_s _ _ _
  have f17 : ∀ b e, M b = some e → b ≠ h → M13 b = some e := fun b e hb hne => (congrFun eM13 b).trans (mu_g (f12 b e hb hne) (gM_nn nnr (f12 b e hb hne)))
  have znr : M nr = none := fr_none f12 nnr k10
  refine lv_dup hx hb dX5_init_19 rfl ?_
  refine m_callNIv (ret9 := none) X hK hw hZ hS hA (As := []) (rest := [.ref nr, .ref h]) (c_X3_init l G dce _ M13 nr k16) ⟨va_cnB 0 hts gX5_init_X3_init_n18 rfl rfl rfl (hZ.2.2.2.2.2.2.2.2.2.1 (RX5, 18, yX3_init, RX6) (by decide +kernel)) (hts (.initialized RX3) (by decide +kernel)) (by decide +kernel) ⟨Nat.le_of_ble_eq_true rfl, Nat.le_of_ble_eq_true rfl⟩, rfl, hts (.instanceMethod yX3_init) (by decide +kernel)⟩ rfl hl.1 rfl (Nat.le_of_ble_eq_true rfl) dX5_init_20 (Nat.le_of_ble_eq_true rfl) (Nat.le_of_ble_eq_true rfl) (fun M18 H locs hp hw hS hz hk => ?_)
  have eM18 := hp
  have k19 := (congrFun eM18 h).trans (mu_g k14 d_h_nr)
  have k20 := (congrFun eM18 lp).trans (mu_g k15 d_lp_nr)
  have k21 : M18 nr = some (.inr (4, [.int (bI false), .int 0, .int (-1), .int 0])) := by rw [eM18]; exact mu_s _ _ _
  have f22 : ∀ b e, M b = some e → b ≠ h → M18 b = some e := fun b e hb hne => (congrFun eM18 b).trans (mu_g (f17 b e hb hne) (gM_nn nnr (f12 b e hb hne)))
  refine m_putF X iX5 tyX5_ok nmX5 hK hw hS k19 rfl 1 (by decide) (ref := "ObjectMapper$Table") (by decide +kernel) (Or.inl rfl) rfl hin rfl (v := .ref nr) rfl rfl (Nat.le_of_ble_eq_true rfl) (fs1 := [.ref lp, .ref nr]) rfl dX5_init_23 (fun M23 H locs eM23 hw hS => ?_)
  have k24 : M23 h = some (.inr (6, [.ref lp, .ref nr])) := by rw [eM23]; exact mu_s _ _ _
  have k25 := (congrFun eM23 lp).trans (mu_g k20 (Ne.symm d_h_lp))
  have k26 := (congrFun eM23 nr).trans (mu_g k21 (Ne.symm d_h_nr))
  have f27 : ∀ b e, M b = some e → b ≠ h → M23 b = some e := fun b e hb hne => (congrFun eM23 b).trans (mu_g (f22 b e hb hne) hne)
  exact m_vret X hK hw hS ⟨lp, nr, zlp, znr, k24, k25, k26, f27⟩ (by omega) (by omega) dX5_init_26
set_option maxHeartbeats 4000000 in
set_option maxRecDepth 100000 in
theorem c_X2_init (l : Launch) (G : gG) (dce sz : Nat) (M : gM) (h : Nat) (hv : M h = some (.inr (3, [.int 0, .null, .null]))) : mV l yX2_init wsX2_init ({ frames := 1, cells := 2, slots := 128, locals := 12 }) G dce sz M [.ref h] (fun M' => ∃ ja jr, M ja = none ∧ M jr = none ∧ ja ≠ jr ∧ M' h = some (oJ 0 ja jr) ∧ M' ja = some (oI G 64 (fun _ => 0)) ∧ M' jr = some (oI G 64 (fun _ => 0)) ∧ ∀ b e, M b = some e → b ≠ h → M' b = some e) (2) (128) := by
  refine wMet (Qc := QV G _) (cc := cX2_init) (maxL := 1) (ret := none) (by decide) rfl (Nat.le_of_ble_eq_true rfl) ?_
  intro p e s m below meth c A ls X hnm hw hK hZ hA hS hsz eA hl
  obtain ⟨hx, hb, hr, hts, hown, hlk, hml⟩ := id X
  have hl : lv_has ls 1 [(0, .ref h)] := hl
  have hin : meth.name = "<init>" := hnm
  have iX2 : ∀ w ∈ wsX20, w ∈ wsX2_init := by decide +kernel
  have f0 : ∀ b e, M b = some e → b ≠ h → M b = some e := fun _ _ h _ => h
  refine lv_aload_n hx hb dX2_init_0 rfl (lv_at hl 0 rfl) ?_
  refine W.objInit hx hb hown (hts (.methodLink RX2 3 objectInit) (by decide +kernel)) (hts (.instanceMethod objectInit) (by decide +kernel)) (hts (.code objectInit ⟨#[0xb1]⟩ 1 none) (by decide +kernel)) rfl (by rw [hml]; exact hl.1) rfl dX2_init_1 (Nat.le_of_ble_eq_true rfl) (Nat.le_of_ble_eq_true rfl) ?_
  refine W.eq (g2 := F0 m 4 ls []) rfl ?_
  refine lv_aload_n hx hb dX2_init_4 rfl (lv_at hl 0 rfl) ?_
  refine lv_bipush (v := 64) hx hb dX2_init_5 (by decide) ?_
  refine m_newa_int X (by decide +kernel) hK hw hS hA (N' := 64) (by decide) (by decide) (by decide) (Nat.le_of_ble_eq_true rfl) (Nat.le_of_ble_eq_true rfl) dX2_init_7 (fun ja M1 H nja eM1 hw hS => ?_)
  have d_h_ja : h ≠ ja := gM_nn nja hv
  have k2 := (congrFun eM1 h).trans (mu_g hv d_h_ja)
  have k3 : M1 ja = some (.inl (G.2 0, 64, .inl (fun _ => 0))) := by rw [eM1]; exact mu_s _ _ _
  have f4 : ∀ b e, M b = some e → b ≠ h → M1 b = some e := fun b e hb hne => (congrFun eM1 b).trans (mu_g (f0 b e hb hne) (gM_nn nja (f0 b e hb hne)))
  have zja : M ja = none := fr_none f0 nja hv
  refine m_put X iX2 tyX2_ok nmX2 hK hw hS k2 rfl 1 (by decide) (ref := "ObjectMapper$Journal") (by decide +kernel) (Or.inl rfl) rfl (v := .ref ja) rfl rfl (Nat.le_of_ble_eq_true rfl) (fs1 := [.int 0, .ref ja, .null]) rfl dX2_init_9 (fun M5 H locs eM5 hw hS => ?_)
  have k6 : M5 h = some (.inr (3, [.int 0, .ref ja, .null])) := by rw [eM5]; exact mu_s _ _ _
  have k7 := (congrFun eM5 ja).trans (mu_g k3 (Ne.symm d_h_ja))
  have f8 : ∀ b e, M b = some e → b ≠ h → M5 b = some e := fun b e hb hne => (congrFun eM5 b).trans (mu_g (f4 b e hb hne) hne)
  refine lv_aload_n hx hb dX2_init_12 rfl (lv_at hl 0 rfl) ?_
  refine lv_bipush (v := 64) hx hb dX2_init_13 (by decide) ?_
  refine m_newa_int X (by decide +kernel) hK hw hS hA (N' := 64) (by decide) (by decide) (by decide) (Nat.le_of_ble_eq_true rfl) (Nat.le_of_ble_eq_true rfl) dX2_init_15 (fun jr M9 H njr eM9 hw hS => ?_)
  have d_h_jr : h ≠ jr := gM_nn njr k6
  have k10 := (congrFun eM9 h).trans (mu_g k6 d_h_jr)
  have d_ja_jr : ja ≠ jr := gM_nn njr k7
  have k11 := (congrFun eM9 ja).trans (mu_g k7 d_ja_jr)
  have k12 : M9 jr = some (.inl (G.2 0, 64, .inl (fun _ => 0))) := by rw [eM9]; exact mu_s _ _ _
  have f13 : ∀ b e, M b = some e → b ≠ h → M9 b = some e := fun b e hb hne => (congrFun eM9 b).trans (mu_g (f8 b e hb hne) (gM_nn njr (f8 b e hb hne)))
  have zjr : M jr = none := fr_none f8 njr k6
  refine m_put X iX2 tyX2_ok nmX2 hK hw hS k10 rfl 2 (by decide) (ref := "ObjectMapper$Journal") (by decide +kernel) (Or.inl rfl) rfl (v := .ref jr) rfl rfl (Nat.le_of_ble_eq_true rfl) (fs1 := [.int 0, .ref ja, .ref jr]) rfl dX2_init_17 (fun M14 H locs eM14 hw hS => ?_)
  have k15 : M14 h = some (.inr (3, [.int 0, .ref ja, .ref jr])) := by rw [eM14]; exact mu_s _ _ _
  have k16 := (congrFun eM14 ja).trans (mu_g k11 (Ne.symm d_h_ja))
  have k17 := (congrFun eM14 jr).trans (mu_g k12 (Ne.symm d_h_jr))
  have f18 : ∀ b e, M b = some e → b ≠ h → M14 b = some e := fun b e hb hne => (congrFun eM14 b).trans (mu_g (f13 b e hb hne) hne)
  exact m_vret X hK hw hS ⟨ja, jr, zja, zjr, d_ja_jr, k15, k16, k17, f18⟩ (by omega) (by omega) dX2_init_20
/-- a mapper that nobody has asked for anything yet -/
def cS0 (G : gG) (dce : Nat) (M : gM) (x : Nat) (ad : Nat → Nat) : Prop :=
  M x = some (oX (ad 0) (ad 1) (ad 2) (ad 3)) ∧ (∀ k, k < 2 → M (ad k) = some (oT (ad (10 + k)) (ad (20 + k))) ∧ M (ad (10 + k)) = some (oL 0 dce 0) ∧ M (ad (20 + k)) = some (eR v0R)) ∧
  (∃ f : Nat → Option Nat, M (ad 3) = some (.inl (G.2 4, 3, .inr (.inr (.inr (.inr f))))) ∧ ∀ i, i < 3 → f i = some (ad (4 + i))) ∧
  (∀ i, i < 3 → M (ad (4 + i)) = some (oS (ad (12 + 2 * i)) (ad (13 + 2 * i)) (ad (40 + i))) ∧ M (ad (12 + 2 * i)) = some (oL 0 dce 0) ∧ M (ad (13 + 2 * i)) = some (oL 0 dce 0) ∧ M (ad (40 + i)) = some (eE v0E)) ∧
  (∃ fa fr : Nat → Int32, M (ad 2) = some (oJ 0 (ad 50) (ad 51)) ∧ M (ad 50) = some (oI G 64 fa) ∧ M (ad 51) = some (oI G 64 fr)) ∧
  (∀ i j, i < j → j < 8 → ad (10 + i) ≠ ad (10 + j))
set_option maxHeartbeats 4000000 in
set_option maxRecDepth 100000 in
theorem c_X6_init (l : Launch) (G : gG) (dce sz : Nat) (M : gM) (x : Nat) (hv : M x = some (.inr (7, [.null, .null, .null, .null]))) : mV l yX6_init wsX6_init ({ frames := 5, cells := 22, slots := 203, locals := 92 }) G dce sz M [.ref x] (fun M' => ∃ ad : Nat → Nat, cS0 G dce M' x ad ∧ ad 50 ≠ ad 51 ∧ dce ≠ ad 3) (22) (203) := by
  refine wMet (Qc := QV G _) (cc := cX6_init) (maxL := 2) (ret := none) (by decide) rfl (Nat.le_of_ble_eq_true rfl) ?_
  intro p e s m below meth c A ls X hnm hw hK hZ hA hS hsz eA hl
  obtain ⟨hx, hb, hr, hts, hown, hlk, hml⟩ := id X
  have hl : lv_has ls 2 [(0, .ref x)] := hl
  have hin : meth.name = "<init>" := hnm
  have iX2 : ∀ w ∈ wsX20, w ∈ wsX6_init := by decide +kernel
  have iX4 : ∀ w ∈ wsX40, w ∈ wsX6_init := by decide +kernel
  have iX5 : ∀ w ∈ wsX50, w ∈ wsX6_init := by decide +kernel
  have iX6 : ∀ w ∈ wsX60, w ∈ wsX6_init := by decide +kernel
  refine lv_aload_n hx hb dX6_init_0 rfl (lv_at hl 0 rfl) ?_
  refine W.objInit hx hb hown (hts (.methodLink RX6 1 objectInit) (by decide +kernel)) (hts (.instanceMethod objectInit) (by decide +kernel)) (hts (.code objectInit ⟨#[0xb1]⟩ 1 none) (by decide +kernel)) rfl (by rw [hml]; exact hl.1) rfl dX6_init_1 (Nat.le_of_ble_eq_true rfl) (Nat.le_of_ble_eq_true rfl) ?_
  refine W.eq (g2 := F0 m 4 ls []) rfl ?_
  refine lv_aload_n hx hb dX6_init_4 rfl (lv_at hl 0 rfl) ?_
  refine m_new X iX5 tyX5_ok (ci := 6) (by decide +kernel) (by decide +kernel) (by decide +kernel) hK hw hS hA rfl (fs := [.null, .null]) rfl (Nat.le_of_ble_eq_true rfl) (Nat.le_of_ble_eq_true rfl) dX6_init_5 (fun ta M1 H nta eM1 hw hS => ?_)
  have d_x_ta : x ≠ ta := gM_nn nta hv
  have k2 := (congrFun eM1 x).trans (mu_g hv d_x_ta)
  have k3 : M1 ta = some (.inr (6, [.null, .null])) := by rw [eM1]; exact mu_s _ _ _
  refine lv_dup hx hb dX6_init_8 rfl ?_
  refine m_callNIv (ret9 := none) X hK hw hZ hS hA (As := []) (rest := [.ref ta, .ref x]) (c_X5_init l G dce _ M1 ta k3) ⟨va_cnB 0 hts gX6_init_X5_init_n9 rfl rfl rfl (hZ.2.2.2.2.2.2.2.2.2.1 (RX6, 9, yX5_init, RX6) (by decide +kernel)) (hts (.initialized RX5) (by decide +kernel)) (by decide +kernel) ⟨Nat.le_of_ble_eq_true rfl, Nat.le_of_ble_eq_true rfl⟩, rfl, hts (.instanceMethod yX5_init) (by decide +kernel)⟩ rfl hl.1 rfl (Nat.le_of_ble_eq_true rfl) dX6_init_9 (Nat.le_of_ble_eq_true rfl) (Nat.le_of_ble_eq_true rfl) (fun M4 H locs hp hw hS hz hk => ?_)
  obtain ⟨lpa, nra, zlpa, znra, k7, k5, k6, g8⟩ := hp
  have k9 := g8 x _ k2 d_x_ta
  have k7 : M4 ta = some (.inr (6, [.ref lpa, .ref nra])) := k7
  have k5 : M4 lpa = some (.inr (0, [.int 0, .ref dce, .int 0])) := k5
  have k6 : M4 nra = some (.inr (4, [.int (bI false), .int 0, .int (-1), .int 0])) := k6
  refine m_putF X iX6 tyX6_ok nmX6 hK hw hS k9 rfl 0 (by decide) (ref := "ObjectMapper") (by decide +kernel) (Or.inl rfl) rfl hin rfl (v := .ref ta) rfl rfl (Nat.le_of_ble_eq_true rfl) (fs1 := [.ref ta, .null, .null, .null]) rfl dX6_init_12 (fun M10 H locs eM10 hw hS => ?_)
  have k11 : M10 x = some (.inr (7, [.ref ta, .null, .null, .null])) := by rw [eM10]; exact mu_s _ _ _
  have k12 := (congrFun eM10 ta).trans (mu_g k7 (Ne.symm d_x_ta))
  have k13 := (congrFun eM10 lpa).trans (mu_g k5 (gM_ne k5 k9 (by simp)))
  have k14 := (congrFun eM10 nra).trans (mu_g k6 (gM_ne k6 k9 (by simp)))
  refine lv_aload_n hx hb dX6_init_15 rfl (lv_at hl 0 rfl) ?_
  refine m_new X iX5 tyX5_ok (ci := 6) (by decide +kernel) (by decide +kernel) (by decide +kernel) hK hw hS hA rfl (fs := [.null, .null]) rfl (Nat.le_of_ble_eq_true rfl) (Nat.le_of_ble_eq_true rfl) dX6_init_16 (fun tb M15 H ntb eM15 hw hS => ?_)
  have d_x_tb : x ≠ tb := gM_nn ntb k11
  have k16 := (congrFun eM15 x).trans (mu_g k11 d_x_tb)
  have d_ta_tb : ta ≠ tb := gM_nn ntb k12
  have k17 := (congrFun eM15 ta).trans (mu_g k12 d_ta_tb)
  have d_lpa_tb : lpa ≠ tb := gM_nn ntb k13
  have k18 := (congrFun eM15 lpa).trans (mu_g k13 d_lpa_tb)
  have d_nra_tb : nra ≠ tb := gM_nn ntb k14
  have k19 := (congrFun eM15 nra).trans (mu_g k14 d_nra_tb)
  have k20 : M15 tb = some (.inr (6, [.null, .null])) := by rw [eM15]; exact mu_s _ _ _
  refine lv_dup hx hb dX6_init_19 rfl ?_
  refine m_callNIv (ret9 := none) X hK hw hZ hS hA (As := []) (rest := [.ref tb, .ref x]) (c_X5_init l G dce _ M15 tb k20) ⟨va_cnB 0 hts gX6_init_X5_init_n9 rfl rfl rfl (hZ.2.2.2.2.2.2.2.2.2.1 (RX6, 9, yX5_init, RX6) (by decide +kernel)) (hts (.initialized RX5) (by decide +kernel)) (by decide +kernel) ⟨Nat.le_of_ble_eq_true rfl, Nat.le_of_ble_eq_true rfl⟩, rfl, hts (.instanceMethod yX5_init) (by decide +kernel)⟩ rfl hl.1 rfl (Nat.le_of_ble_eq_true rfl) dX6_init_20 (Nat.le_of_ble_eq_true rfl) (Nat.le_of_ble_eq_true rfl) (fun M21 H locs hp hw hS hz hk => ?_)
  obtain ⟨lpb, nrb, zlpb, znrb, k24, k22, k23, g25⟩ := hp
  have k26 := g25 x _ k16 d_x_tb
  have k27 := g25 ta _ k17 d_ta_tb
  have k28 := g25 lpa _ k18 d_lpa_tb
  have k29 := g25 nra _ k19 d_nra_tb
  have D_lpa_lpb : lpa ≠ lpb := gM_nn zlpb k18
  have k24 : M21 tb = some (.inr (6, [.ref lpb, .ref nrb])) := k24
  have k22 : M21 lpb = some (.inr (0, [.int 0, .ref dce, .int 0])) := k22
  have k23 : M21 nrb = some (.inr (4, [.int (bI false), .int 0, .int (-1), .int 0])) := k23
  refine m_putF X iX6 tyX6_ok nmX6 hK hw hS k26 rfl 1 (by decide) (ref := "ObjectMapper") (by decide +kernel) (Or.inl rfl) rfl hin rfl (v := .ref tb) rfl rfl (Nat.le_of_ble_eq_true rfl) (fs1 := [.ref ta, .ref tb, .null, .null]) rfl dX6_init_23 (fun M30 H locs eM30 hw hS => ?_)
  have k31 : M30 x = some (.inr (7, [.ref ta, .ref tb, .null, .null])) := by rw [eM30]; exact mu_s _ _ _
  have k32 := (congrFun eM30 ta).trans (mu_g k27 (Ne.symm d_x_ta))
  have k33 := (congrFun eM30 lpa).trans (mu_g k28 (gM_ne k28 k26 (by simp)))
  have k34 := (congrFun eM30 nra).trans (mu_g k29 (gM_ne k29 k26 (by simp)))
  have k35 := (congrFun eM30 tb).trans (mu_g k24 (Ne.symm d_x_tb))
  have k36 := (congrFun eM30 lpb).trans (mu_g k22 (gM_ne k22 k26 (by simp)))
  have k37 := (congrFun eM30 nrb).trans (mu_g k23 (gM_ne k23 k26 (by simp)))
  refine lv_aload_n hx hb dX6_init_26 rfl (lv_at hl 0 rfl) ?_
  refine m_new X iX2 tyX2_ok (ci := 3) (by decide +kernel) (by decide +kernel) (by decide +kernel) hK hw hS hA rfl (fs := [.int 0, .null, .null]) rfl (Nat.le_of_ble_eq_true rfl) (Nat.le_of_ble_eq_true rfl) dX6_init_27 (fun j M38 H nj eM38 hw hS => ?_)
  have d_x_j : x ≠ j := gM_nn nj k31
  have k39 := (congrFun eM38 x).trans (mu_g k31 d_x_j)
  have d_ta_j : ta ≠ j := gM_nn nj k32
  have k40 := (congrFun eM38 ta).trans (mu_g k32 d_ta_j)
  have d_lpa_j : lpa ≠ j := gM_nn nj k33
  have k41 := (congrFun eM38 lpa).trans (mu_g k33 d_lpa_j)
  have d_nra_j : nra ≠ j := gM_nn nj k34
  have k42 := (congrFun eM38 nra).trans (mu_g k34 d_nra_j)
  have d_tb_j : tb ≠ j := gM_nn nj k35
  have k43 := (congrFun eM38 tb).trans (mu_g k35 d_tb_j)
  have d_lpb_j : lpb ≠ j := gM_nn nj k36
  have k44 := (congrFun eM38 lpb).trans (mu_g k36 d_lpb_j)
  have d_nrb_j : nrb ≠ j := gM_nn nj k37
  have k45 := (congrFun eM38 nrb).trans (mu_g k37 d_nrb_j)
  have k46 : M38 j = some (.inr (3, [.int 0, .null, .null])) := by rw [eM38]; exact mu_s _ _ _
  refine lv_dup hx hb dX6_init_30 rfl ?_
  refine m_callNIv (ret9 := none) X hK hw hZ hS hA (As := []) (rest := [.ref j, .ref x]) (c_X2_init l G dce _ M38 j k46) ⟨va_cnB 0 hts gX6_init_X2_init_n21 rfl rfl rfl (hZ.2.2.2.2.2.2.2.2.2.1 (RX6, 21, yX2_init, RX6) (by decide +kernel)) (hts (.initialized RX2) (by decide +kernel)) (by decide +kernel) ⟨Nat.le_of_ble_eq_true rfl, Nat.le_of_ble_eq_true rfl⟩, rfl, hts (.instanceMethod yX2_init) (by decide +kernel)⟩ rfl hl.1 rfl (Nat.le_of_ble_eq_true rfl) dX6_init_31 (Nat.le_of_ble_eq_true rfl) (Nat.le_of_ble_eq_true rfl) (fun M47 H locs hp hw hS hz hk => ?_)
  obtain ⟨ja, jr, zja, zjr, dja, k50, k48, k49, g51⟩ := hp
  have k52 := g51 x _ k39 d_x_j
  have k53 := g51 ta _ k40 d_ta_j
  have k54 := g51 lpa _ k41 d_lpa_j
  have k55 := g51 nra _ k42 d_nra_j
  have k56 := g51 tb _ k43 d_tb_j
  have k57 := g51 lpb _ k44 d_lpb_j
  have k58 := g51 nrb _ k45 d_nrb_j
  have k50 : M47 j = some (.inr (3, [.int 0, .ref ja, .ref jr])) := k50
  have k48 : M47 ja = some (.inl (G.2 0, 64, .inl (fun _ => 0))) := k48
  have k49 : M47 jr = some (.inl (G.2 0, 64, .inl (fun _ => 0))) := k49
  refine m_putF X iX6 tyX6_ok nmX6 hK hw hS k52 rfl 2 (by decide) (ref := "ObjectMapper") (by decide +kernel) (Or.inl rfl) rfl hin rfl (v := .ref j) rfl rfl (Nat.le_of_ble_eq_true rfl) (fs1 := [.ref ta, .ref tb, .ref j, .null]) rfl dX6_init_34 (fun M59 H locs eM59 hw hS => ?_)
  have k60 : M59 x = some (.inr (7, [.ref ta, .ref tb, .ref j, .null])) := by rw [eM59]; exact mu_s _ _ _
  have k61 := (congrFun eM59 ta).trans (mu_g k53 (Ne.symm d_x_ta))
  have k62 := (congrFun eM59 lpa).trans (mu_g k54 (gM_ne k54 k52 (by simp)))
  have k63 := (congrFun eM59 nra).trans (mu_g k55 (gM_ne k55 k52 (by simp)))
  have k64 := (congrFun eM59 tb).trans (mu_g k56 (Ne.symm d_x_tb))
  have k65 := (congrFun eM59 lpb).trans (mu_g k57 (gM_ne k57 k52 (by simp)))
  have k66 := (congrFun eM59 nrb).trans (mu_g k58 (gM_ne k58 k52 (by simp)))
  have k67 := (congrFun eM59 j).trans (mu_g k50 (Ne.symm d_x_j))
  have k68 := (congrFun eM59 ja).trans (mu_g k48 (gM_ne k48 k52 (by simp)))
  have k69 := (congrFun eM59 jr).trans (mu_g k49 (gM_ne k49 k52 (by simp)))
  refine lv_aload_n hx hb dX6_init_37 rfl (lv_at hl 0 rfl) ?_
  refine lv_iconst (v := 3) hx hb dX6_init_38 (by decide) ?_
  refine m_newq X (C := "ObjectMapper$Session") (by decide +kernel) hZ.2.2.2.2.2.2.2.2.1 4 rfl hK hw hS hA (N' := 3) (by decide) (by decide) (by decide) (Nat.le_of_ble_eq_true rfl) (Nat.le_of_ble_eq_true rfl) dX6_init_39 (fun sa M70 H nsa eM70 hw hS => ?_)
  have d_x_sa : x ≠ sa := gM_nn nsa k60
  have k71 := (congrFun eM70 x).trans (mu_g k60 d_x_sa)
  have d_ta_sa : ta ≠ sa := gM_nn nsa k61
  have k72 := (congrFun eM70 ta).trans (mu_g k61 d_ta_sa)
  have d_lpa_sa : lpa ≠ sa := gM_nn nsa k62
  have k73 := (congrFun eM70 lpa).trans (mu_g k62 d_lpa_sa)
  have d_nra_sa : nra ≠ sa := gM_nn nsa k63
  have k74 := (congrFun eM70 nra).trans (mu_g k63 d_nra_sa)
  have d_tb_sa : tb ≠ sa := gM_nn nsa k64
  have k75 := (congrFun eM70 tb).trans (mu_g k64 d_tb_sa)
  have d_lpb_sa : lpb ≠ sa := gM_nn nsa k65
  have k76 := (congrFun eM70 lpb).trans (mu_g k65 d_lpb_sa)
  have d_nrb_sa : nrb ≠ sa := gM_nn nsa k66
  have k77 := (congrFun eM70 nrb).trans (mu_g k66 d_nrb_sa)
  have d_j_sa : j ≠ sa := gM_nn nsa k67
  have k78 := (congrFun eM70 j).trans (mu_g k67 d_j_sa)
  have d_ja_sa : ja ≠ sa := gM_nn nsa k68
  have k79 := (congrFun eM70 ja).trans (mu_g k68 d_ja_sa)
  have d_jr_sa : jr ≠ sa := gM_nn nsa k69
  have k80 := (congrFun eM70 jr).trans (mu_g k69 d_jr_sa)
  have k81 : M70 sa = some (.inl (G.2 4, 3, .inr (.inr (.inr (.inr (fun _ => none)))))) := by rw [eM70]; exact mu_s _ _ _
  refine m_putF X iX6 tyX6_ok nmX6 hK hw hS k71 rfl 3 (by decide) (ref := "ObjectMapper") (by decide +kernel) (Or.inl rfl) rfl hin rfl (v := .ref sa) rfl rfl (Nat.le_of_ble_eq_true rfl) (fs1 := [.ref ta, .ref tb, .ref j, .ref sa]) rfl dX6_init_42 (fun M82 H locs eM82 hw hS => ?_)
  have k83 : M82 x = some (.inr (7, [.ref ta, .ref tb, .ref j, .ref sa])) := by rw [eM82]; exact mu_s _ _ _
  have k84 := (congrFun eM82 ta).trans (mu_g k72 (Ne.symm d_x_ta))
  have k85 := (congrFun eM82 lpa).trans (mu_g k73 (gM_ne k73 k71 (by simp)))
  have k86 := (congrFun eM82 nra).trans (mu_g k74 (gM_ne k74 k71 (by simp)))
  have k87 := (congrFun eM82 tb).trans (mu_g k75 (Ne.symm d_x_tb))
  have k88 := (congrFun eM82 lpb).trans (mu_g k76 (gM_ne k76 k71 (by simp)))
  have k89 := (congrFun eM82 nrb).trans (mu_g k77 (gM_ne k77 k71 (by simp)))
  have k90 := (congrFun eM82 j).trans (mu_g k78 (Ne.symm d_x_j))
  have k91 := (congrFun eM82 ja).trans (mu_g k79 (gM_ne k79 k71 (by simp)))
  have k92 := (congrFun eM82 jr).trans (mu_g k80 (gM_ne k80 k71 (by simp)))
  have k93 := (congrFun eM82 sa).trans (mu_g k81 (Ne.symm d_x_sa))
  refine lv_iconst (v := 0) hx hb dX6_init_45 (by decide) ?_
  refine lv_istore_n (lv' := [(1, .int 0), (0, .ref x)]) hx hb dX6_init_46 rfl hl (by decide) rfl (fun ls hl => ?_)
  refine lv_iload_n hx hb dX6_init_47 rfl (lv_at hl 0 rfl) ?_
  refine lv_aload_n hx hb dX6_init_48 rfl (lv_at hl 1 rfl) ?_
  refine m_get X iX6 hK hw k83 rfl 3 (by decide) (ref := "ObjectMapper") (by decide +kernel) (Or.inl rfl) rfl dX6_init_49 ?_
  refine m_alen X hK hw k93 4 rfl dX6_init_52 ?_
  refine W.eq (g2 := F0 m 53 ls [.int (nI 3), .int 0]) rfl ?_
  refine lv_icmp_ge (tgt := 75) hx hb dX6_init_53 (by decide) (fun c_53 => absurd c_53 (by decide)) (fun _ => ?_)
  refine lv_aload_n hx hb dX6_init_56 rfl (lv_at hl 1 rfl) ?_
  refine m_get X iX6 hK hw k83 rfl 3 (by decide) (ref := "ObjectMapper") (by decide +kernel) (Or.inl rfl) rfl dX6_init_57 ?_
  refine lv_iload_n hx hb dX6_init_60 rfl (lv_at hl 0 rfl) ?_
  refine m_new X iX4 tyX4_ok (ci := 5) (by decide +kernel) (by decide +kernel) (by decide +kernel) hK hw hS hA rfl (fs := [.null, .null, .null]) rfl (Nat.le_of_ble_eq_true rfl) (Nat.le_of_ble_eq_true rfl) dX6_init_61 (fun s0 M94 H ns0 eM94 hw hS => ?_)
  have d_x_s0 : x ≠ s0 := gM_nn ns0 k83
  have k95 := (congrFun eM94 x).trans (mu_g k83 d_x_s0)
  have d_ta_s0 : ta ≠ s0 := gM_nn ns0 k84
  have k96 := (congrFun eM94 ta).trans (mu_g k84 d_ta_s0)
  have d_lpa_s0 : lpa ≠ s0 := gM_nn ns0 k85
  have k97 := (congrFun eM94 lpa).trans (mu_g k85 d_lpa_s0)
  have d_nra_s0 : nra ≠ s0 := gM_nn ns0 k86
  have k98 := (congrFun eM94 nra).trans (mu_g k86 d_nra_s0)
  have d_tb_s0 : tb ≠ s0 := gM_nn ns0 k87
  have k99 := (congrFun eM94 tb).trans (mu_g k87 d_tb_s0)
  have d_lpb_s0 : lpb ≠ s0 := gM_nn ns0 k88
  have k100 := (congrFun eM94 lpb).trans (mu_g k88 d_lpb_s0)
  have d_nrb_s0 : nrb ≠ s0 := gM_nn ns0 k89
  have k101 := (congrFun eM94 nrb).trans (mu_g k89 d_nrb_s0)
  have d_j_s0 : j ≠ s0 := gM_nn ns0 k90
  have k102 := (congrFun eM94 j).trans (mu_g k90 d_j_s0)
  have d_ja_s0 : ja ≠ s0 := gM_nn ns0 k91
  have k103 := (congrFun eM94 ja).trans (mu_g k91 d_ja_s0)
  have d_jr_s0 : jr ≠ s0 := gM_nn ns0 k92
  have k104 := (congrFun eM94 jr).trans (mu_g k92 d_jr_s0)
  have d_sa_s0 : sa ≠ s0 := gM_nn ns0 k93
  have k105 := (congrFun eM94 sa).trans (mu_g k93 d_sa_s0)
  have k106 : M94 s0 = some (.inr (5, [.null, .null, .null])) := by rw [eM94]; exact mu_s _ _ _
  refine lv_dup hx hb dX6_init_64 rfl ?_
  refine m_callNIv (ret9 := none) X hK hw hZ hS hA (As := []) (rest := [.ref s0, .int 0, .ref sa]) (c_X4_init l G dce _ M94 s0 k106) ⟨va_cnB 0 hts gX6_init_X4_init_n32 rfl rfl rfl (hZ.2.2.2.2.2.2.2.2.2.1 (RX6, 32, yX4_init, RX6) (by decide +kernel)) (hts (.initialized RX4) (by decide +kernel)) (by decide +kernel) ⟨Nat.le_of_ble_eq_true rfl, Nat.le_of_ble_eq_true rfl⟩, rfl, hts (.instanceMethod yX4_init) (by decide +kernel)⟩ rfl hl.1 rfl (Nat.le_of_ble_eq_true rfl) dX6_init_65 (Nat.le_of_ble_eq_true rfl) (Nat.le_of_ble_eq_true rfl) (fun M107 H locs hp hw hS hz hk => ?_)
  obtain ⟨la0, lb0, nb0, zla0, zlb0, znb0, D_la0_lb0, k111, k108, k109, k110, g112⟩ := hp
  have k113 := g112 x _ k95 d_x_s0
  have k114 := g112 ta _ k96 d_ta_s0
  have k115 := g112 lpa _ k97 d_lpa_s0
  have k116 := g112 nra _ k98 d_nra_s0
  have k117 := g112 tb _ k99 d_tb_s0
  have k118 := g112 lpb _ k100 d_lpb_s0
  have k119 := g112 nrb _ k101 d_nrb_s0
  have k120 := g112 j _ k102 d_j_s0
  have k121 := g112 ja _ k103 d_ja_s0
  have k122 := g112 jr _ k104 d_jr_s0
  have k123 := g112 sa _ k105 d_sa_s0
  have D_lpa_la0 : lpa ≠ la0 := gM_nn zla0 k97
  have D_lpb_la0 : lpb ≠ la0 := gM_nn zla0 k100
  have D_lpa_lb0 : lpa ≠ lb0 := gM_nn zlb0 k97
  have D_lpb_lb0 : lpb ≠ lb0 := gM_nn zlb0 k100
  have k111 : M107 s0 = some (.inr (5, [.ref la0, .ref lb0, .ref nb0])) := k111
  have k108 : M107 la0 = some (.inr (0, [.int 0, .ref dce, .int 0])) := k108
  have k109 : M107 lb0 = some (.inr (0, [.int 0, .ref dce, .int 0])) := k109
  have k110 : M107 nb0 = some (.inr (1, [.int (bI false), .int (bI false), .int (bI false), .int 0, .int (-1), .int 0, .int 0, .int 0])) := k110
  refine m_aast X hK hw hS 4 k123 rfl k111 (ci := 5) rfl (i := 0) (by unfold vp_in; decide) dX6_init_68 (fun M124 H locs eM124 hw hS => ?_)
  have k125 := (congrFun eM124 x).trans (mu_g k113 (gM_ne k113 k123 (by simp)))
  have k126 := (congrFun eM124 ta).trans (mu_g k114 (gM_ne k114 k123 (by simp)))
  have k127 := (congrFun eM124 lpa).trans (mu_g k115 (gM_ne k115 k123 (by simp)))
  have k128 := (congrFun eM124 nra).trans (mu_g k116 (gM_ne k116 k123 (by simp)))
  have k129 := (congrFun eM124 tb).trans (mu_g k117 (gM_ne k117 k123 (by simp)))
  have k130 := (congrFun eM124 lpb).trans (mu_g k118 (gM_ne k118 k123 (by simp)))
  have k131 := (congrFun eM124 nrb).trans (mu_g k119 (gM_ne k119 k123 (by simp)))
  have k132 := (congrFun eM124 j).trans (mu_g k120 (gM_ne k120 k123 (by simp)))
  have k133 := (congrFun eM124 ja).trans (mu_g k121 (gM_ne k121 k123 (by simp)))
  have k134 := (congrFun eM124 jr).trans (mu_g k122 (gM_ne k122 k123 (by simp)))
  have k135 : M124 sa = some (.inl (G.2 4, 3, .inr (.inr (.inr (.inr (va_up (fun _ => none) (0 : Int32).toNatClampNeg (some s0))))))) := by rw [eM124]; exact mu_s _ _ _
  have k136 := (congrFun eM124 s0).trans (mu_g k111 (gM_ne k111 k123 (by simp)))
  have k137 := (congrFun eM124 la0).trans (mu_g k108 (gM_ne k108 k123 (by simp)))
  have k138 := (congrFun eM124 lb0).trans (mu_g k109 (gM_ne k109 k123 (by simp)))
  have k139 := (congrFun eM124 nb0).trans (mu_g k110 (gM_ne k110 k123 (by simp)))
  refine lv_iinc (v := 1) (lv' := [(1, .int 1), (0, .ref x)]) hx hb dX6_init_69 hl (k := 0) rfl (by decide) (by decide) rfl (fun ls hl => ?_)
  refine lv_goto (tgt := 47) hx hb dX6_init_72 (by decide) ?_
  refine lv_iload_n hx hb dX6_init_47 rfl (lv_at hl 0 rfl) ?_
  refine lv_aload_n hx hb dX6_init_48 rfl (lv_at hl 1 rfl) ?_
  refine m_get X iX6 hK hw k125 rfl 3 (by decide) (ref := "ObjectMapper") (by decide +kernel) (Or.inl rfl) rfl dX6_init_49 ?_
  refine m_alen X hK hw k135 4 rfl dX6_init_52 ?_
  refine W.eq (g2 := F0 m 53 ls [.int (nI 3), .int 1]) rfl ?_
  refine lv_icmp_ge (tgt := 75) hx hb dX6_init_53 (by decide) (fun c_53 => absurd c_53 (by decide)) (fun _ => ?_)
  refine lv_aload_n hx hb dX6_init_56 rfl (lv_at hl 1 rfl) ?_
  refine m_get X iX6 hK hw k125 rfl 3 (by decide) (ref := "ObjectMapper") (by decide +kernel) (Or.inl rfl) rfl dX6_init_57 ?_
  refine lv_iload_n hx hb dX6_init_60 rfl (lv_at hl 0 rfl) ?_
  refine m_new X iX4 tyX4_ok (ci := 5) (by decide +kernel) (by decide +kernel) (by decide +kernel) hK hw hS hA rfl (fs := [.null, .null, .null]) rfl (Nat.le_of_ble_eq_true rfl) (Nat.le_of_ble_eq_true rfl) dX6_init_61 (fun s1 M140 H ns1 eM140 hw hS => ?_)
  have d_x_s1 : x ≠ s1 := gM_nn ns1 k125
  have k141 := (congrFun eM140 x).trans (mu_g k125 d_x_s1)
  have d_ta_s1 : ta ≠ s1 := gM_nn ns1 k126
  have k142 := (congrFun eM140 ta).trans (mu_g k126 d_ta_s1)
  have d_lpa_s1 : lpa ≠ s1 := gM_nn ns1 k127
  have k143 := (congrFun eM140 lpa).trans (mu_g k127 d_lpa_s1)
  have d_nra_s1 : nra ≠ s1 := gM_nn ns1 k128
  have k144 := (congrFun eM140 nra).trans (mu_g k128 d_nra_s1)
  have d_tb_s1 : tb ≠ s1 := gM_nn ns1 k129
  have k145 := (congrFun eM140 tb).trans (mu_g k129 d_tb_s1)
  have d_lpb_s1 : lpb ≠ s1 := gM_nn ns1 k130
  have k146 := (congrFun eM140 lpb).trans (mu_g k130 d_lpb_s1)
  have d_nrb_s1 : nrb ≠ s1 := gM_nn ns1 k131
  have k147 := (congrFun eM140 nrb).trans (mu_g k131 d_nrb_s1)
  have d_j_s1 : j ≠ s1 := gM_nn ns1 k132
  have k148 := (congrFun eM140 j).trans (mu_g k132 d_j_s1)
  have d_ja_s1 : ja ≠ s1 := gM_nn ns1 k133
  have k149 := (congrFun eM140 ja).trans (mu_g k133 d_ja_s1)
  have d_jr_s1 : jr ≠ s1 := gM_nn ns1 k134
  have k150 := (congrFun eM140 jr).trans (mu_g k134 d_jr_s1)
  have d_sa_s1 : sa ≠ s1 := gM_nn ns1 k135
  have k151 := (congrFun eM140 sa).trans (mu_g k135 d_sa_s1)
  have d_s0_s1 : s0 ≠ s1 := gM_nn ns1 k136
  have k152 := (congrFun eM140 s0).trans (mu_g k136 d_s0_s1)
  have d_la0_s1 : la0 ≠ s1 := gM_nn ns1 k137
  have k153 := (congrFun eM140 la0).trans (mu_g k137 d_la0_s1)
  have d_lb0_s1 : lb0 ≠ s1 := gM_nn ns1 k138
  have k154 := (congrFun eM140 lb0).trans (mu_g k138 d_lb0_s1)
  have d_nb0_s1 : nb0 ≠ s1 := gM_nn ns1 k139
  have k155 := (congrFun eM140 nb0).trans (mu_g k139 d_nb0_s1)
  have k156 : M140 s1 = some (.inr (5, [.null, .null, .null])) := by rw [eM140]; exact mu_s _ _ _
  refine lv_dup hx hb dX6_init_64 rfl ?_
  refine m_callNIv (ret9 := none) X hK hw hZ hS hA (As := []) (rest := [.ref s1, .int 1, .ref sa]) (c_X4_init l G dce _ M140 s1 k156) ⟨va_cnB 0 hts gX6_init_X4_init_n32 rfl rfl rfl (hZ.2.2.2.2.2.2.2.2.2.1 (RX6, 32, yX4_init, RX6) (by decide +kernel)) (hts (.initialized RX4) (by decide +kernel)) (by decide +kernel) ⟨Nat.le_of_ble_eq_true rfl, Nat.le_of_ble_eq_true rfl⟩, rfl, hts (.instanceMethod yX4_init) (by decide +kernel)⟩ rfl hl.1 rfl (Nat.le_of_ble_eq_true rfl) dX6_init_65 (Nat.le_of_ble_eq_true rfl) (Nat.le_of_ble_eq_true rfl) (fun M157 H locs hp hw hS hz hk => ?_)
  obtain ⟨la1, lb1, nb1, zla1, zlb1, znb1, D_la1_lb1, k161, k158, k159, k160, g162⟩ := hp
  have k163 := g162 x _ k141 d_x_s1
  have k164 := g162 ta _ k142 d_ta_s1
  have k165 := g162 lpa _ k143 d_lpa_s1
  have k166 := g162 nra _ k144 d_nra_s1
  have k167 := g162 tb _ k145 d_tb_s1
  have k168 := g162 lpb _ k146 d_lpb_s1
  have k169 := g162 nrb _ k147 d_nrb_s1
  have k170 := g162 j _ k148 d_j_s1
  have k171 := g162 ja _ k149 d_ja_s1
  have k172 := g162 jr _ k150 d_jr_s1
  have k173 := g162 sa _ k151 d_sa_s1
  have k174 := g162 s0 _ k152 d_s0_s1
  have k175 := g162 la0 _ k153 d_la0_s1
  have k176 := g162 lb0 _ k154 d_lb0_s1
  have k177 := g162 nb0 _ k155 d_nb0_s1
  have D_lpa_la1 : lpa ≠ la1 := gM_nn zla1 k143
  have D_lpb_la1 : lpb ≠ la1 := gM_nn zla1 k146
  have D_la0_la1 : la0 ≠ la1 := gM_nn zla1 k153
  have D_lb0_la1 : lb0 ≠ la1 := gM_nn zla1 k154
  have D_lpa_lb1 : lpa ≠ lb1 := gM_nn zlb1 k143
  have D_lpb_lb1 : lpb ≠ lb1 := gM_nn zlb1 k146
  have D_la0_lb1 : la0 ≠ lb1 := gM_nn zlb1 k153
  have D_lb0_lb1 : lb0 ≠ lb1 := gM_nn zlb1 k154
  have k161 : M157 s1 = some (.inr (5, [.ref la1, .ref lb1, .ref nb1])) := k161
  have k158 : M157 la1 = some (.inr (0, [.int 0, .ref dce, .int 0])) := k158
  have k159 : M157 lb1 = some (.inr (0, [.int 0, .ref dce, .int 0])) := k159
  have k160 : M157 nb1 = some (.inr (1, [.int (bI false), .int (bI false), .int (bI false), .int 0, .int (-1), .int 0, .int 0, .int 0])) := k160
  refine m_aast X hK hw hS 4 k173 rfl k161 (ci := 5) rfl (i := 1) (by unfold vp_in; decide) dX6_init_68 (fun M178 H locs eM178 hw hS => ?_)
  have k179 := (congrFun eM178 x).trans (mu_g k163 (gM_ne k163 k173 (by simp)))
  have k180 := (congrFun eM178 ta).trans (mu_g k164 (gM_ne k164 k173 (by simp)))
  have k181 := (congrFun eM178 lpa).trans (mu_g k165 (gM_ne k165 k173 (by simp)))
  have k182 := (congrFun eM178 nra).trans (mu_g k166 (gM_ne k166 k173 (by simp)))
  have k183 := (congrFun eM178 tb).trans (mu_g k167 (gM_ne k167 k173 (by simp)))
  have k184 := (congrFun eM178 lpb).trans (mu_g k168 (gM_ne k168 k173 (by simp)))
  have k185 := (congrFun eM178 nrb).trans (mu_g k169 (gM_ne k169 k173 (by simp)))
  have k186 := (congrFun eM178 j).trans (mu_g k170 (gM_ne k170 k173 (by simp)))
  have k187 := (congrFun eM178 ja).trans (mu_g k171 (gM_ne k171 k173 (by simp)))
  have k188 := (congrFun eM178 jr).trans (mu_g k172 (gM_ne k172 k173 (by simp)))
  have k189 : M178 sa = some (.inl (G.2 4, 3, .inr (.inr (.inr (.inr (va_up (va_up (fun _ => none) (0 : Int32).toNatClampNeg (some s0)) (1 : Int32).toNatClampNeg (some s1))))))) := by rw [eM178]; exact mu_s _ _ _
  have k190 := (congrFun eM178 s0).trans (mu_g k174 (gM_ne k174 k173 (by simp)))
  have k191 := (congrFun eM178 la0).trans (mu_g k175 (gM_ne k175 k173 (by simp)))
  have k192 := (congrFun eM178 lb0).trans (mu_g k176 (gM_ne k176 k173 (by simp)))
  have k193 := (congrFun eM178 nb0).trans (mu_g k177 (gM_ne k177 k173 (by simp)))
  have k194 := (congrFun eM178 s1).trans (mu_g k161 (gM_ne k161 k173 (by simp)))
  have k195 := (congrFun eM178 la1).trans (mu_g k158 (gM_ne k158 k173 (by simp)))
  have k196 := (congrFun eM178 lb1).trans (mu_g k159 (gM_ne k159 k173 (by simp)))
  have k197 := (congrFun eM178 nb1).trans (mu_g k160 (gM_ne k160 k173 (by simp)))
  refine lv_iinc (v := 2) (lv' := [(1, .int 2), (0, .ref x)]) hx hb dX6_init_69 hl (k := 0) rfl (by decide) (by decide) rfl (fun ls hl => ?_)
  refine lv_goto (tgt := 47) hx hb dX6_init_72 (by decide) ?_
  refine lv_iload_n hx hb dX6_init_47 rfl (lv_at hl 0 rfl) ?_
  refine lv_aload_n hx hb dX6_init_48 rfl (lv_at hl 1 rfl) ?_
  refine m_get X iX6 hK hw k179 rfl 3 (by decide) (ref := "ObjectMapper") (by decide +kernel) (Or.inl rfl) rfl dX6_init_49 ?_
  refine m_alen X hK hw k189 4 rfl dX6_init_52 ?_
  refine W.eq (g2 := F0 m 53 ls [.int (nI 3), .int 2]) rfl ?_
  refine lv_icmp_ge (tgt := 75) hx hb dX6_init_53 (by decide) (fun c_53 => absurd c_53 (by decide)) (fun _ => ?_)
  refine lv_aload_n hx hb dX6_init_56 rfl (lv_at hl 1 rfl) ?_
  refine m_get X iX6 hK hw k179 rfl 3 (by decide) (ref := "ObjectMapper") (by decide +kernel) (Or.inl rfl) rfl dX6_init_57 ?_
  refine lv_iload_n hx hb dX6_init_60 rfl (lv_at hl 0 rfl) ?_
  refine m_new X iX4 tyX4_ok (ci := 5) (by decide +kernel) (by decide +kernel) (by decide +kernel) hK hw hS hA rfl (fs := [.null, .null, .null]) rfl (Nat.le_of_ble_eq_true rfl) (Nat.le_of_ble_eq_true rfl) dX6_init_61 (fun s2 M198 H ns2 eM198 hw hS => ?_)
  have d_x_s2 : x ≠ s2 := gM_nn ns2 k179
  have k199 := (congrFun eM198 x).trans (mu_g k179 d_x_s2)
  have d_ta_s2 : ta ≠ s2 := gM_nn ns2 k180
  have k200 := (congrFun eM198 ta).trans (mu_g k180 d_ta_s2)
  have d_lpa_s2 : lpa ≠ s2 := gM_nn ns2 k181
  have k201 := (congrFun eM198 lpa).trans (mu_g k181 d_lpa_s2)
  have d_nra_s2 : nra ≠ s2 := gM_nn ns2 k182
  have k202 := (congrFun eM198 nra).trans (mu_g k182 d_nra_s2)
  have d_tb_s2 : tb ≠ s2 := gM_nn ns2 k183
  have k203 := (congrFun eM198 tb).trans (mu_g k183 d_tb_s2)
  have d_lpb_s2 : lpb ≠ s2 := gM_nn ns2 k184
  have k204 := (congrFun eM198 lpb).trans (mu_g k184 d_lpb_s2)
  have d_nrb_s2 : nrb ≠ s2 := gM_nn ns2 k185
  have k205 := (congrFun eM198 nrb).trans (mu_g k185 d_nrb_s2)
  have d_j_s2 : j ≠ s2 := gM_nn ns2 k186
  have k206 := (congrFun eM198 j).trans (mu_g k186 d_j_s2)
  have d_ja_s2 : ja ≠ s2 := gM_nn ns2 k187
  have k207 := (congrFun eM198 ja).trans (mu_g k187 d_ja_s2)
  have d_jr_s2 : jr ≠ s2 := gM_nn ns2 k188
  have k208 := (congrFun eM198 jr).trans (mu_g k188 d_jr_s2)
  have d_sa_s2 : sa ≠ s2 := gM_nn ns2 k189
  have k209 := (congrFun eM198 sa).trans (mu_g k189 d_sa_s2)
  have d_s0_s2 : s0 ≠ s2 := gM_nn ns2 k190
  have k210 := (congrFun eM198 s0).trans (mu_g k190 d_s0_s2)
  have d_la0_s2 : la0 ≠ s2 := gM_nn ns2 k191
  have k211 := (congrFun eM198 la0).trans (mu_g k191 d_la0_s2)
  have d_lb0_s2 : lb0 ≠ s2 := gM_nn ns2 k192
  have k212 := (congrFun eM198 lb0).trans (mu_g k192 d_lb0_s2)
  have d_nb0_s2 : nb0 ≠ s2 := gM_nn ns2 k193
  have k213 := (congrFun eM198 nb0).trans (mu_g k193 d_nb0_s2)
  have d_s1_s2 : s1 ≠ s2 := gM_nn ns2 k194
  have k214 := (congrFun eM198 s1).trans (mu_g k194 d_s1_s2)
  have d_la1_s2 : la1 ≠ s2 := gM_nn ns2 k195
  have k215 := (congrFun eM198 la1).trans (mu_g k195 d_la1_s2)
  have d_lb1_s2 : lb1 ≠ s2 := gM_nn ns2 k196
  have k216 := (congrFun eM198 lb1).trans (mu_g k196 d_lb1_s2)
  have d_nb1_s2 : nb1 ≠ s2 := gM_nn ns2 k197
  have k217 := (congrFun eM198 nb1).trans (mu_g k197 d_nb1_s2)
  have k218 : M198 s2 = some (.inr (5, [.null, .null, .null])) := by rw [eM198]; exact mu_s _ _ _
  refine lv_dup hx hb dX6_init_64 rfl ?_
  refine m_callNIv (ret9 := none) X hK hw hZ hS hA (As := []) (rest := [.ref s2, .int 2, .ref sa]) (c_X4_init l G dce _ M198 s2 k218) ⟨va_cnB 0 hts gX6_init_X4_init_n32 rfl rfl rfl (hZ.2.2.2.2.2.2.2.2.2.1 (RX6, 32, yX4_init, RX6) (by decide +kernel)) (hts (.initialized RX4) (by decide +kernel)) (by decide +kernel) ⟨Nat.le_of_ble_eq_true rfl, Nat.le_of_ble_eq_true rfl⟩, rfl, hts (.instanceMethod yX4_init) (by decide +kernel)⟩ rfl hl.1 rfl (Nat.le_of_ble_eq_true rfl) dX6_init_65 (Nat.le_of_ble_eq_true rfl) (Nat.le_of_ble_eq_true rfl) (fun M219 H locs hp hw hS hz hk => ?_)
  obtain ⟨la2, lb2, nb2, zla2, zlb2, znb2, D_la2_lb2, k223, k220, k221, k222, g224⟩ := hp
  have k225 := g224 x _ k199 d_x_s2
  have k226 := g224 ta _ k200 d_ta_s2
  have k227 := g224 lpa _ k201 d_lpa_s2
  have k228 := g224 nra _ k202 d_nra_s2
  have k229 := g224 tb _ k203 d_tb_s2
  have k230 := g224 lpb _ k204 d_lpb_s2
  have k231 := g224 nrb _ k205 d_nrb_s2
  have k232 := g224 j _ k206 d_j_s2
  have k233 := g224 ja _ k207 d_ja_s2
  have k234 := g224 jr _ k208 d_jr_s2
  have k235 := g224 sa _ k209 d_sa_s2
  have k236 := g224 s0 _ k210 d_s0_s2
  have k237 := g224 la0 _ k211 d_la0_s2
  have k238 := g224 lb0 _ k212 d_lb0_s2
  have k239 := g224 nb0 _ k213 d_nb0_s2
  have k240 := g224 s1 _ k214 d_s1_s2
  have k241 := g224 la1 _ k215 d_la1_s2
  have k242 := g224 lb1 _ k216 d_lb1_s2
  have k243 := g224 nb1 _ k217 d_nb1_s2
  have D_lpa_la2 : lpa ≠ la2 := gM_nn zla2 k201
  have D_lpb_la2 : lpb ≠ la2 := gM_nn zla2 k204
  have D_la0_la2 : la0 ≠ la2 := gM_nn zla2 k211
  have D_lb0_la2 : lb0 ≠ la2 := gM_nn zla2 k212
  have D_la1_la2 : la1 ≠ la2 := gM_nn zla2 k215
  have D_lb1_la2 : lb1 ≠ la2 := gM_nn zla2 k216
  have D_lpa_lb2 : lpa ≠ lb2 := gM_nn zlb2 k201
  have D_lpb_lb2 : lpb ≠ lb2 := gM_nn zlb2 k204
  have D_la0_lb2 : la0 ≠ lb2 := gM_nn zlb2 k211
  have D_lb0_lb2 : lb0 ≠ lb2 := gM_nn zlb2 k212
  have D_la1_lb2 : la1 ≠ lb2 := gM_nn zlb2 k215
  have D_lb1_lb2 : lb1 ≠ lb2 := gM_nn zlb2 k216
  have k223 : M219 s2 = some (.inr (5, [.ref la2, .ref lb2, .ref nb2])) := k223
  have k220 : M219 la2 = some (.inr (0, [.int 0, .ref dce, .int 0])) := k220
  have k221 : M219 lb2 = some (.inr (0, [.int 0, .ref dce, .int 0])) := k221
  have k222 : M219 nb2 = some (.inr (1, [.int (bI false), .int (bI false), .int (bI false), .int 0, .int (-1), .int 0, .int 0, .int 0])) := k222
  refine m_aast X hK hw hS 4 k235 rfl k223 (ci := 5) rfl (i := 2) (by unfold vp_in; decide) dX6_init_68 (fun M244 H locs eM244 hw hS => ?_)
  have k245 := (congrFun eM244 x).trans (mu_g k225 (gM_ne k225 k235 (by simp)))
  have k246 := (congrFun eM244 ta).trans (mu_g k226 (gM_ne k226 k235 (by simp)))
  have k247 := (congrFun eM244 lpa).trans (mu_g k227 (gM_ne k227 k235 (by simp)))
  have k248 := (congrFun eM244 nra).trans (mu_g k228 (gM_ne k228 k235 (by simp)))
  have k249 := (congrFun eM244 tb).trans (mu_g k229 (gM_ne k229 k235 (by simp)))
  have k250 := (congrFun eM244 lpb).trans (mu_g k230 (gM_ne k230 k235 (by simp)))
  have k251 := (congrFun eM244 nrb).trans (mu_g k231 (gM_ne k231 k235 (by simp)))
  have k252 := (congrFun eM244 j).trans (mu_g k232 (gM_ne k232 k235 (by simp)))
  have k253 := (congrFun eM244 ja).trans (mu_g k233 (gM_ne k233 k235 (by simp)))
  have k254 := (congrFun eM244 jr).trans (mu_g k234 (gM_ne k234 k235 (by simp)))
  have k255 : M244 sa = some (.inl (G.2 4, 3, .inr (.inr (.inr (.inr (va_up (va_up (va_up (fun _ => none) (0 : Int32).toNatClampNeg (some s0)) (1 : Int32).toNatClampNeg (some s1)) (2 : Int32).toNatClampNeg (some s2))))))) := by rw [eM244]; exact mu_s _ _ _
  have k256 := (congrFun eM244 s0).trans (mu_g k236 (gM_ne k236 k235 (by simp)))
  have k257 := (congrFun eM244 la0).trans (mu_g k237 (gM_ne k237 k235 (by simp)))
  have k258 := (congrFun eM244 lb0).trans (mu_g k238 (gM_ne k238 k235 (by simp)))
  have k259 := (congrFun eM244 nb0).trans (mu_g k239 (gM_ne k239 k235 (by simp)))
  have k260 := (congrFun eM244 s1).trans (mu_g k240 (gM_ne k240 k235 (by simp)))
  have k261 := (congrFun eM244 la1).trans (mu_g k241 (gM_ne k241 k235 (by simp)))
  have k262 := (congrFun eM244 lb1).trans (mu_g k242 (gM_ne k242 k235 (by simp)))
  have k263 := (congrFun eM244 nb1).trans (mu_g k243 (gM_ne k243 k235 (by simp)))
  have k264 := (congrFun eM244 s2).trans (mu_g k223 (gM_ne k223 k235 (by simp)))
  have k265 := (congrFun eM244 la2).trans (mu_g k220 (gM_ne k220 k235 (by simp)))
  have k266 := (congrFun eM244 lb2).trans (mu_g k221 (gM_ne k221 k235 (by simp)))
  have k267 := (congrFun eM244 nb2).trans (mu_g k222 (gM_ne k222 k235 (by simp)))
  refine lv_iinc (v := 3) (lv' := [(1, .int 3), (0, .ref x)]) hx hb dX6_init_69 hl (k := 0) rfl (by decide) (by decide) rfl (fun ls hl => ?_)
  refine lv_goto (tgt := 47) hx hb dX6_init_72 (by decide) ?_
  refine lv_iload_n hx hb dX6_init_47 rfl (lv_at hl 0 rfl) ?_
  refine lv_aload_n hx hb dX6_init_48 rfl (lv_at hl 1 rfl) ?_
  refine m_get X iX6 hK hw k245 rfl 3 (by decide) (ref := "ObjectMapper") (by decide +kernel) (Or.inl rfl) rfl dX6_init_49 ?_
  refine m_alen X hK hw k255 4 rfl dX6_init_52 ?_
  refine W.eq (g2 := F0 m 53 ls [.int (nI 3), .int 3]) rfl ?_
  refine lv_icmp_ge (tgt := 75) hx hb dX6_init_53 (by decide) (fun _ => ?_) (fun c_53 => absurd (by decide) c_53)
  have ksa9 := k255
  have hdc : ¬ A dce := by obtain ⟨c9, -, -, -, -, -, -, h9⟩ := hZ.2.2.2.1; exact h9
  refine m_vret X hK hw hS ⟨(fun k => [ta, tb, j, sa, s0, s1, s2, 0, 0, 0, lpa, lpb, la0, lb0, la1, lb1, la2, lb2, 0, 0, nra, nrb, 0, 0, 0, 0, 0, 0, 0, 0, 0, 0, 0, 0, 0, 0, 0, 0, 0, 0, nb0, nb1, nb2, 0, 0, 0, 0, 0, 0, 0, ja, jr].getD k 0), ⟨k245, ?_, ⟨(va_up (va_up (va_up (fun _ => none) (0 : Int32).toNatClampNeg (some s0)) (1 : Int32).toNatClampNeg (some s1)) (2 : Int32).toNatClampNeg (some s2)), k255, ?_⟩, ?_, ⟨fun _ => 0, fun _ => 0, k252, k253, k254⟩, ?_⟩, dja, fun q => hdc (by rw [q]; exact hw.in ksa9)⟩ (by omega) (by omega) dX6_init_75
  · intro k hk
    rcases (show k = 0 ∨ k = 1 by omega) with rfl | rfl
    · exact ⟨k246, k247, k248⟩
    · exact ⟨k249, k250, k251⟩
  · intro i hi
    rcases (show i = 0 ∨ i = 1 ∨ i = 2 by omega) with rfl | rfl | rfl <;> rfl
  · intro i hi
    rcases (show i = 0 ∨ i = 1 ∨ i = 2 by omega) with rfl | rfl | rfl
    · exact ⟨k256, k257, k258, k259⟩
    · exact ⟨k260, k261, k262, k263⟩
    · exact ⟨k264, k265, k266, k267⟩
  · intro i j hij hj
    rcases (show i = 0 ∨ i = 1 ∨ i = 2 ∨ i = 3 ∨ i = 4 ∨ i = 5 ∨ i = 6 ∨ i = 7 by omega) with rfl | rfl | rfl | rfl | rfl | rfl | rfl | rfl
    · rcases (show j = 1 ∨ j = 2 ∨ j = 3 ∨ j = 4 ∨ j = 5 ∨ j = 6 ∨ j = 7 by omega) with rfl | rfl | rfl | rfl | rfl | rfl | rfl
      · exact D_lpa_lpb
      · exact D_lpa_la0
      · exact D_lpa_lb0
      · exact D_lpa_la1
      · exact D_lpa_lb1
      · exact D_lpa_la2
      · exact D_lpa_lb2
    · rcases (show j = 2 ∨ j = 3 ∨ j = 4 ∨ j = 5 ∨ j = 6 ∨ j = 7 by omega) with rfl | rfl | rfl | rfl | rfl | rfl
      · exact D_lpb_la0
      · exact D_lpb_lb0
      · exact D_lpb_la1
      · exact D_lpb_lb1
      · exact D_lpb_la2
      · exact D_lpb_lb2
    · rcases (show j = 3 ∨ j = 4 ∨ j = 5 ∨ j = 6 ∨ j = 7 by omega) with rfl | rfl | rfl | rfl | rfl
      · exact D_la0_lb0
      · exact D_la0_la1
      · exact D_la0_lb1
      · exact D_la0_la2
      · exact D_la0_lb2
    · rcases (show j = 4 ∨ j = 5 ∨ j = 6 ∨ j = 7 by omega) with rfl | rfl | rfl | rfl
      · exact D_lb0_la1
      · exact D_lb0_lb1
      · exact D_lb0_la2
      · exact D_lb0_lb2
    · rcases (show j = 5 ∨ j = 6 ∨ j = 7 by omega) with rfl | rfl | rfl
      · exact D_la1_lb1
      · exact D_la1_la2
      · exact D_la1_lb2
    · rcases (show j = 6 ∨ j = 7 by omega) with rfl | rfl
      · exact D_lb1_la2
      · exact D_lb1_lb2
    · rcases (show j = 7 by omega) with rfl
      exact D_la2_lb2
    · exact absurd hj (by omega)
/-- a model that nobody has asked for anything yet -/
def mF (G : gG) (M : gM) (x : Nat) (ad : Nat → Nat) (th : Int32) : Prop := M x = some (oM th 0 ad) ∧ M (ad 1) = some (oI G 2 (fun _ => 0)) ∧ M (ad 2) = some (oB G 2048 (fun _ => 0)) ∧ M (ad 3) = some (oI G 2048 (fun _ => 0)) ∧ M (ad 4) = some (oI G 2048 (fun _ => 0)) ∧ M (ad 5) = some (oI G 2048 (fun _ => 0)) ∧ M (ad 6) = some (oB G 2048 (fun _ => 0)) ∧ M (ad 7) = some (oI G 6144 (fun _ => 0)) ∧ M (ad 8) = some (oB G 6144 (fun _ => 0)) ∧ M (ad 9) = some (oI G 6144 (fun _ => 0)) ∧ M (ad 10) = some (oI G 6144 (fun _ => 0)) ∧ M (ad 11) = some (oI G 6144 (fun _ => 0)) ∧ M (ad 12) = some (oI G 6144 (fun _ => 0)) ∧ M (ad 13) = some (oI G 6144 (fun _ => 0)) ∧ M (ad 15) = some (oI G 16384 (fun _ => 0)) ∧ (∀ i j, i < j → j < 16 → 0 < i → ad i ≠ ad j ∨ i = 14 ∨ j = 14)
set_option maxHeartbeats 4000000 in
set_option maxRecDepth 100000 in
theorem c_X7_init (l : Launch) (G : gG) (dce sz : Nat) (M : gM) (x : Nat) (hv : M x = some (.inr (8, [.int 0, .null, .null, .null, .null, .null, .null, .null, .null, .null, .null, .null, .null, .null, .int 0, .null]))) : mV l yX7_init wsX7_init ({ frames := 1, cells := 14, slots := 69634, locals := 12 }) G dce sz M [.ref x] (fun M' => (∃ ad : Nat → Nat, mF G M' x ad 0) ∧ ∀ b e, M b = some e → b ≠ x → M' b = some e) (14) (69634) := by
  refine wMet (Qc := QV G _) (cc := cX7_init) (maxL := 1) (ret := none) (by decide) rfl (Nat.le_of_ble_eq_true rfl) ?_
  intro p e s m below meth c A ls X hnm hw hK hZ hA hS hsz eA hl
  obtain ⟨hx, hb, hr, hts, hown, hlk, hml⟩ := id X
  have hl : lv_has ls 1 [(0, .ref x)] := hl
  have hin : meth.name = "<init>" := hnm
  have iX7 : ∀ w ∈ wsX70, w ∈ wsX7_init := by decide +kernel
  have f0 : ∀ b e, M b = some e → b ≠ x → M b = some e := fun _ _ h _ => h
  refine lv_aload_n hx hb dX7_init_0 rfl (lv_at hl 0 rfl) ?_
  refine W.objInit hx hb hown (hts (.methodLink RX7 1 objectInit) (by decide +kernel)) (hts (.instanceMethod objectInit) (by decide +kernel)) (hts (.code objectInit ⟨#[0xb1]⟩ 1 none) (by decide +kernel)) rfl (by rw [hml]; exact hl.1) rfl dX7_init_1 (Nat.le_of_ble_eq_true rfl) (Nat.le_of_ble_eq_true rfl) ?_
  refine W.eq (g2 := F0 m 4 ls []) rfl ?_
  refine lv_aload_n hx hb dX7_init_4 rfl (lv_at hl 0 rfl) ?_
  refine lv_iconst (v := 2) hx hb dX7_init_5 (by decide) ?_
  refine m_newa_int X (by decide +kernel) hK hw hS hA (N' := 2) (by decide) (by decide) (Nat.le_of_ble_eq_true rfl) (Nat.le_of_ble_eq_true rfl) (Nat.le_of_ble_eq_true rfl) dX7_init_6 (fun a1 M1 H na1 eM1 hw hS => ?_)
  have d_x_a1 : x ≠ a1 := gM_nn na1 hv
  have k2 := (congrFun eM1 x).trans (mu_g hv d_x_a1)
  have k3 : M1 a1 = some (.inl (G.2 0, 2, .inl (fun _ => 0))) := by rw [eM1]; exact mu_s _ _ _
  have f4 : ∀ b e, M b = some e → b ≠ x → M1 b = some e := fun b e hb hne => (congrFun eM1 b).trans (mu_g (f0 b e hb hne) (gM_nn na1 (f0 b e hb hne)))
  have za1 : M a1 = none := fr_none f0 na1 hv
  refine m_putF X iX7 tyX7_ok nmX7 hK hw hS k2 rfl 1 (by decide) (ref := "ObjectMapperModel") (by decide +kernel) (Or.inl rfl) rfl hin rfl (v := .ref a1) rfl rfl (Nat.le_of_ble_eq_true rfl) (fs1 := [.int 0, .ref a1, .null, .null, .null, .null, .null, .null, .null, .null, .null, .null, .null, .null, .int 0, .null]) rfl dX7_init_8 (fun M5 H locs eM5 hw hS => ?_)
  have k6 : M5 x = some (.inr (8, [.int 0, .ref a1, .null, .null, .null, .null, .null, .null, .null, .null, .null, .null, .null, .null, .int 0, .null])) := by rw [eM5]; exact mu_s _ _ _
  have k7 := (congrFun eM5 a1).trans (mu_g k3 (Ne.symm d_x_a1))
  have f8 : ∀ b e, M b = some e → b ≠ x → M5 b = some e := fun b e hb hne => (congrFun eM5 b).trans (mu_g (f4 b e hb hne) hne)
  refine lv_aload_n hx hb dX7_init_11 rfl (lv_at hl 0 rfl) ?_
  refine lv_sipush (v := 2048) hx hb dX7_init_12 (by decide) ?_
  refine m_newa_bool X (by decide +kernel) hK hw hS hA (N' := 2048) (by decide) (by decide) (Nat.le_of_ble_eq_true rfl) (Nat.le_of_ble_eq_true rfl) (Nat.le_of_ble_eq_true rfl) dX7_init_15 (fun a2 M9 H na2 eM9 hw hS => ?_)
  have d_x_a2 : x ≠ a2 := gM_nn na2 k6
  have k10 := (congrFun eM9 x).trans (mu_g k6 d_x_a2)
  have d_a1_a2 : a1 ≠ a2 := gM_nn na2 k7
  have k11 := (congrFun eM9 a1).trans (mu_g k7 d_a1_a2)
  have k12 : M9 a2 = some (.inl (G.2 1, 2048, .inl (fun _ => 0))) := by rw [eM9]; exact mu_s _ _ _
  have f13 : ∀ b e, M b = some e → b ≠ x → M9 b = some e := fun b e hb hne => (congrFun eM9 b).trans (mu_g (f8 b e hb hne) (gM_nn na2 (f8 b e hb hne)))
  have za2 : M a2 = none := fr_none f8 na2 k6
  refine m_putF X iX7 tyX7_ok nmX7 hK hw hS k10 rfl 2 (by decide) (ref := "ObjectMapperModel") (by decide +kernel) (Or.inl rfl) rfl hin rfl (v := .ref a2) rfl rfl (Nat.le_of_ble_eq_true rfl) (fs1 := [.int 0, .ref a1, .ref a2, .null, .null, .null, .null, .null, .null, .null, .null, .null, .null, .null, .int 0, .null]) rfl dX7_init_17 (fun M14 H locs eM14 hw hS => ?_)
  have k15 : M14 x = some (.inr (8, [.int 0, .ref a1, .ref a2, .null, .null, .null, .null, .null, .null, .null, .null, .null, .null, .null, .int 0, .null])) := by rw [eM14]; exact mu_s _ _ _
  have k16 := (congrFun eM14 a1).trans (mu_g k11 (Ne.symm d_x_a1))
  have k17 := (congrFun eM14 a2).trans (mu_g k12 (Ne.symm d_x_a2))
  have f18 : ∀ b e, M b = some e → b ≠ x → M14 b = some e := fun b e hb hne => (congrFun eM14 b).trans (mu_g (f13 b e hb hne) hne)
  refine lv_aload_n hx hb dX7_init_20 rfl (lv_at hl 0 rfl) ?_
  refine lv_sipush (v := 2048) hx hb dX7_init_21 (by decide) ?_
  refine m_newa_int X (by decide +kernel) hK hw hS hA (N' := 2048) (by decide) (by decide) (Nat.le_of_ble_eq_true rfl) (Nat.le_of_ble_eq_true rfl) (Nat.le_of_ble_eq_true rfl) dX7_init_24 (fun a3 M19 H na3 eM19 hw hS => ?_)
  have d_x_a3 : x ≠ a3 := gM_nn na3 k15
  have k20 := (congrFun eM19 x).trans (mu_g k15 d_x_a3)
  have d_a1_a3 : a1 ≠ a3 := gM_nn na3 k16
  have k21 := (congrFun eM19 a1).trans (mu_g k16 d_a1_a3)
  have d_a2_a3 : a2 ≠ a3 := gM_nn na3 k17
  have k22 := (congrFun eM19 a2).trans (mu_g k17 d_a2_a3)
  have k23 : M19 a3 = some (.inl (G.2 0, 2048, .inl (fun _ => 0))) := by rw [eM19]; exact mu_s _ _ _
  have f24 : ∀ b e, M b = some e → b ≠ x → M19 b = some e := fun b e hb hne => (congrFun eM19 b).trans (mu_g (f18 b e hb hne) (gM_nn na3 (f18 b e hb hne)))
  have za3 : M a3 = none := fr_none f18 na3 k15
  refine m_putF X iX7 tyX7_ok nmX7 hK hw hS k20 rfl 3 (by decide) (ref := "ObjectMapperModel") (by decide +kernel) (Or.inl rfl) rfl hin rfl (v := .ref a3) rfl rfl (Nat.le_of_ble_eq_true rfl) (fs1 := [.int 0, .ref a1, .ref a2, .ref a3, .null, .null, .null, .null, .null, .null, .null, .null, .null, .null, .int 0, .null]) rfl dX7_init_26 (fun M25 H locs eM25 hw hS => ?_)
  have k26 : M25 x = some (.inr (8, [.int 0, .ref a1, .ref a2, .ref a3, .null, .null, .null, .null, .null, .null, .null, .null, .null, .null, .int 0, .null])) := by rw [eM25]; exact mu_s _ _ _
  have k27 := (congrFun eM25 a1).trans (mu_g k21 (Ne.symm d_x_a1))
  have k28 := (congrFun eM25 a2).trans (mu_g k22 (Ne.symm d_x_a2))
  have k29 := (congrFun eM25 a3).trans (mu_g k23 (Ne.symm d_x_a3))
  have f30 : ∀ b e, M b = some e → b ≠ x → M25 b = some e := fun b e hb hne => (congrFun eM25 b).trans (mu_g (f24 b e hb hne) hne)
  refine lv_aload_n hx hb dX7_init_29 rfl (lv_at hl 0 rfl) ?_
  refine lv_sipush (v := 2048) hx hb dX7_init_30 (by decide) ?_
  refine m_newa_int X (by decide +kernel) hK hw hS hA (N' := 2048) (by decide) (by decide) (Nat.le_of_ble_eq_true rfl) (Nat.le_of_ble_eq_true rfl) (Nat.le_of_ble_eq_true rfl) dX7_init_33 (fun a4 M31 H na4 eM31 hw hS => ?_)
  have d_x_a4 : x ≠ a4 := gM_nn na4 k26
  have k32 := (congrFun eM31 x).trans (mu_g k26 d_x_a4)
  have d_a1_a4 : a1 ≠ a4 := gM_nn na4 k27
  have k33 := (congrFun eM31 a1).trans (mu_g k27 d_a1_a4)
  have d_a2_a4 : a2 ≠ a4 := gM_nn na4 k28
  have k34 := (congrFun eM31 a2).trans (mu_g k28 d_a2_a4)
  have d_a3_a4 : a3 ≠ a4 := gM_nn na4 k29
  have k35 := (congrFun eM31 a3).trans (mu_g k29 d_a3_a4)
  have k36 : M31 a4 = some (.inl (G.2 0, 2048, .inl (fun _ => 0))) := by rw [eM31]; exact mu_s _ _ _
  have f37 : ∀ b e, M b = some e → b ≠ x → M31 b = some e := fun b e hb hne => (congrFun eM31 b).trans (mu_g (f30 b e hb hne) (gM_nn na4 (f30 b e hb hne)))
  have za4 : M a4 = none := fr_none f30 na4 k26
  refine m_putF X iX7 tyX7_ok nmX7 hK hw hS k32 rfl 4 (by decide) (ref := "ObjectMapperModel") (by decide +kernel) (Or.inl rfl) rfl hin rfl (v := .ref a4) rfl rfl (Nat.le_of_ble_eq_true rfl) (fs1 := [.int 0, .ref a1, .ref a2, .ref a3, .ref a4, .null, .null, .null, .null, .null, .null, .null, .null, .null, .int 0, .null]) rfl dX7_init_35 (fun M38 H locs eM38 hw hS => ?_)
  have k39 : M38 x = some (.inr (8, [.int 0, .ref a1, .ref a2, .ref a3, .ref a4, .null, .null, .null, .null, .null, .null, .null, .null, .null, .int 0, .null])) := by rw [eM38]; exact mu_s _ _ _
  have k40 := (congrFun eM38 a1).trans (mu_g k33 (Ne.symm d_x_a1))
  have k41 := (congrFun eM38 a2).trans (mu_g k34 (Ne.symm d_x_a2))
  have k42 := (congrFun eM38 a3).trans (mu_g k35 (Ne.symm d_x_a3))
  have k43 := (congrFun eM38 a4).trans (mu_g k36 (Ne.symm d_x_a4))
  have f44 : ∀ b e, M b = some e → b ≠ x → M38 b = some e := fun b e hb hne => (congrFun eM38 b).trans (mu_g (f37 b e hb hne) hne)
  refine lv_aload_n hx hb dX7_init_38 rfl (lv_at hl 0 rfl) ?_
  refine lv_sipush (v := 2048) hx hb dX7_init_39 (by decide) ?_
  refine m_newa_int X (by decide +kernel) hK hw hS hA (N' := 2048) (by decide) (by decide) (Nat.le_of_ble_eq_true rfl) (Nat.le_of_ble_eq_true rfl) (Nat.le_of_ble_eq_true rfl) dX7_init_42 (fun a5 M45 H na5 eM45 hw hS => ?_)
  have d_x_a5 : x ≠ a5 := gM_nn na5 k39
  have k46 := (congrFun eM45 x).trans (mu_g k39 d_x_a5)
  have d_a1_a5 : a1 ≠ a5 := gM_nn na5 k40
  have k47 := (congrFun eM45 a1).trans (mu_g k40 d_a1_a5)
  have d_a2_a5 : a2 ≠ a5 := gM_nn na5 k41
  have k48 := (congrFun eM45 a2).trans (mu_g k41 d_a2_a5)
  have d_a3_a5 : a3 ≠ a5 := gM_nn na5 k42
  have k49 := (congrFun eM45 a3).trans (mu_g k42 d_a3_a5)
  have d_a4_a5 : a4 ≠ a5 := gM_nn na5 k43
  have k50 := (congrFun eM45 a4).trans (mu_g k43 d_a4_a5)
  have k51 : M45 a5 = some (.inl (G.2 0, 2048, .inl (fun _ => 0))) := by rw [eM45]; exact mu_s _ _ _
  have f52 : ∀ b e, M b = some e → b ≠ x → M45 b = some e := fun b e hb hne => (congrFun eM45 b).trans (mu_g (f44 b e hb hne) (gM_nn na5 (f44 b e hb hne)))
  have za5 : M a5 = none := fr_none f44 na5 k39
  refine m_putF X iX7 tyX7_ok nmX7 hK hw hS k46 rfl 5 (by decide) (ref := "ObjectMapperModel") (by decide +kernel) (Or.inl rfl) rfl hin rfl (v := .ref a5) rfl rfl (Nat.le_of_ble_eq_true rfl) (fs1 := [.int 0, .ref a1, .ref a2, .ref a3, .ref a4, .ref a5, .null, .null, .null, .null, .null, .null, .null, .null, .int 0, .null]) rfl dX7_init_44 (fun M53 H locs eM53 hw hS => ?_)
  have k54 : M53 x = some (.inr (8, [.int 0, .ref a1, .ref a2, .ref a3, .ref a4, .ref a5, .null, .null, .null, .null, .null, .null, .null, .null, .int 0, .null])) := by rw [eM53]; exact mu_s _ _ _
  have k55 := (congrFun eM53 a1).trans (mu_g k47 (Ne.symm d_x_a1))
  have k56 := (congrFun eM53 a2).trans (mu_g k48 (Ne.symm d_x_a2))
  have k57 := (congrFun eM53 a3).trans (mu_g k49 (Ne.symm d_x_a3))
  have k58 := (congrFun eM53 a4).trans (mu_g k50 (Ne.symm d_x_a4))
  have k59 := (congrFun eM53 a5).trans (mu_g k51 (Ne.symm d_x_a5))
  have f60 : ∀ b e, M b = some e → b ≠ x → M53 b = some e := fun b e hb hne => (congrFun eM53 b).trans (mu_g (f52 b e hb hne) hne)
  refine lv_aload_n hx hb dX7_init_47 rfl (lv_at hl 0 rfl) ?_
  refine lv_sipush (v := 2048) hx hb dX7_init_48 (by decide) ?_
  refine m_newa_bool X (by decide +kernel) hK hw hS hA (N' := 2048) (by decide) (by decide) (Nat.le_of_ble_eq_true rfl) (Nat.le_of_ble_eq_true rfl) (Nat.le_of_ble_eq_true rfl) dX7_init_51 (fun a6 M61 H na6 eM61 hw hS => ?_)
  have d_x_a6 : x ≠ a6 := gM_nn na6 k54
  have k62 := (congrFun eM61 x).trans (mu_g k54 d_x_a6)
  have d_a1_a6 : a1 ≠ a6 := gM_nn na6 k55
  have k63 := (congrFun eM61 a1).trans (mu_g k55 d_a1_a6)
  have d_a2_a6 : a2 ≠ a6 := gM_nn na6 k56
  have k64 := (congrFun eM61 a2).trans (mu_g k56 d_a2_a6)
  have d_a3_a6 : a3 ≠ a6 := gM_nn na6 k57
  have k65 := (congrFun eM61 a3).trans (mu_g k57 d_a3_a6)
  have d_a4_a6 : a4 ≠ a6 := gM_nn na6 k58
  have k66 := (congrFun eM61 a4).trans (mu_g k58 d_a4_a6)
  have d_a5_a6 : a5 ≠ a6 := gM_nn na6 k59
  have k67 := (congrFun eM61 a5).trans (mu_g k59 d_a5_a6)
  have k68 : M61 a6 = some (.inl (G.2 1, 2048, .inl (fun _ => 0))) := by rw [eM61]; exact mu_s _ _ _
  have f69 : ∀ b e, M b = some e → b ≠ x → M61 b = some e := fun b e hb hne => (congrFun eM61 b).trans (mu_g (f60 b e hb hne) (gM_nn na6 (f60 b e hb hne)))
  have za6 : M a6 = none := fr_none f60 na6 k54
  refine m_putF X iX7 tyX7_ok nmX7 hK hw hS k62 rfl 6 (by decide) (ref := "ObjectMapperModel") (by decide +kernel) (Or.inl rfl) rfl hin rfl (v := .ref a6) rfl rfl (Nat.le_of_ble_eq_true rfl) (fs1 := [.int 0, .ref a1, .ref a2, .ref a3, .ref a4, .ref a5, .ref a6, .null, .null, .null, .null, .null, .null, .null, .int 0, .null]) rfl dX7_init_53 (fun M70 H locs eM70 hw hS => ?_)
  have k71 : M70 x = some (.inr (8, [.int 0, .ref a1, .ref a2, .ref a3, .ref a4, .ref a5, .ref a6, .null, .null, .null, .null, .null, .null, .null, .int 0, .null])) := by rw [eM70]; exact mu_s _ _ _
  have k72 := (congrFun eM70 a1).trans (mu_g k63 (Ne.symm d_x_a1))
  have k73 := (congrFun eM70 a2).trans (mu_g k64 (Ne.symm d_x_a2))
  have k74 := (congrFun eM70 a3).trans (mu_g k65 (Ne.symm d_x_a3))
  have k75 := (congrFun eM70 a4).trans (mu_g k66 (Ne.symm d_x_a4))
  have k76 := (congrFun eM70 a5).trans (mu_g k67 (Ne.symm d_x_a5))
  have k77 := (congrFun eM70 a6).trans (mu_g k68 (Ne.symm d_x_a6))
  have f78 : ∀ b e, M b = some e → b ≠ x → M70 b = some e := fun b e hb hne => (congrFun eM70 b).trans (mu_g (f69 b e hb hne) hne)
  refine lv_aload_n hx hb dX7_init_56 rfl (lv_at hl 0 rfl) ?_
  refine lv_sipush (v := 6144) hx hb dX7_init_57 (by decide) ?_
  refine m_newa_int X (by decide +kernel) hK hw hS hA (N' := 6144) (by decide) (by decide) (Nat.le_of_ble_eq_true rfl) (Nat.le_of_ble_eq_true rfl) (Nat.le_of_ble_eq_true rfl) dX7_init_60 (fun a7 M79 H na7 eM79 hw hS => ?_)
  have d_x_a7 : x ≠ a7 := gM_nn na7 k71
  have k80 := (congrFun eM79 x).trans (mu_g k71 d_x_a7)
  have d_a1_a7 : a1 ≠ a7 := gM_nn na7 k72
  have k81 := (congrFun eM79 a1).trans (mu_g k72 d_a1_a7)
  have d_a2_a7 : a2 ≠ a7 := gM_nn na7 k73
  have k82 := (congrFun eM79 a2).trans (mu_g k73 d_a2_a7)
  have d_a3_a7 : a3 ≠ a7 := gM_nn na7 k74
  have k83 := (congrFun eM79 a3).trans (mu_g k74 d_a3_a7)
  have d_a4_a7 : a4 ≠ a7 := gM_nn na7 k75
  have k84 := (congrFun eM79 a4).trans (mu_g k75 d_a4_a7)
  have d_a5_a7 : a5 ≠ a7 := gM_nn na7 k76
  have k85 := (congrFun eM79 a5).trans (mu_g k76 d_a5_a7)
  have d_a6_a7 : a6 ≠ a7 := gM_nn na7 k77
  have k86 := (congrFun eM79 a6).trans (mu_g k77 d_a6_a7)
  have k87 : M79 a7 = some (.inl (G.2 0, 6144, .inl (fun _ => 0))) := by rw [eM79]; exact mu_s _ _ _
  have f88 : ∀ b e, M b = some e → b ≠ x → M79 b = some e := fun b e hb hne => (congrFun eM79 b).trans (mu_g (f78 b e hb hne) (gM_nn na7 (f78 b e hb hne)))
  have za7 : M a7 = none := fr_none f78 na7 k71
  refine m_putF X iX7 tyX7_ok nmX7 hK hw hS k80 rfl 7 (by decide) (ref := "ObjectMapperModel") (by decide +kernel) (Or.inl rfl) rfl hin rfl (v := .ref a7) rfl rfl (Nat.le_of_ble_eq_true rfl) (fs1 := [.int 0, .ref a1, .ref a2, .ref a3, .ref a4, .ref a5, .ref a6, .ref a7, .null, .null, .null, .null, .null, .null, .int 0, .null]) rfl dX7_init_62 (fun M89 H locs eM89 hw hS => ?_)
  have k90 : M89 x = some (.inr (8, [.int 0, .ref a1, .ref a2, .ref a3, .ref a4, .ref a5, .ref a6, .ref a7, .null, .null, .null, .null, .null, .null, .int 0, .null])) := by rw [eM89]; exact mu_s _ _ _
  have k91 := (congrFun eM89 a1).trans (mu_g k81 (Ne.symm d_x_a1))
  have k92 := (congrFun eM89 a2).trans (mu_g k82 (Ne.symm d_x_a2))
  have k93 := (congrFun eM89 a3).trans (mu_g k83 (Ne.symm d_x_a3))
  have k94 := (congrFun eM89 a4).trans (mu_g k84 (Ne.symm d_x_a4))
  have k95 := (congrFun eM89 a5).trans (mu_g k85 (Ne.symm d_x_a5))
  have k96 := (congrFun eM89 a6).trans (mu_g k86 (Ne.symm d_x_a6))
  have k97 := (congrFun eM89 a7).trans (mu_g k87 (Ne.symm d_x_a7))
  have f98 : ∀ b e, M b = some e → b ≠ x → M89 b = some e := fun b e hb hne => (congrFun eM89 b).trans (mu_g (f88 b e hb hne) hne)
  refine lv_aload_n hx hb dX7_init_65 rfl (lv_at hl 0 rfl) ?_
  refine lv_sipush (v := 6144) hx hb dX7_init_66 (by decide) ?_
  refine m_newa_bool X (by decide +kernel) hK hw hS hA (N' := 6144) (by decide) (by decide) (Nat.le_of_ble_eq_true rfl) (Nat.le_of_ble_eq_true rfl) (Nat.le_of_ble_eq_true rfl) dX7_init_69 (fun a8 M99 H na8 eM99 hw hS => ?_)
  have d_x_a8 : x ≠ a8 := gM_nn na8 k90
  have k100 := (congrFun eM99 x).trans (mu_g k90 d_x_a8)
  have d_a1_a8 : a1 ≠ a8 := gM_nn na8 k91
  have k101 := (congrFun eM99 a1).trans (mu_g k91 d_a1_a8)
  have d_a2_a8 : a2 ≠ a8 := gM_nn na8 k92
  have k102 := (congrFun eM99 a2).trans (mu_g k92 d_a2_a8)
  have d_a3_a8 : a3 ≠ a8 := gM_nn na8 k93
  have k103 := (congrFun eM99 a3).trans (mu_g k93 d_a3_a8)
  have d_a4_a8 : a4 ≠ a8 := gM_nn na8 k94
  have k104 := (congrFun eM99 a4).trans (mu_g k94 d_a4_a8)
  have d_a5_a8 : a5 ≠ a8 := gM_nn na8 k95
  have k105 := (congrFun eM99 a5).trans (mu_g k95 d_a5_a8)
  have d_a6_a8 : a6 ≠ a8 := gM_nn na8 k96
  have k106 := (congrFun eM99 a6).trans (mu_g k96 d_a6_a8)
  have d_a7_a8 : a7 ≠ a8 := gM_nn na8 k97
  have k107 := (congrFun eM99 a7).trans (mu_g k97 d_a7_a8)
  have k108 : M99 a8 = some (.inl (G.2 1, 6144, .inl (fun _ => 0))) := by rw [eM99]; exact mu_s _ _ _
  have f109 : ∀ b e, M b = some e → b ≠ x → M99 b = some e := fun b e hb hne => (congrFun eM99 b).trans (mu_g (f98 b e hb hne) (gM_nn na8 (f98 b e hb hne)))
  have za8 : M a8 = none := fr_none f98 na8 k90
  refine m_putF X iX7 tyX7_ok nmX7 hK hw hS k100 rfl 8 (by decide) (ref := "ObjectMapperModel") (by decide +kernel) (Or.inl rfl) rfl hin rfl (v := .ref a8) rfl rfl (Nat.le_of_ble_eq_true rfl) (fs1 := [.int 0, .ref a1, .ref a2, .ref a3, .ref a4, .ref a5, .ref a6, .ref a7, .ref a8, .null, .null, .null, .null, .null, .int 0, .null]) rfl dX7_init_71 (fun M110 H locs eM110 hw hS => ?_)
  have k111 : M110 x = some (.inr (8, [.int 0, .ref a1, .ref a2, .ref a3, .ref a4, .ref a5, .ref a6, .ref a7, .ref a8, .null, .null, .null, .null, .null, .int 0, .null])) := by rw [eM110]; exact mu_s _ _ _
  have k112 := (congrFun eM110 a1).trans (mu_g k101 (Ne.symm d_x_a1))
  have k113 := (congrFun eM110 a2).trans (mu_g k102 (Ne.symm d_x_a2))
  have k114 := (congrFun eM110 a3).trans (mu_g k103 (Ne.symm d_x_a3))
  have k115 := (congrFun eM110 a4).trans (mu_g k104 (Ne.symm d_x_a4))
  have k116 := (congrFun eM110 a5).trans (mu_g k105 (Ne.symm d_x_a5))
  have k117 := (congrFun eM110 a6).trans (mu_g k106 (Ne.symm d_x_a6))
  have k118 := (congrFun eM110 a7).trans (mu_g k107 (Ne.symm d_x_a7))
  have k119 := (congrFun eM110 a8).trans (mu_g k108 (Ne.symm d_x_a8))
  have f120 : ∀ b e, M b = some e → b ≠ x → M110 b = some e := fun b e hb hne => (congrFun eM110 b).trans (mu_g (f109 b e hb hne) hne)
  refine lv_aload_n hx hb dX7_init_74 rfl (lv_at hl 0 rfl) ?_
  refine lv_sipush (v := 6144) hx hb dX7_init_75 (by decide) ?_
  refine m_newa_int X (by decide +kernel) hK hw hS hA (N' := 6144) (by decide) (by decide) (Nat.le_of_ble_eq_true rfl) (Nat.le_of_ble_eq_true rfl) (Nat.le_of_ble_eq_true rfl) dX7_init_78 (fun a9 M121 H na9 eM121 hw hS => ?_)
  have d_x_a9 : x ≠ a9 := gM_nn na9 k111
  have k122 := (congrFun eM121 x).trans (mu_g k111 d_x_a9)
  have d_a1_a9 : a1 ≠ a9 := gM_nn na9 k112
  have k123 := (congrFun eM121 a1).trans (mu_g k112 d_a1_a9)
  have d_a2_a9 : a2 ≠ a9 := gM_nn na9 k113
  have k124 := (congrFun eM121 a2).trans (mu_g k113 d_a2_a9)
  have d_a3_a9 : a3 ≠ a9 := gM_nn na9 k114
  have k125 := (congrFun eM121 a3).trans (mu_g k114 d_a3_a9)
  have d_a4_a9 : a4 ≠ a9 := gM_nn na9 k115
  have k126 := (congrFun eM121 a4).trans (mu_g k115 d_a4_a9)
  have d_a5_a9 : a5 ≠ a9 := gM_nn na9 k116
  have k127 := (congrFun eM121 a5).trans (mu_g k116 d_a5_a9)
  have d_a6_a9 : a6 ≠ a9 := gM_nn na9 k117
  have k128 := (congrFun eM121 a6).trans (mu_g k117 d_a6_a9)
  have d_a7_a9 : a7 ≠ a9 := gM_nn na9 k118
  have k129 := (congrFun eM121 a7).trans (mu_g k118 d_a7_a9)
  have d_a8_a9 : a8 ≠ a9 := gM_nn na9 k119
  have k130 := (congrFun eM121 a8).trans (mu_g k119 d_a8_a9)
  have k131 : M121 a9 = some (.inl (G.2 0, 6144, .inl (fun _ => 0))) := by rw [eM121]; exact mu_s _ _ _
  have f132 : ∀ b e, M b = some e → b ≠ x → M121 b = some e := fun b e hb hne => (congrFun eM121 b).trans (mu_g (f120 b e hb hne) (gM_nn na9 (f120 b e hb hne)))
  have za9 : M a9 = none := fr_none f120 na9 k111
  refine m_putF X iX7 tyX7_ok nmX7 hK hw hS k122 rfl 9 (by decide) (ref := "ObjectMapperModel") (by decide +kernel) (Or.inl rfl) rfl hin rfl (v := .ref a9) rfl rfl (Nat.le_of_ble_eq_true rfl) (fs1 := [.int 0, .ref a1, .ref a2, .ref a3, .ref a4, .ref a5, .ref a6, .ref a7, .ref a8, .ref a9, .null, .null, .null, .null, .int 0, .null]) rfl dX7_init_80 (fun M133 H locs eM133 hw hS => ?_)
  have k134 : M133 x = some (.inr (8, [.int 0, .ref a1, .ref a2, .ref a3, .ref a4, .ref a5, .ref a6, .ref a7, .ref a8, .ref a9, .null, .null, .null, .null, .int 0, .null])) := by rw [eM133]; exact mu_s _ _ _
  have k135 := (congrFun eM133 a1).trans (mu_g k123 (Ne.symm d_x_a1))
  have k136 := (congrFun eM133 a2).trans (mu_g k124 (Ne.symm d_x_a2))
  have k137 := (congrFun eM133 a3).trans (mu_g k125 (Ne.symm d_x_a3))
  have k138 := (congrFun eM133 a4).trans (mu_g k126 (Ne.symm d_x_a4))
  have k139 := (congrFun eM133 a5).trans (mu_g k127 (Ne.symm d_x_a5))
  have k140 := (congrFun eM133 a6).trans (mu_g k128 (Ne.symm d_x_a6))
  have k141 := (congrFun eM133 a7).trans (mu_g k129 (Ne.symm d_x_a7))
  have k142 := (congrFun eM133 a8).trans (mu_g k130 (Ne.symm d_x_a8))
  have k143 := (congrFun eM133 a9).trans (mu_g k131 (Ne.symm d_x_a9))
  have f144 : ∀ b e, M b = some e → b ≠ x → M133 b = some e := fun b e hb hne => (congrFun eM133 b).trans (mu_g (f132 b e hb hne) hne)
  refine lv_aload_n hx hb dX7_init_83 rfl (lv_at hl 0 rfl) ?_
  refine lv_sipush (v := 6144) hx hb dX7_init_84 (by decide) ?_
  refine m_newa_int X (by decide +kernel) hK hw hS hA (N' := 6144) (by decide) (by decide) (Nat.le_of_ble_eq_true rfl) (Nat.le_of_ble_eq_true rfl) (Nat.le_of_ble_eq_true rfl) dX7_init_87 (fun a10 M145 H na10 eM145 hw hS => ?_)
  have d_x_a10 : x ≠ a10 := gM_nn na10 k134
  have k146 := (congrFun eM145 x).trans (mu_g k134 d_x_a10)
  have d_a1_a10 : a1 ≠ a10 := gM_nn na10 k135
  have k147 := (congrFun eM145 a1).trans (mu_g k135 d_a1_a10)
  have d_a2_a10 : a2 ≠ a10 := gM_nn na10 k136
  have k148 := (congrFun eM145 a2).trans (mu_g k136 d_a2_a10)
  have d_a3_a10 : a3 ≠ a10 := gM_nn na10 k137
  have k149 := (congrFun eM145 a3).trans (mu_g k137 d_a3_a10)
  have d_a4_a10 : a4 ≠ a10 := gM_nn na10 k138
  have k150 := (congrFun eM145 a4).trans (mu_g k138 d_a4_a10)
  have d_a5_a10 : a5 ≠ a10 := gM_nn na10 k139
  have k151 := (congrFun eM145 a5).trans (mu_g k139 d_a5_a10)
  have d_a6_a10 : a6 ≠ a10 := gM_nn na10 k140
  have k152 := (congrFun eM145 a6).trans (mu_g k140 d_a6_a10)
  have d_a7_a10 : a7 ≠ a10 := gM_nn na10 k141
  have k153 := (congrFun eM145 a7).trans (mu_g k141 d_a7_a10)
  have d_a8_a10 : a8 ≠ a10 := gM_nn na10 k142
  have k154 := (congrFun eM145 a8).trans (mu_g k142 d_a8_a10)
  have d_a9_a10 : a9 ≠ a10 := gM_nn na10 k143
  have k155 := (congrFun eM145 a9).trans (mu_g k143 d_a9_a10)
  have k156 : M145 a10 = some (.inl (G.2 0, 6144, .inl (fun _ => 0))) := by rw [eM145]; exact mu_s _ _ _
  have f157 : ∀ b e, M b = some e → b ≠ x → M145 b = some e := fun b e hb hne => (congrFun eM145 b).trans (mu_g (f144 b e hb hne) (gM_nn na10 (f144 b e hb hne)))
  have za10 : M a10 = none := fr_none f144 na10 k134
  refine m_putF X iX7 tyX7_ok nmX7 hK hw hS k146 rfl 10 (by decide) (ref := "ObjectMapperModel") (by decide +kernel) (Or.inl rfl) rfl hin rfl (v := .ref a10) rfl rfl (Nat.le_of_ble_eq_true rfl) (fs1 := [.int 0, .ref a1, .ref a2, .ref a3, .ref a4, .ref a5, .ref a6, .ref a7, .ref a8, .ref a9, .ref a10, .null, .null, .null, .int 0, .null]) rfl dX7_init_89 (fun M158 H locs eM158 hw hS => ?_)
  have k159 : M158 x = some (.inr (8, [.int 0, .ref a1, .ref a2, .ref a3, .ref a4, .ref a5, .ref a6, .ref a7, .ref a8, .ref a9, .ref a10, .null, .null, .null, .int 0, .null])) := by rw [eM158]; exact mu_s _ _ _
  have k160 := (congrFun eM158 a1).trans (mu_g k147 (Ne.symm d_x_a1))
  have k161 := (congrFun eM158 a2).trans (mu_g k148 (Ne.symm d_x_a2))
  have k162 := (congrFun eM158 a3).trans (mu_g k149 (Ne.symm d_x_a3))
  have k163 := (congrFun eM158 a4).trans (mu_g k150 (Ne.symm d_x_a4))
  have k164 := (congrFun eM158 a5).trans (mu_g k151 (Ne.symm d_x_a5))
  have k165 := (congrFun eM158 a6).trans (mu_g k152 (Ne.symm d_x_a6))
  have k166 := (congrFun eM158 a7).trans (mu_g k153 (Ne.symm d_x_a7))
  have k167 := (congrFun eM158 a8).trans (mu_g k154 (Ne.symm d_x_a8))
  have k168 := (congrFun eM158 a9).trans (mu_g k155 (Ne.symm d_x_a9))
  have k169 := (congrFun eM158 a10).trans (mu_g k156 (Ne.symm d_x_a10))
  have f170 : ∀ b e, M b = some e → b ≠ x → M158 b = some e := fun b e hb hne => (congrFun eM158 b).trans (mu_g (f157 b e hb hne) hne)
  refine lv_aload_n hx hb dX7_init_92 rfl (lv_at hl 0 rfl) ?_
  refine lv_sipush (v := 6144) hx hb dX7_init_93 (by decide) ?_
  refine m_newa_int X (by decide +kernel) hK hw hS hA (N' := 6144) (by decide) (by decide) (Nat.le_of_ble_eq_true rfl) (Nat.le_of_ble_eq_true rfl) (Nat.le_of_ble_eq_true rfl) dX7_init_96 (fun a11 M171 H na11 eM171 hw hS => ?_)
  have d_x_a11 : x ≠ a11 := gM_nn na11 k159
  have k172 := (congrFun eM171 x).trans (mu_g k159 d_x_a11)
  have d_a1_a11 : a1 ≠ a11 := gM_nn na11 k160
  have k173 := (congrFun eM171 a1).trans (mu_g k160 d_a1_a11)
  have d_a2_a11 : a2 ≠ a11 := gM_nn na11 k161
  have k174 := (congrFun eM171 a2).trans (mu_g k161 d_a2_a11)
  have d_a3_a11 : a3 ≠ a11 := gM_nn na11 k162
  have k175 := (congrFun eM171 a3).trans (mu_g k162 d_a3_a11)
  have d_a4_a11 : a4 ≠ a11 := gM_nn na11 k163
  have k176 := (congrFun eM171 a4).trans (mu_g k163 d_a4_a11)
  have d_a5_a11 : a5 ≠ a11 := gM_nn na11 k164
  have k177 := (congrFun eM171 a5).trans (mu_g k164 d_a5_a11)
  have d_a6_a11 : a6 ≠ a11 := gM_nn na11 k165
  have k178 := (congrFun eM171 a6).trans (mu_g k165 d_a6_a11)
  have d_a7_a11 : a7 ≠ a11 := gM_nn na11 k166
  have k179 := (congrFun eM171 a7).trans (mu_g k166 d_a7_a11)
  have d_a8_a11 : a8 ≠ a11 := gM_nn na11 k167
  have k180 := (congrFun eM171 a8).trans (mu_g k167 d_a8_a11)
  have d_a9_a11 : a9 ≠ a11 := gM_nn na11 k168
  have k181 := (congrFun eM171 a9).trans (mu_g k168 d_a9_a11)
  have d_a10_a11 : a10 ≠ a11 := gM_nn na11 k169
  have k182 := (congrFun eM171 a10).trans (mu_g k169 d_a10_a11)
  have k183 : M171 a11 = some (.inl (G.2 0, 6144, .inl (fun _ => 0))) := by rw [eM171]; exact mu_s _ _ _
  have f184 : ∀ b e, M b = some e → b ≠ x → M171 b = some e := fun b e hb hne => (congrFun eM171 b).trans (mu_g (f170 b e hb hne) (gM_nn na11 (f170 b e hb hne)))
  have za11 : M a11 = none := fr_none f170 na11 k159
  refine m_putF X iX7 tyX7_ok nmX7 hK hw hS k172 rfl 11 (by decide) (ref := "ObjectMapperModel") (by decide +kernel) (Or.inl rfl) rfl hin rfl (v := .ref a11) rfl rfl (Nat.le_of_ble_eq_true rfl) (fs1 := [.int 0, .ref a1, .ref a2, .ref a3, .ref a4, .ref a5, .ref a6, .ref a7, .ref a8, .ref a9, .ref a10, .ref a11, .null, .null, .int 0, .null]) rfl dX7_init_98 (fun M185 H locs eM185 hw hS => ?_)
  have k186 : M185 x = some (.inr (8, [.int 0, .ref a1, .ref a2, .ref a3, .ref a4, .ref a5, .ref a6, .ref a7, .ref a8, .ref a9, .ref a10, .ref a11, .null, .null, .int 0, .null])) := by rw [eM185]; exact mu_s _ _ _
  have k187 := (congrFun eM185 a1).trans (mu_g k173 (Ne.symm d_x_a1))
  have k188 := (congrFun eM185 a2).trans (mu_g k174 (Ne.symm d_x_a2))
  have k189 := (congrFun eM185 a3).trans (mu_g k175 (Ne.symm d_x_a3))
  have k190 := (congrFun eM185 a4).trans (mu_g k176 (Ne.symm d_x_a4))
  have k191 := (congrFun eM185 a5).trans (mu_g k177 (Ne.symm d_x_a5))
  have k192 := (congrFun eM185 a6).trans (mu_g k178 (Ne.symm d_x_a6))
  have k193 := (congrFun eM185 a7).trans (mu_g k179 (Ne.symm d_x_a7))
  have k194 := (congrFun eM185 a8).trans (mu_g k180 (Ne.symm d_x_a8))
  have k195 := (congrFun eM185 a9).trans (mu_g k181 (Ne.symm d_x_a9))
  have k196 := (congrFun eM185 a10).trans (mu_g k182 (Ne.symm d_x_a10))
  have k197 := (congrFun eM185 a11).trans (mu_g k183 (Ne.symm d_x_a11))
  have f198 : ∀ b e, M b = some e → b ≠ x → M185 b = some e := fun b e hb hne => (congrFun eM185 b).trans (mu_g (f184 b e hb hne) hne)
  refine lv_aload_n hx hb dX7_init_101 rfl (lv_at hl 0 rfl) ?_
  refine lv_sipush (v := 6144) hx hb dX7_init_102 (by decide) ?_
  refine m_newa_int X (by decide +kernel) hK hw hS hA (N' := 6144) (by decide) (by decide) (Nat.le_of_ble_eq_true rfl) (Nat.le_of_ble_eq_true rfl) (Nat.le_of_ble_eq_true rfl) dX7_init_105 (fun a12 M199 H na12 eM199 hw hS => ?_)
  have d_x_a12 : x ≠ a12 := gM_nn na12 k186
  have k200 := (congrFun eM199 x).trans (mu_g k186 d_x_a12)
  have d_a1_a12 : a1 ≠ a12 := gM_nn na12 k187
  have k201 := (congrFun eM199 a1).trans (mu_g k187 d_a1_a12)
  have d_a2_a12 : a2 ≠ a12 := gM_nn na12 k188
  have k202 := (congrFun eM199 a2).trans (mu_g k188 d_a2_a12)
  have d_a3_a12 : a3 ≠ a12 := gM_nn na12 k189
  have k203 := (congrFun eM199 a3).trans (mu_g k189 d_a3_a12)
  have d_a4_a12 : a4 ≠ a12 := gM_nn na12 k190
  have k204 := (congrFun eM199 a4).trans (mu_g k190 d_a4_a12)
  have d_a5_a12 : a5 ≠ a12 := gM_nn na12 k191
  have k205 := (congrFun eM199 a5).trans (mu_g k191 d_a5_a12)
  have d_a6_a12 : a6 ≠ a12 := gM_nn na12 k192
  have k206 := (congrFun eM199 a6).trans (mu_g k192 d_a6_a12)
  have d_a7_a12 : a7 ≠ a12 := gM_nn na12 k193
  have k207 := (congrFun eM199 a7).trans (mu_g k193 d_a7_a12)
  have d_a8_a12 : a8 ≠ a12 := gM_nn na12 k194
  have k208 := (congrFun eM199 a8).trans (mu_g k194 d_a8_a12)
  have d_a9_a12 : a9 ≠ a12 := gM_nn na12 k195
  have k209 := (congrFun eM199 a9).trans (mu_g k195 d_a9_a12)
  have d_a10_a12 : a10 ≠ a12 := gM_nn na12 k196
  have k210 := (congrFun eM199 a10).trans (mu_g k196 d_a10_a12)
  have d_a11_a12 : a11 ≠ a12 := gM_nn na12 k197
  have k211 := (congrFun eM199 a11).trans (mu_g k197 d_a11_a12)
  have k212 : M199 a12 = some (.inl (G.2 0, 6144, .inl (fun _ => 0))) := by rw [eM199]; exact mu_s _ _ _
  have f213 : ∀ b e, M b = some e → b ≠ x → M199 b = some e := fun b e hb hne => (congrFun eM199 b).trans (mu_g (f198 b e hb hne) (gM_nn na12 (f198 b e hb hne)))
  have za12 : M a12 = none := fr_none f198 na12 k186
  refine m_putF X iX7 tyX7_ok nmX7 hK hw hS k200 rfl 12 (by decide) (ref := "ObjectMapperModel") (by decide +kernel) (Or.inl rfl) rfl hin rfl (v := .ref a12) rfl rfl (Nat.le_of_ble_eq_true rfl) (fs1 := [.int 0, .ref a1, .ref a2, .ref a3, .ref a4, .ref a5, .ref a6, .ref a7, .ref a8, .ref a9, .ref a10, .ref a11, .ref a12, .null, .int 0, .null]) rfl dX7_init_107 (fun M214 H locs eM214 hw hS => ?_)
  have k215 : M214 x = some (.inr (8, [.int 0, .ref a1, .ref a2, .ref a3, .ref a4, .ref a5, .ref a6, .ref a7, .ref a8, .ref a9, .ref a10, .ref a11, .ref a12, .null, .int 0, .null])) := by rw [eM214]; exact mu_s _ _ _
  have k216 := (congrFun eM214 a1).trans (mu_g k201 (Ne.symm d_x_a1))
  have k217 := (congrFun eM214 a2).trans (mu_g k202 (Ne.symm d_x_a2))
  have k218 := (congrFun eM214 a3).trans (mu_g k203 (Ne.symm d_x_a3))
  have k219 := (congrFun eM214 a4).trans (mu_g k204 (Ne.symm d_x_a4))
  have k220 := (congrFun eM214 a5).trans (mu_g k205 (Ne.symm d_x_a5))
  have k221 := (congrFun eM214 a6).trans (mu_g k206 (Ne.symm d_x_a6))
  have k222 := (congrFun eM214 a7).trans (mu_g k207 (Ne.symm d_x_a7))
  have k223 := (congrFun eM214 a8).trans (mu_g k208 (Ne.symm d_x_a8))
  have k224 := (congrFun eM214 a9).trans (mu_g k209 (Ne.symm d_x_a9))
  have k225 := (congrFun eM214 a10).trans (mu_g k210 (Ne.symm d_x_a10))
  have k226 := (congrFun eM214 a11).trans (mu_g k211 (Ne.symm d_x_a11))
  have k227 := (congrFun eM214 a12).trans (mu_g k212 (Ne.symm d_x_a12))
  have f228 : ∀ b e, M b = some e → b ≠ x → M214 b = some e := fun b e hb hne => (congrFun eM214 b).trans (mu_g (f213 b e hb hne) hne)
  refine lv_aload_n hx hb dX7_init_110 rfl (lv_at hl 0 rfl) ?_
  refine lv_sipush (v := 6144) hx hb dX7_init_111 (by decide) ?_
  refine m_newa_int X (by decide +kernel) hK hw hS hA (N' := 6144) (by decide) (by decide) (Nat.le_of_ble_eq_true rfl) (Nat.le_of_ble_eq_true rfl) (Nat.le_of_ble_eq_true rfl) dX7_init_114 (fun a13 M229 H na13 eM229 hw hS => ?_)
  have d_x_a13 : x ≠ a13 := gM_nn na13 k215
  have k230 := (congrFun eM229 x).trans (mu_g k215 d_x_a13)
  have d_a1_a13 : a1 ≠ a13 := gM_nn na13 k216
  have k231 := (congrFun eM229 a1).trans (mu_g k216 d_a1_a13)
  have d_a2_a13 : a2 ≠ a13 := gM_nn na13 k217
  have k232 := (congrFun eM229 a2).trans (mu_g k217 d_a2_a13)
  have d_a3_a13 : a3 ≠ a13 := gM_nn na13 k218
  have k233 := (congrFun eM229 a3).trans (mu_g k218 d_a3_a13)
  have d_a4_a13 : a4 ≠ a13 := gM_nn na13 k219
  have k234 := (congrFun eM229 a4).trans (mu_g k219 d_a4_a13)
  have d_a5_a13 : a5 ≠ a13 := gM_nn na13 k220
  have k235 := (congrFun eM229 a5).trans (mu_g k220 d_a5_a13)
  have d_a6_a13 : a6 ≠ a13 := gM_nn na13 k221
  have k236 := (congrFun eM229 a6).trans (mu_g k221 d_a6_a13)
  have d_a7_a13 : a7 ≠ a13 := gM_nn na13 k222
  have k237 := (congrFun eM229 a7).trans (mu_g k222 d_a7_a13)
  have d_a8_a13 : a8 ≠ a13 := gM_nn na13 k223
  have k238 := (congrFun eM229 a8).trans (mu_g k223 d_a8_a13)
  have d_a9_a13 : a9 ≠ a13 := gM_nn na13 k224
  have k239 := (congrFun eM229 a9).trans (mu_g k224 d_a9_a13)
  have d_a10_a13 : a10 ≠ a13 := gM_nn na13 k225
  have k240 := (congrFun eM229 a10).trans (mu_g k225 d_a10_a13)
  have d_a11_a13 : a11 ≠ a13 := gM_nn na13 k226
  have k241 := (congrFun eM229 a11).trans (mu_g k226 d_a11_a13)
  have d_a12_a13 : a12 ≠ a13 := gM_nn na13 k227
  have k242 := (congrFun eM229 a12).trans (mu_g k227 d_a12_a13)
  have k243 : M229 a13 = some (.inl (G.2 0, 6144, .inl (fun _ => 0))) := by rw [eM229]; exact mu_s _ _ _
  have f244 : ∀ b e, M b = some e → b ≠ x → M229 b = some e := fun b e hb hne => (congrFun eM229 b).trans (mu_g (f228 b e hb hne) (gM_nn na13 (f228 b e hb hne)))
  have za13 : M a13 = none := fr_none f228 na13 k215
  refine m_putF X iX7 tyX7_ok nmX7 hK hw hS k230 rfl 13 (by decide) (ref := "ObjectMapperModel") (by decide +kernel) (Or.inl rfl) rfl hin rfl (v := .ref a13) rfl rfl (Nat.le_of_ble_eq_true rfl) (fs1 := [.int 0, .ref a1, .ref a2, .ref a3, .ref a4, .ref a5, .ref a6, .ref a7, .ref a8, .ref a9, .ref a10, .ref a11, .ref a12, .ref a13, .int 0, .null]) rfl dX7_init_116 (fun M245 H locs eM245 hw hS => ?_)
  have k246 : M245 x = some (.inr (8, [.int 0, .ref a1, .ref a2, .ref a3, .ref a4, .ref a5, .ref a6, .ref a7, .ref a8, .ref a9, .ref a10, .ref a11, .ref a12, .ref a13, .int 0, .null])) := by rw [eM245]; exact mu_s _ _ _
  have k247 := (congrFun eM245 a1).trans (mu_g k231 (Ne.symm d_x_a1))
  have k248 := (congrFun eM245 a2).trans (mu_g k232 (Ne.symm d_x_a2))
  have k249 := (congrFun eM245 a3).trans (mu_g k233 (Ne.symm d_x_a3))
  have k250 := (congrFun eM245 a4).trans (mu_g k234 (Ne.symm d_x_a4))
  have k251 := (congrFun eM245 a5).trans (mu_g k235 (Ne.symm d_x_a5))
  have k252 := (congrFun eM245 a6).trans (mu_g k236 (Ne.symm d_x_a6))
  have k253 := (congrFun eM245 a7).trans (mu_g k237 (Ne.symm d_x_a7))
  have k254 := (congrFun eM245 a8).trans (mu_g k238 (Ne.symm d_x_a8))
  have k255 := (congrFun eM245 a9).trans (mu_g k239 (Ne.symm d_x_a9))
  have k256 := (congrFun eM245 a10).trans (mu_g k240 (Ne.symm d_x_a10))
  have k257 := (congrFun eM245 a11).trans (mu_g k241 (Ne.symm d_x_a11))
  have k258 := (congrFun eM245 a12).trans (mu_g k242 (Ne.symm d_x_a12))
  have k259 := (congrFun eM245 a13).trans (mu_g k243 (Ne.symm d_x_a13))
  have f260 : ∀ b e, M b = some e → b ≠ x → M245 b = some e := fun b e hb hne => (congrFun eM245 b).trans (mu_g (f244 b e hb hne) hne)
  refine lv_aload_n hx hb dX7_init_119 rfl (lv_at hl 0 rfl) ?_
  refine lv_sipush (v := 16384) hx hb dX7_init_120 (by decide) ?_
  refine m_newa_int X (by decide +kernel) hK hw hS hA (N' := 16384) (by decide) (by decide) (Nat.le_of_ble_eq_true rfl) (Nat.le_of_ble_eq_true rfl) (Nat.le_of_ble_eq_true rfl) dX7_init_123 (fun a15 M261 H na15 eM261 hw hS => ?_)
  have d_x_a15 : x ≠ a15 := gM_nn na15 k246
  have k262 := (congrFun eM261 x).trans (mu_g k246 d_x_a15)
  have d_a1_a15 : a1 ≠ a15 := gM_nn na15 k247
  have k263 := (congrFun eM261 a1).trans (mu_g k247 d_a1_a15)
  have d_a2_a15 : a2 ≠ a15 := gM_nn na15 k248
  have k264 := (congrFun eM261 a2).trans (mu_g k248 d_a2_a15)
  have d_a3_a15 : a3 ≠ a15 := gM_nn na15 k249
  have k265 := (congrFun eM261 a3).trans (mu_g k249 d_a3_a15)
  have d_a4_a15 : a4 ≠ a15 := gM_nn na15 k250
  have k266 := (congrFun eM261 a4).trans (mu_g k250 d_a4_a15)
  have d_a5_a15 : a5 ≠ a15 := gM_nn na15 k251
  have k267 := (congrFun eM261 a5).trans (mu_g k251 d_a5_a15)
  have d_a6_a15 : a6 ≠ a15 := gM_nn na15 k252
  have k268 := (congrFun eM261 a6).trans (mu_g k252 d_a6_a15)
  have d_a7_a15 : a7 ≠ a15 := gM_nn na15 k253
  have k269 := (congrFun eM261 a7).trans (mu_g k253 d_a7_a15)
  have d_a8_a15 : a8 ≠ a15 := gM_nn na15 k254
  have k270 := (congrFun eM261 a8).trans (mu_g k254 d_a8_a15)
  have d_a9_a15 : a9 ≠ a15 := gM_nn na15 k255
  have k271 := (congrFun eM261 a9).trans (mu_g k255 d_a9_a15)
  have d_a10_a15 : a10 ≠ a15 := gM_nn na15 k256
  have k272 := (congrFun eM261 a10).trans (mu_g k256 d_a10_a15)
  have d_a11_a15 : a11 ≠ a15 := gM_nn na15 k257
  have k273 := (congrFun eM261 a11).trans (mu_g k257 d_a11_a15)
  have d_a12_a15 : a12 ≠ a15 := gM_nn na15 k258
  have k274 := (congrFun eM261 a12).trans (mu_g k258 d_a12_a15)
  have d_a13_a15 : a13 ≠ a15 := gM_nn na15 k259
  have k275 := (congrFun eM261 a13).trans (mu_g k259 d_a13_a15)
  have k276 : M261 a15 = some (.inl (G.2 0, 16384, .inl (fun _ => 0))) := by rw [eM261]; exact mu_s _ _ _
  have f277 : ∀ b e, M b = some e → b ≠ x → M261 b = some e := fun b e hb hne => (congrFun eM261 b).trans (mu_g (f260 b e hb hne) (gM_nn na15 (f260 b e hb hne)))
  have za15 : M a15 = none := fr_none f260 na15 k246
  refine m_putF X iX7 tyX7_ok nmX7 hK hw hS k262 rfl 15 (by decide) (ref := "ObjectMapperModel") (by decide +kernel) (Or.inl rfl) rfl hin rfl (v := .ref a15) rfl rfl (Nat.le_of_ble_eq_true rfl) (fs1 := [.int 0, .ref a1, .ref a2, .ref a3, .ref a4, .ref a5, .ref a6, .ref a7, .ref a8, .ref a9, .ref a10, .ref a11, .ref a12, .ref a13, .int 0, .ref a15]) rfl dX7_init_125 (fun M278 H locs eM278 hw hS => ?_)
  have k279 : M278 x = some (.inr (8, [.int 0, .ref a1, .ref a2, .ref a3, .ref a4, .ref a5, .ref a6, .ref a7, .ref a8, .ref a9, .ref a10, .ref a11, .ref a12, .ref a13, .int 0, .ref a15])) := by rw [eM278]; exact mu_s _ _ _
  have k280 := (congrFun eM278 a1).trans (mu_g k263 (Ne.symm d_x_a1))
  have k281 := (congrFun eM278 a2).trans (mu_g k264 (Ne.symm d_x_a2))
  have k282 := (congrFun eM278 a3).trans (mu_g k265 (Ne.symm d_x_a3))
  have k283 := (congrFun eM278 a4).trans (mu_g k266 (Ne.symm d_x_a4))
  have k284 := (congrFun eM278 a5).trans (mu_g k267 (Ne.symm d_x_a5))
  have k285 := (congrFun eM278 a6).trans (mu_g k268 (Ne.symm d_x_a6))
  have k286 := (congrFun eM278 a7).trans (mu_g k269 (Ne.symm d_x_a7))
  have k287 := (congrFun eM278 a8).trans (mu_g k270 (Ne.symm d_x_a8))
  have k288 := (congrFun eM278 a9).trans (mu_g k271 (Ne.symm d_x_a9))
  have k289 := (congrFun eM278 a10).trans (mu_g k272 (Ne.symm d_x_a10))
  have k290 := (congrFun eM278 a11).trans (mu_g k273 (Ne.symm d_x_a11))
  have k291 := (congrFun eM278 a12).trans (mu_g k274 (Ne.symm d_x_a12))
  have k292 := (congrFun eM278 a13).trans (mu_g k275 (Ne.symm d_x_a13))
  have k293 := (congrFun eM278 a15).trans (mu_g k276 (Ne.symm d_x_a15))
  have f294 : ∀ b e, M b = some e → b ≠ x → M278 b = some e := fun b e hb hne => (congrFun eM278 b).trans (mu_g (f277 b e hb hne) hne)
  refine m_vret X hK hw hS ⟨⟨(fun k => [0, a1, a2, a3, a4, a5, a6, a7, a8, a9, a10, a11, a12, a13, 0, a15].getD k 0), k279, k280, k281, k282, k283, k284, k285, k286, k287, k288, k289, k290, k291, k292, k293, ?_⟩, f294⟩ (by omega) (by omega) dX7_init_128
  intro i j hij hj hi
  rcases (show i = 1 ∨ i = 2 ∨ i = 3 ∨ i = 4 ∨ i = 5 ∨ i = 6 ∨ i = 7 ∨ i = 8 ∨ i = 9 ∨ i = 10 ∨ i = 11 ∨ i = 12 ∨ i = 13 ∨ i = 14 ∨ i = 15 by omega) with rfl | rfl | rfl | rfl | rfl | rfl | rfl | rfl | rfl | rfl | rfl | rfl | rfl | rfl | rfl
  · rcases (show j = 2 ∨ j = 3 ∨ j = 4 ∨ j = 5 ∨ j = 6 ∨ j = 7 ∨ j = 8 ∨ j = 9 ∨ j = 10 ∨ j = 11 ∨ j = 12 ∨ j = 13 ∨ j = 14 ∨ j = 15 by omega) with rfl | rfl | rfl | rfl | rfl | rfl | rfl | rfl | rfl | rfl | rfl | rfl | rfl | rfl
    · exact Or.inl d_a1_a2
    · exact Or.inl d_a1_a3
    · exact Or.inl d_a1_a4
    · exact Or.inl d_a1_a5
    · exact Or.inl d_a1_a6
    · exact Or.inl d_a1_a7
    · exact Or.inl d_a1_a8
    · exact Or.inl d_a1_a9
    · exact Or.inl d_a1_a10
    · exact Or.inl d_a1_a11
    · exact Or.inl d_a1_a12
    · exact Or.inl d_a1_a13
    · exact Or.inr (Or.inr rfl)
    · exact Or.inl d_a1_a15
  · rcases (show j = 3 ∨ j = 4 ∨ j = 5 ∨ j = 6 ∨ j = 7 ∨ j = 8 ∨ j = 9 ∨ j = 10 ∨ j = 11 ∨ j = 12 ∨ j = 13 ∨ j = 14 ∨ j = 15 by omega) with rfl | rfl | rfl | rfl | rfl | rfl | rfl | rfl | rfl | rfl | rfl | rfl | rfl
    · exact Or.inl d_a2_a3
    · exact Or.inl d_a2_a4
    · exact Or.inl d_a2_a5
    · exact Or.inl d_a2_a6
    · exact Or.inl d_a2_a7
    · exact Or.inl d_a2_a8
    · exact Or.inl d_a2_a9
    · exact Or.inl d_a2_a10
    · exact Or.inl d_a2_a11
    · exact Or.inl d_a2_a12
    · exact Or.inl d_a2_a13
    · exact Or.inr (Or.inr rfl)
    · exact Or.inl d_a2_a15
  · rcases (show j = 4 ∨ j = 5 ∨ j = 6 ∨ j = 7 ∨ j = 8 ∨ j = 9 ∨ j = 10 ∨ j = 11 ∨ j = 12 ∨ j = 13 ∨ j = 14 ∨ j = 15 by omega) with rfl | rfl | rfl | rfl | rfl | rfl | rfl | rfl | rfl | rfl | rfl | rfl
    · exact Or.inl d_a3_a4
    · exact Or.inl d_a3_a5
    · exact Or.inl d_a3_a6
    · exact Or.inl d_a3_a7
    · exact Or.inl d_a3_a8
    · exact Or.inl d_a3_a9
    · exact Or.inl d_a3_a10
    · exact Or.inl d_a3_a11
    · exact Or.inl d_a3_a12
    · exact Or.inl d_a3_a13
    · exact Or.inr (Or.inr rfl)
    · exact Or.inl d_a3_a15
  · rcases (show j = 5 ∨ j = 6 ∨ j = 7 ∨ j = 8 ∨ j = 9 ∨ j = 10 ∨ j = 11 ∨ j = 12 ∨ j = 13 ∨ j = 14 ∨ j = 15 by omega) with rfl | rfl | rfl | rfl | rfl | rfl | rfl | rfl | rfl | rfl | rfl
    · exact Or.inl d_a4_a5
    · exact Or.inl d_a4_a6
    · exact Or.inl d_a4_a7
    · exact Or.inl d_a4_a8
    · exact Or.inl d_a4_a9
    · exact Or.inl d_a4_a10
    · exact Or.inl d_a4_a11
    · exact Or.inl d_a4_a12
    · exact Or.inl d_a4_a13
    · exact Or.inr (Or.inr rfl)
    · exact Or.inl d_a4_a15
  · rcases (show j = 6 ∨ j = 7 ∨ j = 8 ∨ j = 9 ∨ j = 10 ∨ j = 11 ∨ j = 12 ∨ j = 13 ∨ j = 14 ∨ j = 15 by omega) with rfl | rfl | rfl | rfl | rfl | rfl | rfl | rfl | rfl | rfl
    · exact Or.inl d_a5_a6
    · exact Or.inl d_a5_a7
    · exact Or.inl d_a5_a8
    · exact Or.inl d_a5_a9
    · exact Or.inl d_a5_a10
    · exact Or.inl d_a5_a11
    · exact Or.inl d_a5_a12
    · exact Or.inl d_a5_a13
    · exact Or.inr (Or.inr rfl)
    · exact Or.inl d_a5_a15
  · rcases (show j = 7 ∨ j = 8 ∨ j = 9 ∨ j = 10 ∨ j = 11 ∨ j = 12 ∨ j = 13 ∨ j = 14 ∨ j = 15 by omega) with rfl | rfl | rfl | rfl | rfl | rfl | rfl | rfl | rfl
    · exact Or.inl d_a6_a7
    · exact Or.inl d_a6_a8
    · exact Or.inl d_a6_a9
    · exact Or.inl d_a6_a10
    · exact Or.inl d_a6_a11
    · exact Or.inl d_a6_a12
    · exact Or.inl d_a6_a13
    · exact Or.inr (Or.inr rfl)
    · exact Or.inl d_a6_a15
  · rcases (show j = 8 ∨ j = 9 ∨ j = 10 ∨ j = 11 ∨ j = 12 ∨ j = 13 ∨ j = 14 ∨ j = 15 by omega) with rfl | rfl | rfl | rfl | rfl | rfl | rfl | rfl
    · exact Or.inl d_a7_a8
    · exact Or.inl d_a7_a9
    · exact Or.inl d_a7_a10
    · exact Or.inl d_a7_a11
    · exact Or.inl d_a7_a12
    · exact Or.inl d_a7_a13
    · exact Or.inr (Or.inr rfl)
    · exact Or.inl d_a7_a15
  · rcases (show j = 9 ∨ j = 10 ∨ j = 11 ∨ j = 12 ∨ j = 13 ∨ j = 14 ∨ j = 15 by omega) with rfl | rfl | rfl | rfl | rfl | rfl | rfl
    · exact Or.inl d_a8_a9
    · exact Or.inl d_a8_a10
    · exact Or.inl d_a8_a11
    · exact Or.inl d_a8_a12
    · exact Or.inl d_a8_a13
    · exact Or.inr (Or.inr rfl)
    · exact Or.inl d_a8_a15
  · rcases (show j = 10 ∨ j = 11 ∨ j = 12 ∨ j = 13 ∨ j = 14 ∨ j = 15 by omega) with rfl | rfl | rfl | rfl | rfl | rfl
    · exact Or.inl d_a9_a10
    · exact Or.inl d_a9_a11
    · exact Or.inl d_a9_a12
    · exact Or.inl d_a9_a13
    · exact Or.inr (Or.inr rfl)
    · exact Or.inl d_a9_a15
  · rcases (show j = 11 ∨ j = 12 ∨ j = 13 ∨ j = 14 ∨ j = 15 by omega) with rfl | rfl | rfl | rfl | rfl
    · exact Or.inl d_a10_a11
    · exact Or.inl d_a10_a12
    · exact Or.inl d_a10_a13
    · exact Or.inr (Or.inr rfl)
    · exact Or.inl d_a10_a15
  · rcases (show j = 12 ∨ j = 13 ∨ j = 14 ∨ j = 15 by omega) with rfl | rfl | rfl | rfl
    · exact Or.inl d_a11_a12
    · exact Or.inl d_a11_a13
    · exact Or.inr (Or.inr rfl)
    · exact Or.inl d_a11_a15
  · rcases (show j = 13 ∨ j = 14 ∨ j = 15 by omega) with rfl | rfl | rfl
    · exact Or.inl d_a12_a13
    · exact Or.inr (Or.inr rfl)
    · exact Or.inl d_a12_a15
  · rcases (show j = 14 ∨ j = 15 by omega) with rfl | rfl
    · exact Or.inr (Or.inr rfl)
    · exact Or.inl d_a13_a15
  · rcases (show j = 15 by omega) with rfl
    exact Or.inr (Or.inl rfl)
  · exact absurd hj (by omega)
def z0C : cZ := (fun _ => 0, fun _ _ => v0R, fun _ _ => v0E, 0, fun _ _ => 0, 64)
theorem cS0_CW {G : gG} {dce x : Nat} {M : gM} {ad : Nat → Nat} (h : cS0 G dce M x ad) (h1 : ad 50 ≠ ad 51) (h2 : dce ≠ ad 3) : ∃ (y : cY) (z : cZ), CW G dce x ad M y z ∧ (∀ u, zN z u = 0) ∧ zW z = 0 ∧ zC z = 64 ∧ yX y 8 = ad 50 ∧ yX y 9 = ad 51 := by
  obtain ⟨hX, hT, hsa, hS, ⟨fa, fr, hj, hja, hjr⟩, hd⟩ := h
  refine ⟨(fun u => if u < 8 then dce else ad (42 + u), fun _ _ => 0), (fun _ => 0, fun _ _ => v0R, fun _ _ => v0E, 0, fun a => if a = 0 then fa else fr, 64), ⟨⟨hX, fun k hk => ⟨(hT k hk).1, (hT k hk).2.2⟩, hsa, fun i hi => ⟨(hS i hi).1, (hS i hi).2.2.2⟩⟩, ?_, ⟨fun u k _ hk => absurd hk (Nat.not_lt_zero k), fun u k _ _ hk => absurd hk (Nat.not_lt_zero k)⟩, ⟨hj, ⟨hja, hjr, Nat.le_refl _, Nat.zero_le _, by show (64 : Nat) ≤ 32768; decide⟩, h1⟩, ?_, fun u _ => Nat.zero_le _⟩, fun _ => rfl, rfl, rfl, rfl, rfl⟩
  · intro u hu
    refine ⟨⟨0, ?_⟩, Or.inl ⟨rfl, if_pos hu⟩⟩
    rw [show yX ((fun u => if u < 8 then dce else ad (42 + u), fun _ _ => 0) : cY) u = dce from if_pos hu]
    rcases (show u = 0 ∨ u = 1 ∨ u = 2 ∨ u = 3 ∨ u = 4 ∨ u = 5 ∨ u = 6 ∨ u = 7 by omega) with rfl | rfl | rfl | rfl | rfl | rfl | rfl | rfl
    · exact (hT 0 (by decide)).2.1
    · exact (hT 1 (by decide)).2.1
    · exact (hS 0 (by decide)).2.1
    · exact (hS 0 (by decide)).2.2.1
    · exact (hS 1 (by decide)).2.1
    · exact (hS 1 (by decide)).2.2.1
    · exact (hS 2 (by decide)).2.1
    · exact (hS 2 (by decide)).2.2.1
  · refine ⟨fun u v hu hv e => ?_, fun u v k l hu _ hk => absurd hk (Nat.not_lt_zero k), fun u k _ hk => absurd hk (Nat.not_lt_zero k), fun u v _ _ h9 => absurd h9 (Nat.not_lt_zero 0), fun u hu => by rw [show yX ((fun u => if u < 8 then dce else ad (42 + u), fun _ _ => 0) : cY) u = dce from if_pos hu]; exact h2⟩
    rcases Nat.lt_trichotomy u v with q | q | q
    · exact absurd e (hd u v q hv)
    · exact q
    · exact absurd e.symm (hd v u q hu)
def w0M : mW := (fun _ => 0, fun _ _ => 0, 0, 0)
theorem mF_MW {G : gG} {M : gM} {x : Nat} {ad : Nat → Nat} (h : mF G M x ad 0) : MW G M x (fun k => if k = 14 then x else ad k) w0M := by
  obtain ⟨hm, h1, m2, m3, m4, m5, m6, m7, m8, m9, m10, m11, m12, m13, m15, hdd⟩ := h
  refine ⟨hm, h1, m2, m3, m4, m5, m6, m7, m8, m9, m10, m11, m12, m13, m15, fun a b ha ha2 hb hb2 h14 h14b e => ?_, fun k _ => Nat.zero_le _⟩
  have e : (if a = 14 then x else ad a) = (if b = 14 then x else ad b) := e
  rw [if_neg h14, if_neg h14b] at e
  rcases Nat.lt_trichotomy a b with q | q | q
  · rcases hdd a b q hb2 ha with r | r | r
    · exact absurd e r
    · exact absurd r h14
    · exact absurd r h14b
  · exact q
  · rcases hdd b a q ha2 hb with r | r | r
    · exact absurd e.symm r
    · exact absurd r h14b
    · exact absurd r h14
theorem w0M_I : mInv w0M := ⟨fun _ _ _ _ q => absurd rfl q, fun _ _ _ _ _ _ q => absurd rfl q, fun _ _ => Nat.zero_le _⟩
/-- the law's numbers -/
def oO (G : gG) (g : Nat → Int64) : va_E := .inl (G.2 2, 1, .inr (.inl g))
def LI (G : gG) (dce x : Nat) (ad : Nat → Nat) (xm : Nat) (adm : Nat → Nat) (oa : Nat) (M : gM) (y : cY) (z : cZ) (w : mW) : Prop := CW G dce x ad M y z ∧ MW G M xm adm w ∧ (∃ g, M oa = some (oO G g)) ∧ (∀ a, 0 < a → a < 16 → yX y 8 ≠ adm a ∧ yX y 9 ≠ adm a) ∧ adm 14 = xm
theorem MW.ty {G : gG} {M : gM} {x : Nat} {ad : Nat → Nat} {w : mW} (h : MW G M x ad w) (h14 : ad 14 = x) {a : Nat} (h0 : 0 < a) (h1 : a < 16) : (∃ c n f, M (ad a) = some (.inl (c, n, .inl f))) ∨ ∃ fs, M (ad a) = some (.inr (8, fs)) := by
  rcases (show a = 14 ∨ a = 1 ∨ a = 2 ∨ a = 3 ∨ a = 4 ∨ a = 5 ∨ a = 6 ∨ a = 7 ∨ a = 8 ∨ a = 9 ∨ a = 10 ∨ a = 11 ∨ a = 12 ∨ a = 13 ∨ a = 15 by omega) with rfl | rfl | rfl | rfl | rfl | rfl | rfl | rfl | rfl | rfl | rfl | rfl | rfl | rfl | rfl
  · exact Or.inr ⟨_, by rw [h14]; exact h.1⟩
  · exact Or.inl ⟨_, _, _, h.a1⟩
  · exact Or.inl ⟨_, _, _, h.a2⟩
  · exact Or.inl ⟨_, _, _, h.a3⟩
  · exact Or.inl ⟨_, _, _, h.a4⟩
  · exact Or.inl ⟨_, _, _, h.a5⟩
  · exact Or.inl ⟨_, _, _, h.a6⟩
  · exact Or.inl ⟨_, _, _, h.a7⟩
  · exact Or.inl ⟨_, _, _, h.a8⟩
  · exact Or.inl ⟨_, _, _, h.a9⟩
  · exact Or.inl ⟨_, _, _, h.a10⟩
  · exact Or.inl ⟨_, _, _, h.a11⟩
  · exact Or.inl ⟨_, _, _, h.a12⟩
  · exact Or.inl ⟨_, _, _, h.a13⟩
  · exact Or.inl ⟨_, _, _, h.a15⟩
/-- what the mapper owns is of its own kinds -/
theorem CW.own {G : gG} {dce x : Nat} {ad : Nat → Nat} {M : gM} {y : cY} {z : cZ} (h : CW G dce x ad M y z) {b : Nat} (hb : cOwn ad y z dce b) : (b = yX y 8 ∨ b = yX y 9) ∨ (∃ k fs, M b = some (.inr (k, fs)) ∧ k ≠ 8) ∨ ∃ c n f, M b = some (.inl (c, n, .inr (.inr (.inr (.inr f))))) := by
  obtain ⟨-, hL, hEl, ⟨hj, -⟩, -, -⟩ := h
  rcases hb with ⟨u, hu, e⟩ | ⟨u, hu, e, h0⟩ | ⟨u, k, hu, hk, e⟩ | e
  · obtain ⟨⟨mc, h1⟩, -⟩ := hL u hu
    exact Or.inr (Or.inl ⟨0, _, by rw [e]; exact h1, by decide⟩)
  · by_cases h8 : u < 8
    · rcases (hL u h8).2 with ⟨h1, -⟩ | ⟨c0, g0, h1, -⟩
      · have := h0 h8
        omega
      · exact Or.inr (Or.inr ⟨_, _, _, by rw [e]; exact h1⟩)
    · rcases (show u = 8 ∨ u = 9 by omega) with rfl | rfl
      · exact Or.inl (Or.inl e)
      · exact Or.inl (Or.inr e)
  · by_cases h2 : u < 2
    · obtain ⟨fs, hfs⟩ := eR_c (zR z u k)
      exact Or.inr (Or.inl ⟨4, fs, by rw [e, hEl.1 u k h2 hk, hfs], by decide⟩)
    · obtain ⟨fs, hfs⟩ := eE_c (zE z u k)
      exact Or.inr (Or.inl ⟨1, fs, by rw [e, hEl.2 u k (by omega) hu hk, hfs], by decide⟩)
  · exact Or.inr (Or.inl ⟨3, _, by rw [e]; exact hj, by decide⟩)
theorem CW.j8 {G : gG} {dce x : Nat} {ad : Nat → Nat} {M : gM} {y : cY} {z : cZ} (h : CW G dce x ad M y z) : (∃ c n f, M (yX y 8) = some (.inl (c, n, .inl f))) ∧ ∃ c n f, M (yX y 9) = some (.inl (c, n, .inl f)) := ⟨⟨_, _, _, h.2.2.2.1.2.1.1⟩, ⟨_, _, _, h.2.2.2.1.2.1.2.1⟩⟩
theorem CW.nO {G : gG} {dce x oa : Nat} {ad : Nat → Nat} {M : gM} {y : cY} {z : cZ} {g : Nat → Int64} (h : CW G dce x ad M y z) (ho : M oa = some (oO G g)) : ¬ cOwn ad y z dce oa := fun hb => by
  rcases h.own hb with (e | e) | ⟨k, fs, e, -⟩ | ⟨c, n, f, e⟩
  · obtain ⟨⟨c, n, f, h8⟩, -⟩ := h.j8
    rw [← e, ho] at h8
    simp [oO] at h8
  · obtain ⟨-, ⟨c, n, f, h8⟩⟩ := h.j8
    rw [← e, ho] at h8
    simp [oO] at h8
  · rw [ho] at e
    simp [oO] at e
  · rw [ho] at e
    simp [oO] at e
theorem LI.nM {G : gG} {dce x xm oa : Nat} {ad adm : Nat → Nat} {M : gM} {y : cY} {z : cZ} {w : mW} (h : LI G dce x ad xm adm oa M y z w) {b : Nat} (hb : mOwn xm adm b) : ¬ cOwn ad y z dce b := fun hc => by
  obtain ⟨h1, h2, -, h4, h5⟩ := h
  have hx : mOwn xm adm b → (∃ a, 0 < a ∧ a < 16 ∧ b = adm a) := fun q => by
    rcases q with q | q
    · exact ⟨14, by decide, by decide, by rw [h5]; exact q⟩
    · exact q
  obtain ⟨a, ha, ha2, e⟩ := hx hb
  have ty := h2.ty h5 ha ha2
  rcases h1.own hc with (q | q) | ⟨k, fs, q, hk⟩ | ⟨c, n, f, q⟩
  · exact (h4 a ha ha2).1 (by rw [← q, e])
  · exact (h4 a ha ha2).2 (by rw [← q, e])
  · rw [e] at q
    rcases ty with ⟨c, n, f, t⟩ | ⟨fs2, t⟩
    · rw [t] at q
      simp at q
    · rw [t] at q
      simp at q
      exact hk q.1.symm
  · rw [e] at q
    rcases ty with ⟨c2, n2, f2, t⟩ | ⟨fs2, t⟩
    · rw [t] at q
      simp at q
    · rw [t] at q
      simp at q
theorem MW.mono {G : gG} {M M1 : gM} {x : Nat} {ad : Nat → Nat} {w : mW} (h : MW G M x ad w) (t : ∀ b e, M b = some e → mOwn x ad b → M1 b = some e) : MW G M1 x ad w :=
  ⟨t _ _ h.1 (Or.inl rfl), t _ _ h.a1 (Or.inr ⟨1, by decide, by decide, rfl⟩), t _ _ h.a2 (Or.inr ⟨2, by decide, by decide, rfl⟩), t _ _ h.a3 (Or.inr ⟨3, by decide, by decide, rfl⟩), t _ _ h.a4 (Or.inr ⟨4, by decide, by decide, rfl⟩), t _ _ h.a5 (Or.inr ⟨5, by decide, by decide, rfl⟩), t _ _ h.a6 (Or.inr ⟨6, by decide, by decide, rfl⟩), t _ _ h.a7 (Or.inr ⟨7, by decide, by decide, rfl⟩), t _ _ h.a8 (Or.inr ⟨8, by decide, by decide, rfl⟩), t _ _ h.a9 (Or.inr ⟨9, by decide, by decide, rfl⟩), t _ _ h.a10 (Or.inr ⟨10, by decide, by decide, rfl⟩), t _ _ h.a11 (Or.inr ⟨11, by decide, by decide, rfl⟩), t _ _ h.a12 (Or.inr ⟨12, by decide, by decide, rfl⟩), t _ _ h.a13 (Or.inr ⟨13, by decide, by decide, rfl⟩), t _ _ h.a15 (Or.inr ⟨15, by decide, by decide, rfl⟩), h.dis, fun k hk => h.kb hk⟩
/-- the mapper has done a call -/
theorem LI.cls {G : gG} {dce x xm oa : Nat} {ad adm : Nat → Nat} {M M1 : gM} {y y1 : cY} {z z1 : cZ} {w : mW} {g : Nat → Int64} (h : LI G dce x ad xm adm oa M y z w) (hc : CW G dce x ad M1 y1 z1) (ho : M1 oa = some (oO G g)) (hs : (∀ b e, M b = some e → ¬ cOwn ad y z dce b → b ≠ oa → M1 b = some e) ∧ ∀ b, cOwn ad y1 z1 dce b → cOwn ad y z dce b ∨ M b = none) : LI G dce x ad xm adm oa M1 y1 z1 w := by
  have hn := fun {b : Nat} (q : mOwn xm adm b) => h.nM q
  obtain ⟨h1, h2, ⟨g0, h3⟩, h4, h5⟩ := h
  refine ⟨hc, h2.mono (fun b e hb hm => hs.1 b e hb (hn hm) (fun q => ?_)), ⟨g, ho⟩, fun a ha ha2 => ?_, h5⟩
  · rcases hm with q2 | ⟨a, ha, ha2, q2⟩
    · have h9 := h2.1
      rw [← q2, q, h3] at h9
      simp [oO, oM] at h9
    · rw [q, h3] at hb
      rcases h2.ty h5 ha ha2 with ⟨c, n, f, t⟩ | ⟨fs, t⟩
      · rw [← q2, q, h3] at t
        simp [oO] at t
      · rw [← q2, q, h3] at t
        simp [oO] at t
  · have hk : ∀ b, cOwn ad y1 z1 dce b → b ≠ adm a := fun b hb q => by
      rcases hs.2 b hb with r | r
      · exact hn (Or.inr ⟨a, ha, ha2, q⟩) r
      · rcases h2.ty h5 ha ha2 with ⟨c, n, f, t⟩ | ⟨fs, t⟩
        · rw [← q, r] at t
          cases t
        · rw [← q, r] at t
          cases t
    exact ⟨hk _ (Or.inr (Or.inl ⟨8, by decide, rfl, fun q => absurd q (by decide)⟩)), hk _ (Or.inr (Or.inl ⟨9, by decide, rfl, fun q => absurd q (by decide)⟩))⟩
theorem CW.fr {G : gG} {dce x : Nat} {ad : Nat → Nat} {M M1 : gM} {y : cY} {z : cZ} (h : CW G dce x ad M y z) (t : ∀ b k fs, M b = some (.inr (k, fs)) → k ≠ 8 → M1 b = some (.inr (k, fs))) (t2 : ∀ b c n f, M b = some (.inl (c, n, .inr (.inr (.inr (.inr f))))) → M1 b = some (.inl (c, n, .inr (.inr (.inr (.inr f)))))) (t8 : ∀ e, M (yX y 8) = some e → M1 (yX y 8) = some e) (t9 : ∀ e, M (yX y 9) = some e → M1 (yX y 9) = some e) : CW G dce x ad M1 y z := by
  obtain ⟨⟨hX, hT, ⟨f, hsa, hf⟩, hS⟩, hL, hEl, ⟨hj, ⟨hj1, hj2, hj3⟩, hj4⟩, hD, hn⟩ := h
  have tR : ∀ b v, M b = some (eR v) → M1 b = some (eR v) := fun b v hb => by
    obtain ⟨fs, hfs⟩ := eR_c v
    rw [hfs] at hb ⊢
    exact t _ _ _ hb (by decide)
  have tE : ∀ b v, M b = some (eE v) → M1 b = some (eE v) := fun b v hb => by
    obtain ⟨fs, hfs⟩ := eE_c v
    rw [hfs] at hb ⊢
    exact t _ _ _ hb (by decide)
  refine ⟨⟨t _ _ _ hX (by decide), fun k hk => ⟨t _ _ _ (hT k hk).1 (by decide), tR _ _ (hT k hk).2⟩, ⟨f, t2 _ _ _ _ hsa, hf⟩, fun i hi => ⟨t _ _ _ (hS i hi).1 (by decide), tE _ _ (hS i hi).2⟩⟩, ?_, ⟨fun a b ha hb => tR _ _ (hEl.1 a b ha hb), fun a b ha hb hc => tE _ _ (hEl.2 a b ha hb hc)⟩, ⟨t _ _ _ hj (by decide), ⟨t8 _ hj1, t9 _ hj2, hj3⟩, hj4⟩, hD, hn⟩
  intro v hv
  obtain ⟨⟨mc, q1⟩, q2⟩ := hL v hv
  refine ⟨⟨mc, t _ _ _ q1 (by decide)⟩, ?_⟩
  rcases q2 with q2 | ⟨cap, g, q2, q3⟩
  · exact Or.inl q2
  · exact Or.inr ⟨cap, g, t2 _ _ _ _ q2, q3⟩
/-- the law's number is written -/
theorem CW.out {G : gG} {dce x oa : Nat} {ad : Nat → Nat} {M M1 : gM} {y : cY} {z : cZ} {g g1 : Nat → Int64} (h : CW G dce x ad M y z) (ho : M oa = some (oO G g)) (e : M1 = mu M oa (oO G g1)) : CW G dce x ad M1 y z := by
  have t : ∀ b w, M b = some w → w ≠ oO G g → M1 b = some w := fun b w hb hy => by
    rw [e]
    exact mu_g hb (gM_ne hb ho hy)
  refine h.fr (fun b k fs hb _ => t _ _ hb (by simp [oO])) (fun b c n f hb => t _ _ hb (by simp [oO])) (fun e hb => t _ _ hb ?_) (fun e hb => t _ _ hb ?_)
  · obtain ⟨⟨c, n, f, h8⟩, -⟩ := h.j8
    rw [h8] at hb
    cases hb
    simp [oO]
  · obtain ⟨-, ⟨c, n, f, h8⟩⟩ := h.j8
    rw [h8] at hb
    cases hb
    simp [oO]
/-- the reference has done a call -/
theorem LI.mdl {G : gG} {dce x xm oa : Nat} {ad adm : Nat → Nat} {M M1 : gM} {y : cY} {z : cZ} {w w1 : mW} (h : LI G dce x ad xm adm oa M y z w) (hm : MW G M1 xm adm w1) (hf : mFr xm adm M M1) : LI G dce x ad xm adm oa M1 y z w1 ∧ ∀ g, M oa = some (oO G g) → M1 oa = some (oO G g) := by
  obtain ⟨h1, h2, ⟨g0, h3⟩, h4, h5⟩ := h
  have nt : ∀ b e, M b = some e → (∀ fs, e ≠ .inr (8, fs)) → (∀ c n f, e ≠ .inl (c, n, .inl f)) → M1 b = some e := fun b e hb t1 t2 => by
    rw [hf b (fun q => ?_)]
    · exact hb
    · have hx : ∃ a, 0 < a ∧ a < 16 ∧ b = adm a := by
        rcases q with q | q
        · exact ⟨14, by decide, by decide, by rw [h5]; exact q⟩
        · exact q
      obtain ⟨a, ha, ha2, q2⟩ := hx
      rcases h2.ty h5 ha ha2 with ⟨c, n, f, t⟩ | ⟨fs, t⟩
      · rw [← q2, hb] at t
        cases t
        exact t2 _ _ _ rfl
      · rw [← q2, hb] at t
        cases t
        exact t1 _ rfl
  have nj : ∀ q, (∀ a, 0 < a → a < 16 → q ≠ adm a) → M1 q = M q := fun q hq => hf q (fun r => by
    rcases r with r | ⟨a, ha, ha2, r⟩
    · exact hq 14 (by decide) (by decide) (by rw [h5]; exact r)
    · exact hq a ha ha2 r)
  have ho : ∀ g, M oa = some (oO G g) → M1 oa = some (oO G g) := fun g hg => nt _ _ hg (by simp [oO]) (by simp [oO])
  exact ⟨⟨h1.fr (fun b k fs hb hk => nt _ _ hb (fun fs2 q => by simp at q; exact hk q.1) (by simp)) (fun b c n f hb => nt _ _ hb (by simp) (by simp)) (fun e hb => by rw [nj _ (fun a ha ha2 => (h4 a ha ha2).1)]; exact hb) (fun e hb => by rw [nj _ (fun a ha ha2 => (h4 a ha ha2).2)]; exact hb), hm, ⟨g0, ho g0 h3⟩, h4, h5⟩, ho⟩
