def oM (th wr : Int32) (ad : Nat → Nat) : va_E := .inr (8, [.int th, .ref (ad 1), .ref (ad 2), .ref (ad 3), .ref (ad 4), .ref (ad 5), .ref (ad 6), .ref (ad 7), .ref (ad 8), .ref (ad 9), .ref (ad 10), .ref (ad 11), .ref (ad 12), .ref (ad 13), .int wr, .ref (ad 15)])
def oB (G : gG) (n : Nat) (f : Nat → Int32) : va_E := .inl (G.2 1, n, .inl f)
def aC (si kd : Int32) (b : Bool) : Int32 := if sOK si then (if kOK kd && b then 3 else 2) else 1
/-- a model that nobody has asked for anything yet -/
def mF (G : gG) (M : gM) (x : Nat) (ad : Nat → Nat) (th : Int32) : Prop := M x = some (oM th 0 ad) ∧ M (ad 1) = some (oI G 2 (fun _ => 0)) ∧ M (ad 2) = some (oB G 2048 (fun _ => 0)) ∧ M (ad 3) = some (oI G 2048 (fun _ => 0)) ∧ M (ad 4) = some (oI G 2048 (fun _ => 0)) ∧ M (ad 5) = some (oI G 2048 (fun _ => 0)) ∧ M (ad 6) = some (oB G 2048 (fun _ => 0)) ∧ M (ad 7) = some (oI G 6144 (fun _ => 0)) ∧ M (ad 8) = some (oB G 6144 (fun _ => 0)) ∧ M (ad 9) = some (oI G 6144 (fun _ => 0)) ∧ M (ad 10) = some (oI G 6144 (fun _ => 0)) ∧ M (ad 11) = some (oI G 6144 (fun _ => 0)) ∧ M (ad 12) = some (oI G 6144 (fun _ => 0)) ∧ M (ad 13) = some (oI G 6144 (fun _ => 0)) ∧ M (ad 15) = some (oI G 16384 (fun _ => 0)) ∧ (∀ i j, i < j → j < 16 → 0 < i → ad i ≠ ad j ∨ i = 14 ∨ j = 14)
set_option maxHeartbeats 4000000 in
set_option maxRecDepth 100000 in
theorem c_X7_init (l : Launch) (G : gG) (dce sz : Nat) (M : gM) (x : Nat) (hv : M x = some (.inr (8, [.int 0, .null, .null, .null, .null, .null, .null, .null, .null, .null, .null, .null, .null, .null, .int 0, .null]))) : mV l yX7_init wsX7_init ({ frames := 1, cells := 14, slots := 69634, locals := 12 }) G dce sz M [.ref x] (fun M' => (∃ ad : Nat → Nat, mF G M' x ad 0) ∧ ∀ b e, M b = some e → b ≠ x → M' b = some e) (14) (69634) := by
  refine wMet (Qc := QV G _) (cc := cX7_init) (maxL := 1) (ret := none) (by decide) rfl (Nat.le_of_ble_eq_true rfl) ?_
  intro p e s m below meth c A ls X hnm hw hK hZ hA hS hsz eA hl
  obtain ⟨hx, hb, hr, hts, hown, hlk, hml⟩ := id X
  have hl : lv_has ls 1 [(0, .ref x)] := hl
  have hin : meth.name = "<init>" := hnm
  have iX7 : ∀ w ∈ wsX70, w ∈ wsX7_init := by decide +kernel
  have f0 : ∀ b e, M b = some e → b ≠ x → M b = some e := fun _ _ h _ => h
  refine lv_aload_n hx hb dX7_init_0 rfl (lv_at hl 0 rfl) ?_
  refine W.objInit hx hb hown (hts (.methodLink RX7 1 objectInit) (by decide +kernel)) (hts (.instanceMethod objectInit) (by decide +kernel)) (hts (.code objectInit ⟨#[0xb1]⟩ 1 none) (by decide +kernel)) rfl (by rw [hml]; exact hl.1) rfl dX7_init_1 (Nat.le_of_ble_eq_true rfl) (Nat.le_of_ble_eq_true rfl) ?_
  refine W.eq (g2 := F0 m 4 ls []) rfl ?_
  refine lv_aload_n hx hb dX7_init_4 rfl (lv_at hl 0 rfl) ?_
  refine lv_iconst (v := 2) hx hb dX7_init_5 (by decide) ?_
  refine m_newa_int X (by decide +kernel) hK hw hS hA (N' := 2) (by decide) (by decide) (Nat.le_of_ble_eq_true rfl) (Nat.le_of_ble_eq_true rfl) (Nat.le_of_ble_eq_true rfl) dX7_init_6 (fun a1 M1 H na1 eM1 hw hS => ?_)
  have d_x_a1 : x ≠ a1 := gM_nn na1 hv
  have k2 := (congrFun eM1 x).trans (mu_g hv d_x_a1)
  have k3 : M1 a1 = some (.inl (G.2 0, 2, .inl (fun _ => 0))) := by rw [eM1]; exact mu_s _ _ _
  have f4 : ∀ b e, M b = some e → b ≠ x → M1 b = some e := fun b e hb hne => (congrFun eM1 b).trans (mu_g (f0 b e hb hne) (gM_nn na1 (f0 b e hb hne)))
  have za1 : M a1 = none := fr_none f0 na1 hv
  refine m_putF X iX7 tyX7_ok nmX7 hK hw hS k2 rfl 1 (by decide) (ref := "ObjectMapperModel") (by decide +kernel) (Or.inl rfl) rfl hin rfl (v := .ref a1) rfl rfl (Nat.le_of_ble_eq_true rfl) (fs1 := [.int 0, .ref a1, .null, .null, .null, .null, .null, .null, .null, .null, .null, .null, .null, .null, .int 0, .null]) rfl dX7_init_8 (fun M5 H locs eM5 hw hS => ?_)
  have k6 : M5 x = some (.inr (8, [.int 0, .ref a1, .null, .null, .null, .null, .null, .null, .null, .null, .null, .null, .null, .null, .int 0, .null])) := by rw [eM5]; exact mu_s _ _ _
  have k7 := (congrFun eM5 a1).trans (mu_g k3 (Ne.symm d_x_a1))
  have f8 : ∀ b e, M b = some e → b ≠ x → M5 b = some e := fun b e hb hne => (congrFun eM5 b).trans (mu_g (f4 b e hb hne) hne)
  refine lv_aload_n hx hb dX7_init_11 rfl (lv_at hl 0 rfl) ?_
  refine lv_sipush (v := 2048) hx hb dX7_init_12 (by decide) ?_
  refine m_newa_bool X (by decide +kernel) hK hw hS hA (N' := 2048) (by decide) (by decide) (Nat.le_of_ble_eq_true rfl) (Nat.le_of_ble_eq_true rfl) (Nat.le_of_ble_eq_true rfl) dX7_init_15 (fun a2 M9 H na2 eM9 hw hS => ?_)
  have d_x_a2 : x ≠ a2 := gM_nn na2 k6
  have k10 := (congrFun eM9 x).trans (mu_g k6 d_x_a2)
  have d_a1_a2 : a1 ≠ a2 := gM_nn na2 k7
  have k11 := (congrFun eM9 a1).trans (mu_g k7 d_a1_a2)
  have k12 : M9 a2 = some (.inl (G.2 1, 2048, .inl (fun _ => 0))) := by rw [eM9]; exact mu_s _ _ _
  have f13 : ∀ b e, M b = some e → b ≠ x → M9 b = some e := fun b e hb hne => (congrFun eM9 b).trans (mu_g (f8 b e hb hne) (gM_nn na2 (f8 b e hb hne)))
  have za2 : M a2 = none := fr_none f8 na2 k6
  refine m_putF X iX7 tyX7_ok nmX7 hK hw hS k10 rfl 2 (by decide) (ref := "ObjectMapperModel") (by decide +kernel) (Or.inl rfl) rfl hin rfl (v := .ref a2) rfl rfl (Nat.le_of_ble_eq_true rfl) (fs1 := [.int 0, .ref a1, .ref a2, .null, .null, .null, .null, .null, .null, .null, .null, .null, .null, .null, .int 0, .null]) rfl dX7_init_17 (fun M14 H locs eM14 hw hS => ?_)
  have k15 : M14 x = some (.inr (8, [.int 0, .ref a1, .ref a2, .null, .null, .null, .null, .null, .null, .null, .null, .null, .null, .null, .int 0, .null])) := by rw [eM14]; exact mu_s _ _ _
  have k16 := (congrFun eM14 a1).trans (mu_g k11 (Ne.symm d_x_a1))
  have k17 := (congrFun eM14 a2).trans (mu_g k12 (Ne.symm d_x_a2))
  have f18 : ∀ b e, M b = some e → b ≠ x → M14 b = some e := fun b e hb hne => (congrFun eM14 b).trans (mu_g (f13 b e hb hne) hne)
  refine lv_aload_n hx hb dX7_init_20 rfl (lv_at hl 0 rfl) ?_
  refine lv_sipush (v := 2048) hx hb dX7_init_21 (by decide) ?_
  refine m_newa_int X (by decide +kernel) hK hw hS hA (N' := 2048) (by decide) (by decide) (Nat.le_of_ble_eq_true rfl) (Nat.le_of_ble_eq_true rfl) (Nat.le_of_ble_eq_true rfl) dX7_init_24 (fun a3 M19 H na3 eM19 hw hS => ?_)
  have d_x_a3 : x ≠ a3 := gM_nn na3 k15
  have k20 := (congrFun eM19 x).trans (mu_g k15 d_x_a3)
  have d_a1_a3 : a1 ≠ a3 := gM_nn na3 k16
  have k21 := (congrFun eM19 a1).trans (mu_g k16 d_a1_a3)
  have d_a2_a3 : a2 ≠ a3 := gM_nn na3 k17
  have k22 := (congrFun eM19 a2).trans (mu_g k17 d_a2_a3)
  have k23 : M19 a3 = some (.inl (G.2 0, 2048, .inl (fun _ => 0))) := by rw [eM19]; exact mu_s _ _ _
  have f24 : ∀ b e, M b = some e → b ≠ x → M19 b = some e := fun b e hb hne => (congrFun eM19 b).trans (mu_g (f18 b e hb hne) (gM_nn na3 (f18 b e hb hne)))
  have za3 : M a3 = none := fr_none f18 na3 k15
  refine m_putF X iX7 tyX7_ok nmX7 hK hw hS k20 rfl 3 (by decide) (ref := "ObjectMapperModel") (by decide +kernel) (Or.inl rfl) rfl hin rfl (v := .ref a3) rfl rfl (Nat.le_of_ble_eq_true rfl) (fs1 := [.int 0, .ref a1, .ref a2, .ref a3, .null, .null, .null, .null, .null, .null, .null, .null, .null, .null, .int 0, .null]) rfl dX7_init_26 (fun M25 H locs eM25 hw hS => ?_)
  have k26 : M25 x = some (.inr (8, [.int 0, .ref a1, .ref a2, .ref a3, .null, .null, .null, .null, .null, .null, .null, .null, .null, .null, .int 0, .null])) := by rw [eM25]; exact mu_s _ _ _
  have k27 := (congrFun eM25 a1).trans (mu_g k21 (Ne.symm d_x_a1))
  have k28 := (congrFun eM25 a2).trans (mu_g k22 (Ne.symm d_x_a2))
  have k29 := (congrFun eM25 a3).trans (mu_g k23 (Ne.symm d_x_a3))
  have f30 : ∀ b e, M b = some e → b ≠ x → M25 b = some e := fun b e hb hne => (congrFun eM25 b).trans (mu_g (f24 b e hb hne) hne)
  refine lv_aload_n hx hb dX7_init_29 rfl (lv_at hl 0 rfl) ?_
  refine lv_sipush (v := 2048) hx hb dX7_init_30 (by decide) ?_
  refine m_newa_int X (by decide +kernel) hK hw hS hA (N' := 2048) (by decide) (by decide) (Nat.le_of_ble_eq_true rfl) (Nat.le_of_ble_eq_true rfl) (Nat.le_of_ble_eq_true rfl) dX7_init_33 (fun a4 M31 H na4 eM31 hw hS => ?_)
  have d_x_a4 : x ≠ a4 := gM_nn na4 k26
  have k32 := (congrFun eM31 x).trans (mu_g k26 d_x_a4)
  have d_a1_a4 : a1 ≠ a4 := gM_nn na4 k27
  have k33 := (congrFun eM31 a1).trans (mu_g k27 d_a1_a4)
  have d_a2_a4 : a2 ≠ a4 := gM_nn na4 k28
  have k34 := (congrFun eM31 a2).trans (mu_g k28 d_a2_a4)
  have d_a3_a4 : a3 ≠ a4 := gM_nn na4 k29
  have k35 := (congrFun eM31 a3).trans (mu_g k29 d_a3_a4)
  have k36 : M31 a4 = some (.inl (G.2 0, 2048, .inl (fun _ => 0))) := by rw [eM31]; exact mu_s _ _ _
  have f37 : ∀ b e, M b = some e → b ≠ x → M31 b = some e := fun b e hb hne => (congrFun eM31 b).trans (mu_g (f30 b e hb hne) (gM_nn na4 (f30 b e hb hne)))
  have za4 : M a4 = none := fr_none f30 na4 k26
  refine m_putF X iX7 tyX7_ok nmX7 hK hw hS k32 rfl 4 (by decide) (ref := "ObjectMapperModel") (by decide +kernel) (Or.inl rfl) rfl hin rfl (v := .ref a4) rfl rfl (Nat.le_of_ble_eq_true rfl) (fs1 := [.int 0, .ref a1, .ref a2, .ref a3, .ref a4, .null, .null, .null, .null, .null, .null, .null, .null, .null, .int 0, .null]) rfl dX7_init_35 (fun M38 H locs eM38 hw hS => ?_)
  have k39 : M38 x = some (.inr (8, [.int 0, .ref a1, .ref a2, .ref a3, .ref a4, .null, .null, .null, .null, .null, .null, .null, .null, .null, .int 0, .null])) := by rw [eM38]; exact mu_s _ _ _
  have k40 := (congrFun eM38 a1).trans (mu_g k33 (Ne.symm d_x_a1))
  have k41 := (congrFun eM38 a2).trans (mu_g k34 (Ne.symm d_x_a2))
  have k42 := (congrFun eM38 a3).trans (mu_g k35 (Ne.symm d_x_a3))
  have k43 := (congrFun eM38 a4).trans (mu_g k36 (Ne.symm d_x_a4))
  have f44 : ∀ b e, M b = some e → b ≠ x → M38 b = some e := fun b e hb hne => (congrFun eM38 b).trans (mu_g (f37 b e hb hne) hne)
  refine lv_aload_n hx hb dX7_init_38 rfl (lv_at hl 0 rfl) ?_
  refine lv_sipush (v := 2048) hx hb dX7_init_39 (by decide) ?_
  refine m_newa_int X (by decide +kernel) hK hw hS hA (N' := 2048) (by decide) (by decide) (Nat.le_of_ble_eq_true rfl) (Nat.le_of_ble_eq_true rfl) (Nat.le_of_ble_eq_true rfl) dX7_init_42 (fun a5 M45 H na5 eM45 hw hS => ?_)
  have d_x_a5 : x ≠ a5 := gM_nn na5 k39
  have k46 := (congrFun eM45 x).trans (mu_g k39 d_x_a5)
  have d_a1_a5 : a1 ≠ a5 := gM_nn na5 k40
  have k47 := (congrFun eM45 a1).trans (mu_g k40 d_a1_a5)
  have d_a2_a5 : a2 ≠ a5 := gM_nn na5 k41
  have k48 := (congrFun eM45 a2).trans (mu_g k41 d_a2_a5)
  have d_a3_a5 : a3 ≠ a5 := gM_nn na5 k42
  have k49 := (congrFun eM45 a3).trans (mu_g k42 d_a3_a5)
  have d_a4_a5 : a4 ≠ a5 := gM_nn na5 k43
  have k50 := (congrFun eM45 a4).trans (mu_g k43 d_a4_a5)
  have k51 : M45 a5 = some (.inl (G.2 0, 2048, .inl (fun _ => 0))) := by rw [eM45]; exact mu_s _ _ _
  have f52 : ∀ b e, M b = some e → b ≠ x → M45 b = some e := fun b e hb hne => (congrFun eM45 b).trans (mu_g (f44 b e hb hne) (gM_nn na5 (f44 b e hb hne)))
  have za5 : M a5 = none := fr_none f44 na5 k39
  refine m_putF X iX7 tyX7_ok nmX7 hK hw hS k46 rfl 5 (by decide) (ref := "ObjectMapperModel") (by decide +kernel) (Or.inl rfl) rfl hin rfl (v := .ref a5) rfl rfl (Nat.le_of_ble_eq_true rfl) (fs1 := [.int 0, .ref a1, .ref a2, .ref a3, .ref a4, .ref a5, .null, .null, .null, .null, .null, .null, .null, .null, .int 0, .null]) rfl dX7_init_44 (fun M53 H locs eM53 hw hS => ?_)
  have k54 : M53 x = some (.inr (8, [.int 0, .ref a1, .ref a2, .ref a3, .ref a4, .ref a5, .null, .null, .null, .null, .null, .null, .null, .null, .int 0, .null])) := by rw [eM53]; exact mu_s _ _ _
  have k55 := (congrFun eM53 a1).trans (mu_g k47 (Ne.symm d_x_a1))
  have k56 := (congrFun eM53 a2).trans (mu_g k48 (Ne.symm d_x_a2))
  have k57 := (congrFun eM53 a3).trans (mu_g k49 (Ne.symm d_x_a3))
  have k58 := (congrFun eM53 a4).trans (mu_g k50 (Ne.symm d_x_a4))
  have k59 := (congrFun eM53 a5).trans (mu_g k51 (Ne.symm d_x_a5))
  have f60 : ∀ b e, M b = some e → b ≠ x → M53 b = some e := fun b e hb hne => (congrFun eM53 b).trans (mu_g (f52 b e hb hne) hne)
  refine lv_aload_n hx hb dX7_init_47 rfl (lv_at hl 0 rfl) ?_
  refine lv_sipush (v := 2048) hx hb dX7_init_48 (by decide) ?_
  refine m_newa_bool X (by decide +kernel) hK hw hS hA (N' := 2048) (by decide) (by decide) (Nat.le_of_ble_eq_true rfl) (Nat.le_of_ble_eq_true rfl) (Nat.le_of_ble_eq_true rfl) dX7_init_51 (fun a6 M61 H na6 eM61 hw hS => ?_)
  have d_x_a6 : x ≠ a6 := gM_nn na6 k54
  have k62 := (congrFun eM61 x).trans (mu_g k54 d_x_a6)
  have d_a1_a6 : a1 ≠ a6 := gM_nn na6 k55
  have k63 := (congrFun eM61 a1).trans (mu_g k55 d_a1_a6)
  have d_a2_a6 : a2 ≠ a6 := gM_nn na6 k56
  have k64 := (congrFun eM61 a2).trans (mu_g k56 d_a2_a6)
  have d_a3_a6 : a3 ≠ a6 := gM_nn na6 k57
  have k65 := (congrFun eM61 a3).trans (mu_g k57 d_a3_a6)
  have d_a4_a6 : a4 ≠ a6 := gM_nn na6 k58
  have k66 := (congrFun eM61 a4).trans (mu_g k58 d_a4_a6)
  have d_a5_a6 : a5 ≠ a6 := gM_nn na6 k59
  have k67 := (congrFun eM61 a5).trans (mu_g k59 d_a5_a6)
  have k68 : M61 a6 = some (.inl (G.2 1, 2048, .inl (fun _ => 0))) := by rw [eM61]; exact mu_s _ _ _
  have f69 : ∀ b e, M b = some e → b ≠ x → M61 b = some e := fun b e hb hne => (congrFun eM61 b).trans (mu_g (f60 b e hb hne) (gM_nn na6 (f60 b e hb hne)))
  have za6 : M a6 = none := fr_none f60 na6 k54
  refine m_putF X iX7 tyX7_ok nmX7 hK hw hS k62 rfl 6 (by decide) (ref := "ObjectMapperModel") (by decide +kernel) (Or.inl rfl) rfl hin rfl (v := .ref a6) rfl rfl (Nat.le_of_ble_eq_true rfl) (fs1 := [.int 0, .ref a1, .ref a2, .ref a3, .ref a4, .ref a5, .ref a6, .null, .null, .null, .null, .null, .null, .null, .int 0, .null]) rfl dX7_init_53 (fun M70 H locs eM70 hw hS => ?_)
  have k71 : M70 x = some (.inr (8, [.int 0, .ref a1, .ref a2, .ref a3, .ref a4, .ref a5, .ref a6, .null, .null, .null, .null, .null, .null, .null, .int 0, .null])) := by rw [eM70]; exact mu_s _ _ _
  have k72 := (congrFun eM70 a1).trans (mu_g k63 (Ne.symm d_x_a1))
  have k73 := (congrFun eM70 a2).trans (mu_g k64 (Ne.symm d_x_a2))
  have k74 := (congrFun eM70 a3).trans (mu_g k65 (Ne.symm d_x_a3))
  have k75 := (congrFun eM70 a4).trans (mu_g k66 (Ne.symm d_x_a4))
  have k76 := (congrFun eM70 a5).trans (mu_g k67 (Ne.symm d_x_a5))
  have k77 := (congrFun eM70 a6).trans (mu_g k68 (Ne.symm d_x_a6))
  have f78 : ∀ b e, M b = some e → b ≠ x → M70 b = some e := fun b e hb hne => (congrFun eM70 b).trans (mu_g (f69 b e hb hne) hne)
  refine lv_aload_n hx hb dX7_init_56 rfl (lv_at hl 0 rfl) ?_
  refine lv_sipush (v := 6144) hx hb dX7_init_57 (by decide) ?_
  refine m_newa_int X (by decide +kernel) hK hw hS hA (N' := 6144) (by decide) (by decide) (Nat.le_of_ble_eq_true rfl) (Nat.le_of_ble_eq_true rfl) (Nat.le_of_ble_eq_true rfl) dX7_init_60 (fun a7 M79 H na7 eM79 hw hS => ?_)
  have d_x_a7 : x ≠ a7 := gM_nn na7 k71
  have k80 := (congrFun eM79 x).trans (mu_g k71 d_x_a7)
  have d_a1_a7 : a1 ≠ a7 := gM_nn na7 k72
  have k81 := (congrFun eM79 a1).trans (mu_g k72 d_a1_a7)
  have d_a2_a7 : a2 ≠ a7 := gM_nn na7 k73
  have k82 := (congrFun eM79 a2).trans (mu_g k73 d_a2_a7)
  have d_a3_a7 : a3 ≠ a7 := gM_nn na7 k74
  have k83 := (congrFun eM79 a3).trans (mu_g k74 d_a3_a7)
  have d_a4_a7 : a4 ≠ a7 := gM_nn na7 k75
  have k84 := (congrFun eM79 a4).trans (mu_g k75 d_a4_a7)
  have d_a5_a7 : a5 ≠ a7 := gM_nn na7 k76
  have k85 := (congrFun eM79 a5).trans (mu_g k76 d_a5_a7)
  have d_a6_a7 : a6 ≠ a7 := gM_nn na7 k77
  have k86 := (congrFun eM79 a6).trans (mu_g k77 d_a6_a7)
  have k87 : M79 a7 = some (.inl (G.2 0, 6144, .inl (fun _ => 0))) := by rw [eM79]; exact mu_s _ _ _
  have f88 : ∀ b e, M b = some e → b ≠ x → M79 b = some e := fun b e hb hne => (congrFun eM79 b).trans (mu_g (f78 b e hb hne) (gM_nn na7 (f78 b e hb hne)))
  have za7 : M a7 = none := fr_none f78 na7 k71
  refine m_putF X iX7 tyX7_ok nmX7 hK hw hS k80 rfl 7 (by decide) (ref := "ObjectMapperModel") (by decide +kernel) (Or.inl rfl) rfl hin rfl (v := .ref a7) rfl rfl (Nat.le_of_ble_eq_true rfl) (fs1 := [.int 0, .ref a1, .ref a2, .ref a3, .ref a4, .ref a5, .ref a6, .ref a7, .null, .null, .null, .null, .null, .null, .int 0, .null]) rfl dX7_init_62 (fun M89 H locs eM89 hw hS => ?_)
  have k90 : M89 x = some (.inr (8, [.int 0, .ref a1, .ref a2, .ref a3, .ref a4, .ref a5, .ref a6, .ref a7, .null, .null, .null, .null, .null, .null, .int 0, .null])) := by rw [eM89]; exact mu_s _ _ _
  have k91 := (congrFun eM89 a1).trans (mu_g k81 (Ne.symm d_x_a1))
  have k92 := (congrFun eM89 a2).trans (mu_g k82 (Ne.symm d_x_a2))
  have k93 := (congrFun eM89 a3).trans (mu_g k83 (Ne.symm d_x_a3))
  have k94 := (congrFun eM89 a4).trans (mu_g k84 (Ne.symm d_x_a4))
  have k95 := (congrFun eM89 a5).trans (mu_g k85 (Ne.symm d_x_a5))
  have k96 := (congrFun eM89 a6).trans (mu_g k86 (Ne.symm d_x_a6))
  have k97 := (congrFun eM89 a7).trans (mu_g k87 (Ne.symm d_x_a7))
  have f98 : ∀ b e, M b = some e → b ≠ x → M89 b = some e := fun b e hb hne => (congrFun eM89 b).trans (mu_g (f88 b e hb hne) hne)
  refine lv_aload_n hx hb dX7_init_65 rfl (lv_at hl 0 rfl) ?_
  refine lv_sipush (v := 6144) hx hb dX7_init_66 (by decide) ?_
  refine m_newa_bool X (by decide +kernel) hK hw hS hA (N' := 6144) (by decide) (by decide) (Nat.le_of_ble_eq_true rfl) (Nat.le_of_ble_eq_true rfl) (Nat.le_of_ble_eq_true rfl) dX7_init_69 (fun a8 M99 H na8 eM99 hw hS => ?_)
  have d_x_a8 : x ≠ a8 := gM_nn na8 k90
  have k100 := (congrFun eM99 x).trans (mu_g k90 d_x_a8)
  have d_a1_a8 : a1 ≠ a8 := gM_nn na8 k91
  have k101 := (congrFun eM99 a1).trans (mu_g k91 d_a1_a8)
  have d_a2_a8 : a2 ≠ a8 := gM_nn na8 k92
  have k102 := (congrFun eM99 a2).trans (mu_g k92 d_a2_a8)
  have d_a3_a8 : a3 ≠ a8 := gM_nn na8 k93
  have k103 := (congrFun eM99 a3).trans (mu_g k93 d_a3_a8)
  have d_a4_a8 : a4 ≠ a8 := gM_nn na8 k94
  have k104 := (congrFun eM99 a4).trans (mu_g k94 d_a4_a8)
  have d_a5_a8 : a5 ≠ a8 := gM_nn na8 k95
  have k105 := (congrFun eM99 a5).trans (mu_g k95 d_a5_a8)
  have d_a6_a8 : a6 ≠ a8 := gM_nn na8 k96
  have k106 := (congrFun eM99 a6).trans (mu_g k96 d_a6_a8)
  have d_a7_a8 : a7 ≠ a8 := gM_nn na8 k97
  have k107 := (congrFun eM99 a7).trans (mu_g k97 d_a7_a8)
  have k108 : M99 a8 = some (.inl (G.2 1, 6144, .inl (fun _ => 0))) := by rw [eM99]; exact mu_s _ _ _
  have f109 : ∀ b e, M b = some e → b ≠ x → M99 b = some e := fun b e hb hne => (congrFun eM99 b).trans (mu_g (f98 b e hb hne) (gM_nn na8 (f98 b e hb hne)))
  have za8 : M a8 = none := fr_none f98 na8 k90
  refine m_putF X iX7 tyX7_ok nmX7 hK hw hS k100 rfl 8 (by decide) (ref := "ObjectMapperModel") (by decide +kernel) (Or.inl rfl) rfl hin rfl (v := .ref a8) rfl rfl (Nat.le_of_ble_eq_true rfl) (fs1 := [.int 0, .ref a1, .ref a2, .ref a3, .ref a4, .ref a5, .ref a6, .ref a7, .ref a8, .null, .null, .null, .null, .null, .int 0, .null]) rfl dX7_init_71 (fun M110 H locs eM110 hw hS => ?_)
  have k111 : M110 x = some (.inr (8, [.int 0, .ref a1, .ref a2, .ref a3, .ref a4, .ref a5, .ref a6, .ref a7, .ref a8, .null, .null, .null, .null, .null, .int 0, .null])) := by rw [eM110]; exact mu_s _ _ _
  have k112 := (congrFun eM110 a1).trans (mu_g k101 (Ne.symm d_x_a1))
  have k113 := (congrFun eM110 a2).trans (mu_g k102 (Ne.symm d_x_a2))
  have k114 := (congrFun eM110 a3).trans (mu_g k103 (Ne.symm d_x_a3))
  have k115 := (congrFun eM110 a4).trans (mu_g k104 (Ne.symm d_x_a4))
  have k116 := (congrFun eM110 a5).trans (mu_g k105 (Ne.symm d_x_a5))
  have k117 := (congrFun eM110 a6).trans (mu_g k106 (Ne.symm d_x_a6))
  have k118 := (congrFun eM110 a7).trans (mu_g k107 (Ne.symm d_x_a7))
  have k119 := (congrFun eM110 a8).trans (mu_g k108 (Ne.symm d_x_a8))
  have f120 : ∀ b e, M b = some e → b ≠ x → M110 b = some e := fun b e hb hne => (congrFun eM110 b).trans (mu_g (f109 b e hb hne) hne)
  refine lv_aload_n hx hb dX7_init_74 rfl (lv_at hl 0 rfl) ?_
  refine lv_sipush (v := 6144) hx hb dX7_init_75 (by decide) ?_
  refine m_newa_int X (by decide +kernel) hK hw hS hA (N' := 6144) (by decide) (by decide) (Nat.le_of_ble_eq_true rfl) (Nat.le_of_ble_eq_true rfl) (Nat.le_of_ble_eq_true rfl) dX7_init_78 (fun a9 M121 H na9 eM121 hw hS => ?_)
  have d_x_a9 : x ≠ a9 := gM_nn na9 k111
  have k122 := (congrFun eM121 x).trans (mu_g k111 d_x_a9)
  have d_a1_a9 : a1 ≠ a9 := gM_nn na9 k112
  have k123 := (congrFun eM121 a1).trans (mu_g k112 d_a1_a9)
  have d_a2_a9 : a2 ≠ a9 := gM_nn na9 k113
  have k124 := (congrFun eM121 a2).trans (mu_g k113 d_a2_a9)
  have d_a3_a9 : a3 ≠ a9 := gM_nn na9 k114
  have k125 := (congrFun eM121 a3).trans (mu_g k114 d_a3_a9)
  have d_a4_a9 : a4 ≠ a9 := gM_nn na9 k115
  have k126 := (congrFun eM121 a4).trans (mu_g k115 d_a4_a9)
  have d_a5_a9 : a5 ≠ a9 := gM_nn na9 k116
  have k127 := (congrFun eM121 a5).trans (mu_g k116 d_a5_a9)
  have d_a6_a9 : a6 ≠ a9 := gM_nn na9 k117
  have k128 := (congrFun eM121 a6).trans (mu_g k117 d_a6_a9)
  have d_a7_a9 : a7 ≠ a9 := gM_nn na9 k118
  have k129 := (congrFun eM121 a7).trans (mu_g k118 d_a7_a9)
  have d_a8_a9 : a8 ≠ a9 := gM_nn na9 k119
  have k130 := (congrFun eM121 a8).trans (mu_g k119 d_a8_a9)
  have k131 : M121 a9 = some (.inl (G.2 0, 6144, .inl (fun _ => 0))) := by rw [eM121]; exact mu_s _ _ _
  have f132 : ∀ b e, M b = some e → b ≠ x → M121 b = some e := fun b e hb hne => (congrFun eM121 b).trans (mu_g (f120 b e hb hne) (gM_nn na9 (f120 b e hb hne)))
  have za9 : M a9 = none := fr_none f120 na9 k111
  refine m_putF X iX7 tyX7_ok nmX7 hK hw hS k122 rfl 9 (by decide) (ref := "ObjectMapperModel") (by decide +kernel) (Or.inl rfl) rfl hin rfl (v := .ref a9) rfl rfl (Nat.le_of_ble_eq_true rfl) (fs1 := [.int 0, .ref a1, .ref a2, .ref a3, .ref a4, .ref a5, .ref a6, .ref a7, .ref a8, .ref a9, .null, .null, .null, .null, .int 0, .null]) rfl dX7_init_80 (fun M133 H locs eM133 hw hS => ?_)
  have k134 : M133 x = some (.inr (8, [.int 0, .ref a1, .ref a2, .ref a3, .ref a4, .ref a5, .ref a6, .ref a7, .ref a8, .ref a9, .null, .null, .null, .null, .int 0, .null])) := by rw [eM133]; exact mu_s _ _ _
  have k135 := (congrFun eM133 a1).trans (mu_g k123 (Ne.symm d_x_a1))
  have k136 := (congrFun eM133 a2).trans (mu_g k124 (Ne.symm d_x_a2))
  have k137 := (congrFun eM133 a3).trans (mu_g k125 (Ne.symm d_x_a3))
  have k138 := (congrFun eM133 a4).trans (mu_g k126 (Ne.symm d_x_a4))
  have k139 := (congrFun eM133 a5).trans (mu_g k127 (Ne.symm d_x_a5))
  have k140 := (congrFun eM133 a6).trans (mu_g k128 (Ne.symm d_x_a6))
  have k141 := (congrFun eM133 a7).trans (mu_g k129 (Ne.symm d_x_a7))
  have k142 := (congrFun eM133 a8).trans (mu_g k130 (Ne.symm d_x_a8))
  have k143 := (congrFun eM133 a9).trans (mu_g k131 (Ne.symm d_x_a9))
  have f144 : ∀ b e, M b = some e → b ≠ x → M133 b = some e := fun b e hb hne => (congrFun eM133 b).trans (mu_g (f132 b e hb hne) hne)
  refine lv_aload_n hx hb dX7_init_83 rfl (lv_at hl 0 rfl) ?_
  refine lv_sipush (v := 6144) hx hb dX7_init_84 (by decide) ?_
  refine m_newa_int X (by decide +kernel) hK hw hS hA (N' := 6144) (by decide) (by decide) (Nat.le_of_ble_eq_true rfl) (Nat.le_of_ble_eq_true rfl) (Nat.le_of_ble_eq_true rfl) dX7_init_87 (fun a10 M145 H na10 eM145 hw hS => ?_)
  have d_x_a10 : x ≠ a10 := gM_nn na10 k134
  have k146 := (congrFun eM145 x).trans (mu_g k134 d_x_a10)
  have d_a1_a10 : a1 ≠ a10 := gM_nn na10 k135
  have k147 := (congrFun eM145 a1).trans (mu_g k135 d_a1_a10)
  have d_a2_a10 : a2 ≠ a10 := gM_nn na10 k136
  have k148 := (congrFun eM145 a2).trans (mu_g k136 d_a2_a10)
  have d_a3_a10 : a3 ≠ a10 := gM_nn na10 k137
  have k149 := (congrFun eM145 a3).trans (mu_g k137 d_a3_a10)
  have d_a4_a10 : a4 ≠ a10 := gM_nn na10 k138
  have k150 := (congrFun eM145 a4).trans (mu_g k138 d_a4_a10)
  have d_a5_a10 : a5 ≠ a10 := gM_nn na10 k139
  have k151 := (congrFun eM145 a5).trans (mu_g k139 d_a5_a10)
  have d_a6_a10 : a6 ≠ a10 := gM_nn na10 k140
  have k152 := (congrFun eM145 a6).trans (mu_g k140 d_a6_a10)
  have d_a7_a10 : a7 ≠ a10 := gM_nn na10 k141
  have k153 := (congrFun eM145 a7).trans (mu_g k141 d_a7_a10)
  have d_a8_a10 : a8 ≠ a10 := gM_nn na10 k142
  have k154 := (congrFun eM145 a8).trans (mu_g k142 d_a8_a10)
  have d_a9_a10 : a9 ≠ a10 := gM_nn na10 k143
  have k155 := (congrFun eM145 a9).trans (mu_g k143 d_a9_a10)
  have k156 : M145 a10 = some (.inl (G.2 0, 6144, .inl (fun _ => 0))) := by rw [eM145]; exact mu_s _ _ _
  have f157 : ∀ b e, M b = some e → b ≠ x → M145 b = some e := fun b e hb hne => (congrFun eM145 b).trans (mu_g (f144 b e hb hne) (gM_nn na10 (f144 b e hb hne)))
  have za10 : M a10 = none := fr_none f144 na10 k134
  refine m_putF X iX7 tyX7_ok nmX7 hK hw hS k146 rfl 10 (by decide) (ref := "ObjectMapperModel") (by decide +kernel) (Or.inl rfl) rfl hin rfl (v := .ref a10) rfl rfl (Nat.le_of_ble_eq_true rfl) (fs1 := [.int 0, .ref a1, .ref a2, .ref a3, .ref a4, .ref a5, .ref a6, .ref a7, .ref a8, .ref a9, .ref a10, .null, .null, .null, .int 0, .null]) rfl dX7_init_89 (fun M158 H locs eM158 hw hS => ?_)
  have k159 : M158 x = some (.inr (8, [.int 0, .ref a1, .ref a2, .ref a3, .ref a4, .ref a5, .ref a6, .ref a7, .ref a8, .ref a9, .ref a10, .null, .null, .null, .int 0, .null])) := by rw [eM158]; exact mu_s _ _ _
  have k160 := (congrFun eM158 a1).trans (mu_g k147 (Ne.symm d_x_a1))
  have k161 := (congrFun eM158 a2).trans (mu_g k148 (Ne.symm d_x_a2))
  have k162 := (congrFun eM158 a3).trans (mu_g k149 (Ne.symm d_x_a3))
  have k163 := (congrFun eM158 a4).trans (mu_g k150 (Ne.symm d_x_a4))
  have k164 := (congrFun eM158 a5).trans (mu_g k151 (Ne.symm d_x_a5))
  have k165 := (congrFun eM158 a6).trans (mu_g k152 (Ne.symm d_x_a6))
  have k166 := (congrFun eM158 a7).trans (mu_g k153 (Ne.symm d_x_a7))
  have k167 := (congrFun eM158 a8).trans (mu_g k154 (Ne.symm d_x_a8))
  have k168 := (congrFun eM158 a9).trans (mu_g k155 (Ne.symm d_x_a9))
  have k169 := (congrFun eM158 a10).trans (mu_g k156 (Ne.symm d_x_a10))
  have f170 : ∀ b e, M b = some e → b ≠ x → M158 b = some e := fun b e hb hne => (congrFun eM158 b).trans (mu_g (f157 b e hb hne) hne)
  refine lv_aload_n hx hb dX7_init_92 rfl (lv_at hl 0 rfl) ?_
  refine lv_sipush (v := 6144) hx hb dX7_init_93 (by decide) ?_
  refine m_newa_int X (by decide +kernel) hK hw hS hA (N' := 6144) (by decide) (by decide) (Nat.le_of_ble_eq_true rfl) (Nat.le_of_ble_eq_true rfl) (Nat.le_of_ble_eq_true rfl) dX7_init_96 (fun a11 M171 H na11 eM171 hw hS => ?_)
  have d_x_a11 : x ≠ a11 := gM_nn na11 k159
  have k172 := (congrFun eM171 x).trans (mu_g k159 d_x_a11)
  have d_a1_a11 : a1 ≠ a11 := gM_nn na11 k160
  have k173 := (congrFun eM171 a1).trans (mu_g k160 d_a1_a11)
  have d_a2_a11 : a2 ≠ a11 := gM_nn na11 k161
  have k174 := (congrFun eM171 a2).trans (mu_g k161 d_a2_a11)
  have d_a3_a11 : a3 ≠ a11 := gM_nn na11 k162
  have k175 := (congrFun eM171 a3).trans (mu_g k162 d_a3_a11)
  have d_a4_a11 : a4 ≠ a11 := gM_nn na11 k163
  have k176 := (congrFun eM171 a4).trans (mu_g k163 d_a4_a11)
  have d_a5_a11 : a5 ≠ a11 := gM_nn na11 k164
  have k177 := (congrFun eM171 a5).trans (mu_g k164 d_a5_a11)
  have d_a6_a11 : a6 ≠ a11 := gM_nn na11 k165
  have k178 := (congrFun eM171 a6).trans (mu_g k165 d_a6_a11)
  have d_a7_a11 : a7 ≠ a11 := gM_nn na11 k166
  have k179 := (congrFun eM171 a7).trans (mu_g k166 d_a7_a11)
  have d_a8_a11 : a8 ≠ a11 := gM_nn na11 k167
  have k180 := (congrFun eM171 a8).trans (mu_g k167 d_a8_a11)
  have d_a9_a11 : a9 ≠ a11 := gM_nn na11 k168
  have k181 := (congrFun eM171 a9).trans (mu_g k168 d_a9_a11)
  have d_a10_a11 : a10 ≠ a11 := gM_nn na11 k169
  have k182 := (congrFun eM171 a10).trans (mu_g k169 d_a10_a11)
  have k183 : M171 a11 = some (.inl (G.2 0, 6144, .inl (fun _ => 0))) := by rw [eM171]; exact mu_s _ _ _
  have f184 : ∀ b e, M b = some e → b ≠ x → M171 b = some e := fun b e hb hne => (congrFun eM171 b).trans (mu_g (f170 b e hb hne) (gM_nn na11 (f170 b e hb hne)))
  have za11 : M a11 = none := fr_none f170 na11 k159
  refine m_putF X iX7 tyX7_ok nmX7 hK hw hS k172 rfl 11 (by decide) (ref := "ObjectMapperModel") (by decide +kernel) (Or.inl rfl) rfl hin rfl (v := .ref a11) rfl rfl (Nat.le_of_ble_eq_true rfl) (fs1 := [.int 0, .ref a1, .ref a2, .ref a3, .ref a4, .ref a5, .ref a6, .ref a7, .ref a8, .ref a9, .ref a10, .ref a11, .null, .null, .int 0, .null]) rfl dX7_init_98 (fun M185 H locs eM185 hw hS => ?_)
  have k186 : M185 x = some (.inr (8, [.int 0, .ref a1, .ref a2, .ref a3, .ref a4, .ref a5, .ref a6, .ref a7, .ref a8, .ref a9, .ref a10, .ref a11, .null, .null, .int 0, .null])) := by rw [eM185]; exact mu_s _ _ _
  have k187 := (congrFun eM185 a1).trans (mu_g k173 (Ne.symm d_x_a1))
  have k188 := (congrFun eM185 a2).trans (mu_g k174 (Ne.symm d_x_a2))
  have k189 := (congrFun eM185 a3).trans (mu_g k175 (Ne.symm d_x_a3))
  have k190 := (congrFun eM185 a4).trans (mu_g k176 (Ne.symm d_x_a4))
  have k191 := (congrFun eM185 a5).trans (mu_g k177 (Ne.symm d_x_a5))
  have k192 := (congrFun eM185 a6).trans (mu_g k178 (Ne.symm d_x_a6))
  have k193 := (congrFun eM185 a7).trans (mu_g k179 (Ne.symm d_x_a7))
  have k194 := (congrFun eM185 a8).trans (mu_g k180 (Ne.symm d_x_a8))
  have k195 := (congrFun eM185 a9).trans (mu_g k181 (Ne.symm d_x_a9))
  have k196 := (congrFun eM185 a10).trans (mu_g k182 (Ne.symm d_x_a10))
  have k197 := (congrFun eM185 a11).trans (mu_g k183 (Ne.symm d_x_a11))
  have f198 : ∀ b e, M b = some e → b ≠ x → M185 b = some e := fun b e hb hne => (congrFun eM185 b).trans (mu_g (f184 b e hb hne) hne)
  refine lv_aload_n hx hb dX7_init_101 rfl (lv_at hl 0 rfl) ?_
  refine lv_sipush (v := 6144) hx hb dX7_init_102 (by decide) ?_
  refine m_newa_int X (by decide +kernel) hK hw hS hA (N' := 6144) (by decide) (by decide) (Nat.le_of_ble_eq_true rfl) (Nat.le_of_ble_eq_true rfl) (Nat.le_of_ble_eq_true rfl) dX7_init_105 (fun a12 M199 H na12 eM199 hw hS => ?_)
  have d_x_a12 : x ≠ a12 := gM_nn na12 k186
  have k200 := (congrFun eM199 x).trans (mu_g k186 d_x_a12)
  have d_a1_a12 : a1 ≠ a12 := gM_nn na12 k187
  have k201 := (congrFun eM199 a1).trans (mu_g k187 d_a1_a12)
  have d_a2_a12 : a2 ≠ a12 := gM_nn na12 k188
  have k202 := (congrFun eM199 a2).trans (mu_g k188 d_a2_a12)
  have d_a3_a12 : a3 ≠ a12 := gM_nn na12 k189
  have k203 := (congrFun eM199 a3).trans (mu_g k189 d_a3_a12)
  have d_a4_a12 : a4 ≠ a12 := gM_nn na12 k190
  have k204 := (congrFun eM199 a4).trans (mu_g k190 d_a4_a12)
  have d_a5_a12 : a5 ≠ a12 := gM_nn na12 k191
  have k205 := (congrFun eM199 a5).trans (mu_g k191 d_a5_a12)
  have d_a6_a12 : a6 ≠ a12 := gM_nn na12 k192
  have k206 := (congrFun eM199 a6).trans (mu_g k192 d_a6_a12)
  have d_a7_a12 : a7 ≠ a12 := gM_nn na12 k193
  have k207 := (congrFun eM199 a7).trans (mu_g k193 d_a7_a12)
  have d_a8_a12 : a8 ≠ a12 := gM_nn na12 k194
  have k208 := (congrFun eM199 a8).trans (mu_g k194 d_a8_a12)
  have d_a9_a12 : a9 ≠ a12 := gM_nn na12 k195
  have k209 := (congrFun eM199 a9).trans (mu_g k195 d_a9_a12)
  have d_a10_a12 : a10 ≠ a12 := gM_nn na12 k196
  have k210 := (congrFun eM199 a10).trans (mu_g k196 d_a10_a12)
  have d_a11_a12 : a11 ≠ a12 := gM_nn na12 k197
  have k211 := (congrFun eM199 a11).trans (mu_g k197 d_a11_a12)
  have k212 : M199 a12 = some (.inl (G.2 0, 6144, .inl (fun _ => 0))) := by rw [eM199]; exact mu_s _ _ _
  have f213 : ∀ b e, M b = some e → b ≠ x → M199 b = some e := fun b e hb hne => (congrFun eM199 b).trans (mu_g (f198 b e hb hne) (gM_nn na12 (f198 b e hb hne)))
  have za12 : M a12 = none := fr_none f198 na12 k186
  refine m_putF X iX7 tyX7_ok nmX7 hK hw hS k200 rfl 12 (by decide) (ref := "ObjectMapperModel") (by decide +kernel) (Or.inl rfl) rfl hin rfl (v := .ref a12) rfl rfl (Nat.le_of_ble_eq_true rfl) (fs1 := [.int 0, .ref a1, .ref a2, .ref a3, .ref a4, .ref a5, .ref a6, .ref a7, .ref a8, .ref a9, .ref a10, .ref a11, .ref a12, .null, .int 0, .null]) rfl dX7_init_107 (fun M214 H locs eM214 hw hS => ?_)
  have k215 : M214 x = some (.inr (8, [.int 0, .ref a1, .ref a2, .ref a3, .ref a4, .ref a5, .ref a6, .ref a7, .ref a8, .ref a9, .ref a10, .ref a11, .ref a12, .null, .int 0, .null])) := by rw [eM214]; exact mu_s _ _ _
  have k216 := (congrFun eM214 a1).trans (mu_g k201 (Ne.symm d_x_a1))
  have k217 := (congrFun eM214 a2).trans (mu_g k202 (Ne.symm d_x_a2))
  have k218 := (congrFun eM214 a3).trans (mu_g k203 (Ne.symm d_x_a3))
  have k219 := (congrFun eM214 a4).trans (mu_g k204 (Ne.symm d_x_a4))
  have k220 := (congrFun eM214 a5).trans (mu_g k205 (Ne.symm d_x_a5))
  have k221 := (congrFun eM214 a6).trans (mu_g k206 (Ne.symm d_x_a6))
  have k222 := (congrFun eM214 a7).trans (mu_g k207 (Ne.symm d_x_a7))
  have k223 := (congrFun eM214 a8).trans (mu_g k208 (Ne.symm d_x_a8))
  have k224 := (congrFun eM214 a9).trans (mu_g k209 (Ne.symm d_x_a9))
  have k225 := (congrFun eM214 a10).trans (mu_g k210 (Ne.symm d_x_a10))
  have k226 := (congrFun eM214 a11).trans (mu_g k211 (Ne.symm d_x_a11))
  have k227 := (congrFun eM214 a12).trans (mu_g k212 (Ne.symm d_x_a12))
  have f228 : ∀ b e, M b = some e → b ≠ x → M214 b = some e := fun b e hb hne => (congrFun eM214 b).trans (mu_g (f213 b e hb hne) hne)
  refine lv_aload_n hx hb dX7_init_110 rfl (lv_at hl 0 rfl) ?_
  refine lv_sipush (v := 6144) hx hb dX7_init_111 (by decide) ?_
  refine m_newa_int X (by decide +kernel) hK hw hS hA (N' := 6144) (by decide) (by decide) (Nat.le_of_ble_eq_true rfl) (Nat.le_of_ble_eq_true rfl) (Nat.le_of_ble_eq_true rfl) dX7_init_114 (fun a13 M229 H na13 eM229 hw hS => ?_)
  have d_x_a13 : x ≠ a13 := gM_nn na13 k215
  have k230 := (congrFun eM229 x).trans (mu_g k215 d_x_a13)
  have d_a1_a13 : a1 ≠ a13 := gM_nn na13 k216
  have k231 := (congrFun eM229 a1).trans (mu_g k216 d_a1_a13)
  have d_a2_a13 : a2 ≠ a13 := gM_nn na13 k217
  have k232 := (congrFun eM229 a2).trans (mu_g k217 d_a2_a13)
  have d_a3_a13 : a3 ≠ a13 := gM_nn na13 k218
  have k233 := (congrFun eM229 a3).trans (mu_g k218 d_a3_a13)
  have d_a4_a13 : a4 ≠ a13 := gM_nn na13 k219
  have k234 := (congrFun eM229 a4).trans (mu_g k219 d_a4_a13)
  have d_a5_a13 : a5 ≠ a13 := gM_nn na13 k220
  have k235 := (congrFun eM229 a5).trans (mu_g k220 d_a5_a13)
  have d_a6_a13 : a6 ≠ a13 := gM_nn na13 k221
  have k236 := (congrFun eM229 a6).trans (mu_g k221 d_a6_a13)
  have d_a7_a13 : a7 ≠ a13 := gM_nn na13 k222
  have k237 := (congrFun eM229 a7).trans (mu_g k222 d_a7_a13)
  have d_a8_a13 : a8 ≠ a13 := gM_nn na13 k223
  have k238 := (congrFun eM229 a8).trans (mu_g k223 d_a8_a13)
  have d_a9_a13 : a9 ≠ a13 := gM_nn na13 k224
  have k239 := (congrFun eM229 a9).trans (mu_g k224 d_a9_a13)
  have d_a10_a13 : a10 ≠ a13 := gM_nn na13 k225
  have k240 := (congrFun eM229 a10).trans (mu_g k225 d_a10_a13)
  have d_a11_a13 : a11 ≠ a13 := gM_nn na13 k226
  have k241 := (congrFun eM229 a11).trans (mu_g k226 d_a11_a13)
  have d_a12_a13 : a12 ≠ a13 := gM_nn na13 k227
  have k242 := (congrFun eM229 a12).trans (mu_g k227 d_a12_a13)
  have k243 : M229 a13 = some (.inl (G.2 0, 6144, .inl (fun _ => 0))) := by rw [eM229]; exact mu_s _ _ _
  have f244 : ∀ b e, M b = some e → b ≠ x → M229 b = some e := fun b e hb hne => (congrFun eM229 b).trans (mu_g (f228 b e hb hne) (gM_nn na13 (f228 b e hb hne)))
  have za13 : M a13 = none := fr_none f228 na13 k215
  refine m_putF X iX7 tyX7_ok nmX7 hK hw hS k230 rfl 13 (by decide) (ref := "ObjectMapperModel") (by decide +kernel) (Or.inl rfl) rfl hin rfl (v := .ref a13) rfl rfl (Nat.le_of_ble_eq_true rfl) (fs1 := [.int 0, .ref a1, .ref a2, .ref a3, .ref a4, .ref a5, .ref a6, .ref a7, .ref a8, .ref a9, .ref a10, .ref a11, .ref a12, .ref a13, .int 0, .null]) rfl dX7_init_116 (fun M245 H locs eM245 hw hS => ?_)
  have k246 : M245 x = some (.inr (8, [.int 0, .ref a1, .ref a2, .ref a3, .ref a4, .ref a5, .ref a6, .ref a7, .ref a8, .ref a9, .ref a10, .ref a11, .ref a12, .ref a13, .int 0, .null])) := by rw [eM245]; exact mu_s _ _ _
  have k247 := (congrFun eM245 a1).trans (mu_g k231 (Ne.symm d_x_a1))
  have k248 := (congrFun eM245 a2).trans (mu_g k232 (Ne.symm d_x_a2))
  have k249 := (congrFun eM245 a3).trans (mu_g k233 (Ne.symm d_x_a3))
  have k250 := (congrFun eM245 a4).trans (mu_g k234 (Ne.symm d_x_a4))
  have k251 := (congrFun eM245 a5).trans (mu_g k235 (Ne.symm d_x_a5))
  have k252 := (congrFun eM245 a6).trans (mu_g k236 (Ne.symm d_x_a6))
  have k253 := (congrFun eM245 a7).trans (mu_g k237 (Ne.symm d_x_a7))
  have k254 := (congrFun eM245 a8).trans (mu_g k238 (Ne.symm d_x_a8))
  have k255 := (congrFun eM245 a9).trans (mu_g k239 (Ne.symm d_x_a9))
  have k256 := (congrFun eM245 a10).trans (mu_g k240 (Ne.symm d_x_a10))
  have k257 := (congrFun eM245 a11).trans (mu_g k241 (Ne.symm d_x_a11))
  have k258 := (congrFun eM245 a12).trans (mu_g k242 (Ne.symm d_x_a12))
  have k259 := (congrFun eM245 a13).trans (mu_g k243 (Ne.symm d_x_a13))
  have f260 : ∀ b e, M b = some e → b ≠ x → M245 b = some e := fun b e hb hne => (congrFun eM245 b).trans (mu_g (f244 b e hb hne) hne)
  refine lv_aload_n hx hb dX7_init_119 rfl (lv_at hl 0 rfl) ?_
  refine lv_sipush (v := 16384) hx hb dX7_init_120 (by decide) ?_
  refine m_newa_int X (by decide +kernel) hK hw hS hA (N' := 16384) (by decide) (by decide) (Nat.le_of_ble_eq_true rfl) (Nat.le_of_ble_eq_true rfl) (Nat.le_of_ble_eq_true rfl) dX7_init_123 (fun a15 M261 H na15 eM261 hw hS => ?_)
  have d_x_a15 : x ≠ a15 := gM_nn na15 k246
  have k262 := (congrFun eM261 x).trans (mu_g k246 d_x_a15)
  have d_a1_a15 : a1 ≠ a15 := gM_nn na15 k247
  have k263 := (congrFun eM261 a1).trans (mu_g k247 d_a1_a15)
  have d_a2_a15 : a2 ≠ a15 := gM_nn na15 k248
  have k264 := (congrFun eM261 a2).trans (mu_g k248 d_a2_a15)
  have d_a3_a15 : a3 ≠ a15 := gM_nn na15 k249
  have k265 := (congrFun eM261 a3).trans (mu_g k249 d_a3_a15)
  have d_a4_a15 : a4 ≠ a15 := gM_nn na15 k250
  have k266 := (congrFun eM261 a4).trans (mu_g k250 d_a4_a15)
  have d_a5_a15 : a5 ≠ a15 := gM_nn na15 k251
  have k267 := (congrFun eM261 a5).trans (mu_g k251 d_a5_a15)
  have d_a6_a15 : a6 ≠ a15 := gM_nn na15 k252
  have k268 := (congrFun eM261 a6).trans (mu_g k252 d_a6_a15)
  have d_a7_a15 : a7 ≠ a15 := gM_nn na15 k253
  have k269 := (congrFun eM261 a7).trans (mu_g k253 d_a7_a15)
  have d_a8_a15 : a8 ≠ a15 := gM_nn na15 k254
  have k270 := (congrFun eM261 a8).trans (mu_g k254 d_a8_a15)
  have d_a9_a15 : a9 ≠ a15 := gM_nn na15 k255
  have k271 := (congrFun eM261 a9).trans (mu_g k255 d_a9_a15)
  have d_a10_a15 : a10 ≠ a15 := gM_nn na15 k256
  have k272 := (congrFun eM261 a10).trans (mu_g k256 d_a10_a15)
  have d_a11_a15 : a11 ≠ a15 := gM_nn na15 k257
  have k273 := (congrFun eM261 a11).trans (mu_g k257 d_a11_a15)
  have d_a12_a15 : a12 ≠ a15 := gM_nn na15 k258
  have k274 := (congrFun eM261 a12).trans (mu_g k258 d_a12_a15)
  have d_a13_a15 : a13 ≠ a15 := gM_nn na15 k259
  have k275 := (congrFun eM261 a13).trans (mu_g k259 d_a13_a15)
  have k276 : M261 a15 = some (.inl (G.2 0, 16384, .inl (fun _ => 0))) := by rw [eM261]; exact mu_s _ _ _
  have f277 : ∀ b e, M b = some e → b ≠ x → M261 b = some e := fun b e hb hne => (congrFun eM261 b).trans (mu_g (f260 b e hb hne) (gM_nn na15 (f260 b e hb hne)))
  have za15 : M a15 = none := fr_none f260 na15 k246
  refine m_putF X iX7 tyX7_ok nmX7 hK hw hS k262 rfl 15 (by decide) (ref := "ObjectMapperModel") (by decide +kernel) (Or.inl rfl) rfl hin rfl (v := .ref a15) rfl rfl (Nat.le_of_ble_eq_true rfl) (fs1 := [.int 0, .ref a1, .ref a2, .ref a3, .ref a4, .ref a5, .ref a6, .ref a7, .ref a8, .ref a9, .ref a10, .ref a11, .ref a12, .ref a13, .int 0, .ref a15]) rfl dX7_init_125 (fun M278 H locs eM278 hw hS => ?_)
  have k279 : M278 x = some (.inr (8, [.int 0, .ref a1, .ref a2, .ref a3, .ref a4, .ref a5, .ref a6, .ref a7, .ref a8, .ref a9, .ref a10, .ref a11, .ref a12, .ref a13, .int 0, .ref a15])) := by rw [eM278]; exact mu_s _ _ _
  have k280 := (congrFun eM278 a1).trans (mu_g k263 (Ne.symm d_x_a1))
  have k281 := (congrFun eM278 a2).trans (mu_g k264 (Ne.symm d_x_a2))
  have k282 := (congrFun eM278 a3).trans (mu_g k265 (Ne.symm d_x_a3))
  have k283 := (congrFun eM278 a4).trans (mu_g k266 (Ne.symm d_x_a4))
  have k284 := (congrFun eM278 a5).trans (mu_g k267 (Ne.symm d_x_a5))
  have k285 := (congrFun eM278 a6).trans (mu_g k268 (Ne.symm d_x_a6))
  have k286 := (congrFun eM278 a7).trans (mu_g k269 (Ne.symm d_x_a7))
  have k287 := (congrFun eM278 a8).trans (mu_g k270 (Ne.symm d_x_a8))
  have k288 := (congrFun eM278 a9).trans (mu_g k271 (Ne.symm d_x_a9))
  have k289 := (congrFun eM278 a10).trans (mu_g k272 (Ne.symm d_x_a10))
  have k290 := (congrFun eM278 a11).trans (mu_g k273 (Ne.symm d_x_a11))
  have k291 := (congrFun eM278 a12).trans (mu_g k274 (Ne.symm d_x_a12))
  have k292 := (congrFun eM278 a13).trans (mu_g k275 (Ne.symm d_x_a13))
  have k293 := (congrFun eM278 a15).trans (mu_g k276 (Ne.symm d_x_a15))
  have f294 : ∀ b e, M b = some e → b ≠ x → M278 b = some e := fun b e hb hne => (congrFun eM278 b).trans (mu_g (f277 b e hb hne) hne)
  refine m_vret X hK hw hS ⟨⟨(fun k => [0, a1, a2, a3, a4, a5, a6, a7, a8, a9, a10, a11, a12, a13, 0, a15].getD k 0), k279, k280, k281, k282, k283, k284, k285, k286, k287, k288, k289, k290, k291, k292, k293, ?_⟩, f294⟩ (by omega) (by omega) dX7_init_128
  intro i j hij hj hi
  rcases (show i = 1 ∨ i = 2 ∨ i = 3 ∨ i = 4 ∨ i = 5 ∨ i = 6 ∨ i = 7 ∨ i = 8 ∨ i = 9 ∨ i = 10 ∨ i = 11 ∨ i = 12 ∨ i = 13 ∨ i = 14 ∨ i = 15 by omega) with rfl | rfl | rfl | rfl | rfl | rfl | rfl | rfl | rfl | rfl | rfl | rfl | rfl | rfl | rfl
  · rcases (show j = 2 ∨ j = 3 ∨ j = 4 ∨ j = 5 ∨ j = 6 ∨ j = 7 ∨ j = 8 ∨ j = 9 ∨ j = 10 ∨ j = 11 ∨ j = 12 ∨ j = 13 ∨ j = 14 ∨ j = 15 by omega) with rfl | rfl | rfl | rfl | rfl | rfl | rfl | rfl | rfl | rfl | rfl | rfl | rfl | rfl
    · exact Or.inl d_a1_a2
    · exact Or.inl d_a1_a3
    · exact Or.inl d_a1_a4
    · exact Or.inl d_a1_a5
    · exact Or.inl d_a1_a6
    · exact Or.inl d_a1_a7
    · exact Or.inl d_a1_a8
    · exact Or.inl d_a1_a9
    · exact Or.inl d_a1_a10
    · exact Or.inl d_a1_a11
    · exact Or.inl d_a1_a12
    · exact Or.inl d_a1_a13
    · exact Or.inr (Or.inr rfl)
    · exact Or.inl d_a1_a15
  · rcases (show j = 3 ∨ j = 4 ∨ j = 5 ∨ j = 6 ∨ j = 7 ∨ j = 8 ∨ j = 9 ∨ j = 10 ∨ j = 11 ∨ j = 12 ∨ j = 13 ∨ j = 14 ∨ j = 15 by omega) with rfl | rfl | rfl | rfl | rfl | rfl | rfl | rfl | rfl | rfl | rfl | rfl | rfl
    · exact Or.inl d_a2_a3
    · exact Or.inl d_a2_a4
    · exact Or.inl d_a2_a5
    · exact Or.inl d_a2_a6
    · exact Or.inl d_a2_a7
    · exact Or.inl d_a2_a8
    · exact Or.inl d_a2_a9
    · exact Or.inl d_a2_a10
    · exact Or.inl d_a2_a11
    · exact Or.inl d_a2_a12
    · exact Or.inl d_a2_a13
    · exact Or.inr (Or.inr rfl)
    · exact Or.inl d_a2_a15
  · rcases (show j = 4 ∨ j = 5 ∨ j = 6 ∨ j = 7 ∨ j = 8 ∨ j = 9 ∨ j = 10 ∨ j = 11 ∨ j = 12 ∨ j = 13 ∨ j = 14 ∨ j = 15 by omega) with rfl | rfl | rfl | rfl | rfl | rfl | rfl | rfl | rfl | rfl | rfl | rfl
    · exact Or.inl d_a3_a4
    · exact Or.inl d_a3_a5
    · exact Or.inl d_a3_a6
    · exact Or.inl d_a3_a7
    · exact Or.inl d_a3_a8
    · exact Or.inl d_a3_a9
    · exact Or.inl d_a3_a10
    · exact Or.inl d_a3_a11
    · exact Or.inl d_a3_a12
    · exact Or.inl d_a3_a13
    · exact Or.inr (Or.inr rfl)
    · exact Or.inl d_a3_a15
  · rcases (show j = 5 ∨ j = 6 ∨ j = 7 ∨ j = 8 ∨ j = 9 ∨ j = 10 ∨ j = 11 ∨ j = 12 ∨ j = 13 ∨ j = 14 ∨ j = 15 by omega) with rfl | rfl | rfl | rfl | rfl | rfl | rfl | rfl | rfl | rfl | rfl
    · exact Or.inl d_a4_a5
    · exact Or.inl d_a4_a6
    · exact Or.inl d_a4_a7
    · exact Or.inl d_a4_a8
    · exact Or.inl d_a4_a9
    · exact Or.inl d_a4_a10
    · exact Or.inl d_a4_a11
    · exact Or.inl d_a4_a12
    · exact Or.inl d_a4_a13
    · exact Or.inr (Or.inr rfl)
    · exact Or.inl d_a4_a15
  · rcases (show j = 6 ∨ j = 7 ∨ j = 8 ∨ j = 9 ∨ j = 10 ∨ j = 11 ∨ j = 12 ∨ j = 13 ∨ j = 14 ∨ j = 15 by omega) with rfl | rfl | rfl | rfl | rfl | rfl | rfl | rfl | rfl | rfl
    · exact Or.inl d_a5_a6
    · exact Or.inl d_a5_a7
    · exact Or.inl d_a5_a8
    · exact Or.inl d_a5_a9
    · exact Or.inl d_a5_a10
    · exact Or.inl d_a5_a11
    · exact Or.inl d_a5_a12
    · exact Or.inl d_a5_a13
    · exact Or.inr (Or.inr rfl)
    · exact Or.inl d_a5_a15
  · rcases (show j = 7 ∨ j = 8 ∨ j = 9 ∨ j = 10 ∨ j = 11 ∨ j = 12 ∨ j = 13 ∨ j = 14 ∨ j = 15 by omega) with rfl | rfl | rfl | rfl | rfl | rfl | rfl | rfl | rfl
    · exact Or.inl d_a6_a7
    · exact Or.inl d_a6_a8
    · exact Or.inl d_a6_a9
    · exact Or.inl d_a6_a10
    · exact Or.inl d_a6_a11
    · exact Or.inl d_a6_a12
    · exact Or.inl d_a6_a13
    · exact Or.inr (Or.inr rfl)
    · exact Or.inl d_a6_a15
  · rcases (show j = 8 ∨ j = 9 ∨ j = 10 ∨ j = 11 ∨ j = 12 ∨ j = 13 ∨ j = 14 ∨ j = 15 by omega) with rfl | rfl | rfl | rfl | rfl | rfl | rfl | rfl
    · exact Or.inl d_a7_a8
    · exact Or.inl d_a7_a9
    · exact Or.inl d_a7_a10
    · exact Or.inl d_a7_a11
    · exact Or.inl d_a7_a12
    · exact Or.inl d_a7_a13
    · exact Or.inr (Or.inr rfl)
    · exact Or.inl d_a7_a15
  · rcases (show j = 9 ∨ j = 10 ∨ j = 11 ∨ j = 12 ∨ j = 13 ∨ j = 14 ∨ j = 15 by omega) with rfl | rfl | rfl | rfl | rfl | rfl | rfl
    · exact Or.inl d_a8_a9
    · exact Or.inl d_a8_a10
    · exact Or.inl d_a8_a11
    · exact Or.inl d_a8_a12
    · exact Or.inl d_a8_a13
    · exact Or.inr (Or.inr rfl)
    · exact Or.inl d_a8_a15
  · rcases (show j = 10 ∨ j = 11 ∨ j = 12 ∨ j = 13 ∨ j = 14 ∨ j = 15 by omega) with rfl | rfl | rfl | rfl | rfl | rfl
    · exact Or.inl d_a9_a10
    · exact Or.inl d_a9_a11
    · exact Or.inl d_a9_a12
    · exact Or.inl d_a9_a13
    · exact Or.inr (Or.inr rfl)
    · exact Or.inl d_a9_a15
  · rcases (show j = 11 ∨ j = 12 ∨ j = 13 ∨ j = 14 ∨ j = 15 by omega) with rfl | rfl | rfl | rfl | rfl
    · exact Or.inl d_a10_a11
    · exact Or.inl d_a10_a12
    · exact Or.inl d_a10_a13
    · exact Or.inr (Or.inr rfl)
    · exact Or.inl d_a10_a15
  · rcases (show j = 12 ∨ j = 13 ∨ j = 14 ∨ j = 15 by omega) with rfl | rfl | rfl | rfl
    · exact Or.inl d_a11_a12
    · exact Or.inl d_a11_a13
    · exact Or.inr (Or.inr rfl)
    · exact Or.inl d_a11_a15
  · rcases (show j = 13 ∨ j = 14 ∨ j = 15 by omega) with rfl | rfl | rfl
    · exact Or.inl d_a12_a13
    · exact Or.inr (Or.inr rfl)
    · exact Or.inl d_a12_a15
  · rcases (show j = 14 ∨ j = 15 by omega) with rfl | rfl
    · exact Or.inr (Or.inr rfl)
    · exact Or.inl d_a13_a15
  · rcases (show j = 15 by omega) with rfl
    exact Or.inr (Or.inl rfl)
  · exact absurd hj (by omega)
set_option maxHeartbeats 4000000 in
set_option maxRecDepth 100000 in
theorem c_X7_isSession (l : Launch) (G : gG) (dce sz : Nat) (M : gM) (si : Int32) : mI l yX7_isSession wsX7_isSession ({ frames := 0, cells := 0, slots := 0, locals := 0 }) G dce sz M [.int si] (fun r M' => r = bI (sOK si) ∧ M' = M) (0) (0) := by
  refine wMet (Qc := QI G _) (cc := cX7_isSession) (maxL := 1) (ret := (some .boolean)) (by decide) rfl (Nat.le_of_ble_eq_true rfl) ?_
  intro p e s m below meth c A ls X hnm hw hK hZ hA hS hsz eA hl
  obtain ⟨hx, hb, hr, hts, hown, hlk, hml⟩ := id X
  have hl : lv_has ls 1 [(0, .int si)] := hl
  refine lv_iload_n hx hb dX7_isSession_0 rfl (lv_at hl 0 rfl) ?_
  refine lv_if_lt (tgt := 13) hx hb dX7_isSession_1 (by decide) (fun c_1 => ?_) (fun c_1 => ?_)
  · refine lv_iconst (v := 0) hx hb dX7_isSession_13 (by decide) ?_
    exact m_zret X (by decide) hK hw hS (by refine ⟨?_, rfl⟩; unfold sOK; first | (rw [decide_eq_true c_1]; rfl) | (rw [decide_eq_false (show ¬ si < 3 from Int32.not_lt.mpr c_6)]; rw [Bool.and_false]; rfl) | (rw [decide_eq_false c_1, show decide (si < 3) = true from decide_eq_true (Int32.not_le.mp c_6)]; rfl)) (by omega) (by omega) dX7_isSession_14
  · refine lv_iload_n hx hb dX7_isSession_4 rfl (lv_at hl 0 rfl) ?_
    refine lv_iconst (v := 3) hx hb dX7_isSession_5 (by decide) ?_
    refine lv_icmp_ge (tgt := 13) hx hb dX7_isSession_6 (by decide) (fun c_6 => ?_) (fun c_6 => ?_)
    · refine lv_iconst (v := 0) hx hb dX7_isSession_13 (by decide) ?_
      exact m_zret X (by decide) hK hw hS (by refine ⟨?_, rfl⟩; unfold sOK; first | (rw [decide_eq_true c_1]; rfl) | (rw [decide_eq_false (show ¬ si < 3 from Int32.not_lt.mpr c_6)]; rw [Bool.and_false]; rfl) | (rw [decide_eq_false c_1, show decide (si < 3) = true from decide_eq_true (Int32.not_le.mp c_6)]; rfl)) (by omega) (by omega) dX7_isSession_14
    · refine lv_iconst (v := 1) hx hb dX7_isSession_9 (by decide) ?_
      refine lv_goto (tgt := 14) hx hb dX7_isSession_10 (by decide) ?_
      exact m_zret X (by decide) hK hw hS (by refine ⟨?_, rfl⟩; unfold sOK; first | (rw [decide_eq_true c_1]; rfl) | (rw [decide_eq_false (show ¬ si < 3 from Int32.not_lt.mpr c_6)]; rw [Bool.and_false]; rfl) | (rw [decide_eq_false c_1, show decide (si < 3) = true from decide_eq_true (Int32.not_le.mp c_6)]; rfl)) (by omega) (by omega) dX7_isSession_14
set_option maxHeartbeats 4000000 in
set_option maxRecDepth 100000 in
theorem c_X7_isKind (l : Launch) (G : gG) (dce sz : Nat) (M : gM) (kd : Int32) : mI l yX7_isKind wsX7_isKind ({ frames := 0, cells := 0, slots := 0, locals := 0 }) G dce sz M [.int kd] (fun r M' => r = bI (kOK kd) ∧ M' = M) (0) (0) := by
  refine wMet (Qc := QI G _) (cc := cX7_isKind) (maxL := 1) (ret := (some .boolean)) (by decide) rfl (Nat.le_of_ble_eq_true rfl) ?_
  intro p e s m below meth c A ls X hnm hw hK hZ hA hS hsz eA hl
  obtain ⟨hx, hb, hr, hts, hown, hlk, hml⟩ := id X
  have hl : lv_has ls 1 [(0, .int kd)] := hl
  refine lv_iload_n hx hb dX7_isKind_0 rfl (lv_at hl 0 rfl) ?_
  refine lv_if_eq (tgt := 9) hx hb dX7_isKind_1 (by decide) (fun c_1 => ?_) (fun c_1 => ?_)
  · refine lv_iconst (v := 1) hx hb dX7_isKind_9 (by decide) ?_
    refine lv_goto (tgt := 14) hx hb dX7_isKind_10 (by decide) ?_
    exact m_zret X (by decide) hK hw hS (by refine ⟨?_, rfl⟩; simp_all [kOK, bI]) (by omega) (by omega) dX7_isKind_14
  · refine lv_iload_n hx hb dX7_isKind_4 rfl (lv_at hl 0 rfl) ?_
    refine lv_iconst (v := 1) hx hb dX7_isKind_5 (by decide) ?_
    refine lv_icmp_ne (tgt := 13) hx hb dX7_isKind_6 (by decide) (fun c_6 => ?_) (fun c_6 => ?_)
    · refine lv_iconst (v := 0) hx hb dX7_isKind_13 (by decide) ?_
      exact m_zret X (by decide) hK hw hS (by refine ⟨?_, rfl⟩; simp_all [kOK, bI]) (by omega) (by omega) dX7_isKind_14
    · refine lv_iconst (v := 1) hx hb dX7_isKind_9 (by decide) ?_
      refine lv_goto (tgt := 14) hx hb dX7_isKind_10 (by decide) ?_
      exact m_zret X (by decide) hK hw hS (by refine ⟨?_, rfl⟩; simp_all [kOK, bI]) (by omega) (by omega) dX7_isKind_14
set_option maxHeartbeats 4000000 in
set_option maxRecDepth 100000 in
theorem c_X7_isName (l : Launch) (G : gG) (dce sz : Nat) (M : gM) (nm : Int32) : mI l yX7_isName wsX7_isName ({ frames := 0, cells := 0, slots := 0, locals := 0 }) G dce sz M [.int nm] (fun r M' => r = bI (nOK nm) ∧ M' = M) (0) (0) := by
  refine wMet (Qc := QI G _) (cc := cX7_isName) (maxL := 1) (ret := (some .boolean)) (by decide) rfl (Nat.le_of_ble_eq_true rfl) ?_
  intro p e s m below meth c A ls X hnm hw hK hZ hA hS hsz eA hl
  obtain ⟨hx, hb, hr, hts, hown, hlk, hml⟩ := id X
  have hl : lv_has ls 1 [(0, .int nm)] := hl
  refine lv_iload_n hx hb dX7_isName_0 rfl (lv_at hl 0 rfl) ?_
  refine lv_if_lt (tgt := 15) hx hb dX7_isName_1 (by decide) (fun c_1 => ?_) (fun c_1 => ?_)
  · refine lv_iconst (v := 0) hx hb dX7_isName_15 (by decide) ?_
    exact m_zret X (by decide) hK hw hS (by refine ⟨?_, rfl⟩; unfold nOK; first | (rw [decide_eq_true c_1]; rfl) | (rw [decide_eq_false (show ¬ nm ≤ 1000 from Int32.not_le.mpr c_8)]; rw [Bool.and_false]; rfl) | (rw [decide_eq_false c_1, show decide (nm ≤ 1000) = true from decide_eq_true (Int32.not_lt.mp c_8)]; rfl)) (by omega) (by omega) dX7_isName_16
  · refine lv_iload_n hx hb dX7_isName_4 rfl (lv_at hl 0 rfl) ?_
    refine lv_sipush (v := 1000) hx hb dX7_isName_5 (by decide) ?_
    refine lv_icmp_gt (tgt := 15) hx hb dX7_isName_8 (by decide) (fun c_8 => ?_) (fun c_8 => ?_)
    · refine lv_iconst (v := 0) hx hb dX7_isName_15 (by decide) ?_
      exact m_zret X (by decide) hK hw hS (by refine ⟨?_, rfl⟩; unfold nOK; first | (rw [decide_eq_true c_1]; rfl) | (rw [decide_eq_false (show ¬ nm ≤ 1000 from Int32.not_le.mpr c_8)]; rw [Bool.and_false]; rfl) | (rw [decide_eq_false c_1, show decide (nm ≤ 1000) = true from decide_eq_true (Int32.not_lt.mp c_8)]; rfl)) (by omega) (by omega) dX7_isName_16
    · refine lv_iconst (v := 1) hx hb dX7_isName_11 (by decide) ?_
      refine lv_goto (tgt := 16) hx hb dX7_isName_12 (by decide) ?_
      exact m_zret X (by decide) hK hw hS (by refine ⟨?_, rfl⟩; unfold nOK; first | (rw [decide_eq_true c_1]; rfl) | (rw [decide_eq_false (show ¬ nm ≤ 1000 from Int32.not_le.mpr c_8)]; rw [Bool.and_false]; rfl) | (rw [decide_eq_false c_1, show decide (nm ≤ 1000) = true from decide_eq_true (Int32.not_lt.mp c_8)]; rfl)) (by omega) (by omega) dX7_isName_16
set_option maxHeartbeats 4000000 in
set_option maxRecDepth 100000 in
theorem c_X7_thrown (l : Launch) (G : gG) (dce sz : Nat) (M : gM) (x : Nat) (ad : Nat → Nat) (th wr : Int32) (hm : M x = some (oM th wr ad)) : mI l yX7_thrown wsX7_thrown ({ frames := 0, cells := 0, slots := 0, locals := 0 }) G dce sz M [.ref x] (fun r M' => r = th ∧ M' = M) (0) (0) := by
  have hm : M x = some (.inr (8, [.int th, .ref (ad 1), .ref (ad 2), .ref (ad 3), .ref (ad 4), .ref (ad 5), .ref (ad 6), .ref (ad 7), .ref (ad 8), .ref (ad 9), .ref (ad 10), .ref (ad 11), .ref (ad 12), .ref (ad 13), .int wr, .ref (ad 15)])) := hm
  refine wMet (Qc := QI G _) (cc := cX7_thrown) (maxL := 1) (ret := (some .int)) (by decide) rfl (Nat.le_of_ble_eq_true rfl) ?_
  intro p e s m below meth c A ls X hnm hw hK hZ hA hS hsz eA hl
  obtain ⟨hx, hb, hr, hts, hown, hlk, hml⟩ := id X
  have hl : lv_has ls 1 [(0, .ref x)] := hl
  have iX7 : ∀ w ∈ wsX70, w ∈ wsX7_thrown := by decide +kernel
  refine lv_aload_n hx hb dX7_thrown_0 rfl (lv_at hl 0 rfl) ?_
  refine m_get X iX7 hK hw hm rfl 0 (by decide) (ref := "ObjectMapperModel") (by decide +kernel) (Or.inl rfl) rfl dX7_thrown_1 ?_
  exact m_iret X hK hw hS (by exact ⟨rfl, rfl⟩) (by omega) (by omega) dX7_thrown_4
set_option maxHeartbeats 4000000 in
set_option maxRecDepth 100000 in
theorem c_X7_holds (l : Launch) (G : gG) (dce sz : Nat) (M : gM) (x : Nat) (ad : Nat → Nat) (th wr : Int32) (hm : M x = some (oM th wr ad)) (pl : Int32) : mI l yX7_holds wsX7_holds ({ frames := 0, cells := 0, slots := 0, locals := 0 }) G dce sz M [.ref x, .int pl] (fun r M' => r = bI (decide (pl = 0)) ∧ M' = mu M x (oM pl wr ad)) (0) (0) := by
  have hm : M x = some (.inr (8, [.int th, .ref (ad 1), .ref (ad 2), .ref (ad 3), .ref (ad 4), .ref (ad 5), .ref (ad 6), .ref (ad 7), .ref (ad 8), .ref (ad 9), .ref (ad 10), .ref (ad 11), .ref (ad 12), .ref (ad 13), .int wr, .ref (ad 15)])) := hm
  refine wMet (Qc := QI G _) (cc := cX7_holds) (maxL := 2) (ret := (some .boolean)) (by decide) rfl (Nat.le_of_ble_eq_true rfl) ?_
  intro p e s m below meth c A ls X hnm hw hK hZ hA hS hsz eA hl
  obtain ⟨hx, hb, hr, hts, hown, hlk, hml⟩ := id X
  have hl : lv_has ls 2 [(0, .ref x), (1, .int pl)] := hl
  have iX7 : ∀ w ∈ wsX70, w ∈ wsX7_holds := by decide +kernel
  refine lv_aload_n hx hb dX7_holds_0 rfl (lv_at hl 0 rfl) ?_
  refine lv_iload_n hx hb dX7_holds_1 rfl (lv_at hl 1 rfl) ?_
  refine m_put X iX7 tyX7_ok nmX7 hK hw hS hm rfl 0 (by decide) (ref := "ObjectMapperModel") (by decide +kernel) (Or.inl rfl) rfl (v := .int pl) rfl rfl (Nat.le_of_ble_eq_true rfl) (fs1 := [.int pl, .ref (ad 1), .ref (ad 2), .ref (ad 3), .ref (ad 4), .ref (ad 5), .ref (ad 6), .ref (ad 7), .ref (ad 8), .ref (ad 9), .ref (ad 10), .ref (ad 11), .ref (ad 12), .ref (ad 13), .int wr, .ref (ad 15)]) rfl dX7_holds_2 (fun M1 H locs eM1 hw hS => ?_)
  have k2 : M1 x = some (.inr (8, [.int pl, .ref (ad 1), .ref (ad 2), .ref (ad 3), .ref (ad 4), .ref (ad 5), .ref (ad 6), .ref (ad 7), .ref (ad 8), .ref (ad 9), .ref (ad 10), .ref (ad 11), .ref (ad 12), .ref (ad 13), .int wr, .ref (ad 15)])) := by rw [eM1]; exact mu_s _ _ _
  refine lv_iload_n hx hb dX7_holds_5 rfl (lv_at hl 1 rfl) ?_
  refine lv_if_ne (tgt := 13) hx hb dX7_holds_6 (by decide) (fun c_6 => ?_) (fun c_6 => ?_)
  · refine lv_iconst (v := 0) hx hb dX7_holds_13 (by decide) ?_
    exact m_zret X (by decide) hK hw hS (by subst_vars; refine ⟨?_, rfl⟩; simp_all [bI]) (by omega) (by omega) dX7_holds_14
  · refine lv_iconst (v := 1) hx hb dX7_holds_9 (by decide) ?_
    refine lv_goto (tgt := 14) hx hb dX7_holds_10 (by decide) ?_
    exact m_zret X (by decide) hK hw hS (by subst_vars; refine ⟨?_, rfl⟩; simp_all [bI]) (by omega) (by omega) dX7_holds_14
set_option maxHeartbeats 4000000 in
set_option maxRecDepth 100000 in
theorem c_X7_writes (l : Launch) (G : gG) (dce sz : Nat) (M : gM) (x : Nat) (ad : Nat → Nat) (th wr : Int32) (hm : M x = some (oM th wr ad)) : mI l yX7_writes wsX7_writes ({ frames := 0, cells := 0, slots := 0, locals := 0 }) G dce sz M [.ref x] (fun r M' => r = wr ∧ M' = mu M x (oM 0 wr ad)) (0) (0) := by
  have hm : M x = some (.inr (8, [.int th, .ref (ad 1), .ref (ad 2), .ref (ad 3), .ref (ad 4), .ref (ad 5), .ref (ad 6), .ref (ad 7), .ref (ad 8), .ref (ad 9), .ref (ad 10), .ref (ad 11), .ref (ad 12), .ref (ad 13), .int wr, .ref (ad 15)])) := hm
  refine wMet (Qc := QI G _) (cc := cX7_writes) (maxL := 1) (ret := (some .int)) (by decide) rfl (Nat.le_of_ble_eq_true rfl) ?_
  intro p e s m below meth c A ls X hnm hw hK hZ hA hS hsz eA hl
  obtain ⟨hx, hb, hr, hts, hown, hlk, hml⟩ := id X
  have hl : lv_has ls 1 [(0, .ref x)] := hl
  have iX7 : ∀ w ∈ wsX70, w ∈ wsX7_writes := by decide +kernel
  refine lv_aload_n hx hb dX7_writes_0 rfl (lv_at hl 0 rfl) ?_
  refine lv_iconst (v := 0) hx hb dX7_writes_1 (by decide) ?_
  refine m_put X iX7 tyX7_ok nmX7 hK hw hS hm rfl 0 (by decide) (ref := "ObjectMapperModel") (by decide +kernel) (Or.inl rfl) rfl (v := .int 0) rfl rfl (Nat.le_of_ble_eq_true rfl) (fs1 := [.int 0, .ref (ad 1), .ref (ad 2), .ref (ad 3), .ref (ad 4), .ref (ad 5), .ref (ad 6), .ref (ad 7), .ref (ad 8), .ref (ad 9), .ref (ad 10), .ref (ad 11), .ref (ad 12), .ref (ad 13), .int wr, .ref (ad 15)]) rfl dX7_writes_2 (fun M1 H locs eM1 hw hS => ?_)
  have k2 : M1 x = some (.inr (8, [.int 0, .ref (ad 1), .ref (ad 2), .ref (ad 3), .ref (ad 4), .ref (ad 5), .ref (ad 6), .ref (ad 7), .ref (ad 8), .ref (ad 9), .ref (ad 10), .ref (ad 11), .ref (ad 12), .ref (ad 13), .int wr, .ref (ad 15)])) := by rw [eM1]; exact mu_s _ _ _
  refine lv_aload_n hx hb dX7_writes_5 rfl (lv_at hl 0 rfl) ?_
  refine m_get X iX7 hK hw k2 rfl 14 (by decide) (ref := "ObjectMapperModel") (by decide +kernel) (Or.inl rfl) rfl dX7_writes_6 ?_
  exact m_iret X hK hw hS (by subst_vars; exact ⟨rfl, rfl⟩) (by omega) (by omega) dX7_writes_9
set_option maxHeartbeats 4000000 in
set_option maxRecDepth 100000 in
theorem c_X7_isKey_0 (l : Launch) (G : gG) (dce sz : Nat) (M : gM) (x : Nat) (ad : Nat → Nat) (th : Int32) (hm : M x = some (oM th 0 ad)) (hks : M (ad 1) = some (oI G 2 (fun _ => 0))) (kd ky : Int32) (hkd : kd = 0 ∨ kd = 1) : mI l yX7_isKey wsX7_isKey ({ frames := 0, cells := 0, slots := 0, locals := 0 }) G dce sz M [.ref x, .int kd, .int ky] (fun r M' => r = 0 ∧ M' = M) (0) (0) := by
  have hm : M x = some (.inr (8, [.int th, .ref (ad 1), .ref (ad 2), .ref (ad 3), .ref (ad 4), .ref (ad 5), .ref (ad 6), .ref (ad 7), .ref (ad 8), .ref (ad 9), .ref (ad 10), .ref (ad 11), .ref (ad 12), .ref (ad 13), .int 0, .ref (ad 15)])) := hm
  refine wMet (Qc := QI G _) (cc := cX7_isKey) (maxL := 3) (ret := (some .boolean)) (by decide) rfl (Nat.le_of_ble_eq_true rfl) ?_
  intro p e s m below meth c A ls X hnm hw hK hZ hA hS hsz eA hl
  obtain ⟨hx, hb, hr, hts, hown, hlk, hml⟩ := id X
  have hl : lv_has ls 3 [(0, .ref x), (1, .int kd), (2, .int ky)] := hl
  have iX7 : ∀ w ∈ wsX70, w ∈ wsX7_isKey := by decide +kernel
  refine lv_iload_n hx hb dX7_isKey_0 rfl (lv_at hl 2 rfl) ?_
  refine lv_if_lt (tgt := 18) hx hb dX7_isKey_1 (by decide) (fun c_1 => ?_) (fun c_1 => ?_)
  · refine lv_iconst (v := 0) hx hb dX7_isKey_18 (by decide) ?_
    exact m_zret X (by decide) hK hw hS (by exact ⟨rfl, rfl⟩) (by omega) (by omega) dX7_isKey_19
  · refine lv_iload_n hx hb dX7_isKey_4 rfl (lv_at hl 2 rfl) ?_
    refine lv_aload_n hx hb dX7_isKey_5 rfl (lv_at hl 0 rfl) ?_
    refine m_get X iX7 hK hw hm rfl 1 (by decide) (ref := "ObjectMapperModel") (by decide +kernel) (Or.inl rfl) rfl dX7_isKey_6 ?_
    refine lv_iload_n hx hb dX7_isKey_9 rfl (lv_at hl 1 rfl) ?_
    refine m_iald X hK hw hks (by rcases hkd with rfl | rfl <;> (unfold vp_in; decide)) dX7_isKey_10 ?_
    refine W.eq (g2 := F0 m 11 ls [.int 0, .int ky]) rfl ?_
    refine lv_icmp_ge (tgt := 18) hx hb dX7_isKey_11 (by decide) (fun c_11 => ?_) (fun c_11 => ?_)
    · refine lv_iconst (v := 0) hx hb dX7_isKey_18 (by decide) ?_
      exact m_zret X (by decide) hK hw hS (by exact ⟨rfl, rfl⟩) (by omega) (by omega) dX7_isKey_19
    · exact (by exfalso; exact c_11 (Int32.not_lt.mp c_1))
set_option maxHeartbeats 4000000 in
set_option maxRecDepth 100000 in
theorem c_X7_hasRow_0 (l : Launch) (G : gG) (dce sz : Nat) (M : gM) (x : Nat) (ad : Nat → Nat) (th : Int32) (hm : M x = some (oM th 0 ad)) (hks : M (ad 1) = some (oI G 2 (fun _ => 0))) (kd ky : Int32) (hkd : kd = 0 ∨ kd = 1) : mI l yX7_hasRow wsX7_hasRow ({ frames := 1, cells := 0, slots := 0, locals := 22 }) G dce sz M [.ref x, .int kd, .int ky] (fun r M' => r = 0 ∧ M' = M) (0) (0) := by
  have hm : M x = some (.inr (8, [.int th, .ref (ad 1), .ref (ad 2), .ref (ad 3), .ref (ad 4), .ref (ad 5), .ref (ad 6), .ref (ad 7), .ref (ad 8), .ref (ad 9), .ref (ad 10), .ref (ad 11), .ref (ad 12), .ref (ad 13), .int 0, .ref (ad 15)])) := hm
  refine wMet (Qc := QI G _) (cc := cX7_hasRow) (maxL := 3) (ret := (some .boolean)) (by decide) rfl (Nat.le_of_ble_eq_true rfl) ?_
  intro p e s m below meth c A ls X hnm hw hK hZ hA hS hsz eA hl
  obtain ⟨hx, hb, hr, hts, hown, hlk, hml⟩ := id X
  have hl : lv_has ls 3 [(0, .ref x), (1, .int kd), (2, .int ky)] := hl
  refine lv_aload_n hx hb dX7_hasRow_0 rfl (lv_at hl 0 rfl) ?_
  refine lv_iload_n hx hb dX7_hasRow_1 rfl (lv_at hl 1 rfl) ?_
  refine lv_iload_n hx hb dX7_hasRow_2 rfl (lv_at hl 2 rfl) ?_
  refine m_callVi X (ci := 8) rfl hm hK hw hZ hS hA (As := [.int kd, .int ky]) (rest := []) (c_X7_isKey_0 l G dce _ M x ad th hm hks kd ky hkd) (cwV 2 hts gX7_hasRow_X7_isKey rfl rfl rfl (by decide +kernel) ⟨Nat.le_of_ble_eq_true rfl, Nat.le_of_ble_eq_true rfl⟩) rfl hl.1 rfl (Nat.le_of_ble_eq_true rfl) dX7_hasRow_3 (Nat.le_of_ble_eq_true rfl) (Nat.le_of_ble_eq_true rfl) (fun r2 M1 H locs hp hw hS hz hk => ?_)
  rw [hp.2] at hw
  rw [hp.1]
  refine lv_if_eq (tgt := 26) hx hb dX7_hasRow_6 (by decide) (fun _ => ?_) (fun c_6 => absurd (by decide) c_6)
  refine lv_iconst (v := 0) hx hb dX7_hasRow_26 (by decide) ?_
  exact m_zret X (by decide) hK hw hS (by exact ⟨rfl, rfl⟩) (by omega) (by omega) dX7_hasRow_27
set_option maxHeartbeats 4000000 in
set_option maxRecDepth 100000 in
theorem c_X7_knows_0 (l : Launch) (G : gG) (dce sz : Nat) (M : gM) (x : Nat) (ad : Nat → Nat) (th : Int32) (hm : M x = some (oM th 0 ad)) (hks : M (ad 1) = some (oI G 2 (fun _ => 0))) (si kd ky : Int32) (hkd : kd = 0 ∨ kd = 1) : mI l yX7_knows wsX7_knows ({ frames := 1, cells := 0, slots := 0, locals := 22 }) G dce sz M [.ref x, .int si, .int kd, .int ky] (fun r M' => r = 0 ∧ M' = M) (0) (0) := by
  have hm : M x = some (.inr (8, [.int th, .ref (ad 1), .ref (ad 2), .ref (ad 3), .ref (ad 4), .ref (ad 5), .ref (ad 6), .ref (ad 7), .ref (ad 8), .ref (ad 9), .ref (ad 10), .ref (ad 11), .ref (ad 12), .ref (ad 13), .int 0, .ref (ad 15)])) := hm
  refine wMet (Qc := QI G _) (cc := cX7_knows) (maxL := 4) (ret := (some .boolean)) (by decide) rfl (Nat.le_of_ble_eq_true rfl) ?_
  intro p e s m below meth c A ls X hnm hw hK hZ hA hS hsz eA hl
  obtain ⟨hx, hb, hr, hts, hown, hlk, hml⟩ := id X
  have hl : lv_has ls 4 [(0, .ref x), (1, .int si), (2, .int kd), (3, .int ky)] := hl
  refine lv_aload_n hx hb dX7_knows_0 rfl (lv_at hl 0 rfl) ?_
  refine lv_iload_n hx hb dX7_knows_1 rfl (lv_at hl 2 rfl) ?_
  refine lv_iload_n hx hb dX7_knows_2 rfl (lv_at hl 3 rfl) ?_
  refine m_callVi X (ci := 8) rfl hm hK hw hZ hS hA (As := [.int kd, .int ky]) (rest := []) (c_X7_isKey_0 l G dce _ M x ad th hm hks kd ky hkd) (cwV 2 hts gX7_knows_X7_isKey rfl rfl rfl (by decide +kernel) ⟨Nat.le_of_ble_eq_true rfl, Nat.le_of_ble_eq_true rfl⟩) rfl hl.1 rfl (Nat.le_of_ble_eq_true rfl) dX7_knows_3 (Nat.le_of_ble_eq_true rfl) (Nat.le_of_ble_eq_true rfl) (fun r2 M1 H locs hp hw hS hz hk => ?_)
  rw [hp.2] at hw
  rw [hp.1]
  refine lv_if_eq (tgt := 41) hx hb dX7_knows_6 (by decide) (fun _ => ?_) (fun c_6 => absurd (by decide) c_6)
  refine lv_iconst (v := 0) hx hb dX7_knows_41 (by decide) ?_
  exact m_zret X (by decide) hK hw hS (by exact ⟨rfl, rfl⟩) (by omega) (by omega) dX7_knows_42
set_option maxHeartbeats 4000000 in
set_option maxRecDepth 100000 in
theorem c_X7_isAsked_0 (l : Launch) (G : gG) (dce sz : Nat) (M : gM) (x : Nat) (ad : Nat → Nat) (th : Int32) (hm : M x = some (oM th 0 ad)) (hks : M (ad 1) = some (oI G 2 (fun _ => 0))) (si kd ky : Int32) (b : Bool) : mI l yX7_isAsked wsX7_isAsked ({ frames := 2, cells := 0, slots := 0, locals := 45 }) G dce sz M [.ref x, .int si, .int kd, .int ky, .int (bI b)] (fun r M' => r = 0 ∧ M' = mu M x (oM (aC si kd b) 0 ad)) (0) (0) := by
  have hm : M x = some (.inr (8, [.int th, .ref (ad 1), .ref (ad 2), .ref (ad 3), .ref (ad 4), .ref (ad 5), .ref (ad 6), .ref (ad 7), .ref (ad 8), .ref (ad 9), .ref (ad 10), .ref (ad 11), .ref (ad 12), .ref (ad 13), .int 0, .ref (ad 15)])) := hm
  refine wMet (Qc := QI G _) (cc := cX7_isAsked) (maxL := 7) (ret := (some .boolean)) (by decide) rfl (Nat.le_of_ble_eq_true rfl) ?_
  intro p e s m below meth c A ls X hnm hw hK hZ hA hS hsz eA hl
  obtain ⟨hx, hb, hr, hts, hown, hlk, hml⟩ := id X
  have hl : lv_has ls 7 [(0, .ref x), (1, .int si), (2, .int kd), (3, .int ky), (4, .int (bI b))] := hl
  refine lv_iload_n hx hb dX7_isAsked_0 rfl (lv_at hl 1 rfl) ?_
  refine m_callSi X hK hw hZ hS hA (As := [.int si]) (rest := []) (c_X7_isSession l G dce _ M si) (va_cwS 1 hts gX7_isAsked_X7_isSession rfl rfl rfl (by decide +kernel) ⟨Nat.le_of_ble_eq_true rfl, Nat.le_of_ble_eq_true rfl⟩) rfl hl.1 rfl (Nat.le_of_ble_eq_true rfl) dX7_isAsked_1 (Nat.le_of_ble_eq_true rfl) (Nat.le_of_ble_eq_true rfl) (fun r2 M1 H locs hp hw hS hz hk => ?_)
  rw [hp.2] at hw
  rw [hp.1]
  refine lv_istore (lv' := [(5, .int (bI (sOK si))), (0, .ref x), (1, .int si), (2, .int kd), (3, .int ky), (4, .int (bI b))]) hx hb dX7_isAsked_4 hl (by decide) rfl (fun ls hl => ?_)
  refine lv_iload_n hx hb dX7_isAsked_6 rfl (lv_at hl 3 rfl) ?_
  refine m_callSi X hK hw hZ hS hA (As := [.int kd]) (rest := []) (c_X7_isKind l G dce _ M kd) (va_cwS 1 hts gX7_isAsked_X7_isKind rfl rfl rfl (by decide +kernel) ⟨Nat.le_of_ble_eq_true rfl, Nat.le_of_ble_eq_true rfl⟩) rfl hl.1 rfl (Nat.le_of_ble_eq_true rfl) dX7_isAsked_7 (Nat.le_of_ble_eq_true rfl) (Nat.le_of_ble_eq_true rfl) (fun r4 M3 H locs hp hw hS hz hk => ?_)
  rw [hp.2] at hw
  rw [hp.1]
  refine lv_if_eq (tgt := 22) hx hb dX7_isAsked_10 (by decide) (fun c_10 => ?_) (fun c_10 => ?_)
  · refine lv_iconst (v := 0) hx hb dX7_isAsked_22 (by decide) ?_
    refine lv_istore (lv' := [(6, .int 0), (5, .int (bI (sOK si))), (0, .ref x), (1, .int si), (2, .int kd), (3, .int ky), (4, .int (bI b))]) hx hb dX7_isAsked_23 hl (by decide) rfl (fun ls hl => ?_)
    refine lv_aload_n hx hb dX7_isAsked_25 rfl (lv_at hl 2 rfl) ?_
    refine lv_iload hx hb dX7_isAsked_26 (lv_at hl 1 rfl) ?_
    refine lv_if_ne (tgt := 35) hx hb dX7_isAsked_28 (by decide) (fun c_28 => ?_) (fun c_28 => ?_)
    · refine lv_iload hx hb dX7_isAsked_35 (lv_at hl 0 rfl) ?_
      refine lv_if_ne (tgt := 44) hx hb dX7_isAsked_37 (by decide) (fun c_37 => absurd (by decide) c_37) (fun _ => ?_)
      refine lv_iconst (v := 2) hx hb dX7_isAsked_40 (by decide) ?_
      refine lv_goto (tgt := 59) hx hb dX7_isAsked_41 (by decide) ?_
      refine m_callVi X (ci := 8) rfl hm hK hw hZ hS hA (As := [.int 2]) (rest := []) (c_X7_holds l G dce _ M x ad th 0 hm 2) (cwV 1 hts gX7_isAsked_X7_holds rfl rfl rfl (by decide +kernel) ⟨Nat.le_of_ble_eq_true rfl, Nat.le_of_ble_eq_true rfl⟩) rfl hl.1 rfl (Nat.le_of_ble_eq_true rfl) dX7_isAsked_59 (Nat.le_of_ble_eq_true rfl) (Nat.le_of_ble_eq_true rfl) (fun r6 M5 H locs hp hw hS hz hk => ?_)
      have eM5 := hp.2
      have er6 := hp.1
      have k7 : M5 x = some (.inr (8, [.int 2, .ref (ad 1), .ref (ad 2), .ref (ad 3), .ref (ad 4), .ref (ad 5), .ref (ad 6), .ref (ad 7), .ref (ad 8), .ref (ad 9), .ref (ad 10), .ref (ad 11), .ref (ad 12), .ref (ad 13), .int 0, .ref (ad 15)])) := by rw [eM5]; exact mu_s _ _ _
      have hk8 : M5 (ad 1) = some (oI G 2 (fun _ => 0)) := (congrFun eM5 (ad 1)).trans (mu_g hks (gM_ne hks hm (by simp [oI])))
      rw [show r6 = 0 from by rw [er6]; decide]
      exact m_zret X (by decide) hK hw hS (by subst_vars; refine ⟨by simp_all [bI], ?_⟩; rw [show aC si kd b = 2 from by simp_all [aC, bI_0, bI]]) (by omega) (by omega) dX7_isAsked_62
    · refine lv_iconst (v := 1) hx hb dX7_isAsked_31 (by decide) ?_
      refine lv_goto (tgt := 59) hx hb dX7_isAsked_32 (by decide) ?_
      refine m_callVi X (ci := 8) rfl hm hK hw hZ hS hA (As := [.int 1]) (rest := []) (c_X7_holds l G dce _ M x ad th 0 hm 1) (cwV 1 hts gX7_isAsked_X7_holds rfl rfl rfl (by decide +kernel) ⟨Nat.le_of_ble_eq_true rfl, Nat.le_of_ble_eq_true rfl⟩) rfl hl.1 rfl (Nat.le_of_ble_eq_true rfl) dX7_isAsked_59 (Nat.le_of_ble_eq_true rfl) (Nat.le_of_ble_eq_true rfl) (fun r10 M9 H locs hp hw hS hz hk => ?_)
      have eM9 := hp.2
      have er10 := hp.1
      have k11 : M9 x = some (.inr (8, [.int 1, .ref (ad 1), .ref (ad 2), .ref (ad 3), .ref (ad 4), .ref (ad 5), .ref (ad 6), .ref (ad 7), .ref (ad 8), .ref (ad 9), .ref (ad 10), .ref (ad 11), .ref (ad 12), .ref (ad 13), .int 0, .ref (ad 15)])) := by rw [eM9]; exact mu_s _ _ _
      have hk12 : M9 (ad 1) = some (oI G 2 (fun _ => 0)) := (congrFun eM9 (ad 1)).trans (mu_g hks (gM_ne hks hm (by simp [oI])))
      rw [show r10 = 0 from by rw [er10]; decide]
      exact m_zret X (by decide) hK hw hS (by subst_vars; refine ⟨by simp_all [bI], ?_⟩; rw [show aC si kd b = 1 from by simp_all [aC, bI_0, bI]]) (by omega) (by omega) dX7_isAsked_62
  · refine lv_iload hx hb dX7_isAsked_13 (lv_at hl 5 rfl) ?_
    refine lv_if_eq (tgt := 22) hx hb dX7_isAsked_15 (by decide) (fun c_15 => ?_) (fun c_15 => ?_)
    · refine lv_iconst (v := 0) hx hb dX7_isAsked_22 (by decide) ?_
      refine lv_istore (lv' := [(6, .int 0), (5, .int (bI (sOK si))), (0, .ref x), (1, .int si), (2, .int kd), (3, .int ky), (4, .int (bI b))]) hx hb dX7_isAsked_23 hl (by decide) rfl (fun ls hl => ?_)
      refine lv_aload_n hx hb dX7_isAsked_25 rfl (lv_at hl 2 rfl) ?_
      refine lv_iload hx hb dX7_isAsked_26 (lv_at hl 1 rfl) ?_
      refine lv_if_ne (tgt := 35) hx hb dX7_isAsked_28 (by decide) (fun c_28 => ?_) (fun c_28 => ?_)
      · refine lv_iload hx hb dX7_isAsked_35 (lv_at hl 0 rfl) ?_
        refine lv_if_ne (tgt := 44) hx hb dX7_isAsked_37 (by decide) (fun c_37 => absurd (by decide) c_37) (fun _ => ?_)
        refine lv_iconst (v := 2) hx hb dX7_isAsked_40 (by decide) ?_
        refine lv_goto (tgt := 59) hx hb dX7_isAsked_41 (by decide) ?_
        refine m_callVi X (ci := 8) rfl hm hK hw hZ hS hA (As := [.int 2]) (rest := []) (c_X7_holds l G dce _ M x ad th 0 hm 2) (cwV 1 hts gX7_isAsked_X7_holds rfl rfl rfl (by decide +kernel) ⟨Nat.le_of_ble_eq_true rfl, Nat.le_of_ble_eq_true rfl⟩) rfl hl.1 rfl (Nat.le_of_ble_eq_true rfl) dX7_isAsked_59 (Nat.le_of_ble_eq_true rfl) (Nat.le_of_ble_eq_true rfl) (fun r14 M13 H locs hp hw hS hz hk => ?_)
        have eM13 := hp.2
        have er14 := hp.1
        have k15 : M13 x = some (.inr (8, [.int 2, .ref (ad 1), .ref (ad 2), .ref (ad 3), .ref (ad 4), .ref (ad 5), .ref (ad 6), .ref (ad 7), .ref (ad 8), .ref (ad 9), .ref (ad 10), .ref (ad 11), .ref (ad 12), .ref (ad 13), .int 0, .ref (ad 15)])) := by rw [eM13]; exact mu_s _ _ _
        have hk16 : M13 (ad 1) = some (oI G 2 (fun _ => 0)) := (congrFun eM13 (ad 1)).trans (mu_g hks (gM_ne hks hm (by simp [oI])))
        rw [show r14 = 0 from by rw [er14]; decide]
        exact m_zret X (by decide) hK hw hS (by subst_vars; refine ⟨by simp_all [bI], ?_⟩; rw [show aC si kd b = 2 from by simp_all [aC, bI_0, bI]]) (by omega) (by omega) dX7_isAsked_62
      · refine lv_iconst (v := 1) hx hb dX7_isAsked_31 (by decide) ?_
        refine lv_goto (tgt := 59) hx hb dX7_isAsked_32 (by decide) ?_
        refine m_callVi X (ci := 8) rfl hm hK hw hZ hS hA (As := [.int 1]) (rest := []) (c_X7_holds l G dce _ M x ad th 0 hm 1) (cwV 1 hts gX7_isAsked_X7_holds rfl rfl rfl (by decide +kernel) ⟨Nat.le_of_ble_eq_true rfl, Nat.le_of_ble_eq_true rfl⟩) rfl hl.1 rfl (Nat.le_of_ble_eq_true rfl) dX7_isAsked_59 (Nat.le_of_ble_eq_true rfl) (Nat.le_of_ble_eq_true rfl) (fun r18 M17 H locs hp hw hS hz hk => ?_)
        have eM17 := hp.2
        have er18 := hp.1
        have k19 : M17 x = some (.inr (8, [.int 1, .ref (ad 1), .ref (ad 2), .ref (ad 3), .ref (ad 4), .ref (ad 5), .ref (ad 6), .ref (ad 7), .ref (ad 8), .ref (ad 9), .ref (ad 10), .ref (ad 11), .ref (ad 12), .ref (ad 13), .int 0, .ref (ad 15)])) := by rw [eM17]; exact mu_s _ _ _
        have hk20 : M17 (ad 1) = some (oI G 2 (fun _ => 0)) := (congrFun eM17 (ad 1)).trans (mu_g hks (gM_ne hks hm (by simp [oI])))
        rw [show r18 = 0 from by rw [er18]; decide]
        exact m_zret X (by decide) hK hw hS (by subst_vars; refine ⟨by simp_all [bI], ?_⟩; rw [show aC si kd b = 1 from by simp_all [aC, bI_0, bI]]) (by omega) (by omega) dX7_isAsked_62
    · refine lv_iconst (v := 1) hx hb dX7_isAsked_18 (by decide) ?_
      refine lv_goto (tgt := 23) hx hb dX7_isAsked_19 (by decide) ?_
      refine lv_istore (lv' := [(6, .int 1), (5, .int (bI (sOK si))), (0, .ref x), (1, .int si), (2, .int kd), (3, .int ky), (4, .int (bI b))]) hx hb dX7_isAsked_23 hl (by decide) rfl (fun ls hl => ?_)
      refine lv_aload_n hx hb dX7_isAsked_25 rfl (lv_at hl 2 rfl) ?_
      refine lv_iload hx hb dX7_isAsked_26 (lv_at hl 1 rfl) ?_
      refine lv_if_ne (tgt := 35) hx hb dX7_isAsked_28 (by decide) (fun c_28 => ?_) (fun c_28 => ?_)
      · refine lv_iload hx hb dX7_isAsked_35 (lv_at hl 0 rfl) ?_
        refine lv_if_ne (tgt := 44) hx hb dX7_isAsked_37 (by decide) (fun _ => ?_) (fun c_37 => absurd c_37 (by decide))
        refine lv_aload_n hx hb dX7_isAsked_44 rfl (lv_at hl 2 rfl) ?_
        refine lv_iload_n hx hb dX7_isAsked_45 rfl (lv_at hl 3 rfl) ?_
        refine lv_iload_n hx hb dX7_isAsked_46 rfl (lv_at hl 4 rfl) ?_
        refine lv_iload_n hx hb dX7_isAsked_47 rfl (lv_at hl 5 rfl) ?_
        have w21 : kd = 0 ∨ kd = 1 := by
          have hk9 : kOK kd = true := by simp_all [bI_0]
          simpa [kOK] using hk9
        refine m_callVi X (ci := 8) rfl hm hK hw hZ hS hA (As := [.int si, .int kd, .int ky]) (rest := [.ref x]) (c_X7_knows_0 l G dce _ M x ad th hm hks si kd ky w21) (cwV 3 hts gX7_isAsked_X7_knows rfl rfl rfl (by decide +kernel) ⟨Nat.le_of_ble_eq_true rfl, Nat.le_of_ble_eq_true rfl⟩) rfl hl.1 rfl (Nat.le_of_ble_eq_true rfl) dX7_isAsked_48 (Nat.le_of_ble_eq_true rfl) (Nat.le_of_ble_eq_true rfl) (fun r23 M22 H locs hp hw hS hz hk => ?_)
        rw [hp.2] at hw
        rw [hp.1]
        refine lv_if_eq (tgt := 58) hx hb dX7_isAsked_51 (by decide) (fun _ => ?_) (fun c_51 => absurd (by decide) c_51)
        refine lv_iconst (v := 3) hx hb dX7_isAsked_58 (by decide) ?_
        refine m_callVi X (ci := 8) rfl hm hK hw hZ hS hA (As := [.int 3]) (rest := []) (c_X7_holds l G dce _ M x ad th 0 hm 3) (cwV 1 hts gX7_isAsked_X7_holds rfl rfl rfl (by decide +kernel) ⟨Nat.le_of_ble_eq_true rfl, Nat.le_of_ble_eq_true rfl⟩) rfl hl.1 rfl (Nat.le_of_ble_eq_true rfl) dX7_isAsked_59 (Nat.le_of_ble_eq_true rfl) (Nat.le_of_ble_eq_true rfl) (fun r25 M24 H locs hp hw hS hz hk => ?_)
        have eM24 := hp.2
        have er25 := hp.1
        have k26 : M24 x = some (.inr (8, [.int 3, .ref (ad 1), .ref (ad 2), .ref (ad 3), .ref (ad 4), .ref (ad 5), .ref (ad 6), .ref (ad 7), .ref (ad 8), .ref (ad 9), .ref (ad 10), .ref (ad 11), .ref (ad 12), .ref (ad 13), .int 0, .ref (ad 15)])) := by rw [eM24]; exact mu_s _ _ _
        have hk27 : M24 (ad 1) = some (oI G 2 (fun _ => 0)) := (congrFun eM24 (ad 1)).trans (mu_g hks (gM_ne hks hm (by simp [oI])))
        rw [show r25 = 0 from by rw [er25]; decide]
        exact m_zret X (by decide) hK hw hS (by subst_vars; refine ⟨by simp_all [bI], ?_⟩; rw [show aC si kd b = 3 from by simp_all [aC, bI_0, bI]]) (by omega) (by omega) dX7_isAsked_62
      · refine lv_iconst (v := 1) hx hb dX7_isAsked_31 (by decide) ?_
        refine lv_goto (tgt := 59) hx hb dX7_isAsked_32 (by decide) ?_
        refine m_callVi X (ci := 8) rfl hm hK hw hZ hS hA (As := [.int 1]) (rest := []) (c_X7_holds l G dce _ M x ad th 0 hm 1) (cwV 1 hts gX7_isAsked_X7_holds rfl rfl rfl (by decide +kernel) ⟨Nat.le_of_ble_eq_true rfl, Nat.le_of_ble_eq_true rfl⟩) rfl hl.1 rfl (Nat.le_of_ble_eq_true rfl) dX7_isAsked_59 (Nat.le_of_ble_eq_true rfl) (Nat.le_of_ble_eq_true rfl) (fun r29 M28 H locs hp hw hS hz hk => ?_)
        have eM28 := hp.2
        have er29 := hp.1
        have k30 : M28 x = some (.inr (8, [.int 1, .ref (ad 1), .ref (ad 2), .ref (ad 3), .ref (ad 4), .ref (ad 5), .ref (ad 6), .ref (ad 7), .ref (ad 8), .ref (ad 9), .ref (ad 10), .ref (ad 11), .ref (ad 12), .ref (ad 13), .int 0, .ref (ad 15)])) := by rw [eM28]; exact mu_s _ _ _
        have hk31 : M28 (ad 1) = some (oI G 2 (fun _ => 0)) := (congrFun eM28 (ad 1)).trans (mu_g hks (gM_ne hks hm (by simp [oI])))
        rw [show r29 = 0 from by rw [er29]; decide]
        exact m_zret X (by decide) hK hw hS (by subst_vars; refine ⟨by simp_all [bI], ?_⟩; rw [show aC si kd b = 1 from by simp_all [aC, bI_0, bI]]) (by omega) (by omega) dX7_isAsked_62
set_option maxHeartbeats 4000000 in
set_option maxRecDepth 100000 in
theorem c_X7_remove_0 (l : Launch) (G : gG) (dce sz : Nat) (M : gM) (x : Nat) (ad : Nat → Nat) (th : Int32) (hm : M x = some (oM th 0 ad)) (hks : M (ad 1) = some (oI G 2 (fun _ => 0))) (si kd ky : Int32) : mI l yX7_remove wsX7_remove ({ frames := 3, cells := 0, slots := 0, locals := 71 }) G dce sz M [.ref x, .int si, .int kd, .int ky] (fun r M' => r = 0 ∧ M' = mu M x (oM (aC si kd true) 0 ad)) (0) (0) := by
  have hm : M x = some (.inr (8, [.int th, .ref (ad 1), .ref (ad 2), .ref (ad 3), .ref (ad 4), .ref (ad 5), .ref (ad 6), .ref (ad 7), .ref (ad 8), .ref (ad 9), .ref (ad 10), .ref (ad 11), .ref (ad 12), .ref (ad 13), .int 0, .ref (ad 15)])) := hm
  refine wMet (Qc := QI G _) (cc := cX7_remove) (maxL := 6) (ret := (some .int)) (by decide) rfl (Nat.le_of_ble_eq_true rfl) ?_
  intro p e s m below meth c A ls X hnm hw hK hZ hA hS hsz eA hl
  obtain ⟨hx, hb, hr, hts, hown, hlk, hml⟩ := id X
  have hl : lv_has ls 6 [(0, .ref x), (1, .int si), (2, .int kd), (3, .int ky)] := hl
  refine lv_aload_n hx hb dX7_remove_0 rfl (lv_at hl 0 rfl) ?_
  refine lv_iload_n hx hb dX7_remove_1 rfl (lv_at hl 1 rfl) ?_
  refine lv_iload_n hx hb dX7_remove_2 rfl (lv_at hl 2 rfl) ?_
  refine lv_iload_n hx hb dX7_remove_3 rfl (lv_at hl 3 rfl) ?_
  refine lv_iconst (v := 1) hx hb dX7_remove_4 (by decide) ?_
  refine m_callVi X (ci := 8) rfl hm hK hw hZ hS hA (As := [.int si, .int kd, .int ky, .int 1]) (rest := []) (c_X7_isAsked_0 l G dce _ M x ad th hm hks si kd ky true) (cwV 4 hts gX7_remove_X7_isAsked rfl rfl rfl (by decide +kernel) ⟨Nat.le_of_ble_eq_true rfl, Nat.le_of_ble_eq_true rfl⟩) rfl hl.1 rfl (Nat.le_of_ble_eq_true rfl) dX7_remove_5 (Nat.le_of_ble_eq_true rfl) (Nat.le_of_ble_eq_true rfl) (fun r2 M1 H locs hp hw hS hz hk => ?_)
  have eM1 := hp.2
  have er2 := hp.1
  subst er2
  refine lv_if_ne (tgt := 13) hx hb dX7_remove_8 (by decide) (fun c_8 => absurd (by decide) c_8) (fun _ => ?_)
  refine lv_iconst (v := 0) hx hb dX7_remove_11 (by decide) ?_
  exact m_iret X hK hw hS ⟨rfl, eM1⟩ (by omega) (by omega) dX7_remove_12
set_option maxHeartbeats 4000000 in
set_option maxRecDepth 100000 in
theorem c_X7_name_0 (l : Launch) (G : gG) (dce sz : Nat) (M : gM) (x : Nat) (ad : Nat → Nat) (th : Int32) (hm : M x = some (oM th 0 ad)) (hks : M (ad 1) = some (oI G 2 (fun _ => 0))) (si kd ky : Int32) : mI l yX7_name wsX7_name ({ frames := 3, cells := 0, slots := 0, locals := 71 }) G dce sz M [.ref x, .int si, .int kd, .int ky] (fun r M' => r = 0 ∧ M' = mu M x (oM (aC si kd true) 0 ad)) (0) (0) := by
  have hm : M x = some (.inr (8, [.int th, .ref (ad 1), .ref (ad 2), .ref (ad 3), .ref (ad 4), .ref (ad 5), .ref (ad 6), .ref (ad 7), .ref (ad 8), .ref (ad 9), .ref (ad 10), .ref (ad 11), .ref (ad 12), .ref (ad 13), .int 0, .ref (ad 15)])) := hm
  refine wMet (Qc := QI G _) (cc := cX7_name) (maxL := 4) (ret := (some .int)) (by decide) rfl (Nat.le_of_ble_eq_true rfl) ?_
  intro p e s m below meth c A ls X hnm hw hK hZ hA hS hsz eA hl
  obtain ⟨hx, hb, hr, hts, hown, hlk, hml⟩ := id X
  have hl : lv_has ls 4 [(0, .ref x), (1, .int si), (2, .int kd), (3, .int ky)] := hl
  refine lv_aload_n hx hb dX7_name_0 rfl (lv_at hl 0 rfl) ?_
  refine lv_iload_n hx hb dX7_name_1 rfl (lv_at hl 1 rfl) ?_
  refine lv_iload_n hx hb dX7_name_2 rfl (lv_at hl 2 rfl) ?_
  refine lv_iload_n hx hb dX7_name_3 rfl (lv_at hl 3 rfl) ?_
  refine lv_iconst (v := 1) hx hb dX7_name_4 (by decide) ?_
  refine m_callVi X (ci := 8) rfl hm hK hw hZ hS hA (As := [.int si, .int kd, .int ky, .int 1]) (rest := []) (c_X7_isAsked_0 l G dce _ M x ad th hm hks si kd ky true) (cwV 4 hts gX7_name_X7_isAsked rfl rfl rfl (by decide +kernel) ⟨Nat.le_of_ble_eq_true rfl, Nat.le_of_ble_eq_true rfl⟩) rfl hl.1 rfl (Nat.le_of_ble_eq_true rfl) dX7_name_5 (Nat.le_of_ble_eq_true rfl) (Nat.le_of_ble_eq_true rfl) (fun r2 M1 H locs hp hw hS hz hk => ?_)
  have eM1 := hp.2
  have er2 := hp.1
  subst er2
  refine lv_if_eq (tgt := 25) hx hb dX7_name_8 (by decide) (fun _ => ?_) (fun c_8 => absurd (by decide) c_8)
  refine lv_iconst (v := 0) hx hb dX7_name_25 (by decide) ?_
  exact m_iret X hK hw hS ⟨rfl, eM1⟩ (by omega) (by omega) dX7_name_26
set_option maxHeartbeats 4000000 in
set_option maxRecDepth 100000 in
theorem c_X7_reference_0 (l : Launch) (G : gG) (dce sz : Nat) (M : gM) (x : Nat) (ad : Nat → Nat) (th : Int32) (hm : M x = some (oM th 0 ad)) (hks : M (ad 1) = some (oI G 2 (fun _ => 0))) (si kd ky : Int32) : mI l yX7_reference wsX7_reference ({ frames := 3, cells := 0, slots := 0, locals := 71 }) G dce sz M [.ref x, .int si, .int kd, .int ky] (fun r M' => r = 0 ∧ M' = mu M x (oM (aC si kd true) 0 ad)) (0) (0) := by
  have hm : M x = some (.inr (8, [.int th, .ref (ad 1), .ref (ad 2), .ref (ad 3), .ref (ad 4), .ref (ad 5), .ref (ad 6), .ref (ad 7), .ref (ad 8), .ref (ad 9), .ref (ad 10), .ref (ad 11), .ref (ad 12), .ref (ad 13), .int 0, .ref (ad 15)])) := hm
  refine wMet (Qc := QI G _) (cc := cX7_reference) (maxL := 4) (ret := (some .int)) (by decide) rfl (Nat.le_of_ble_eq_true rfl) ?_
  intro p e s m below meth c A ls X hnm hw hK hZ hA hS hsz eA hl
  obtain ⟨hx, hb, hr, hts, hown, hlk, hml⟩ := id X
  have hl : lv_has ls 4 [(0, .ref x), (1, .int si), (2, .int kd), (3, .int ky)] := hl
  refine lv_aload_n hx hb dX7_reference_0 rfl (lv_at hl 0 rfl) ?_
  refine lv_iload_n hx hb dX7_reference_1 rfl (lv_at hl 1 rfl) ?_
  refine lv_iload_n hx hb dX7_reference_2 rfl (lv_at hl 2 rfl) ?_
  refine lv_iload_n hx hb dX7_reference_3 rfl (lv_at hl 3 rfl) ?_
  refine lv_iconst (v := 1) hx hb dX7_reference_4 (by decide) ?_
  refine m_callVi X (ci := 8) rfl hm hK hw hZ hS hA (As := [.int si, .int kd, .int ky, .int 1]) (rest := []) (c_X7_isAsked_0 l G dce _ M x ad th hm hks si kd ky true) (cwV 4 hts gX7_reference_X7_isAsked rfl rfl rfl (by decide +kernel) ⟨Nat.le_of_ble_eq_true rfl, Nat.le_of_ble_eq_true rfl⟩) rfl hl.1 rfl (Nat.le_of_ble_eq_true rfl) dX7_reference_5 (Nat.le_of_ble_eq_true rfl) (Nat.le_of_ble_eq_true rfl) (fun r2 M1 H locs hp hw hS hz hk => ?_)
  have eM1 := hp.2
  have er2 := hp.1
  subst er2
  refine lv_if_eq (tgt := 25) hx hb dX7_reference_8 (by decide) (fun _ => ?_) (fun c_8 => absurd (by decide) c_8)
  refine lv_iconst (v := 0) hx hb dX7_reference_25 (by decide) ?_
  exact m_iret X hK hw hS ⟨rfl, eM1⟩ (by omega) (by omega) dX7_reference_26
set_option maxHeartbeats 4000000 in
set_option maxRecDepth 100000 in
theorem c_X7_setName_0 (l : Launch) (G : gG) (dce sz : Nat) (M : gM) (x : Nat) (ad : Nat → Nat) (th : Int32) (hm : M x = some (oM th 0 ad)) (hks : M (ad 1) = some (oI G 2 (fun _ => 0))) (si kd ky : Int32) (nm : Int32) : mV l yX7_setName wsX7_setName ({ frames := 3, cells := 0, slots := 0, locals := 71 }) G dce sz M [.ref x, .int si, .int kd, .int ky, .int nm] (fun M' => M' = mu M x (oM (aC si kd (nOK nm)) 0 ad)) (0) (0) := by
  have hm : M x = some (.inr (8, [.int th, .ref (ad 1), .ref (ad 2), .ref (ad 3), .ref (ad 4), .ref (ad 5), .ref (ad 6), .ref (ad 7), .ref (ad 8), .ref (ad 9), .ref (ad 10), .ref (ad 11), .ref (ad 12), .ref (ad 13), .int 0, .ref (ad 15)])) := hm
  refine wMet (Qc := QV G _) (cc := cX7_setName) (maxL := 5) (ret := none) (by decide) rfl (Nat.le_of_ble_eq_true rfl) ?_
  intro p e s m below meth c A ls X hnm hw hK hZ hA hS hsz eA hl
  obtain ⟨hx, hb, hr, hts, hown, hlk, hml⟩ := id X
  have hl : lv_has ls 5 [(0, .ref x), (1, .int si), (2, .int kd), (3, .int ky), (4, .int nm)] := hl
  refine lv_aload_n hx hb dX7_setName_0 rfl (lv_at hl 0 rfl) ?_
  refine lv_iload_n hx hb dX7_setName_1 rfl (lv_at hl 1 rfl) ?_
  refine lv_iload_n hx hb dX7_setName_2 rfl (lv_at hl 2 rfl) ?_
  refine lv_iload_n hx hb dX7_setName_3 rfl (lv_at hl 3 rfl) ?_
  refine lv_iload hx hb dX7_setName_4 (lv_at hl 4 rfl) ?_
  refine m_callSi X hK hw hZ hS hA (As := [.int nm]) (rest := [.int ky, .int kd, .int si, .ref x]) (c_X7_isName l G dce _ M nm) (va_cwS 1 hts gX7_setName_X7_isName rfl rfl rfl (by decide +kernel) ⟨Nat.le_of_ble_eq_true rfl, Nat.le_of_ble_eq_true rfl⟩) rfl hl.1 rfl (Nat.le_of_ble_eq_true rfl) dX7_setName_6 (Nat.le_of_ble_eq_true rfl) (Nat.le_of_ble_eq_true rfl) (fun r2 M1 H locs hp hw hS hz hk => ?_)
  rw [hp.2] at hw
  rw [hp.1]
  refine m_callVi X (ci := 8) rfl hm hK hw hZ hS hA (As := [.int si, .int kd, .int ky, .int (bI (nOK nm))]) (rest := []) (c_X7_isAsked_0 l G dce _ M x ad th hm hks si kd ky (nOK nm)) (cwV 4 hts gX7_setName_X7_isAsked rfl rfl rfl (by decide +kernel) ⟨Nat.le_of_ble_eq_true rfl, Nat.le_of_ble_eq_true rfl⟩) rfl hl.1 rfl (Nat.le_of_ble_eq_true rfl) dX7_setName_9 (Nat.le_of_ble_eq_true rfl) (Nat.le_of_ble_eq_true rfl) (fun r4 M3 H locs hp hw hS hz hk => ?_)
  have eM3 := hp.2
  have er4 := hp.1
  subst er4
  refine lv_if_eq (tgt := 28) hx hb dX7_setName_12 (by decide) (fun _ => ?_) (fun c_12 => absurd (by decide) c_12)
  exact m_vret X hK hw hS eM3 (by omega) (by omega) dX7_setName_28
set_option maxHeartbeats 4000000 in
set_option maxRecDepth 100000 in
theorem c_X7_setReference_0 (l : Launch) (G : gG) (dce sz : Nat) (M : gM) (x : Nat) (ad : Nat → Nat) (th : Int32) (hm : M x = some (oM th 0 ad)) (hks : M (ad 1) = some (oI G 2 (fun _ => 0))) (si kd ky : Int32) (rf : Int32) : mV l yX7_setReference wsX7_setReference ({ frames := 3, cells := 0, slots := 0, locals := 71 }) G dce sz M [.ref x, .int si, .int kd, .int ky, .int rf] (fun M' => M' = mu M x (oM (aC si kd (!decide (rf = -1) || decide (kd = 0))) 0 ad)) (0) (0) := by
  have hm : M x = some (.inr (8, [.int th, .ref (ad 1), .ref (ad 2), .ref (ad 3), .ref (ad 4), .ref (ad 5), .ref (ad 6), .ref (ad 7), .ref (ad 8), .ref (ad 9), .ref (ad 10), .ref (ad 11), .ref (ad 12), .ref (ad 13), .int 0, .ref (ad 15)])) := hm
  refine wMet (Qc := QV G _) (cc := cX7_setReference) (maxL := 7) (ret := none) (by decide) rfl (Nat.le_of_ble_eq_true rfl) ?_
  intro p e s m below meth c A ls X hnm hw hK hZ hA hS hsz eA hl
  obtain ⟨hx, hb, hr, hts, hown, hlk, hml⟩ := id X
  have hl : lv_has ls 7 [(0, .ref x), (1, .int si), (2, .int kd), (3, .int ky), (4, .int rf)] := hl
  refine lv_iload hx hb dX7_setReference_0 (lv_at hl 4 rfl) ?_
  refine lv_iconst (v := (-1)) hx hb dX7_setReference_2 (by decide) ?_
  refine lv_icmp_ne (tgt := 10) hx hb dX7_setReference_3 (by decide) (fun c_3 => ?_) (fun c_3 => ?_)
  · refine lv_iconst (v := 0) hx hb dX7_setReference_10 (by decide) ?_
    refine lv_istore (lv' := [(5, .int 0), (0, .ref x), (1, .int si), (2, .int kd), (3, .int ky), (4, .int rf)]) hx hb dX7_setReference_11 hl (by decide) rfl (fun ls hl => ?_)
    refine lv_aload_n hx hb dX7_setReference_13 rfl (lv_at hl 1 rfl) ?_
    refine lv_iload_n hx hb dX7_setReference_14 rfl (lv_at hl 2 rfl) ?_
    refine lv_iload_n hx hb dX7_setReference_15 rfl (lv_at hl 3 rfl) ?_
    refine lv_iload_n hx hb dX7_setReference_16 rfl (lv_at hl 4 rfl) ?_
    refine lv_iload hx hb dX7_setReference_17 (lv_at hl 0 rfl) ?_
    refine lv_if_eq (tgt := 26) hx hb dX7_setReference_19 (by decide) (fun _ => ?_) (fun c_19 => absurd (by decide) c_19)
    refine lv_iconst (v := 1) hx hb dX7_setReference_26 (by decide) ?_
    refine lv_goto (tgt := 31) hx hb dX7_setReference_27 (by decide) ?_
    refine m_callVi X (ci := 8) rfl hm hK hw hZ hS hA (As := [.int si, .int kd, .int ky, .int 1]) (rest := []) (c_X7_isAsked_0 l G dce _ M x ad th hm hks si kd ky true) (cwV 4 hts gX7_setReference_X7_isAsked rfl rfl rfl (by decide +kernel) ⟨Nat.le_of_ble_eq_true rfl, Nat.le_of_ble_eq_true rfl⟩) rfl hl.1 rfl (Nat.le_of_ble_eq_true rfl) dX7_setReference_31 (Nat.le_of_ble_eq_true rfl) (Nat.le_of_ble_eq_true rfl) (fun r2 M1 H locs hp hw hS hz hk => ?_)
    have eM1 := hp.2
    have er2 := hp.1
    subst er2
    refine lv_istore (lv' := [(6, .int 0), (5, .int 0), (0, .ref x), (1, .int si), (2, .int kd), (3, .int ky), (4, .int rf)]) hx hb dX7_setReference_34 hl (by decide) rfl (fun ls hl => ?_)
    refine lv_iload hx hb dX7_setReference_36 (lv_at hl 0 rfl) ?_
    refine lv_if_eq (tgt := 84) hx hb dX7_setReference_38 (by decide) (fun _ => ?_) (fun c_38 => absurd (by decide) c_38)
    exact m_vret X hK hw hS (by rw [eM1, show (!decide (rf = -1) || decide (kd = 0)) = true from by simp_all]) (by omega) (by omega) dX7_setReference_84
  · refine lv_iconst (v := 1) hx hb dX7_setReference_6 (by decide) ?_
    refine lv_goto (tgt := 11) hx hb dX7_setReference_7 (by decide) ?_
    refine lv_istore (lv' := [(5, .int 1), (0, .ref x), (1, .int si), (2, .int kd), (3, .int ky), (4, .int rf)]) hx hb dX7_setReference_11 hl (by decide) rfl (fun ls hl => ?_)
    refine lv_aload_n hx hb dX7_setReference_13 rfl (lv_at hl 1 rfl) ?_
    refine lv_iload_n hx hb dX7_setReference_14 rfl (lv_at hl 2 rfl) ?_
    refine lv_iload_n hx hb dX7_setReference_15 rfl (lv_at hl 3 rfl) ?_
    refine lv_iload_n hx hb dX7_setReference_16 rfl (lv_at hl 4 rfl) ?_
    refine lv_iload hx hb dX7_setReference_17 (lv_at hl 0 rfl) ?_
    refine lv_if_eq (tgt := 26) hx hb dX7_setReference_19 (by decide) (fun c_19 => absurd c_19 (by decide)) (fun _ => ?_)
    refine lv_iload_n hx hb dX7_setReference_22 rfl (lv_at hl 3 rfl) ?_
    refine lv_if_ne (tgt := 30) hx hb dX7_setReference_23 (by decide) (fun c_23 => ?_) (fun c_23 => ?_)
    · refine lv_iconst (v := 0) hx hb dX7_setReference_30 (by decide) ?_
      refine m_callVi X (ci := 8) rfl hm hK hw hZ hS hA (As := [.int si, .int kd, .int ky, .int 0]) (rest := []) (c_X7_isAsked_0 l G dce _ M x ad th hm hks si kd ky false) (cwV 4 hts gX7_setReference_X7_isAsked rfl rfl rfl (by decide +kernel) ⟨Nat.le_of_ble_eq_true rfl, Nat.le_of_ble_eq_true rfl⟩) rfl hl.1 rfl (Nat.le_of_ble_eq_true rfl) dX7_setReference_31 (Nat.le_of_ble_eq_true rfl) (Nat.le_of_ble_eq_true rfl) (fun r4 M3 H locs hp hw hS hz hk => ?_)
      have eM3 := hp.2
      have er4 := hp.1
      subst er4
      refine lv_istore (lv' := [(6, .int 0), (5, .int 1), (0, .ref x), (1, .int si), (2, .int kd), (3, .int ky), (4, .int rf)]) hx hb dX7_setReference_34 hl (by decide) rfl (fun ls hl => ?_)
      refine lv_iload hx hb dX7_setReference_36 (lv_at hl 0 rfl) ?_
      refine lv_if_eq (tgt := 84) hx hb dX7_setReference_38 (by decide) (fun _ => ?_) (fun c_38 => absurd (by decide) c_38)
      exact m_vret X hK hw hS (by rw [eM3, show (!decide (rf = -1) || decide (kd = 0)) = false from by simp_all]) (by omega) (by omega) dX7_setReference_84
    · refine lv_iconst (v := 1) hx hb dX7_setReference_26 (by decide) ?_
      refine lv_goto (tgt := 31) hx hb dX7_setReference_27 (by decide) ?_
      refine m_callVi X (ci := 8) rfl hm hK hw hZ hS hA (As := [.int si, .int kd, .int ky, .int 1]) (rest := []) (c_X7_isAsked_0 l G dce _ M x ad th hm hks si kd ky true) (cwV 4 hts gX7_setReference_X7_isAsked rfl rfl rfl (by decide +kernel) ⟨Nat.le_of_ble_eq_true rfl, Nat.le_of_ble_eq_true rfl⟩) rfl hl.1 rfl (Nat.le_of_ble_eq_true rfl) dX7_setReference_31 (Nat.le_of_ble_eq_true rfl) (Nat.le_of_ble_eq_true rfl) (fun r6 M5 H locs hp hw hS hz hk => ?_)
      have eM5 := hp.2
      have er6 := hp.1
      subst er6
      refine lv_istore (lv' := [(6, .int 0), (5, .int 1), (0, .ref x), (1, .int si), (2, .int kd), (3, .int ky), (4, .int rf)]) hx hb dX7_setReference_34 hl (by decide) rfl (fun ls hl => ?_)
      refine lv_iload hx hb dX7_setReference_36 (lv_at hl 0 rfl) ?_
      refine lv_if_eq (tgt := 84) hx hb dX7_setReference_38 (by decide) (fun _ => ?_) (fun c_38 => absurd (by decide) c_38)
      exact m_vret X hK hw hS (by rw [eM5, show (!decide (rf = -1) || decide (kd = 0)) = true from by simp_all]) (by omega) (by omega) dX7_setReference_84
set_option maxHeartbeats 4000000 in
set_option maxRecDepth 100000 in
theorem c_X7_makeBook_0 (l : Launch) (G : gG) (dce sz : Nat) (M : gM) (x : Nat) (ad : Nat → Nat) (th : Int32) (hm : M x = some (oM th 0 ad)) (hks : M (ad 1) = some (oI G 2 (fun _ => 0))) (si nm au : Int32) : mI l yX7_makeBook wsX7_makeBook ({ frames := 2, cells := 0, slots := 0, locals := 45 }) G dce sz M [.ref x, .int si, .int nm, .int au] (fun r M' => r = 0 ∧ M' = mu M x (oM (if sOK si then (if nOK nm then 3 else 2) else 1) 0 ad)) (0) (0) := by
  have hm : M x = some (.inr (8, [.int th, .ref (ad 1), .ref (ad 2), .ref (ad 3), .ref (ad 4), .ref (ad 5), .ref (ad 6), .ref (ad 7), .ref (ad 8), .ref (ad 9), .ref (ad 10), .ref (ad 11), .ref (ad 12), .ref (ad 13), .int 0, .ref (ad 15)])) := hm
  refine wMet (Qc := QI G _) (cc := cX7_makeBook) (maxL := 5) (ret := (some .int)) (by decide) rfl (Nat.le_of_ble_eq_true rfl) ?_
  intro p e s m below meth c A ls X hnm hw hK hZ hA hS hsz eA hl
  obtain ⟨hx, hb, hr, hts, hown, hlk, hml⟩ := id X
  have hl : lv_has ls 5 [(0, .ref x), (1, .int si), (2, .int nm), (3, .int au)] := hl
  refine lv_iload_n hx hb dX7_makeBook_0 rfl (lv_at hl 1 rfl) ?_
  refine m_callSi X hK hw hZ hS hA (As := [.int si]) (rest := []) (c_X7_isSession l G dce _ M si) (va_cwS 1 hts gX7_makeBook_X7_isSession rfl rfl rfl (by decide +kernel) ⟨Nat.le_of_ble_eq_true rfl, Nat.le_of_ble_eq_true rfl⟩) rfl hl.1 rfl (Nat.le_of_ble_eq_true rfl) dX7_makeBook_1 (Nat.le_of_ble_eq_true rfl) (Nat.le_of_ble_eq_true rfl) (fun r2 M1 H locs hp hw hS hz hk => ?_)
  rw [hp.2] at hw
  rw [hp.1]
  refine lv_istore (lv' := [(4, .int (bI (sOK si))), (0, .ref x), (1, .int si), (2, .int nm), (3, .int au)]) hx hb dX7_makeBook_4 hl (by decide) rfl (fun ls hl => ?_)
  refine lv_aload_n hx hb dX7_makeBook_6 rfl (lv_at hl 1 rfl) ?_
  refine lv_iload hx hb dX7_makeBook_7 (lv_at hl 0 rfl) ?_
  refine lv_if_ne (tgt := 16) hx hb dX7_makeBook_9 (by decide) (fun c_9 => ?_) (fun c_9 => ?_)
  · refine lv_iload_n hx hb dX7_makeBook_16 rfl (lv_at hl 3 rfl) ?_
    refine m_callSi X hK hw hZ hS hA (As := [.int nm]) (rest := [.ref x]) (c_X7_isName l G dce _ M nm) (va_cwS 1 hts gX7_makeBook_X7_isName rfl rfl rfl (by decide +kernel) ⟨Nat.le_of_ble_eq_true rfl, Nat.le_of_ble_eq_true rfl⟩) rfl hl.1 rfl (Nat.le_of_ble_eq_true rfl) dX7_makeBook_17 (Nat.le_of_ble_eq_true rfl) (Nat.le_of_ble_eq_true rfl) (fun r4 M3 H locs hp hw hS hz hk => ?_)
    rw [hp.2] at hw
    rw [hp.1]
    refine lv_if_ne (tgt := 27) hx hb dX7_makeBook_20 (by decide) (fun c_20 => ?_) (fun c_20 => ?_)
    · refine lv_aload_n hx hb dX7_makeBook_27 rfl (lv_at hl 1 rfl) ?_
      refine lv_iload_n hx hb dX7_makeBook_28 rfl (lv_at hl 2 rfl) ?_
      refine lv_iconst (v := 0) hx hb dX7_makeBook_29 (by decide) ?_
      refine lv_iload_n hx hb dX7_makeBook_30 rfl (lv_at hl 4 rfl) ?_
      refine m_callVi X (ci := 8) rfl hm hK hw hZ hS hA (As := [.int si, .int 0, .int au]) (rest := [.ref x]) (c_X7_knows_0 l G dce _ M x ad th hm hks si 0 au (by decide)) (cwV 3 hts gX7_makeBook_X7_knows rfl rfl rfl (by decide +kernel) ⟨Nat.le_of_ble_eq_true rfl, Nat.le_of_ble_eq_true rfl⟩) rfl hl.1 rfl (Nat.le_of_ble_eq_true rfl) dX7_makeBook_31 (Nat.le_of_ble_eq_true rfl) (Nat.le_of_ble_eq_true rfl) (fun r6 M5 H locs hp hw hS hz hk => ?_)
      rw [hp.2] at hw
      rw [hp.1]
      refine lv_if_eq (tgt := 41) hx hb dX7_makeBook_34 (by decide) (fun _ => ?_) (fun c_34 => absurd (by decide) c_34)
      refine lv_iconst (v := 3) hx hb dX7_makeBook_41 (by decide) ?_
      refine m_callVi X (ci := 8) rfl hm hK hw hZ hS hA (As := [.int 3]) (rest := []) (c_X7_holds l G dce _ M x ad th 0 hm 3) (cwV 1 hts gX7_makeBook_X7_holds rfl rfl rfl (by decide +kernel) ⟨Nat.le_of_ble_eq_true rfl, Nat.le_of_ble_eq_true rfl⟩) rfl hl.1 rfl (Nat.le_of_ble_eq_true rfl) dX7_makeBook_42 (Nat.le_of_ble_eq_true rfl) (Nat.le_of_ble_eq_true rfl) (fun r8 M7 H locs hp hw hS hz hk => ?_)
      have eM7 := hp.2
      have er8 := hp.1
      have k9 : M7 x = some (.inr (8, [.int 3, .ref (ad 1), .ref (ad 2), .ref (ad 3), .ref (ad 4), .ref (ad 5), .ref (ad 6), .ref (ad 7), .ref (ad 8), .ref (ad 9), .ref (ad 10), .ref (ad 11), .ref (ad 12), .ref (ad 13), .int 0, .ref (ad 15)])) := by rw [eM7]; exact mu_s _ _ _
      have hk10 : M7 (ad 1) = some (oI G 2 (fun _ => 0)) := (congrFun eM7 (ad 1)).trans (mu_g hks (gM_ne hks hm (by simp [oI])))
      rw [show r8 = 0 from by rw [er8]; decide]
      refine lv_if_ne (tgt := 50) hx hb dX7_makeBook_45 (by decide) (fun c_45 => absurd (by decide) c_45) (fun _ => ?_)
      refine lv_iconst (v := 0) hx hb dX7_makeBook_48 (by decide) ?_
      exact m_iret X hK hw hS (by subst_vars; refine ⟨by simp_all [bI], ?_⟩; rw [show (if sOK si then (if nOK nm then (3 : Int32) else 2) else 1) = 3 from by simp_all [aC, bI_0, bI]]) (by omega) (by omega) dX7_makeBook_49
    · refine lv_iconst (v := 2) hx hb dX7_makeBook_23 (by decide) ?_
      refine lv_goto (tgt := 42) hx hb dX7_makeBook_24 (by decide) ?_
      refine m_callVi X (ci := 8) rfl hm hK hw hZ hS hA (As := [.int 2]) (rest := []) (c_X7_holds l G dce _ M x ad th 0 hm 2) (cwV 1 hts gX7_makeBook_X7_holds rfl rfl rfl (by decide +kernel) ⟨Nat.le_of_ble_eq_true rfl, Nat.le_of_ble_eq_true rfl⟩) rfl hl.1 rfl (Nat.le_of_ble_eq_true rfl) dX7_makeBook_42 (Nat.le_of_ble_eq_true rfl) (Nat.le_of_ble_eq_true rfl) (fun r12 M11 H locs hp hw hS hz hk => ?_)
      have eM11 := hp.2
      have er12 := hp.1
      have k13 : M11 x = some (.inr (8, [.int 2, .ref (ad 1), .ref (ad 2), .ref (ad 3), .ref (ad 4), .ref (ad 5), .ref (ad 6), .ref (ad 7), .ref (ad 8), .ref (ad 9), .ref (ad 10), .ref (ad 11), .ref (ad 12), .ref (ad 13), .int 0, .ref (ad 15)])) := by rw [eM11]; exact mu_s _ _ _
      have hk14 : M11 (ad 1) = some (oI G 2 (fun _ => 0)) := (congrFun eM11 (ad 1)).trans (mu_g hks (gM_ne hks hm (by simp [oI])))
      rw [show r12 = 0 from by rw [er12]; decide]
      refine lv_if_ne (tgt := 50) hx hb dX7_makeBook_45 (by decide) (fun c_45 => absurd (by decide) c_45) (fun _ => ?_)
      refine lv_iconst (v := 0) hx hb dX7_makeBook_48 (by decide) ?_
      exact m_iret X hK hw hS (by subst_vars; refine ⟨by simp_all [bI], ?_⟩; rw [show (if sOK si then (if nOK nm then (3 : Int32) else 2) else 1) = 2 from by simp_all [aC, bI_0, bI]]) (by omega) (by omega) dX7_makeBook_49
  · refine lv_iconst (v := 1) hx hb dX7_makeBook_12 (by decide) ?_
    refine lv_goto (tgt := 42) hx hb dX7_makeBook_13 (by decide) ?_
    refine m_callVi X (ci := 8) rfl hm hK hw hZ hS hA (As := [.int 1]) (rest := []) (c_X7_holds l G dce _ M x ad th 0 hm 1) (cwV 1 hts gX7_makeBook_X7_holds rfl rfl rfl (by decide +kernel) ⟨Nat.le_of_ble_eq_true rfl, Nat.le_of_ble_eq_true rfl⟩) rfl hl.1 rfl (Nat.le_of_ble_eq_true rfl) dX7_makeBook_42 (Nat.le_of_ble_eq_true rfl) (Nat.le_of_ble_eq_true rfl) (fun r16 M15 H locs hp hw hS hz hk => ?_)
    have eM15 := hp.2
    have er16 := hp.1
    have k17 : M15 x = some (.inr (8, [.int 1, .ref (ad 1), .ref (ad 2), .ref (ad 3), .ref (ad 4), .ref (ad 5), .ref (ad 6), .ref (ad 7), .ref (ad 8), .ref (ad 9), .ref (ad 10), .ref (ad 11), .ref (ad 12), .ref (ad 13), .int 0, .ref (ad 15)])) := by rw [eM15]; exact mu_s _ _ _
    have hk18 : M15 (ad 1) = some (oI G 2 (fun _ => 0)) := (congrFun eM15 (ad 1)).trans (mu_g hks (gM_ne hks hm (by simp [oI])))
    rw [show r16 = 0 from by rw [er16]; decide]
    refine lv_if_ne (tgt := 50) hx hb dX7_makeBook_45 (by decide) (fun c_45 => absurd (by decide) c_45) (fun _ => ?_)
    refine lv_iconst (v := 0) hx hb dX7_makeBook_48 (by decide) ?_
    exact m_iret X hK hw hS (by subst_vars; refine ⟨by simp_all [bI], ?_⟩; rw [show (if sOK si then (if nOK nm then (3 : Int32) else 2) else 1) = 1 from by simp_all [aC, bI_0, bI]]) (by omega) (by omega) dX7_makeBook_49
set_option maxHeartbeats 4000000 in
set_option maxRecDepth 100000 in
theorem c_X7_books_0 (l : Launch) (G : gG) (dce sz : Nat) (M : gM) (x : Nat) (ad : Nat → Nat) (th : Int32) (hm : M x = some (oM th 0 ad)) (hks : M (ad 1) = some (oI G 2 (fun _ => 0))) (si au : Int32) : mI l yX7_books wsX7_books ({ frames := 2, cells := 0, slots := 0, locals := 45 }) G dce sz M [.ref x, .int si, .int au] (fun r M' => r = 0 ∧ M' = mu M x (oM (if sOK si then 2 else 1) 0 ad)) (0) (0) := by
  have hm : M x = some (.inr (8, [.int th, .ref (ad 1), .ref (ad 2), .ref (ad 3), .ref (ad 4), .ref (ad 5), .ref (ad 6), .ref (ad 7), .ref (ad 8), .ref (ad 9), .ref (ad 10), .ref (ad 11), .ref (ad 12), .ref (ad 13), .int 0, .ref (ad 15)])) := hm
  refine wMet (Qc := QI G _) (cc := cX7_books) (maxL := 4) (ret := (some .int)) (by decide) rfl (Nat.le_of_ble_eq_true rfl) ?_
  intro p e s m below meth c A ls X hnm hw hK hZ hA hS hsz eA hl
  obtain ⟨hx, hb, hr, hts, hown, hlk, hml⟩ := id X
  have hl : lv_has ls 4 [(0, .ref x), (1, .int si), (2, .int au)] := hl
  refine lv_iload_n hx hb dX7_books_0 rfl (lv_at hl 1 rfl) ?_
  refine m_callSi X hK hw hZ hS hA (As := [.int si]) (rest := []) (c_X7_isSession l G dce _ M si) (va_cwS 1 hts gX7_books_X7_isSession rfl rfl rfl (by decide +kernel) ⟨Nat.le_of_ble_eq_true rfl, Nat.le_of_ble_eq_true rfl⟩) rfl hl.1 rfl (Nat.le_of_ble_eq_true rfl) dX7_books_1 (Nat.le_of_ble_eq_true rfl) (Nat.le_of_ble_eq_true rfl) (fun r2 M1 H locs hp hw hS hz hk => ?_)
  rw [hp.2] at hw
  rw [hp.1]
  refine lv_istore_n (lv' := [(3, .int (bI (sOK si))), (0, .ref x), (1, .int si), (2, .int au)]) hx hb dX7_books_4 rfl hl (by decide) rfl (fun ls hl => ?_)
  refine lv_aload_n hx hb dX7_books_5 rfl (lv_at hl 1 rfl) ?_
  refine lv_iload_n hx hb dX7_books_6 rfl (lv_at hl 0 rfl) ?_
  refine lv_if_ne (tgt := 14) hx hb dX7_books_7 (by decide) (fun c_7 => ?_) (fun c_7 => ?_)
  · refine lv_aload_n hx hb dX7_books_14 rfl (lv_at hl 1 rfl) ?_
    refine lv_iload_n hx hb dX7_books_15 rfl (lv_at hl 2 rfl) ?_
    refine lv_iconst (v := 0) hx hb dX7_books_16 (by decide) ?_
    refine lv_iload_n hx hb dX7_books_17 rfl (lv_at hl 3 rfl) ?_
    refine m_callVi X (ci := 8) rfl hm hK hw hZ hS hA (As := [.int si, .int 0, .int au]) (rest := [.ref x]) (c_X7_knows_0 l G dce _ M x ad th hm hks si 0 au (by decide)) (cwV 3 hts gX7_books_X7_knows rfl rfl rfl (by decide +kernel) ⟨Nat.le_of_ble_eq_true rfl, Nat.le_of_ble_eq_true rfl⟩) rfl hl.1 rfl (Nat.le_of_ble_eq_true rfl) dX7_books_18 (Nat.le_of_ble_eq_true rfl) (Nat.le_of_ble_eq_true rfl) (fun r4 M3 H locs hp hw hS hz hk => ?_)
    rw [hp.2] at hw
    rw [hp.1]
    refine lv_if_eq (tgt := 28) hx hb dX7_books_21 (by decide) (fun _ => ?_) (fun c_21 => absurd (by decide) c_21)
    refine lv_iconst (v := 2) hx hb dX7_books_28 (by decide) ?_
    refine m_callVi X (ci := 8) rfl hm hK hw hZ hS hA (As := [.int 2]) (rest := []) (c_X7_holds l G dce _ M x ad th 0 hm 2) (cwV 1 hts gX7_books_X7_holds rfl rfl rfl (by decide +kernel) ⟨Nat.le_of_ble_eq_true rfl, Nat.le_of_ble_eq_true rfl⟩) rfl hl.1 rfl (Nat.le_of_ble_eq_true rfl) dX7_books_29 (Nat.le_of_ble_eq_true rfl) (Nat.le_of_ble_eq_true rfl) (fun r6 M5 H locs hp hw hS hz hk => ?_)
    have eM5 := hp.2
    have er6 := hp.1
    have k7 : M5 x = some (.inr (8, [.int 2, .ref (ad 1), .ref (ad 2), .ref (ad 3), .ref (ad 4), .ref (ad 5), .ref (ad 6), .ref (ad 7), .ref (ad 8), .ref (ad 9), .ref (ad 10), .ref (ad 11), .ref (ad 12), .ref (ad 13), .int 0, .ref (ad 15)])) := by rw [eM5]; exact mu_s _ _ _
    have hk8 : M5 (ad 1) = some (oI G 2 (fun _ => 0)) := (congrFun eM5 (ad 1)).trans (mu_g hks (gM_ne hks hm (by simp [oI])))
    rw [show r6 = 0 from by rw [er6]; decide]
    refine lv_if_ne (tgt := 37) hx hb dX7_books_32 (by decide) (fun c_32 => absurd (by decide) c_32) (fun _ => ?_)
    refine lv_iconst (v := 0) hx hb dX7_books_35 (by decide) ?_
    exact m_iret X hK hw hS (by subst_vars; refine ⟨by simp_all [bI], ?_⟩; rw [show (if sOK si then (2 : Int32) else 1) = 2 from by simp_all [aC, bI_0, bI]]) (by omega) (by omega) dX7_books_36
  · refine lv_iconst (v := 1) hx hb dX7_books_10 (by decide) ?_
    refine lv_goto (tgt := 29) hx hb dX7_books_11 (by decide) ?_
    refine m_callVi X (ci := 8) rfl hm hK hw hZ hS hA (As := [.int 1]) (rest := []) (c_X7_holds l G dce _ M x ad th 0 hm 1) (cwV 1 hts gX7_books_X7_holds rfl rfl rfl (by decide +kernel) ⟨Nat.le_of_ble_eq_true rfl, Nat.le_of_ble_eq_true rfl⟩) rfl hl.1 rfl (Nat.le_of_ble_eq_true rfl) dX7_books_29 (Nat.le_of_ble_eq_true rfl) (Nat.le_of_ble_eq_true rfl) (fun r10 M9 H locs hp hw hS hz hk => ?_)
    have eM9 := hp.2
    have er10 := hp.1
    have k11 : M9 x = some (.inr (8, [.int 1, .ref (ad 1), .ref (ad 2), .ref (ad 3), .ref (ad 4), .ref (ad 5), .ref (ad 6), .ref (ad 7), .ref (ad 8), .ref (ad 9), .ref (ad 10), .ref (ad 11), .ref (ad 12), .ref (ad 13), .int 0, .ref (ad 15)])) := by rw [eM9]; exact mu_s _ _ _
    have hk12 : M9 (ad 1) = some (oI G 2 (fun _ => 0)) := (congrFun eM9 (ad 1)).trans (mu_g hks (gM_ne hks hm (by simp [oI])))
    rw [show r10 = 0 from by rw [er10]; decide]
    refine lv_if_ne (tgt := 37) hx hb dX7_books_32 (by decide) (fun c_32 => absurd (by decide) c_32) (fun _ => ?_)
    refine lv_iconst (v := 0) hx hb dX7_books_35 (by decide) ?_
    exact m_iret X hK hw hS (by subst_vars; refine ⟨by simp_all [bI], ?_⟩; rw [show (if sOK si then (2 : Int32) else 1) = 1 from by simp_all [aC, bI_0, bI]]) (by omega) (by omega) dX7_books_36
set_option maxHeartbeats 4000000 in
set_option maxRecDepth 100000 in
theorem c_X7_find_0 (l : Launch) (G : gG) (dce sz : Nat) (M : gM) (x : Nat) (ad : Nat → Nat) (th : Int32) (hm : M x = some (oM th 0 ad)) (hks : M (ad 1) = some (oI G 2 (fun _ => 0))) (si kd ky : Int32) : mI l yX7_find wsX7_find ({ frames := 2, cells := 0, slots := 0, locals := 45 }) G dce sz M [.ref x, .int si, .int kd, .int ky] (fun r M' => r = 0 ∧ M' = mu M x (oM (if sOK si then (if kOK kd then 0 else 2) else 1) 0 ad)) (0) (0) := by
  have hm : M x = some (.inr (8, [.int th, .ref (ad 1), .ref (ad 2), .ref (ad 3), .ref (ad 4), .ref (ad 5), .ref (ad 6), .ref (ad 7), .ref (ad 8), .ref (ad 9), .ref (ad 10), .ref (ad 11), .ref (ad 12), .ref (ad 13), .int 0, .ref (ad 15)])) := hm
  refine wMet (Qc := QI G _) (cc := cX7_find) (maxL := 4) (ret := (some .boolean)) (by decide) rfl (Nat.le_of_ble_eq_true rfl) ?_
  intro p e s m below meth c A ls X hnm hw hK hZ hA hS hsz eA hl
  obtain ⟨hx, hb, hr, hts, hown, hlk, hml⟩ := id X
  have hl : lv_has ls 4 [(0, .ref x), (1, .int si), (2, .int kd), (3, .int ky)] := hl
  refine lv_aload_n hx hb dX7_find_0 rfl (lv_at hl 0 rfl) ?_
  refine lv_iload_n hx hb dX7_find_1 rfl (lv_at hl 1 rfl) ?_
  refine m_callSi X hK hw hZ hS hA (As := [.int si]) (rest := [.ref x]) (c_X7_isSession l G dce _ M si) (va_cwS 1 hts gX7_find_X7_isSession rfl rfl rfl (by decide +kernel) ⟨Nat.le_of_ble_eq_true rfl, Nat.le_of_ble_eq_true rfl⟩) rfl hl.1 rfl (Nat.le_of_ble_eq_true rfl) dX7_find_2 (Nat.le_of_ble_eq_true rfl) (Nat.le_of_ble_eq_true rfl) (fun r2 M1 H locs hp hw hS hz hk => ?_)
  rw [hp.2] at hw
  rw [hp.1]
  refine lv_if_ne (tgt := 12) hx hb dX7_find_5 (by decide) (fun c_5 => ?_) (fun c_5 => ?_)
  · refine lv_iload_n hx hb dX7_find_12 rfl (lv_at hl 2 rfl) ?_
    refine m_callSi X hK hw hZ hS hA (As := [.int kd]) (rest := [.ref x]) (c_X7_isKind l G dce _ M kd) (va_cwS 1 hts gX7_find_X7_isKind rfl rfl rfl (by decide +kernel) ⟨Nat.le_of_ble_eq_true rfl, Nat.le_of_ble_eq_true rfl⟩) rfl hl.1 rfl (Nat.le_of_ble_eq_true rfl) dX7_find_13 (Nat.le_of_ble_eq_true rfl) (Nat.le_of_ble_eq_true rfl) (fun r4 M3 H locs hp hw hS hz hk => ?_)
    rw [hp.2] at hw
    rw [hp.1]
    refine lv_if_eq (tgt := 23) hx hb dX7_find_16 (by decide) (fun c_16 => ?_) (fun c_16 => ?_)
    · refine lv_iconst (v := 2) hx hb dX7_find_23 (by decide) ?_
      refine m_callVi X (ci := 8) rfl hm hK hw hZ hS hA (As := [.int 2]) (rest := []) (c_X7_holds l G dce _ M x ad th 0 hm 2) (cwV 1 hts gX7_find_X7_holds rfl rfl rfl (by decide +kernel) ⟨Nat.le_of_ble_eq_true rfl, Nat.le_of_ble_eq_true rfl⟩) rfl hl.1 rfl (Nat.le_of_ble_eq_true rfl) dX7_find_24 (Nat.le_of_ble_eq_true rfl) (Nat.le_of_ble_eq_true rfl) (fun r6 M5 H locs hp hw hS hz hk => ?_)
      have eM5 := hp.2
      have er6 := hp.1
      have k7 : M5 x = some (.inr (8, [.int 2, .ref (ad 1), .ref (ad 2), .ref (ad 3), .ref (ad 4), .ref (ad 5), .ref (ad 6), .ref (ad 7), .ref (ad 8), .ref (ad 9), .ref (ad 10), .ref (ad 11), .ref (ad 12), .ref (ad 13), .int 0, .ref (ad 15)])) := by rw [eM5]; exact mu_s _ _ _
      have hk8 : M5 (ad 1) = some (oI G 2 (fun _ => 0)) := (congrFun eM5 (ad 1)).trans (mu_g hks (gM_ne hks hm (by simp [oI])))
      rw [show r6 = 0 from by rw [er6]; decide]
      refine lv_if_ne (tgt := 32) hx hb dX7_find_27 (by decide) (fun c_27 => absurd (by decide) c_27) (fun _ => ?_)
      refine lv_iconst (v := 0) hx hb dX7_find_30 (by decide) ?_
      exact m_zret X (by decide) hK hw hS (by subst_vars; refine ⟨by simp_all [bI], ?_⟩; rw [show (if sOK si then (if kOK kd then (0 : Int32) else 2) else 1) = 2 from by simp_all [aC, bI_0, bI]]) (by omega) (by omega) dX7_find_31
    · refine lv_iconst (v := 0) hx hb dX7_find_19 (by decide) ?_
      refine lv_goto (tgt := 24) hx hb dX7_find_20 (by decide) ?_
      refine m_callVi X (ci := 8) rfl hm hK hw hZ hS hA (As := [.int 0]) (rest := []) (c_X7_holds l G dce _ M x ad th 0 hm 0) (cwV 1 hts gX7_find_X7_holds rfl rfl rfl (by decide +kernel) ⟨Nat.le_of_ble_eq_true rfl, Nat.le_of_ble_eq_true rfl⟩) rfl hl.1 rfl (Nat.le_of_ble_eq_true rfl) dX7_find_24 (Nat.le_of_ble_eq_true rfl) (Nat.le_of_ble_eq_true rfl) (fun r10 M9 H locs hp hw hS hz hk => ?_)
      have eM9 := hp.2
      have er10 := hp.1
      have k11 : M9 x = some (.inr (8, [.int 0, .ref (ad 1), .ref (ad 2), .ref (ad 3), .ref (ad 4), .ref (ad 5), .ref (ad 6), .ref (ad 7), .ref (ad 8), .ref (ad 9), .ref (ad 10), .ref (ad 11), .ref (ad 12), .ref (ad 13), .int 0, .ref (ad 15)])) := by rw [eM9]; exact mu_s _ _ _
      have hk12 : M9 (ad 1) = some (oI G 2 (fun _ => 0)) := (congrFun eM9 (ad 1)).trans (mu_g hks (gM_ne hks hm (by simp [oI])))
      rw [show r10 = 1 from by rw [er10]; decide]
      refine lv_if_ne (tgt := 32) hx hb dX7_find_27 (by decide) (fun _ => ?_) (fun c_27 => absurd c_27 (by decide))
      refine lv_aload_n hx hb dX7_find_32 rfl (lv_at hl 0 rfl) ?_
      refine lv_iload_n hx hb dX7_find_33 rfl (lv_at hl 2 rfl) ?_
      refine lv_iload_n hx hb dX7_find_34 rfl (lv_at hl 3 rfl) ?_
      have w13 : kd = 0 ∨ kd = 1 := by
        have hk9 : kOK kd = true := by simp_all [bI_0]
        simpa [kOK] using hk9
      refine m_callVi X (ci := 8) rfl k11 hK hw hZ hS hA (As := [.int kd, .int ky]) (rest := []) (c_X7_hasRow_0 l G dce _ M9 x ad 0 k11 hk12 kd ky w13) (cwV 2 hts gX7_find_X7_hasRow rfl rfl rfl (by decide +kernel) ⟨Nat.le_of_ble_eq_true rfl, Nat.le_of_ble_eq_true rfl⟩) rfl hl.1 rfl (Nat.le_of_ble_eq_true rfl) dX7_find_35 (Nat.le_of_ble_eq_true rfl) (Nat.le_of_ble_eq_true rfl) (fun r15 M14 H locs hp hw hS hz hk => ?_)
      rw [hp.2] at hw
      rw [hp.1]
      refine lv_if_eq (tgt := 62) hx hb dX7_find_38 (by decide) (fun _ => ?_) (fun c_38 => absurd (by decide) c_38)
      refine lv_aload_n hx hb dX7_find_62 rfl (lv_at hl 0 rfl) ?_
      refine lv_iload_n hx hb dX7_find_63 rfl (lv_at hl 1 rfl) ?_
      refine lv_iload_n hx hb dX7_find_64 rfl (lv_at hl 2 rfl) ?_
      refine lv_iload_n hx hb dX7_find_65 rfl (lv_at hl 3 rfl) ?_
      have w16 : kd = 0 ∨ kd = 1 := by
        have hk9 : kOK kd = true := by simp_all [bI_0]
        simpa [kOK] using hk9
      refine m_callVi X (ci := 8) rfl k11 hK hw hZ hS hA (As := [.int si, .int kd, .int ky]) (rest := []) (c_X7_knows_0 l G dce _ M9 x ad 0 k11 hk12 si kd ky w16) (cwV 3 hts gX7_find_X7_knows rfl rfl rfl (by decide +kernel) ⟨Nat.le_of_ble_eq_true rfl, Nat.le_of_ble_eq_true rfl⟩) rfl hl.1 rfl (Nat.le_of_ble_eq_true rfl) dX7_find_66 (Nat.le_of_ble_eq_true rfl) (Nat.le_of_ble_eq_true rfl) (fun r18 M17 H locs hp hw hS hz hk => ?_)
      rw [hp.2] at hw
      rw [hp.1]
      exact m_zret X (by decide) hK hw hS (by subst_vars; refine ⟨by simp_all [bI], ?_⟩; rw [show (if sOK si then (if kOK kd then (0 : Int32) else 2) else 1) = 0 from by simp_all [aC, bI_0, bI]]) (by omega) (by omega) dX7_find_69
  · refine lv_iconst (v := 1) hx hb dX7_find_8 (by decide) ?_
    refine lv_goto (tgt := 24) hx hb dX7_find_9 (by decide) ?_
    refine m_callVi X (ci := 8) rfl hm hK hw hZ hS hA (As := [.int 1]) (rest := []) (c_X7_holds l G dce _ M x ad th 0 hm 1) (cwV 1 hts gX7_find_X7_holds rfl rfl rfl (by decide +kernel) ⟨Nat.le_of_ble_eq_true rfl, Nat.le_of_ble_eq_true rfl⟩) rfl hl.1 rfl (Nat.le_of_ble_eq_true rfl) dX7_find_24 (Nat.le_of_ble_eq_true rfl) (Nat.le_of_ble_eq_true rfl) (fun r20 M19 H locs hp hw hS hz hk => ?_)
    have eM19 := hp.2
    have er20 := hp.1
    have k21 : M19 x = some (.inr (8, [.int 1, .ref (ad 1), .ref (ad 2), .ref (ad 3), .ref (ad 4), .ref (ad 5), .ref (ad 6), .ref (ad 7), .ref (ad 8), .ref (ad 9), .ref (ad 10), .ref (ad 11), .ref (ad 12), .ref (ad 13), .int 0, .ref (ad 15)])) := by rw [eM19]; exact mu_s _ _ _
    have hk22 : M19 (ad 1) = some (oI G 2 (fun _ => 0)) := (congrFun eM19 (ad 1)).trans (mu_g hks (gM_ne hks hm (by simp [oI])))
    rw [show r20 = 0 from by rw [er20]; decide]
    refine lv_if_ne (tgt := 32) hx hb dX7_find_27 (by decide) (fun c_27 => absurd (by decide) c_27) (fun _ => ?_)
    refine lv_iconst (v := 0) hx hb dX7_find_30 (by decide) ?_
    exact m_zret X (by decide) hK hw hS (by subst_vars; refine ⟨by simp_all [bI], ?_⟩; rw [show (if sOK si then (if kOK kd then (0 : Int32) else 2) else 1) = 1 from by simp_all [aC, bI_0, bI]]) (by omega) (by omega) dX7_find_31
set_option maxHeartbeats 4000000 in
set_option maxRecDepth 100000 in
theorem c_X7_knownOf_0 (l : Launch) (G : gG) (dce sz : Nat) (M : gM) (x : Nat) (ad : Nat → Nat) (th : Int32) (hm : M x = some (oM th 0 ad)) (hks : M (ad 1) = some (oI G 2 (fun _ => 0))) (si : Int32) : mI l yX7_knownOf wsX7_knownOf ({ frames := 0, cells := 0, slots := 0, locals := 0 }) G dce sz M [.ref x, .int si] (fun r M' => r = 0 ∧ M' = M) (0) (0) := by
  have hm : M x = some (.inr (8, [.int th, .ref (ad 1), .ref (ad 2), .ref (ad 3), .ref (ad 4), .ref (ad 5), .ref (ad 6), .ref (ad 7), .ref (ad 8), .ref (ad 9), .ref (ad 10), .ref (ad 11), .ref (ad 12), .ref (ad 13), .int 0, .ref (ad 15)])) := hm
  refine wMet (Qc := QI G _) (cc := cX7_knownOf) (maxL := 5) (ret := (some .int)) (by decide) rfl (Nat.le_of_ble_eq_true rfl) ?_
  intro p e s m below meth c A ls X hnm hw hK hZ hA hS hsz eA hl
  obtain ⟨hx, hb, hr, hts, hown, hlk, hml⟩ := id X
  have hl : lv_has ls 5 [(0, .ref x), (1, .int si)] := hl
  have iX7 : ∀ w ∈ wsX70, w ∈ wsX7_knownOf := by decide +kernel
  refine lv_iconst (v := 0) hx hb dX7_knownOf_0 (by decide) ?_
  refine lv_istore_n (lv' := [(2, .int 0), (0, .ref x), (1, .int si)]) hx hb dX7_knownOf_1 rfl hl (by decide) rfl (fun ls hl => ?_)
  refine lv_iconst (v := 0) hx hb dX7_knownOf_2 (by decide) ?_
  refine lv_istore_n (lv' := [(3, .int 0), (2, .int 0), (0, .ref x), (1, .int si)]) hx hb dX7_knownOf_3 rfl hl (by decide) rfl (fun ls hl => ?_)
  refine lv_iload_n hx hb dX7_knownOf_4 rfl (lv_at hl 0 rfl) ?_
  refine lv_iconst (v := 1) hx hb dX7_knownOf_5 (by decide) ?_
  refine lv_icmp_gt (tgt := 54) hx hb dX7_knownOf_6 (by decide) (fun c_6 => absurd c_6 (by decide)) (fun _ => ?_)
  refine lv_iconst (v := 0) hx hb dX7_knownOf_9 (by decide) ?_
  refine lv_istore (lv' := [(4, .int 0), (3, .int 0), (2, .int 0), (0, .ref x), (1, .int si)]) hx hb dX7_knownOf_10 hl (by decide) rfl (fun ls hl => ?_)
  refine lv_iload hx hb dX7_knownOf_12 (lv_at hl 0 rfl) ?_
  refine lv_aload_n hx hb dX7_knownOf_14 rfl (lv_at hl 3 rfl) ?_
  refine m_get X iX7 hK hw hm rfl 1 (by decide) (ref := "ObjectMapperModel") (by decide +kernel) (Or.inl rfl) rfl dX7_knownOf_15 ?_
  refine lv_iload_n hx hb dX7_knownOf_18 rfl (lv_at hl 1 rfl) ?_
  refine m_iald X hK hw hks (by unfold vp_in; decide) dX7_knownOf_19 ?_
  refine W.eq (g2 := F0 m 20 ls [.int 0, .int 0]) rfl ?_
  refine lv_icmp_ge (tgt := 48) hx hb dX7_knownOf_20 (by decide) (fun _ => ?_) (fun c_20 => absurd (by decide) c_20)
  refine lv_iinc (v := 1) (lv' := [(3, .int 1), (4, .int 0), (2, .int 0), (0, .ref x), (1, .int si)]) hx hb dX7_knownOf_48 hl (k := 1) rfl (by decide) (by decide) rfl (fun ls hl => ?_)
  refine lv_goto (tgt := 4) hx hb dX7_knownOf_51 (by decide) ?_
  refine lv_iload_n hx hb dX7_knownOf_4 rfl (lv_at hl 0 rfl) ?_
  refine lv_iconst (v := 1) hx hb dX7_knownOf_5 (by decide) ?_
  refine lv_icmp_gt (tgt := 54) hx hb dX7_knownOf_6 (by decide) (fun c_6 => absurd c_6 (by decide)) (fun _ => ?_)
  refine lv_iconst (v := 0) hx hb dX7_knownOf_9 (by decide) ?_
  refine lv_istore (lv' := [(4, .int 0), (3, .int 1), (2, .int 0), (0, .ref x), (1, .int si)]) hx hb dX7_knownOf_10 hl (by decide) rfl (fun ls hl => ?_)
  refine lv_iload hx hb dX7_knownOf_12 (lv_at hl 0 rfl) ?_
  refine lv_aload_n hx hb dX7_knownOf_14 rfl (lv_at hl 3 rfl) ?_
  refine m_get X iX7 hK hw hm rfl 1 (by decide) (ref := "ObjectMapperModel") (by decide +kernel) (Or.inl rfl) rfl dX7_knownOf_15 ?_
  refine lv_iload_n hx hb dX7_knownOf_18 rfl (lv_at hl 1 rfl) ?_
  refine m_iald X hK hw hks (by unfold vp_in; decide) dX7_knownOf_19 ?_
  refine W.eq (g2 := F0 m 20 ls [.int 0, .int 0]) rfl ?_
  refine lv_icmp_ge (tgt := 48) hx hb dX7_knownOf_20 (by decide) (fun _ => ?_) (fun c_20 => absurd (by decide) c_20)
  refine lv_iinc (v := 2) (lv' := [(3, .int 2), (4, .int 0), (2, .int 0), (0, .ref x), (1, .int si)]) hx hb dX7_knownOf_48 hl (k := 1) rfl (by decide) (by decide) rfl (fun ls hl => ?_)
  refine lv_goto (tgt := 4) hx hb dX7_knownOf_51 (by decide) ?_
  refine lv_iload_n hx hb dX7_knownOf_4 rfl (lv_at hl 0 rfl) ?_
  refine lv_iconst (v := 1) hx hb dX7_knownOf_5 (by decide) ?_
  refine lv_icmp_gt (tgt := 54) hx hb dX7_knownOf_6 (by decide) (fun _ => ?_) (fun c_6 => absurd (by decide) c_6)
  refine lv_iload_n hx hb dX7_knownOf_54 rfl (lv_at hl 2 rfl) ?_
  exact m_iret X hK hw hS (by exact ⟨rfl, rfl⟩) (by omega) (by omega) dX7_knownOf_55
set_option maxHeartbeats 4000000 in
set_option maxRecDepth 100000 in
theorem c_X7_known_0 (l : Launch) (G : gG) (dce sz : Nat) (M : gM) (x : Nat) (ad : Nat → Nat) (th : Int32) (hm : M x = some (oM th 0 ad)) (hks : M (ad 1) = some (oI G 2 (fun _ => 0))) (si : Int32) : mI l yX7_known wsX7_known ({ frames := 1, cells := 0, slots := 0, locals := 24 }) G dce sz M [.ref x, .int si] (fun r M' => r = 0 ∧ M' = mu M x (oM (if sOK si then 0 else 1) 0 ad)) (0) (0) := by
  have hm : M x = some (.inr (8, [.int th, .ref (ad 1), .ref (ad 2), .ref (ad 3), .ref (ad 4), .ref (ad 5), .ref (ad 6), .ref (ad 7), .ref (ad 8), .ref (ad 9), .ref (ad 10), .ref (ad 11), .ref (ad 12), .ref (ad 13), .int 0, .ref (ad 15)])) := hm
  refine wMet (Qc := QI G _) (cc := cX7_known) (maxL := 2) (ret := (some .int)) (by decide) rfl (Nat.le_of_ble_eq_true rfl) ?_
  intro p e s m below meth c A ls X hnm hw hK hZ hA hS hsz eA hl
  obtain ⟨hx, hb, hr, hts, hown, hlk, hml⟩ := id X
  have hl : lv_has ls 2 [(0, .ref x), (1, .int si)] := hl
  refine lv_aload_n hx hb dX7_known_0 rfl (lv_at hl 0 rfl) ?_
  refine lv_iload_n hx hb dX7_known_1 rfl (lv_at hl 1 rfl) ?_
  refine m_callSi X hK hw hZ hS hA (As := [.int si]) (rest := [.ref x]) (c_X7_isSession l G dce _ M si) (va_cwS 1 hts gX7_known_X7_isSession rfl rfl rfl (by decide +kernel) ⟨Nat.le_of_ble_eq_true rfl, Nat.le_of_ble_eq_true rfl⟩) rfl hl.1 rfl (Nat.le_of_ble_eq_true rfl) dX7_known_2 (Nat.le_of_ble_eq_true rfl) (Nat.le_of_ble_eq_true rfl) (fun r2 M1 H locs hp hw hS hz hk => ?_)
  rw [hp.2] at hw
  rw [hp.1]
  refine lv_if_eq (tgt := 12) hx hb dX7_known_5 (by decide) (fun c_5 => ?_) (fun c_5 => ?_)
  · refine lv_iconst (v := 1) hx hb dX7_known_12 (by decide) ?_
    refine m_callVi X (ci := 8) rfl hm hK hw hZ hS hA (As := [.int 1]) (rest := []) (c_X7_holds l G dce _ M x ad th 0 hm 1) (cwV 1 hts gX7_known_X7_holds rfl rfl rfl (by decide +kernel) ⟨Nat.le_of_ble_eq_true rfl, Nat.le_of_ble_eq_true rfl⟩) rfl hl.1 rfl (Nat.le_of_ble_eq_true rfl) dX7_known_13 (Nat.le_of_ble_eq_true rfl) (Nat.le_of_ble_eq_true rfl) (fun r4 M3 H locs hp hw hS hz hk => ?_)
    have eM3 := hp.2
    have er4 := hp.1
    have k5 : M3 x = some (.inr (8, [.int 1, .ref (ad 1), .ref (ad 2), .ref (ad 3), .ref (ad 4), .ref (ad 5), .ref (ad 6), .ref (ad 7), .ref (ad 8), .ref (ad 9), .ref (ad 10), .ref (ad 11), .ref (ad 12), .ref (ad 13), .int 0, .ref (ad 15)])) := by rw [eM3]; exact mu_s _ _ _
    have hk6 : M3 (ad 1) = some (oI G 2 (fun _ => 0)) := (congrFun eM3 (ad 1)).trans (mu_g hks (gM_ne hks hm (by simp [oI])))
    rw [show r4 = 0 from by rw [er4]; decide]
    refine lv_if_eq (tgt := 27) hx hb dX7_known_16 (by decide) (fun _ => ?_) (fun c_16 => absurd (by decide) c_16)
    refine lv_iconst (v := 0) hx hb dX7_known_27 (by decide) ?_
    exact m_iret X hK hw hS (by subst_vars; refine ⟨by simp_all [bI], ?_⟩; rw [show (if sOK si then (0 : Int32) else 1) = 1 from by simp_all [aC, bI_0, bI]]) (by omega) (by omega) dX7_known_28
  · refine lv_iconst (v := 0) hx hb dX7_known_8 (by decide) ?_
    refine lv_goto (tgt := 13) hx hb dX7_known_9 (by decide) ?_
    refine m_callVi X (ci := 8) rfl hm hK hw hZ hS hA (As := [.int 0]) (rest := []) (c_X7_holds l G dce _ M x ad th 0 hm 0) (cwV 1 hts gX7_known_X7_holds rfl rfl rfl (by decide +kernel) ⟨Nat.le_of_ble_eq_true rfl, Nat.le_of_ble_eq_true rfl⟩) rfl hl.1 rfl (Nat.le_of_ble_eq_true rfl) dX7_known_13 (Nat.le_of_ble_eq_true rfl) (Nat.le_of_ble_eq_true rfl) (fun r8 M7 H locs hp hw hS hz hk => ?_)
    have eM7 := hp.2
    have er8 := hp.1
    have k9 : M7 x = some (.inr (8, [.int 0, .ref (ad 1), .ref (ad 2), .ref (ad 3), .ref (ad 4), .ref (ad 5), .ref (ad 6), .ref (ad 7), .ref (ad 8), .ref (ad 9), .ref (ad 10), .ref (ad 11), .ref (ad 12), .ref (ad 13), .int 0, .ref (ad 15)])) := by rw [eM7]; exact mu_s _ _ _
    have hk10 : M7 (ad 1) = some (oI G 2 (fun _ => 0)) := (congrFun eM7 (ad 1)).trans (mu_g hks (gM_ne hks hm (by simp [oI])))
    rw [show r8 = 1 from by rw [er8]; decide]
    refine lv_if_eq (tgt := 27) hx hb dX7_known_16 (by decide) (fun c_16 => absurd c_16 (by decide)) (fun _ => ?_)
    refine lv_aload_n hx hb dX7_known_19 rfl (lv_at hl 0 rfl) ?_
    refine lv_iload_n hx hb dX7_known_20 rfl (lv_at hl 1 rfl) ?_
    refine m_callVi X (ci := 8) rfl k9 hK hw hZ hS hA (As := [.int si]) (rest := []) (c_X7_knownOf_0 l G dce _ M7 x ad 0 k9 hk10 si) (cwV 1 hts gX7_known_X7_knownOf rfl rfl rfl (by decide +kernel) ⟨Nat.le_of_ble_eq_true rfl, Nat.le_of_ble_eq_true rfl⟩) rfl hl.1 rfl (Nat.le_of_ble_eq_true rfl) dX7_known_21 (Nat.le_of_ble_eq_true rfl) (Nat.le_of_ble_eq_true rfl) (fun r12 M11 H locs hp hw hS hz hk => ?_)
    rw [hp.2] at hw
    rw [hp.1]
    refine lv_goto (tgt := 28) hx hb dX7_known_24 (by decide) ?_
    exact m_iret X hK hw hS (by subst_vars; refine ⟨by simp_all [bI], ?_⟩; rw [show (if sOK si then (0 : Int32) else 1) = 0 from by simp_all [aC, bI_0, bI]]) (by omega) (by omega) dX7_known_28
set_option maxHeartbeats 4000000 in
set_option maxRecDepth 100000 in
theorem c_X7_dirty_0 (l : Launch) (G : gG) (dce sz : Nat) (M : gM) (x : Nat) (ad : Nat → Nat) (th : Int32) (hm : M x = some (oM th 0 ad)) (hks : M (ad 1) = some (oI G 2 (fun _ => 0))) (si : Int32) : mI l yX7_dirty wsX7_dirty ({ frames := 1, cells := 0, slots := 0, locals := 21 }) G dce sz M [.ref x, .int si] (fun r M' => r = 0 ∧ M' = mu M x (oM (if sOK si then 0 else 1) 0 ad)) (0) (0) := by
  have hm : M x = some (.inr (8, [.int th, .ref (ad 1), .ref (ad 2), .ref (ad 3), .ref (ad 4), .ref (ad 5), .ref (ad 6), .ref (ad 7), .ref (ad 8), .ref (ad 9), .ref (ad 10), .ref (ad 11), .ref (ad 12), .ref (ad 13), .int 0, .ref (ad 15)])) := hm
  refine wMet (Qc := QI G _) (cc := cX7_dirty) (maxL := 5) (ret := (some .int)) (by decide) rfl (Nat.le_of_ble_eq_true rfl) ?_
  intro p e s m below meth c A ls X hnm hw hK hZ hA hS hsz eA hl
  obtain ⟨hx, hb, hr, hts, hown, hlk, hml⟩ := id X
  have hl : lv_has ls 5 [(0, .ref x), (1, .int si)] := hl
  have iX7 : ∀ w ∈ wsX70, w ∈ wsX7_dirty := by decide +kernel
  refine lv_aload_n hx hb dX7_dirty_0 rfl (lv_at hl 0 rfl) ?_
  refine lv_iload_n hx hb dX7_dirty_1 rfl (lv_at hl 1 rfl) ?_
  refine m_callSi X hK hw hZ hS hA (As := [.int si]) (rest := [.ref x]) (c_X7_isSession l G dce _ M si) (va_cwS 1 hts gX7_dirty_X7_isSession rfl rfl rfl (by decide +kernel) ⟨Nat.le_of_ble_eq_true rfl, Nat.le_of_ble_eq_true rfl⟩) rfl hl.1 rfl (Nat.le_of_ble_eq_true rfl) dX7_dirty_2 (Nat.le_of_ble_eq_true rfl) (Nat.le_of_ble_eq_true rfl) (fun r2 M1 H locs hp hw hS hz hk => ?_)
  rw [hp.2] at hw
  rw [hp.1]
  refine lv_if_eq (tgt := 12) hx hb dX7_dirty_5 (by decide) (fun c_5 => ?_) (fun c_5 => ?_)
  · refine lv_iconst (v := 1) hx hb dX7_dirty_12 (by decide) ?_
    refine m_callVi X (ci := 8) rfl hm hK hw hZ hS hA (As := [.int 1]) (rest := []) (c_X7_holds l G dce _ M x ad th 0 hm 1) (cwV 1 hts gX7_dirty_X7_holds rfl rfl rfl (by decide +kernel) ⟨Nat.le_of_ble_eq_true rfl, Nat.le_of_ble_eq_true rfl⟩) rfl hl.1 rfl (Nat.le_of_ble_eq_true rfl) dX7_dirty_13 (Nat.le_of_ble_eq_true rfl) (Nat.le_of_ble_eq_true rfl) (fun r4 M3 H locs hp hw hS hz hk => ?_)
    have eM3 := hp.2
    have er4 := hp.1
    have k5 : M3 x = some (.inr (8, [.int 1, .ref (ad 1), .ref (ad 2), .ref (ad 3), .ref (ad 4), .ref (ad 5), .ref (ad 6), .ref (ad 7), .ref (ad 8), .ref (ad 9), .ref (ad 10), .ref (ad 11), .ref (ad 12), .ref (ad 13), .int 0, .ref (ad 15)])) := by rw [eM3]; exact mu_s _ _ _
    have hk6 : M3 (ad 1) = some (oI G 2 (fun _ => 0)) := (congrFun eM3 (ad 1)).trans (mu_g hks (gM_ne hks hm (by simp [oI])))
    rw [show r4 = 0 from by rw [er4]; decide]
    refine lv_if_ne (tgt := 21) hx hb dX7_dirty_16 (by decide) (fun c_16 => absurd (by decide) c_16) (fun _ => ?_)
    refine lv_iconst (v := 0) hx hb dX7_dirty_19 (by decide) ?_
    exact m_iret X hK hw hS (by subst_vars; refine ⟨by simp_all [bI], ?_⟩; rw [show (if sOK si then (0 : Int32) else 1) = 1 from by simp_all [aC, bI_0, bI]]) (by omega) (by omega) dX7_dirty_20
  · refine lv_iconst (v := 0) hx hb dX7_dirty_8 (by decide) ?_
    refine lv_goto (tgt := 13) hx hb dX7_dirty_9 (by decide) ?_
    refine m_callVi X (ci := 8) rfl hm hK hw hZ hS hA (As := [.int 0]) (rest := []) (c_X7_holds l G dce _ M x ad th 0 hm 0) (cwV 1 hts gX7_dirty_X7_holds rfl rfl rfl (by decide +kernel) ⟨Nat.le_of_ble_eq_true rfl, Nat.le_of_ble_eq_true rfl⟩) rfl hl.1 rfl (Nat.le_of_ble_eq_true rfl) dX7_dirty_13 (Nat.le_of_ble_eq_true rfl) (Nat.le_of_ble_eq_true rfl) (fun r8 M7 H locs hp hw hS hz hk => ?_)
    have eM7 := hp.2
    have er8 := hp.1
    have k9 : M7 x = some (.inr (8, [.int 0, .ref (ad 1), .ref (ad 2), .ref (ad 3), .ref (ad 4), .ref (ad 5), .ref (ad 6), .ref (ad 7), .ref (ad 8), .ref (ad 9), .ref (ad 10), .ref (ad 11), .ref (ad 12), .ref (ad 13), .int 0, .ref (ad 15)])) := by rw [eM7]; exact mu_s _ _ _
    have hk10 : M7 (ad 1) = some (oI G 2 (fun _ => 0)) := (congrFun eM7 (ad 1)).trans (mu_g hks (gM_ne hks hm (by simp [oI])))
    rw [show r8 = 1 from by rw [er8]; decide]
    refine lv_if_ne (tgt := 21) hx hb dX7_dirty_16 (by decide) (fun _ => ?_) (fun c_16 => absurd c_16 (by decide))
    refine lv_iconst (v := 0) hx hb dX7_dirty_21 (by decide) ?_
    refine lv_istore_n (lv' := [(2, .int 0), (0, .ref x), (1, .int si)]) hx hb dX7_dirty_22 rfl hl (by decide) rfl (fun ls hl => ?_)
    refine lv_iconst (v := 0) hx hb dX7_dirty_23 (by decide) ?_
    refine lv_istore_n (lv' := [(3, .int 0), (2, .int 0), (0, .ref x), (1, .int si)]) hx hb dX7_dirty_24 rfl hl (by decide) rfl (fun ls hl => ?_)
    refine lv_iload_n hx hb dX7_dirty_25 rfl (lv_at hl 0 rfl) ?_
    refine lv_iconst (v := 1) hx hb dX7_dirty_26 (by decide) ?_
    refine lv_icmp_gt (tgt := 75) hx hb dX7_dirty_27 (by decide) (fun c_27 => absurd c_27 (by decide)) (fun _ => ?_)
    refine lv_iconst (v := 0) hx hb dX7_dirty_30 (by decide) ?_
    refine lv_istore (lv' := [(4, .int 0), (3, .int 0), (2, .int 0), (0, .ref x), (1, .int si)]) hx hb dX7_dirty_31 hl (by decide) rfl (fun ls hl => ?_)
    refine lv_iload hx hb dX7_dirty_33 (lv_at hl 0 rfl) ?_
    refine lv_aload_n hx hb dX7_dirty_35 rfl (lv_at hl 3 rfl) ?_
    refine m_get X iX7 hK hw k9 rfl 1 (by decide) (ref := "ObjectMapperModel") (by decide +kernel) (Or.inl rfl) rfl dX7_dirty_36 ?_
    refine lv_iload_n hx hb dX7_dirty_39 rfl (lv_at hl 1 rfl) ?_
    refine m_iald X hK hw hk10 (by unfold vp_in; decide) dX7_dirty_40 ?_
    refine W.eq (g2 := F0 m 41 ls [.int 0, .int 0]) rfl ?_
    refine lv_icmp_ge (tgt := 69) hx hb dX7_dirty_41 (by decide) (fun _ => ?_) (fun c_41 => absurd (by decide) c_41)
    refine lv_iinc (v := 1) (lv' := [(3, .int 1), (4, .int 0), (2, .int 0), (0, .ref x), (1, .int si)]) hx hb dX7_dirty_69 hl (k := 1) rfl (by decide) (by decide) rfl (fun ls hl => ?_)
    refine lv_goto (tgt := 25) hx hb dX7_dirty_72 (by decide) ?_
    refine lv_iload_n hx hb dX7_dirty_25 rfl (lv_at hl 0 rfl) ?_
    refine lv_iconst (v := 1) hx hb dX7_dirty_26 (by decide) ?_
    refine lv_icmp_gt (tgt := 75) hx hb dX7_dirty_27 (by decide) (fun c_27 => absurd c_27 (by decide)) (fun _ => ?_)
    refine lv_iconst (v := 0) hx hb dX7_dirty_30 (by decide) ?_
    refine lv_istore (lv' := [(4, .int 0), (3, .int 1), (2, .int 0), (0, .ref x), (1, .int si)]) hx hb dX7_dirty_31 hl (by decide) rfl (fun ls hl => ?_)
    refine lv_iload hx hb dX7_dirty_33 (lv_at hl 0 rfl) ?_
    refine lv_aload_n hx hb dX7_dirty_35 rfl (lv_at hl 3 rfl) ?_
    refine m_get X iX7 hK hw k9 rfl 1 (by decide) (ref := "ObjectMapperModel") (by decide +kernel) (Or.inl rfl) rfl dX7_dirty_36 ?_
    refine lv_iload_n hx hb dX7_dirty_39 rfl (lv_at hl 1 rfl) ?_
    refine m_iald X hK hw hk10 (by unfold vp_in; decide) dX7_dirty_40 ?_
    refine W.eq (g2 := F0 m 41 ls [.int 0, .int 0]) rfl ?_
    refine lv_icmp_ge (tgt := 69) hx hb dX7_dirty_41 (by decide) (fun _ => ?_) (fun c_41 => absurd (by decide) c_41)
    refine lv_iinc (v := 2) (lv' := [(3, .int 2), (4, .int 0), (2, .int 0), (0, .ref x), (1, .int si)]) hx hb dX7_dirty_69 hl (k := 1) rfl (by decide) (by decide) rfl (fun ls hl => ?_)
    refine lv_goto (tgt := 25) hx hb dX7_dirty_72 (by decide) ?_
    refine lv_iload_n hx hb dX7_dirty_25 rfl (lv_at hl 0 rfl) ?_
    refine lv_iconst (v := 1) hx hb dX7_dirty_26 (by decide) ?_
    refine lv_icmp_gt (tgt := 75) hx hb dX7_dirty_27 (by decide) (fun _ => ?_) (fun c_27 => absurd (by decide) c_27)
    refine lv_iload_n hx hb dX7_dirty_75 rfl (lv_at hl 2 rfl) ?_
    exact m_iret X hK hw hS (by subst_vars; refine ⟨by simp_all [bI], ?_⟩; rw [show (if sOK si then (0 : Int32) else 1) = 0 from by simp_all [aC, bI_0, bI]]) (by omega) (by omega) dX7_dirty_76
set_option maxHeartbeats 4000000 in
set_option maxRecDepth 100000 in
theorem c_X7_clear_0 (l : Launch) (G : gG) (dce sz : Nat) (M : gM) (x : Nat) (ad : Nat → Nat) (th : Int32) (hm : M x = some (oM th 0 ad)) (hks : M (ad 1) = some (oI G 2 (fun _ => 0))) (si : Int32) : mI l yX7_clear wsX7_clear ({ frames := 1, cells := 0, slots := 0, locals := 24 }) G dce sz M [.ref x, .int si] (fun r M' => r = 0 ∧ M' = mu M x (oM (if sOK si then 0 else 1) 0 ad)) (0) (0) := by
  have hm : M x = some (.inr (8, [.int th, .ref (ad 1), .ref (ad 2), .ref (ad 3), .ref (ad 4), .ref (ad 5), .ref (ad 6), .ref (ad 7), .ref (ad 8), .ref (ad 9), .ref (ad 10), .ref (ad 11), .ref (ad 12), .ref (ad 13), .int 0, .ref (ad 15)])) := hm
  refine wMet (Qc := QI G _) (cc := cX7_clear) (maxL := 5) (ret := (some .int)) (by decide) rfl (Nat.le_of_ble_eq_true rfl) ?_
  intro p e s m below meth c A ls X hnm hw hK hZ hA hS hsz eA hl
  obtain ⟨hx, hb, hr, hts, hown, hlk, hml⟩ := id X
  have hl : lv_has ls 5 [(0, .ref x), (1, .int si)] := hl
  have iX7 : ∀ w ∈ wsX70, w ∈ wsX7_clear := by decide +kernel
  refine lv_aload_n hx hb dX7_clear_0 rfl (lv_at hl 0 rfl) ?_
  refine lv_iload_n hx hb dX7_clear_1 rfl (lv_at hl 1 rfl) ?_
  refine m_callSi X hK hw hZ hS hA (As := [.int si]) (rest := [.ref x]) (c_X7_isSession l G dce _ M si) (va_cwS 1 hts gX7_clear_X7_isSession rfl rfl rfl (by decide +kernel) ⟨Nat.le_of_ble_eq_true rfl, Nat.le_of_ble_eq_true rfl⟩) rfl hl.1 rfl (Nat.le_of_ble_eq_true rfl) dX7_clear_2 (Nat.le_of_ble_eq_true rfl) (Nat.le_of_ble_eq_true rfl) (fun r2 M1 H locs hp hw hS hz hk => ?_)
  rw [hp.2] at hw
  rw [hp.1]
  refine lv_if_eq (tgt := 12) hx hb dX7_clear_5 (by decide) (fun c_5 => ?_) (fun c_5 => ?_)
  · refine lv_iconst (v := 1) hx hb dX7_clear_12 (by decide) ?_
    refine m_callVi X (ci := 8) rfl hm hK hw hZ hS hA (As := [.int 1]) (rest := []) (c_X7_holds l G dce _ M x ad th 0 hm 1) (cwV 1 hts gX7_clear_X7_holds rfl rfl rfl (by decide +kernel) ⟨Nat.le_of_ble_eq_true rfl, Nat.le_of_ble_eq_true rfl⟩) rfl hl.1 rfl (Nat.le_of_ble_eq_true rfl) dX7_clear_13 (Nat.le_of_ble_eq_true rfl) (Nat.le_of_ble_eq_true rfl) (fun r4 M3 H locs hp hw hS hz hk => ?_)
    have eM3 := hp.2
    have er4 := hp.1
    have k5 : M3 x = some (.inr (8, [.int 1, .ref (ad 1), .ref (ad 2), .ref (ad 3), .ref (ad 4), .ref (ad 5), .ref (ad 6), .ref (ad 7), .ref (ad 8), .ref (ad 9), .ref (ad 10), .ref (ad 11), .ref (ad 12), .ref (ad 13), .int 0, .ref (ad 15)])) := by rw [eM3]; exact mu_s _ _ _
    have hk6 : M3 (ad 1) = some (oI G 2 (fun _ => 0)) := (congrFun eM3 (ad 1)).trans (mu_g hks (gM_ne hks hm (by simp [oI])))
    rw [show r4 = 0 from by rw [er4]; decide]
    refine lv_if_ne (tgt := 21) hx hb dX7_clear_16 (by decide) (fun c_16 => absurd (by decide) c_16) (fun _ => ?_)
    refine lv_iconst (v := 0) hx hb dX7_clear_19 (by decide) ?_
    exact m_iret X hK hw hS (by subst_vars; refine ⟨by simp_all [bI], ?_⟩; rw [show (if sOK si then (0 : Int32) else 1) = 1 from by simp_all [aC, bI_0, bI]]) (by omega) (by omega) dX7_clear_20
  · refine lv_iconst (v := 0) hx hb dX7_clear_8 (by decide) ?_
    refine lv_goto (tgt := 13) hx hb dX7_clear_9 (by decide) ?_
    refine m_callVi X (ci := 8) rfl hm hK hw hZ hS hA (As := [.int 0]) (rest := []) (c_X7_holds l G dce _ M x ad th 0 hm 0) (cwV 1 hts gX7_clear_X7_holds rfl rfl rfl (by decide +kernel) ⟨Nat.le_of_ble_eq_true rfl, Nat.le_of_ble_eq_true rfl⟩) rfl hl.1 rfl (Nat.le_of_ble_eq_true rfl) dX7_clear_13 (Nat.le_of_ble_eq_true rfl) (Nat.le_of_ble_eq_true rfl) (fun r8 M7 H locs hp hw hS hz hk => ?_)
    have eM7 := hp.2
    have er8 := hp.1
    have k9 : M7 x = some (.inr (8, [.int 0, .ref (ad 1), .ref (ad 2), .ref (ad 3), .ref (ad 4), .ref (ad 5), .ref (ad 6), .ref (ad 7), .ref (ad 8), .ref (ad 9), .ref (ad 10), .ref (ad 11), .ref (ad 12), .ref (ad 13), .int 0, .ref (ad 15)])) := by rw [eM7]; exact mu_s _ _ _
    have hk10 : M7 (ad 1) = some (oI G 2 (fun _ => 0)) := (congrFun eM7 (ad 1)).trans (mu_g hks (gM_ne hks hm (by simp [oI])))
    rw [show r8 = 1 from by rw [er8]; decide]
    refine lv_if_ne (tgt := 21) hx hb dX7_clear_16 (by decide) (fun _ => ?_) (fun c_16 => absurd c_16 (by decide))
    refine lv_aload_n hx hb dX7_clear_21 rfl (lv_at hl 0 rfl) ?_
    refine lv_iload_n hx hb dX7_clear_22 rfl (lv_at hl 1 rfl) ?_
    refine m_callVi X (ci := 8) rfl k9 hK hw hZ hS hA (As := [.int si]) (rest := []) (c_X7_knownOf_0 l G dce _ M7 x ad 0 k9 hk10 si) (cwV 1 hts gX7_clear_X7_knownOf rfl rfl rfl (by decide +kernel) ⟨Nat.le_of_ble_eq_true rfl, Nat.le_of_ble_eq_true rfl⟩) rfl hl.1 rfl (Nat.le_of_ble_eq_true rfl) dX7_clear_23 (Nat.le_of_ble_eq_true rfl) (Nat.le_of_ble_eq_true rfl) (fun r12 M11 H locs hp hw hS hz hk => ?_)
    rw [hp.2] at hw
    rw [hp.1]
    refine lv_istore_n (lv' := [(2, .int 0), (0, .ref x), (1, .int si)]) hx hb dX7_clear_26 rfl hl (by decide) rfl (fun ls hl => ?_)
    refine lv_iconst (v := 0) hx hb dX7_clear_27 (by decide) ?_
    refine lv_istore_n (lv' := [(3, .int 0), (2, .int 0), (0, .ref x), (1, .int si)]) hx hb dX7_clear_28 rfl hl (by decide) rfl (fun ls hl => ?_)
    refine lv_iload_n hx hb dX7_clear_29 rfl (lv_at hl 0 rfl) ?_
    refine lv_iconst (v := 1) hx hb dX7_clear_30 (by decide) ?_
    refine lv_icmp_gt (tgt := 86) hx hb dX7_clear_31 (by decide) (fun c_31 => absurd c_31 (by decide)) (fun _ => ?_)
    refine lv_iconst (v := 0) hx hb dX7_clear_34 (by decide) ?_
    refine lv_istore (lv' := [(4, .int 0), (3, .int 0), (2, .int 0), (0, .ref x), (1, .int si)]) hx hb dX7_clear_35 hl (by decide) rfl (fun ls hl => ?_)
    refine lv_iload hx hb dX7_clear_37 (lv_at hl 0 rfl) ?_
    refine lv_aload_n hx hb dX7_clear_39 rfl (lv_at hl 3 rfl) ?_
    refine m_get X iX7 hK hw k9 rfl 1 (by decide) (ref := "ObjectMapperModel") (by decide +kernel) (Or.inl rfl) rfl dX7_clear_40 ?_
    refine lv_iload_n hx hb dX7_clear_43 rfl (lv_at hl 1 rfl) ?_
    refine m_iald X hK hw hk10 (by unfold vp_in; decide) dX7_clear_44 ?_
    refine W.eq (g2 := F0 m 45 ls [.int 0, .int 0]) rfl ?_
    refine lv_icmp_ge (tgt := 80) hx hb dX7_clear_45 (by decide) (fun _ => ?_) (fun c_45 => absurd (by decide) c_45)
    refine lv_iinc (v := 1) (lv' := [(3, .int 1), (4, .int 0), (2, .int 0), (0, .ref x), (1, .int si)]) hx hb dX7_clear_80 hl (k := 1) rfl (by decide) (by decide) rfl (fun ls hl => ?_)
    refine lv_goto (tgt := 29) hx hb dX7_clear_83 (by decide) ?_
    refine lv_iload_n hx hb dX7_clear_29 rfl (lv_at hl 0 rfl) ?_
    refine lv_iconst (v := 1) hx hb dX7_clear_30 (by decide) ?_
    refine lv_icmp_gt (tgt := 86) hx hb dX7_clear_31 (by decide) (fun c_31 => absurd c_31 (by decide)) (fun _ => ?_)
    refine lv_iconst (v := 0) hx hb dX7_clear_34 (by decide) ?_
    refine lv_istore (lv' := [(4, .int 0), (3, .int 1), (2, .int 0), (0, .ref x), (1, .int si)]) hx hb dX7_clear_35 hl (by decide) rfl (fun ls hl => ?_)
    refine lv_iload hx hb dX7_clear_37 (lv_at hl 0 rfl) ?_
    refine lv_aload_n hx hb dX7_clear_39 rfl (lv_at hl 3 rfl) ?_
    refine m_get X iX7 hK hw k9 rfl 1 (by decide) (ref := "ObjectMapperModel") (by decide +kernel) (Or.inl rfl) rfl dX7_clear_40 ?_
    refine lv_iload_n hx hb dX7_clear_43 rfl (lv_at hl 1 rfl) ?_
    refine m_iald X hK hw hk10 (by unfold vp_in; decide) dX7_clear_44 ?_
    refine W.eq (g2 := F0 m 45 ls [.int 0, .int 0]) rfl ?_
    refine lv_icmp_ge (tgt := 80) hx hb dX7_clear_45 (by decide) (fun _ => ?_) (fun c_45 => absurd (by decide) c_45)
    refine lv_iinc (v := 2) (lv' := [(3, .int 2), (4, .int 0), (2, .int 0), (0, .ref x), (1, .int si)]) hx hb dX7_clear_80 hl (k := 1) rfl (by decide) (by decide) rfl (fun ls hl => ?_)
    refine lv_goto (tgt := 29) hx hb dX7_clear_83 (by decide) ?_
    refine lv_iload_n hx hb dX7_clear_29 rfl (lv_at hl 0 rfl) ?_
    refine lv_iconst (v := 1) hx hb dX7_clear_30 (by decide) ?_
    refine lv_icmp_gt (tgt := 86) hx hb dX7_clear_31 (by decide) (fun _ => ?_) (fun c_31 => absurd (by decide) c_31)
    refine lv_iload_n hx hb dX7_clear_86 rfl (lv_at hl 2 rfl) ?_
    exact m_iret X hK hw hS (by subst_vars; refine ⟨by simp_all [bI], ?_⟩; rw [show (if sOK si then (0 : Int32) else 1) = 0 from by simp_all [aC, bI_0, bI]]) (by omega) (by omega) dX7_clear_87
set_option maxHeartbeats 4000000 in
set_option maxRecDepth 100000 in
theorem c_X7_rows_0 (l : Launch) (G : gG) (dce sz : Nat) (M : gM) (x : Nat) (ad : Nat → Nat) (th : Int32) (hm : M x = some (oM th 0 ad)) (hks : M (ad 1) = some (oI G 2 (fun _ => 0))) (kd : Int32) : mI l yX7_rows wsX7_rows ({ frames := 1, cells := 0, slots := 0, locals := 21 }) G dce sz M [.ref x, .int kd] (fun r M' => r = 0 ∧ M' = mu M x (oM (if kOK kd then 0 else 1) 0 ad)) (0) (0) := by
  have hm : M x = some (.inr (8, [.int th, .ref (ad 1), .ref (ad 2), .ref (ad 3), .ref (ad 4), .ref (ad 5), .ref (ad 6), .ref (ad 7), .ref (ad 8), .ref (ad 9), .ref (ad 10), .ref (ad 11), .ref (ad 12), .ref (ad 13), .int 0, .ref (ad 15)])) := hm
  refine wMet (Qc := QI G _) (cc := cX7_rows) (maxL := 4) (ret := (some .int)) (by decide) rfl (Nat.le_of_ble_eq_true rfl) ?_
  intro p e s m below meth c A ls X hnm hw hK hZ hA hS hsz eA hl
  obtain ⟨hx, hb, hr, hts, hown, hlk, hml⟩ := id X
  have hl : lv_has ls 4 [(0, .ref x), (1, .int kd)] := hl
  have iX7 : ∀ w ∈ wsX70, w ∈ wsX7_rows := by decide +kernel
  refine lv_aload_n hx hb dX7_rows_0 rfl (lv_at hl 0 rfl) ?_
  refine lv_iload_n hx hb dX7_rows_1 rfl (lv_at hl 1 rfl) ?_
  refine m_callSi X hK hw hZ hS hA (As := [.int kd]) (rest := [.ref x]) (c_X7_isKind l G dce _ M kd) (va_cwS 1 hts gX7_rows_X7_isKind rfl rfl rfl (by decide +kernel) ⟨Nat.le_of_ble_eq_true rfl, Nat.le_of_ble_eq_true rfl⟩) rfl hl.1 rfl (Nat.le_of_ble_eq_true rfl) dX7_rows_2 (Nat.le_of_ble_eq_true rfl) (Nat.le_of_ble_eq_true rfl) (fun r2 M1 H locs hp hw hS hz hk => ?_)
  rw [hp.2] at hw
  rw [hp.1]
  refine lv_if_eq (tgt := 12) hx hb dX7_rows_5 (by decide) (fun c_5 => ?_) (fun c_5 => ?_)
  · refine lv_iconst (v := 1) hx hb dX7_rows_12 (by decide) ?_
    refine m_callVi X (ci := 8) rfl hm hK hw hZ hS hA (As := [.int 1]) (rest := []) (c_X7_holds l G dce _ M x ad th 0 hm 1) (cwV 1 hts gX7_rows_X7_holds rfl rfl rfl (by decide +kernel) ⟨Nat.le_of_ble_eq_true rfl, Nat.le_of_ble_eq_true rfl⟩) rfl hl.1 rfl (Nat.le_of_ble_eq_true rfl) dX7_rows_13 (Nat.le_of_ble_eq_true rfl) (Nat.le_of_ble_eq_true rfl) (fun r4 M3 H locs hp hw hS hz hk => ?_)
    have eM3 := hp.2
    have er4 := hp.1
    have k5 : M3 x = some (.inr (8, [.int 1, .ref (ad 1), .ref (ad 2), .ref (ad 3), .ref (ad 4), .ref (ad 5), .ref (ad 6), .ref (ad 7), .ref (ad 8), .ref (ad 9), .ref (ad 10), .ref (ad 11), .ref (ad 12), .ref (ad 13), .int 0, .ref (ad 15)])) := by rw [eM3]; exact mu_s _ _ _
    have hk6 : M3 (ad 1) = some (oI G 2 (fun _ => 0)) := (congrFun eM3 (ad 1)).trans (mu_g hks (gM_ne hks hm (by simp [oI])))
    rw [show r4 = 0 from by rw [er4]; decide]
    refine lv_if_ne (tgt := 21) hx hb dX7_rows_16 (by decide) (fun c_16 => absurd (by decide) c_16) (fun _ => ?_)
    refine lv_iconst (v := 0) hx hb dX7_rows_19 (by decide) ?_
    exact m_iret X hK hw hS (by subst_vars; refine ⟨by simp_all [bI], ?_⟩; rw [show (if kOK kd then (0 : Int32) else 1) = 1 from by simp_all [aC, bI_0, bI]]) (by omega) (by omega) dX7_rows_20
  · refine lv_iconst (v := 0) hx hb dX7_rows_8 (by decide) ?_
    refine lv_goto (tgt := 13) hx hb dX7_rows_9 (by decide) ?_
    refine m_callVi X (ci := 8) rfl hm hK hw hZ hS hA (As := [.int 0]) (rest := []) (c_X7_holds l G dce _ M x ad th 0 hm 0) (cwV 1 hts gX7_rows_X7_holds rfl rfl rfl (by decide +kernel) ⟨Nat.le_of_ble_eq_true rfl, Nat.le_of_ble_eq_true rfl⟩) rfl hl.1 rfl (Nat.le_of_ble_eq_true rfl) dX7_rows_13 (Nat.le_of_ble_eq_true rfl) (Nat.le_of_ble_eq_true rfl) (fun r8 M7 H locs hp hw hS hz hk => ?_)
    have eM7 := hp.2
    have er8 := hp.1
    have k9 : M7 x = some (.inr (8, [.int 0, .ref (ad 1), .ref (ad 2), .ref (ad 3), .ref (ad 4), .ref (ad 5), .ref (ad 6), .ref (ad 7), .ref (ad 8), .ref (ad 9), .ref (ad 10), .ref (ad 11), .ref (ad 12), .ref (ad 13), .int 0, .ref (ad 15)])) := by rw [eM7]; exact mu_s _ _ _
    have hk10 : M7 (ad 1) = some (oI G 2 (fun _ => 0)) := (congrFun eM7 (ad 1)).trans (mu_g hks (gM_ne hks hm (by simp [oI])))
    rw [show r8 = 1 from by rw [er8]; decide]
    refine lv_if_ne (tgt := 21) hx hb dX7_rows_16 (by decide) (fun _ => ?_) (fun c_16 => absurd c_16 (by decide))
    refine lv_iconst (v := 0) hx hb dX7_rows_21 (by decide) ?_
    refine lv_istore_n (lv' := [(2, .int 0), (0, .ref x), (1, .int kd)]) hx hb dX7_rows_22 rfl hl (by decide) rfl (fun ls hl => ?_)
    refine lv_iconst (v := 0) hx hb dX7_rows_23 (by decide) ?_
    refine lv_istore_n (lv' := [(3, .int 0), (2, .int 0), (0, .ref x), (1, .int kd)]) hx hb dX7_rows_24 rfl hl (by decide) rfl (fun ls hl => ?_)
    refine lv_iload_n hx hb dX7_rows_25 rfl (lv_at hl 0 rfl) ?_
    refine lv_aload_n hx hb dX7_rows_26 rfl (lv_at hl 2 rfl) ?_
    refine m_get X iX7 hK hw k9 rfl 1 (by decide) (ref := "ObjectMapperModel") (by decide +kernel) (Or.inl rfl) rfl dX7_rows_27 ?_
    refine lv_iload_n hx hb dX7_rows_30 rfl (lv_at hl 3 rfl) ?_
    have w11 : kd = 0 ∨ kd = 1 := by
      have hk9 : kOK kd = true := by simp_all [bI_0]
      simpa [kOK] using hk9
    refine m_iald X hK hw hk10 (by rcases w11 with q | q <;> rw [q] <;> (unfold vp_in; decide)) dX7_rows_31 ?_
    refine W.eq (g2 := F0 m 32 ls [.int 0, .int 0]) rfl ?_
    refine lv_icmp_ge (tgt := 58) hx hb dX7_rows_32 (by decide) (fun _ => ?_) (fun c_32 => absurd (by decide) c_32)
    refine lv_iload_n hx hb dX7_rows_58 rfl (lv_at hl 1 rfl) ?_
    exact m_iret X hK hw hS (by subst_vars; refine ⟨by simp_all [bI], ?_⟩; rw [show (if kOK kd then (0 : Int32) else 1) = 0 from by simp_all [aC, bI_0, bI]]) (by omega) (by omega) dX7_rows_59
set_option maxHeartbeats 4000000 in
set_option maxRecDepth 100000 in
theorem c_X7_isRowAsked_0 (l : Launch) (G : gG) (dce sz : Nat) (M : gM) (x : Nat) (ad : Nat → Nat) (th : Int32) (hm : M x = some (oM th 0 ad)) (hks : M (ad 1) = some (oI G 2 (fun _ => 0))) (kd ky : Int32) : mI l yX7_isRowAsked wsX7_isRowAsked ({ frames := 2, cells := 0, slots := 0, locals := 44 }) G dce sz M [.ref x, .int kd, .int ky] (fun r M' => r = 0 ∧ M' = mu M x (oM (if kOK kd then 2 else 1) 0 ad)) (0) (0) := by
  have hm : M x = some (.inr (8, [.int th, .ref (ad 1), .ref (ad 2), .ref (ad 3), .ref (ad 4), .ref (ad 5), .ref (ad 6), .ref (ad 7), .ref (ad 8), .ref (ad 9), .ref (ad 10), .ref (ad 11), .ref (ad 12), .ref (ad 13), .int 0, .ref (ad 15)])) := hm
  refine wMet (Qc := QI G _) (cc := cX7_isRowAsked) (maxL := 3) (ret := (some .boolean)) (by decide) rfl (Nat.le_of_ble_eq_true rfl) ?_
  intro p e s m below meth c A ls X hnm hw hK hZ hA hS hsz eA hl
  obtain ⟨hx, hb, hr, hts, hown, hlk, hml⟩ := id X
  have hl : lv_has ls 3 [(0, .ref x), (1, .int kd), (2, .int ky)] := hl
  refine lv_aload_n hx hb dX7_isRowAsked_0 rfl (lv_at hl 0 rfl) ?_
  refine lv_iload_n hx hb dX7_isRowAsked_1 rfl (lv_at hl 1 rfl) ?_
  refine m_callSi X hK hw hZ hS hA (As := [.int kd]) (rest := [.ref x]) (c_X7_isKind l G dce _ M kd) (va_cwS 1 hts gX7_isRowAsked_X7_isKind rfl rfl rfl (by decide +kernel) ⟨Nat.le_of_ble_eq_true rfl, Nat.le_of_ble_eq_true rfl⟩) rfl hl.1 rfl (Nat.le_of_ble_eq_true rfl) dX7_isRowAsked_2 (Nat.le_of_ble_eq_true rfl) (Nat.le_of_ble_eq_true rfl) (fun r2 M1 H locs hp hw hS hz hk => ?_)
  rw [hp.2] at hw
  rw [hp.1]
  refine lv_if_ne (tgt := 12) hx hb dX7_isRowAsked_5 (by decide) (fun c_5 => ?_) (fun c_5 => ?_)
  · refine lv_aload_n hx hb dX7_isRowAsked_12 rfl (lv_at hl 0 rfl) ?_
    refine lv_iload_n hx hb dX7_isRowAsked_13 rfl (lv_at hl 1 rfl) ?_
    refine lv_iload_n hx hb dX7_isRowAsked_14 rfl (lv_at hl 2 rfl) ?_
    have w3 : kd = 0 ∨ kd = 1 := by
      have hk9 : kOK kd = true := by simp_all [bI_0]
      simpa [kOK] using hk9
    refine m_callVi X (ci := 8) rfl hm hK hw hZ hS hA (As := [.int kd, .int ky]) (rest := [.ref x]) (c_X7_hasRow_0 l G dce _ M x ad th hm hks kd ky w3) (cwV 2 hts gX7_isRowAsked_X7_hasRow rfl rfl rfl (by decide +kernel) ⟨Nat.le_of_ble_eq_true rfl, Nat.le_of_ble_eq_true rfl⟩) rfl hl.1 rfl (Nat.le_of_ble_eq_true rfl) dX7_isRowAsked_15 (Nat.le_of_ble_eq_true rfl) (Nat.le_of_ble_eq_true rfl) (fun r5 M4 H locs hp hw hS hz hk => ?_)
    rw [hp.2] at hw
    rw [hp.1]
    refine lv_if_eq (tgt := 25) hx hb dX7_isRowAsked_18 (by decide) (fun _ => ?_) (fun c_18 => absurd (by decide) c_18)
    refine lv_iconst (v := 2) hx hb dX7_isRowAsked_25 (by decide) ?_
    refine m_callVi X (ci := 8) rfl hm hK hw hZ hS hA (As := [.int 2]) (rest := []) (c_X7_holds l G dce _ M x ad th 0 hm 2) (cwV 1 hts gX7_isRowAsked_X7_holds rfl rfl rfl (by decide +kernel) ⟨Nat.le_of_ble_eq_true rfl, Nat.le_of_ble_eq_true rfl⟩) rfl hl.1 rfl (Nat.le_of_ble_eq_true rfl) dX7_isRowAsked_26 (Nat.le_of_ble_eq_true rfl) (Nat.le_of_ble_eq_true rfl) (fun r7 M6 H locs hp hw hS hz hk => ?_)
    have eM6 := hp.2
    have er7 := hp.1
    have k8 : M6 x = some (.inr (8, [.int 2, .ref (ad 1), .ref (ad 2), .ref (ad 3), .ref (ad 4), .ref (ad 5), .ref (ad 6), .ref (ad 7), .ref (ad 8), .ref (ad 9), .ref (ad 10), .ref (ad 11), .ref (ad 12), .ref (ad 13), .int 0, .ref (ad 15)])) := by rw [eM6]; exact mu_s _ _ _
    have hk9 : M6 (ad 1) = some (oI G 2 (fun _ => 0)) := (congrFun eM6 (ad 1)).trans (mu_g hks (gM_ne hks hm (by simp [oI])))
    rw [show r7 = 0 from by rw [er7]; decide]
    exact m_zret X (by decide) hK hw hS (by subst_vars; refine ⟨by simp_all [bI], ?_⟩; rw [show (if kOK kd then (2 : Int32) else 1) = 2 from by simp_all [aC, bI_0, bI]]) (by omega) (by omega) dX7_isRowAsked_29
  · refine lv_iconst (v := 1) hx hb dX7_isRowAsked_8 (by decide) ?_
    refine lv_goto (tgt := 26) hx hb dX7_isRowAsked_9 (by decide) ?_
    refine m_callVi X (ci := 8) rfl hm hK hw hZ hS hA (As := [.int 1]) (rest := []) (c_X7_holds l G dce _ M x ad th 0 hm 1) (cwV 1 hts gX7_isRowAsked_X7_holds rfl rfl rfl (by decide +kernel) ⟨Nat.le_of_ble_eq_true rfl, Nat.le_of_ble_eq_true rfl⟩) rfl hl.1 rfl (Nat.le_of_ble_eq_true rfl) dX7_isRowAsked_26 (Nat.le_of_ble_eq_true rfl) (Nat.le_of_ble_eq_true rfl) (fun r11 M10 H locs hp hw hS hz hk => ?_)
    have eM10 := hp.2
    have er11 := hp.1
    have k12 : M10 x = some (.inr (8, [.int 1, .ref (ad 1), .ref (ad 2), .ref (ad 3), .ref (ad 4), .ref (ad 5), .ref (ad 6), .ref (ad 7), .ref (ad 8), .ref (ad 9), .ref (ad 10), .ref (ad 11), .ref (ad 12), .ref (ad 13), .int 0, .ref (ad 15)])) := by rw [eM10]; exact mu_s _ _ _
    have hk13 : M10 (ad 1) = some (oI G 2 (fun _ => 0)) := (congrFun eM10 (ad 1)).trans (mu_g hks (gM_ne hks hm (by simp [oI])))
    rw [show r11 = 0 from by rw [er11]; decide]
    exact m_zret X (by decide) hK hw hS (by subst_vars; refine ⟨by simp_all [bI], ?_⟩; rw [show (if kOK kd then (2 : Int32) else 1) = 1 from by simp_all [aC, bI_0, bI]]) (by omega) (by omega) dX7_isRowAsked_29
set_option maxHeartbeats 4000000 in
set_option maxRecDepth 100000 in
theorem c_X7_rowName_0 (l : Launch) (G : gG) (dce sz : Nat) (M : gM) (x : Nat) (ad : Nat → Nat) (th : Int32) (hm : M x = some (oM th 0 ad)) (hks : M (ad 1) = some (oI G 2 (fun _ => 0))) (kd ky : Int32) : mI l yX7_rowName wsX7_rowName ({ frames := 3, cells := 0, slots := 0, locals := 66 }) G dce sz M [.ref x, .int kd, .int ky] (fun r M' => r = 0 ∧ M' = mu M x (oM (if kOK kd then 2 else 1) 0 ad)) (0) (0) := by
  have hm : M x = some (.inr (8, [.int th, .ref (ad 1), .ref (ad 2), .ref (ad 3), .ref (ad 4), .ref (ad 5), .ref (ad 6), .ref (ad 7), .ref (ad 8), .ref (ad 9), .ref (ad 10), .ref (ad 11), .ref (ad 12), .ref (ad 13), .int 0, .ref (ad 15)])) := hm
  refine wMet (Qc := QI G _) (cc := cX7_rowName) (maxL := 3) (ret := (some .int)) (by decide) rfl (Nat.le_of_ble_eq_true rfl) ?_
  intro p e s m below meth c A ls X hnm hw hK hZ hA hS hsz eA hl
  obtain ⟨hx, hb, hr, hts, hown, hlk, hml⟩ := id X
  have hl : lv_has ls 3 [(0, .ref x), (1, .int kd), (2, .int ky)] := hl
  refine lv_aload_n hx hb dX7_rowName_0 rfl (lv_at hl 0 rfl) ?_
  refine lv_iload_n hx hb dX7_rowName_1 rfl (lv_at hl 1 rfl) ?_
  refine lv_iload_n hx hb dX7_rowName_2 rfl (lv_at hl 2 rfl) ?_
  refine m_callVi X (ci := 8) rfl hm hK hw hZ hS hA (As := [.int kd, .int ky]) (rest := []) (c_X7_isRowAsked_0 l G dce _ M x ad th hm hks kd ky) (cwV 2 hts gX7_rowName_X7_isRowAsked rfl rfl rfl (by decide +kernel) ⟨Nat.le_of_ble_eq_true rfl, Nat.le_of_ble_eq_true rfl⟩) rfl hl.1 rfl (Nat.le_of_ble_eq_true rfl) dX7_rowName_3 (Nat.le_of_ble_eq_true rfl) (Nat.le_of_ble_eq_true rfl) (fun r2 M1 H locs hp hw hS hz hk => ?_)
  have eM1 := hp.2
  have er2 := hp.1
  subst er2
  refine lv_if_eq (tgt := 22) hx hb dX7_rowName_6 (by decide) (fun _ => ?_) (fun c_6 => absurd (by decide) c_6)
  refine lv_iconst (v := 0) hx hb dX7_rowName_22 (by decide) ?_
  exact m_iret X hK hw hS ⟨rfl, eM1⟩ (by omega) (by omega) dX7_rowName_23
set_option maxHeartbeats 4000000 in
set_option maxRecDepth 100000 in
theorem c_X7_rowReference_0 (l : Launch) (G : gG) (dce sz : Nat) (M : gM) (x : Nat) (ad : Nat → Nat) (th : Int32) (hm : M x = some (oM th 0 ad)) (hks : M (ad 1) = some (oI G 2 (fun _ => 0))) (kd ky : Int32) : mI l yX7_rowReference wsX7_rowReference ({ frames := 3, cells := 0, slots := 0, locals := 66 }) G dce sz M [.ref x, .int kd, .int ky] (fun r M' => r = 0 ∧ M' = mu M x (oM (if kOK kd then 2 else 1) 0 ad)) (0) (0) := by
  have hm : M x = some (.inr (8, [.int th, .ref (ad 1), .ref (ad 2), .ref (ad 3), .ref (ad 4), .ref (ad 5), .ref (ad 6), .ref (ad 7), .ref (ad 8), .ref (ad 9), .ref (ad 10), .ref (ad 11), .ref (ad 12), .ref (ad 13), .int 0, .ref (ad 15)])) := hm
  refine wMet (Qc := QI G _) (cc := cX7_rowReference) (maxL := 3) (ret := (some .int)) (by decide) rfl (Nat.le_of_ble_eq_true rfl) ?_
  intro p e s m below meth c A ls X hnm hw hK hZ hA hS hsz eA hl
  obtain ⟨hx, hb, hr, hts, hown, hlk, hml⟩ := id X
  have hl : lv_has ls 3 [(0, .ref x), (1, .int kd), (2, .int ky)] := hl
  refine lv_aload_n hx hb dX7_rowReference_0 rfl (lv_at hl 0 rfl) ?_
  refine lv_iload_n hx hb dX7_rowReference_1 rfl (lv_at hl 1 rfl) ?_
  refine lv_iload_n hx hb dX7_rowReference_2 rfl (lv_at hl 2 rfl) ?_
  refine m_callVi X (ci := 8) rfl hm hK hw hZ hS hA (As := [.int kd, .int ky]) (rest := []) (c_X7_isRowAsked_0 l G dce _ M x ad th hm hks kd ky) (cwV 2 hts gX7_rowReference_X7_isRowAsked rfl rfl rfl (by decide +kernel) ⟨Nat.le_of_ble_eq_true rfl, Nat.le_of_ble_eq_true rfl⟩) rfl hl.1 rfl (Nat.le_of_ble_eq_true rfl) dX7_rowReference_3 (Nat.le_of_ble_eq_true rfl) (Nat.le_of_ble_eq_true rfl) (fun r2 M1 H locs hp hw hS hz hk => ?_)
  have eM1 := hp.2
  have er2 := hp.1
  subst er2
  refine lv_if_eq (tgt := 22) hx hb dX7_rowReference_6 (by decide) (fun _ => ?_) (fun c_6 => absurd (by decide) c_6)
  refine lv_iconst (v := 0) hx hb dX7_rowReference_22 (by decide) ?_
  exact m_iret X hK hw hS ⟨rfl, eM1⟩ (by omega) (by omega) dX7_rowReference_23
set_option maxHeartbeats 4000000 in
set_option maxRecDepth 100000 in
theorem c_X7_rowVersion_0 (l : Launch) (G : gG) (dce sz : Nat) (M : gM) (x : Nat) (ad : Nat → Nat) (th : Int32) (hm : M x = some (oM th 0 ad)) (hks : M (ad 1) = some (oI G 2 (fun _ => 0))) (kd ky : Int32) : mI l yX7_rowVersion wsX7_rowVersion ({ frames := 3, cells := 0, slots := 0, locals := 66 }) G dce sz M [.ref x, .int kd, .int ky] (fun r M' => r = 0 ∧ M' = mu M x (oM (if kOK kd then 2 else 1) 0 ad)) (0) (0) := by
  have hm : M x = some (.inr (8, [.int th, .ref (ad 1), .ref (ad 2), .ref (ad 3), .ref (ad 4), .ref (ad 5), .ref (ad 6), .ref (ad 7), .ref (ad 8), .ref (ad 9), .ref (ad 10), .ref (ad 11), .ref (ad 12), .ref (ad 13), .int 0, .ref (ad 15)])) := hm
  refine wMet (Qc := QI G _) (cc := cX7_rowVersion) (maxL := 3) (ret := (some .int)) (by decide) rfl (Nat.le_of_ble_eq_true rfl) ?_
  intro p e s m below meth c A ls X hnm hw hK hZ hA hS hsz eA hl
  obtain ⟨hx, hb, hr, hts, hown, hlk, hml⟩ := id X
  have hl : lv_has ls 3 [(0, .ref x), (1, .int kd), (2, .int ky)] := hl
  refine lv_aload_n hx hb dX7_rowVersion_0 rfl (lv_at hl 0 rfl) ?_
  refine lv_iload_n hx hb dX7_rowVersion_1 rfl (lv_at hl 1 rfl) ?_
  refine lv_iload_n hx hb dX7_rowVersion_2 rfl (lv_at hl 2 rfl) ?_
  refine m_callVi X (ci := 8) rfl hm hK hw hZ hS hA (As := [.int kd, .int ky]) (rest := []) (c_X7_isRowAsked_0 l G dce _ M x ad th hm hks kd ky) (cwV 2 hts gX7_rowVersion_X7_isRowAsked rfl rfl rfl (by decide +kernel) ⟨Nat.le_of_ble_eq_true rfl, Nat.le_of_ble_eq_true rfl⟩) rfl hl.1 rfl (Nat.le_of_ble_eq_true rfl) dX7_rowVersion_3 (Nat.le_of_ble_eq_true rfl) (Nat.le_of_ble_eq_true rfl) (fun r2 M1 H locs hp hw hS hz hk => ?_)
  have eM1 := hp.2
  have er2 := hp.1
  subst er2
  refine lv_if_eq (tgt := 22) hx hb dX7_rowVersion_6 (by decide) (fun _ => ?_) (fun c_6 => absurd (by decide) c_6)
  refine lv_iconst (v := 0) hx hb dX7_rowVersion_22 (by decide) ?_
  exact m_iret X hK hw hS ⟨rfl, eM1⟩ (by omega) (by omega) dX7_rowVersion_23
set_option maxHeartbeats 4000000 in
set_option maxRecDepth 100000 in
theorem c_X7_isWrite_0 (l : Launch) (G : gG) (dce sz : Nat) (M : gM) (x : Nat) (ad : Nat → Nat) (th : Int32) (hm : M x = some (oM th 0 ad)) (hks : M (ad 1) = some (oI G 2 (fun _ => 0))) (nu : Int32) : mI l yX7_isWrite wsX7_isWrite ({ frames := 1, cells := 0, slots := 0, locals := 21 }) G dce sz M [.ref x, .int nu] (fun r M' => r = 0 ∧ M' = mu M x (oM 1 0 ad)) (0) (0) := by
  have hm : M x = some (.inr (8, [.int th, .ref (ad 1), .ref (ad 2), .ref (ad 3), .ref (ad 4), .ref (ad 5), .ref (ad 6), .ref (ad 7), .ref (ad 8), .ref (ad 9), .ref (ad 10), .ref (ad 11), .ref (ad 12), .ref (ad 13), .int 0, .ref (ad 15)])) := hm
  refine wMet (Qc := QI G _) (cc := cX7_isWrite) (maxL := 2) (ret := (some .boolean)) (by decide) rfl (Nat.le_of_ble_eq_true rfl) ?_
  intro p e s m below meth c A ls X hnm hw hK hZ hA hS hsz eA hl
  obtain ⟨hx, hb, hr, hts, hown, hlk, hml⟩ := id X
  have hl : lv_has ls 2 [(0, .ref x), (1, .int nu)] := hl
  have iX7 : ∀ w ∈ wsX70, w ∈ wsX7_isWrite := by decide +kernel
  refine lv_aload_n hx hb dX7_isWrite_0 rfl (lv_at hl 0 rfl) ?_
  refine lv_iload_n hx hb dX7_isWrite_1 rfl (lv_at hl 1 rfl) ?_
  refine lv_if_lt (tgt := 17) hx hb dX7_isWrite_2 (by decide) (fun c_2 => ?_) (fun c_2 => ?_)
  · refine lv_iconst (v := 1) hx hb dX7_isWrite_17 (by decide) ?_
    refine m_callVi X (ci := 8) rfl hm hK hw hZ hS hA (As := [.int 1]) (rest := []) (c_X7_holds l G dce _ M x ad th 0 hm 1) (cwV 1 hts gX7_isWrite_X7_holds rfl rfl rfl (by decide +kernel) ⟨Nat.le_of_ble_eq_true rfl, Nat.le_of_ble_eq_true rfl⟩) rfl hl.1 rfl (Nat.le_of_ble_eq_true rfl) dX7_isWrite_18 (Nat.le_of_ble_eq_true rfl) (Nat.le_of_ble_eq_true rfl) (fun r2 M1 H locs hp hw hS hz hk => ?_)
    have eM1 := hp.2
    have er2 := hp.1
    have k3 : M1 x = some (.inr (8, [.int 1, .ref (ad 1), .ref (ad 2), .ref (ad 3), .ref (ad 4), .ref (ad 5), .ref (ad 6), .ref (ad 7), .ref (ad 8), .ref (ad 9), .ref (ad 10), .ref (ad 11), .ref (ad 12), .ref (ad 13), .int 0, .ref (ad 15)])) := by rw [eM1]; exact mu_s _ _ _
    have hk4 : M1 (ad 1) = some (oI G 2 (fun _ => 0)) := (congrFun eM1 (ad 1)).trans (mu_g hks (gM_ne hks hm (by simp [oI])))
    rw [show r2 = 0 from by rw [er2]; decide]
    exact m_zret X (by decide) hK hw hS (by subst_vars; refine ⟨by simp_all [bI], ?_⟩; rw [show (1 : Int32) = 1 from by simp_all [aC, bI_0, bI]]) (by omega) (by omega) dX7_isWrite_21
  · refine lv_iload_n hx hb dX7_isWrite_5 rfl (lv_at hl 1 rfl) ?_
    refine lv_aload_n hx hb dX7_isWrite_6 rfl (lv_at hl 0 rfl) ?_
    refine m_get X iX7 hK hw hm rfl 14 (by decide) (ref := "ObjectMapperModel") (by decide +kernel) (Or.inl rfl) rfl dX7_isWrite_7 ?_
    refine lv_icmp_ge (tgt := 17) hx hb dX7_isWrite_10 (by decide) (fun c_10 => ?_) (fun c_10 => ?_)
    · refine lv_iconst (v := 1) hx hb dX7_isWrite_17 (by decide) ?_
      refine m_callVi X (ci := 8) rfl hm hK hw hZ hS hA (As := [.int 1]) (rest := []) (c_X7_holds l G dce _ M x ad th 0 hm 1) (cwV 1 hts gX7_isWrite_X7_holds rfl rfl rfl (by decide +kernel) ⟨Nat.le_of_ble_eq_true rfl, Nat.le_of_ble_eq_true rfl⟩) rfl hl.1 rfl (Nat.le_of_ble_eq_true rfl) dX7_isWrite_18 (Nat.le_of_ble_eq_true rfl) (Nat.le_of_ble_eq_true rfl) (fun r6 M5 H locs hp hw hS hz hk => ?_)
      have eM5 := hp.2
      have er6 := hp.1
      have k7 : M5 x = some (.inr (8, [.int 1, .ref (ad 1), .ref (ad 2), .ref (ad 3), .ref (ad 4), .ref (ad 5), .ref (ad 6), .ref (ad 7), .ref (ad 8), .ref (ad 9), .ref (ad 10), .ref (ad 11), .ref (ad 12), .ref (ad 13), .int 0, .ref (ad 15)])) := by rw [eM5]; exact mu_s _ _ _
      have hk8 : M5 (ad 1) = some (oI G 2 (fun _ => 0)) := (congrFun eM5 (ad 1)).trans (mu_g hks (gM_ne hks hm (by simp [oI])))
      rw [show r6 = 0 from by rw [er6]; decide]
      exact m_zret X (by decide) hK hw hS (by subst_vars; refine ⟨by simp_all [bI], ?_⟩; rw [show (1 : Int32) = 1 from by simp_all [aC, bI_0, bI]]) (by omega) (by omega) dX7_isWrite_21
    · exact (by exfalso; exact c_10 (Int32.not_lt.mp c_2))
set_option maxHeartbeats 4000000 in
set_option maxRecDepth 100000 in
theorem c_X7_write_0 (l : Launch) (G : gG) (dce sz : Nat) (M : gM) (x : Nat) (ad : Nat → Nat) (th : Int32) (hm : M x = some (oM th 0 ad)) (hks : M (ad 1) = some (oI G 2 (fun _ => 0))) (nu : Int32) : mI l yX7_write wsX7_write ({ frames := 2, cells := 0, slots := 0, locals := 42 }) G dce sz M [.ref x, .int nu] (fun r M' => r = 0 ∧ M' = mu M x (oM 1 0 ad)) (0) (0) := by
  have hm : M x = some (.inr (8, [.int th, .ref (ad 1), .ref (ad 2), .ref (ad 3), .ref (ad 4), .ref (ad 5), .ref (ad 6), .ref (ad 7), .ref (ad 8), .ref (ad 9), .ref (ad 10), .ref (ad 11), .ref (ad 12), .ref (ad 13), .int 0, .ref (ad 15)])) := hm
  refine wMet (Qc := QI G _) (cc := cX7_write) (maxL := 2) (ret := (some .int)) (by decide) rfl (Nat.le_of_ble_eq_true rfl) ?_
  intro p e s m below meth c A ls X hnm hw hK hZ hA hS hsz eA hl
  obtain ⟨hx, hb, hr, hts, hown, hlk, hml⟩ := id X
  have hl : lv_has ls 2 [(0, .ref x), (1, .int nu)] := hl
  refine lv_aload_n hx hb dX7_write_0 rfl (lv_at hl 0 rfl) ?_
  refine lv_iload_n hx hb dX7_write_1 rfl (lv_at hl 1 rfl) ?_
  refine m_callVi X (ci := 8) rfl hm hK hw hZ hS hA (As := [.int nu]) (rest := []) (c_X7_isWrite_0 l G dce _ M x ad th hm hks nu) (cwV 1 hts gX7_write_X7_isWrite rfl rfl rfl (by decide +kernel) ⟨Nat.le_of_ble_eq_true rfl, Nat.le_of_ble_eq_true rfl⟩) rfl hl.1 rfl (Nat.le_of_ble_eq_true rfl) dX7_write_2 (Nat.le_of_ble_eq_true rfl) (Nat.le_of_ble_eq_true rfl) (fun r2 M1 H locs hp hw hS hz hk => ?_)
  have eM1 := hp.2
  have er2 := hp.1
  subst er2
  refine lv_if_eq (tgt := 25) hx hb dX7_write_5 (by decide) (fun _ => ?_) (fun c_5 => absurd (by decide) c_5)
  refine lv_iconst (v := 0) hx hb dX7_write_25 (by decide) ?_
  exact m_iret X hK hw hS ⟨rfl, eM1⟩ (by omega) (by omega) dX7_write_26
set_option maxHeartbeats 4000000 in
set_option maxRecDepth 100000 in
theorem c_X7_written_0 (l : Launch) (G : gG) (dce sz : Nat) (M : gM) (x : Nat) (ad : Nat → Nat) (th : Int32) (hm : M x = some (oM th 0 ad)) (hks : M (ad 1) = some (oI G 2 (fun _ => 0))) (nu : Int32) : mI l yX7_written wsX7_written ({ frames := 2, cells := 0, slots := 0, locals := 42 }) G dce sz M [.ref x, .int nu] (fun r M' => r = 0 ∧ M' = mu M x (oM 1 0 ad)) (0) (0) := by
  have hm : M x = some (.inr (8, [.int th, .ref (ad 1), .ref (ad 2), .ref (ad 3), .ref (ad 4), .ref (ad 5), .ref (ad 6), .ref (ad 7), .ref (ad 8), .ref (ad 9), .ref (ad 10), .ref (ad 11), .ref (ad 12), .ref (ad 13), .int 0, .ref (ad 15)])) := hm
  refine wMet (Qc := QI G _) (cc := cX7_written) (maxL := 2) (ret := (some .int)) (by decide) rfl (Nat.le_of_ble_eq_true rfl) ?_
  intro p e s m below meth c A ls X hnm hw hK hZ hA hS hsz eA hl
  obtain ⟨hx, hb, hr, hts, hown, hlk, hml⟩ := id X
  have hl : lv_has ls 2 [(0, .ref x), (1, .int nu)] := hl
  refine lv_aload_n hx hb dX7_written_0 rfl (lv_at hl 0 rfl) ?_
  refine lv_iload_n hx hb dX7_written_1 rfl (lv_at hl 1 rfl) ?_
  refine m_callVi X (ci := 8) rfl hm hK hw hZ hS hA (As := [.int nu]) (rest := []) (c_X7_isWrite_0 l G dce _ M x ad th hm hks nu) (cwV 1 hts gX7_written_X7_isWrite rfl rfl rfl (by decide +kernel) ⟨Nat.le_of_ble_eq_true rfl, Nat.le_of_ble_eq_true rfl⟩) rfl hl.1 rfl (Nat.le_of_ble_eq_true rfl) dX7_written_2 (Nat.le_of_ble_eq_true rfl) (Nat.le_of_ble_eq_true rfl) (fun r2 M1 H locs hp hw hS hz hk => ?_)
  have eM1 := hp.2
  have er2 := hp.1
  subst er2
  refine lv_if_eq (tgt := 25) hx hb dX7_written_5 (by decide) (fun _ => ?_) (fun c_5 => absurd (by decide) c_5)
  refine lv_iconst (v := 0) hx hb dX7_written_25 (by decide) ?_
  exact m_iret X hK hw hS ⟨rfl, eM1⟩ (by omega) (by omega) dX7_written_26
set_option maxHeartbeats 4000000 in
set_option maxRecDepth 100000 in
theorem c_X7_areThere_0 (l : Launch) (G : gG) (dce sz : Nat) (M : gM) (x : Nat) (ad : Nat → Nat) (th : Int32) (hm : M x = some (oM th 0 ad)) (hks : M (ad 1) = some (oI G 2 (fun _ => 0))) (si : Int32) : mI l yX7_areThere wsX7_areThere ({ frames := 0, cells := 0, slots := 0, locals := 0 }) G dce sz M [.ref x, .int si] (fun r M' => r = 1 ∧ M' = M) (0) (0) := by
  have hm : M x = some (.inr (8, [.int th, .ref (ad 1), .ref (ad 2), .ref (ad 3), .ref (ad 4), .ref (ad 5), .ref (ad 6), .ref (ad 7), .ref (ad 8), .ref (ad 9), .ref (ad 10), .ref (ad 11), .ref (ad 12), .ref (ad 13), .int 0, .ref (ad 15)])) := hm
  refine wMet (Qc := QI G _) (cc := cX7_areThere) (maxL := 7) (ret := (some .boolean)) (by decide) rfl (Nat.le_of_ble_eq_true rfl) ?_
  intro p e s m below meth c A ls X hnm hw hK hZ hA hS hsz eA hl
  obtain ⟨hx, hb, hr, hts, hown, hlk, hml⟩ := id X
  have hl : lv_has ls 7 [(0, .ref x), (1, .int si)] := hl
  have iX7 : ∀ w ∈ wsX70, w ∈ wsX7_areThere := by decide +kernel
  refine lv_iconst (v := 1) hx hb dX7_areThere_0 (by decide) ?_
  refine lv_istore_n (lv' := [(2, .int 1), (0, .ref x), (1, .int si)]) hx hb dX7_areThere_1 rfl hl (by decide) rfl (fun ls hl => ?_)
  refine lv_iconst (v := 0) hx hb dX7_areThere_2 (by decide) ?_
  refine lv_istore_n (lv' := [(3, .int 0), (2, .int 1), (0, .ref x), (1, .int si)]) hx hb dX7_areThere_3 rfl hl (by decide) rfl (fun ls hl => ?_)
  refine lv_iload_n hx hb dX7_areThere_4 rfl (lv_at hl 0 rfl) ?_
  refine lv_iconst (v := 1) hx hb dX7_areThere_5 (by decide) ?_
  refine lv_icmp_gt (tgt := 161) hx hb dX7_areThere_6 (by decide) (fun c_6 => absurd c_6 (by decide)) (fun _ => ?_)
  refine lv_iconst (v := 0) hx hb dX7_areThere_9 (by decide) ?_
  refine lv_istore (lv' := [(4, .int 0), (3, .int 0), (2, .int 1), (0, .ref x), (1, .int si)]) hx hb dX7_areThere_10 hl (by decide) rfl (fun ls hl => ?_)
  refine lv_iload hx hb dX7_areThere_12 (lv_at hl 0 rfl) ?_
  refine lv_aload_n hx hb dX7_areThere_14 rfl (lv_at hl 3 rfl) ?_
  refine m_get X iX7 hK hw hm rfl 1 (by decide) (ref := "ObjectMapperModel") (by decide +kernel) (Or.inl rfl) rfl dX7_areThere_15 ?_
  refine lv_iload_n hx hb dX7_areThere_18 rfl (lv_at hl 1 rfl) ?_
  refine m_iald X hK hw hks (by unfold vp_in; decide) dX7_areThere_19 ?_
  refine W.eq (g2 := F0 m 20 ls [.int 0, .int 0]) rfl ?_
  refine lv_icmp_ge (tgt := 155) hx hb dX7_areThere_20 (by decide) (fun _ => ?_) (fun c_20 => absurd (by decide) c_20)
  refine lv_iinc (v := 1) (lv' := [(3, .int 1), (4, .int 0), (2, .int 1), (0, .ref x), (1, .int si)]) hx hb dX7_areThere_155 hl (k := 1) rfl (by decide) (by decide) rfl (fun ls hl => ?_)
  refine lv_goto (tgt := 4) hx hb dX7_areThere_158 (by decide) ?_
  refine lv_iload_n hx hb dX7_areThere_4 rfl (lv_at hl 0 rfl) ?_
  refine lv_iconst (v := 1) hx hb dX7_areThere_5 (by decide) ?_
  refine lv_icmp_gt (tgt := 161) hx hb dX7_areThere_6 (by decide) (fun c_6 => absurd c_6 (by decide)) (fun _ => ?_)
  refine lv_iconst (v := 0) hx hb dX7_areThere_9 (by decide) ?_
  refine lv_istore (lv' := [(4, .int 0), (3, .int 1), (2, .int 1), (0, .ref x), (1, .int si)]) hx hb dX7_areThere_10 hl (by decide) rfl (fun ls hl => ?_)
  refine lv_iload hx hb dX7_areThere_12 (lv_at hl 0 rfl) ?_
  refine lv_aload_n hx hb dX7_areThere_14 rfl (lv_at hl 3 rfl) ?_
  refine m_get X iX7 hK hw hm rfl 1 (by decide) (ref := "ObjectMapperModel") (by decide +kernel) (Or.inl rfl) rfl dX7_areThere_15 ?_
  refine lv_iload_n hx hb dX7_areThere_18 rfl (lv_at hl 1 rfl) ?_
  refine m_iald X hK hw hks (by unfold vp_in; decide) dX7_areThere_19 ?_
  refine W.eq (g2 := F0 m 20 ls [.int 0, .int 0]) rfl ?_
  refine lv_icmp_ge (tgt := 155) hx hb dX7_areThere_20 (by decide) (fun _ => ?_) (fun c_20 => absurd (by decide) c_20)
  refine lv_iinc (v := 2) (lv' := [(3, .int 2), (4, .int 0), (2, .int 1), (0, .ref x), (1, .int si)]) hx hb dX7_areThere_155 hl (k := 1) rfl (by decide) (by decide) rfl (fun ls hl => ?_)
  refine lv_goto (tgt := 4) hx hb dX7_areThere_158 (by decide) ?_
  refine lv_iload_n hx hb dX7_areThere_4 rfl (lv_at hl 0 rfl) ?_
  refine lv_iconst (v := 1) hx hb dX7_areThere_5 (by decide) ?_
  refine lv_icmp_gt (tgt := 161) hx hb dX7_areThere_6 (by decide) (fun _ => ?_) (fun c_6 => absurd (by decide) c_6)
  refine lv_iload_n hx hb dX7_areThere_161 rfl (lv_at hl 2 rfl) ?_
  exact m_zret X (by decide) hK hw hS (by exact ⟨rfl, rfl⟩) (by omega) (by omega) dX7_areThere_162
set_option maxHeartbeats 4000000 in
set_option maxRecDepth 100000 in
theorem c_X7_areWhole_0 (l : Launch) (G : gG) (dce sz : Nat) (M : gM) (x : Nat) (ad : Nat → Nat) (th : Int32) (hm : M x = some (oM th 0 ad)) (hks : M (ad 1) = some (oI G 2 (fun _ => 0))) (si : Int32) : mI l yX7_areWhole wsX7_areWhole ({ frames := 0, cells := 0, slots := 0, locals := 0 }) G dce sz M [.ref x, .int si] (fun r M' => r = 1 ∧ M' = M) (0) (0) := by
  have hm : M x = some (.inr (8, [.int th, .ref (ad 1), .ref (ad 2), .ref (ad 3), .ref (ad 4), .ref (ad 5), .ref (ad 6), .ref (ad 7), .ref (ad 8), .ref (ad 9), .ref (ad 10), .ref (ad 11), .ref (ad 12), .ref (ad 13), .int 0, .ref (ad 15)])) := hm
  refine wMet (Qc := QI G _) (cc := cX7_areWhole) (maxL := 7) (ret := (some .boolean)) (by decide) rfl (Nat.le_of_ble_eq_true rfl) ?_
  intro p e s m below meth c A ls X hnm hw hK hZ hA hS hsz eA hl
  obtain ⟨hx, hb, hr, hts, hown, hlk, hml⟩ := id X
  have hl : lv_has ls 7 [(0, .ref x), (1, .int si)] := hl
  have iX7 : ∀ w ∈ wsX70, w ∈ wsX7_areWhole := by decide +kernel
  refine lv_iconst (v := 1) hx hb dX7_areWhole_0 (by decide) ?_
  refine lv_istore_n (lv' := [(2, .int 1), (0, .ref x), (1, .int si)]) hx hb dX7_areWhole_1 rfl hl (by decide) rfl (fun ls hl => ?_)
  refine lv_iconst (v := 0) hx hb dX7_areWhole_2 (by decide) ?_
  refine lv_istore_n (lv' := [(3, .int 0), (2, .int 1), (0, .ref x), (1, .int si)]) hx hb dX7_areWhole_3 rfl hl (by decide) rfl (fun ls hl => ?_)
  refine lv_iload_n hx hb dX7_areWhole_4 rfl (lv_at hl 0 rfl) ?_
  refine lv_iconst (v := 1) hx hb dX7_areWhole_5 (by decide) ?_
  refine lv_icmp_gt (tgt := 143) hx hb dX7_areWhole_6 (by decide) (fun c_6 => absurd c_6 (by decide)) (fun _ => ?_)
  refine lv_iconst (v := 0) hx hb dX7_areWhole_9 (by decide) ?_
  refine lv_istore (lv' := [(4, .int 0), (3, .int 0), (2, .int 1), (0, .ref x), (1, .int si)]) hx hb dX7_areWhole_10 hl (by decide) rfl (fun ls hl => ?_)
  refine lv_iload hx hb dX7_areWhole_12 (lv_at hl 0 rfl) ?_
  refine lv_aload_n hx hb dX7_areWhole_14 rfl (lv_at hl 3 rfl) ?_
  refine m_get X iX7 hK hw hm rfl 1 (by decide) (ref := "ObjectMapperModel") (by decide +kernel) (Or.inl rfl) rfl dX7_areWhole_15 ?_
  refine lv_iload_n hx hb dX7_areWhole_18 rfl (lv_at hl 1 rfl) ?_
  refine m_iald X hK hw hks (by unfold vp_in; decide) dX7_areWhole_19 ?_
  refine W.eq (g2 := F0 m 20 ls [.int 0, .int 0]) rfl ?_
  refine lv_icmp_ge (tgt := 137) hx hb dX7_areWhole_20 (by decide) (fun _ => ?_) (fun c_20 => absurd (by decide) c_20)
  refine lv_iinc (v := 1) (lv' := [(3, .int 1), (4, .int 0), (2, .int 1), (0, .ref x), (1, .int si)]) hx hb dX7_areWhole_137 hl (k := 1) rfl (by decide) (by decide) rfl (fun ls hl => ?_)
  refine lv_goto (tgt := 4) hx hb dX7_areWhole_140 (by decide) ?_
  refine lv_iload_n hx hb dX7_areWhole_4 rfl (lv_at hl 0 rfl) ?_
  refine lv_iconst (v := 1) hx hb dX7_areWhole_5 (by decide) ?_
  refine lv_icmp_gt (tgt := 143) hx hb dX7_areWhole_6 (by decide) (fun c_6 => absurd c_6 (by decide)) (fun _ => ?_)
  refine lv_iconst (v := 0) hx hb dX7_areWhole_9 (by decide) ?_
  refine lv_istore (lv' := [(4, .int 0), (3, .int 1), (2, .int 1), (0, .ref x), (1, .int si)]) hx hb dX7_areWhole_10 hl (by decide) rfl (fun ls hl => ?_)
  refine lv_iload hx hb dX7_areWhole_12 (lv_at hl 0 rfl) ?_
  refine lv_aload_n hx hb dX7_areWhole_14 rfl (lv_at hl 3 rfl) ?_
  refine m_get X iX7 hK hw hm rfl 1 (by decide) (ref := "ObjectMapperModel") (by decide +kernel) (Or.inl rfl) rfl dX7_areWhole_15 ?_
  refine lv_iload_n hx hb dX7_areWhole_18 rfl (lv_at hl 1 rfl) ?_
  refine m_iald X hK hw hks (by unfold vp_in; decide) dX7_areWhole_19 ?_
  refine W.eq (g2 := F0 m 20 ls [.int 0, .int 0]) rfl ?_
  refine lv_icmp_ge (tgt := 137) hx hb dX7_areWhole_20 (by decide) (fun _ => ?_) (fun c_20 => absurd (by decide) c_20)
  refine lv_iinc (v := 2) (lv' := [(3, .int 2), (4, .int 0), (2, .int 1), (0, .ref x), (1, .int si)]) hx hb dX7_areWhole_137 hl (k := 1) rfl (by decide) (by decide) rfl (fun ls hl => ?_)
  refine lv_goto (tgt := 4) hx hb dX7_areWhole_140 (by decide) ?_
  refine lv_iload_n hx hb dX7_areWhole_4 rfl (lv_at hl 0 rfl) ?_
  refine lv_iconst (v := 1) hx hb dX7_areWhole_5 (by decide) ?_
  refine lv_icmp_gt (tgt := 143) hx hb dX7_areWhole_6 (by decide) (fun _ => ?_) (fun c_6 => absurd (by decide) c_6)
  refine lv_iload_n hx hb dX7_areWhole_143 rfl (lv_at hl 2 rfl) ?_
  exact m_zret X (by decide) hK hw hS (by exact ⟨rfl, rfl⟩) (by omega) (by omega) dX7_areWhole_144
set_option maxHeartbeats 4000000 in
set_option maxRecDepth 100000 in
theorem c_X7_flush_0 (l : Launch) (G : gG) (dce sz : Nat) (M : gM) (x : Nat) (ad : Nat → Nat) (th : Int32) (hm : M x = some (oM th 0 ad)) (hks : M (ad 1) = some (oI G 2 (fun _ => 0))) (si : Int32) : mI l yX7_flush wsX7_flush ({ frames := 1, cells := 0, slots := 0, locals := 26 }) G dce sz M [.ref x, .int si] (fun r M' => r = 0 ∧ M' = mu M x (oM (if sOK si then 0 else 1) 0 ad)) (0) (0) := by
  have hm : M x = some (.inr (8, [.int th, .ref (ad 1), .ref (ad 2), .ref (ad 3), .ref (ad 4), .ref (ad 5), .ref (ad 6), .ref (ad 7), .ref (ad 8), .ref (ad 9), .ref (ad 10), .ref (ad 11), .ref (ad 12), .ref (ad 13), .int 0, .ref (ad 15)])) := hm
  refine wMet (Qc := QI G _) (cc := cX7_flush) (maxL := 7) (ret := (some .int)) (by decide) rfl (Nat.le_of_ble_eq_true rfl) ?_
  intro p e s m below meth c A ls X hnm hw hK hZ hA hS hsz eA hl
  obtain ⟨hx, hb, hr, hts, hown, hlk, hml⟩ := id X
  have hl : lv_has ls 7 [(0, .ref x), (1, .int si)] := hl
  have iX7 : ∀ w ∈ wsX70, w ∈ wsX7_flush := by decide +kernel
  refine lv_iload_n hx hb dX7_flush_0 rfl (lv_at hl 1 rfl) ?_
  refine m_callSi X hK hw hZ hS hA (As := [.int si]) (rest := []) (c_X7_isSession l G dce _ M si) (va_cwS 1 hts gX7_flush_X7_isSession rfl rfl rfl (by decide +kernel) ⟨Nat.le_of_ble_eq_true rfl, Nat.le_of_ble_eq_true rfl⟩) rfl hl.1 rfl (Nat.le_of_ble_eq_true rfl) dX7_flush_1 (Nat.le_of_ble_eq_true rfl) (Nat.le_of_ble_eq_true rfl) (fun r2 M1 H locs hp hw hS hz hk => ?_)
  rw [hp.2] at hw
  rw [hp.1]
  refine lv_istore_n (lv' := [(2, .int (bI (sOK si))), (0, .ref x), (1, .int si)]) hx hb dX7_flush_4 rfl hl (by decide) rfl (fun ls hl => ?_)
  refine lv_iload_n hx hb dX7_flush_5 rfl (lv_at hl 0 rfl) ?_
  refine lv_if_eq (tgt := 29) hx hb dX7_flush_6 (by decide) (fun c_6 => ?_) (fun c_6 => ?_)
  · refine lv_iconst (v := 0) hx hb dX7_flush_29 (by decide) ?_
    refine lv_istore_n (lv' := [(3, .int 0), (2, .int (bI (sOK si))), (0, .ref x), (1, .int si)]) hx hb dX7_flush_30 rfl hl (by decide) rfl (fun ls hl => ?_)
    refine lv_aload_n hx hb dX7_flush_31 rfl (lv_at hl 2 rfl) ?_
    refine lv_iload_n hx hb dX7_flush_32 rfl (lv_at hl 1 rfl) ?_
    refine lv_if_ne (tgt := 40) hx hb dX7_flush_33 (by decide) (fun c_33 => ?_) (fun c_33 => ?_)
    · refine lv_iload_n hx hb dX7_flush_40 rfl (lv_at hl 0 rfl) ?_
      refine lv_if_eq (tgt := 48) hx hb dX7_flush_41 (by decide) (fun _ => ?_) (fun c_41 => absurd (by decide) c_41)
      refine lv_iconst (v := 2) hx hb dX7_flush_48 (by decide) ?_
      refine m_callVi X (ci := 8) rfl hm hK hw hZ hS hA (As := [.int 2]) (rest := []) (c_X7_holds l G dce _ M x ad th 0 hm 2) (cwV 1 hts gX7_flush_X7_holds rfl rfl rfl (by decide +kernel) ⟨Nat.le_of_ble_eq_true rfl, Nat.le_of_ble_eq_true rfl⟩) rfl hl.1 rfl (Nat.le_of_ble_eq_true rfl) dX7_flush_49 (Nat.le_of_ble_eq_true rfl) (Nat.le_of_ble_eq_true rfl) (fun r4 M3 H locs hp hw hS hz hk => ?_)
      have eM3 := hp.2
      have er4 := hp.1
      have k5 : M3 x = some (.inr (8, [.int 2, .ref (ad 1), .ref (ad 2), .ref (ad 3), .ref (ad 4), .ref (ad 5), .ref (ad 6), .ref (ad 7), .ref (ad 8), .ref (ad 9), .ref (ad 10), .ref (ad 11), .ref (ad 12), .ref (ad 13), .int 0, .ref (ad 15)])) := by rw [eM3]; exact mu_s _ _ _
      have hk6 : M3 (ad 1) = some (oI G 2 (fun _ => 0)) := (congrFun eM3 (ad 1)).trans (mu_g hks (gM_ne hks hm (by simp [oI])))
      rw [show r4 = 0 from by rw [er4]; decide]
      refine lv_if_ne (tgt := 57) hx hb dX7_flush_52 (by decide) (fun c_52 => absurd (by decide) c_52) (fun _ => ?_)
      refine lv_iconst (v := 0) hx hb dX7_flush_55 (by decide) ?_
      exact m_iret X hK hw hS (by subst_vars; refine ⟨by simp_all [bI], ?_⟩; rw [show (if sOK si then (0 : Int32) else 1) = 2 from by simp_all [aC, bI_0, bI]]) (by omega) (by omega) dX7_flush_56
    · refine lv_iconst (v := 1) hx hb dX7_flush_36 (by decide) ?_
      refine lv_goto (tgt := 49) hx hb dX7_flush_37 (by decide) ?_
      refine m_callVi X (ci := 8) rfl hm hK hw hZ hS hA (As := [.int 1]) (rest := []) (c_X7_holds l G dce _ M x ad th 0 hm 1) (cwV 1 hts gX7_flush_X7_holds rfl rfl rfl (by decide +kernel) ⟨Nat.le_of_ble_eq_true rfl, Nat.le_of_ble_eq_true rfl⟩) rfl hl.1 rfl (Nat.le_of_ble_eq_true rfl) dX7_flush_49 (Nat.le_of_ble_eq_true rfl) (Nat.le_of_ble_eq_true rfl) (fun r8 M7 H locs hp hw hS hz hk => ?_)
      have eM7 := hp.2
      have er8 := hp.1
      have k9 : M7 x = some (.inr (8, [.int 1, .ref (ad 1), .ref (ad 2), .ref (ad 3), .ref (ad 4), .ref (ad 5), .ref (ad 6), .ref (ad 7), .ref (ad 8), .ref (ad 9), .ref (ad 10), .ref (ad 11), .ref (ad 12), .ref (ad 13), .int 0, .ref (ad 15)])) := by rw [eM7]; exact mu_s _ _ _
      have hk10 : M7 (ad 1) = some (oI G 2 (fun _ => 0)) := (congrFun eM7 (ad 1)).trans (mu_g hks (gM_ne hks hm (by simp [oI])))
      rw [show r8 = 0 from by rw [er8]; decide]
      refine lv_if_ne (tgt := 57) hx hb dX7_flush_52 (by decide) (fun c_52 => absurd (by decide) c_52) (fun _ => ?_)
      refine lv_iconst (v := 0) hx hb dX7_flush_55 (by decide) ?_
      exact m_iret X hK hw hS (by subst_vars; refine ⟨by simp_all [bI], ?_⟩; rw [show (if sOK si then (0 : Int32) else 1) = 1 from by simp_all [aC, bI_0, bI]]) (by omega) (by omega) dX7_flush_56
  · refine lv_aload_n hx hb dX7_flush_9 rfl (lv_at hl 1 rfl) ?_
    refine lv_iload_n hx hb dX7_flush_10 rfl (lv_at hl 2 rfl) ?_
    refine m_callVi X (ci := 8) rfl hm hK hw hZ hS hA (As := [.int si]) (rest := []) (c_X7_areThere_0 l G dce _ M x ad th hm hks si) (cwV 1 hts gX7_flush_X7_areThere rfl rfl rfl (by decide +kernel) ⟨Nat.le_of_ble_eq_true rfl, Nat.le_of_ble_eq_true rfl⟩) rfl hl.1 rfl (Nat.le_of_ble_eq_true rfl) dX7_flush_11 (Nat.le_of_ble_eq_true rfl) (Nat.le_of_ble_eq_true rfl) (fun r12 M11 H locs hp hw hS hz hk => ?_)
    rw [hp.2] at hw
    rw [hp.1]
    refine lv_if_eq (tgt := 29) hx hb dX7_flush_14 (by decide) (fun c_14 => absurd c_14 (by decide)) (fun _ => ?_)
    refine lv_aload_n hx hb dX7_flush_17 rfl (lv_at hl 1 rfl) ?_
    refine lv_iload_n hx hb dX7_flush_18 rfl (lv_at hl 2 rfl) ?_
    refine m_callVi X (ci := 8) rfl hm hK hw hZ hS hA (As := [.int si]) (rest := []) (c_X7_areWhole_0 l G dce _ M x ad th hm hks si) (cwV 1 hts gX7_flush_X7_areWhole rfl rfl rfl (by decide +kernel) ⟨Nat.le_of_ble_eq_true rfl, Nat.le_of_ble_eq_true rfl⟩) rfl hl.1 rfl (Nat.le_of_ble_eq_true rfl) dX7_flush_19 (Nat.le_of_ble_eq_true rfl) (Nat.le_of_ble_eq_true rfl) (fun r14 M13 H locs hp hw hS hz hk => ?_)
    rw [hp.2] at hw
    rw [hp.1]
    refine lv_if_eq (tgt := 29) hx hb dX7_flush_22 (by decide) (fun c_22 => absurd c_22 (by decide)) (fun _ => ?_)
    refine lv_iconst (v := 1) hx hb dX7_flush_25 (by decide) ?_
    refine lv_goto (tgt := 30) hx hb dX7_flush_26 (by decide) ?_
    refine lv_istore_n (lv' := [(3, .int 1), (2, .int (bI (sOK si))), (0, .ref x), (1, .int si)]) hx hb dX7_flush_30 rfl hl (by decide) rfl (fun ls hl => ?_)
    refine lv_aload_n hx hb dX7_flush_31 rfl (lv_at hl 2 rfl) ?_
    refine lv_iload_n hx hb dX7_flush_32 rfl (lv_at hl 1 rfl) ?_
    refine lv_if_ne (tgt := 40) hx hb dX7_flush_33 (by decide) (fun c_33 => ?_) (fun c_33 => ?_)
    · refine lv_iload_n hx hb dX7_flush_40 rfl (lv_at hl 0 rfl) ?_
      refine lv_if_eq (tgt := 48) hx hb dX7_flush_41 (by decide) (fun c_41 => absurd c_41 (by decide)) (fun _ => ?_)
      refine lv_iconst (v := 0) hx hb dX7_flush_44 (by decide) ?_
      refine lv_goto (tgt := 49) hx hb dX7_flush_45 (by decide) ?_
      refine m_callVi X (ci := 8) rfl hm hK hw hZ hS hA (As := [.int 0]) (rest := []) (c_X7_holds l G dce _ M x ad th 0 hm 0) (cwV 1 hts gX7_flush_X7_holds rfl rfl rfl (by decide +kernel) ⟨Nat.le_of_ble_eq_true rfl, Nat.le_of_ble_eq_true rfl⟩) rfl hl.1 rfl (Nat.le_of_ble_eq_true rfl) dX7_flush_49 (Nat.le_of_ble_eq_true rfl) (Nat.le_of_ble_eq_true rfl) (fun r16 M15 H locs hp hw hS hz hk => ?_)
      have eM15 := hp.2
      have er16 := hp.1
      have k17 : M15 x = some (.inr (8, [.int 0, .ref (ad 1), .ref (ad 2), .ref (ad 3), .ref (ad 4), .ref (ad 5), .ref (ad 6), .ref (ad 7), .ref (ad 8), .ref (ad 9), .ref (ad 10), .ref (ad 11), .ref (ad 12), .ref (ad 13), .int 0, .ref (ad 15)])) := by rw [eM15]; exact mu_s _ _ _
      have hk18 : M15 (ad 1) = some (oI G 2 (fun _ => 0)) := (congrFun eM15 (ad 1)).trans (mu_g hks (gM_ne hks hm (by simp [oI])))
      rw [show r16 = 1 from by rw [er16]; decide]
      refine lv_if_ne (tgt := 57) hx hb dX7_flush_52 (by decide) (fun _ => ?_) (fun c_52 => absurd c_52 (by decide))
      refine lv_aload_n hx hb dX7_flush_57 rfl (lv_at hl 2 rfl) ?_
      refine m_get X iX7 hK hw k17 rfl 14 (by decide) (ref := "ObjectMapperModel") (by decide +kernel) (Or.inl rfl) rfl dX7_flush_58 ?_
      refine lv_istore (lv' := [(4, .int 0), (3, .int 1), (2, .int (bI (sOK si))), (0, .ref x), (1, .int si)]) hx hb dX7_flush_61 hl (by decide) rfl (fun ls hl => ?_)
      refine lv_iconst (v := 0) hx hb dX7_flush_63 (by decide) ?_
      refine lv_istore (lv' := [(5, .int 0), (4, .int 0), (3, .int 1), (2, .int (bI (sOK si))), (0, .ref x), (1, .int si)]) hx hb dX7_flush_64 hl (by decide) rfl (fun ls hl => ?_)
      refine lv_iload hx hb dX7_flush_66 (lv_at hl 0 rfl) ?_
      refine lv_iconst (v := 1) hx hb dX7_flush_68 (by decide) ?_
      refine lv_icmp_gt (tgt := 120) hx hb dX7_flush_69 (by decide) (fun c_69 => absurd c_69 (by decide)) (fun _ => ?_)
      refine lv_iconst (v := 0) hx hb dX7_flush_72 (by decide) ?_
      refine lv_istore (lv' := [(6, .int 0), (5, .int 0), (4, .int 0), (3, .int 1), (2, .int (bI (sOK si))), (0, .ref x), (1, .int si)]) hx hb dX7_flush_73 hl (by decide) rfl (fun ls hl => ?_)
      refine lv_iload hx hb dX7_flush_75 (lv_at hl 0 rfl) ?_
      refine lv_aload_n hx hb dX7_flush_77 rfl (lv_at hl 5 rfl) ?_
      refine m_get X iX7 hK hw k17 rfl 1 (by decide) (ref := "ObjectMapperModel") (by decide +kernel) (Or.inl rfl) rfl dX7_flush_78 ?_
      refine lv_iload hx hb dX7_flush_81 (lv_at hl 1 rfl) ?_
      refine m_iald X hK hw hk18 (by unfold vp_in; decide) dX7_flush_83 ?_
      refine W.eq (g2 := F0 m 84 ls [.int 0, .int 0]) rfl ?_
      refine lv_icmp_ge (tgt := 114) hx hb dX7_flush_84 (by decide) (fun _ => ?_) (fun c_84 => absurd (by decide) c_84)
      refine lv_iinc (v := 1) (lv' := [(5, .int 1), (6, .int 0), (4, .int 0), (3, .int 1), (2, .int (bI (sOK si))), (0, .ref x), (1, .int si)]) hx hb dX7_flush_114 hl (k := 1) rfl (by decide) (by decide) rfl (fun ls hl => ?_)
      refine lv_goto (tgt := 66) hx hb dX7_flush_117 (by decide) ?_
      refine lv_iload hx hb dX7_flush_66 (lv_at hl 0 rfl) ?_
      refine lv_iconst (v := 1) hx hb dX7_flush_68 (by decide) ?_
      refine lv_icmp_gt (tgt := 120) hx hb dX7_flush_69 (by decide) (fun c_69 => absurd c_69 (by decide)) (fun _ => ?_)
      refine lv_iconst (v := 0) hx hb dX7_flush_72 (by decide) ?_
      refine lv_istore (lv' := [(6, .int 0), (5, .int 1), (4, .int 0), (3, .int 1), (2, .int (bI (sOK si))), (0, .ref x), (1, .int si)]) hx hb dX7_flush_73 hl (by decide) rfl (fun ls hl => ?_)
      refine lv_iload hx hb dX7_flush_75 (lv_at hl 0 rfl) ?_
      refine lv_aload_n hx hb dX7_flush_77 rfl (lv_at hl 5 rfl) ?_
      refine m_get X iX7 hK hw k17 rfl 1 (by decide) (ref := "ObjectMapperModel") (by decide +kernel) (Or.inl rfl) rfl dX7_flush_78 ?_
      refine lv_iload hx hb dX7_flush_81 (lv_at hl 1 rfl) ?_
      refine m_iald X hK hw hk18 (by unfold vp_in; decide) dX7_flush_83 ?_
      refine W.eq (g2 := F0 m 84 ls [.int 0, .int 0]) rfl ?_
      refine lv_icmp_ge (tgt := 114) hx hb dX7_flush_84 (by decide) (fun _ => ?_) (fun c_84 => absurd (by decide) c_84)
      refine lv_iinc (v := 2) (lv' := [(5, .int 2), (6, .int 0), (4, .int 0), (3, .int 1), (2, .int (bI (sOK si))), (0, .ref x), (1, .int si)]) hx hb dX7_flush_114 hl (k := 1) rfl (by decide) (by decide) rfl (fun ls hl => ?_)
      refine lv_goto (tgt := 66) hx hb dX7_flush_117 (by decide) ?_
      refine lv_iload hx hb dX7_flush_66 (lv_at hl 0 rfl) ?_
      refine lv_iconst (v := 1) hx hb dX7_flush_68 (by decide) ?_
      refine lv_icmp_gt (tgt := 120) hx hb dX7_flush_69 (by decide) (fun _ => ?_) (fun c_69 => absurd (by decide) c_69)
      refine lv_iconst (v := 0) hx hb dX7_flush_120 (by decide) ?_
      refine lv_istore (lv' := [(5, .int 0), (6, .int 0), (4, .int 0), (3, .int 1), (2, .int (bI (sOK si))), (0, .ref x), (1, .int si)]) hx hb dX7_flush_121 hl (by decide) rfl (fun ls hl => ?_)
      refine lv_iload hx hb dX7_flush_123 (lv_at hl 0 rfl) ?_
      refine lv_iconst (v := 1) hx hb dX7_flush_125 (by decide) ?_
      refine lv_icmp_gt (tgt := 177) hx hb dX7_flush_126 (by decide) (fun c_126 => absurd c_126 (by decide)) (fun _ => ?_)
      refine lv_iconst (v := 0) hx hb dX7_flush_129 (by decide) ?_
      refine lv_istore (lv' := [(6, .int 0), (5, .int 0), (4, .int 0), (3, .int 1), (2, .int (bI (sOK si))), (0, .ref x), (1, .int si)]) hx hb dX7_flush_130 hl (by decide) rfl (fun ls hl => ?_)
      refine lv_iload hx hb dX7_flush_132 (lv_at hl 0 rfl) ?_
      refine lv_aload_n hx hb dX7_flush_134 rfl (lv_at hl 5 rfl) ?_
      refine m_get X iX7 hK hw k17 rfl 1 (by decide) (ref := "ObjectMapperModel") (by decide +kernel) (Or.inl rfl) rfl dX7_flush_135 ?_
      refine lv_iload hx hb dX7_flush_138 (lv_at hl 1 rfl) ?_
      refine m_iald X hK hw hk18 (by unfold vp_in; decide) dX7_flush_140 ?_
      refine W.eq (g2 := F0 m 141 ls [.int 0, .int 0]) rfl ?_
      refine lv_icmp_ge (tgt := 171) hx hb dX7_flush_141 (by decide) (fun _ => ?_) (fun c_141 => absurd (by decide) c_141)
      refine lv_iinc (v := 1) (lv' := [(5, .int 1), (6, .int 0), (4, .int 0), (3, .int 1), (2, .int (bI (sOK si))), (0, .ref x), (1, .int si)]) hx hb dX7_flush_171 hl (k := 1) rfl (by decide) (by decide) rfl (fun ls hl => ?_)
      refine lv_goto (tgt := 123) hx hb dX7_flush_174 (by decide) ?_
      refine lv_iload hx hb dX7_flush_123 (lv_at hl 0 rfl) ?_
      refine lv_iconst (v := 1) hx hb dX7_flush_125 (by decide) ?_
      refine lv_icmp_gt (tgt := 177) hx hb dX7_flush_126 (by decide) (fun c_126 => absurd c_126 (by decide)) (fun _ => ?_)
      refine lv_iconst (v := 0) hx hb dX7_flush_129 (by decide) ?_
      refine lv_istore (lv' := [(6, .int 0), (5, .int 1), (4, .int 0), (3, .int 1), (2, .int (bI (sOK si))), (0, .ref x), (1, .int si)]) hx hb dX7_flush_130 hl (by decide) rfl (fun ls hl => ?_)
      refine lv_iload hx hb dX7_flush_132 (lv_at hl 0 rfl) ?_
      refine lv_aload_n hx hb dX7_flush_134 rfl (lv_at hl 5 rfl) ?_
      refine m_get X iX7 hK hw k17 rfl 1 (by decide) (ref := "ObjectMapperModel") (by decide +kernel) (Or.inl rfl) rfl dX7_flush_135 ?_
      refine lv_iload hx hb dX7_flush_138 (lv_at hl 1 rfl) ?_
      refine m_iald X hK hw hk18 (by unfold vp_in; decide) dX7_flush_140 ?_
      refine W.eq (g2 := F0 m 141 ls [.int 0, .int 0]) rfl ?_
      refine lv_icmp_ge (tgt := 171) hx hb dX7_flush_141 (by decide) (fun _ => ?_) (fun c_141 => absurd (by decide) c_141)
      refine lv_iinc (v := 2) (lv' := [(5, .int 2), (6, .int 0), (4, .int 0), (3, .int 1), (2, .int (bI (sOK si))), (0, .ref x), (1, .int si)]) hx hb dX7_flush_171 hl (k := 1) rfl (by decide) (by decide) rfl (fun ls hl => ?_)
      refine lv_goto (tgt := 123) hx hb dX7_flush_174 (by decide) ?_
      refine lv_iload hx hb dX7_flush_123 (lv_at hl 0 rfl) ?_
      refine lv_iconst (v := 1) hx hb dX7_flush_125 (by decide) ?_
      refine lv_icmp_gt (tgt := 177) hx hb dX7_flush_126 (by decide) (fun _ => ?_) (fun c_126 => absurd (by decide) c_126)
      refine lv_iconst (v := 1) hx hb dX7_flush_177 (by decide) ?_
      refine lv_istore (lv' := [(5, .int 1), (6, .int 0), (4, .int 0), (3, .int 1), (2, .int (bI (sOK si))), (0, .ref x), (1, .int si)]) hx hb dX7_flush_178 hl (by decide) rfl (fun ls hl => ?_)
      refine lv_iload hx hb dX7_flush_180 (lv_at hl 0 rfl) ?_
      refine lv_if_lt (tgt := 274) hx hb dX7_flush_182 (by decide) (fun c_182 => absurd c_182 (by decide)) (fun _ => ?_)
      refine lv_iconst (v := 0) hx hb dX7_flush_185 (by decide) ?_
      refine lv_istore (lv' := [(6, .int 0), (5, .int 1), (4, .int 0), (3, .int 1), (2, .int (bI (sOK si))), (0, .ref x), (1, .int si)]) hx hb dX7_flush_186 hl (by decide) rfl (fun ls hl => ?_)
      refine lv_iload hx hb dX7_flush_188 (lv_at hl 0 rfl) ?_
      refine lv_aload_n hx hb dX7_flush_190 rfl (lv_at hl 5 rfl) ?_
      refine m_get X iX7 hK hw k17 rfl 1 (by decide) (ref := "ObjectMapperModel") (by decide +kernel) (Or.inl rfl) rfl dX7_flush_191 ?_
      refine lv_iload hx hb dX7_flush_194 (lv_at hl 1 rfl) ?_
      refine m_iald X hK hw hk18 (by unfold vp_in; decide) dX7_flush_196 ?_
      refine W.eq (g2 := F0 m 197 ls [.int 0, .int 0]) rfl ?_
      refine lv_icmp_ge (tgt := 268) hx hb dX7_flush_197 (by decide) (fun _ => ?_) (fun c_197 => absurd (by decide) c_197)
      refine lv_iinc (v := 0) (lv' := [(5, .int 0), (6, .int 0), (4, .int 0), (3, .int 1), (2, .int (bI (sOK si))), (0, .ref x), (1, .int si)]) hx hb dX7_flush_268 hl (k := 1) rfl (by decide) (by decide) rfl (fun ls hl => ?_)
      refine lv_goto (tgt := 180) hx hb dX7_flush_271 (by decide) ?_
      refine lv_iload hx hb dX7_flush_180 (lv_at hl 0 rfl) ?_
      refine lv_if_lt (tgt := 274) hx hb dX7_flush_182 (by decide) (fun c_182 => absurd c_182 (by decide)) (fun _ => ?_)
      refine lv_iconst (v := 0) hx hb dX7_flush_185 (by decide) ?_
      refine lv_istore (lv' := [(6, .int 0), (5, .int 0), (4, .int 0), (3, .int 1), (2, .int (bI (sOK si))), (0, .ref x), (1, .int si)]) hx hb dX7_flush_186 hl (by decide) rfl (fun ls hl => ?_)
      refine lv_iload hx hb dX7_flush_188 (lv_at hl 0 rfl) ?_
      refine lv_aload_n hx hb dX7_flush_190 rfl (lv_at hl 5 rfl) ?_
      refine m_get X iX7 hK hw k17 rfl 1 (by decide) (ref := "ObjectMapperModel") (by decide +kernel) (Or.inl rfl) rfl dX7_flush_191 ?_
      refine lv_iload hx hb dX7_flush_194 (lv_at hl 1 rfl) ?_
      refine m_iald X hK hw hk18 (by unfold vp_in; decide) dX7_flush_196 ?_
      refine W.eq (g2 := F0 m 197 ls [.int 0, .int 0]) rfl ?_
      refine lv_icmp_ge (tgt := 268) hx hb dX7_flush_197 (by decide) (fun _ => ?_) (fun c_197 => absurd (by decide) c_197)
      refine lv_iinc (v := (-1)) (lv' := [(5, .int (-1)), (6, .int 0), (4, .int 0), (3, .int 1), (2, .int (bI (sOK si))), (0, .ref x), (1, .int si)]) hx hb dX7_flush_268 hl (k := 1) rfl (by decide) (by decide) rfl (fun ls hl => ?_)
      refine lv_goto (tgt := 180) hx hb dX7_flush_271 (by decide) ?_
      refine lv_iload hx hb dX7_flush_180 (lv_at hl 0 rfl) ?_
      refine lv_if_lt (tgt := 274) hx hb dX7_flush_182 (by decide) (fun _ => ?_) (fun c_182 => absurd (by decide) c_182)
      refine lv_aload_n hx hb dX7_flush_274 rfl (lv_at hl 5 rfl) ?_
      refine m_get X iX7 hK hw k17 rfl 14 (by decide) (ref := "ObjectMapperModel") (by decide +kernel) (Or.inl rfl) rfl dX7_flush_275 ?_
      refine lv_iload hx hb dX7_flush_278 (lv_at hl 2 rfl) ?_
      refine lv_isub hx hb dX7_flush_280 ?_
      rw [show (0 : Int32) - 0 = 0 from by decide]
      exact m_iret X hK hw hS (by subst_vars; refine ⟨by simp_all [bI], ?_⟩; rw [show (if sOK si then (0 : Int32) else 1) = 0 from by simp_all [aC, bI_0, bI]]) (by omega) (by omega) dX7_flush_281
    · refine lv_iconst (v := 1) hx hb dX7_flush_36 (by decide) ?_
      refine lv_goto (tgt := 49) hx hb dX7_flush_37 (by decide) ?_
      refine m_callVi X (ci := 8) rfl hm hK hw hZ hS hA (As := [.int 1]) (rest := []) (c_X7_holds l G dce _ M x ad th 0 hm 1) (cwV 1 hts gX7_flush_X7_holds rfl rfl rfl (by decide +kernel) ⟨Nat.le_of_ble_eq_true rfl, Nat.le_of_ble_eq_true rfl⟩) rfl hl.1 rfl (Nat.le_of_ble_eq_true rfl) dX7_flush_49 (Nat.le_of_ble_eq_true rfl) (Nat.le_of_ble_eq_true rfl) (fun r20 M19 H locs hp hw hS hz hk => ?_)
      have eM19 := hp.2
      have er20 := hp.1
      have k21 : M19 x = some (.inr (8, [.int 1, .ref (ad 1), .ref (ad 2), .ref (ad 3), .ref (ad 4), .ref (ad 5), .ref (ad 6), .ref (ad 7), .ref (ad 8), .ref (ad 9), .ref (ad 10), .ref (ad 11), .ref (ad 12), .ref (ad 13), .int 0, .ref (ad 15)])) := by rw [eM19]; exact mu_s _ _ _
      have hk22 : M19 (ad 1) = some (oI G 2 (fun _ => 0)) := (congrFun eM19 (ad 1)).trans (mu_g hks (gM_ne hks hm (by simp [oI])))
      rw [show r20 = 0 from by rw [er20]; decide]
      refine lv_if_ne (tgt := 57) hx hb dX7_flush_52 (by decide) (fun c_52 => absurd (by decide) c_52) (fun _ => ?_)
      refine lv_iconst (v := 0) hx hb dX7_flush_55 (by decide) ?_
      exact m_iret X hK hw hS (by subst_vars; refine ⟨by simp_all [bI], ?_⟩; rw [show (if sOK si then (0 : Int32) else 1) = 1 from by simp_all [aC, bI_0, bI]]) (by omega) (by omega) dX7_flush_56
