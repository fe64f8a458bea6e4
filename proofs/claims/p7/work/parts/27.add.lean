set_option maxHeartbeats 4000000 in
set_option maxRecDepth 100000 in
theorem c_addB (l : Launch) (G : gG) (dce sz : Nat) (M : gM) (h a ex cap ci N9 : Nat) (nm : String) (T9 : u_T) (fs : List Value) (mc : Int32) (g : Nat → Option Nat) (hv : M h = some (oL mc ex (nI cap))) (hex : M ex = some (oA G cap g)) (hva : M a = some (.inr (ci, fs))) (hc9 : vwCl[ci]? = some (nm, T9, N9)) (hca : (nm, "java/lang/Object") ∈ envC) (hci : ci ≠ 0) (hc0 : 0 < cap) (hc1 : cap ≤ 1023) (hel : gEl M g cap) : mV l yJx4a65c_add_72be8 wsJx4a65c_add_72be8 ({ frames := 5, cells := 1, slots := 1536, locals := 137 }) G dce sz M [.ref h, .ref a, .ref ex, .int (nI cap)] (fun M' => ∃ r, M r = none ∧ M' = mu (mu M r (oA G (cap + max 1 (cap / 2 ^ 1)) (va_up (va_cpy g (fun _ => none) 0 0 cap) cap (some a)))) h (oL mc r (nI (cap + 1)))) (1) (1536) := by
  have hv : M h = some (.inr (0, [.int mc, .ref ex, .int (nI cap)])) := hv
  have hex : M ex = some (.inl (G.2 3, cap, .inr (.inr (.inr (.inr g))))) := hex
  have hah : a ≠ h := fun q => by rw [q, hv] at hva; cases hva; exact hci rfl
  have hae : a ≠ ex := gM_ne hva hex (by simp)
  have hhe : h ≠ ex := gM_ne hv hex (by simp)
  refine wMet (Qc := QV G _) (cc := cJx4a65c_add_72be8) (maxL := 4) (ret := none) (by decide) rfl (Nat.le_of_ble_eq_true rfl) ?_
  intro p e s m below meth c A ls X hnm hw hK hZ hA hS hsz eA hl
  obtain ⟨hx, hb, hr, hts, hown, hlk, hml⟩ := id X
  have hl : lv_has ls 4 [(0, .ref h), (1, .ref a), (2, .ref ex), (3, .int (nI cap))] := hl
  have iJx4a65c : ∀ w ∈ wsJx4a65c0, w ∈ wsJx4a65c_add_72be8 := by decide +kernel
  refine lv_iload_n hx hb dJx4a65c_add_72be8_0 rfl (lv_at hl 3 rfl) ?_
  refine lv_aload_n hx hb dJx4a65c_add_72be8_1 rfl (lv_at hl 2 rfl) ?_
  refine m_alen X hK hw hex 3 rfl dJx4a65c_add_72be8_2 ?_
  refine W.eq (g2 := F0 m 3 ls [.int (nI cap), .int (nI cap)]) rfl ?_
  refine lv_icmp_ne (tgt := 11) hx hb dJx4a65c_add_72be8_3 (by decide) (fun c_3 => ?_) (fun c_3 => ?_)
  · exact (by exfalso; exact c_3 rfl)
  · refine lv_aload_n hx hb dJx4a65c_add_72be8_6 rfl (lv_at hl 0 rfl) ?_
    refine m_callVr X (ci := 0) rfl hv hK hw hZ hS hA (As := []) (rest := []) (c_grow_d5877_1 l G dce _ M h ex cap mc g hv hex hc0 hc1 hel) (cwV 0 hts gJx4a65c_add_72be8_Jx4a65c_grow_d5877 rfl rfl rfl (by decide +kernel) ⟨Nat.le_of_ble_eq_true rfl, Nat.le_of_ble_eq_true rfl⟩) rfl hl.1 rfl (Nat.le_of_ble_eq_true rfl) dJx4a65c_add_72be8_7 (Nat.le_of_ble_eq_true rfl) (Nat.le_of_ble_eq_true rfl) (fun r2 M1 H locs hp hw hS hz hk => ?_)
    obtain ⟨nr2, eM1⟩ := hp
    have dh : h ≠ r2 := gM_nn nr2 hv
    have da : a ≠ r2 := gM_nn nr2 hva
    have kh : M1 h = some (.inr (0, [.int mc, .ref r2, .int (nI cap)])) := by rw [eM1]; exact mu_s _ _ _
    have kr : M1 r2 = some (.inl (G.2 3, (cap + max 1 (cap / 2 ^ 1)), .inr (.inr (.inr (.inr (va_cpy g (fun _ => none) 0 0 cap)))))) := by rw [eM1, mu_n (Ne.symm dh)]; exact mu_s _ _ _
    have ka : M1 a = some (.inr (ci, fs)) := by rw [eM1, mu_n hah, mu_n da]; exact hva
    refine lv_astore_n (lv' := [(2, .ref r2), (0, .ref h), (1, .ref a), (3, .int (nI cap))]) hx hb dJx4a65c_add_72be8_10 rfl hl (by decide) rfl (fun ls hl => ?_)
    refine lv_aload_n hx hb dJx4a65c_add_72be8_11 rfl (lv_at hl 0 rfl) ?_
    refine lv_iload_n hx hb dJx4a65c_add_72be8_12 rfl (lv_at hl 3 rfl) ?_
    refine lv_aload_n hx hb dJx4a65c_add_72be8_13 rfl (lv_at hl 2 rfl) ?_
    refine m_aastO X hK hw hS (hZ.2.2.2.2.1 _ hca) kr ka hc9 (i := nI cap) (vp_in_nI (by omega) (by omega)) dJx4a65c_add_72be8_14 (fun M3 H locs eM3 hw hS => ?_)
    rw [nI_clamp (by omega)] at eM3
    have kh2 : M3 h = some (.inr (0, [.int mc, .ref r2, .int (nI cap)])) := (congrFun eM3 h).trans (mu_g kh dh)
    refine lv_aload_n hx hb dJx4a65c_add_72be8_15 rfl (lv_at hl 1 rfl) ?_
    refine lv_iload_n hx hb dJx4a65c_add_72be8_16 rfl (lv_at hl 3 rfl) ?_
    refine lv_iconst (v := 1) hx hb dJx4a65c_add_72be8_17 (by decide) ?_
    refine lv_iadd hx hb dJx4a65c_add_72be8_18 ?_
    rw [nI_1]
    refine m_put X iJx4a65c tyJx4a65c_ok nmJx4a65c hK hw hS kh2 rfl 2 (by decide) (ref := "java/util/ArrayList") (by decide +kernel) (Or.inl rfl) rfl (v := .int (nI (cap + 1))) rfl rfl (Nat.le_of_ble_eq_true rfl) (fs1 := [.int mc, .ref r2, .int (nI (cap + 1))]) rfl dJx4a65c_add_72be8_19 (fun M4 H locs eM4 hw hS => ?_)
    have k5 : M4 h = some (.inr (0, [.int mc, .ref r2, .int (nI (cap + 1))])) := by rw [eM4]; exact mu_s _ _ _
    exact m_vret X hK hw hS ⟨r2, nr2, by rw [eM4, eM3, eM1]; exact mu_4 _ _ _ _ _ _ _ (Ne.symm dh)⟩ (by omega) (by omega) dJx4a65c_add_72be8_22
set_option maxHeartbeats 4000000 in
set_option maxRecDepth 100000 in
theorem c_addA (l : Launch) (G : gG) (dce sz : Nat) (M : gM) (h a ex n cap ci N9 : Nat) (nm : String) (T9 : u_T) (fs : List Value) (mc : Int32) (g : Nat → Option Nat) (hv : M h = some (oL mc ex (nI n))) (hex : M ex = some (oA G cap g)) (hva : M a = some (.inr (ci, fs))) (hc9 : vwCl[ci]? = some (nm, T9, N9)) (hca : (nm, "java/lang/Object") ∈ envC) (hci : ci ≠ 0) (hn : n < cap) (hcap : cap ≤ 2048) : mV l yJx4a65c_add_72be8 wsJx4a65c_add_72be8 ({ frames := 5, cells := 1, slots := 1536, locals := 137 }) G dce sz M [.ref h, .ref a, .ref ex, .int (nI n)] (fun M' => M' = mu (mu M ex (oA G cap (va_up g n (some a)))) h (oL mc ex (nI (n + 1)))) (1) (1536) := by
  have hv : M h = some (.inr (0, [.int mc, .ref ex, .int (nI n)])) := hv
  have hex : M ex = some (.inl (G.2 3, cap, .inr (.inr (.inr (.inr g))))) := hex
  have hah : a ≠ h := fun q => by rw [q, hv] at hva; cases hva; exact hci rfl
  have hae : a ≠ ex := gM_ne hva hex (by simp)
  have hhe : h ≠ ex := gM_ne hv hex (by simp)
  refine wMet (Qc := QV G _) (cc := cJx4a65c_add_72be8) (maxL := 4) (ret := none) (by decide) rfl (Nat.le_of_ble_eq_true rfl) ?_
  intro p e s m below meth c A ls X hnm hw hK hZ hA hS hsz eA hl
  obtain ⟨hx, hb, hr, hts, hown, hlk, hml⟩ := id X
  have hl : lv_has ls 4 [(0, .ref h), (1, .ref a), (2, .ref ex), (3, .int (nI n))] := hl
  have iJx4a65c : ∀ w ∈ wsJx4a65c0, w ∈ wsJx4a65c_add_72be8 := by decide +kernel
  refine lv_iload_n hx hb dJx4a65c_add_72be8_0 rfl (lv_at hl 3 rfl) ?_
  refine lv_aload_n hx hb dJx4a65c_add_72be8_1 rfl (lv_at hl 2 rfl) ?_
  refine m_alen X hK hw hex 3 rfl dJx4a65c_add_72be8_2 ?_
  refine W.eq (g2 := F0 m 3 ls [.int (nI cap), .int (nI n)]) rfl ?_
  refine lv_icmp_ne (tgt := 11) hx hb dJx4a65c_add_72be8_3 (by decide) (fun c_3 => ?_) (fun c_3 => ?_)
  · refine lv_aload_n hx hb dJx4a65c_add_72be8_11 rfl (lv_at hl 2 rfl) ?_
    refine lv_iload_n hx hb dJx4a65c_add_72be8_12 rfl (lv_at hl 3 rfl) ?_
    refine lv_aload_n hx hb dJx4a65c_add_72be8_13 rfl (lv_at hl 1 rfl) ?_
    refine m_aastO X hK hw hS (hZ.2.2.2.2.1 _ hca) hex hva hc9 (i := nI n) (vp_in_nI hn (by omega)) dJx4a65c_add_72be8_14 (fun M1 H locs eM1 hw hS => ?_)
    rw [nI_clamp (by omega)] at eM1
    have kh : M1 h = some (.inr (0, [.int mc, .ref ex, .int (nI n)])) := (congrFun eM1 h).trans (mu_g hv hhe)
    refine lv_aload_n hx hb dJx4a65c_add_72be8_15 rfl (lv_at hl 0 rfl) ?_
    refine lv_iload_n hx hb dJx4a65c_add_72be8_16 rfl (lv_at hl 3 rfl) ?_
    refine lv_iconst (v := 1) hx hb dJx4a65c_add_72be8_17 (by decide) ?_
    refine lv_iadd hx hb dJx4a65c_add_72be8_18 ?_
    rw [nI_1]
    refine m_put X iJx4a65c tyJx4a65c_ok nmJx4a65c hK hw hS kh rfl 2 (by decide) (ref := "java/util/ArrayList") (by decide +kernel) (Or.inl rfl) rfl (v := .int (nI (n + 1))) rfl rfl (Nat.le_of_ble_eq_true rfl) (fs1 := [.int mc, .ref ex, .int (nI (n + 1))]) rfl dJx4a65c_add_72be8_19 (fun M2 H locs eM2 hw hS => ?_)
    have k3 : M2 h = some (.inr (0, [.int mc, .ref ex, .int (nI (n + 1))])) := by rw [eM2]; exact mu_s _ _ _
    exact m_vret X hK hw hS (by rw [eM2, eM1]; rfl) (by omega) (by omega) dJx4a65c_add_72be8_22
  · exact (by exfalso; exact absurd ((nI_eq (a := n) (b := cap) (by omega) (by omega)).mp (by first | exact c_3 | exact Classical.not_not.mp c_3)) (by omega))
set_option maxHeartbeats 4000000 in
set_option maxRecDepth 100000 in
theorem c_addA2 (l : Launch) (G : gG) (dce sz : Nat) (M : gM) (h a ex n cap ci N9 : Nat) (nm : String) (T9 : u_T) (fs : List Value) (mc : Int32) (g : Nat → Option Nat) (hv : M h = some (oL mc ex (nI n))) (hex : M ex = some (oA G cap g)) (hva : M a = some (.inr (ci, fs))) (hc9 : vwCl[ci]? = some (nm, T9, N9)) (hca : (nm, "java/lang/Object") ∈ envC) (hci : ci ≠ 0) (hn : n < cap) (hcap : cap ≤ 2048) : mI l yJx4a65c_add_9ea2d wsJx4a65c_add_9ea2d ({ frames := 6, cells := 1, slots := 1536, locals := 160 }) G dce sz M [.ref h, .ref a] (fun r M' => r = 1 ∧ M' = mu (mu M ex (oA G cap (va_up g n (some a)))) h (oL (mc + 1) ex (nI (n + 1)))) (1) (1536) := by
  have hv : M h = some (.inr (0, [.int mc, .ref ex, .int (nI n)])) := hv
  have hex : M ex = some (.inl (G.2 3, cap, .inr (.inr (.inr (.inr g))))) := hex
  have hah : a ≠ h := fun q => by rw [q, hv] at hva; cases hva; exact hci rfl
  have hae : a ≠ ex := gM_ne hva hex (by simp)
  have hhe : h ≠ ex := gM_ne hv hex (by simp)
  refine wMet (Qc := QI G _) (cc := cJx4a65c_add_9ea2d) (maxL := 2) (ret := (some .boolean)) (by decide) rfl (Nat.le_of_ble_eq_true rfl) ?_
  intro p e s m below meth c A ls X hnm hw hK hZ hA hS hsz eA hl
  obtain ⟨hx, hb, hr, hts, hown, hlk, hml⟩ := id X
  have hl : lv_has ls 2 [(0, .ref h), (1, .ref a)] := hl
  have iJx4a65c : ∀ w ∈ wsJx4a65c0, w ∈ wsJx4a65c_add_9ea2d := by decide +kernel
  refine lv_aload_n hx hb dJx4a65c_add_9ea2d_0 rfl (lv_at hl 0 rfl) ?_
  refine lv_dup hx hb dJx4a65c_add_9ea2d_1 rfl ?_
  refine m_get X iJx4a65c hK hw hv rfl 0 (by decide) (ref := "java/util/ArrayList") (by decide +kernel) (Or.inr (by decide +kernel)) rfl dJx4a65c_add_9ea2d_2 ?_
  refine lv_iconst (v := 1) hx hb dJx4a65c_add_9ea2d_5 (by decide) ?_
  refine lv_iadd hx hb dJx4a65c_add_9ea2d_6 ?_
  refine m_put X iJx4a65c tyJx4a65c_ok nmJx4a65c hK hw hS hv rfl 0 (by decide) (ref := "java/util/ArrayList") (by decide +kernel) (Or.inr (by decide +kernel)) rfl (v := .int (mc + 1)) rfl rfl (Nat.le_of_ble_eq_true rfl) (fs1 := [.int (mc + 1), .ref ex, .int (nI n)]) rfl dJx4a65c_add_9ea2d_7 (fun M1 H locs eM1 hw hS => ?_)
  have k2 : M1 h = some (.inr (0, [.int (mc + 1), .ref ex, .int (nI n)])) := by rw [eM1]; exact mu_s _ _ _
  refine lv_aload_n hx hb dJx4a65c_add_9ea2d_10 rfl (lv_at hl 0 rfl) ?_
  refine lv_aload_n hx hb dJx4a65c_add_9ea2d_11 rfl (lv_at hl 1 rfl) ?_
  refine lv_aload_n hx hb dJx4a65c_add_9ea2d_12 rfl (lv_at hl 0 rfl) ?_
  refine m_get X iJx4a65c hK hw k2 rfl 1 (by decide) (ref := "java/util/ArrayList") (by decide +kernel) (Or.inl rfl) rfl dJx4a65c_add_9ea2d_13 ?_
  refine lv_aload_n hx hb dJx4a65c_add_9ea2d_16 rfl (lv_at hl 0 rfl) ?_
  refine m_get X iJx4a65c hK hw k2 rfl 2 (by decide) (ref := "java/util/ArrayList") (by decide +kernel) (Or.inl rfl) rfl dJx4a65c_add_9ea2d_17 ?_
  refine m_callVv X (ci := 0) rfl k2 hK hw hZ hS hA (As := [.ref a, .ref ex, .int (nI n)]) (rest := []) (c_addA l G dce _ M1 h a ex n cap ci N9 nm T9 fs (mc + 1) g k2 ((congrFun eM1 ex).trans (mu_g hex (Ne.symm hhe))) ((congrFun eM1 a).trans (mu_g hva hah)) hc9 hca hci hn hcap) (cwV 3 hts gJx4a65c_add_9ea2d_Jx4a65c_add_72be8 rfl rfl rfl (by decide +kernel) ⟨Nat.le_of_ble_eq_true rfl, Nat.le_of_ble_eq_true rfl⟩) rfl hl.1 rfl (Nat.le_of_ble_eq_true rfl) dJx4a65c_add_9ea2d_20 (Nat.le_of_ble_eq_true rfl) (Nat.le_of_ble_eq_true rfl) (fun M3 H locs hp hw hS hz hk => ?_)
  refine lv_iconst (v := 1) hx hb dJx4a65c_add_9ea2d_23 (by decide) ?_
  exact m_zret X (by decide) hK hw hS (by refine ⟨rfl, ?_⟩; rw [hp, eM1]; exact mu_3 _ _ _ _ _ _) (by omega) (by omega) dJx4a65c_add_9ea2d_24
set_option maxHeartbeats 4000000 in
set_option maxRecDepth 100000 in
theorem c_addB2 (l : Launch) (G : gG) (dce sz : Nat) (M : gM) (h a ex cap ci N9 : Nat) (nm : String) (T9 : u_T) (fs : List Value) (mc : Int32) (g : Nat → Option Nat) (hv : M h = some (oL mc ex (nI cap))) (hex : M ex = some (oA G cap g)) (hva : M a = some (.inr (ci, fs))) (hc9 : vwCl[ci]? = some (nm, T9, N9)) (hca : (nm, "java/lang/Object") ∈ envC) (hci : ci ≠ 0) (hc0 : 0 < cap) (hc1 : cap ≤ 1023) (hel : gEl M g cap) : mI l yJx4a65c_add_9ea2d wsJx4a65c_add_9ea2d ({ frames := 6, cells := 1, slots := 1536, locals := 160 }) G dce sz M [.ref h, .ref a] (fun r M' => r = 1 ∧ ∃ q, M q = none ∧ M' = mu (mu M q (oA G (cap + max 1 (cap / 2 ^ 1)) (va_up (va_cpy g (fun _ => none) 0 0 cap) cap (some a)))) h (oL (mc + 1) q (nI (cap + 1)))) (1) (1536) := by
  have hv : M h = some (.inr (0, [.int mc, .ref ex, .int (nI cap)])) := hv
  have hex : M ex = some (.inl (G.2 3, cap, .inr (.inr (.inr (.inr g))))) := hex
  have hah : a ≠ h := fun q => by rw [q, hv] at hva; cases hva; exact hci rfl
  have hae : a ≠ ex := gM_ne hva hex (by simp)
  have hhe : h ≠ ex := gM_ne hv hex (by simp)
  refine wMet (Qc := QI G _) (cc := cJx4a65c_add_9ea2d) (maxL := 2) (ret := (some .boolean)) (by decide) rfl (Nat.le_of_ble_eq_true rfl) ?_
  intro p e s m below meth c A ls X hnm hw hK hZ hA hS hsz eA hl
  obtain ⟨hx, hb, hr, hts, hown, hlk, hml⟩ := id X
  have hl : lv_has ls 2 [(0, .ref h), (1, .ref a)] := hl
  have iJx4a65c : ∀ w ∈ wsJx4a65c0, w ∈ wsJx4a65c_add_9ea2d := by decide +kernel
  refine lv_aload_n hx hb dJx4a65c_add_9ea2d_0 rfl (lv_at hl 0 rfl) ?_
  refine lv_dup hx hb dJx4a65c_add_9ea2d_1 rfl ?_
  refine m_get X iJx4a65c hK hw hv rfl 0 (by decide) (ref := "java/util/ArrayList") (by decide +kernel) (Or.inr (by decide +kernel)) rfl dJx4a65c_add_9ea2d_2 ?_
  refine lv_iconst (v := 1) hx hb dJx4a65c_add_9ea2d_5 (by decide) ?_
  refine lv_iadd hx hb dJx4a65c_add_9ea2d_6 ?_
  refine m_put X iJx4a65c tyJx4a65c_ok nmJx4a65c hK hw hS hv rfl 0 (by decide) (ref := "java/util/ArrayList") (by decide +kernel) (Or.inr (by decide +kernel)) rfl (v := .int (mc + 1)) rfl rfl (Nat.le_of_ble_eq_true rfl) (fs1 := [.int (mc + 1), .ref ex, .int (nI cap)]) rfl dJx4a65c_add_9ea2d_7 (fun M1 H locs eM1 hw hS => ?_)
  have k2 : M1 h = some (.inr (0, [.int (mc + 1), .ref ex, .int (nI cap)])) := by rw [eM1]; exact mu_s _ _ _
  refine lv_aload_n hx hb dJx4a65c_add_9ea2d_10 rfl (lv_at hl 0 rfl) ?_
  refine lv_aload_n hx hb dJx4a65c_add_9ea2d_11 rfl (lv_at hl 1 rfl) ?_
  refine lv_aload_n hx hb dJx4a65c_add_9ea2d_12 rfl (lv_at hl 0 rfl) ?_
  refine m_get X iJx4a65c hK hw k2 rfl 1 (by decide) (ref := "java/util/ArrayList") (by decide +kernel) (Or.inl rfl) rfl dJx4a65c_add_9ea2d_13 ?_
  refine lv_aload_n hx hb dJx4a65c_add_9ea2d_16 rfl (lv_at hl 0 rfl) ?_
  refine m_get X iJx4a65c hK hw k2 rfl 2 (by decide) (ref := "java/util/ArrayList") (by decide +kernel) (Or.inl rfl) rfl dJx4a65c_add_9ea2d_17 ?_
  refine m_callVv X (ci := 0) rfl k2 hK hw hZ hS hA (As := [.ref a, .ref ex, .int (nI cap)]) (rest := []) (c_addB l G dce _ M1 h a ex cap ci N9 nm T9 fs (mc + 1) g k2 ((congrFun eM1 ex).trans (mu_g hex (Ne.symm hhe))) ((congrFun eM1 a).trans (mu_g hva hah)) hc9 hca hci hc0 hc1 (fun k hk y hy => by obtain ⟨q1, q2, q3, q4, q5, q6, q7, q8⟩ := hel k hk y hy; exact ⟨q1, q2, q3, q4, q5, (congrFun eM1 y).trans (mu_g q6 (fun e9 => by rw [e9, hv] at q6; cases q6; revert q8; cases q7; exact fun q8 => absurd q8 (by decide))), q7, q8⟩)) (cwV 3 hts gJx4a65c_add_9ea2d_Jx4a65c_add_72be8 rfl rfl rfl (by decide +kernel) ⟨Nat.le_of_ble_eq_true rfl, Nat.le_of_ble_eq_true rfl⟩) rfl hl.1 rfl (Nat.le_of_ble_eq_true rfl) dJx4a65c_add_9ea2d_20 (Nat.le_of_ble_eq_true rfl) (Nat.le_of_ble_eq_true rfl) (fun M3 H locs hp hw hS hz hk => ?_)
  refine lv_iconst (v := 1) hx hb dJx4a65c_add_9ea2d_23 (by decide) ?_
  exact m_zret X (by decide) hK hw hS (by refine ⟨rfl, ?_⟩; obtain ⟨q, h1, h2⟩ := hp; rw [eM1] at h1 h2; refine ⟨q, ?_, ?_⟩; rw [mu_n (fun e => by rw [e, mu_s] at h1; cases h1)] at h1; exact h1; rw [h2]; exact mu_3 _ _ _ _ _ _) (by omega) (by omega) dJx4a65c_add_9ea2d_24
set_option maxHeartbeats 4000000 in
set_option maxRecDepth 100000 in
theorem c_addC2 (l : Launch) (G : gG) (dce sz : Nat) (M : gM) (h a ci N9 : Nat) (nm : String) (T9 : u_T) (fs : List Value) (mc : Int32) (hv : M h = some (oL mc dce 0)) (hva : M a = some (.inr (ci, fs))) (hc9 : vwCl[ci]? = some (nm, T9, N9)) (hca : (nm, "java/lang/Object") ∈ envC) (hci : ci ≠ 0) : mI l yJx4a65c_add_9ea2d wsJx4a65c_add_9ea2d ({ frames := 6, cells := 1, slots := 1536, locals := 160 }) G dce sz M [.ref h, .ref a] (fun r M' => r = 1 ∧ ∃ q, M q = none ∧ M' = mu (mu M q (oA G 10 (va_up (fun _ => none) 0 (some a)))) h (oL (mc + 1) q 1)) (1) (1536) := by
  have hv : M h = some (.inr (0, [.int mc, .ref dce, .int 0])) := hv
  have hah : a ≠ h := fun q => by rw [q, hv] at hva; cases hva; exact hci rfl
  refine wMet (Qc := QI G _) (cc := cJx4a65c_add_9ea2d) (maxL := 2) (ret := (some .boolean)) (by decide) rfl (Nat.le_of_ble_eq_true rfl) ?_
  intro p e s m below meth c A ls X hnm hw hK hZ hA hS hsz eA hl
  obtain ⟨hx, hb, hr, hts, hown, hlk, hml⟩ := id X
  have hl : lv_has ls 2 [(0, .ref h), (1, .ref a)] := hl
  have iJx4a65c : ∀ w ∈ wsJx4a65c0, w ∈ wsJx4a65c_add_9ea2d := by decide +kernel
  refine lv_aload_n hx hb dJx4a65c_add_9ea2d_0 rfl (lv_at hl 0 rfl) ?_
  refine lv_dup hx hb dJx4a65c_add_9ea2d_1 rfl ?_
  refine m_get X iJx4a65c hK hw hv rfl 0 (by decide) (ref := "java/util/ArrayList") (by decide +kernel) (Or.inr (by decide +kernel)) rfl dJx4a65c_add_9ea2d_2 ?_
  refine lv_iconst (v := 1) hx hb dJx4a65c_add_9ea2d_5 (by decide) ?_
  refine lv_iadd hx hb dJx4a65c_add_9ea2d_6 ?_
  refine m_put X iJx4a65c tyJx4a65c_ok nmJx4a65c hK hw hS hv rfl 0 (by decide) (ref := "java/util/ArrayList") (by decide +kernel) (Or.inr (by decide +kernel)) rfl (v := .int (mc + 1)) rfl rfl (Nat.le_of_ble_eq_true rfl) (fs1 := [.int (mc + 1), .ref dce, .int 0]) rfl dJx4a65c_add_9ea2d_7 (fun M1 H locs eM1 hw hS => ?_)
  have k2 : M1 h = some (.inr (0, [.int (mc + 1), .ref dce, .int 0])) := by rw [eM1]; exact mu_s _ _ _
  refine lv_aload_n hx hb dJx4a65c_add_9ea2d_10 rfl (lv_at hl 0 rfl) ?_
  refine lv_aload_n hx hb dJx4a65c_add_9ea2d_11 rfl (lv_at hl 1 rfl) ?_
  refine lv_aload_n hx hb dJx4a65c_add_9ea2d_12 rfl (lv_at hl 0 rfl) ?_
  refine m_get X iJx4a65c hK hw k2 rfl 1 (by decide) (ref := "java/util/ArrayList") (by decide +kernel) (Or.inl rfl) rfl dJx4a65c_add_9ea2d_13 ?_
  refine lv_aload_n hx hb dJx4a65c_add_9ea2d_16 rfl (lv_at hl 0 rfl) ?_
  refine m_get X iJx4a65c hK hw k2 rfl 2 (by decide) (ref := "java/util/ArrayList") (by decide +kernel) (Or.inl rfl) rfl dJx4a65c_add_9ea2d_17 ?_
  refine m_callVv X (ci := 0) rfl k2 hK hw hZ hS hA (As := [.ref a, .ref dce, .int 0]) (rest := []) (c_Jx4a65c_add_72be8 l G dce _ M1 h a ci N9 nm T9 fs (mc + 1) k2 ((congrFun eM1 a).trans (mu_g hva hah)) hc9 hca hci) (cwV 3 hts gJx4a65c_add_9ea2d_Jx4a65c_add_72be8 rfl rfl rfl (by decide +kernel) ⟨Nat.le_of_ble_eq_true rfl, Nat.le_of_ble_eq_true rfl⟩) rfl hl.1 rfl (Nat.le_of_ble_eq_true rfl) dJx4a65c_add_9ea2d_20 (Nat.le_of_ble_eq_true rfl) (Nat.le_of_ble_eq_true rfl) (fun M3 H locs hp hw hS hz hk => ?_)
  refine lv_iconst (v := 1) hx hb dJx4a65c_add_9ea2d_23 (by decide) ?_
  exact m_zret X (by decide) hK hw hS (by refine ⟨rfl, ?_⟩; obtain ⟨q, h1, h2⟩ := hp; subst_vars; refine ⟨q, ?_, mu_3 _ _ _ _ _ _⟩; rw [mu_n (fun e => by rw [e, mu_s] at h1; cases h1)] at h1; exact h1) (by omega) (by omega) dJx4a65c_add_9ea2d_24
theorem metI_imp {l : Launch} {y : MethodName} {ws : List Cond} {rm : Room} {G : gG} {dce sz : Nat} {M : gM} {av : List Value} {post post' : Int32 → gM → Prop} {mc ms : Nat} (h : mI l y ws rm G dce sz M av post mc ms) (hp : ∀ r M', post r M' → post' r M') : mI l y ws rm G dce sz M av post' mc ms := fun p e hl hf hc s m args below h1 h2 h3 h4 => by
  obtain ⟨n, o, q1, q2, q3, ⟨⟨⟨r, u, e1, e2, e3⟩, e4⟩, q5⟩⟩ := h p e hl hf hc s m args below h1 h2 h3 h4
  exact ⟨n, o, q1, q2, q3, ⟨⟨⟨r, u, e1, hp _ _ e2, e3⟩, e4⟩, q5⟩⟩
/-- ArrayList.add, in any state -/
theorem c_add (l : Launch) (G : gG) (dce sz : Nat) (M : gM) (h a ex n ci N9 : Nat) (nm : String) (T9 : u_T) (fs : List Value) (mc : Int32) (f : Nat → Nat) (hv : M h = some (oL mc ex (nI n))) (hrow : (n = 0 ∧ ex = dce) ∨ ∃ (cap : Nat) (g : Nat → Option Nat), M ex = some (oA G cap g) ∧ n ≤ cap ∧ (cap ≤ 2048 ∧ 0 < n) ∧ ∀ k, k < n → g k = some (f k)) (hn : n ≤ 1023) (hel : ∀ k, k < n → ∃ (ci : Nat) (fs : List Value) (nm : String) (T9 : u_T) (N9 : Nat), M (f k) = some (.inr (ci, fs)) ∧ vwCl[ci]? = some (nm, T9, N9) ∧ (nm, "java/lang/Object") ∈ envC) (hva : M a = some (.inr (ci, fs))) (hc9 : vwCl[ci]? = some (nm, T9, N9)) (hca : (nm, "java/lang/Object") ∈ envC) (hci : ci ≠ 0) :
    mI l yJx4a65c_add_9ea2d wsJx4a65c_add_9ea2d ({ frames := 6, cells := 1, slots := 1536, locals := 160 }) G dce sz M [.ref h, .ref a] (fun r M' => r = 1 ∧ ∃ (q cap : Nat) (g : Nat → Option Nat), M' = mu (mu M q (oA G cap g)) h (oL (mc + 1) q (nI (n + 1))) ∧ n + 1 ≤ cap ∧ cap ≤ 2048 ∧ (∀ k, k < n → g k = some (f k)) ∧ g n = some a ∧ ((q = ex ∧ 0 < n) ∨ M q = none)) (1) (1536) := by
  rcases hrow with ⟨h0, he0⟩ | ⟨cap, g, h1, h2, ⟨h3, h4⟩, h5⟩
  · subst h0
    subst he0
    refine metI_imp (c_addC2 l G ex sz M h a ci N9 nm T9 fs mc hv hva hc9 hca hci) (fun r M' hp => ?_)
    obtain ⟨hr, q, hq, eq⟩ := hp
    exact ⟨hr, q, 10, _, eq, by omega, by omega, fun k hk => absurd hk (by omega), by simp [va_up], Or.inr hq⟩
  · by_cases hc : n < cap
    · refine metI_imp (c_addA2 l G dce sz M h a ex n cap ci N9 nm T9 fs mc g hv h1 hva hc9 hca hci hc h3) (fun r M' hp => ?_)
      obtain ⟨hr, eq⟩ := hp
      exact ⟨hr, ex, cap, _, eq, by omega, h3, fun k hk => by rw [va_up, if_neg (by omega)]; exact h5 k hk, by simp [va_up], Or.inl ⟨rfl, h4⟩⟩
    · have hnc : cap = n := by omega
      subst hnc
      refine metI_imp (c_addB2 l G dce sz M h a ex cap ci N9 nm T9 fs mc g hv h1 hva hc9 hca hci h4 hn (fun k hk y hy => by rw [h5 k hk] at hy; cases hy; exact hel k hk)) (fun r M' hp => ?_)
      obtain ⟨hr, q, hq, eq⟩ := hp
      exact ⟨hr, q, _, _, eq, by omega, by omega, fun k hk => by rw [va_up, if_neg (by omega), va_cpy, if_pos (by omega)]; simpa using h5 k hk, by simp [va_up], Or.inr hq⟩
