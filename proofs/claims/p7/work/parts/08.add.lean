set_option maxHeartbeats 4000000 in
set_option maxRecDepth 100000 in
theorem c_Jx4a65c_grow_92f84 (l : Launch) (G : gG) (dce sz : Nat) (M : gM) (h : Nat) (mc pm : Int32) (hpm : pm = 1) (hv : M h = some (oL mc dce 0)) : mR l yJx4a65c_grow_92f84 wsJx4a65c_grow_92f84 ({ frames := 1, cells := 1, slots := 10, locals := 15 }) G dce sz M [.ref h, .int pm] (fun r M' => M r = none ∧ M' = mu (mu M r (oA G 10 (fun _ => none))) h (oL mc r 0)) (1) (10) := by
  have hv : M h = some (.inr (0, [.int mc, .ref dce, .int 0])) := hv
  refine wMet (Qc := QR G _) (cc := cJx4a65c_grow_92f84) (maxL := 4) (ret := (some (.array (.object "java/lang/Object")))) (by decide) rfl (Nat.le_of_ble_eq_true rfl) ?_
  intro p e s m below meth c A ls X hnm hw hK hZ hA hS hsz eA hl
  obtain ⟨hx, hb, hr, hts, hown, hlk, hml⟩ := id X
  have hl : lv_has ls 4 [(0, .ref h), (1, .int pm)] := hl
  have iJx4a65c : ∀ w ∈ wsJx4a65c0, w ∈ wsJx4a65c_grow_92f84 := by decide +kernel
  refine lv_aload_n hx hb dJx4a65c_grow_92f84_0 rfl (lv_at hl 0 rfl) ?_
  refine m_get X iJx4a65c hK hw hv rfl 1 (by decide) (ref := "java/util/ArrayList") (by decide +kernel) (Or.inl rfl) rfl dJx4a65c_grow_92f84_1 ?_
  refine m_dlen X hZ hS dJx4a65c_grow_92f84_4 ?_
  refine lv_istore_n (lv' := [(2, .int 0), (0, .ref h), (1, .int pm)]) hx hb dJx4a65c_grow_92f84_5 rfl hl (by decide) rfl (fun ls hl => ?_)
  refine lv_iload_n hx hb dJx4a65c_grow_92f84_6 rfl (lv_at hl 0 rfl) ?_
  refine lv_if_gt (tgt := 20) hx hb dJx4a65c_grow_92f84_7 (by decide) (fun c_7 => ?_) (fun c_7 => ?_)
  · exact (by exfalso; exact absurd c_7 (by decide))
  · refine lv_aload_n hx hb dJx4a65c_grow_92f84_10 rfl (lv_at hl 1 rfl) ?_
    refine m_get X iJx4a65c hK hw hv rfl 1 (by decide) (ref := "java/util/ArrayList") (by decide +kernel) (Or.inl rfl) rfl dJx4a65c_grow_92f84_11 ?_
    refine m_gets X hZ hS (by decide +kernel) dJx4a65c_grow_92f84_14 ?_
    refine lv_acmp_eq (rx := some dce) (ry := some dce) (tgt := 45) hx hb dJx4a65c_grow_92f84_17 (by decide) (fun _ => ?_) (fun c_17 => absurd rfl c_17)
    refine lv_aload_n hx hb dJx4a65c_grow_92f84_45 rfl (lv_at hl 1 rfl) ?_
    refine lv_bipush (v := 10) hx hb dJx4a65c_grow_92f84_46 (by decide) ?_
    refine lv_iload_n hx hb dJx4a65c_grow_92f84_48 rfl (lv_at hl 2 rfl) ?_
    refine va_mmax hx hb (by rw [hml]; exact hl.1.symm) hown (hts (.methodLink RJx4a65c 79 Lib.Math.max.name) (by decide +kernel)) (hts (.static Lib.Math.max.name) (by decide +kernel)) (hts (.initialized "java/lang/Math") (by decide +kernel)) (hts (.code Lib.Math.max.name Lib.Math.max.code 2 (some .int)) (by decide +kernel)) (Nat.le_of_ble_eq_true rfl) (Nat.le_of_ble_eq_true rfl) (Nat.le_of_ble_eq_true rfl) (Nat.le_of_ble_eq_true rfl) dJx4a65c_grow_92f84_49 ?_
    rw [show (if (10 : Int32) < pm then pm else 10) = 10 from by rw [hpm]; decide]
    refine m_newq X (C := "java/lang/Object") (by decide +kernel) hZ.2.2.2.2.2.2.2.1 3 rfl hK hw hS hA (N' := 10) (by decide) (by decide) (by decide) (Nat.le_of_ble_eq_true rfl) (Nat.le_of_ble_eq_true rfl) dJx4a65c_grow_92f84_52 (fun q M1 H nq eM1 hw hS => ?_)
    have d_h_q : h ≠ q := gM_nn nq hv
    have k2 := (congrFun eM1 h).trans (mu_g hv d_h_q)
    have k3 : M1 q = some (.inl (G.2 3, 10, .inr (.inr (.inr (.inr (fun _ => none)))))) := by rw [eM1]; exact mu_s _ _ _
    refine lv_dup_x1 hx hb dJx4a65c_grow_92f84_55 rfl rfl ?_
    refine m_put X iJx4a65c tyJx4a65c_ok nmJx4a65c hK hw hS k2 rfl 1 (by decide) (ref := "java/util/ArrayList") (by decide +kernel) (Or.inl rfl) rfl (v := .ref q) rfl rfl (Nat.le_of_ble_eq_true rfl) (fs1 := [.int mc, .ref q, .int 0]) rfl dJx4a65c_grow_92f84_56 (fun M4 H locs eM4 hw hS => ?_)
    have k5 : M4 h = some (.inr (0, [.int mc, .ref q, .int 0])) := by rw [eM4]; exact mu_s _ _ _
    have k6 := (congrFun eM4 q).trans (mu_g k3 (Ne.symm d_h_q))
    exact m_aret X (Or.inr ⟨_, rfl⟩) hK hw hS (by refine ⟨nq, ?_⟩; subst_vars; rfl) (by omega) (by omega) dJx4a65c_grow_92f84_59
set_option maxHeartbeats 4000000 in
set_option maxRecDepth 100000 in
theorem c_Jx4a65c_grow_d5877 (l : Launch) (G : gG) (dce sz : Nat) (M : gM) (h : Nat) (mc : Int32) (hv : M h = some (oL mc dce 0)) : mR l yJx4a65c_grow_d5877 wsJx4a65c_grow_d5877 ({ frames := 2, cells := 1, slots := 10, locals := 38 }) G dce sz M [.ref h] (fun r M' => M r = none ∧ M' = mu (mu M r (oA G 10 (fun _ => none))) h (oL mc r 0)) (1) (10) := by
  have hv : M h = some (.inr (0, [.int mc, .ref dce, .int 0])) := hv
  refine wMet (Qc := QR G _) (cc := cJx4a65c_grow_d5877) (maxL := 1) (ret := (some (.array (.object "java/lang/Object")))) (by decide) rfl (Nat.le_of_ble_eq_true rfl) ?_
  intro p e s m below meth c A ls X hnm hw hK hZ hA hS hsz eA hl
  obtain ⟨hx, hb, hr, hts, hown, hlk, hml⟩ := id X
  have hl : lv_has ls 1 [(0, .ref h)] := hl
  have iJx4a65c : ∀ w ∈ wsJx4a65c0, w ∈ wsJx4a65c_grow_d5877 := by decide +kernel
  refine lv_aload_n hx hb dJx4a65c_grow_d5877_0 rfl (lv_at hl 0 rfl) ?_
  refine lv_aload_n hx hb dJx4a65c_grow_d5877_1 rfl (lv_at hl 0 rfl) ?_
  refine m_get X iJx4a65c hK hw hv rfl 2 (by decide) (ref := "java/util/ArrayList") (by decide +kernel) (Or.inl rfl) rfl dJx4a65c_grow_d5877_2 ?_
  refine lv_iconst (v := 1) hx hb dJx4a65c_grow_d5877_5 (by decide) ?_
  refine lv_iadd hx hb dJx4a65c_grow_d5877_6 ?_
  refine m_callVr X (ci := 0) rfl hv hK hw hZ hS hA (As := [.int (0 + 1)]) (rest := []) (c_Jx4a65c_grow_92f84 l G dce _ M h mc (0 + 1) (by decide) hv) (cwV 1 hts gJx4a65c_grow_d5877_Jx4a65c_grow_92f84 rfl rfl rfl (by decide +kernel) ⟨Nat.le_of_ble_eq_true rfl, Nat.le_of_ble_eq_true rfl⟩) rfl hl.1 rfl (Nat.le_of_ble_eq_true rfl) dJx4a65c_grow_d5877_7 (Nat.le_of_ble_eq_true rfl) (Nat.le_of_ble_eq_true rfl) (fun r2 M1 H locs hp hw hS hz hk => ?_)
  exact m_aret X (Or.inr ⟨_, rfl⟩) hK hw hS (by exact hp) (by omega) (by omega) dJx4a65c_grow_d5877_10
theorem mu_4 (M : gM) (h r : Nat) (a b c d : va_E) (hne : r ≠ h) : mu (mu (mu (mu M r a) h b) r c) h d = mu (mu M r c) h d := by
  funext z
  by_cases e1 : z = h <;> by_cases e2 : z = r <;> simp [mu, e1, e2]
set_option maxHeartbeats 4000000 in
set_option maxRecDepth 100000 in
theorem c_Jx4a65c_add_72be8 (l : Launch) (G : gG) (dce sz : Nat) (M : gM) (h a ci N9 : Nat) (nm : String) (T9 : u_T) (fs : List Value) (mc : Int32) (hv : M h = some (oL mc dce 0)) (hva : M a = some (.inr (ci, fs))) (hc9 : vwCl[ci]? = some (nm, T9, N9)) (hca : (nm, "java/lang/Object") ∈ envC) (hci : ci ≠ 0) : mV l yJx4a65c_add_72be8 wsJx4a65c_add_72be8 ({ frames := 3, cells := 1, slots := 10, locals := 58 }) G dce sz M [.ref h, .ref a, .ref dce, .int 0] (fun M' => ∃ r, M r = none ∧ M' = mu (mu M r (oA G 10 (va_up (fun _ => none) 0 (some a)))) h (oL mc r 1)) (1) (10) := by
  have hv : M h = some (.inr (0, [.int mc, .ref dce, .int 0])) := hv
  refine wMet (Qc := QV G _) (cc := cJx4a65c_add_72be8) (maxL := 4) (ret := none) (by decide) rfl (Nat.le_of_ble_eq_true rfl) ?_
  intro p e s m below meth c A ls X hnm hw hK hZ hA hS hsz eA hl
  obtain ⟨hx, hb, hr, hts, hown, hlk, hml⟩ := id X
  have hl : lv_has ls 4 [(0, .ref h), (1, .ref a), (2, .ref dce), (3, .int 0)] := hl
  have iJx4a65c : ∀ w ∈ wsJx4a65c0, w ∈ wsJx4a65c_add_72be8 := by decide +kernel
  refine lv_iload_n hx hb dJx4a65c_add_72be8_0 rfl (lv_at hl 3 rfl) ?_
  refine lv_aload_n hx hb dJx4a65c_add_72be8_1 rfl (lv_at hl 2 rfl) ?_
  refine m_dlen X hZ hS dJx4a65c_add_72be8_2 ?_
  refine lv_icmp_ne (tgt := 11) hx hb dJx4a65c_add_72be8_3 (by decide) (fun c_3 => ?_) (fun c_3 => ?_)
  · exact (by exfalso; exact c_3 rfl)
  · refine lv_aload_n hx hb dJx4a65c_add_72be8_6 rfl (lv_at hl 0 rfl) ?_
    refine m_callVr X (ci := 0) rfl hv hK hw hZ hS hA (As := []) (rest := []) (c_Jx4a65c_grow_d5877 l G dce _ M h mc hv) (cwV 0 hts gJx4a65c_add_72be8_Jx4a65c_grow_d5877 rfl rfl rfl (by decide +kernel) ⟨Nat.le_of_ble_eq_true rfl, Nat.le_of_ble_eq_true rfl⟩) rfl hl.1 rfl (Nat.le_of_ble_eq_true rfl) dJx4a65c_add_72be8_7 (Nat.le_of_ble_eq_true rfl) (Nat.le_of_ble_eq_true rfl) (fun r2 M1 H locs hp hw hS hz hk => ?_)
    obtain ⟨nr2, eM1⟩ := hp
    have dh : h ≠ r2 := gM_nn nr2 hv
    have da : a ≠ r2 := gM_nn nr2 hva
    have kh : M1 h = some (.inr (0, [.int mc, .ref r2, .int 0])) := by rw [eM1]; exact mu_s _ _ _
    have kr : M1 r2 = some (.inl (G.2 3, 10, .inr (.inr (.inr (.inr (fun _ => none)))))) := by rw [eM1, mu_n (Ne.symm dh)]; exact mu_s _ _ _
    have hah : a ≠ h := fun q => by rw [q, hv] at hva; cases hva; exact hci rfl
    have ka : M1 a = some (.inr (ci, fs)) := by rw [eM1, mu_n hah, mu_n da]; exact hva
    refine lv_astore_n (lv' := [(2, .ref r2), (0, .ref h), (1, .ref a), (3, .int 0)]) hx hb dJx4a65c_add_72be8_10 rfl hl (by decide) rfl (fun ls hl => ?_)
    refine lv_aload_n hx hb dJx4a65c_add_72be8_11 rfl (lv_at hl 0 rfl) ?_
    refine lv_iload_n hx hb dJx4a65c_add_72be8_12 rfl (lv_at hl 3 rfl) ?_
    refine lv_aload_n hx hb dJx4a65c_add_72be8_13 rfl (lv_at hl 2 rfl) ?_
    refine m_aastO X hK hw hS (hZ.2.2.2.2.1 _ hca) kr ka hc9 (i := 0) (by unfold vp_in; decide) dJx4a65c_add_72be8_14 (fun M3 H locs eM3 hw hS => ?_)
    have kh2 : M3 h = some (.inr (0, [.int mc, .ref r2, .int 0])) := (congrFun eM3 h).trans (mu_g kh dh)
    refine lv_aload_n hx hb dJx4a65c_add_72be8_15 rfl (lv_at hl 1 rfl) ?_
    refine lv_iload_n hx hb dJx4a65c_add_72be8_16 rfl (lv_at hl 3 rfl) ?_
    refine lv_iconst (v := 1) hx hb dJx4a65c_add_72be8_17 (by decide) ?_
    refine lv_iadd hx hb dJx4a65c_add_72be8_18 ?_
    refine m_put X iJx4a65c tyJx4a65c_ok nmJx4a65c hK hw hS kh2 rfl 2 (by decide) (ref := "java/util/ArrayList") (by decide +kernel) (Or.inl rfl) rfl (v := .int (0 + 1)) rfl rfl (Nat.le_of_ble_eq_true rfl) (fs1 := [.int mc, .ref r2, .int (0 + 1)]) rfl dJx4a65c_add_72be8_19 (fun M4 H locs eM4 hw hS => ?_)
    have k5 : M4 h = some (.inr (0, [.int mc, .ref r2, .int (0 + 1)])) := by rw [eM4]; exact mu_s _ _ _
    exact m_vret X hK hw hS (by refine ⟨r2, nr2, ?_⟩; subst_vars; exact mu_4 _ _ _ _ _ _ _ (Ne.symm dh)) (by omega) (by omega) dJx4a65c_add_72be8_22
theorem mu_3 (M : gM) (h q : Nat) (a b c : va_E) : mu (mu (mu M h a) q b) h c = mu (mu M q b) h c := by
  funext z
  by_cases e1 : z = h <;> by_cases e2 : z = q <;> simp [mu, e1, e2]
set_option maxHeartbeats 4000000 in
set_option maxRecDepth 100000 in
theorem c_Jx4a65c_add_9ea2d (l : Launch) (G : gG) (dce sz : Nat) (M : gM) (h a ci N9 : Nat) (nm : String) (T9 : u_T) (fs : List Value) (mc : Int32) (hv : M h = some (oL mc dce 0)) (hva : M a = some (.inr (ci, fs))) (hc9 : vwCl[ci]? = some (nm, T9, N9)) (hca : (nm, "java/lang/Object") ∈ envC) (hci : ci ≠ 0) : mI l yJx4a65c_add_9ea2d wsJx4a65c_add_9ea2d ({ frames := 4, cells := 1, slots := 10, locals := 81 }) G dce sz M [.ref h, .ref a] (fun r M' => r = 1 ∧ ∃ q, M q = none ∧ M' = mu (mu M q (oA G 10 (va_up (fun _ => none) 0 (some a)))) h (oL (mc + 1) q 1)) (1) (10) := by
  have hv : M h = some (.inr (0, [.int mc, .ref dce, .int 0])) := hv
  have hah : a ≠ h := fun q => by rw [q, hv] at hva; cases hva; exact hci rfl
  refine wMet (Qc := QI G _) (cc := cJx4a65c_add_9ea2d) (maxL := 2) (ret := (some .boolean)) (by decide) rfl (Nat.le_of_ble_eq_true rfl) ?_
  intro p e s m below meth c A ls X hnm hw hK hZ hA hS hsz eA hl
  obtain ⟨hx, hb, hr, hts, hown, hlk, hml⟩ := id X
  have hl : lv_has ls 2 [(0, .ref h), (1, .ref a)] := hl
  have iJx4a65c : ∀ w ∈ wsJx4a65c0, w ∈ wsJx4a65c_add_9ea2d := by decide +kernel
  refine lv_aload_n hx hb dJx4a65c_add_9ea2d_0 rfl (lv_at hl 0 rfl) ?_
  refine lv_dup hx hb dJx4a65c_add_9ea2d_1 rfl ?_
  refine m_get X iJx4a65c hK hw hv rfl 0 (by decide) (ref := "java/util/ArrayList") (by decide +kernel) (Or.inr (by decide +kernel)) rfl dJx4a65c_add_9ea2d_2 ?_
  refine lv_iconst (v := 1) hx hb dJx4a65c_add_9ea2d_5 (by decide) ?_
  refine lv_iadd hx hb dJx4a65c_add_9ea2d_6 ?_
  refine m_put X iJx4a65c tyJx4a65c_ok nmJx4a65c hK hw hS hv rfl 0 (by decide) (ref := "java/util/ArrayList") (by decide +kernel) (Or.inr (by decide +kernel)) rfl (v := .int (mc + 1)) rfl rfl (Nat.le_of_ble_eq_true rfl) (fs1 := [.int (mc + 1), .ref dce, .int 0]) rfl dJx4a65c_add_9ea2d_7 (fun M1 H locs eM1 hw hS => ?_)
  have k2 : M1 h = some (.inr (0, [.int (mc + 1), .ref dce, .int 0])) := by rw [eM1]; exact mu_s _ _ _
  refine lv_aload_n hx hb dJx4a65c_add_9ea2d_10 rfl (lv_at hl 0 rfl) ?_
  refine lv_aload_n hx hb dJx4a65c_add_9ea2d_11 rfl (lv_at hl 1 rfl) ?_
  refine lv_aload_n hx hb dJx4a65c_add_9ea2d_12 rfl (lv_at hl 0 rfl) ?_
  refine m_get X iJx4a65c hK hw k2 rfl 1 (by decide) (ref := "java/util/ArrayList") (by decide +kernel) (Or.inl rfl) rfl dJx4a65c_add_9ea2d_13 ?_
  refine lv_aload_n hx hb dJx4a65c_add_9ea2d_16 rfl (lv_at hl 0 rfl) ?_
  refine m_get X iJx4a65c hK hw k2 rfl 2 (by decide) (ref := "java/util/ArrayList") (by decide +kernel) (Or.inl rfl) rfl dJx4a65c_add_9ea2d_17 ?_
  refine m_callVv X (ci := 0) rfl k2 hK hw hZ hS hA (As := [.ref a, .ref dce, .int 0]) (rest := []) (c_Jx4a65c_add_72be8 l G dce _ M1 h a ci N9 nm T9 fs (mc + 1) k2 ((congrFun eM1 a).trans (mu_g hva hah)) hc9 hca hci) (cwV 3 hts gJx4a65c_add_9ea2d_Jx4a65c_add_72be8 rfl rfl rfl (by decide +kernel) ⟨Nat.le_of_ble_eq_true rfl, Nat.le_of_ble_eq_true rfl⟩) rfl hl.1 rfl (Nat.le_of_ble_eq_true rfl) dJx4a65c_add_9ea2d_20 (Nat.le_of_ble_eq_true rfl) (Nat.le_of_ble_eq_true rfl) (fun M3 H locs hp hw hS hz hk => ?_)
  refine lv_iconst (v := 1) hx hb dJx4a65c_add_9ea2d_23 (by decide) ?_
  exact m_zret X (by decide) hK hw hS (by refine ⟨rfl, ?_⟩; obtain ⟨q, h1, h2⟩ := hp; subst_vars; refine ⟨q, ?_, mu_3 _ _ _ _ _ _⟩; rw [mu_n (fun e => by rw [e, mu_s] at h1; cases h1)] at h1; exact h1) (by omega) (by omega) dJx4a65c_add_9ea2d_24
