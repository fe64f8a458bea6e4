theorem eE_c (v : vE) : ∃ fs, eE v = .inr (1, fs) := by
  obtain ⟨w1, w2, w3, w4, w5, w6, w7, w8⟩ := v
  exact ⟨_, rfl⟩
theorem eR_c (v : vR) : ∃ fs, eR v = .inr (4, fs) := by
  obtain ⟨w1, w2, w3, w4⟩ := v
  exact ⟨_, rfl⟩
def cMk (G : gG) (dce x : Nat) (ad : Nat → Nat) (M : gM) (y : cY) (z : cZ) (M1 : gM) (z1 : cZ) : Prop := ∃ y1 : cY, CW G dce x ad M1 y1 z1 ∧ cStep ad dce y z M y1 z1 M1
set_option maxHeartbeats 4000000 in
set_option maxRecDepth 100000 in
theorem c_addPlaceS (l : Launch) (G : gG) (dce sz : Nat) (M : gM) (x : Nat) (ad : Nat → Nat) (y : cY) (z : cZ) (hcw : CW G dce x ad M y z) (i k : Nat) (hi : i < 3) (hk2 : k < 2) (hn9 : zN z (sL i k) ≤ 1023) : mV l yX4_addPlace wsX4_addPlace ({ frames := 7, cells := 2, slots := 1544, locals := 181 }) G dce sz M [.ref (ad (4 + i)), .int (nI k)] (fun M' => cMk G dce x ad M y z M' (zAdd (sL i k) z)) (2) (1544) := by
  obtain ⟨⟨mc, hli⟩, hrow⟩ := hcw.2.1 (sL i k) (by unfold sL; omega)
  have hli : M (ad (10 + sL i k)) = some (.inr (0, [.int mc, .ref (yX y (sL i k)), .int (nI (zN z (sL i k)))])) := hli
  have hs9 : M (ad (4 + i)) = some (.inr (5, [.ref (ad (12 + 2 * i)), .ref (ad (13 + 2 * i)), .ref (ad (40 + i))])) := (hcw.1.2.2.2 i hi).1
  refine wMet (Qc := QV G _) (cc := cX4_addPlace) (maxL := 2) (ret := none) (by decide) rfl (Nat.le_of_ble_eq_true rfl) ?_
  intro p e s m below meth c A ls X hnm hw hK hZ hA hS hsz eA hl
  obtain ⟨hx, hb, hr, hts, hown, hlk, hml⟩ := id X
  have hl : lv_has ls 2 [(0, .ref (ad (4 + i))), (1, .int (nI k))] := hl
  have iX0 : ∀ w ∈ wsX00, w ∈ wsX4_addPlace := by decide +kernel
  refine lv_aload_n hx hb dX4_addPlace_0 rfl (lv_at hl 0 rfl) ?_
  refine lv_iload_n hx hb dX4_addPlace_1 rfl (lv_at hl 1 rfl) ?_
  refine m_callVr X (ci := 5) rfl hs9 hK hw hZ hS hA (As := [.int (nI k)]) (rest := []) (c_X4_listOf l G dce _ M (ad (4 + i)) (ad (12 + 2 * i)) (ad (13 + 2 * i)) (ad (40 + i)) hs9 (nI k)) (cwV 1 hts gX4_addPlace_X4_listOf rfl rfl rfl (by decide +kernel) ⟨Nat.le_of_ble_eq_true rfl, Nat.le_of_ble_eq_true rfl⟩) rfl hl.1 rfl (Nat.le_of_ble_eq_true rfl) dX4_addPlace_2 (Nat.le_of_ble_eq_true rfl) (Nat.le_of_ble_eq_true rfl) (fun r2 M1 H locs hp hw hS hz hk => ?_)
  rw [hp.2] at hw
  rw [hp.1, ad_if hk2]
  refine m_new X iX0 tyX0_ok (ci := 1) (by decide +kernel) (by decide +kernel) (by decide +kernel) hK hw hS hA rfl (fs := [.int 0, .int 0, .int 0, .int 0, .int 0, .int 0, .int 0, .int 0]) rfl (Nat.le_of_ble_eq_true rfl) (Nat.le_of_ble_eq_true rfl) dX4_addPlace_5 (fun q9 M3 H nq9 eM3 hw hS => ?_)
  have d5 : (ad (10 + sL i k)) ≠ q9 := gM_nn nq9 hli
  have k4 := (congrFun eM3 ((ad (10 + sL i k)))).trans (mu_g hli d5)
  have k6 : M3 q9 = some (.inr (1, [.int 0, .int 0, .int 0, .int 0, .int 0, .int 0, .int 0, .int 0])) := by rw [eM3]; exact mu_s _ _ _
  refine lv_dup hx hb dX4_addPlace_8 rfl ?_
  refine m_callNIv (ret9 := none) X hK hw hZ hS hA (As := []) (rest := [.ref q9, .ref (ad (10 + sL i k))]) (c_X0_init l G dce _ M3 q9 k6) ⟨va_cnB 0 hts gX4_addPlace_X0_init_n23 rfl rfl rfl (hZ.2.2.2.2.2.2.2.2.2.1 (RX4, 23, yX0_init, RX6) (by decide +kernel)) (hts (.initialized RX0) (by decide +kernel)) (by decide +kernel) ⟨Nat.le_of_ble_eq_true rfl, Nat.le_of_ble_eq_true rfl⟩, rfl, hts (.instanceMethod yX0_init) (by decide +kernel)⟩ rfl hl.1 rfl (Nat.le_of_ble_eq_true rfl) dX4_addPlace_9 (Nat.le_of_ble_eq_true rfl) (Nat.le_of_ble_eq_true rfl) (fun M7 H locs hp hw hS hz hk => ?_)
  have eM7 := hp
  have k8 := (congrFun eM7 ((ad (10 + sL i k)))).trans (mu_g k4 d5)
  have k9 : M7 q9 = some (.inr (1, [.int (bI false), .int (bI false), .int (bI false), .int 0, .int (-1), .int 0, .int 0, .int 0])) := by rw [eM7]; exact mu_s _ _ _
  have fr : ∀ b w, M b = some w → M7 b = some w := fun b w hb => by rw [eM7, mu_n (gM_nn nq9 hb), eM3, mu_n (gM_nn nq9 hb)]; exact hb
  have hrow2 : (zN z (sL i k) = 0 ∧ yX y (sL i k) = dce) ∨ ∃ (cap : Nat) (g : Nat → Option Nat), M7 (yX y (sL i k)) = some (oA G cap g) ∧ zN z (sL i k) ≤ cap ∧ (cap ≤ 2048 ∧ 0 < zN z (sL i k)) ∧ ∀ k9, k9 < zN z (sL i k) → g k9 = some (yO y (sL i k) k9) := by
    rcases hrow with h9 | ⟨c9, g9, a1, a2⟩
    · exact Or.inl h9
    · exact Or.inr ⟨c9, g9, fr _ _ a1, a2⟩
  have hel2 : ∀ k9, k9 < zN z (sL i k) → ∃ (ci : Nat) (fs : List Value) (nm : String) (T9 : u_T) (N9 : Nat), M7 (yO y (sL i k) k9) = some (.inr (ci, fs)) ∧ vwCl[ci]? = some (nm, T9, N9) ∧ (nm, "java/lang/Object") ∈ envC := fun k9 h9 => by
    obtain ⟨fs, hfs⟩ := eE_c (zE z (sL i k) k9)
    exact ⟨1, fs, RX0, TX0, 8, fr _ _ (by rw [← hfs]; exact hcw.ent (by unfold sL; omega) (by unfold sL; omega) h9), rfl, by decide⟩
  refine m_callVi X (ci := 0) rfl k8 hK hw hZ hS hA (As := [.ref q9]) (rest := []) (c_add l G dce _ M7 (ad (10 + sL i k)) q9 (yX y (sL i k)) (zN z (sL i k)) 1 8 RX0 TX0 _ mc (yO y (sL i k)) k8 hrow2 hn9 hel2 k9 rfl (by decide) (by decide)) (cwV 1 hts gX4_addPlace_Jx4a65c_add_9ea2d rfl rfl rfl (by decide +kernel) ⟨Nat.le_of_ble_eq_true rfl, Nat.le_of_ble_eq_true rfl⟩) rfl hl.1 rfl (Nat.le_of_ble_eq_true rfl) dX4_addPlace_12 (Nat.le_of_ble_eq_true rfl) (Nat.le_of_ble_eq_true rfl) (fun r11 M10 H locs hp hw hS hz hk => ?_)
  refine lv_pop hx hb dX4_addPlace_15 rfl ?_
  obtain ⟨hr1, q, cap, g, eq3, a1, a2, a3, a4, a5⟩ := hp
  have hq9 : (q = yX y (sL i k) ∧ 0 < zN z (sL i k)) ∨ (M q = none ∧ q ≠ q9) := by
    rcases a5 with a5 | a5
    · exact Or.inl a5
    · have h8 : q ≠ q9 := fun r => by rw [r, k9] at a5; cases a5
      rw [eM7, mu_n h8, eM3, mu_n h8] at a5
      exact Or.inr ⟨a5, h8⟩
  obtain ⟨hcz, hsz⟩ := hcw.add (M1 := M10) (mc := mc + 1) (u := (sL i k)) (cell := eE v0E) (by unfold sL; omega) hn9 nq9 hq9 (Or.inr ⟨by unfold sL; omega, rfl⟩) a1 a2 a3 a4 (by rw [eq3, eM7, eM3, mu_mu]; rfl)
  exact m_vret X hK hw hS ⟨_, hcz, hsz⟩ (by omega) (by omega) dX4_addPlace_16
theorem c_addPlaceSK (l : Launch) (G : gG) (dce sz : Nat) (M : gM) (x : Nat) (ad : Nat → Nat) (y : cY) (z : cZ) (hcw : CW G dce x ad M y z) (i k : Nat) (hi : i < 3) (hk2 : k < 2) (hn9 : zN z (sL i k) ≤ 1023) (kd : Int32) (hkd : kd = nI k) : mV l yX4_addPlace wsX4_addPlace ({ frames := 7, cells := 2, slots := 1544, locals := 181 }) G dce sz M [.ref (ad (4 + i)), .int kd] (fun M' => cMk G dce x ad M y z M' (zAdd (sL i k) z)) (2) (1544) := by
  subst hkd
  exact c_addPlaceS l G dce sz M x ad y z hcw i k hi hk2 hn9
set_option maxHeartbeats 4000000 in
set_option maxRecDepth 100000 in
theorem c_addPlaceT (l : Launch) (G : gG) (dce sz : Nat) (M : gM) (x : Nat) (ad : Nat → Nat) (y : cY) (z : cZ) (hcw : CW G dce x ad M y z) (k : Nat) (hk2 : k < 2) (hn9 : zN z k ≤ 1023) : mV l yX5_addPlace wsX5_addPlace ({ frames := 7, cells := 2, slots := 1540, locals := 181 }) G dce sz M [.ref (ad k)] (fun M' => cMk G dce x ad M y z M' (zAdd k z)) (2) (1540) := by
  obtain ⟨⟨mc, hli⟩, hrow⟩ := hcw.2.1 k (by omega)
  have hli : M (ad (10 + k)) = some (.inr (0, [.int mc, .ref (yX y k), .int (nI (zN z k))])) := hli
  have ht9 : M (ad k) = some (.inr (6, [.ref (ad (10 + k)), .ref (ad (20 + k))])) := (hcw.1.2.1 k hk2).1
  refine wMet (Qc := QV G _) (cc := cX5_addPlace) (maxL := 1) (ret := none) (by decide) rfl (Nat.le_of_ble_eq_true rfl) ?_
  intro p e s m below meth c A ls X hnm hw hK hZ hA hS hsz eA hl
  obtain ⟨hx, hb, hr, hts, hown, hlk, hml⟩ := id X
  have hl : lv_has ls 1 [(0, .ref (ad k))] := hl
  have iX3 : ∀ w ∈ wsX30, w ∈ wsX5_addPlace := by decide +kernel
  have iX5 : ∀ w ∈ wsX50, w ∈ wsX5_addPlace := by decide +kernel
  refine lv_aload_n hx hb dX5_addPlace_0 rfl (lv_at hl 0 rfl) ?_
  refine m_get X iX5 hK hw ht9 rfl 0 (by decide) (ref := "ObjectMapper$Table") (by decide +kernel) (Or.inl rfl) rfl dX5_addPlace_1 ?_
  refine m_new X iX3 tyX3_ok (ci := 4) (by decide +kernel) (by decide +kernel) (by decide +kernel) hK hw hS hA rfl (fs := [.int 0, .int 0, .int 0, .int 0]) rfl (Nat.le_of_ble_eq_true rfl) (Nat.le_of_ble_eq_true rfl) dX5_addPlace_4 (fun q9 M1 H nq9 eM1 hw hS => ?_)
  have d3 : (ad (10 + k)) ≠ q9 := gM_nn nq9 hli
  have k2 := (congrFun eM1 ((ad (10 + k)))).trans (mu_g hli d3)
  have k4 : M1 q9 = some (.inr (4, [.int 0, .int 0, .int 0, .int 0])) := by rw [eM1]; exact mu_s _ _ _
  refine lv_dup hx hb dX5_addPlace_7 rfl ?_
  refine m_callNIv (ret9 := none) X hK hw hZ hS hA (As := []) (rest := [.ref q9, .ref (ad (10 + k))]) (c_X3_init l G dce _ M1 q9 k4) ⟨va_cnB 0 hts gX5_addPlace_X3_init_n18 rfl rfl rfl (hZ.2.2.2.2.2.2.2.2.2.1 (RX5, 18, yX3_init, RX6) (by decide +kernel)) (hts (.initialized RX3) (by decide +kernel)) (by decide +kernel) ⟨Nat.le_of_ble_eq_true rfl, Nat.le_of_ble_eq_true rfl⟩, rfl, hts (.instanceMethod yX3_init) (by decide +kernel)⟩ rfl hl.1 rfl (Nat.le_of_ble_eq_true rfl) dX5_addPlace_8 (Nat.le_of_ble_eq_true rfl) (Nat.le_of_ble_eq_true rfl) (fun M5 H locs hp hw hS hz hk => ?_)
  have eM5 := hp
  have k6 := (congrFun eM5 ((ad (10 + k)))).trans (mu_g k2 d3)
  have k7 : M5 q9 = some (.inr (4, [.int (bI false), .int 0, .int (-1), .int 0])) := by rw [eM5]; exact mu_s _ _ _
  have fr : ∀ b w, M b = some w → M5 b = some w := fun b w hb => by rw [eM5, mu_n (gM_nn nq9 hb), eM1, mu_n (gM_nn nq9 hb)]; exact hb
  have hrow2 : (zN z k = 0 ∧ yX y k = dce) ∨ ∃ (cap : Nat) (g : Nat → Option Nat), M5 (yX y k) = some (oA G cap g) ∧ zN z k ≤ cap ∧ (cap ≤ 2048 ∧ 0 < zN z k) ∧ ∀ k9, k9 < zN z k → g k9 = some (yO y k k9) := by
    rcases hrow with h9 | ⟨c9, g9, a1, a2⟩
    · exact Or.inl h9
    · exact Or.inr ⟨c9, g9, fr _ _ a1, a2⟩
  have hel2 : ∀ k9, k9 < zN z k → ∃ (ci : Nat) (fs : List Value) (nm : String) (T9 : u_T) (N9 : Nat), M5 (yO y k k9) = some (.inr (ci, fs)) ∧ vwCl[ci]? = some (nm, T9, N9) ∧ (nm, "java/lang/Object") ∈ envC := fun k9 h9 => by
    obtain ⟨fs, hfs⟩ := eR_c (zR z k k9)
    exact ⟨4, fs, RX3, TX3, 4, fr _ _ (by rw [← hfs]; exact hcw.row hk2 h9), rfl, by decide⟩
  refine m_callVi X (ci := 0) rfl k6 hK hw hZ hS hA (As := [.ref q9]) (rest := []) (c_add l G dce _ M5 (ad (10 + k)) q9 (yX y k) (zN z k) 4 4 RX3 TX3 _ mc (yO y k) k6 hrow2 hn9 hel2 k7 rfl (by decide) (by decide)) (cwV 1 hts gX5_addPlace_Jx4a65c_add_9ea2d rfl rfl rfl (by decide +kernel) ⟨Nat.le_of_ble_eq_true rfl, Nat.le_of_ble_eq_true rfl⟩) rfl hl.1 rfl (Nat.le_of_ble_eq_true rfl) dX5_addPlace_11 (Nat.le_of_ble_eq_true rfl) (Nat.le_of_ble_eq_true rfl) (fun r9 M8 H locs hp hw hS hz hk => ?_)
  refine lv_pop hx hb dX5_addPlace_14 rfl ?_
  obtain ⟨hr1, q, cap, g, eq3, a1, a2, a3, a4, a5⟩ := hp
  have hq9 : (q = yX y k ∧ 0 < zN z k) ∨ (M q = none ∧ q ≠ q9) := by
    rcases a5 with a5 | a5
    · exact Or.inl a5
    · have h8 : q ≠ q9 := fun r => by rw [r, k7] at a5; cases a5
      rw [eM5, mu_n h8, eM1, mu_n h8] at a5
      exact Or.inr ⟨a5, h8⟩
  obtain ⟨hcz, hsz⟩ := hcw.add (M1 := M8) (mc := mc + 1) (u := k) (cell := eR v0R) (by omega) hn9 nq9 hq9 (Or.inl ⟨by omega, rfl⟩) a1 a2 a3 a4 (by rw [eq3, eM5, eM1, mu_mu]; rfl)
  exact m_vret X hK hw hS ⟨_, hcz, hsz⟩ (by omega) (by omega) dX5_addPlace_15
def kM4 (k : Nat) (z : cZ) : cZ := zAdd (sL 2 k) (zAdd (sL 1 k) (zAdd (sL 0 k) (zAdd k z)))
def kMk (i k : Nat) (nm rf : Int32) (z : cZ) : cZ := sE (kM4 k z) (sL i k) (zN z k) (fMake (zE (kM4 k z) (sL i k) (zN z k)) nm rf)
set_option maxHeartbeats 4000000 in
set_option maxRecDepth 100000 in
theorem c_makeEntity (l : Launch) (G : gG) (dce sz : Nat) (M : gM) (x : Nat) (ad : Nat → Nat) (y : cY) (z : cZ) (hcw : CW G dce x ad M y z) (i k : Nat) (hi : i < 3) (hk2 : k < 2) (heq : cEq z) (nm rf : Int32) : mI l yX6_makeEntity wsX6_makeEntity ({ frames := 8, cells := 8, slots := 6172, locals := 202 }) G dce sz M [.ref x, .ref (ad (4 + i)), .int (nI k), .int nm, .int rf] (fun r M' => (zN z k < 512 ∧ r = nI (zN z k) ∧ cMk G dce x ad M y z M' (kMk i k nm rf z)) ∨ (512 ≤ zN z k ∧ r = -1 ∧ M' = M)) (8) (6172) := by
  have hx9 : M x = some (.inr (7, [.ref (ad 0), .ref (ad 1), .ref (ad 2), .ref (ad 3)])) := hcw.1.1
  refine wMet (Qc := QI G _) (cc := cX6_makeEntity) (maxL := 7) (ret := (some .int)) (by decide) rfl (Nat.le_of_ble_eq_true rfl) ?_
  intro p e s m below meth c A ls X hnm hw hK hZ hA hS hsz eA hl
  obtain ⟨hx, hb, hr, hts, hown, hlk, hml⟩ := id X
  have hl : lv_has ls 7 [(0, .ref x), (1, .ref (ad (4 + i))), (2, .int (nI k)), (3, .int nm), (4, .int rf)] := hl
  have iX6 : ∀ w ∈ wsX60, w ∈ wsX6_makeEntity := by decide +kernel
  refine lv_aload_n hx hb dX6_makeEntity_0 rfl (lv_at hl 0 rfl) ?_
  refine lv_iload_n hx hb dX6_makeEntity_1 rfl (lv_at hl 2 rfl) ?_
  refine m_callVr X (ci := 7) rfl hx9 hK hw hZ hS hA (As := [.int (nI k)]) (rest := []) (c_X6_tableOf l G dce _ M x (ad 0) (ad 1) (ad 2) (ad 3) hcw.1.1 (nI k)) (cwV 1 hts gX6_makeEntity_X6_tableOf rfl rfl rfl (by decide +kernel) ⟨Nat.le_of_ble_eq_true rfl, Nat.le_of_ble_eq_true rfl⟩) rfl hl.1 rfl (Nat.le_of_ble_eq_true rfl) dX6_makeEntity_2 (Nat.le_of_ble_eq_true rfl) (Nat.le_of_ble_eq_true rfl) (fun r2 M1 H locs hp hw hS hz hk => ?_)
  rw [hp.2] at hw
  rw [hp.1, (ta_if hk2)]
  have ht9 : M (ad k) = some (.inr (6, [.ref (ad (10 + k)), .ref (ad (20 + k))])) := (hcw.1.2.1 k hk2).1
  refine m_callVi X (ci := 6) rfl ht9 hK hw hZ hS hA (As := []) (rest := []) (c_size l G dce _ M x ad y z hcw k hk2) (cwV 0 hts gX6_makeEntity_X5_size rfl rfl rfl (by decide +kernel) ⟨Nat.le_of_ble_eq_true rfl, Nat.le_of_ble_eq_true rfl⟩) rfl hl.1 rfl (Nat.le_of_ble_eq_true rfl) dX6_makeEntity_5 (Nat.le_of_ble_eq_true rfl) (Nat.le_of_ble_eq_true rfl) (fun r4 M3 H locs hp hw hS hz hk => ?_)
  rw [hp.2] at hw
  rw [hp.1]
  refine lv_istore (lv' := [(5, .int (nI (zN z k))), (0, .ref x), (1, .ref (ad (4 + i))), (2, .int (nI k)), (3, .int nm), (4, .int rf)]) hx hb dX6_makeEntity_8 hl (by decide) rfl (fun ls hl => ?_)
  refine lv_iload hx hb dX6_makeEntity_10 (lv_at hl 0 rfl) ?_
  refine lv_sipush (v := 512) hx hb dX6_makeEntity_12 (by decide) ?_
  refine lv_icmp_lt (tgt := 20) hx hb dX6_makeEntity_15 (by decide) (fun c_15 => ?_) (fun c_15 => ?_)
  · refine lv_aload_n hx hb dX6_makeEntity_20 rfl (lv_at hl 1 rfl) ?_
    refine lv_iload_n hx hb dX6_makeEntity_21 rfl (lv_at hl 3 rfl) ?_
    have hn5 : zN z k < 512 := (nI_ltI (by have := hcw.n (u := k) (by omega); omega) (by decide)).mp c_15
    refine m_callVr X (ci := 7) rfl hx9 hK hw hZ hS hA (As := [.int (nI k)]) (rest := []) (c_X6_tableOf l G dce _ M x (ad 0) (ad 1) (ad 2) (ad 3) hcw.1.1 (nI k)) (cwV 1 hts gX6_makeEntity_X6_tableOf rfl rfl rfl (by decide +kernel) ⟨Nat.le_of_ble_eq_true rfl, Nat.le_of_ble_eq_true rfl⟩) rfl hl.1 rfl (Nat.le_of_ble_eq_true rfl) dX6_makeEntity_22 (Nat.le_of_ble_eq_true rfl) (Nat.le_of_ble_eq_true rfl) (fun r6 M5 H locs hp hw hS hz hk => ?_)
    rw [hp.2] at hw
    rw [hp.1, (ta_if hk2)]
    refine m_callVv X (ci := 6) rfl ht9 hK hw hZ hS hA (As := []) (rest := []) (c_addPlaceT l G dce _ M x ad y z hcw k hk2 (by omega)) (cwV 0 hts gX6_makeEntity_X5_addPlace rfl rfl rfl (by decide +kernel) ⟨Nat.le_of_ble_eq_true rfl, Nat.le_of_ble_eq_true rfl⟩) rfl hl.1 rfl (Nat.le_of_ble_eq_true rfl) dX6_makeEntity_25 (Nat.le_of_ble_eq_true rfl) (Nat.le_of_ble_eq_true rfl) (fun M7 H locs hp hw hS hz hk => ?_)
    obtain ⟨yT, hcT, hsT⟩ := hp
    have hxT : M7 x = some (.inr (7, [.ref (ad 0), .ref (ad 1), .ref (ad 2), .ref (ad 3)])) := hcT.1.1
    obtain ⟨fT, hsaT, hfT⟩ := hcT.1.2.2.1
    refine lv_iconst (v := 0) hx hb dX6_makeEntity_28 (by decide) ?_
    refine lv_istore (lv' := [(6, .int 0), (5, .int (nI (zN z k))), (0, .ref x), (1, .ref (ad (4 + i))), (2, .int (nI k)), (3, .int nm), (4, .int rf)]) hx hb dX6_makeEntity_29 hl (by decide) rfl (fun ls hl => ?_)
    refine lv_iload hx hb dX6_makeEntity_31 (lv_at hl 0 rfl) ?_
    refine lv_aload_n hx hb dX6_makeEntity_33 rfl (lv_at hl 2 rfl) ?_
    refine m_get X iX6 hK hw hxT rfl 3 (by decide) (ref := "ObjectMapper") (by decide +kernel) (Or.inl rfl) rfl dX6_makeEntity_34 ?_
    refine m_alen X hK hw hsaT 4 rfl dX6_makeEntity_37 ?_
    refine W.eq (g2 := F0 m 38 ls [.int 3, .int 0]) rfl ?_
    refine lv_icmp_ge (tgt := 58) hx hb dX6_makeEntity_38 (by decide) (fun c_38 => absurd c_38 (by decide)) (fun _ => ?_)
    refine lv_aload_n hx hb dX6_makeEntity_41 rfl (lv_at hl 2 rfl) ?_
    refine m_get X iX6 hK hw hxT rfl 3 (by decide) (ref := "ObjectMapper") (by decide +kernel) (Or.inl rfl) rfl dX6_makeEntity_42 ?_
    refine lv_iload hx hb dX6_makeEntity_45 (lv_at hl 0 rfl) ?_
    refine m_aald X hK hw 4 hsaT rfl (v := ad (4 + 0)) (i := 0) (hfT 0 (by omega)) (by unfold vp_in; decide) dX6_makeEntity_47 ?_
    have hso0 : M7 (ad (4 + 0)) = some (.inr (5, [.ref (ad (12 + 2 * 0)), .ref (ad (13 + 2 * 0)), .ref (ad (40 + 0))])) := (hcT.1.2.2.2 0 (by omega)).1
    refine lv_iload_n hx hb dX6_makeEntity_48 rfl (lv_at hl 4 rfl) ?_
    refine m_callVv X (ci := 5) rfl hso0 hK hw hZ hS hA (As := [.int (nI k)]) (rest := []) (c_addPlaceS l G dce _ M7 x ad yT (zAdd k z) hcT 0 k (by omega) hk2 (by rw [zAdd_Nn (by unfold sL; omega)]; rw [heq 0 k (by omega) hk2]; omega)) (cwV 1 hts gX6_makeEntity_X4_addPlace rfl rfl rfl (by decide +kernel) ⟨Nat.le_of_ble_eq_true rfl, Nat.le_of_ble_eq_true rfl⟩) rfl hl.1 rfl (Nat.le_of_ble_eq_true rfl) dX6_makeEntity_49 (Nat.le_of_ble_eq_true rfl) (Nat.le_of_ble_eq_true rfl) (fun M8 H locs hp hw hS hz hk => ?_)
    obtain ⟨y09, hc09, hs09⟩ := hp
    have hx09 : M8 x = some (.inr (7, [.ref (ad 0), .ref (ad 1), .ref (ad 2), .ref (ad 3)])) := hc09.1.1
    obtain ⟨f09, hsa09, hf09⟩ := hc09.1.2.2.1
    refine lv_iinc (v := 1) (lv' := [(6, .int 1), (5, .int (nI (zN z k))), (0, .ref x), (1, .ref (ad (4 + i))), (2, .int (nI k)), (3, .int nm), (4, .int rf)]) hx hb dX6_makeEntity_52 hl (k := 0) rfl (by decide) (by decide) rfl (fun ls hl => ?_)
    refine lv_goto (tgt := 31) hx hb dX6_makeEntity_55 (by decide) ?_
    refine lv_iload hx hb dX6_makeEntity_31 (lv_at hl 0 rfl) ?_
    refine lv_aload_n hx hb dX6_makeEntity_33 rfl (lv_at hl 2 rfl) ?_
    refine m_get X iX6 hK hw hx09 rfl 3 (by decide) (ref := "ObjectMapper") (by decide +kernel) (Or.inl rfl) rfl dX6_makeEntity_34 ?_
    refine m_alen X hK hw hsa09 4 rfl dX6_makeEntity_37 ?_
    refine W.eq (g2 := F0 m 38 ls [.int 3, .int 1]) rfl ?_
    refine lv_icmp_ge (tgt := 58) hx hb dX6_makeEntity_38 (by decide) (fun c_38 => absurd c_38 (by decide)) (fun _ => ?_)
    refine lv_aload_n hx hb dX6_makeEntity_41 rfl (lv_at hl 2 rfl) ?_
    refine m_get X iX6 hK hw hx09 rfl 3 (by decide) (ref := "ObjectMapper") (by decide +kernel) (Or.inl rfl) rfl dX6_makeEntity_42 ?_
    refine lv_iload hx hb dX6_makeEntity_45 (lv_at hl 0 rfl) ?_
    refine m_aald X hK hw 4 hsa09 rfl (v := ad (4 + 1)) (i := 1) (hf09 1 (by omega)) (by unfold vp_in; decide) dX6_makeEntity_47 ?_
    have hso1 : M8 (ad (4 + 1)) = some (.inr (5, [.ref (ad (12 + 2 * 1)), .ref (ad (13 + 2 * 1)), .ref (ad (40 + 1))])) := (hc09.1.2.2.2 1 (by omega)).1
    refine lv_iload_n hx hb dX6_makeEntity_48 rfl (lv_at hl 4 rfl) ?_
    refine m_callVv X (ci := 5) rfl hso1 hK hw hZ hS hA (As := [.int (nI k)]) (rest := []) (c_addPlaceS l G dce _ M8 x ad y09 (zAdd (sL 0 k) (zAdd k z)) hc09 1 k (by omega) hk2 (by rw [zAdd_Nn (by unfold sL; omega)]; rw [zAdd_Nn (by unfold sL; omega)]; rw [heq 1 k (by omega) hk2]; omega)) (cwV 1 hts gX6_makeEntity_X4_addPlace rfl rfl rfl (by decide +kernel) ⟨Nat.le_of_ble_eq_true rfl, Nat.le_of_ble_eq_true rfl⟩) rfl hl.1 rfl (Nat.le_of_ble_eq_true rfl) dX6_makeEntity_49 (Nat.le_of_ble_eq_true rfl) (Nat.le_of_ble_eq_true rfl) (fun M9 H locs hp hw hS hz hk => ?_)
    obtain ⟨y19, hc19, hs19⟩ := hp
    have hx19 : M9 x = some (.inr (7, [.ref (ad 0), .ref (ad 1), .ref (ad 2), .ref (ad 3)])) := hc19.1.1
    obtain ⟨f19, hsa19, hf19⟩ := hc19.1.2.2.1
    refine lv_iinc (v := 2) (lv' := [(6, .int 2), (5, .int (nI (zN z k))), (0, .ref x), (1, .ref (ad (4 + i))), (2, .int (nI k)), (3, .int nm), (4, .int rf)]) hx hb dX6_makeEntity_52 hl (k := 0) rfl (by decide) (by decide) rfl (fun ls hl => ?_)
    refine lv_goto (tgt := 31) hx hb dX6_makeEntity_55 (by decide) ?_
    refine lv_iload hx hb dX6_makeEntity_31 (lv_at hl 0 rfl) ?_
    refine lv_aload_n hx hb dX6_makeEntity_33 rfl (lv_at hl 2 rfl) ?_
    refine m_get X iX6 hK hw hx19 rfl 3 (by decide) (ref := "ObjectMapper") (by decide +kernel) (Or.inl rfl) rfl dX6_makeEntity_34 ?_
    refine m_alen X hK hw hsa19 4 rfl dX6_makeEntity_37 ?_
    refine W.eq (g2 := F0 m 38 ls [.int 3, .int 2]) rfl ?_
    refine lv_icmp_ge (tgt := 58) hx hb dX6_makeEntity_38 (by decide) (fun c_38 => absurd c_38 (by decide)) (fun _ => ?_)
    refine lv_aload_n hx hb dX6_makeEntity_41 rfl (lv_at hl 2 rfl) ?_
    refine m_get X iX6 hK hw hx19 rfl 3 (by decide) (ref := "ObjectMapper") (by decide +kernel) (Or.inl rfl) rfl dX6_makeEntity_42 ?_
    refine lv_iload hx hb dX6_makeEntity_45 (lv_at hl 0 rfl) ?_
    refine m_aald X hK hw 4 hsa19 rfl (v := ad (4 + 2)) (i := 2) (hf19 2 (by omega)) (by unfold vp_in; decide) dX6_makeEntity_47 ?_
    have hso2 : M9 (ad (4 + 2)) = some (.inr (5, [.ref (ad (12 + 2 * 2)), .ref (ad (13 + 2 * 2)), .ref (ad (40 + 2))])) := (hc19.1.2.2.2 2 (by omega)).1
    refine lv_iload_n hx hb dX6_makeEntity_48 rfl (lv_at hl 4 rfl) ?_
    refine m_callVv X (ci := 5) rfl hso2 hK hw hZ hS hA (As := [.int (nI k)]) (rest := []) (c_addPlaceS l G dce _ M9 x ad y19 (zAdd (sL 1 k) (zAdd (sL 0 k) (zAdd k z))) hc19 2 k (by omega) hk2 (by rw [zAdd_Nn (by unfold sL; omega)]; rw [zAdd_Nn (by unfold sL; omega)]; rw [zAdd_Nn (by unfold sL; omega)]; rw [heq 2 k (by omega) hk2]; omega)) (cwV 1 hts gX6_makeEntity_X4_addPlace rfl rfl rfl (by decide +kernel) ⟨Nat.le_of_ble_eq_true rfl, Nat.le_of_ble_eq_true rfl⟩) rfl hl.1 rfl (Nat.le_of_ble_eq_true rfl) dX6_makeEntity_49 (Nat.le_of_ble_eq_true rfl) (Nat.le_of_ble_eq_true rfl) (fun M10 H locs hp hw hS hz hk => ?_)
    obtain ⟨y29, hc29, hs29⟩ := hp
    have hx29 : M10 x = some (.inr (7, [.ref (ad 0), .ref (ad 1), .ref (ad 2), .ref (ad 3)])) := hc29.1.1
    obtain ⟨f29, hsa29, hf29⟩ := hc29.1.2.2.1
    refine lv_iinc (v := 3) (lv' := [(6, .int 3), (5, .int (nI (zN z k))), (0, .ref x), (1, .ref (ad (4 + i))), (2, .int (nI k)), (3, .int nm), (4, .int rf)]) hx hb dX6_makeEntity_52 hl (k := 0) rfl (by decide) (by decide) rfl (fun ls hl => ?_)
    refine lv_goto (tgt := 31) hx hb dX6_makeEntity_55 (by decide) ?_
    refine lv_iload hx hb dX6_makeEntity_31 (lv_at hl 0 rfl) ?_
    refine lv_aload_n hx hb dX6_makeEntity_33 rfl (lv_at hl 2 rfl) ?_
    refine m_get X iX6 hK hw hx29 rfl 3 (by decide) (ref := "ObjectMapper") (by decide +kernel) (Or.inl rfl) rfl dX6_makeEntity_34 ?_
    refine m_alen X hK hw hsa29 4 rfl dX6_makeEntity_37 ?_
    refine W.eq (g2 := F0 m 38 ls [.int 3, .int 3]) rfl ?_
    refine lv_icmp_ge (tgt := 58) hx hb dX6_makeEntity_38 (by decide) (fun _ => ?_) (fun c_38 => absurd (by decide) c_38)
    refine lv_aload_n hx hb dX6_makeEntity_58 rfl (lv_at hl 3 rfl) ?_
    refine lv_iload_n hx hb dX6_makeEntity_59 rfl (lv_at hl 4 rfl) ?_
    refine lv_iload hx hb dX6_makeEntity_60 (lv_at hl 1 rfl) ?_
    have hz4 : ∀ j, j < 3 → zN (kM4 k z) (sL j k) = zN z k + 1 := by
      intro j hj
      unfold kM4
      rcases (show j = 0 ∨ j = 1 ∨ j = 2 by omega) with rfl | rfl | rfl
      · rw [zAdd_Nn (by unfold sL; omega), zAdd_Nn (by unfold sL; omega), zAdd_Nu, zAdd_Nn (by unfold sL; omega), heq 0 k (by omega) hk2]
      · rw [zAdd_Nn (by unfold sL; omega), zAdd_Nu, zAdd_Nn (by unfold sL; omega), zAdd_Nn (by unfold sL; omega), heq 1 k (by omega) hk2]
      · rw [zAdd_Nu, zAdd_Nn (by unfold sL; omega), zAdd_Nn (by unfold sL; omega), zAdd_Nn (by unfold sL; omega), heq 2 k (by omega) hk2]
    have hc4 : CW G dce x ad M10 y29 (kM4 k z) := hc29
    have hs4 : cStep ad dce y z M y29 (kM4 k z) M10 := (((hsT.tr hs09).tr hs19).tr hs29)
    have hk4 : zN z k < zN (kM4 k z) (sL i k) := by rw [hz4 i hi]; omega
    have hso : M10 (ad (4 + i)) = some (.inr (5, [.ref (ad (12 + 2 * i)), .ref (ad (13 + 2 * i)), .ref (ad (40 + i))])) := (hc4.1.2.2.2 i hi).1
    refine m_callVr X (ci := 5) rfl hso hK hw hZ hS hA (As := [.int (nI k), .int (nI (zN z k))]) (rest := []) (c_entityAt l G dce _ M10 x ad y29 (kM4 k z) hc4 i k hi hk2 (nI (zN z k))) (cwV 2 hts gX6_makeEntity_X4_entityAt rfl rfl rfl (by decide +kernel) ⟨Nat.le_of_ble_eq_true rfl, Nat.le_of_ble_eq_true rfl⟩) rfl hl.1 rfl (Nat.le_of_ble_eq_true rfl) dX6_makeEntity_62 (Nat.le_of_ble_eq_true rfl) (Nat.le_of_ble_eq_true rfl) (fun r12 M11 H locs hp hw hS hz hk => ?_)
    rw [hp.2] at hw
    rw [hp.1, eA_in (hc4.n (by unfold sL; omega)) hk4]
    have hene : M10 ((yO y29 (sL i k) (zN z k))) = some (eE (zE (kM4 k z) (sL i k) (zN z k))) := hc4.ent (by unfold sL; omega) (by unfold sL; omega) hk4
    obtain ⟨b1e, b2e, b3e, nme, rfe, sne, sre, sve, heve⟩ : ∃ b1e b2e b3e nme rfe sne sre sve, (zE (kM4 k z) (sL i k) (zN z k)) = (b1e, b2e, b3e, nme, rfe, sne, sre, sve) := ⟨_, _, _, _, _, _, _, _, rfl⟩
    have hece : M10 ((yO y29 (sL i k) (zN z k))) = some (.inr (1, [.int (bI b1e), .int (bI b2e), .int (bI b3e), .int nme, .int rfe, .int sne, .int sre, .int sve])) := by rw [hene, heve]; rfl
    refine lv_iload_n hx hb dX6_makeEntity_65 rfl (lv_at hl 5 rfl) ?_
    refine lv_iload hx hb dX6_makeEntity_66 (lv_at hl 6 rfl) ?_
    refine m_callVv X (ci := 1) rfl hece hK hw hZ hS hA (As := [.int nm, .int rf]) (rest := []) (c_X0_make l G dce _ M10 (yO y29 (sL i k) (zN z k)) (zE (kM4 k z) (sL i k) (zN z k)) hene nm rf) (cwV 2 hts gX6_makeEntity_X0_make rfl rfl rfl (by decide +kernel) ⟨Nat.le_of_ble_eq_true rfl, Nat.le_of_ble_eq_true rfl⟩) rfl hl.1 rfl (Nat.le_of_ble_eq_true rfl) dX6_makeEntity_68 (Nat.le_of_ble_eq_true rfl) (Nat.le_of_ble_eq_true rfl) (fun M13 H locs hp hw hS hz hk => ?_)
    obtain ⟨hc5, hs5⟩ := hc4.setE (u := sL i k) (k := zN z k) (by unfold sL; omega) (by unfold sL; omega) hk4 hp
    refine lv_iload hx hb dX6_makeEntity_71 (lv_at hl 1 rfl) ?_
    exact m_iret X hK hw hS (Or.inl ⟨hn5, rfl, _, hc5, hs4.tr hs5⟩) (by omega) (by omega) dX6_makeEntity_73
  · refine lv_iconst (v := (-1)) hx hb dX6_makeEntity_18 (by decide) ?_
    exact m_iret X hK hw hS (Or.inr ⟨Nat.le_of_not_lt (fun q => c_15 (nI_lt (a := zN z k) (b := 512) q (by decide))), rfl, rfl⟩) (by omega) (by omega) dX6_makeEntity_19
theorem c_makeEntityK (l : Launch) (G : gG) (dce sz : Nat) (M : gM) (x : Nat) (ad : Nat → Nat) (y : cY) (z : cZ) (hcw : CW G dce x ad M y z) (i k : Nat) (hi : i < 3) (hk2 : k < 2) (heq : cEq z) (nm rf : Int32) (kd : Int32) (hkd : kd = nI k) : mI l yX6_makeEntity wsX6_makeEntity ({ frames := 8, cells := 8, slots := 6172, locals := 202 }) G dce sz M [.ref x, .ref (ad (4 + i)), .int kd, .int nm, .int rf] (fun r M' => (zN z k < 512 ∧ r = nI (zN z k) ∧ cMk G dce x ad M y z M' (kMk i k nm rf z)) ∨ (512 ≤ zN z k ∧ r = -1 ∧ M' = M)) (8) (6172) := by
  subst hkd
  exact c_makeEntity l G dce sz M x ad y z hcw i k hi hk2 heq nm rf
set_option maxHeartbeats 4000000 in
set_option maxRecDepth 100000 in
theorem c_makeAuthor (l : Launch) (G : gG) (dce sz : Nat) (M : gM) (hlt : l.stackTraces = false) (x : Nat) (ad : Nat → Nat) (y : cY) (z : cZ) (hcw : CW G dce x ad M y z) (heq : cEq z) (si nm : Int32) : xI l yX6_makeAuthor wsX6_makeAuthor ({ frames := 9, cells := 10, slots := 6184, locals := 228 }) G dce sz M [.ref x, .int si, .int nm] (fun r M' => ∃ i, aS si i ∧ nOK nm = true ∧ ((zN z 0 < 512 ∧ r = nI (zN z 0) ∧ cMk G dce x ad M y z M' (kMk i 0 nm (-1) z)) ∨ (512 ≤ zN z 0 ∧ r = -1 ∧ M' = M))) (fun E M' => ((E = xIOB ∧ sOK si = false) ∨ (E = xIAE ∧ sOK si = true ∧ nOK nm = false)) ∧ M' = M) (10) (6184) := by
  obtain ⟨f, hsa, hf⟩ := hcw.1.2.2.1
  have hx9 : M x = some (.inr (7, [.ref (ad 0), .ref (ad 1), .ref (ad 2), .ref (ad 3)])) := hcw.1.1
  refine xMet (Qc := QI G _) (XC := QX G _) (cc := cX6_makeAuthor) (maxL := 4) (ret := (some .int)) (by decide) rfl (Nat.le_of_ble_eq_true rfl) ?_
  intro p e s m below meth c A ls X hno hnm hw hK hZ hA hS hsz eA hl
  obtain ⟨hx, hb, hr, hts, hown, hlk, hml⟩ := id X
  have hl : lv_has ls 4 [(0, .ref x), (1, .int si), (2, .int nm)] := hl
  refine lv_aload_n hx hb dX6_makeAuthor_0 rfl (lv_at hl 0 rfl) ?_
  refine lv_iload_n hx hb dX6_makeAuthor_1 rfl (lv_at hl 1 rfl) ?_
  refine x_callVr X (ci := 7) rfl hx9 hK hw hZ hS hA (As := [.int si]) (rest := []) (c_X6_sessionAt l G dce _ M hlt x (ad 0) (ad 1) (ad 2) (ad 3) hcw.1.1 f (fun i => ad (4 + i)) hsa hf si) (cwV 1 hts gX6_makeAuthor_X6_sessionAt rfl rfl rfl (by decide +kernel) ⟨Nat.le_of_ble_eq_true rfl, Nat.le_of_ble_eq_true rfl⟩) rfl hl.1 rfl (Nat.le_of_ble_eq_true rfl) dX6_makeAuthor_2 (Nat.le_of_ble_eq_true rfl) (Nat.le_of_ble_eq_true rfl) (fun E ce q9 M1 H locs hp hw hS hz hk hce hcv hcl9 => ?_) (fun r2 M1 H locs hp hw hS hz hk => ?_)
  · exact m_out X hno hK hw hS hce hcv hcl9 (by omega) (by omega) (⟨Or.inl ⟨hp.1, hp.2.1⟩, hp.2.2⟩)
  obtain ⟨⟨i, hi, ei, er⟩, hso, eM⟩ := hp
  have er : r2 = ad (4 + i) := er
  rw [er]
  rw [eM] at hw
  have hs9 : M (ad (4 + i)) = some (.inr (5, [.ref (ad (12 + 2 * i)), .ref (ad (13 + 2 * i)), .ref (ad (40 + i))])) := (hcw.1.2.2.2 i hi).1
  refine lv_astore_n (lv' := [(3, .ref (ad (4 + i))), (0, .ref x), (1, .int si), (2, .int nm)]) hx hb dX6_makeAuthor_5 rfl hl (by decide) rfl (fun ls hl => ?_)
  refine lv_iload_n hx hb dX6_makeAuthor_6 rfl (lv_at hl 3 rfl) ?_
  refine x_callSv X hK hw hZ hS hA (As := [.int nm]) (rest := []) (c_X6_checkRangeOfName l G dce _ M hlt nm) (va_cwS 1 hts gX6_makeAuthor_X6_checkRangeOfName rfl rfl rfl (by decide +kernel) ⟨Nat.le_of_ble_eq_true rfl, Nat.le_of_ble_eq_true rfl⟩) rfl hl.1 rfl (Nat.le_of_ble_eq_true rfl) dX6_makeAuthor_7 (Nat.le_of_ble_eq_true rfl) (Nat.le_of_ble_eq_true rfl) (fun E ce q9 M3 H locs hp hw hS hz hk hce hcv hcl9 => ?_) (fun M3 H locs hp hw hS hz hk => ?_)
  · exact m_out X hno hK hw hS hce hcv hcl9 (by omega) (by omega) (⟨Or.inr ⟨hp.1, hso, hp.2.1⟩, hp.2.2⟩)
  have hno1 := hp.1
  rw [hp.2] at hw
  refine lv_aload_n hx hb dX6_makeAuthor_10 rfl (lv_at hl 1 rfl) ?_
  refine lv_aload_n hx hb dX6_makeAuthor_11 rfl (lv_at hl 0 rfl) ?_
  refine lv_iconst (v := 0) hx hb dX6_makeAuthor_12 (by decide) ?_
  refine lv_iload_n hx hb dX6_makeAuthor_13 rfl (lv_at hl 3 rfl) ?_
  refine lv_iconst (v := (-1)) hx hb dX6_makeAuthor_14 (by decide) ?_
  refine m_callVi X (ci := 7) rfl hx9 hK hw hZ hS hA (As := [.ref (ad (4 + i)), .int 0, .int nm, .int (-1)]) (rest := []) (c_makeEntityK l G dce _ M x ad y z hcw i 0 hi (by decide) heq nm (-1) 0 (by decide)) (cwV 4 hts gX6_makeAuthor_X6_makeEntity rfl rfl rfl (by decide +kernel) ⟨Nat.le_of_ble_eq_true rfl, Nat.le_of_ble_eq_true rfl⟩) rfl hl.1 rfl (Nat.le_of_ble_eq_true rfl) dX6_makeAuthor_15 (Nat.le_of_ble_eq_true rfl) (Nat.le_of_ble_eq_true rfl) (fun r5 M4 H locs hp hw hS hz hk => ?_)
  have hmk := hp
  refine vx_ret ?_
  exact m_iret X hK hw hS (by exact ⟨i, ⟨hi, ei⟩, hno1, hmk⟩) (by omega) (by omega) dX6_makeAuthor_18
set_option maxHeartbeats 4000000 in
set_option maxRecDepth 100000 in
theorem c_makeBook (l : Launch) (G : gG) (dce sz : Nat) (M : gM) (hlt : l.stackTraces = false) (x : Nat) (ad : Nat → Nat) (y : cY) (z : cZ) (hcw : CW G dce x ad M y z) (heq : cEq z) (si nm au : Int32) : xI l yX6_makeBook wsX6_makeBook ({ frames := 9, cells := 11, slots := 6190, locals := 228 }) G dce sz M [.ref x, .int si, .int nm, .int au] (fun r M' => ∃ i, aS si i ∧ nOK nm = true ∧ fLive (eV z i 0 au) = true ∧ ((zN z 1 < 512 ∧ r = nI (zN z 1) ∧ cMk G dce x ad M y z M' (kMk i 1 nm au z)) ∨ (512 ≤ zN z 1 ∧ r = -1 ∧ M' = M))) (fun E M' => ((E = xIOB ∧ sOK si = false) ∨ (E = xIAE ∧ sOK si = true ∧ nOK nm = false) ∨ (E = xISE ∧ nOK nm = true ∧ ∃ i, aS si i ∧ fLive (eV z i 0 au) = false)) ∧ M' = M) (11) (6190) := by
  obtain ⟨f, hsa, hf⟩ := hcw.1.2.2.1
  have hx9 : M x = some (.inr (7, [.ref (ad 0), .ref (ad 1), .ref (ad 2), .ref (ad 3)])) := hcw.1.1
  refine xMet (Qc := QI G _) (XC := QX G _) (cc := cX6_makeBook) (maxL := 5) (ret := (some .int)) (by decide) rfl (Nat.le_of_ble_eq_true rfl) ?_
  intro p e s m below meth c A ls X hno hnm hw hK hZ hA hS hsz eA hl
  obtain ⟨hx, hb, hr, hts, hown, hlk, hml⟩ := id X
  have hl : lv_has ls 5 [(0, .ref x), (1, .int si), (2, .int nm), (3, .int au)] := hl
  refine lv_aload_n hx hb dX6_makeBook_0 rfl (lv_at hl 0 rfl) ?_
  refine lv_iload_n hx hb dX6_makeBook_1 rfl (lv_at hl 1 rfl) ?_
  refine x_callVr X (ci := 7) rfl hx9 hK hw hZ hS hA (As := [.int si]) (rest := []) (c_X6_sessionAt l G dce _ M hlt x (ad 0) (ad 1) (ad 2) (ad 3) hcw.1.1 f (fun i => ad (4 + i)) hsa hf si) (cwV 1 hts gX6_makeBook_X6_sessionAt rfl rfl rfl (by decide +kernel) ⟨Nat.le_of_ble_eq_true rfl, Nat.le_of_ble_eq_true rfl⟩) rfl hl.1 rfl (Nat.le_of_ble_eq_true rfl) dX6_makeBook_2 (Nat.le_of_ble_eq_true rfl) (Nat.le_of_ble_eq_true rfl) (fun E ce q9 M1 H locs hp hw hS hz hk hce hcv hcl9 => ?_) (fun r2 M1 H locs hp hw hS hz hk => ?_)
  · exact m_out X hno hK hw hS hce hcv hcl9 (by omega) (by omega) (⟨Or.inl ⟨hp.1, hp.2.1⟩, hp.2.2⟩)
  obtain ⟨⟨i, hi, ei, er⟩, hso, eM⟩ := hp
  have er : r2 = ad (4 + i) := er
  rw [er]
  rw [eM] at hw
  have hs9 : M (ad (4 + i)) = some (.inr (5, [.ref (ad (12 + 2 * i)), .ref (ad (13 + 2 * i)), .ref (ad (40 + i))])) := (hcw.1.2.2.2 i hi).1
  refine lv_astore (lv' := [(4, .ref (ad (4 + i))), (0, .ref x), (1, .int si), (2, .int nm), (3, .int au)]) hx hb dX6_makeBook_5 hl (by decide) rfl (fun ls hl => ?_)
  refine lv_iload_n hx hb dX6_makeBook_7 rfl (lv_at hl 3 rfl) ?_
  refine x_callSv X hK hw hZ hS hA (As := [.int nm]) (rest := []) (c_X6_checkRangeOfName l G dce _ M hlt nm) (va_cwS 1 hts gX6_makeBook_X6_checkRangeOfName rfl rfl rfl (by decide +kernel) ⟨Nat.le_of_ble_eq_true rfl, Nat.le_of_ble_eq_true rfl⟩) rfl hl.1 rfl (Nat.le_of_ble_eq_true rfl) dX6_makeBook_8 (Nat.le_of_ble_eq_true rfl) (Nat.le_of_ble_eq_true rfl) (fun E ce q9 M3 H locs hp hw hS hz hk hce hcv hcl9 => ?_) (fun M3 H locs hp hw hS hz hk => ?_)
  · exact m_out X hno hK hw hS hce hcv hcl9 (by omega) (by omega) (⟨Or.inr (Or.inl ⟨hp.1, hso, hp.2.1⟩), hp.2.2⟩)
  have hno1 := hp.1
  rw [hp.2] at hw
  refine lv_aload hx hb dX6_makeBook_11 (lv_at hl 0 rfl) ?_
  refine lv_iconst (v := 0) hx hb dX6_makeBook_13 (by decide) ?_
  refine lv_iload_n hx hb dX6_makeBook_14 rfl (lv_at hl 4 rfl) ?_
  refine x_callSv X hK hw hZ hS hA (As := [.ref (ad (4 + i)), .int 0, .int au]) (rest := []) (c_checkLiveK l G dce _ M hlt x ad y z hcw i 0 hi (by omega) au 0 (by decide)) (va_cwS 3 hts gX6_makeBook_X6_checkLive rfl rfl rfl (by decide +kernel) ⟨Nat.le_of_ble_eq_true rfl, Nat.le_of_ble_eq_true rfl⟩) rfl hl.1 rfl (Nat.le_of_ble_eq_true rfl) dX6_makeBook_15 (Nat.le_of_ble_eq_true rfl) (Nat.le_of_ble_eq_true rfl) (fun E ce q9 M4 H locs hp hw hS hz hk hce hcv hcl9 => ?_) (fun M4 H locs hp hw hS hz hk => ?_)
  · exact m_out X hno hK hw hS hce hcv hcl9 (by omega) (by omega) (⟨Or.inr (Or.inr ⟨hp.1, hno1, i, ⟨hi, ei⟩, hp.2.1⟩), hp.2.2⟩)
  have hlv := hp.1
  rw [hp.2] at hw
  refine lv_aload_n hx hb dX6_makeBook_18 rfl (lv_at hl 1 rfl) ?_
  refine lv_aload hx hb dX6_makeBook_19 (lv_at hl 0 rfl) ?_
  refine lv_iconst (v := 1) hx hb dX6_makeBook_21 (by decide) ?_
  refine lv_iload_n hx hb dX6_makeBook_22 rfl (lv_at hl 3 rfl) ?_
  refine lv_iload_n hx hb dX6_makeBook_23 rfl (lv_at hl 4 rfl) ?_
  refine m_callVi X (ci := 7) rfl hx9 hK hw hZ hS hA (As := [.ref (ad (4 + i)), .int 1, .int nm, .int au]) (rest := []) (c_makeEntityK l G dce _ M x ad y z hcw i 1 hi (by decide) heq nm au 1 (by decide)) (cwV 4 hts gX6_makeBook_X6_makeEntity rfl rfl rfl (by decide +kernel) ⟨Nat.le_of_ble_eq_true rfl, Nat.le_of_ble_eq_true rfl⟩) rfl hl.1 rfl (Nat.le_of_ble_eq_true rfl) dX6_makeBook_24 (Nat.le_of_ble_eq_true rfl) (Nat.le_of_ble_eq_true rfl) (fun r6 M5 H locs hp hw hS hz hk => ?_)
  have hmk := hp
  refine vx_ret ?_
  exact m_iret X hK hw hS (by exact ⟨i, ⟨hi, ei⟩, hno1, hlv, hmk⟩) (by omega) (by omega) dX6_makeBook_27
