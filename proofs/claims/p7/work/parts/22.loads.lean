theorem c_sizeOfK (l : Launch) (G : gG) (dce sz : Nat) (M : gM) (x : Nat) (ad : Nat → Nat) (y : cY) (z : cZ) (hcw : CW G dce x ad M y z) (i k : Nat) (hi : i < 3) (hk2 : k < 2) (kd : Int32) (hkd : kd = nI k) : mI l yX4_sizeOf wsX4_sizeOf ({ frames := 1, cells := 0, slots := 0, locals := 21 }) G dce sz M [.ref (ad (4 + i)), .int kd] (fun r M' => r = nI (zN z (sL i k)) ∧ M' = M) (0) (0) := by
  subst hkd
  exact c_sizeOf l G dce sz M x ad y z hcw i k hi hk2
theorem c_entityAtK (l : Launch) (G : gG) (dce sz : Nat) (M : gM) (x : Nat) (ad : Nat → Nat) (y : cY) (z : cZ) (hcw : CW G dce x ad M y z) (i k : Nat) (hi : i < 3) (hk2 : k < 2) (ky : Int32) (kd : Int32) (hkd : kd = nI k) : mR l yX4_entityAt wsX4_entityAt ({ frames := 3, cells := 0, slots := 0, locals := 64 }) G dce sz M [.ref (ad (4 + i)), .int kd, .int ky] (fun r M' => r = enA ad (yO y) (zN z) i k ky ∧ M' = M) (0) (0) := by
  subst hkd
  exact c_entityAt l G dce sz M x ad y z hcw i k hi hk2 ky
theorem c_countLiveK (l : Launch) (G : gG) (dce sz : Nat) (M : gM) (x : Nat) (ad : Nat → Nat) (y : cY) (z : cZ) (hcw : CW G dce x ad M y z) (i k : Nat) (hi : i < 3) (hk2 : k < 2) (kd : Int32) (hkd : kd = nI k) : mI l yX4_countLive wsX4_countLive ({ frames := 4, cells := 0, slots := 0, locals := 87 }) G dce sz M [.ref (ad (4 + i)), .int kd] (fun r M' => r = nI (cnt (fun j => fLive (zE z (sL i k) j)) (zN z (sL i k))) ∧ M' = M) (0) (0) := by
  subst hkd
  exact c_countLive l G dce sz M x ad y z hcw i k hi hk2
theorem c_countDirtyK (l : Launch) (G : gG) (dce sz : Nat) (M : gM) (x : Nat) (ad : Nat → Nat) (y : cY) (z : cZ) (hcw : CW G dce x ad M y z) (i k : Nat) (hi : i < 3) (hk2 : k < 2) (kd : Int32) (hkd : kd = nI k) : mI l yX4_countLiveAndDirty wsX4_countLiveAndDirty ({ frames := 4, cells := 0, slots := 0, locals := 87 }) G dce sz M [.ref (ad (4 + i)), .int kd] (fun r M' => r = nI (cnt (fun j => (fLive (zE z (sL i k) j) && fChg (zE z (sL i k) j))) (zN z (sL i k))) ∧ M' = M) (0) (0) := by
  subst hkd
  exact c_countDirty l G dce sz M x ad y z hcw i k hi hk2
theorem ta_ifK {ad : Nat → Nat} {k : Nat} {kd : Int32} (hk : k < 2) (h : kd = nI k) : (if kd = 0 then ad 0 else ad 1) = ad k := by rw [h]; exact ta_if hk
def cEq (z : cZ) : Prop := ∀ i k, i < 3 → k < 2 → zN z (sL i k) = zN z k
def fClr : vE → vE := fun (b1, b2, b3, nm, _, sn, sr, sv) => (b1, b2, b3, nm, -1, sn, sr, sv)
def kFg (i k j : Nat) (z : cZ) : cZ := sE z (sL i k) j (fForget (zE z (sL i k) j))
def kLd (i k : Nat) (t : Int32) (j : Nat) (z : cZ) : cZ := if ((zR z k j).1 && decide ((zR z k j).2.2.1 = t) && !(zE z (sL i k) j).1) = true then sE z (sL i k) j (fLoad (zE z (sL i k) j) (zR z k j)) else z
def kCl (i : Nat) (t : Int32) (j : Nat) (z : cZ) : cZ := if fRefs (zE z (sL i 0) j) t = true then sE z (sL i 0) j (fClr (zE z (sL i 0) j)) else z
theorem kFg_N (i k j : Nat) (z : cZ) : zN (kFg i k j z) = zN z := rfl
theorem kLd_N (i k : Nat) (t : Int32) (j : Nat) (z : cZ) : zN (kLd i k t j z) = zN z := by unfold kLd; split <;> rfl
theorem kCl_N (i : Nat) (t : Int32) (j : Nat) (z : cZ) : zN (kCl i t j z) = zN z := by unfold kCl; split <;> rfl
/-- the book of a key goes; what refers to it is loaded and cleared -/
def kSt (i k b : Nat) (z : cZ) : cZ := sE z (sL i k) b (fStrike (zE z (sL i k) b))
def kRmB (i b : Nat) (z : cZ) : cZ := itr (kCl i (nI b)) (zN z (sL i 0)) (itr (kLd i 0 (nI b)) (zN z 0) (kSt i 1 b z))
theorem kRmB_N (i b : Nat) (z : cZ) : zN (kRmB i b z) = zN z := (itr_N (kCl_N i (nI b)) _ _).trans (itr_N (kLd_N i 0 (nI b)) _ _)
def kRb (i : Nat) (t : Int32) (j : Nat) (z : cZ) : cZ := if fRefs (zE z (sL i 1) j) t = true then kRmB i j z else z
theorem kRb_N (i : Nat) (t : Int32) (j : Nat) (z : cZ) : zN (kRb i t j z) = zN z := by
  unfold kRb
  split
  · exact kRmB_N i j z
  · rfl
def kRm0 (i a : Nat) (z : cZ) : cZ := itr (kLd i 1 (nI a)) (zN z 1) (kSt i 0 a z)
def kRmA (i a : Nat) (z : cZ) : cZ := itr (kRb i (nI a)) (zN z (sL i 1)) (kRm0 i a z)
set_option maxHeartbeats 4000000 in
set_option maxRecDepth 100000 in
theorem c_forgetAll (l : Launch) (G : gG) (dce sz : Nat) (M : gM) (x : Nat) (ad : Nat → Nat) (y : cY) (z : cZ) (hcw : CW G dce x ad M y z) (i k : Nat) (hi : i < 3) (hk2 : k < 2) : mV l yX4_forgetAll wsX4_forgetAll ({ frames := 4, cells := 0, slots := 0, locals := 87 }) G dce sz M [.ref (ad (4 + i)), .int (nI k)] (fun M' => cTo G dce x ad M y z M' (itr (kFg i k) (zN z (sL i k)) z)) (0) (0) := by
  refine wMet (Qc := QV G _) (cc := cX4_forgetAll) (maxL := 3) (ret := none) (by decide) rfl (Nat.le_of_ble_eq_true rfl) ?_
  intro p e s m below meth c A ls X hnm hw hK hZ hA hS hsz eA hl
  obtain ⟨hx, hb, hr, hts, hown, hlk, hml⟩ := id X
  have hl : lv_has ls 3 [(0, .ref (ad (4 + i))), (1, .int (nI k))] := hl
  refine lv_iconst (v := 0) hx hb dX4_forgetAll_0 (by decide) ?_
  refine lv_istore_n (lv' := [(2, .int 0), (0, .ref (ad (4 + i))), (1, .int (nI k))]) hx hb dX4_forgetAll_1 rfl hl (by decide) rfl (fun ls hl => ?_)
  have loop : ∀ (d : Nat) (j : Nat) (z1 : cZ) (Mi : gM)  (H : Heap) (locs : List Loc) (ls : Array Slot), j ≤ (zN z (sL i k)) → (zN z (sL i k)) + 1 ≤ j + d → z1 = itr (kFg i k) j z → cTo G dce x ad M y z Mi z1 → wd G A Mi H → va_S A s.heap H locs → lv_has ls 3 [(2, .int (nI j)), (0, .ref (ad (4 + i))), (1, .int (nI k))] → W p l e ({ frames := 4, cells := 0, slots := 0, locals := 87 }) s m [.ref (ad (4 + i)), .int (nI k)].toArray below meth c H locs (0) (0) (MQ below (QV G (fun M' => cTo G dce x ad M y z M' (itr (kFg i k) (zN z (sL i k)) z)) A) [.ref (ad (4 + i)), .int (nI k)].toArray s (0) (0) A) (F0 m 2 ls []) := by
    intro d
    induction d with
    | zero => intro j z1 Mi H locs ls h1 h2; exact absurd h2 (by omega)
    | succ d ih =>
      intro j z1 Mi H locs ls hj1 hj2 hz1 hto hw hS hl
      obtain ⟨y1, ho, hc1, hs1⟩ := hto
      have hn1 : zN z1 = zN z := by rw [hz1]; exact itr_N (kFg_N i k) j z
      have hjn : zN z (sL i k) ≤ 1024 := hcw.n (by unfold sL; omega)
      have hs9 : Mi (ad (4 + i)) = some (.inr (5, [.ref (ad (12 + 2 * i)), .ref (ad (13 + 2 * i)), .ref (ad (40 + i))])) := (hc1.1.2.2.2 i hi).1
      refine lv_iload_n hx hb dX4_forgetAll_2 rfl (lv_at hl 0 rfl) ?_
      refine lv_aload_n hx hb dX4_forgetAll_3 rfl (lv_at hl 1 rfl) ?_
      refine lv_iload_n hx hb dX4_forgetAll_4 rfl (lv_at hl 2 rfl) ?_
      refine m_callVi X (ci := 5) rfl hs9 hK hw hZ hS hA (As := [.int (nI k)]) (rest := [.int (nI j)]) (c_sizeOf l G dce _ Mi x ad y1 z1 hc1 i k hi hk2) (cwV 1 hts gX4_forgetAll_X4_sizeOf rfl rfl rfl (by decide +kernel) ⟨Nat.le_of_ble_eq_true rfl, Nat.le_of_ble_eq_true rfl⟩) rfl hl.1 rfl (Nat.le_of_ble_eq_true rfl) dX4_forgetAll_5 (Nat.le_of_ble_eq_true rfl) (Nat.le_of_ble_eq_true rfl) (fun r2 M1 H locs hp hw hS hz hk => ?_)
      rw [hp.2] at hw
      rw [hp.1, hn1]
      refine lv_icmp_ge (tgt := 26) hx hb dX4_forgetAll_8 (by decide) (fun c_8 => ?_) (fun c_8 => ?_)
      · have hkn : (zN z (sL i k)) ≤ j := (nI_leI (by omega) (by omega)).mp c_8
        have hjj : j = (zN z (sL i k)) := by omega
        rw [hjj] at hz1
        exact m_vret X hK hw hS (by rw [← hz1]; exact ⟨y1, ho, hc1, hs1⟩) (by omega) (by omega) dX4_forgetAll_26
      · have hkl : j < (zN z (sL i k)) := Nat.lt_of_not_le (fun q => c_8 (nI_le q (by omega)))
        refine lv_aload_n hx hb dX4_forgetAll_11 rfl (lv_at hl 1 rfl) ?_
        refine lv_iload_n hx hb dX4_forgetAll_12 rfl (lv_at hl 2 rfl) ?_
        refine lv_iload_n hx hb dX4_forgetAll_13 rfl (lv_at hl 0 rfl) ?_
        refine m_callVr X (ci := 5) rfl hs9 hK hw hZ hS hA (As := [.int (nI k), .int (nI j)]) (rest := []) (c_entityAt l G dce _ Mi x ad y1 z1 hc1 i k hi hk2 (nI j)) (cwV 2 hts gX4_forgetAll_X4_entityAt rfl rfl rfl (by decide +kernel) ⟨Nat.le_of_ble_eq_true rfl, Nat.le_of_ble_eq_true rfl⟩) rfl hl.1 rfl (Nat.le_of_ble_eq_true rfl) dX4_forgetAll_14 (Nat.le_of_ble_eq_true rfl) (Nat.le_of_ble_eq_true rfl) (fun r4 M3 H locs hp hw hS hz hk => ?_)
        rw [hp.2] at hw
        rw [hp.1, eA_in (by rw [hn1]; exact hjn) (by rw [hn1]; exact hkl)]
        have hen : Mi ((yO y1 (sL i k) j)) = some (eE (zE z1 (sL i k) j)) := hc1.ent (by unfold sL; omega) (by unfold sL; omega) (by rw [hn1]; exact hkl)
        obtain ⟨b1, b2, b3, nm, rf, sn, sr, sv, hev⟩ : ∃ b1 b2 b3 nm rf sn sr sv, (zE z1 (sL i k) j) = (b1, b2, b3, nm, rf, sn, sr, sv) := ⟨_, _, _, _, _, _, _, _, rfl⟩
        have hec : Mi ((yO y1 (sL i k) j)) = some (.inr (1, [.int (bI b1), .int (bI b2), .int (bI b3), .int nm, .int rf, .int sn, .int sr, .int sv])) := by rw [hen, hev]; rfl
        refine m_callVv X (ci := 1) rfl hec hK hw hZ hS hA (As := []) (rest := []) (c_X0_forget l G dce _ Mi (yO y1 (sL i k) j) (zE z1 (sL i k) j) hen) (cwV 0 hts gX4_forgetAll_X0_forget rfl rfl rfl (by decide +kernel) ⟨Nat.le_of_ble_eq_true rfl, Nat.le_of_ble_eq_true rfl⟩) rfl hl.1 rfl (Nat.le_of_ble_eq_true rfl) dX4_forgetAll_17 (Nat.le_of_ble_eq_true rfl) (Nat.le_of_ble_eq_true rfl) (fun M5 H locs hp hw hS hz hk => ?_)
        obtain ⟨hc2, hs2⟩ := hc1.setE (u := sL i k) (k := j) (by unfold sL; omega) (by unfold sL; omega) (by rw [hn1]; exact hkl) hp
        refine lv_iinc (v := (nI (j + 1))) (lv' := [(2, .int (nI (j + 1))), (0, .ref (ad (4 + i))), (1, .int (nI k))]) hx hb dX4_forgetAll_20 hl (k := 0) rfl (nI_1 _) (by decide) rfl (fun ls hl => ?_)
        refine lv_goto (tgt := 2) hx hb dX4_forgetAll_23 (by decide) ?_
        have hz2 : (kFg i k j z1) = itr (kFg i k) (j + 1) z := by
          show _ = (kFg i k) j (itr (kFg i k) j z)
          rw [← hz1]
        exact ih (j + 1) (kFg i k j z1) M5 H locs ls (by omega) (by omega) hz2 (cTo.tr ho hs1 ⟨y1, rfl, hc2, hs2⟩) hw hS (lv_sub hl [0, 1, 2] rfl)
  exact loop ((zN z (sL i k)) + 1) 0 z M _ _ ls (Nat.zero_le _) (by omega) rfl (cTo.rf hcw) hw hS (lv_sub hl [0, 1, 2] rfl)
theorem c_forgetAllK (l : Launch) (G : gG) (dce sz : Nat) (M : gM) (x : Nat) (ad : Nat → Nat) (y : cY) (z : cZ) (hcw : CW G dce x ad M y z) (i k : Nat) (hi : i < 3) (hk2 : k < 2) (kd : Int32) (hkd : kd = nI k) : mV l yX4_forgetAll wsX4_forgetAll ({ frames := 4, cells := 0, slots := 0, locals := 87 }) G dce sz M [.ref (ad (4 + i)), .int kd] (fun M' => cTo G dce x ad M y z M' (itr (kFg i k) (zN z (sL i k)) z)) (0) (0) := by
  subst hkd
  exact c_forgetAll l G dce sz M x ad y z hcw i k hi hk2
set_option maxHeartbeats 4000000 in
set_option maxRecDepth 100000 in
theorem c_loadReferring (l : Launch) (G : gG) (dce sz : Nat) (M : gM) (x : Nat) (ad : Nat → Nat) (y : cY) (z : cZ) (hcw : CW G dce x ad M y z) (i k : Nat) (hi : i < 3) (hk2 : k < 2) (t : Int32) (hq : zN z (sL i k) = zN z k) : mV l yX6_loadReferring wsX6_loadReferring ({ frames := 4, cells := 0, slots := 0, locals := 87 }) G dce sz M [.ref x, .ref (ad (4 + i)), .int (nI k), .int t] (fun M' => cTo G dce x ad M y z M' (itr (kLd i k t) (zN z k) z)) (0) (0) := by
  have hx9 : M x = some (.inr (7, [.ref (ad 0), .ref (ad 1), .ref (ad 2), .ref (ad 3)])) := hcw.1.1
  refine wMet (Qc := QV G _) (cc := cX6_loadReferring) (maxL := 8) (ret := none) (by decide) rfl (Nat.le_of_ble_eq_true rfl) ?_
  intro p e s m below meth c A ls X hnm hw hK hZ hA hS hsz eA hl
  obtain ⟨hx, hb, hr, hts, hown, hlk, hml⟩ := id X
  have hl : lv_has ls 8 [(0, .ref x), (1, .ref (ad (4 + i))), (2, .int (nI k)), (3, .int t)] := hl
  have iX0 : ∀ w ∈ wsX00, w ∈ wsX6_loadReferring := by decide +kernel
  have iX3 : ∀ w ∈ wsX30, w ∈ wsX6_loadReferring := by decide +kernel
  refine lv_aload_n hx hb dX6_loadReferring_0 rfl (lv_at hl 0 rfl) ?_
  refine lv_iload_n hx hb dX6_loadReferring_1 rfl (lv_at hl 2 rfl) ?_
  refine m_callVr X (ci := 7) rfl hx9 hK hw hZ hS hA (As := [.int (nI k)]) (rest := []) (c_X6_tableOf l G dce _ M x (ad 0) (ad 1) (ad 2) (ad 3) hcw.1.1 (nI k)) (cwV 1 hts gX6_loadReferring_X6_tableOf rfl rfl rfl (by decide +kernel) ⟨Nat.le_of_ble_eq_true rfl, Nat.le_of_ble_eq_true rfl⟩) rfl hl.1 rfl (Nat.le_of_ble_eq_true rfl) dX6_loadReferring_2 (Nat.le_of_ble_eq_true rfl) (Nat.le_of_ble_eq_true rfl) (fun r2 M1 H locs hp hw hS hz hk => ?_)
  rw [hp.2] at hw
  rw [hp.1, (ta_if hk2)]
  refine lv_astore (lv' := [(4, .ref (ad k)), (0, .ref x), (1, .ref (ad (4 + i))), (2, .int (nI k)), (3, .int t)]) hx hb dX6_loadReferring_5 hl (by decide) rfl (fun ls hl => ?_)
  refine lv_iconst (v := 0) hx hb dX6_loadReferring_7 (by decide) ?_
  refine lv_istore (lv' := [(5, .int 0), (4, .ref (ad k)), (0, .ref x), (1, .ref (ad (4 + i))), (2, .int (nI k)), (3, .int t)]) hx hb dX6_loadReferring_8 hl (by decide) rfl (fun ls hl => ?_)
  have loop : ∀ (d : Nat) (j : Nat) (z1 : cZ) (Mi : gM)  (H : Heap) (locs : List Loc) (ls : Array Slot), j ≤ (zN z k) → (zN z k) + 1 ≤ j + d → z1 = itr (kLd i k t) j z → cTo G dce x ad M y z Mi z1 → wd G A Mi H → va_S A s.heap H locs → lv_has ls 8 [(5, .int (nI j)), (4, .ref (ad k)), (1, .ref (ad (4 + i))), (2, .int (nI k)), (3, .int t)] → W p l e ({ frames := 4, cells := 0, slots := 0, locals := 87 }) s m [.ref x, .ref (ad (4 + i)), .int (nI k), .int t].toArray below meth c H locs (0) (0) (MQ below (QV G (fun M' => cTo G dce x ad M y z M' (itr (kLd i k t) (zN z k) z)) A) [.ref x, .ref (ad (4 + i)), .int (nI k), .int t].toArray s (0) (0) A) (F0 m 10 ls []) := by
    intro d
    induction d with
    | zero => intro j z1 Mi H locs ls h1 h2; exact absurd h2 (by omega)
    | succ d ih =>
      intro j z1 Mi H locs ls hj1 hj2 hz1 hto hw hS hl
      obtain ⟨y1, ho, hc1, hs1⟩ := hto
      have hn1 : zN z1 = zN z := by rw [hz1]; exact itr_N (kLd_N i k t) j z
      have hjn : zN z k ≤ 1024 := hcw.n (by omega)
      have hjn9 : zN z1 (sL i k) ≤ 1024 := hc1.n (by unfold sL; omega)
      have hs9 : Mi (ad (4 + i)) = some (.inr (5, [.ref (ad (12 + 2 * i)), .ref (ad (13 + 2 * i)), .ref (ad (40 + i))])) := (hc1.1.2.2.2 i hi).1
      have ht9 : Mi (ad k) = some (.inr (6, [.ref (ad (10 + k)), .ref (ad (20 + k))])) := (hc1.1.2.1 k hk2).1
      refine lv_iload hx hb dX6_loadReferring_10 (lv_at hl 0 rfl) ?_
      refine lv_aload hx hb dX6_loadReferring_12 (lv_at hl 1 rfl) ?_
      refine m_callVi X (ci := 6) rfl ht9 hK hw hZ hS hA (As := []) (rest := [.int (nI j)]) (c_size l G dce _ Mi x ad y1 z1 hc1 k hk2) (cwV 0 hts gX6_loadReferring_X5_size rfl rfl rfl (by decide +kernel) ⟨Nat.le_of_ble_eq_true rfl, Nat.le_of_ble_eq_true rfl⟩) rfl hl.1 rfl (Nat.le_of_ble_eq_true rfl) dX6_loadReferring_14 (Nat.le_of_ble_eq_true rfl) (Nat.le_of_ble_eq_true rfl) (fun r4 M3 H locs hp hw hS hz hk => ?_)
      rw [hp.2] at hw
      rw [hp.1, hn1]
      refine lv_icmp_ge (tgt := 76) hx hb dX6_loadReferring_17 (by decide) (fun c_17 => ?_) (fun c_17 => ?_)
      · have hkn : (zN z k) ≤ j := (nI_leI (by omega) (by omega)).mp c_17
        have hjj : j = (zN z k) := by omega
        rw [hjj] at hz1
        exact m_vret X hK hw hS (by rw [← hz1]; exact ⟨y1, ho, hc1, hs1⟩) (by omega) (by omega) dX6_loadReferring_76
      · have hkl : j < (zN z k) := Nat.lt_of_not_le (fun q => c_17 (nI_le q (by omega)))
        refine lv_aload hx hb dX6_loadReferring_20 (lv_at hl 1 rfl) ?_
        refine lv_iload hx hb dX6_loadReferring_22 (lv_at hl 0 rfl) ?_
        refine m_callVr X (ci := 6) rfl ht9 hK hw hZ hS hA (As := [.int (nI j)]) (rest := []) (c_rowAt l G dce _ Mi x ad y1 z1 hc1 k hk2 (nI j)) (cwV 1 hts gX6_loadReferring_X5_rowAt rfl rfl rfl (by decide +kernel) ⟨Nat.le_of_ble_eq_true rfl, Nat.le_of_ble_eq_true rfl⟩) rfl hl.1 rfl (Nat.le_of_ble_eq_true rfl) dX6_loadReferring_24 (Nat.le_of_ble_eq_true rfl) (Nat.le_of_ble_eq_true rfl) (fun r6 M5 H locs hp hw hS hz hk => ?_)
        rw [hp.2] at hw
        have hkz : j < zN z1 k := by rw [hn1]; exact hkl
        rw [hp.1, rA_in (by rw [hn1]; exact hjn) hkz]
        have hrw : Mi ((yO y1 k j)) = some (eR (zR z1 k j)) := hc1.row hk2 hkz
        obtain ⟨rb, rn, rr, rv, hrv⟩ : ∃ rb rn rr rv, (zR z1 k j) = (rb, rn, rr, rv) := ⟨_, _, _, _, rfl⟩
        have hrc : Mi ((yO y1 k j)) = some (.inr (4, [.int (bI rb), .int rn, .int rr, .int rv])) := by rw [hrw, hrv]; rfl
        refine lv_astore (lv' := [(6, .ref (yO y1 k j)), (5, .int (nI j)), (4, .ref (ad k)), (1, .ref (ad (4 + i))), (2, .int (nI k)), (3, .int t)]) hx hb dX6_loadReferring_27 hl (by decide) rfl (fun ls hl => ?_)
        refine lv_aload_n hx hb dX6_loadReferring_29 rfl (lv_at hl 3 rfl) ?_
        refine lv_iload_n hx hb dX6_loadReferring_30 rfl (lv_at hl 4 rfl) ?_
        refine lv_iload hx hb dX6_loadReferring_31 (lv_at hl 1 rfl) ?_
        refine m_callVr X (ci := 5) rfl hs9 hK hw hZ hS hA (As := [.int (nI k), .int (nI j)]) (rest := []) (c_entityAt l G dce _ Mi x ad y1 z1 hc1 i k hi hk2 (nI j)) (cwV 2 hts gX6_loadReferring_X4_entityAt rfl rfl rfl (by decide +kernel) ⟨Nat.le_of_ble_eq_true rfl, Nat.le_of_ble_eq_true rfl⟩) rfl hl.1 rfl (Nat.le_of_ble_eq_true rfl) dX6_loadReferring_33 (Nat.le_of_ble_eq_true rfl) (Nat.le_of_ble_eq_true rfl) (fun r8 M7 H locs hp hw hS hz hk => ?_)
        rw [hp.2] at hw
        have hke : j < zN z1 (sL i k) := by rw [hn1, hq]; exact hkl
        rw [hp.1, eA_in hjn9 hke]
        have hen : Mi ((yO y1 (sL i k) j)) = some (eE (zE z1 (sL i k) j)) := hc1.ent (by unfold sL; omega) (by unfold sL; omega) hke
        obtain ⟨b1, b2, b3, nm, rf, sn, sr, sv, hev⟩ : ∃ b1 b2 b3 nm rf sn sr sv, (zE z1 (sL i k) j) = (b1, b2, b3, nm, rf, sn, sr, sv) := ⟨_, _, _, _, _, _, _, _, rfl⟩
        have hec : Mi ((yO y1 (sL i k) j)) = some (.inr (1, [.int (bI b1), .int (bI b2), .int (bI b3), .int nm, .int rf, .int sn, .int sr, .int sv])) := by rw [hen, hev]; rfl
        refine lv_astore (lv' := [(7, .ref (yO y1 (sL i k) j)), (6, .ref (yO y1 k j)), (5, .int (nI j)), (4, .ref (ad k)), (1, .ref (ad (4 + i))), (2, .int (nI k)), (3, .int t)]) hx hb dX6_loadReferring_36 hl (by decide) rfl (fun ls hl => ?_)
        refine lv_aload hx hb dX6_loadReferring_38 (lv_at hl 1 rfl) ?_
        refine m_get X iX3 hK hw hrc rfl 0 (by decide) (ref := "ObjectMapper$Row") (by decide +kernel) (Or.inl rfl) rfl dX6_loadReferring_40 ?_
        refine lv_if_eq (tgt := 70) hx hb dX6_loadReferring_43 (by decide) (fun c_43 => ?_) (fun c_43 => ?_)
        · have hF : kLd i k t j z1 = z1 := by
            unfold kLd
            rw [hrv, hev]
            refine if_neg ?_
            simp_all [bI_0]
          refine lv_iinc (v := (nI (j + 1))) (lv' := [(5, .int (nI (j + 1))), (7, .ref (yO y1 (sL i k) j)), (6, .ref (yO y1 k j)), (4, .ref (ad k)), (1, .ref (ad (4 + i))), (2, .int (nI k)), (3, .int t)]) hx hb dX6_loadReferring_70 hl (k := 2) rfl (nI_1 _) (by decide) rfl (fun ls hl => ?_)
          refine lv_goto (tgt := 10) hx hb dX6_loadReferring_73 (by decide) ?_
          have hz2 : z1 = itr (kLd i k t) (j + 1) z := by
            show _ = (kLd i k t) j (itr (kLd i k t) j z)
            rw [← hz1]
            exact (hF).symm
          exact ih (j + 1) z1 Mi H locs ls (by omega) (by omega) hz2 (⟨y1, ho, hc1, hs1⟩) hw hS (lv_sub hl [0, 3, 4, 5, 6] rfl)
        · refine lv_aload hx hb dX6_loadReferring_46 (lv_at hl 1 rfl) ?_
          refine m_get X iX3 hK hw hrc rfl 2 (by decide) (ref := "ObjectMapper$Row") (by decide +kernel) (Or.inl rfl) rfl dX6_loadReferring_48 ?_
          refine lv_iload_n hx hb dX6_loadReferring_51 rfl (lv_at hl 6 rfl) ?_
          refine lv_icmp_ne (tgt := 70) hx hb dX6_loadReferring_52 (by decide) (fun c_52 => ?_) (fun c_52 => ?_)
          · have hF : kLd i k t j z1 = z1 := by
              unfold kLd
              rw [hrv, hev]
              refine if_neg ?_
              simp_all [bI_0]
            refine lv_iinc (v := (nI (j + 1))) (lv' := [(5, .int (nI (j + 1))), (7, .ref (yO y1 (sL i k) j)), (6, .ref (yO y1 k j)), (4, .ref (ad k)), (1, .ref (ad (4 + i))), (2, .int (nI k)), (3, .int t)]) hx hb dX6_loadReferring_70 hl (k := 2) rfl (nI_1 _) (by decide) rfl (fun ls hl => ?_)
            refine lv_goto (tgt := 10) hx hb dX6_loadReferring_73 (by decide) ?_
            have hz2 : z1 = itr (kLd i k t) (j + 1) z := by
              show _ = (kLd i k t) j (itr (kLd i k t) j z)
              rw [← hz1]
              exact (hF).symm
            exact ih (j + 1) z1 Mi H locs ls (by omega) (by omega) hz2 (⟨y1, ho, hc1, hs1⟩) hw hS (lv_sub hl [0, 3, 4, 5, 6] rfl)
          · refine lv_aload hx hb dX6_loadReferring_55 (lv_at hl 0 rfl) ?_
            refine m_get X iX0 hK hw hec rfl 0 (by decide) (ref := "ObjectMapper$Entity") (by decide +kernel) (Or.inl rfl) rfl dX6_loadReferring_57 ?_
            refine lv_if_ne (tgt := 70) hx hb dX6_loadReferring_60 (by decide) (fun c_60 => ?_) (fun c_60 => ?_)
            · have hF : kLd i k t j z1 = z1 := by
                unfold kLd
                rw [hrv, hev]
                refine if_neg ?_
                simp_all [bI_0]
              refine lv_iinc (v := (nI (j + 1))) (lv' := [(5, .int (nI (j + 1))), (7, .ref (yO y1 (sL i k) j)), (6, .ref (yO y1 k j)), (4, .ref (ad k)), (1, .ref (ad (4 + i))), (2, .int (nI k)), (3, .int t)]) hx hb dX6_loadReferring_70 hl (k := 2) rfl (nI_1 _) (by decide) rfl (fun ls hl => ?_)
              refine lv_goto (tgt := 10) hx hb dX6_loadReferring_73 (by decide) ?_
              have hz2 : z1 = itr (kLd i k t) (j + 1) z := by
                show _ = (kLd i k t) j (itr (kLd i k t) j z)
                rw [← hz1]
                exact (hF).symm
              exact ih (j + 1) z1 Mi H locs ls (by omega) (by omega) hz2 (⟨y1, ho, hc1, hs1⟩) hw hS (lv_sub hl [0, 3, 4, 5, 6] rfl)
            · refine lv_aload hx hb dX6_loadReferring_63 (lv_at hl 0 rfl) ?_
              refine lv_aload hx hb dX6_loadReferring_65 (lv_at hl 1 rfl) ?_
              refine m_callVv X (ci := 1) rfl hec hK hw hZ hS hA (As := [.ref (yO y1 k j)]) (rest := []) (c_X0_load l G dce _ Mi (yO y1 (sL i k) j) (zE z1 (sL i k) j) hen (yO y1 k j) (zR z1 k j) hrw) (cwV 1 hts gX6_loadReferring_X0_load rfl rfl rfl (by decide +kernel) ⟨Nat.le_of_ble_eq_true rfl, Nat.le_of_ble_eq_true rfl⟩) rfl hl.1 rfl (Nat.le_of_ble_eq_true rfl) dX6_loadReferring_67 (Nat.le_of_ble_eq_true rfl) (Nat.le_of_ble_eq_true rfl) (fun M9 H locs hp hw hS hz hk => ?_)
              obtain ⟨hc2, hs2⟩ := hc1.setE (u := sL i k) (k := j) (by unfold sL; omega) (by unfold sL; omega) hke hp
              have hF : kLd i k t j z1 = sE z1 (sL i k) j (fLoad (zE z1 (sL i k) j) (zR z1 k j)) := by
                unfold kLd
                rw [hrv, hev]
                refine if_pos ?_
                simp_all [bI_0]
              refine lv_iinc (v := (nI (j + 1))) (lv' := [(5, .int (nI (j + 1))), (7, .ref (yO y1 (sL i k) j)), (6, .ref (yO y1 k j)), (4, .ref (ad k)), (1, .ref (ad (4 + i))), (2, .int (nI k)), (3, .int t)]) hx hb dX6_loadReferring_70 hl (k := 2) rfl (nI_1 _) (by decide) rfl (fun ls hl => ?_)
              refine lv_goto (tgt := 10) hx hb dX6_loadReferring_73 (by decide) ?_
              have hz2 : (sE z1 (sL i k) j (fLoad (zE z1 (sL i k) j) (zR z1 k j))) = itr (kLd i k t) (j + 1) z := by
                show _ = (kLd i k t) j (itr (kLd i k t) j z)
                rw [← hz1]
                exact (hF).symm
              exact ih (j + 1) (sE z1 (sL i k) j (fLoad (zE z1 (sL i k) j) (zR z1 k j))) M9 H locs ls (by omega) (by omega) hz2 (cTo.tr ho hs1 ⟨y1, rfl, hc2, hs2⟩) hw hS (lv_sub hl [0, 3, 4, 5, 6] rfl)
  exact loop ((zN z k) + 1) 0 z M _ _ ls (Nat.zero_le _) (by omega) rfl (cTo.rf hcw) hw hS (lv_sub hl [0, 1, 3, 4, 5] rfl)
theorem c_loadReferringK (l : Launch) (G : gG) (dce sz : Nat) (M : gM) (x : Nat) (ad : Nat → Nat) (y : cY) (z : cZ) (hcw : CW G dce x ad M y z) (i k : Nat) (hi : i < 3) (hk2 : k < 2) (t : Int32) (hq : zN z (sL i k) = zN z k) (kd : Int32) (hkd : kd = nI k) : mV l yX6_loadReferring wsX6_loadReferring ({ frames := 4, cells := 0, slots := 0, locals := 87 }) G dce sz M [.ref x, .ref (ad (4 + i)), .int kd, .int t] (fun M' => cTo G dce x ad M y z M' (itr (kLd i k t) (zN z k) z)) (0) (0) := by
  subst hkd
  exact c_loadReferring l G dce sz M x ad y z hcw i k hi hk2 t hq
