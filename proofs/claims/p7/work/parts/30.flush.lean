set_option maxHeartbeats 4000000 in
set_option maxRecDepth 100000 in
theorem c_X1_tableFor (l : Launch) (G : gG) (dce sz : Nat) (M : gM) (h hs ta tb j : Nat) (hv : M h = some (oF hs ta tb j)) (kd : Int32) : mR l yX1_tableFor wsX1_tableFor ({ frames := 0, cells := 0, slots := 0, locals := 0 }) G dce sz M [.ref h, .int kd] (fun r M' => r = (if kd = 0 then ta else tb) ∧ M' = M) (0) (0) := by
  have hv : M h = some (.inr (2, [.ref hs, .ref ta, .ref tb, .ref j])) := hv
  refine wMet (Qc := QR G _) (cc := cX1_tableFor) (maxL := 2) (ret := (some (.object "ObjectMapper$Table"))) (by decide) rfl (Nat.le_of_ble_eq_true rfl) ?_
  intro p e s m below meth c A ls X hnm hw hK hZ hA hS hsz eA hl
  obtain ⟨hx, hb, hr, hts, hown, hlk, hml⟩ := id X
  have hl : lv_has ls 2 [(0, .ref h), (1, .int kd)] := hl
  have iX1 : ∀ w ∈ wsX10, w ∈ wsX1_tableFor := by decide +kernel
  refine lv_iload_n hx hb dX1_tableFor_0 rfl (lv_at hl 1 rfl) ?_
  refine lv_if_ne (tgt := 11) hx hb dX1_tableFor_1 (by decide) (fun c_1 => ?_) (fun c_1 => ?_)
  · refine lv_aload_n hx hb dX1_tableFor_11 rfl (lv_at hl 0 rfl) ?_
    refine m_get X iX1 hK hw hv rfl 2 (by decide) (ref := "ObjectMapper$Flush") (by decide +kernel) (Or.inl rfl) rfl dX1_tableFor_12 ?_
    exact m_aret X (Or.inl ⟨_, rfl⟩) hK hw hS (by refine ⟨?_, rfl⟩; simp_all) (by omega) (by omega) dX1_tableFor_15
  · refine lv_aload_n hx hb dX1_tableFor_4 rfl (lv_at hl 0 rfl) ?_
    refine m_get X iX1 hK hw hv rfl 1 (by decide) (ref := "ObjectMapper$Flush") (by decide +kernel) (Or.inl rfl) rfl dX1_tableFor_5 ?_
    refine lv_goto (tgt := 15) hx hb dX1_tableFor_8 (by decide) ?_
    exact m_aret X (Or.inl ⟨_, rfl⟩) hK hw hS (by refine ⟨?_, rfl⟩; simp_all) (by omega) (by omega) dX1_tableFor_15
set_option maxHeartbeats 4000000 in
set_option maxRecDepth 100000 in
theorem c_clashesIn (l : Launch) (G : gG) (dce sz : Nat) (M : gM) (x : Nat) (ad : Nat → Nat) (y : cY) (z : cZ) (hcw : CW G dce x ad M y z) (i : Nat) (hi : i < 3) (heq : cEq z) (h9 : Nat) (hF : M h9 = some (oF (ad (4 + i)) (ad 0) (ad 1) (ad 2))) (k : Nat) (hk2 : k < 2) : mI l yX1_clashesIn wsX1_clashesIn ({ frames := 4, cells := 0, slots := 0, locals := 87 }) G dce sz M [.ref h9, .int (nI k)] (fun r M' => r = bI (anyN (fun j => fClash (zE z (sL i k) j) (zR z k j)) (zN z (sL i k))) ∧ M' = M) (0) (0) := by
  have hF9 : M h9 = some (.inr (2, [.ref (ad (4 + i)), .ref (ad 0), .ref (ad 1), .ref (ad 2)])) := hF
  have hs9 : M (ad (4 + i)) = some (.inr (5, [.ref (ad (12 + 2 * i)), .ref (ad (13 + 2 * i)), .ref (ad (40 + i))])) := (hcw.1.2.2.2 i hi).1
  refine wMet (Qc := QI G _) (cc := cX1_clashesIn) (maxL := 3) (ret := (some .boolean)) (by decide) rfl (Nat.le_of_ble_eq_true rfl) ?_
  intro p e s m below meth c A ls X hnm hw hK hZ hA hS hsz eA hl
  obtain ⟨hx, hb, hr, hts, hown, hlk, hml⟩ := id X
  have hl : lv_has ls 3 [(0, .ref h9), (1, .int (nI k))] := hl
  have iX1 : ∀ w ∈ wsX10, w ∈ wsX1_clashesIn := by decide +kernel
  refine lv_iconst (v := 0) hx hb dX1_clashesIn_0 (by decide) ?_
  refine lv_istore_n (lv' := [(2, .int 0), (0, .ref h9), (1, .int (nI k))]) hx hb dX1_clashesIn_1 rfl hl (by decide) rfl (fun ls hl => ?_)
  have loop : ∀ (d : Nat) (j : Nat) (H : Heap) (locs : List Loc) (ls : Array Slot), j ≤ (zN z (sL i k)) → (zN z (sL i k)) + 1 ≤ j + d → anyN (fun j => fClash (zE z (sL i k) j) (zR z k j)) j = false → wd G A M H → va_S A s.heap H locs → lv_has ls 3 [(2, .int (nI j)), (0, .ref h9), (1, .int (nI k))] → W p l e ({ frames := 4, cells := 0, slots := 0, locals := 87 }) s m [.ref h9, .int (nI k)].toArray below meth c H locs (0) (0) (MQ below (QI G (fun r M' => r = bI (anyN (fun j => fClash (zE z (sL i k) j) (zR z k j)) (zN z (sL i k))) ∧ M' = M) A) [.ref h9, .int (nI k)].toArray s (0) (0) A) (F0 m 2 ls []) := by
    intro d
    induction d with
    | zero => intro j H locs ls h1 h2; exact absurd h2 (by omega)
    | succ d ih =>
      intro j H locs ls hj1 hj2 hany hw hS hl
      have hjn : (zN z (sL i k)) ≤ 1024 := hcw.n (by unfold sL; omega)
      refine lv_iload_n hx hb dX1_clashesIn_2 rfl (lv_at hl 0 rfl) ?_
      refine lv_aload_n hx hb dX1_clashesIn_3 rfl (lv_at hl 1 rfl) ?_
      refine m_get X iX1 hK hw hF9 rfl 0 (by decide) (ref := "ObjectMapper$Flush") (by decide +kernel) (Or.inl rfl) rfl dX1_clashesIn_4 ?_
      refine lv_iload_n hx hb dX1_clashesIn_7 rfl (lv_at hl 2 rfl) ?_
      refine m_callVi X (ci := 5) rfl hs9 hK hw hZ hS hA (As := [.int (nI k)]) (rest := [.int (nI j)]) (c_sizeOf l G dce _ M x ad y z hcw i k hi hk2) (cwV 1 hts gX1_clashesIn_X4_sizeOf rfl rfl rfl (by decide +kernel) ⟨Nat.le_of_ble_eq_true rfl, Nat.le_of_ble_eq_true rfl⟩) rfl hl.1 rfl (Nat.le_of_ble_eq_true rfl) dX1_clashesIn_8 (Nat.le_of_ble_eq_true rfl) (Nat.le_of_ble_eq_true rfl) (fun r2 M1 H locs hp hw hS hz hk => ?_)
      rw [hp.2] at hw
      rw [hp.1]
      refine lv_icmp_ge (tgt := 46) hx hb dX1_clashesIn_11 (by decide) (fun c_11 => ?_) (fun c_11 => ?_)
      · have hkn : (zN z (sL i k)) ≤ j := (nI_leI (by omega) (by omega)).mp c_11
        refine lv_iconst (v := 0) hx hb dX1_clashesIn_46 (by decide) ?_
        have hjj : j = (zN z (sL i k)) := by omega
        exact m_zret X (by decide) hK hw hS ⟨by rw [← hjj, hany]; rfl, rfl⟩ (by omega) (by omega) dX1_clashesIn_47
      · have hkl : j < (zN z (sL i k)) := Nat.lt_of_not_le (fun q => c_11 (nI_le q (by omega)))
        refine lv_aload_n hx hb dX1_clashesIn_14 rfl (lv_at hl 1 rfl) ?_
        refine m_get X iX1 hK hw hF9 rfl 0 (by decide) (ref := "ObjectMapper$Flush") (by decide +kernel) (Or.inl rfl) rfl dX1_clashesIn_15 ?_
        refine lv_iload_n hx hb dX1_clashesIn_18 rfl (lv_at hl 2 rfl) ?_
        refine lv_iload_n hx hb dX1_clashesIn_19 rfl (lv_at hl 0 rfl) ?_
        refine m_callVr X (ci := 5) rfl hs9 hK hw hZ hS hA (As := [.int (nI k), .int (nI j)]) (rest := []) (c_entityAt l G dce _ M x ad y z hcw i k hi hk2 (nI j)) (cwV 2 hts gX1_clashesIn_X4_entityAt rfl rfl rfl (by decide +kernel) ⟨Nat.le_of_ble_eq_true rfl, Nat.le_of_ble_eq_true rfl⟩) rfl hl.1 rfl (Nat.le_of_ble_eq_true rfl) dX1_clashesIn_20 (Nat.le_of_ble_eq_true rfl) (Nat.le_of_ble_eq_true rfl) (fun r4 M3 H locs hp hw hS hz hk => ?_)
        rw [hp.2] at hw
        rw [hp.1, eA_in hjn hkl]
        have hen : M ((yO y (sL i k) j)) = some (eE (zE z (sL i k) j)) := hcw.ent (by unfold sL; omega) (by unfold sL; omega) hkl
        obtain ⟨b1, b2, b3, nm, rf, sn, sr, sv, hev⟩ : ∃ b1 b2 b3 nm rf sn sr sv, (zE z (sL i k) j) = (b1, b2, b3, nm, rf, sn, sr, sv) := ⟨_, _, _, _, _, _, _, _, rfl⟩
        have hec : M ((yO y (sL i k) j)) = some (.inr (1, [.int (bI b1), .int (bI b2), .int (bI b3), .int nm, .int rf, .int sn, .int sr, .int sv])) := by rw [hen, hev]; rfl
        refine lv_aload_n hx hb dX1_clashesIn_23 rfl (lv_at hl 1 rfl) ?_
        refine lv_iload_n hx hb dX1_clashesIn_24 rfl (lv_at hl 2 rfl) ?_
        refine m_callVr X (ci := 2) rfl hF9 hK hw hZ hS hA (As := [.int (nI k)]) (rest := [.ref (yO y (sL i k) j)]) (c_X1_tableFor l G dce _ M h9 (ad (4 + i)) (ad 0) (ad 1) (ad 2) hF (nI k)) (cwV 1 hts gX1_clashesIn_X1_tableFor rfl rfl rfl (by decide +kernel) ⟨Nat.le_of_ble_eq_true rfl, Nat.le_of_ble_eq_true rfl⟩) rfl hl.1 rfl (Nat.le_of_ble_eq_true rfl) dX1_clashesIn_25 (Nat.le_of_ble_eq_true rfl) (Nat.le_of_ble_eq_true rfl) (fun r6 M5 H locs hp hw hS hz hk => ?_)
        rw [hp.2] at hw
        rw [hp.1, (ta_if hk2)]
        have ht9 : M (ad k) = some (.inr (6, [.ref (ad (10 + k)), .ref (ad (20 + k))])) := (hcw.1.2.1 k hk2).1
        refine lv_iload_n hx hb dX1_clashesIn_28 rfl (lv_at hl 0 rfl) ?_
        refine m_callVr X (ci := 6) rfl ht9 hK hw hZ hS hA (As := [.int (nI j)]) (rest := [.ref (yO y (sL i k) j)]) (c_rowAt l G dce _ M x ad y z hcw k hk2 (nI j)) (cwV 1 hts gX1_clashesIn_X5_rowAt rfl rfl rfl (by decide +kernel) ⟨Nat.le_of_ble_eq_true rfl, Nat.le_of_ble_eq_true rfl⟩) rfl hl.1 rfl (Nat.le_of_ble_eq_true rfl) dX1_clashesIn_29 (Nat.le_of_ble_eq_true rfl) (Nat.le_of_ble_eq_true rfl) (fun r8 M7 H locs hp hw hS hz hk => ?_)
        rw [hp.2] at hw
        have hkr : j < zN z k := by rw [← heq i k hi hk2]; exact hkl
        rw [hp.1, rA_in (hcw.n (by omega)) hkr]
        have hrw : M ((yO y k j)) = some (eR (zR z k j)) := hcw.row hk2 hkr
        obtain ⟨rb, rn, rr, rv, hrv⟩ : ∃ rb rn rr rv, (zR z k j) = (rb, rn, rr, rv) := ⟨_, _, _, _, rfl⟩
        have hrc : M ((yO y k j)) = some (.inr (4, [.int (bI rb), .int rn, .int rr, .int rv])) := by rw [hrw, hrv]; rfl
        refine m_callVi X (ci := 1) rfl hec hK hw hZ hS hA (As := [.ref (yO y k j)]) (rest := []) (c_X0_clashesWith l G dce _ M (yO y (sL i k) j) (zE z (sL i k) j) hen (yO y k j) (zR z k j) hrw) (cwV 1 hts gX1_clashesIn_X0_clashesWith rfl rfl rfl (by decide +kernel) ⟨Nat.le_of_ble_eq_true rfl, Nat.le_of_ble_eq_true rfl⟩) rfl hl.1 rfl (Nat.le_of_ble_eq_true rfl) dX1_clashesIn_32 (Nat.le_of_ble_eq_true rfl) (Nat.le_of_ble_eq_true rfl) (fun r10 M9 H locs hp hw hS hz hk => ?_)
        rw [hp.2] at hw
        rw [hp.1]
        refine lv_if_eq (tgt := 40) hx hb dX1_clashesIn_35 (by decide) (fun c_35 => ?_) (fun c_35 => ?_)
        · refine lv_iinc (v := (nI (j + 1))) (lv' := [(2, .int (nI (j + 1))), (0, .ref h9), (1, .int (nI k))]) hx hb dX1_clashesIn_40 hl (k := 0) rfl (nI_1 _) (by decide) rfl (fun ls hl => ?_)
          refine lv_goto (tgt := 2) hx hb dX1_clashesIn_43 (by decide) ?_
          have hany2 : anyN (fun j => fClash (zE z (sL i k) j) (zR z k j)) (j + 1) = false := by
            show (anyN (fun j => fClash (zE z (sL i k) j) (zR z k j)) j || fClash (zE z (sL i k) j) (zR z k j)) = false
            rw [hany, Bool.false_or]
            exact (bI_0 _).mp c_35
          exact ih (j + 1) H locs ls (by omega) (by omega) hany2 hw hS (lv_sub hl [0, 1, 2] rfl)
        · refine lv_iconst (v := 1) hx hb dX1_clashesIn_38 (by decide) ?_
          exact m_zret X (by decide) hK hw hS ⟨by rw [show anyN (fun j => fClash (zE z (sL i k) j) (zR z k j)) (zN z (sL i k)) = true from anyN_of hkl (bI_t c_35)]; rfl, rfl⟩ (by omega) (by omega) dX1_clashesIn_39
  exact loop ((zN z (sL i k)) + 1) 0 _ _ ls (Nat.zero_le _) (by omega) rfl hw hS (lv_sub hl [0, 1, 2] rfl)
theorem c_clashesInK (l : Launch) (G : gG) (dce sz : Nat) (M : gM) (x : Nat) (ad : Nat → Nat) (y : cY) (z : cZ) (hcw : CW G dce x ad M y z) (i : Nat) (hi : i < 3) (heq : cEq z) (h9 : Nat) (hF : M h9 = some (oF (ad (4 + i)) (ad 0) (ad 1) (ad 2))) (k : Nat) (hk2 : k < 2) (kd : Int32) (hkd : kd = nI k) : mI l yX1_clashesIn wsX1_clashesIn ({ frames := 4, cells := 0, slots := 0, locals := 87 }) G dce sz M [.ref h9, .int kd] (fun r M' => r = bI (anyN (fun j => fClash (zE z (sL i k) j) (zR z k j)) (zN z (sL i k))) ∧ M' = M) (0) (0) := by
  subst hkd
  exact c_clashesIn l G dce sz M x ad y z hcw i hi heq h9 hF k hk2
def thB (i k : Nat) (ky : Int32) (z : cZ) : Bool := fNew (eV z i k ky) || (!(eV z i k ky).2.1 && (rV z k ky).1)
def rfB (i k : Nat) (ky : Int32) (z : cZ) : Int32 := if (fNew (eV z i k ky) || fChg (eV z i k ky)) = true then eRf (eV z i k ky) else (rV z k ky).2.2.1
set_option maxHeartbeats 4000000 in
set_option maxRecDepth 100000 in
theorem c_thereBehind (l : Launch) (G : gG) (dce sz : Nat) (M : gM) (x : Nat) (ad : Nat → Nat) (y : cY) (z : cZ) (hcw : CW G dce x ad M y z) (i : Nat) (hi : i < 3) (heq : cEq z) (h9 : Nat) (hF : M h9 = some (oF (ad (4 + i)) (ad 0) (ad 1) (ad 2))) (k : Nat) (hk2 : k < 2) (ky : Int32) : mI l yX1_isThereBehind wsX1_isThereBehind ({ frames := 4, cells := 0, slots := 0, locals := 87 }) G dce sz M [.ref h9, .int (nI k), .int ky] (fun r M' => r = bI (thB i k ky z) ∧ M' = M) (0) (0) := by
  have hF9 : M h9 = some (.inr (2, [.ref (ad (4 + i)), .ref (ad 0), .ref (ad 1), .ref (ad 2)])) := hF
  have hs9 : M (ad (4 + i)) = some (.inr (5, [.ref (ad (12 + 2 * i)), .ref (ad (13 + 2 * i)), .ref (ad (40 + i))])) := (hcw.1.2.2.2 i hi).1
  refine wMet (Qc := QI G _) (cc := cX1_isThereBehind) (maxL := 4) (ret := (some .boolean)) (by decide) rfl (Nat.le_of_ble_eq_true rfl) ?_
  intro p e s m below meth c A ls X hnm hw hK hZ hA hS hsz eA hl
  obtain ⟨hx, hb, hr, hts, hown, hlk, hml⟩ := id X
  have hl : lv_has ls 4 [(0, .ref h9), (1, .int (nI k)), (2, .int ky)] := hl
  have iX0 : ∀ w ∈ wsX00, w ∈ wsX1_isThereBehind := by decide +kernel
  have iX1 : ∀ w ∈ wsX10, w ∈ wsX1_isThereBehind := by decide +kernel
  have iX3 : ∀ w ∈ wsX30, w ∈ wsX1_isThereBehind := by decide +kernel
  refine lv_aload_n hx hb dX1_isThereBehind_0 rfl (lv_at hl 0 rfl) ?_
  refine m_get X iX1 hK hw hF9 rfl 0 (by decide) (ref := "ObjectMapper$Flush") (by decide +kernel) (Or.inl rfl) rfl dX1_isThereBehind_1 ?_
  refine lv_iload_n hx hb dX1_isThereBehind_4 rfl (lv_at hl 1 rfl) ?_
  refine lv_iload_n hx hb dX1_isThereBehind_5 rfl (lv_at hl 2 rfl) ?_
  refine m_callVr X (ci := 5) rfl hs9 hK hw hZ hS hA (As := [.int (nI k), .int ky]) (rest := []) (c_entityAt l G dce _ M x ad y z hcw i k hi hk2 ky) (cwV 2 hts gX1_isThereBehind_X4_entityAt rfl rfl rfl (by decide +kernel) ⟨Nat.le_of_ble_eq_true rfl, Nat.le_of_ble_eq_true rfl⟩) rfl hl.1 rfl (Nat.le_of_ble_eq_true rfl) dX1_isThereBehind_6 (Nat.le_of_ble_eq_true rfl) (Nat.le_of_ble_eq_true rfl) (fun r2 M1 H locs hp hw hS hz hk => ?_)
  rw [hp.2] at hw
  rw [hp.1]
  have hen : M ((enA ad (yO y) (zN z) i k ky)) = some (eE (eV z i k ky)) := CW_eA hcw hi hk2 ky
  obtain ⟨b1, b2, b3, nm, rf, sn, sr, sv, hev⟩ : ∃ b1 b2 b3 nm rf sn sr sv, (eV z i k ky) = (b1, b2, b3, nm, rf, sn, sr, sv) := ⟨_, _, _, _, _, _, _, _, rfl⟩
  have hec : M ((enA ad (yO y) (zN z) i k ky)) = some (.inr (1, [.int (bI b1), .int (bI b2), .int (bI b3), .int nm, .int rf, .int sn, .int sr, .int sv])) := by rw [hen, hev]; rfl
  refine lv_astore_n (lv' := [(3, .ref (enA ad (yO y) (zN z) i k ky)), (0, .ref h9), (1, .int (nI k)), (2, .int ky)]) hx hb dX1_isThereBehind_9 rfl hl (by decide) rfl (fun ls hl => ?_)
  refine lv_aload_n hx hb dX1_isThereBehind_10 rfl (lv_at hl 0 rfl) ?_
  refine m_callVi X (ci := 1) rfl hec hK hw hZ hS hA (As := []) (rest := []) (c_X0_isNew l G dce _ M (enA ad (yO y) (zN z) i k ky) (eV z i k ky) hen) (cwV 0 hts gX1_isThereBehind_X0_isNew rfl rfl rfl (by decide +kernel) ⟨Nat.le_of_ble_eq_true rfl, Nat.le_of_ble_eq_true rfl⟩) rfl hl.1 rfl (Nat.le_of_ble_eq_true rfl) dX1_isThereBehind_11 (Nat.le_of_ble_eq_true rfl) (Nat.le_of_ble_eq_true rfl) (fun r4 M3 H locs hp hw hS hz hk => ?_)
  rw [hp.2] at hw
  rw [hp.1]
  refine lv_if_ne (tgt := 39) hx hb dX1_isThereBehind_14 (by decide) (fun c_14 => ?_) (fun c_14 => ?_)
  · refine lv_iconst (v := 1) hx hb dX1_isThereBehind_39 (by decide) ?_
    refine lv_goto (tgt := 44) hx hb dX1_isThereBehind_40 (by decide) ?_
    exact m_zret X (by decide) hK hw hS ⟨by unfold thB; rw [bI_t c_14]; rfl, rfl⟩ (by omega) (by omega) dX1_isThereBehind_44
  · refine lv_aload_n hx hb dX1_isThereBehind_17 rfl (lv_at hl 0 rfl) ?_
    refine m_get X iX0 hK hw hec rfl 1 (by decide) (ref := "ObjectMapper$Entity") (by decide +kernel) (Or.inl rfl) rfl dX1_isThereBehind_18 ?_
    refine lv_if_ne (tgt := 43) hx hb dX1_isThereBehind_21 (by decide) (fun c_21 => ?_) (fun c_21 => ?_)
    · refine lv_iconst (v := 0) hx hb dX1_isThereBehind_43 (by decide) ?_
      exact m_zret X (by decide) hK hw hS ⟨by unfold thB; rw [(bI_0 _).mp c_14, show (eV z i k ky).2.1 = b2 from by rw [hev], bI_t c_21]; rfl, rfl⟩ (by omega) (by omega) dX1_isThereBehind_44
    · refine lv_aload_n hx hb dX1_isThereBehind_24 rfl (lv_at hl 1 rfl) ?_
      refine lv_iload_n hx hb dX1_isThereBehind_25 rfl (lv_at hl 2 rfl) ?_
      refine m_callVr X (ci := 2) rfl hF9 hK hw hZ hS hA (As := [.int (nI k)]) (rest := []) (c_X1_tableFor l G dce _ M h9 (ad (4 + i)) (ad 0) (ad 1) (ad 2) hF (nI k)) (cwV 1 hts gX1_isThereBehind_X1_tableFor rfl rfl rfl (by decide +kernel) ⟨Nat.le_of_ble_eq_true rfl, Nat.le_of_ble_eq_true rfl⟩) rfl hl.1 rfl (Nat.le_of_ble_eq_true rfl) dX1_isThereBehind_26 (Nat.le_of_ble_eq_true rfl) (Nat.le_of_ble_eq_true rfl) (fun r6 M5 H locs hp hw hS hz hk => ?_)
      rw [hp.2] at hw
      rw [hp.1, (ta_if hk2)]
      have ht9 : M (ad k) = some (.inr (6, [.ref (ad (10 + k)), .ref (ad (20 + k))])) := (hcw.1.2.1 k hk2).1
      refine lv_iload_n hx hb dX1_isThereBehind_29 rfl (lv_at hl 3 rfl) ?_
      refine m_callVr X (ci := 6) rfl ht9 hK hw hZ hS hA (As := [.int ky]) (rest := []) (c_rowAt l G dce _ M x ad y z hcw k hk2 ky) (cwV 1 hts gX1_isThereBehind_X5_rowAt rfl rfl rfl (by decide +kernel) ⟨Nat.le_of_ble_eq_true rfl, Nat.le_of_ble_eq_true rfl⟩) rfl hl.1 rfl (Nat.le_of_ble_eq_true rfl) dX1_isThereBehind_30 (Nat.le_of_ble_eq_true rfl) (Nat.le_of_ble_eq_true rfl) (fun r8 M7 H locs hp hw hS hz hk => ?_)
      rw [hp.2] at hw
      rw [hp.1]
      have hrw : M ((rwA ad (yO y) (zN z) k ky)) = some (eR (rV z k ky)) := CW_rA hcw hk2 ky
      obtain ⟨rb, rn, rr, rv, hrv⟩ : ∃ rb rn rr rv, (rV z k ky) = (rb, rn, rr, rv) := ⟨_, _, _, _, rfl⟩
      have hrc : M ((rwA ad (yO y) (zN z) k ky)) = some (.inr (4, [.int (bI rb), .int rn, .int rr, .int rv])) := by rw [hrw, hrv]; rfl
      refine m_get X iX3 hK hw hrc rfl 0 (by decide) (ref := "ObjectMapper$Row") (by decide +kernel) (Or.inl rfl) rfl dX1_isThereBehind_33 ?_
      refine lv_if_eq (tgt := 43) hx hb dX1_isThereBehind_36 (by decide) (fun c_36 => ?_) (fun c_36 => ?_)
      · refine lv_iconst (v := 0) hx hb dX1_isThereBehind_43 (by decide) ?_
        exact m_zret X (by decide) hK hw hS ⟨by unfold thB; rw [(bI_0 _).mp c_14, show (eV z i k ky).2.1 = b2 from by rw [hev], (bI_0 _).mp c_21, show (rV z k ky).1 = rb from by rw [hrv], (bI_0 _).mp c_36]; rfl, rfl⟩ (by omega) (by omega) dX1_isThereBehind_44
      · refine lv_iconst (v := 1) hx hb dX1_isThereBehind_39 (by decide) ?_
        refine lv_goto (tgt := 44) hx hb dX1_isThereBehind_40 (by decide) ?_
        exact m_zret X (by decide) hK hw hS ⟨by unfold thB; rw [(bI_0 _).mp c_14, show (eV z i k ky).2.1 = b2 from by rw [hev], (bI_0 _).mp c_21, show (rV z k ky).1 = rb from by rw [hrv], bI_t c_36]; rfl, rfl⟩ (by omega) (by omega) dX1_isThereBehind_44
theorem c_thereBehindK (l : Launch) (G : gG) (dce sz : Nat) (M : gM) (x : Nat) (ad : Nat → Nat) (y : cY) (z : cZ) (hcw : CW G dce x ad M y z) (i : Nat) (hi : i < 3) (heq : cEq z) (h9 : Nat) (hF : M h9 = some (oF (ad (4 + i)) (ad 0) (ad 1) (ad 2))) (k : Nat) (hk2 : k < 2) (ky : Int32) (kd : Int32) (hkd : kd = nI k) : mI l yX1_isThereBehind wsX1_isThereBehind ({ frames := 4, cells := 0, slots := 0, locals := 87 }) G dce sz M [.ref h9, .int kd, .int ky] (fun r M' => r = bI (thB i k ky z) ∧ M' = M) (0) (0) := by
  subst hkd
  exact c_thereBehind l G dce sz M x ad y z hcw i hi heq h9 hF k hk2 ky
set_option maxHeartbeats 4000000 in
set_option maxRecDepth 100000 in
theorem c_referenceBehind (l : Launch) (G : gG) (dce sz : Nat) (M : gM) (x : Nat) (ad : Nat → Nat) (y : cY) (z : cZ) (hcw : CW G dce x ad M y z) (i : Nat) (hi : i < 3) (heq : cEq z) (h9 : Nat) (hF : M h9 = some (oF (ad (4 + i)) (ad 0) (ad 1) (ad 2))) (k : Nat) (hk2 : k < 2) (ky : Int32) : mI l yX1_referenceBehind wsX1_referenceBehind ({ frames := 4, cells := 0, slots := 0, locals := 87 }) G dce sz M [.ref h9, .int (nI k), .int ky] (fun r M' => r = rfB i k ky z ∧ M' = M) (0) (0) := by
  have hF9 : M h9 = some (.inr (2, [.ref (ad (4 + i)), .ref (ad 0), .ref (ad 1), .ref (ad 2)])) := hF
  have hs9 : M (ad (4 + i)) = some (.inr (5, [.ref (ad (12 + 2 * i)), .ref (ad (13 + 2 * i)), .ref (ad (40 + i))])) := (hcw.1.2.2.2 i hi).1
  refine wMet (Qc := QI G _) (cc := cX1_referenceBehind) (maxL := 4) (ret := (some .int)) (by decide) rfl (Nat.le_of_ble_eq_true rfl) ?_
  intro p e s m below meth c A ls X hnm hw hK hZ hA hS hsz eA hl
  obtain ⟨hx, hb, hr, hts, hown, hlk, hml⟩ := id X
  have hl : lv_has ls 4 [(0, .ref h9), (1, .int (nI k)), (2, .int ky)] := hl
  have iX0 : ∀ w ∈ wsX00, w ∈ wsX1_referenceBehind := by decide +kernel
  have iX1 : ∀ w ∈ wsX10, w ∈ wsX1_referenceBehind := by decide +kernel
  have iX3 : ∀ w ∈ wsX30, w ∈ wsX1_referenceBehind := by decide +kernel
  refine lv_aload_n hx hb dX1_referenceBehind_0 rfl (lv_at hl 0 rfl) ?_
  refine m_get X iX1 hK hw hF9 rfl 0 (by decide) (ref := "ObjectMapper$Flush") (by decide +kernel) (Or.inl rfl) rfl dX1_referenceBehind_1 ?_
  refine lv_iload_n hx hb dX1_referenceBehind_4 rfl (lv_at hl 1 rfl) ?_
  refine lv_iload_n hx hb dX1_referenceBehind_5 rfl (lv_at hl 2 rfl) ?_
  refine m_callVr X (ci := 5) rfl hs9 hK hw hZ hS hA (As := [.int (nI k), .int ky]) (rest := []) (c_entityAt l G dce _ M x ad y z hcw i k hi hk2 ky) (cwV 2 hts gX1_referenceBehind_X4_entityAt rfl rfl rfl (by decide +kernel) ⟨Nat.le_of_ble_eq_true rfl, Nat.le_of_ble_eq_true rfl⟩) rfl hl.1 rfl (Nat.le_of_ble_eq_true rfl) dX1_referenceBehind_6 (Nat.le_of_ble_eq_true rfl) (Nat.le_of_ble_eq_true rfl) (fun r2 M1 H locs hp hw hS hz hk => ?_)
  rw [hp.2] at hw
  rw [hp.1]
  have hen : M ((enA ad (yO y) (zN z) i k ky)) = some (eE (eV z i k ky)) := CW_eA hcw hi hk2 ky
  obtain ⟨b1, b2, b3, nm, rf, sn, sr, sv, hev⟩ : ∃ b1 b2 b3 nm rf sn sr sv, (eV z i k ky) = (b1, b2, b3, nm, rf, sn, sr, sv) := ⟨_, _, _, _, _, _, _, _, rfl⟩
  have hec : M ((enA ad (yO y) (zN z) i k ky)) = some (.inr (1, [.int (bI b1), .int (bI b2), .int (bI b3), .int nm, .int rf, .int sn, .int sr, .int sv])) := by rw [hen, hev]; rfl
  refine lv_astore_n (lv' := [(3, .ref (enA ad (yO y) (zN z) i k ky)), (0, .ref h9), (1, .int (nI k)), (2, .int ky)]) hx hb dX1_referenceBehind_9 rfl hl (by decide) rfl (fun ls hl => ?_)
  refine lv_aload_n hx hb dX1_referenceBehind_10 rfl (lv_at hl 0 rfl) ?_
  refine m_callVi X (ci := 1) rfl hec hK hw hZ hS hA (As := []) (rest := []) (c_X0_isNew l G dce _ M (enA ad (yO y) (zN z) i k ky) (eV z i k ky) hen) (cwV 0 hts gX1_referenceBehind_X0_isNew rfl rfl rfl (by decide +kernel) ⟨Nat.le_of_ble_eq_true rfl, Nat.le_of_ble_eq_true rfl⟩) rfl hl.1 rfl (Nat.le_of_ble_eq_true rfl) dX1_referenceBehind_11 (Nat.le_of_ble_eq_true rfl) (Nat.le_of_ble_eq_true rfl) (fun r4 M3 H locs hp hw hS hz hk => ?_)
  rw [hp.2] at hw
  rw [hp.1]
  refine lv_if_ne (tgt := 24) hx hb dX1_referenceBehind_14 (by decide) (fun c_14 => ?_) (fun c_14 => ?_)
  · refine lv_aload_n hx hb dX1_referenceBehind_24 rfl (lv_at hl 0 rfl) ?_
    refine m_get X iX0 hK hw hec rfl 4 (by decide) (ref := "ObjectMapper$Entity") (by decide +kernel) (Or.inl rfl) rfl dX1_referenceBehind_25 ?_
    refine lv_goto (tgt := 43) hx hb dX1_referenceBehind_28 (by decide) ?_
    exact m_iret X hK hw hS ⟨by unfold rfB; rw [if_pos (by rw [bI_t c_14, Bool.true_or]), hev]; rfl, rfl⟩ (by omega) (by omega) dX1_referenceBehind_43
  · refine lv_aload_n hx hb dX1_referenceBehind_17 rfl (lv_at hl 0 rfl) ?_
    refine m_callVi X (ci := 1) rfl hec hK hw hZ hS hA (As := []) (rest := []) (c_X0_isChanged l G dce _ M (enA ad (yO y) (zN z) i k ky) (eV z i k ky) hen) (cwV 0 hts gX1_referenceBehind_X0_isChanged rfl rfl rfl (by decide +kernel) ⟨Nat.le_of_ble_eq_true rfl, Nat.le_of_ble_eq_true rfl⟩) rfl hl.1 rfl (Nat.le_of_ble_eq_true rfl) dX1_referenceBehind_18 (Nat.le_of_ble_eq_true rfl) (Nat.le_of_ble_eq_true rfl) (fun r6 M5 H locs hp hw hS hz hk => ?_)
    rw [hp.2] at hw
    rw [hp.1]
    refine lv_if_eq (tgt := 31) hx hb dX1_referenceBehind_21 (by decide) (fun c_21 => ?_) (fun c_21 => ?_)
    · refine lv_aload_n hx hb dX1_referenceBehind_31 rfl (lv_at hl 1 rfl) ?_
      refine lv_iload_n hx hb dX1_referenceBehind_32 rfl (lv_at hl 2 rfl) ?_
      refine m_callVr X (ci := 2) rfl hF9 hK hw hZ hS hA (As := [.int (nI k)]) (rest := []) (c_X1_tableFor l G dce _ M h9 (ad (4 + i)) (ad 0) (ad 1) (ad 2) hF (nI k)) (cwV 1 hts gX1_referenceBehind_X1_tableFor rfl rfl rfl (by decide +kernel) ⟨Nat.le_of_ble_eq_true rfl, Nat.le_of_ble_eq_true rfl⟩) rfl hl.1 rfl (Nat.le_of_ble_eq_true rfl) dX1_referenceBehind_33 (Nat.le_of_ble_eq_true rfl) (Nat.le_of_ble_eq_true rfl) (fun r8 M7 H locs hp hw hS hz hk => ?_)
      rw [hp.2] at hw
      rw [hp.1, (ta_if hk2)]
      have ht9 : M (ad k) = some (.inr (6, [.ref (ad (10 + k)), .ref (ad (20 + k))])) := (hcw.1.2.1 k hk2).1
      refine lv_iload_n hx hb dX1_referenceBehind_36 rfl (lv_at hl 3 rfl) ?_
      refine m_callVr X (ci := 6) rfl ht9 hK hw hZ hS hA (As := [.int ky]) (rest := []) (c_rowAt l G dce _ M x ad y z hcw k hk2 ky) (cwV 1 hts gX1_referenceBehind_X5_rowAt rfl rfl rfl (by decide +kernel) ⟨Nat.le_of_ble_eq_true rfl, Nat.le_of_ble_eq_true rfl⟩) rfl hl.1 rfl (Nat.le_of_ble_eq_true rfl) dX1_referenceBehind_37 (Nat.le_of_ble_eq_true rfl) (Nat.le_of_ble_eq_true rfl) (fun r10 M9 H locs hp hw hS hz hk => ?_)
      rw [hp.2] at hw
      rw [hp.1]
      have hrw : M ((rwA ad (yO y) (zN z) k ky)) = some (eR (rV z k ky)) := CW_rA hcw hk2 ky
      obtain ⟨rb, rn, rr, rv, hrv⟩ : ∃ rb rn rr rv, (rV z k ky) = (rb, rn, rr, rv) := ⟨_, _, _, _, rfl⟩
      have hrc : M ((rwA ad (yO y) (zN z) k ky)) = some (.inr (4, [.int (bI rb), .int rn, .int rr, .int rv])) := by rw [hrw, hrv]; rfl
      refine m_get X iX3 hK hw hrc rfl 2 (by decide) (ref := "ObjectMapper$Row") (by decide +kernel) (Or.inl rfl) rfl dX1_referenceBehind_40 ?_
      exact m_iret X hK hw hS ⟨by unfold rfB; rw [if_neg (by rw [(bI_0 _).mp c_14, (bI_0 _).mp c_21]; simp), hrv], rfl⟩ (by omega) (by omega) dX1_referenceBehind_43
    · refine lv_aload_n hx hb dX1_referenceBehind_24 rfl (lv_at hl 0 rfl) ?_
      refine m_get X iX0 hK hw hec rfl 4 (by decide) (ref := "ObjectMapper$Entity") (by decide +kernel) (Or.inl rfl) rfl dX1_referenceBehind_25 ?_
      refine lv_goto (tgt := 43) hx hb dX1_referenceBehind_28 (by decide) ?_
      exact m_iret X hK hw hS ⟨by unfold rfB; rw [if_pos (by rw [bI_t c_21, Bool.or_true]), hev]; rfl, rfl⟩ (by omega) (by omega) dX1_referenceBehind_43
set_option maxHeartbeats 4000000 in
set_option maxRecDepth 100000 in
theorem c_danglingIn (l : Launch) (G : gG) (dce sz : Nat) (M : gM) (x : Nat) (ad : Nat → Nat) (y : cY) (z : cZ) (hcw : CW G dce x ad M y z) (i : Nat) (hi : i < 3) (heq : cEq z) (h9 : Nat) (hF : M h9 = some (oF (ad (4 + i)) (ad 0) (ad 1) (ad 2))) (k : Nat) (hk2 : k < 2) : mI l yX1_leavesDanglingIn wsX1_leavesDanglingIn ({ frames := 5, cells := 0, slots := 0, locals := 110 }) G dce sz M [.ref h9, .int (nI k)] (fun r M' => r = bI (anyN (fun j => (thB i k (nI j) z && (!decide (rfB i k (nI j) z = -1)) && !thB i (1 - k) (rfB i k (nI j) z) z)) (zN z (sL i k))) ∧ M' = M) (0) (0) := by
  have hF9 : M h9 = some (.inr (2, [.ref (ad (4 + i)), .ref (ad 0), .ref (ad 1), .ref (ad 2)])) := hF
  have hs9 : M (ad (4 + i)) = some (.inr (5, [.ref (ad (12 + 2 * i)), .ref (ad (13 + 2 * i)), .ref (ad (40 + i))])) := (hcw.1.2.2.2 i hi).1
  refine wMet (Qc := QI G _) (cc := cX1_leavesDanglingIn) (maxL := 4) (ret := (some .boolean)) (by decide) rfl (Nat.le_of_ble_eq_true rfl) ?_
  intro p e s m below meth c A ls X hnm hw hK hZ hA hS hsz eA hl
  obtain ⟨hx, hb, hr, hts, hown, hlk, hml⟩ := id X
  have hl : lv_has ls 4 [(0, .ref h9), (1, .int (nI k))] := hl
  have iX1 : ∀ w ∈ wsX10, w ∈ wsX1_leavesDanglingIn := by decide +kernel
  refine lv_iconst (v := 0) hx hb dX1_leavesDanglingIn_0 (by decide) ?_
  refine lv_istore_n (lv' := [(2, .int 0), (0, .ref h9), (1, .int (nI k))]) hx hb dX1_leavesDanglingIn_1 rfl hl (by decide) rfl (fun ls hl => ?_)
  have loop : ∀ (d : Nat) (j : Nat) (H : Heap) (locs : List Loc) (ls : Array Slot), j ≤ (zN z (sL i k)) → (zN z (sL i k)) + 1 ≤ j + d → anyN (fun j => (thB i k (nI j) z && (!decide (rfB i k (nI j) z = -1)) && !thB i (1 - k) (rfB i k (nI j) z) z)) j = false → wd G A M H → va_S A s.heap H locs → lv_has ls 4 [(2, .int (nI j)), (0, .ref h9), (1, .int (nI k))] → W p l e ({ frames := 5, cells := 0, slots := 0, locals := 110 }) s m [.ref h9, .int (nI k)].toArray below meth c H locs (0) (0) (MQ below (QI G (fun r M' => r = bI (anyN (fun j => (thB i k (nI j) z && (!decide (rfB i k (nI j) z = -1)) && !thB i (1 - k) (rfB i k (nI j) z) z)) (zN z (sL i k))) ∧ M' = M) A) [.ref h9, .int (nI k)].toArray s (0) (0) A) (F0 m 2 ls []) := by
    intro d
    induction d with
    | zero => intro j H locs ls h1 h2; exact absurd h2 (by omega)
    | succ d ih =>
      intro j H locs ls hj1 hj2 hany hw hS hl
      have hjn : (zN z (sL i k)) ≤ 1024 := hcw.n (by unfold sL; omega)
      refine lv_iload_n hx hb dX1_leavesDanglingIn_2 rfl (lv_at hl 0 rfl) ?_
      refine lv_aload_n hx hb dX1_leavesDanglingIn_3 rfl (lv_at hl 1 rfl) ?_
      refine m_get X iX1 hK hw hF9 rfl 0 (by decide) (ref := "ObjectMapper$Flush") (by decide +kernel) (Or.inl rfl) rfl dX1_leavesDanglingIn_4 ?_
      refine lv_iload_n hx hb dX1_leavesDanglingIn_7 rfl (lv_at hl 2 rfl) ?_
      refine m_callVi X (ci := 5) rfl hs9 hK hw hZ hS hA (As := [.int (nI k)]) (rest := [.int (nI j)]) (c_sizeOf l G dce _ M x ad y z hcw i k hi hk2) (cwV 1 hts gX1_leavesDanglingIn_X4_sizeOf rfl rfl rfl (by decide +kernel) ⟨Nat.le_of_ble_eq_true rfl, Nat.le_of_ble_eq_true rfl⟩) rfl hl.1 rfl (Nat.le_of_ble_eq_true rfl) dX1_leavesDanglingIn_8 (Nat.le_of_ble_eq_true rfl) (Nat.le_of_ble_eq_true rfl) (fun r2 M1 H locs hp hw hS hz hk => ?_)
      rw [hp.2] at hw
      rw [hp.1]
      refine lv_icmp_ge (tgt := 55) hx hb dX1_leavesDanglingIn_11 (by decide) (fun c_11 => ?_) (fun c_11 => ?_)
      · have hkn : (zN z (sL i k)) ≤ j := (nI_leI (by omega) (by omega)).mp c_11
        refine lv_iconst (v := 0) hx hb dX1_leavesDanglingIn_55 (by decide) ?_
        have hjj : j = (zN z (sL i k)) := by omega
        exact m_zret X (by decide) hK hw hS ⟨by rw [← hjj, hany]; rfl, rfl⟩ (by omega) (by omega) dX1_leavesDanglingIn_56
      · have hkl : j < (zN z (sL i k)) := Nat.lt_of_not_le (fun q => c_11 (nI_le q (by omega)))
        refine lv_aload_n hx hb dX1_leavesDanglingIn_14 rfl (lv_at hl 1 rfl) ?_
        refine lv_iload_n hx hb dX1_leavesDanglingIn_15 rfl (lv_at hl 2 rfl) ?_
        refine lv_iload_n hx hb dX1_leavesDanglingIn_16 rfl (lv_at hl 0 rfl) ?_
        refine m_callVi X (ci := 2) rfl hF9 hK hw hZ hS hA (As := [.int (nI k), .int (nI j)]) (rest := []) (c_referenceBehind l G dce _ M x ad y z hcw i hi heq h9 hF k hk2 (nI j)) (cwV 2 hts gX1_leavesDanglingIn_X1_referenceBehind rfl rfl rfl (by decide +kernel) ⟨Nat.le_of_ble_eq_true rfl, Nat.le_of_ble_eq_true rfl⟩) rfl hl.1 rfl (Nat.le_of_ble_eq_true rfl) dX1_leavesDanglingIn_17 (Nat.le_of_ble_eq_true rfl) (Nat.le_of_ble_eq_true rfl) (fun r4 M3 H locs hp hw hS hz hk => ?_)
        rw [hp.2] at hw
        rw [hp.1]
        refine lv_istore_n (lv' := [(3, .int (rfB i k (nI j) z)), (2, .int (nI j)), (0, .ref h9), (1, .int (nI k))]) hx hb dX1_leavesDanglingIn_20 rfl hl (by decide) rfl (fun ls hl => ?_)
        refine lv_aload_n hx hb dX1_leavesDanglingIn_21 rfl (lv_at hl 2 rfl) ?_
        refine lv_iload_n hx hb dX1_leavesDanglingIn_22 rfl (lv_at hl 3 rfl) ?_
        refine lv_iload_n hx hb dX1_leavesDanglingIn_23 rfl (lv_at hl 1 rfl) ?_
        refine m_callVi X (ci := 2) rfl hF9 hK hw hZ hS hA (As := [.int (nI k), .int (nI j)]) (rest := []) (c_thereBehind l G dce _ M x ad y z hcw i hi heq h9 hF k hk2 (nI j)) (cwV 2 hts gX1_leavesDanglingIn_X1_isThereBehind rfl rfl rfl (by decide +kernel) ⟨Nat.le_of_ble_eq_true rfl, Nat.le_of_ble_eq_true rfl⟩) rfl hl.1 rfl (Nat.le_of_ble_eq_true rfl) dX1_leavesDanglingIn_24 (Nat.le_of_ble_eq_true rfl) (Nat.le_of_ble_eq_true rfl) (fun r6 M5 H locs hp hw hS hz hk => ?_)
        rw [hp.2] at hw
        rw [hp.1]
        refine lv_if_eq (tgt := 49) hx hb dX1_leavesDanglingIn_27 (by decide) (fun c_27 => ?_) (fun c_27 => ?_)
        · refine lv_iinc (v := (nI (j + 1))) (lv' := [(2, .int (nI (j + 1))), (3, .int (rfB i k (nI j) z)), (0, .ref h9), (1, .int (nI k))]) hx hb dX1_leavesDanglingIn_49 hl (k := 1) rfl (nI_1 _) (by decide) rfl (fun ls hl => ?_)
          refine lv_goto (tgt := 2) hx hb dX1_leavesDanglingIn_52 (by decide) ?_
          have hany2 : anyN (fun j => (thB i k (nI j) z && (!decide (rfB i k (nI j) z = -1)) && !thB i (1 - k) (rfB i k (nI j) z) z)) (j + 1) = false := by
            show (anyN (fun j => (thB i k (nI j) z && (!decide (rfB i k (nI j) z = -1)) && !thB i (1 - k) (rfB i k (nI j) z) z)) j || (thB i k (nI j) z && (!decide (rfB i k (nI j) z = -1)) && !thB i (1 - k) (rfB i k (nI j) z) z)) = false
            rw [hany, Bool.false_or]
            rw [(bI_0 _).mp c_27]; rfl
          exact ih (j + 1) H locs ls (by omega) (by omega) hany2 hw hS (lv_sub hl [0, 2, 3] rfl)
        · refine lv_iload_n hx hb dX1_leavesDanglingIn_30 rfl (lv_at hl 0 rfl) ?_
          refine lv_iconst (v := (-1)) hx hb dX1_leavesDanglingIn_31 (by decide) ?_
          refine lv_icmp_eq (tgt := 49) hx hb dX1_leavesDanglingIn_32 (by decide) (fun c_32 => ?_) (fun c_32 => ?_)
          · refine lv_iinc (v := (nI (j + 1))) (lv' := [(2, .int (nI (j + 1))), (3, .int (rfB i k (nI j) z)), (0, .ref h9), (1, .int (nI k))]) hx hb dX1_leavesDanglingIn_49 hl (k := 1) rfl (nI_1 _) (by decide) rfl (fun ls hl => ?_)
            refine lv_goto (tgt := 2) hx hb dX1_leavesDanglingIn_52 (by decide) ?_
            have hany2 : anyN (fun j => (thB i k (nI j) z && (!decide (rfB i k (nI j) z = -1)) && !thB i (1 - k) (rfB i k (nI j) z) z)) (j + 1) = false := by
              show (anyN (fun j => (thB i k (nI j) z && (!decide (rfB i k (nI j) z = -1)) && !thB i (1 - k) (rfB i k (nI j) z) z)) j || (thB i k (nI j) z && (!decide (rfB i k (nI j) z = -1)) && !thB i (1 - k) (rfB i k (nI j) z) z)) = false
              rw [hany, Bool.false_or]
              rw [show decide ((rfB i k (nI j) z) = -1) = true from decide_eq_true (by first | exact c_32 | exact Classical.not_not.mp c_32)]; simp
            exact ih (j + 1) H locs ls (by omega) (by omega) hany2 hw hS (lv_sub hl [0, 2, 3] rfl)
          · refine lv_aload_n hx hb dX1_leavesDanglingIn_35 rfl (lv_at hl 2 rfl) ?_
            refine lv_iload_n hx hb dX1_leavesDanglingIn_36 rfl (lv_at hl 3 rfl) ?_
            refine m_callNSi (b := 0) X hK hw hZ hS hA (As := [.int (nI k)]) (rest := [.ref h9]) (c_X6_otherKind l G dce _ M (nI k)) ⟨va_cnB 1 hts gX1_leavesDanglingIn_X6_otherKind_n67 rfl rfl rfl (hZ.2.2.2.2.2.2.2.2.2.1 (RX1, 67, yX6_otherKind, RX6) (by decide +kernel)) (hts (.initialized RX6) (by decide +kernel)) (by decide +kernel) ⟨Nat.le_of_ble_eq_true rfl, Nat.le_of_ble_eq_true rfl⟩, hts (.static yX6_otherKind) (by decide +kernel), trivial⟩ rfl hl.1 rfl (Nat.le_of_ble_eq_true rfl) dX1_leavesDanglingIn_37 (Nat.le_of_ble_eq_true rfl) (Nat.le_of_ble_eq_true rfl) (fun r8 M7 H locs hp hw hS hz hk => ?_)
            rw [hp.2] at hw
            have eo : (if nI k = 0 then 1 else 0 : Int32) = nI (1 - k) := by
              rcases (show k = 0 ∨ k = 1 by omega) with rfl | rfl
              · decide
              · decide
            rw [hp.1, eo]
            refine lv_iload_n hx hb dX1_leavesDanglingIn_40 rfl (lv_at hl 0 rfl) ?_
            refine m_callVi X (ci := 2) rfl hF9 hK hw hZ hS hA (As := [.int (nI (1 - k)), .int (rfB i k (nI j) z)]) (rest := []) (c_thereBehind l G dce _ M x ad y z hcw i hi heq h9 hF (1 - k) (by omega) (rfB i k (nI j) z)) (cwV 2 hts gX1_leavesDanglingIn_X1_isThereBehind rfl rfl rfl (by decide +kernel) ⟨Nat.le_of_ble_eq_true rfl, Nat.le_of_ble_eq_true rfl⟩) rfl hl.1 rfl (Nat.le_of_ble_eq_true rfl) dX1_leavesDanglingIn_41 (Nat.le_of_ble_eq_true rfl) (Nat.le_of_ble_eq_true rfl) (fun r10 M9 H locs hp hw hS hz hk => ?_)
            rw [hp.2] at hw
            rw [hp.1]
            refine lv_if_ne (tgt := 49) hx hb dX1_leavesDanglingIn_44 (by decide) (fun c_44 => ?_) (fun c_44 => ?_)
            · refine lv_iinc (v := (nI (j + 1))) (lv' := [(2, .int (nI (j + 1))), (3, .int (rfB i k (nI j) z)), (0, .ref h9), (1, .int (nI k))]) hx hb dX1_leavesDanglingIn_49 hl (k := 1) rfl (nI_1 _) (by decide) rfl (fun ls hl => ?_)
              refine lv_goto (tgt := 2) hx hb dX1_leavesDanglingIn_52 (by decide) ?_
              have hany2 : anyN (fun j => (thB i k (nI j) z && (!decide (rfB i k (nI j) z = -1)) && !thB i (1 - k) (rfB i k (nI j) z) z)) (j + 1) = false := by
                show (anyN (fun j => (thB i k (nI j) z && (!decide (rfB i k (nI j) z = -1)) && !thB i (1 - k) (rfB i k (nI j) z) z)) j || (thB i k (nI j) z && (!decide (rfB i k (nI j) z = -1)) && !thB i (1 - k) (rfB i k (nI j) z) z)) = false
                rw [hany, Bool.false_or]
                rw [bI_t c_44]; simp
              exact ih (j + 1) H locs ls (by omega) (by omega) hany2 hw hS (lv_sub hl [0, 2, 3] rfl)
            · refine lv_iconst (v := 1) hx hb dX1_leavesDanglingIn_47 (by decide) ?_
              exact m_zret X (by decide) hK hw hS ⟨by rw [show anyN (fun j => (thB i k (nI j) z && (!decide (rfB i k (nI j) z = -1)) && !thB i (1 - k) (rfB i k (nI j) z) z)) (zN z (sL i k)) = true from anyN_of hkl (by show (thB i k (nI j) z && (!decide ((rfB i k (nI j) z) = -1)) && !thB i (1 - k) (rfB i k (nI j) z) z) = true; rw [bI_t c_27, decide_eq_false (by exact c_32), (bI_0 _).mp c_44]; rfl)]; rfl, rfl⟩ (by omega) (by omega) dX1_leavesDanglingIn_48
  exact loop ((zN z (sL i k)) + 1) 0 _ _ ls (Nat.zero_le _) (by omega) rfl hw hS (lv_sub hl [0, 1, 2] rfl)
theorem c_danglingInK (l : Launch) (G : gG) (dce sz : Nat) (M : gM) (x : Nat) (ad : Nat → Nat) (y : cY) (z : cZ) (hcw : CW G dce x ad M y z) (i : Nat) (hi : i < 3) (heq : cEq z) (h9 : Nat) (hF : M h9 = some (oF (ad (4 + i)) (ad 0) (ad 1) (ad 2))) (k : Nat) (hk2 : k < 2) (kd : Int32) (hkd : kd = nI k) : mI l yX1_leavesDanglingIn wsX1_leavesDanglingIn ({ frames := 5, cells := 0, slots := 0, locals := 110 }) G dce sz M [.ref h9, .int kd] (fun r M' => r = bI (anyN (fun j => (thB i k (nI j) z && (!decide (rfB i k (nI j) z = -1)) && !thB i (1 - k) (rfB i k (nI j) z) z)) (zN z (sL i k))) ∧ M' = M) (0) (0) := by
  subst hkd
  exact c_danglingIn l G dce sz M x ad y z hcw i hi heq h9 hF k hk2
set_option maxHeartbeats 4000000 in
set_option maxRecDepth 100000 in
theorem c_clashes (l : Launch) (G : gG) (dce sz : Nat) (M : gM) (x : Nat) (ad : Nat → Nat) (y : cY) (z : cZ) (hcw : CW G dce x ad M y z) (i : Nat) (hi : i < 3) (heq : cEq z) (h9 : Nat) (hF : M h9 = some (oF (ad (4 + i)) (ad 0) (ad 1) (ad 2))) : mI l yX1_clashes wsX1_clashes ({ frames := 5, cells := 0, slots := 0, locals := 109 }) G dce sz M [.ref h9] (fun r M' => r = bI ((anyN (fun j => fClash (zE z (sL i 0) j) (zR z 0 j)) (zN z (sL i 0))) || (anyN (fun j => fClash (zE z (sL i 1) j) (zR z 1 j)) (zN z (sL i 1)))) ∧ M' = M) (0) (0) := by
  have hF9 : M h9 = some (.inr (2, [.ref (ad (4 + i)), .ref (ad 0), .ref (ad 1), .ref (ad 2)])) := hF
  have hs9 : M (ad (4 + i)) = some (.inr (5, [.ref (ad (12 + 2 * i)), .ref (ad (13 + 2 * i)), .ref (ad (40 + i))])) := (hcw.1.2.2.2 i hi).1
  refine wMet (Qc := QI G _) (cc := cX1_clashes) (maxL := 1) (ret := (some .boolean)) (by decide) rfl (Nat.le_of_ble_eq_true rfl) ?_
  intro p e s m below meth c A ls X hnm hw hK hZ hA hS hsz eA hl
  obtain ⟨hx, hb, hr, hts, hown, hlk, hml⟩ := id X
  have hl : lv_has ls 1 [(0, .ref h9)] := hl
  refine lv_aload_n hx hb dX1_clashes_0 rfl (lv_at hl 0 rfl) ?_
  refine lv_iconst (v := 0) hx hb dX1_clashes_1 (by decide) ?_
  refine m_callVi X (ci := 2) rfl hF9 hK hw hZ hS hA (As := [.int 0]) (rest := []) (c_clashesInK l G dce _ M x ad y z hcw i hi heq h9 hF 0 (by decide) 0 (by decide)) (cwV 1 hts gX1_clashes_X1_clashesIn rfl rfl rfl (by decide +kernel) ⟨Nat.le_of_ble_eq_true rfl, Nat.le_of_ble_eq_true rfl⟩) rfl hl.1 rfl (Nat.le_of_ble_eq_true rfl) dX1_clashes_2 (Nat.le_of_ble_eq_true rfl) (Nat.le_of_ble_eq_true rfl) (fun r2 M1 H locs hp hw hS hz hk => ?_)
  rw [hp.2] at hw
  rw [hp.1]
  refine lv_if_ne (tgt := 16) hx hb dX1_clashes_5 (by decide) (fun c_5 => ?_) (fun c_5 => ?_)
  · refine lv_iconst (v := 1) hx hb dX1_clashes_16 (by decide) ?_
    refine lv_goto (tgt := 21) hx hb dX1_clashes_17 (by decide) ?_
    exact m_zret X (by decide) hK hw hS ⟨by rw [bI_t c_5]; rfl, rfl⟩ (by omega) (by omega) dX1_clashes_21
  · refine lv_aload_n hx hb dX1_clashes_8 rfl (lv_at hl 0 rfl) ?_
    refine lv_iconst (v := 1) hx hb dX1_clashes_9 (by decide) ?_
    refine m_callVi X (ci := 2) rfl hF9 hK hw hZ hS hA (As := [.int 1]) (rest := []) (c_clashesInK l G dce _ M x ad y z hcw i hi heq h9 hF 1 (by decide) 1 (by decide)) (cwV 1 hts gX1_clashes_X1_clashesIn rfl rfl rfl (by decide +kernel) ⟨Nat.le_of_ble_eq_true rfl, Nat.le_of_ble_eq_true rfl⟩) rfl hl.1 rfl (Nat.le_of_ble_eq_true rfl) dX1_clashes_10 (Nat.le_of_ble_eq_true rfl) (Nat.le_of_ble_eq_true rfl) (fun r4 M3 H locs hp hw hS hz hk => ?_)
    rw [hp.2] at hw
    rw [hp.1]
    refine lv_if_eq (tgt := 20) hx hb dX1_clashes_13 (by decide) (fun c_13 => ?_) (fun c_13 => ?_)
    · refine lv_iconst (v := 0) hx hb dX1_clashes_20 (by decide) ?_
      exact m_zret X (by decide) hK hw hS ⟨by rw [(bI_0 _).mp c_5, (bI_0 _).mp c_13]; rfl, rfl⟩ (by omega) (by omega) dX1_clashes_21
    · refine lv_iconst (v := 1) hx hb dX1_clashes_16 (by decide) ?_
      refine lv_goto (tgt := 21) hx hb dX1_clashes_17 (by decide) ?_
      exact m_zret X (by decide) hK hw hS ⟨by rw [(bI_0 _).mp c_5, bI_t c_13]; rfl, rfl⟩ (by omega) (by omega) dX1_clashes_21
set_option maxHeartbeats 4000000 in
set_option maxRecDepth 100000 in
theorem c_dangling (l : Launch) (G : gG) (dce sz : Nat) (M : gM) (x : Nat) (ad : Nat → Nat) (y : cY) (z : cZ) (hcw : CW G dce x ad M y z) (i : Nat) (hi : i < 3) (heq : cEq z) (h9 : Nat) (hF : M h9 = some (oF (ad (4 + i)) (ad 0) (ad 1) (ad 2))) : mI l yX1_leavesDanglingReference wsX1_leavesDanglingReference ({ frames := 6, cells := 0, slots := 0, locals := 133 }) G dce sz M [.ref h9] (fun r M' => r = bI ((anyN (fun j => (thB i 0 (nI j) z && (!decide (rfB i 0 (nI j) z = -1)) && !thB i (1 - 0) (rfB i 0 (nI j) z) z)) (zN z (sL i 0))) || (anyN (fun j => (thB i 1 (nI j) z && (!decide (rfB i 1 (nI j) z = -1)) && !thB i (1 - 1) (rfB i 1 (nI j) z) z)) (zN z (sL i 1)))) ∧ M' = M) (0) (0) := by
  have hF9 : M h9 = some (.inr (2, [.ref (ad (4 + i)), .ref (ad 0), .ref (ad 1), .ref (ad 2)])) := hF
  have hs9 : M (ad (4 + i)) = some (.inr (5, [.ref (ad (12 + 2 * i)), .ref (ad (13 + 2 * i)), .ref (ad (40 + i))])) := (hcw.1.2.2.2 i hi).1
  refine wMet (Qc := QI G _) (cc := cX1_leavesDanglingReference) (maxL := 1) (ret := (some .boolean)) (by decide) rfl (Nat.le_of_ble_eq_true rfl) ?_
  intro p e s m below meth c A ls X hnm hw hK hZ hA hS hsz eA hl
  obtain ⟨hx, hb, hr, hts, hown, hlk, hml⟩ := id X
  have hl : lv_has ls 1 [(0, .ref h9)] := hl
  refine lv_aload_n hx hb dX1_leavesDanglingReference_0 rfl (lv_at hl 0 rfl) ?_
  refine lv_iconst (v := 0) hx hb dX1_leavesDanglingReference_1 (by decide) ?_
  refine m_callVi X (ci := 2) rfl hF9 hK hw hZ hS hA (As := [.int 0]) (rest := []) (c_danglingInK l G dce _ M x ad y z hcw i hi heq h9 hF 0 (by decide) 0 (by decide)) (cwV 1 hts gX1_leavesDanglingReference_X1_leavesDanglingIn rfl rfl rfl (by decide +kernel) ⟨Nat.le_of_ble_eq_true rfl, Nat.le_of_ble_eq_true rfl⟩) rfl hl.1 rfl (Nat.le_of_ble_eq_true rfl) dX1_leavesDanglingReference_2 (Nat.le_of_ble_eq_true rfl) (Nat.le_of_ble_eq_true rfl) (fun r2 M1 H locs hp hw hS hz hk => ?_)
  rw [hp.2] at hw
  rw [hp.1]
  refine lv_if_ne (tgt := 16) hx hb dX1_leavesDanglingReference_5 (by decide) (fun c_5 => ?_) (fun c_5 => ?_)
  · refine lv_iconst (v := 1) hx hb dX1_leavesDanglingReference_16 (by decide) ?_
    refine lv_goto (tgt := 21) hx hb dX1_leavesDanglingReference_17 (by decide) ?_
    exact m_zret X (by decide) hK hw hS ⟨by rw [bI_t c_5]; rfl, rfl⟩ (by omega) (by omega) dX1_leavesDanglingReference_21
  · refine lv_aload_n hx hb dX1_leavesDanglingReference_8 rfl (lv_at hl 0 rfl) ?_
    refine lv_iconst (v := 1) hx hb dX1_leavesDanglingReference_9 (by decide) ?_
    refine m_callVi X (ci := 2) rfl hF9 hK hw hZ hS hA (As := [.int 1]) (rest := []) (c_danglingInK l G dce _ M x ad y z hcw i hi heq h9 hF 1 (by decide) 1 (by decide)) (cwV 1 hts gX1_leavesDanglingReference_X1_leavesDanglingIn rfl rfl rfl (by decide +kernel) ⟨Nat.le_of_ble_eq_true rfl, Nat.le_of_ble_eq_true rfl⟩) rfl hl.1 rfl (Nat.le_of_ble_eq_true rfl) dX1_leavesDanglingReference_10 (Nat.le_of_ble_eq_true rfl) (Nat.le_of_ble_eq_true rfl) (fun r4 M3 H locs hp hw hS hz hk => ?_)
    rw [hp.2] at hw
    rw [hp.1]
    refine lv_if_eq (tgt := 20) hx hb dX1_leavesDanglingReference_13 (by decide) (fun c_13 => ?_) (fun c_13 => ?_)
    · refine lv_iconst (v := 0) hx hb dX1_leavesDanglingReference_20 (by decide) ?_
      exact m_zret X (by decide) hK hw hS ⟨by rw [(bI_0 _).mp c_5, (bI_0 _).mp c_13]; rfl, rfl⟩ (by omega) (by omega) dX1_leavesDanglingReference_21
    · refine lv_iconst (v := 1) hx hb dX1_leavesDanglingReference_16 (by decide) ?_
      refine lv_goto (tgt := 21) hx hb dX1_leavesDanglingReference_17 (by decide) ?_
      exact m_zret X (by decide) hK hw hS ⟨by rw [(bI_0 _).mp c_5, bI_t c_13]; rfl, rfl⟩ (by omega) (by omega) dX1_leavesDanglingReference_21
