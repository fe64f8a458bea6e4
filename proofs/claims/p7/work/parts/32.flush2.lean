set_option maxHeartbeats 4000000 in
set_option maxRecDepth 100000 in
theorem c_updateChanged (l : Launch) (G : gG) (dce sz : Nat) (M : gM) (x : Nat) (ad : Nat → Nat) (y : cY) (z : cZ) (hcw : CW G dce x ad M y z) (i : Nat) (hi : i < 3) (heq : cEq z) (h9 : Nat) (hF : M h9 = some (oF (ad (4 + i)) (ad 0) (ad 1) (ad 2))) (k : Nat) (hk2 : k < 2) (hw9 : zW z + 1024 ≤ 16384) (kc ks : Nat) (hkc : zC (itr (kUp i k) (zN z (sL i k)) z) - zC z ≤ kc) (hks : 4 * (zC (itr (kUp i k) (zN z (sL i k)) z) - zC z) ≤ ks) : mV l yX1_updateChanged wsX1_updateChanged ({ frames := 4, cells := kc, slots := ks, locals := 95 }) G dce sz M [.ref h9, .int (nI k)] (fun M' => cTo G dce x ad M y z M' (itr (kUp i k) (zN z (sL i k)) z)) (kc) (ks) := by
  have hF9 : M h9 = some (.inr (2, [.ref (ad (4 + i)), .ref (ad 0), .ref (ad 1), .ref (ad 2)])) := hF
  have hs9 : M (ad (4 + i)) = some (.inr (5, [.ref (ad (12 + 2 * i)), .ref (ad (13 + 2 * i)), .ref (ad (40 + i))])) := (hcw.1.2.2.2 i hi).1
  refine wMet (Qc := QV G _) (cc := cX1_updateChanged) (maxL := 5) (ret := none) (by decide) rfl (Nat.le_of_ble_eq_true rfl) ?_
  intro p e s m below meth c A ls X hnm hw hK hZ hA hS hsz eA hl
  obtain ⟨hx, hb, hr, hts, hown, hlk, hml⟩ := id X
  have hl : lv_has ls 5 [(0, .ref h9), (1, .int (nI k))] := hl
  have iX0 : ∀ w ∈ wsX00, w ∈ wsX1_updateChanged := by decide +kernel
  have iX1 : ∀ w ∈ wsX10, w ∈ wsX1_updateChanged := by decide +kernel
  refine lv_iconst (v := 0) hx hb dX1_updateChanged_0 (by decide) ?_
  refine lv_istore_n (lv' := [(2, .int 0), (0, .ref h9), (1, .int (nI k))]) hx hb dX1_updateChanged_1 rfl hl (by decide) rfl (fun ls hl => ?_)
  refine W.widen (k := zC z - zC z) (n := 4 * (zC z - zC z)) (by omega) (by omega) ?_
  have loop : ∀ (d : Nat) (j : Nat) (z1 : cZ) (Mi : gM)  (H : Heap) (locs : List Loc) (ls : Array Slot), j ≤ (zN z (sL i k)) → (zN z (sL i k)) + 1 ≤ j + d → z1 = itr (kUp i k) j z → cTo G dce x ad M y z Mi z1 → wd G A Mi H → va_S A s.heap H locs → lv_has ls 5 [(2, .int (nI j)), (0, .ref h9), (1, .int (nI k))] → W p l e ({ frames := 4, cells := kc, slots := ks, locals := 95 }) s m [.ref h9, .int (nI k)].toArray below meth c H locs (zC z1 - zC z) (4 * (zC z1 - zC z)) (MQ below (QV G (fun M' => cTo G dce x ad M y z M' (itr (kUp i k) (zN z (sL i k)) z)) A) [.ref h9, .int (nI k)].toArray s (kc) (ks) A) (F0 m 2 ls []) := by
    intro d
    induction d with
    | zero => intro j z1 Mi H locs ls h1 h2; exact absurd h2 (by omega)
    | succ d ih =>
      intro j z1 Mi H locs ls hj1 hj2 hz1 hto hw hS hl
      obtain ⟨y1, ho, hc1, hs1⟩ := hto
      have hn1 : zN z1 = zN z := by rw [hz1]; exact itr_N (kUp_st i k).N j z
      have hjn : (zN z (sL i k)) ≤ 1024 := hcw.n (by unfold sL; omega)
      have hF1 : Mi h9 = some (oF (ad (4 + i)) (ad 0) (ad 1) (ad 2)) := hs1.1 h9 _ hF (hcw.nF hF)
      have hF2 : Mi h9 = some (.inr (2, [.ref (ad (4 + i)), .ref (ad 0), .ref (ad 1), .ref (ad 2)])) := hF1
      have hm1 : zC z ≤ zC z1 := by rw [hz1]; exact itr_C (n := 0) (kUp_st i k) (Nat.zero_le _) z
      have hm2 : zW z1 ≤ zW z + j := by rw [hz1]; exact itr_W (kUp_st i k) j z
      have hm0 : zC z1 ≤ zC (itr (kUp i k) (zN z (sL i k)) z) := by rw [hz1]; exact itr_C (kUp_st i k) hj1 z
      have heq1 : cEq z1 := fun i k h1 h2 => by rw [hn1]; exact heq i k h1 h2
      have hs9 : Mi (ad (4 + i)) = some (.inr (5, [.ref (ad (12 + 2 * i)), .ref (ad (13 + 2 * i)), .ref (ad (40 + i))])) := (hc1.1.2.2.2 i hi).1
      refine lv_iload_n hx hb dX1_updateChanged_2 rfl (lv_at hl 0 rfl) ?_
      refine lv_aload_n hx hb dX1_updateChanged_3 rfl (lv_at hl 1 rfl) ?_
      refine m_get X iX1 hK hw hF2 rfl 0 (by decide) (ref := "ObjectMapper$Flush") (by decide +kernel) (Or.inl rfl) rfl dX1_updateChanged_4 ?_
      refine lv_iload_n hx hb dX1_updateChanged_7 rfl (lv_at hl 2 rfl) ?_
      refine m_callVi X (ci := 5) rfl hs9 hK hw hZ hS hA (As := [.int (nI k)]) (rest := [.int (nI j)]) (c_sizeOfK l G dce _ Mi x ad y1 z1 hc1 i k hi hk2 (nI k) rfl) (cwV 1 hts gX1_updateChanged_X4_sizeOf rfl rfl rfl (by decide +kernel) ⟨Nat.le_of_ble_eq_true rfl, Nat.le_of_ble_eq_true rfl⟩) rfl hl.1 rfl (Nat.le_of_ble_eq_true rfl) dX1_updateChanged_8 (by dsimp only; omega) (by dsimp only; omega) (fun r2 M1 H locs hp hw hS hz hk => ?_)
      rw [hp.2] at hw
      rw [hp.1, hn1]
      refine lv_icmp_ge (tgt := 77) hx hb dX1_updateChanged_11 (by decide) (fun c_11 => ?_) (fun c_11 => ?_)
      · have hkn : (zN z (sL i k)) ≤ j := (nI_leI (by omega) (by omega)).mp c_11
        have hjj : j = (zN z (sL i k)) := by omega
        rw [hjj] at hz1
        have hzc : zC z1 = zC (itr (kUp i k) (zN z (sL i k)) z) := congrArg zC hz1
        exact m_vret X hK hw hS (by rw [← hz1]; exact ⟨y1, ho, hc1, hs1⟩) (by omega) (by omega) dX1_updateChanged_77
      · have hkl : j < (zN z (sL i k)) := Nat.lt_of_not_le (fun q => c_11 (nI_le q (by omega)))
        refine lv_aload_n hx hb dX1_updateChanged_14 rfl (lv_at hl 1 rfl) ?_
        refine m_get X iX1 hK hw hF2 rfl 0 (by decide) (ref := "ObjectMapper$Flush") (by decide +kernel) (Or.inl rfl) rfl dX1_updateChanged_15 ?_
        refine lv_iload_n hx hb dX1_updateChanged_18 rfl (lv_at hl 2 rfl) ?_
        refine lv_iload_n hx hb dX1_updateChanged_19 rfl (lv_at hl 0 rfl) ?_
        refine m_callVr X (ci := 5) rfl hs9 hK hw hZ hS hA (As := [.int (nI k), .int (nI j)]) (rest := []) (c_entityAtK l G dce _ Mi x ad y1 z1 hc1 i k hi hk2 (nI j) (nI k) rfl) (cwV 2 hts gX1_updateChanged_X4_entityAt rfl rfl rfl (by decide +kernel) ⟨Nat.le_of_ble_eq_true rfl, Nat.le_of_ble_eq_true rfl⟩) rfl hl.1 rfl (Nat.le_of_ble_eq_true rfl) dX1_updateChanged_20 (by dsimp only; omega) (by dsimp only; omega) (fun r4 M3 H locs hp hw hS hz hk => ?_)
        rw [hp.2] at hw
        have hjk1 : j < zN z1 (sL i k) := by rw [hn1]; exact hkl
        have hm3 : zC ((kUp i k) j z1) ≤ zC (itr (kUp i k) (zN z (sL i k)) z) := by rw [hz1]; exact itr_C (kUp_st i k) (show j + 1 ≤ (zN z (sL i k)) by omega) z
        have hm4 : zC z1 ≤ zC ((kUp i k) j z1) := ((kUp_st i k) j z1).2.1
        have hkr : j < zN z1 k := by rw [← heq1 i k hi hk2]; exact hjk1
        rw [hp.1, eA_in (hc1.n (by unfold sL; omega)) hjk1]
        have hen : Mi ((yO y1 (sL i k) j)) = some (eE (zE z1 (sL i k) j)) := hc1.ent (by unfold sL; omega) (by unfold sL; omega) hjk1
        obtain ⟨b1, b2, b3, nm, rf, sn, sr, sv, hev⟩ : ∃ b1 b2 b3 nm rf sn sr sv, (zE z1 (sL i k) j) = (b1, b2, b3, nm, rf, sn, sr, sv) := ⟨_, _, _, _, _, _, _, _, rfl⟩
        have hec : Mi ((yO y1 (sL i k) j)) = some (.inr (1, [.int (bI b1), .int (bI b2), .int (bI b3), .int nm, .int rf, .int sn, .int sr, .int sv])) := by rw [hen, hev]; rfl
        refine lv_astore_n (lv' := [(3, .ref (yO y1 (sL i k) j)), (2, .int (nI j)), (0, .ref h9), (1, .int (nI k))]) hx hb dX1_updateChanged_23 rfl hl (by decide) rfl (fun ls hl => ?_)
        refine lv_aload_n hx hb dX1_updateChanged_24 rfl (lv_at hl 0 rfl) ?_
        refine m_callVi X (ci := 1) rfl hec hK hw hZ hS hA (As := []) (rest := []) (c_X0_isChanged l G dce _ Mi (yO y1 (sL i k) j) (zE z1 (sL i k) j) hen) (cwV 0 hts gX1_updateChanged_X0_isChanged rfl rfl rfl (by decide +kernel) ⟨Nat.le_of_ble_eq_true rfl, Nat.le_of_ble_eq_true rfl⟩) rfl hl.1 rfl (Nat.le_of_ble_eq_true rfl) dX1_updateChanged_25 (by dsimp only; omega) (by dsimp only; omega) (fun r6 M5 H locs hp hw hS hz hk => ?_)
        rw [hp.2] at hw
        rw [hp.1]
        refine lv_if_eq (tgt := 71) hx hb dX1_updateChanged_28 (by decide) (fun c_28 => ?_) (fun c_28 => ?_)
        · have hFj : (kUp i k) j z1 = z1 := if_neg (bI_f c_28)
          refine W.widen (k := zC z1 - zC z) (n := 4 * (zC z1 - zC z)) (by omega) (by omega) ?_
          refine lv_iinc (v := (nI (j + 1))) (lv' := [(2, .int (nI (j + 1))), (3, .ref (yO y1 (sL i k) j)), (0, .ref h9), (1, .int (nI k))]) hx hb dX1_updateChanged_71 hl (k := 1) rfl (nI_1 _) (by decide) rfl (fun ls hl => ?_)
          refine lv_goto (tgt := 2) hx hb dX1_updateChanged_74 (by decide) ?_
          have hz2 : z1 = itr (kUp i k) (j + 1) z := by
            show _ = (kUp i k) j (itr (kUp i k) j z)
            rw [← hz1]
            exact (hFj).symm
          exact ih (j + 1) z1 Mi H locs ls (by omega) (by omega) hz2 (⟨y1, ho, hc1, hs1⟩) hw hS (lv_sub hl [0, 2, 3] rfl)
        · refine lv_aload_n hx hb dX1_updateChanged_31 rfl (lv_at hl 2 rfl) ?_
          refine lv_iload_n hx hb dX1_updateChanged_32 rfl (lv_at hl 3 rfl) ?_
          refine m_callVr X (ci := 2) rfl hF2 hK hw hZ hS hA (As := [.int (nI k)]) (rest := []) (c_X1_tableFor l G dce _ Mi h9 (ad (4 + i)) (ad 0) (ad 1) (ad 2) hF1 (nI k)) (cwV 1 hts gX1_updateChanged_X1_tableFor rfl rfl rfl (by decide +kernel) ⟨Nat.le_of_ble_eq_true rfl, Nat.le_of_ble_eq_true rfl⟩) rfl hl.1 rfl (Nat.le_of_ble_eq_true rfl) dX1_updateChanged_33 (by dsimp only; omega) (by dsimp only; omega) (fun r8 M7 H locs hp hw hS hz hk => ?_)
          rw [hp.2] at hw
          rw [hp.1, (ta_if hk2)]
          have ht1 : Mi (ad k) = some (.inr (6, [.ref (ad (10 + k)), .ref (ad (20 + k))])) := (hc1.1.2.1 k hk2).1
          refine lv_iload_n hx hb dX1_updateChanged_36 rfl (lv_at hl 1 rfl) ?_
          refine m_callVr X (ci := 6) rfl ht1 hK hw hZ hS hA (As := [.int (nI j)]) (rest := []) (c_rowAt l G dce _ Mi x ad y1 z1 hc1 k hk2 (nI j)) (cwV 1 hts gX1_updateChanged_X5_rowAt rfl rfl rfl (by decide +kernel) ⟨Nat.le_of_ble_eq_true rfl, Nat.le_of_ble_eq_true rfl⟩) rfl hl.1 rfl (Nat.le_of_ble_eq_true rfl) dX1_updateChanged_37 (by dsimp only; omega) (by dsimp only; omega) (fun r10 M9 H locs hp hw hS hz hk => ?_)
          rw [hp.2] at hw
          rw [hp.1, rA_in (hc1.n (by omega)) hkr]
          have hrwr : Mi ((yO y1 k j)) = some (eR (zR z1 k j)) := hc1.row hk2 hkr
          obtain ⟨rbr, rnr, rrr, rvr, hrvr⟩ : ∃ rbr rnr rrr rvr, (zR z1 k j) = (rbr, rnr, rrr, rvr) := ⟨_, _, _, _, rfl⟩
          have hrcr : Mi ((yO y1 k j)) = some (.inr (4, [.int (bI rbr), .int rnr, .int rrr, .int rvr])) := by rw [hrwr, hrvr]; rfl
          refine lv_astore (lv' := [(4, .ref (yO y1 k j)), (3, .ref (yO y1 (sL i k) j)), (2, .int (nI j)), (0, .ref h9), (1, .int (nI k))]) hx hb dX1_updateChanged_40 hl (by decide) rfl (fun ls hl => ?_)
          refine lv_aload hx hb dX1_updateChanged_42 (lv_at hl 0 rfl) ?_
          refine lv_aload_n hx hb dX1_updateChanged_44 rfl (lv_at hl 1 rfl) ?_
          refine m_get X iX0 hK hw hec rfl 3 (by decide) (ref := "ObjectMapper$Entity") (by decide +kernel) (Or.inl rfl) rfl dX1_updateChanged_45 ?_
          refine lv_aload_n hx hb dX1_updateChanged_48 rfl (lv_at hl 1 rfl) ?_
          refine m_get X iX0 hK hw hec rfl 4 (by decide) (ref := "ObjectMapper$Entity") (by decide +kernel) (Or.inl rfl) rfl dX1_updateChanged_49 ?_
          refine m_callVv X (ci := 4) rfl hrcr hK hw hZ hS hA (As := [.int nm, .int rf]) (rest := []) (c_X3_update l G dce _ Mi (yO y1 k j) (zR z1 k j) hrwr nm rf) (cwV 2 hts gX1_updateChanged_X3_update rfl rfl rfl (by decide +kernel) ⟨Nat.le_of_ble_eq_true rfl, Nat.le_of_ble_eq_true rfl⟩) rfl hl.1 rfl (Nat.le_of_ble_eq_true rfl) dX1_updateChanged_52 (by dsimp only; omega) (by dsimp only; omega) (fun M11 H locs hp hw hS hz hk => ?_)
          obtain ⟨zA, hzA⟩ : ∃ zA, zA = sR z1 k j (fUpd (zR z1 k j) (eNm (zE z1 (sL i k) j)) (eRf (zE z1 (sL i k) j))) := ⟨_, rfl⟩
          obtain ⟨hcA, hsA⟩ := hc1.setR (M1 := M11) (u := k) (k := j) (v := (fUpd (zR z1 k j) (eNm (zE z1 (sL i k) j)) (eRf (zE z1 (sL i k) j)))) hk2 hkr (by rw [hp, hev]; rfl)
          rw [← hzA] at hcA hsA
          have hFA : M11 h9 = some (.inr (2, [.ref (ad (4 + i)), .ref (ad 0), .ref (ad 1), .ref (ad 2)])) := hsA.1 h9 _ hF1 (hc1.nF hF1)
          have hjA : M11 (ad 2) = some (.inr (3, [.int (nI (zW zA)), .ref (yX y1 8), .ref (yX y1 9)])) := hcA.2.2.2.1.1
          refine lv_aload_n hx hb dX1_updateChanged_55 rfl (lv_at hl 3 rfl) ?_
          refine m_get X iX1 hK hw hFA rfl 3 (by decide) (ref := "ObjectMapper$Flush") (by decide +kernel) (Or.inl rfl) rfl dX1_updateChanged_56 ?_
          refine lv_iconst (v := 1) hx hb dX1_updateChanged_59 (by decide) ?_
          refine lv_iload_n hx hb dX1_updateChanged_60 rfl (lv_at hl 4 rfl) ?_
          refine lv_iload_n hx hb dX1_updateChanged_61 rfl (lv_at hl 2 rfl) ?_
          obtain ⟨zB, hzB⟩ : ∃ zB, zB = kUd i k j z1 := ⟨_, rfl⟩
          have hFj : (kUp i k) j z1 = zB := by rw [hzB]; exact if_pos (bI_t c_28)
          rw [hFj] at hm3 hm4
          refine m_callVv X (ci := 3) rfl hjA hK hw hZ hS hA (As := [.int 1, .int (nI k), .int (nI j)]) (rest := []) (c_note l G dce _ M11 x ad y1 zA hcA k j hk2 1 (by rw [hzA]; show zW z1 < _; omega) (zC zB - zC z1) (4 * (zC zB - zC z1)) (by rw [hzA, hzB]; exact (kNo_room hc1 1 k j).2)) (cwV 3 hts gX1_updateChanged_X2_note rfl rfl rfl (by decide +kernel) ⟨Nat.le_of_ble_eq_true rfl, Nat.le_of_ble_eq_true rfl⟩) rfl hl.1 rfl (Nat.le_of_ble_eq_true rfl) dX1_updateChanged_62 (by dsimp only; omega) (by dsimp only; omega) (fun M12 H locs hp hw hS hz hk => ?_)
          obtain ⟨yB, hoB, hcB, hsB⟩ := hp
          have hrB : M12 (yO y1 k j) = some (eR (fUpd (zR z1 k j) (eNm (zE z1 (sL i k) j)) (eRf (zE z1 (sL i k) j)))) := by
            have h := hcB.row (u := k) (k := j) hk2 (by rw [hzA]; exact hkr)
            rw [hoB] at h
            rw [h, hzA]
            show some (eR (up2 (zR z1) k j (fUpd (zR z1 k j) (eNm (zE z1 (sL i k) j)) (eRf (zE z1 (sL i k) j))) k j)) = _
            rw [up2_s]
          have henB : M12 ((yO y1 (sL i k) j)) = some (eE (zE z1 (sL i k) j)) := by have h := hcB.ent (u := sL i k) (k := j) (by unfold sL; omega) (by unfold sL; omega) (by rw [hzA]; exact hjk1); rw [hoB] at h; rw [h, hzA]; rfl
          obtain ⟨b1B, b2B, b3B, nmB, rfB, snB, srB, svB, hevB⟩ : ∃ b1B b2B b3B nmB rfB snB srB svB, (zE z1 (sL i k) j) = (b1B, b2B, b3B, nmB, rfB, snB, srB, svB) := ⟨_, _, _, _, _, _, _, _, rfl⟩
          have hecB : M12 ((yO y1 (sL i k) j)) = some (.inr (1, [.int (bI b1B), .int (bI b2B), .int (bI b3B), .int nmB, .int rfB, .int snB, .int srB, .int svB])) := by rw [henB, hevB]; rfl
          refine lv_aload_n hx hb dX1_updateChanged_65 rfl (lv_at hl 1 rfl) ?_
          refine lv_aload hx hb dX1_updateChanged_66 (lv_at hl 0 rfl) ?_
          refine m_callVv X (ci := 1) rfl hecB hK hw hZ hS hA (As := [.ref (yO y1 k j)]) (rest := []) (c_X0_takeSnapshot l G dce _ M12 (yO y1 (sL i k) j) (zE z1 (sL i k) j) henB (yO y1 k j) (fUpd (zR z1 k j) (eNm (zE z1 (sL i k) j)) (eRf (zE z1 (sL i k) j))) hrB) (cwV 1 hts gX1_updateChanged_X0_takeSnapshot rfl rfl rfl (by decide +kernel) ⟨Nat.le_of_ble_eq_true rfl, Nat.le_of_ble_eq_true rfl⟩) rfl hl.1 rfl (Nat.le_of_ble_eq_true rfl) dX1_updateChanged_68 (by dsimp only; omega) (by dsimp only; omega) (fun M13 H locs hp hw hS hz hk => ?_)
          obtain ⟨hcC, hsC⟩ := hcB.setE (M1 := M13) (u := sL i k) (k := j) (v := fSnap (zE z1 (sL i k) j) (fUpd (zR z1 k j) (eNm (zE z1 (sL i k) j)) (eRf (zE z1 (sL i k) j)))) (by unfold sL; omega) (by unfold sL; omega) (by rw [hzA]; exact hjk1) (by rw [hoB]; exact hp)
          have hto9 : cTo G dce x ad Mi y1 z1 M13 zB := ⟨yB, hoB, by rw [hzA] at hcC; rw [hzB]; exact hcC, by rw [hzA] at hsA hsB hsC; rw [hzB]; exact (hsA.tr hsB).tr hsC⟩
          refine W.widen (k := zC zB - zC z) (n := 4 * (zC zB - zC z)) (by omega) (by omega) ?_
          refine lv_iinc (v := (nI (j + 1))) (lv' := [(2, .int (nI (j + 1))), (4, .ref (yO y1 k j)), (3, .ref (yO y1 (sL i k) j)), (0, .ref h9), (1, .int (nI k))]) hx hb dX1_updateChanged_71 hl (k := 2) rfl (nI_1 _) (by decide) rfl (fun ls hl => ?_)
          refine lv_goto (tgt := 2) hx hb dX1_updateChanged_74 (by decide) ?_
          have hz2 : zB = itr (kUp i k) (j + 1) z := by
            show _ = (kUp i k) j (itr (kUp i k) j z)
            rw [← hz1]
            exact (hFj).symm
          exact ih (j + 1) zB M13 H locs ls (by omega) (by omega) hz2 (cTo.tr ho hs1 hto9) hw hS (lv_sub hl [0, 3, 4] rfl)
  exact loop ((zN z (sL i k)) + 1) 0 z M _ _ ls (Nat.zero_le _) (by omega) rfl (cTo.rf hcw) hw hS (lv_sub hl [0, 1, 2] rfl)
theorem c_updateChangedK (l : Launch) (G : gG) (dce sz : Nat) (M : gM) (x : Nat) (ad : Nat → Nat) (y : cY) (z : cZ) (hcw : CW G dce x ad M y z) (i : Nat) (hi : i < 3) (heq : cEq z) (h9 : Nat) (hF : M h9 = some (oF (ad (4 + i)) (ad 0) (ad 1) (ad 2))) (k : Nat) (hk2 : k < 2) (hw9 : zW z + 1024 ≤ 16384) (kc ks : Nat) (hkc : zC (itr (kUp i k) (zN z (sL i k)) z) - zC z ≤ kc) (hks : 4 * (zC (itr (kUp i k) (zN z (sL i k)) z) - zC z) ≤ ks) (kd : Int32) (hkd : kd = nI k) : mV l yX1_updateChanged wsX1_updateChanged ({ frames := 4, cells := kc, slots := ks, locals := 95 }) G dce sz M [.ref h9, .int kd] (fun M' => cTo G dce x ad M y z M' (itr (kUp i k) (zN z (sL i k)) z)) (kc) (ks) := by
  subst hkd
  exact c_updateChanged l G dce sz M x ad y z hcw i hi heq h9 hF k hk2 hw9 kc ks hkc hks
set_option maxHeartbeats 4000000 in
set_option maxRecDepth 100000 in
theorem c_deleteStruckOut (l : Launch) (G : gG) (dce sz : Nat) (M : gM) (x : Nat) (ad : Nat → Nat) (y : cY) (z : cZ) (hcw : CW G dce x ad M y z) (i : Nat) (hi : i < 3) (heq : cEq z) (h9 : Nat) (hF : M h9 = some (oF (ad (4 + i)) (ad 0) (ad 1) (ad 2))) (k : Nat) (hk2 : k < 2) (hw9 : zW z + 1024 ≤ 16384) (kc ks : Nat) (hkc : zC (itr (kDe i k) (zN z (sL i k)) z) - zC z ≤ kc) (hks : 4 * (zC (itr (kDe i k) (zN z (sL i k)) z) - zC z) ≤ ks) : mV l yX1_deleteStruckOut wsX1_deleteStruckOut ({ frames := 4, cells := kc, slots := ks, locals := 95 }) G dce sz M [.ref h9, .int (nI k)] (fun M' => cTo G dce x ad M y z M' (itr (kDe i k) (zN z (sL i k)) z)) (kc) (ks) := by
  have hF9 : M h9 = some (.inr (2, [.ref (ad (4 + i)), .ref (ad 0), .ref (ad 1), .ref (ad 2)])) := hF
  have hs9 : M (ad (4 + i)) = some (.inr (5, [.ref (ad (12 + 2 * i)), .ref (ad (13 + 2 * i)), .ref (ad (40 + i))])) := (hcw.1.2.2.2 i hi).1
  refine wMet (Qc := QV G _) (cc := cX1_deleteStruckOut) (maxL := 4) (ret := none) (by decide) rfl (Nat.le_of_ble_eq_true rfl) ?_
  intro p e s m below meth c A ls X hnm hw hK hZ hA hS hsz eA hl
  obtain ⟨hx, hb, hr, hts, hown, hlk, hml⟩ := id X
  have hl : lv_has ls 4 [(0, .ref h9), (1, .int (nI k))] := hl
  have iX0 : ∀ w ∈ wsX00, w ∈ wsX1_deleteStruckOut := by decide +kernel
  have iX1 : ∀ w ∈ wsX10, w ∈ wsX1_deleteStruckOut := by decide +kernel
  have iX3 : ∀ w ∈ wsX30, w ∈ wsX1_deleteStruckOut := by decide +kernel
  refine lv_iconst (v := 0) hx hb dX1_deleteStruckOut_0 (by decide) ?_
  refine lv_istore_n (lv' := [(2, .int 0), (0, .ref h9), (1, .int (nI k))]) hx hb dX1_deleteStruckOut_1 rfl hl (by decide) rfl (fun ls hl => ?_)
  refine W.widen (k := zC z - zC z) (n := 4 * (zC z - zC z)) (by omega) (by omega) ?_
  have loop : ∀ (d : Nat) (j : Nat) (z1 : cZ) (Mi : gM)  (H : Heap) (locs : List Loc) (ls : Array Slot), j ≤ (zN z (sL i k)) → (zN z (sL i k)) + 1 ≤ j + d → z1 = itr (kDe i k) j z → cTo G dce x ad M y z Mi z1 → wd G A Mi H → va_S A s.heap H locs → lv_has ls 4 [(2, .int (nI j)), (0, .ref h9), (1, .int (nI k))] → W p l e ({ frames := 4, cells := kc, slots := ks, locals := 95 }) s m [.ref h9, .int (nI k)].toArray below meth c H locs (zC z1 - zC z) (4 * (zC z1 - zC z)) (MQ below (QV G (fun M' => cTo G dce x ad M y z M' (itr (kDe i k) (zN z (sL i k)) z)) A) [.ref h9, .int (nI k)].toArray s (kc) (ks) A) (F0 m 2 ls []) := by
    intro d
    induction d with
    | zero => intro j z1 Mi H locs ls h1 h2; exact absurd h2 (by omega)
    | succ d ih =>
      intro j z1 Mi H locs ls hj1 hj2 hz1 hto hw hS hl
      obtain ⟨y1, ho, hc1, hs1⟩ := hto
      have hn1 : zN z1 = zN z := by rw [hz1]; exact itr_N (kDe_st i k).N j z
      have hjn : (zN z (sL i k)) ≤ 1024 := hcw.n (by unfold sL; omega)
      have hF1 : Mi h9 = some (oF (ad (4 + i)) (ad 0) (ad 1) (ad 2)) := hs1.1 h9 _ hF (hcw.nF hF)
      have hF2 : Mi h9 = some (.inr (2, [.ref (ad (4 + i)), .ref (ad 0), .ref (ad 1), .ref (ad 2)])) := hF1
      have hm1 : zC z ≤ zC z1 := by rw [hz1]; exact itr_C (n := 0) (kDe_st i k) (Nat.zero_le _) z
      have hm2 : zW z1 ≤ zW z + j := by rw [hz1]; exact itr_W (kDe_st i k) j z
      have hm0 : zC z1 ≤ zC (itr (kDe i k) (zN z (sL i k)) z) := by rw [hz1]; exact itr_C (kDe_st i k) hj1 z
      have heq1 : cEq z1 := fun i k h1 h2 => by rw [hn1]; exact heq i k h1 h2
      have hs9 : Mi (ad (4 + i)) = some (.inr (5, [.ref (ad (12 + 2 * i)), .ref (ad (13 + 2 * i)), .ref (ad (40 + i))])) := (hc1.1.2.2.2 i hi).1
      refine lv_iload_n hx hb dX1_deleteStruckOut_2 rfl (lv_at hl 0 rfl) ?_
      refine lv_aload_n hx hb dX1_deleteStruckOut_3 rfl (lv_at hl 1 rfl) ?_
      refine m_get X iX1 hK hw hF2 rfl 0 (by decide) (ref := "ObjectMapper$Flush") (by decide +kernel) (Or.inl rfl) rfl dX1_deleteStruckOut_4 ?_
      refine lv_iload_n hx hb dX1_deleteStruckOut_7 rfl (lv_at hl 2 rfl) ?_
      refine m_callVi X (ci := 5) rfl hs9 hK hw hZ hS hA (As := [.int (nI k)]) (rest := [.int (nI j)]) (c_sizeOfK l G dce _ Mi x ad y1 z1 hc1 i k hi hk2 (nI k) rfl) (cwV 1 hts gX1_deleteStruckOut_X4_sizeOf rfl rfl rfl (by decide +kernel) ⟨Nat.le_of_ble_eq_true rfl, Nat.le_of_ble_eq_true rfl⟩) rfl hl.1 rfl (Nat.le_of_ble_eq_true rfl) dX1_deleteStruckOut_8 (by dsimp only; omega) (by dsimp only; omega) (fun r2 M1 H locs hp hw hS hz hk => ?_)
      rw [hp.2] at hw
      rw [hp.1, hn1]
      refine lv_icmp_ge (tgt := 64) hx hb dX1_deleteStruckOut_11 (by decide) (fun c_11 => ?_) (fun c_11 => ?_)
      · have hkn : (zN z (sL i k)) ≤ j := (nI_leI (by omega) (by omega)).mp c_11
        have hjj : j = (zN z (sL i k)) := by omega
        rw [hjj] at hz1
        have hzc : zC z1 = zC (itr (kDe i k) (zN z (sL i k)) z) := congrArg zC hz1
        exact m_vret X hK hw hS (by rw [← hz1]; exact ⟨y1, ho, hc1, hs1⟩) (by omega) (by omega) dX1_deleteStruckOut_64
      · have hkl : j < (zN z (sL i k)) := Nat.lt_of_not_le (fun q => c_11 (nI_le q (by omega)))
        refine lv_aload_n hx hb dX1_deleteStruckOut_14 rfl (lv_at hl 1 rfl) ?_
        refine m_get X iX1 hK hw hF2 rfl 0 (by decide) (ref := "ObjectMapper$Flush") (by decide +kernel) (Or.inl rfl) rfl dX1_deleteStruckOut_15 ?_
        refine lv_iload_n hx hb dX1_deleteStruckOut_18 rfl (lv_at hl 2 rfl) ?_
        refine lv_iload_n hx hb dX1_deleteStruckOut_19 rfl (lv_at hl 0 rfl) ?_
        refine m_callVr X (ci := 5) rfl hs9 hK hw hZ hS hA (As := [.int (nI k), .int (nI j)]) (rest := []) (c_entityAtK l G dce _ Mi x ad y1 z1 hc1 i k hi hk2 (nI j) (nI k) rfl) (cwV 2 hts gX1_deleteStruckOut_X4_entityAt rfl rfl rfl (by decide +kernel) ⟨Nat.le_of_ble_eq_true rfl, Nat.le_of_ble_eq_true rfl⟩) rfl hl.1 rfl (Nat.le_of_ble_eq_true rfl) dX1_deleteStruckOut_20 (by dsimp only; omega) (by dsimp only; omega) (fun r4 M3 H locs hp hw hS hz hk => ?_)
        rw [hp.2] at hw
        have hjk1 : j < zN z1 (sL i k) := by rw [hn1]; exact hkl
        have hm3 : zC ((kDe i k) j z1) ≤ zC (itr (kDe i k) (zN z (sL i k)) z) := by rw [hz1]; exact itr_C (kDe_st i k) (show j + 1 ≤ (zN z (sL i k)) by omega) z
        have hm4 : zC z1 ≤ zC ((kDe i k) j z1) := ((kDe_st i k) j z1).2.1
        have hkr : j < zN z1 k := by rw [← heq1 i k hi hk2]; exact hjk1
        rw [hp.1, eA_in (hc1.n (by unfold sL; omega)) hjk1]
        have hen : Mi ((yO y1 (sL i k) j)) = some (eE (zE z1 (sL i k) j)) := hc1.ent (by unfold sL; omega) (by unfold sL; omega) hjk1
        obtain ⟨b1, b2, b3, nm, rf, sn, sr, sv, hev⟩ : ∃ b1 b2 b3 nm rf sn sr sv, (zE z1 (sL i k) j) = (b1, b2, b3, nm, rf, sn, sr, sv) := ⟨_, _, _, _, _, _, _, _, rfl⟩
        have hec : Mi ((yO y1 (sL i k) j)) = some (.inr (1, [.int (bI b1), .int (bI b2), .int (bI b3), .int nm, .int rf, .int sn, .int sr, .int sv])) := by rw [hen, hev]; rfl
        refine lv_astore_n (lv' := [(3, .ref (yO y1 (sL i k) j)), (2, .int (nI j)), (0, .ref h9), (1, .int (nI k))]) hx hb dX1_deleteStruckOut_23 rfl hl (by decide) rfl (fun ls hl => ?_)
        refine lv_aload_n hx hb dX1_deleteStruckOut_24 rfl (lv_at hl 0 rfl) ?_
        have hso : (zE z1 (sL i k) j).2.1 = b2 := by rw [hev]
        refine m_get X iX0 hK hw hec rfl 1 (by decide) (ref := "ObjectMapper$Entity") (by decide +kernel) (Or.inl rfl) rfl dX1_deleteStruckOut_25 ?_
        refine lv_if_eq (tgt := 58) hx hb dX1_deleteStruckOut_28 (by decide) (fun c_28 => ?_) (fun c_28 => ?_)
        · have hFj : (kDe i k) j z1 = z1 := if_neg (by rw [hso]; exact bI_f c_28)
          refine W.widen (k := zC z1 - zC z) (n := 4 * (zC z1 - zC z)) (by omega) (by omega) ?_
          refine lv_iinc (v := (nI (j + 1))) (lv' := [(2, .int (nI (j + 1))), (3, .ref (yO y1 (sL i k) j)), (0, .ref h9), (1, .int (nI k))]) hx hb dX1_deleteStruckOut_58 hl (k := 1) rfl (nI_1 _) (by decide) rfl (fun ls hl => ?_)
          refine lv_goto (tgt := 2) hx hb dX1_deleteStruckOut_61 (by decide) ?_
          have hz2 : z1 = itr (kDe i k) (j + 1) z := by
            show _ = (kDe i k) j (itr (kDe i k) j z)
            rw [← hz1]
            exact (hFj).symm
          exact ih (j + 1) z1 Mi H locs ls (by omega) (by omega) hz2 (⟨y1, ho, hc1, hs1⟩) hw hS (lv_sub hl [0, 2, 3] rfl)
        · refine lv_aload_n hx hb dX1_deleteStruckOut_31 rfl (lv_at hl 2 rfl) ?_
          refine lv_iload_n hx hb dX1_deleteStruckOut_32 rfl (lv_at hl 3 rfl) ?_
          refine m_callVr X (ci := 2) rfl hF2 hK hw hZ hS hA (As := [.int (nI k)]) (rest := []) (c_X1_tableFor l G dce _ Mi h9 (ad (4 + i)) (ad 0) (ad 1) (ad 2) hF1 (nI k)) (cwV 1 hts gX1_deleteStruckOut_X1_tableFor rfl rfl rfl (by decide +kernel) ⟨Nat.le_of_ble_eq_true rfl, Nat.le_of_ble_eq_true rfl⟩) rfl hl.1 rfl (Nat.le_of_ble_eq_true rfl) dX1_deleteStruckOut_33 (by dsimp only; omega) (by dsimp only; omega) (fun r6 M5 H locs hp hw hS hz hk => ?_)
          rw [hp.2] at hw
          rw [hp.1, (ta_if hk2)]
          have ht1 : Mi (ad k) = some (.inr (6, [.ref (ad (10 + k)), .ref (ad (20 + k))])) := (hc1.1.2.1 k hk2).1
          refine lv_iload_n hx hb dX1_deleteStruckOut_36 rfl (lv_at hl 1 rfl) ?_
          refine m_callVr X (ci := 6) rfl ht1 hK hw hZ hS hA (As := [.int (nI j)]) (rest := []) (c_rowAt l G dce _ Mi x ad y1 z1 hc1 k hk2 (nI j)) (cwV 1 hts gX1_deleteStruckOut_X5_rowAt rfl rfl rfl (by decide +kernel) ⟨Nat.le_of_ble_eq_true rfl, Nat.le_of_ble_eq_true rfl⟩) rfl hl.1 rfl (Nat.le_of_ble_eq_true rfl) dX1_deleteStruckOut_37 (by dsimp only; omega) (by dsimp only; omega) (fun r8 M7 H locs hp hw hS hz hk => ?_)
          rw [hp.2] at hw
          rw [hp.1, rA_in (hc1.n (by omega)) hkr]
          have hrwr : Mi ((yO y1 k j)) = some (eR (zR z1 k j)) := hc1.row hk2 hkr
          obtain ⟨rbr, rnr, rrr, rvr, hrvr⟩ : ∃ rbr rnr rrr rvr, (zR z1 k j) = (rbr, rnr, rrr, rvr) := ⟨_, _, _, _, rfl⟩
          have hrcr : Mi ((yO y1 k j)) = some (.inr (4, [.int (bI rbr), .int rnr, .int rrr, .int rvr])) := by rw [hrwr, hrvr]; rfl
          refine lv_iconst (v := 0) hx hb dX1_deleteStruckOut_40 (by decide) ?_
          refine m_put X iX3 tyX3_ok nmX3 hK hw hS hrcr rfl 0 (by decide) (ref := "ObjectMapper$Row") (by decide +kernel) (Or.inl rfl) rfl (v := .int 0) (by decide) (by decide) (Nat.le_of_ble_eq_true rfl) (fs1 := [.int 0, .int rnr, .int rrr, .int rvr]) rfl dX1_deleteStruckOut_41 (fun M9 H locs eM9 hw hS => ?_)
          have k10 := (congrFun eM9 h9).trans (mu_g hF2 (gM_ne hF2 hrcr (by simp)))
          have k11 := (congrFun eM9 ((ad (4 + i)))).trans (mu_g hs9 (gM_ne hs9 hrcr (by simp)))
          have k12 := (congrFun eM9 ((yO y1 (sL i k) j))).trans (mu_g hec (gM_ne hec hrcr (by simp)))
          have k13 := (congrFun eM9 ((ad k))).trans (mu_g ht1 (gM_ne ht1 hrcr (by simp)))
          have k14 : M9 ((yO y1 k j)) = some (.inr (4, [.int 0, .int rnr, .int rrr, .int rvr])) := by rw [eM9]; exact mu_s _ _ _
          obtain ⟨zA, hzA⟩ : ∃ zA, zA = sR z1 k j (fGo (zR z1 k j)) := ⟨_, rfl⟩
          obtain ⟨hcA, hsA⟩ := hc1.setR (M1 := M9) (u := k) (k := j) (v := (fGo (zR z1 k j))) hk2 hkr (by rw [eM9, hrvr]; rfl)
          rw [← hzA] at hcA hsA
          have hFA : M9 h9 = some (.inr (2, [.ref (ad (4 + i)), .ref (ad 0), .ref (ad 1), .ref (ad 2)])) := hsA.1 h9 _ hF1 (hc1.nF hF1)
          have hjA : M9 (ad 2) = some (.inr (3, [.int (nI (zW zA)), .ref (yX y1 8), .ref (yX y1 9)])) := hcA.2.2.2.1.1
          refine lv_aload_n hx hb dX1_deleteStruckOut_44 rfl (lv_at hl 2 rfl) ?_
          refine m_get X iX1 hK hw hFA rfl 3 (by decide) (ref := "ObjectMapper$Flush") (by decide +kernel) (Or.inl rfl) rfl dX1_deleteStruckOut_45 ?_
          refine lv_iconst (v := 2) hx hb dX1_deleteStruckOut_48 (by decide) ?_
          refine lv_iload_n hx hb dX1_deleteStruckOut_49 rfl (lv_at hl 3 rfl) ?_
          refine lv_iload_n hx hb dX1_deleteStruckOut_50 rfl (lv_at hl 1 rfl) ?_
          obtain ⟨zB, hzB⟩ : ∃ zB, zB = kDl i k j z1 := ⟨_, rfl⟩
          have hFj : (kDe i k) j z1 = zB := by rw [hzB]; exact if_pos (by rw [hso]; exact bI_t c_28)
          rw [hFj] at hm3 hm4
          refine m_callVv X (ci := 3) rfl hjA hK hw hZ hS hA (As := [.int 2, .int (nI k), .int (nI j)]) (rest := []) (c_note l G dce _ M9 x ad y1 zA hcA k j hk2 2 (by rw [hzA]; show zW z1 < _; omega) (zC zB - zC z1) (4 * (zC zB - zC z1)) (by rw [hzA, hzB]; exact (kNo_room hc1 2 k j).2)) (cwV 3 hts gX1_deleteStruckOut_X2_note rfl rfl rfl (by decide +kernel) ⟨Nat.le_of_ble_eq_true rfl, Nat.le_of_ble_eq_true rfl⟩) rfl hl.1 rfl (Nat.le_of_ble_eq_true rfl) dX1_deleteStruckOut_51 (by dsimp only; omega) (by dsimp only; omega) (fun M15 H locs hp hw hS hz hk => ?_)
          obtain ⟨yB, hoB, hcB, hsB⟩ := hp
          have hrB : M15 (yO y1 k j) = some (eR (fGo (zR z1 k j))) := by
            have h := hcB.row (u := k) (k := j) hk2 (by rw [hzA]; exact hkr)
            rw [hoB] at h
            rw [h, hzA]
            show some (eR (up2 (zR z1) k j (fGo (zR z1 k j)) k j)) = _
            rw [up2_s]
          have henB : M15 ((yO y1 (sL i k) j)) = some (eE (zE z1 (sL i k) j)) := by have h := hcB.ent (u := sL i k) (k := j) (by unfold sL; omega) (by unfold sL; omega) (by rw [hzA]; exact hjk1); rw [hoB] at h; rw [h, hzA]; rfl
          obtain ⟨b1B, b2B, b3B, nmB, rfB, snB, srB, svB, hevB⟩ : ∃ b1B b2B b3B nmB rfB snB srB svB, (zE z1 (sL i k) j) = (b1B, b2B, b3B, nmB, rfB, snB, srB, svB) := ⟨_, _, _, _, _, _, _, _, rfl⟩
          have hecB : M15 ((yO y1 (sL i k) j)) = some (.inr (1, [.int (bI b1B), .int (bI b2B), .int (bI b3B), .int nmB, .int rfB, .int snB, .int srB, .int svB])) := by rw [henB, hevB]; rfl
          refine lv_aload_n hx hb dX1_deleteStruckOut_54 rfl (lv_at hl 0 rfl) ?_
          refine m_callVv X (ci := 1) rfl hecB hK hw hZ hS hA (As := []) (rest := []) (c_X0_forget l G dce _ M15 (yO y1 (sL i k) j) (zE z1 (sL i k) j) henB) (cwV 0 hts gX1_deleteStruckOut_X0_forget rfl rfl rfl (by decide +kernel) ⟨Nat.le_of_ble_eq_true rfl, Nat.le_of_ble_eq_true rfl⟩) rfl hl.1 rfl (Nat.le_of_ble_eq_true rfl) dX1_deleteStruckOut_55 (by dsimp only; omega) (by dsimp only; omega) (fun M16 H locs hp hw hS hz hk => ?_)
          obtain ⟨hcC, hsC⟩ := hcB.setE (M1 := M16) (u := sL i k) (k := j) (v := fForget (zE z1 (sL i k) j)) (by unfold sL; omega) (by unfold sL; omega) (by rw [hzA]; exact hjk1) (by rw [hoB]; exact hp)
          have hto9 : cTo G dce x ad Mi y1 z1 M16 zB := ⟨yB, hoB, by rw [hzA] at hcC; rw [hzB]; exact hcC, by rw [hzA] at hsA hsB hsC; rw [hzB]; exact (hsA.tr hsB).tr hsC⟩
          refine W.widen (k := zC zB - zC z) (n := 4 * (zC zB - zC z)) (by omega) (by omega) ?_
          refine lv_iinc (v := (nI (j + 1))) (lv' := [(2, .int (nI (j + 1))), (3, .ref (yO y1 (sL i k) j)), (0, .ref h9), (1, .int (nI k))]) hx hb dX1_deleteStruckOut_58 hl (k := 1) rfl (nI_1 _) (by decide) rfl (fun ls hl => ?_)
          refine lv_goto (tgt := 2) hx hb dX1_deleteStruckOut_61 (by decide) ?_
          have hz2 : zB = itr (kDe i k) (j + 1) z := by
            show _ = (kDe i k) j (itr (kDe i k) j z)
            rw [← hz1]
            exact (hFj).symm
          exact ih (j + 1) zB M16 H locs ls (by omega) (by omega) hz2 (cTo.tr ho hs1 hto9) hw hS (lv_sub hl [0, 2, 3] rfl)
  exact loop ((zN z (sL i k)) + 1) 0 z M _ _ ls (Nat.zero_le _) (by omega) rfl (cTo.rf hcw) hw hS (lv_sub hl [0, 1, 2] rfl)
theorem c_deleteStruckOutK (l : Launch) (G : gG) (dce sz : Nat) (M : gM) (x : Nat) (ad : Nat → Nat) (y : cY) (z : cZ) (hcw : CW G dce x ad M y z) (i : Nat) (hi : i < 3) (heq : cEq z) (h9 : Nat) (hF : M h9 = some (oF (ad (4 + i)) (ad 0) (ad 1) (ad 2))) (k : Nat) (hk2 : k < 2) (hw9 : zW z + 1024 ≤ 16384) (kc ks : Nat) (hkc : zC (itr (kDe i k) (zN z (sL i k)) z) - zC z ≤ kc) (hks : 4 * (zC (itr (kDe i k) (zN z (sL i k)) z) - zC z) ≤ ks) (kd : Int32) (hkd : kd = nI k) : mV l yX1_deleteStruckOut wsX1_deleteStruckOut ({ frames := 4, cells := kc, slots := ks, locals := 95 }) G dce sz M [.ref h9, .int kd] (fun M' => cTo G dce x ad M y z M' (itr (kDe i k) (zN z (sL i k)) z)) (kc) (ks) := by
  subst hkd
  exact c_deleteStruckOut l G dce sz M x ad y z hcw i hi heq h9 hF k hk2 hw9 kc ks hkc hks
def kF1 (i : Nat) (z : cZ) : cZ := itr (kIa i) (zN z (sL i 0)) z
def kF2 (i : Nat) (z : cZ) : cZ := itr (kIb i) (zN z (sL i 1)) z
def kF3 (i k : Nat) (z : cZ) : cZ := itr (kUp i k) (zN z (sL i k)) z
def kF4 (i k : Nat) (z : cZ) : cZ := itr (kDe i k) (zN z (sL i k)) z
def kFl (i : Nat) (z : cZ) : cZ := kF4 i 0 (kF4 i 1 (kF3 i 1 (kF3 i 0 (kF2 i (kF1 i z)))))
theorem itr_st {F : Nat → cZ → cZ} (h : fStp F) (n : Nat) (z : cZ) : zN (itr F n z) = zN z ∧ zC z ≤ zC (itr F n z) ∧ zW (itr F n z) ≤ zW z + n := ⟨itr_N h.N n z, itr_C (n := 0) h (Nat.zero_le _) z, itr_W h n z⟩
set_option maxHeartbeats 4000000 in
set_option maxRecDepth 100000 in
theorem c_doWrites (l : Launch) (G : gG) (dce sz : Nat) (M : gM) (x : Nat) (ad : Nat → Nat) (y : cY) (z : cZ) (hcw : CW G dce x ad M y z) (i : Nat) (hi : i < 3) (heq : cEq z) (h9 : Nat) (hF : M h9 = some (oF (ad (4 + i)) (ad 0) (ad 1) (ad 2))) (hw9 : zW z + 8192 ≤ 16384) (kc ks : Nat) (hkc : zC (kFl i z) - zC z ≤ kc) (hks : 4 * (zC (kFl i z) - zC z) ≤ ks) : mV l yX1_doWrites wsX1_doWrites ({ frames := 6, cells := kc, slots := ks, locals := 143 }) G dce sz M [.ref h9] (fun M' => cTo G dce x ad M y z M' (kFl i z)) (kc) (ks) := by
  have hF9 : M h9 = some (.inr (2, [.ref (ad (4 + i)), .ref (ad 0), .ref (ad 1), .ref (ad 2)])) := hF
  have hs9 : M (ad (4 + i)) = some (.inr (5, [.ref (ad (12 + 2 * i)), .ref (ad (13 + 2 * i)), .ref (ad (40 + i))])) := (hcw.1.2.2.2 i hi).1
  have hn0 := hcw.n (u := sL i 0) (by unfold sL; omega)
  have hn1 := hcw.n (u := sL i 1) (by unfold sL; omega)
  obtain ⟨w0, ew0⟩ : ∃ w0, w0 = kF1 i z := ⟨_, rfl⟩
  obtain ⟨nw0, cw0, mw0⟩ : zN w0 = zN z ∧ zC z ≤ zC w0 ∧ zW w0 ≤ zW z + zN z (sL i 0) := by rw [ew0]; exact itr_st (kIa_st i) _ _
  obtain ⟨w1, ew1⟩ : ∃ w1, w1 = kF2 i w0 := ⟨_, rfl⟩
  obtain ⟨nw1, cw1, mw1⟩ : zN w1 = zN w0 ∧ zC w0 ≤ zC w1 ∧ zW w1 ≤ zW w0 + zN w0 (sL i 1) := by rw [ew1]; exact itr_st (kIb_st i) _ _
  obtain ⟨w2, ew2⟩ : ∃ w2, w2 = kF3 i 0 w1 := ⟨_, rfl⟩
  obtain ⟨nw2, cw2, mw2⟩ : zN w2 = zN w1 ∧ zC w1 ≤ zC w2 ∧ zW w2 ≤ zW w1 + zN w1 (sL i 0) := by rw [ew2]; exact itr_st (kUp_st i 0) _ _
  obtain ⟨w3, ew3⟩ : ∃ w3, w3 = kF3 i 1 w2 := ⟨_, rfl⟩
  obtain ⟨nw3, cw3, mw3⟩ : zN w3 = zN w2 ∧ zC w2 ≤ zC w3 ∧ zW w3 ≤ zW w2 + zN w2 (sL i 1) := by rw [ew3]; exact itr_st (kUp_st i 1) _ _
  obtain ⟨w4, ew4⟩ : ∃ w4, w4 = kF4 i 1 w3 := ⟨_, rfl⟩
  obtain ⟨nw4, cw4, mw4⟩ : zN w4 = zN w3 ∧ zC w3 ≤ zC w4 ∧ zW w4 ≤ zW w3 + zN w3 (sL i 1) := by rw [ew4]; exact itr_st (kDe_st i 1) _ _
  obtain ⟨w5, ew5⟩ : ∃ w5, w5 = kF4 i 0 w4 := ⟨_, rfl⟩
  obtain ⟨nw5, cw5, mw5⟩ : zN w5 = zN w4 ∧ zC w4 ≤ zC w5 ∧ zW w5 ≤ zW w4 + zN w4 (sL i 0) := by rw [ew5]; exact itr_st (kDe_st i 0) _ _
  have xw0 : zN w0 = zN z := nw0
  have xw1 : zN w1 = zN z := nw1.trans xw0
  have xw2 : zN w2 = zN z := nw2.trans xw1
  have xw3 : zN w3 = zN z := nw3.trans xw2
  have xw4 : zN w4 = zN z := nw4.trans xw3
  have xw5 : zN w5 = zN z := nw5.trans xw4
  have eF : kFl i z = w5 := by rw [ew5, ew4, ew3, ew2, ew1, ew0]; rfl
  rw [xw0] at mw1
  rw [xw1] at mw2
  rw [xw2] at mw3
  rw [xw3] at mw4
  rw [xw4] at mw5
  rw [eF] at hkc hks
  refine wMet (Qc := QV G _) (cc := cX1_doWrites) (maxL := 1) (ret := none) (by decide) rfl (Nat.le_of_ble_eq_true rfl) ?_
  intro p e s m below meth c A ls X hnm hw hK hZ hA hS hsz eA hl
  obtain ⟨hx, hb, hr, hts, hown, hlk, hml⟩ := id X
  have hl : lv_has ls 1 [(0, .ref h9)] := hl
  refine lv_aload_n hx hb dX1_doWrites_0 rfl (lv_at hl 0 rfl) ?_
  refine m_callVv X (ci := 2) rfl hF9 hK hw hZ hS hA (As := []) (rest := []) (c_insertAuthors l G dce _ M x ad y z hcw i hi heq h9 hF (by omega) (zC w0 - zC z) (4 * (zC w0 - zC z)) (by rw [ew0]; exact Nat.le_refl _) (by rw [ew0]; exact Nat.le_refl _)) (cwV 0 hts gX1_doWrites_X1_insertAuthors rfl rfl rfl (by decide +kernel) ⟨Nat.le_of_ble_eq_true rfl, Nat.le_of_ble_eq_true rfl⟩) rfl hl.1 rfl (Nat.le_of_ble_eq_true rfl) dX1_doWrites_1 (by dsimp only; omega) (by dsimp only; omega) (fun M1 H locs hp hw hS hz hk => ?_)
  have hp : cTo G dce x ad M y z M1 w0 := by rw [ew0]; exact hp
  obtain ⟨y19, ho19, hc19, hs19⟩ := hp
  have hF19 : M1 h9 = some (oF (ad (4 + i)) (ad 0) (ad 1) (ad 2)) := hs19.1 h9 _ hF (hcw.nF hF)
  have hF18 : M1 h9 = some (.inr (2, [.ref (ad (4 + i)), .ref (ad 0), .ref (ad 1), .ref (ad 2)])) := hF19
  refine lv_aload_n hx hb dX1_doWrites_4 rfl (lv_at hl 0 rfl) ?_
  refine m_callVv X (ci := 2) rfl hF18 hK hw hZ hS hA (As := []) (rest := []) (c_insertBooks l G dce _ M1 x ad y19 w0 hc19 i hi (fun i k h1 h2 => by rw [xw0]; exact heq i k h1 h2) h9 hF19 (by omega) (zC w1 - zC w0) (4 * (zC w1 - zC w0)) (by rw [ew1]; exact Nat.le_refl _) (by rw [ew1]; exact Nat.le_refl _)) (cwV 0 hts gX1_doWrites_X1_insertBooks rfl rfl rfl (by decide +kernel) ⟨Nat.le_of_ble_eq_true rfl, Nat.le_of_ble_eq_true rfl⟩) rfl hl.1 rfl (Nat.le_of_ble_eq_true rfl) dX1_doWrites_5 (by dsimp only; omega) (by dsimp only; omega) (fun M2 H locs hp hw hS hz hk => ?_)
  have hp : cTo G dce x ad M1 y19 w0 M2 w1 := by rw [ew1]; exact hp
  obtain ⟨y29, ho29, hc29, hs29⟩ := hp
  have hF29 : M2 h9 = some (oF (ad (4 + i)) (ad 0) (ad 1) (ad 2)) := hs29.1 h9 _ hF19 (hc19.nF hF19)
  have hF28 : M2 h9 = some (.inr (2, [.ref (ad (4 + i)), .ref (ad 0), .ref (ad 1), .ref (ad 2)])) := hF29
  refine lv_aload_n hx hb dX1_doWrites_8 rfl (lv_at hl 0 rfl) ?_
  refine lv_iconst (v := 0) hx hb dX1_doWrites_9 (by decide) ?_
  refine m_callVv X (ci := 2) rfl hF28 hK hw hZ hS hA (As := [.int 0]) (rest := []) (c_updateChangedK l G dce _ M2 x ad y29 w1 hc29 i hi (fun i k h1 h2 => by rw [xw1]; exact heq i k h1 h2) h9 hF29 0 (by decide) (by omega) (zC w2 - zC w1) (4 * (zC w2 - zC w1)) (by rw [ew2]; exact Nat.le_refl _) (by rw [ew2]; exact Nat.le_refl _) 0 (by decide)) (cwV 1 hts gX1_doWrites_X1_updateChanged rfl rfl rfl (by decide +kernel) ⟨Nat.le_of_ble_eq_true rfl, Nat.le_of_ble_eq_true rfl⟩) rfl hl.1 rfl (Nat.le_of_ble_eq_true rfl) dX1_doWrites_10 (by dsimp only; omega) (by dsimp only; omega) (fun M3 H locs hp hw hS hz hk => ?_)
  have hp : cTo G dce x ad M2 y29 w1 M3 w2 := by rw [ew2]; exact hp
  obtain ⟨y39, ho39, hc39, hs39⟩ := hp
  have hF39 : M3 h9 = some (oF (ad (4 + i)) (ad 0) (ad 1) (ad 2)) := hs39.1 h9 _ hF29 (hc29.nF hF29)
  have hF38 : M3 h9 = some (.inr (2, [.ref (ad (4 + i)), .ref (ad 0), .ref (ad 1), .ref (ad 2)])) := hF39
  refine lv_aload_n hx hb dX1_doWrites_13 rfl (lv_at hl 0 rfl) ?_
  refine lv_iconst (v := 1) hx hb dX1_doWrites_14 (by decide) ?_
  refine m_callVv X (ci := 2) rfl hF38 hK hw hZ hS hA (As := [.int 1]) (rest := []) (c_updateChangedK l G dce _ M3 x ad y39 w2 hc39 i hi (fun i k h1 h2 => by rw [xw2]; exact heq i k h1 h2) h9 hF39 1 (by decide) (by omega) (zC w3 - zC w2) (4 * (zC w3 - zC w2)) (by rw [ew3]; exact Nat.le_refl _) (by rw [ew3]; exact Nat.le_refl _) 1 (by decide)) (cwV 1 hts gX1_doWrites_X1_updateChanged rfl rfl rfl (by decide +kernel) ⟨Nat.le_of_ble_eq_true rfl, Nat.le_of_ble_eq_true rfl⟩) rfl hl.1 rfl (Nat.le_of_ble_eq_true rfl) dX1_doWrites_15 (by dsimp only; omega) (by dsimp only; omega) (fun M4 H locs hp hw hS hz hk => ?_)
  have hp : cTo G dce x ad M3 y39 w2 M4 w3 := by rw [ew3]; exact hp
  obtain ⟨y49, ho49, hc49, hs49⟩ := hp
  have hF49 : M4 h9 = some (oF (ad (4 + i)) (ad 0) (ad 1) (ad 2)) := hs49.1 h9 _ hF39 (hc39.nF hF39)
  have hF48 : M4 h9 = some (.inr (2, [.ref (ad (4 + i)), .ref (ad 0), .ref (ad 1), .ref (ad 2)])) := hF49
  refine lv_aload_n hx hb dX1_doWrites_18 rfl (lv_at hl 0 rfl) ?_
  refine lv_iconst (v := 1) hx hb dX1_doWrites_19 (by decide) ?_
  refine m_callVv X (ci := 2) rfl hF48 hK hw hZ hS hA (As := [.int 1]) (rest := []) (c_deleteStruckOutK l G dce _ M4 x ad y49 w3 hc49 i hi (fun i k h1 h2 => by rw [xw3]; exact heq i k h1 h2) h9 hF49 1 (by decide) (by omega) (zC w4 - zC w3) (4 * (zC w4 - zC w3)) (by rw [ew4]; exact Nat.le_refl _) (by rw [ew4]; exact Nat.le_refl _) 1 (by decide)) (cwV 1 hts gX1_doWrites_X1_deleteStruckOut rfl rfl rfl (by decide +kernel) ⟨Nat.le_of_ble_eq_true rfl, Nat.le_of_ble_eq_true rfl⟩) rfl hl.1 rfl (Nat.le_of_ble_eq_true rfl) dX1_doWrites_20 (by dsimp only; omega) (by dsimp only; omega) (fun M5 H locs hp hw hS hz hk => ?_)
  have hp : cTo G dce x ad M4 y49 w3 M5 w4 := by rw [ew4]; exact hp
  obtain ⟨y59, ho59, hc59, hs59⟩ := hp
  have hF59 : M5 h9 = some (oF (ad (4 + i)) (ad 0) (ad 1) (ad 2)) := hs59.1 h9 _ hF49 (hc49.nF hF49)
  have hF58 : M5 h9 = some (.inr (2, [.ref (ad (4 + i)), .ref (ad 0), .ref (ad 1), .ref (ad 2)])) := hF59
  refine lv_aload_n hx hb dX1_doWrites_23 rfl (lv_at hl 0 rfl) ?_
  refine lv_iconst (v := 0) hx hb dX1_doWrites_24 (by decide) ?_
  refine m_callVv X (ci := 2) rfl hF58 hK hw hZ hS hA (As := [.int 0]) (rest := []) (c_deleteStruckOutK l G dce _ M5 x ad y59 w4 hc59 i hi (fun i k h1 h2 => by rw [xw4]; exact heq i k h1 h2) h9 hF59 0 (by decide) (by omega) (zC w5 - zC w4) (4 * (zC w5 - zC w4)) (by rw [ew5]; exact Nat.le_refl _) (by rw [ew5]; exact Nat.le_refl _) 0 (by decide)) (cwV 1 hts gX1_doWrites_X1_deleteStruckOut rfl rfl rfl (by decide +kernel) ⟨Nat.le_of_ble_eq_true rfl, Nat.le_of_ble_eq_true rfl⟩) rfl hl.1 rfl (Nat.le_of_ble_eq_true rfl) dX1_doWrites_25 (by dsimp only; omega) (by dsimp only; omega) (fun M6 H locs hp hw hS hz hk => ?_)
  have hp : cTo G dce x ad M5 y59 w4 M6 w5 := by rw [ew5]; exact hp
  obtain ⟨y69, ho69, hc69, hs69⟩ := hp
  have hF69 : M6 h9 = some (oF (ad (4 + i)) (ad 0) (ad 1) (ad 2)) := hs69.1 h9 _ hF59 (hc59.nF hF59)
  have hF68 : M6 h9 = some (.inr (2, [.ref (ad (4 + i)), .ref (ad 0), .ref (ad 1), .ref (ad 2)])) := hF69
  exact m_vret X hK hw hS (by rw [eF]; exact cTo.tr ho19 hs19 (cTo.tr ho29 hs29 (cTo.tr ho39 hs39 (cTo.tr ho49 hs49 (cTo.tr ho59 hs59 (⟨y69, ho69, hc69, hs69⟩)))))) (by omega) (by omega) dX1_doWrites_28
