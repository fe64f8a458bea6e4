theorem CW.nF {G : gG} {dce x : Nat} {ad : Nat → Nat} {M : gM} {y : cY} {z : cZ} (h : CW G dce x ad M y z) {b p q r s : Nat} (hF : M b = some (oF p q r s)) : ¬ cOwn ad y z dce b := fun hb => by
  obtain ⟨-, hL, hEl, ⟨hj, ⟨hj1, hj2, -⟩, -⟩, -, -⟩ := h
  rcases hb with ⟨u, hu, e⟩ | ⟨u, hu, e, h0⟩ | ⟨u, k, hu, hk, e⟩ | e
  · obtain ⟨⟨mc, h1⟩, -⟩ := hL u hu
    rw [e, h1] at hF
    simp [oL, oF] at hF
  · by_cases h8 : u < 8
    · rcases (hL u h8).2 with ⟨h1, -⟩ | ⟨c0, g0, h1, -⟩
      · have := h0 h8
        omega
      · rw [e, h1] at hF
        simp [oA, oF] at hF
    · rcases (show u = 8 ∨ u = 9 by omega) with rfl | rfl
      · rw [e, hj1] at hF
        simp [oI, oF] at hF
      · rw [e, hj2] at hF
        simp [oI, oF] at hF
  · by_cases h2 : u < 2
    · rw [e, hEl.1 u k h2 hk] at hF
      obtain ⟨fs, hfs⟩ := eR_c (zR z u k)
      rw [hfs] at hF
      simp [oF] at hF
    · rw [e, hEl.2 u k (by omega) hu hk] at hF
      obtain ⟨fs, hfs⟩ := eE_c (zE z u k)
      rw [hfs] at hF
      simp [oF] at hF
  · rw [e, hj] at hF
    simp [oJ, oF] at hF
def fGo : vR → vR := fun (_, nm, rf, ve) => (false, nm, rf, ve)
def kIn (i k j : Nat) (rf : Int32) (z : cZ) : cZ := sE (kNo 0 k j (sR z k j (fIns (zR z k j) (eNm (zE z (sL i k) j)) rf))) (sL i k) j (fSnap (zE z (sL i k) j) (fIns (zR z k j) (eNm (zE z (sL i k) j)) rf))
def kUd (i k j : Nat) (z : cZ) : cZ := sE (kNo 1 k j (sR z k j (fUpd (zR z k j) (eNm (zE z (sL i k) j)) (eRf (zE z (sL i k) j))))) (sL i k) j (fSnap (zE z (sL i k) j) (fUpd (zR z k j) (eNm (zE z (sL i k) j)) (eRf (zE z (sL i k) j))))
def kDl (i k j : Nat) (z : cZ) : cZ := sE (kNo 2 k j (sR z k j (fGo (zR z k j)))) (sL i k) j (fForget (zE z (sL i k) j))
def kIa (i j : Nat) (z : cZ) : cZ := if fNew (zE z (sL i 0) j) = true then kIn i 0 j (if (rV z 1 (eRf (zE z (sL i 0) j))).1 = true then eRf (zE z (sL i 0) j) else -1) z else z
def kIb (i j : Nat) (z : cZ) : cZ := if fNew (zE z (sL i 1) j) = true then kIn i 1 j (eRf (zE z (sL i 1) j)) z else z
def kUp (i k j : Nat) (z : cZ) : cZ := if fChg (zE z (sL i k) j) = true then kUd i k j z else z
def kDe (i k j : Nat) (z : cZ) : cZ := if (zE z (sL i k) j).2.1 = true then kDl i k j z else z
/-- a step of a flush: sizes stay, the journal grows -/
def fStp (F : Nat → cZ → cZ) : Prop := ∀ j z, zN (F j z) = zN z ∧ zC z ≤ zC (F j z) ∧ zW (F j z) ≤ zW z + 1
theorem kIn_st (i k j : Nat) (rf : Int32) (z : cZ) : zN (kIn i k j rf z) = zN z ∧ zC z ≤ zC (kIn i k j rf z) ∧ zW (kIn i k j rf z) ≤ zW z + 1 := ⟨rfl, kNo_C 0 k j (sR z k j _), Nat.le_refl _⟩
theorem kUd_st (i k j : Nat) (z : cZ) : zN (kUd i k j z) = zN z ∧ zC z ≤ zC (kUd i k j z) ∧ zW (kUd i k j z) ≤ zW z + 1 := ⟨rfl, kNo_C 1 k j (sR z k j _), Nat.le_refl _⟩
theorem kDl_st (i k j : Nat) (z : cZ) : zN (kDl i k j z) = zN z ∧ zC z ≤ zC (kDl i k j z) ∧ zW (kDl i k j z) ≤ zW z + 1 := ⟨rfl, kNo_C 2 k j (sR z k j _), Nat.le_refl _⟩
theorem kIa_st (i : Nat) : fStp (kIa i) := fun j z => by
  unfold kIa
  split
  · exact kIn_st i 0 j _ z
  · exact ⟨rfl, Nat.le_refl _, by omega⟩
theorem kIb_st (i : Nat) : fStp (kIb i) := fun j z => by
  unfold kIb
  split
  · exact kIn_st i 1 j _ z
  · exact ⟨rfl, Nat.le_refl _, by omega⟩
theorem kUp_st (i k : Nat) : fStp (kUp i k) := fun j z => by
  unfold kUp
  split
  · exact kUd_st i k j z
  · exact ⟨rfl, Nat.le_refl _, by omega⟩
theorem kDe_st (i k : Nat) : fStp (kDe i k) := fun j z => by
  unfold kDe
  split
  · exact kDl_st i k j z
  · exact ⟨rfl, Nat.le_refl _, by omega⟩
theorem fStp.N {F : Nat → cZ → cZ} (h : fStp F) : ∀ j z, zN (F j z) = zN z := fun j z => (h j z).1
theorem itr_C {F : Nat → cZ → cZ} (h : fStp F) {n m : Nat} (hnm : n ≤ m) (z : cZ) : zC (itr F n z) ≤ zC (itr F m z) := by
  induction m with
  | zero => rw [show n = 0 by omega]; exact Nat.le_refl _
  | succ m ih =>
    by_cases e : n = m + 1
    · rw [e]; exact Nat.le_refl _
    · exact Nat.le_trans (ih (by omega)) (h m _).2.1
theorem itr_W {F : Nat → cZ → cZ} (h : fStp F) (n : Nat) (z : cZ) : zW (itr F n z) ≤ zW z + n := by
  induction n with
  | zero => exact Nat.le_refl _
  | succ n ih =>
    have := (h n (itr F n z)).2.2
    show zW (F n (itr F n z)) ≤ _
    omega
set_option maxHeartbeats 4000000 in
set_option maxRecDepth 100000 in
theorem c_insert (l : Launch) (G : gG) (dce sz : Nat) (M : gM) (x : Nat) (ad : Nat → Nat) (y : cY) (z : cZ) (hcw : CW G dce x ad M y z) (i : Nat) (hi : i < 3) (heq : cEq z) (h9 : Nat) (hF : M h9 = some (oF (ad (4 + i)) (ad 0) (ad 1) (ad 2))) (k : Nat) (hk2 : k < 2) (j : Nat) (hjk : j < zN z (sL i k)) (rf : Int32) (hw9 : zW z < 16384) (kc ks : Nat) (hkk : zW z < zC z ∨ (2 ≤ kc ∧ 4 * zW z ≤ ks)) : mV l yX1_insert wsX1_insert ({ frames := 4, cells := kc, slots := ks, locals := 95 }) G dce sz M [.ref h9, .ref (yO y (sL i k) j), .int (nI k), .int (nI j), .int rf] (fun M' => cTo G dce x ad M y z M' (kIn i k j rf z)) (kc) (ks) := by
  have hF9 : M h9 = some (.inr (2, [.ref (ad (4 + i)), .ref (ad 0), .ref (ad 1), .ref (ad 2)])) := hF
  have hs9 : M (ad (4 + i)) = some (.inr (5, [.ref (ad (12 + 2 * i)), .ref (ad (13 + 2 * i)), .ref (ad (40 + i))])) := (hcw.1.2.2.2 i hi).1
  have hkr : j < zN z k := by rw [← heq i k hi hk2]; exact hjk
  have hen : M (yO y (sL i k) j) = some (eE (zE z (sL i k) j)) := hcw.ent (by unfold sL; omega) (by unfold sL; omega) hjk
  obtain ⟨b1, b2, b3, nm, er, sn, sr, sv, hev⟩ : ∃ b1 b2 b3 nm er sn sr sv, (zE z (sL i k) j) = (b1, b2, b3, nm, er, sn, sr, sv) := ⟨_, _, _, _, _, _, _, _, rfl⟩
  have hec : M (yO y (sL i k) j) = some (.inr (1, [.int (bI b1), .int (bI b2), .int (bI b3), .int nm, .int er, .int sn, .int sr, .int sv])) := by rw [hen, hev]; rfl
  refine wMet (Qc := QV G _) (cc := cX1_insert) (maxL := 6) (ret := none) (by decide) rfl (Nat.le_of_ble_eq_true rfl) ?_
  intro p e s m below meth c A ls X hnm hw hK hZ hA hS hsz eA hl
  obtain ⟨hx, hb, hr, hts, hown, hlk, hml⟩ := id X
  have hl : lv_has ls 6 [(0, .ref h9), (1, .ref (yO y (sL i k) j)), (2, .int (nI k)), (3, .int (nI j)), (4, .int rf)] := hl
  have iX0 : ∀ w ∈ wsX00, w ∈ wsX1_insert := by decide +kernel
  have iX1 : ∀ w ∈ wsX10, w ∈ wsX1_insert := by decide +kernel
  refine lv_aload_n hx hb dX1_insert_0 rfl (lv_at hl 0 rfl) ?_
  refine lv_iload_n hx hb dX1_insert_1 rfl (lv_at hl 2 rfl) ?_
  refine m_callVr X (ci := 2) rfl hF9 hK hw hZ hS hA (As := [.int (nI k)]) (rest := []) (c_X1_tableFor l G dce _ M h9 (ad (4 + i)) (ad 0) (ad 1) (ad 2) hF (nI k)) (cwV 1 hts gX1_insert_X1_tableFor rfl rfl rfl (by decide +kernel) ⟨Nat.le_of_ble_eq_true rfl, Nat.le_of_ble_eq_true rfl⟩) rfl hl.1 rfl (Nat.le_of_ble_eq_true rfl) dX1_insert_2 (Nat.le_of_ble_eq_true rfl) (Nat.le_of_ble_eq_true rfl) (fun r2 M1 H locs hp hw hS hz hk => ?_)
  rw [hp.2] at hw
  rw [hp.1, (ta_if hk2)]
  have ht9 : M (ad k) = some (.inr (6, [.ref (ad (10 + k)), .ref (ad (20 + k))])) := (hcw.1.2.1 k hk2).1
  refine lv_iload_n hx hb dX1_insert_5 rfl (lv_at hl 3 rfl) ?_
  refine m_callVr X (ci := 6) rfl ht9 hK hw hZ hS hA (As := [.int (nI j)]) (rest := []) (c_rowAt l G dce _ M x ad y z hcw k hk2 (nI j)) (cwV 1 hts gX1_insert_X5_rowAt rfl rfl rfl (by decide +kernel) ⟨Nat.le_of_ble_eq_true rfl, Nat.le_of_ble_eq_true rfl⟩) rfl hl.1 rfl (Nat.le_of_ble_eq_true rfl) dX1_insert_6 (Nat.le_of_ble_eq_true rfl) (Nat.le_of_ble_eq_true rfl) (fun r4 M3 H locs hp hw hS hz hk => ?_)
  rw [hp.2] at hw
  rw [hp.1, rA_in (hcw.n (by omega)) hkr]
  have hrw : M ((yO y k j)) = some (eR (zR z k j)) := hcw.row hk2 hkr
  obtain ⟨rb, rn, rr, rv, hrv⟩ : ∃ rb rn rr rv, (zR z k j) = (rb, rn, rr, rv) := ⟨_, _, _, _, rfl⟩
  have hrc : M ((yO y k j)) = some (.inr (4, [.int (bI rb), .int rn, .int rr, .int rv])) := by rw [hrw, hrv]; rfl
  refine lv_astore (lv' := [(5, .ref (yO y k j)), (0, .ref h9), (1, .ref (yO y (sL i k) j)), (2, .int (nI k)), (3, .int (nI j)), (4, .int rf)]) hx hb dX1_insert_9 hl (by decide) rfl (fun ls hl => ?_)
  refine lv_aload hx hb dX1_insert_11 (lv_at hl 0 rfl) ?_
  refine lv_aload_n hx hb dX1_insert_13 rfl (lv_at hl 2 rfl) ?_
  refine m_get X iX0 hK hw hec rfl 3 (by decide) (ref := "ObjectMapper$Entity") (by decide +kernel) (Or.inl rfl) rfl dX1_insert_14 ?_
  refine lv_iload hx hb dX1_insert_17 (lv_at hl 5 rfl) ?_
  refine m_callVv X (ci := 4) rfl hrc hK hw hZ hS hA (As := [.int nm, .int rf]) (rest := []) (c_X3_insert l G dce _ M (yO y k j) (zR z k j) hrw nm rf) (cwV 2 hts gX1_insert_X3_insert rfl rfl rfl (by decide +kernel) ⟨Nat.le_of_ble_eq_true rfl, Nat.le_of_ble_eq_true rfl⟩) rfl hl.1 rfl (Nat.le_of_ble_eq_true rfl) dX1_insert_19 (Nat.le_of_ble_eq_true rfl) (Nat.le_of_ble_eq_true rfl) (fun M5 H locs hp hw hS hz hk => ?_)
  obtain ⟨zA, hzA⟩ : ∃ zA, zA = sR z k j (fIns (zR z k j) (eNm (zE z (sL i k) j)) rf) := ⟨_, rfl⟩
  obtain ⟨hcA, hsA⟩ := hcw.setR (u := k) (k := j) (v := (fIns (zR z k j) (eNm (zE z (sL i k) j)) rf)) hk2 hkr (by rw [hp, hev]; rfl)
  rw [← hzA] at hcA hsA
  have hFA : M5 h9 = some (.inr (2, [.ref (ad (4 + i)), .ref (ad 0), .ref (ad 1), .ref (ad 2)])) := hsA.1 h9 _ hF (hcw.nF hF)
  have hjA : M5 (ad 2) = some (.inr (3, [.int (nI (zW zA)), .ref (yX y 8), .ref (yX y 9)])) := hcA.2.2.2.1.1
  refine lv_aload_n hx hb dX1_insert_22 rfl (lv_at hl 1 rfl) ?_
  refine m_get X iX1 hK hw hFA rfl 3 (by decide) (ref := "ObjectMapper$Flush") (by decide +kernel) (Or.inl rfl) rfl dX1_insert_23 ?_
  refine lv_iconst (v := 0) hx hb dX1_insert_26 (by decide) ?_
  refine lv_iload_n hx hb dX1_insert_27 rfl (lv_at hl 3 rfl) ?_
  refine lv_iload_n hx hb dX1_insert_28 rfl (lv_at hl 4 rfl) ?_
  refine m_callVv X (ci := 3) rfl hjA hK hw hZ hS hA (As := [.int 0, .int (nI k), .int (nI j)]) (rest := []) (c_note l G dce _ M5 x ad y zA hcA k j hk2 0 (by rw [hzA]; exact hw9) kc ks (by rw [hzA]; exact hkk)) (cwV 3 hts gX1_insert_X2_note rfl rfl rfl (by decide +kernel) ⟨Nat.le_of_ble_eq_true rfl, Nat.le_of_ble_eq_true rfl⟩) rfl hl.1 rfl (Nat.le_of_ble_eq_true rfl) dX1_insert_29 (by dsimp only; omega) (by dsimp only; omega) (fun M6 H locs hp hw hS hz hk => ?_)
  obtain ⟨yB, hoB, hcB, hsB⟩ := hp
  have hrB : M6 (yO y k j) = some (eR (fIns (zR z k j) (eNm (zE z (sL i k) j)) rf)) := by
    have h := hcB.row (u := k) (k := j) hk2 (by rw [hzA]; exact hkr)
    rw [hoB] at h
    rw [h, hzA]
    show some (eR (up2 (zR z) k j (fIns (zR z k j) (eNm (zE z (sL i k) j)) rf) k j)) = _
    rw [up2_s]
  have henB : M6 ((yO y (sL i k) j)) = some (eE (zE z (sL i k) j)) := by have h := hcB.ent (u := sL i k) (k := j) (by unfold sL; omega) (by unfold sL; omega) (by rw [hzA]; exact hjk); rw [hoB] at h; rw [h, hzA]; rfl
  obtain ⟨b1B, b2B, b3B, nmB, rfB, snB, srB, svB, hevB⟩ : ∃ b1B b2B b3B nmB rfB snB srB svB, (zE z (sL i k) j) = (b1B, b2B, b3B, nmB, rfB, snB, srB, svB) := ⟨_, _, _, _, _, _, _, _, rfl⟩
  have hecB : M6 ((yO y (sL i k) j)) = some (.inr (1, [.int (bI b1B), .int (bI b2B), .int (bI b3B), .int nmB, .int rfB, .int snB, .int srB, .int svB])) := by rw [henB, hevB]; rfl
  refine lv_aload_n hx hb dX1_insert_32 rfl (lv_at hl 2 rfl) ?_
  refine lv_aload hx hb dX1_insert_33 (lv_at hl 0 rfl) ?_
  refine m_callVv X (ci := 1) rfl hecB hK hw hZ hS hA (As := [.ref (yO y k j)]) (rest := []) (c_X0_takeSnapshot l G dce _ M6 (yO y (sL i k) j) (zE z (sL i k) j) henB (yO y k j) (fIns (zR z k j) (eNm (zE z (sL i k) j)) rf) hrB) (cwV 1 hts gX1_insert_X0_takeSnapshot rfl rfl rfl (by decide +kernel) ⟨Nat.le_of_ble_eq_true rfl, Nat.le_of_ble_eq_true rfl⟩) rfl hl.1 rfl (Nat.le_of_ble_eq_true rfl) dX1_insert_35 (Nat.le_of_ble_eq_true rfl) (Nat.le_of_ble_eq_true rfl) (fun M7 H locs hp hw hS hz hk => ?_)
  obtain ⟨hcC, hsC⟩ := hcB.setE (u := sL i k) (k := j) (v := fSnap (zE z (sL i k) j) (fIns (zR z k j) (eNm (zE z (sL i k) j)) rf)) (by unfold sL; omega) (by unfold sL; omega) (by rw [hzA]; exact hjk) (by rw [hoB]; exact hp)
  exact m_vret X hK hw hS ⟨yB, hoB, by rw [hzA] at hcC; exact hcC, by rw [hzA] at hsA hsB hsC; exact (hsA.tr hsB).tr hsC⟩ (by omega) (by omega) dX1_insert_38
