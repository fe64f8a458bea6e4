theorem CW.nF {G : gG} {dce x : Nat} {ad : Nat → Nat} {M : gM} {y : cY} {z : cZ} (h : CW G dce x ad M y z) {b p q r s : Nat} (hF : M b = some (oF p q r s)) : ¬ cOwn ad y z dce b := fun hb => by
  obtain ⟨-, hL, hEl, ⟨hj, ⟨hj1, hj2, -⟩, -⟩, -, -⟩ := h
  rcases hb with ⟨u, hu, e⟩ | ⟨u, hu, e, h0⟩ | ⟨u, k, hu, hk, e⟩ | e
  · obtain ⟨⟨mc, h1⟩, -⟩ := hL u hu
    rw [e, h1] at hF
    simp [oL, oF] at hF
  · by_cases h8 : u < 8
    · rcases (hL u h8).2 with ⟨h1, -⟩ | ⟨c0, g0, h1, -⟩
      · have := h0 h8
        omega
      · rw [e, h1] at hF
        simp [oA, oF] at hF
    · rcases (show u = 8 ∨ u = 9 by omega) with rfl | rfl
      · rw [e, hj1] at hF
        simp [oI, oF] at hF
      · rw [e, hj2] at hF
        simp [oI, oF] at hF
  · by_cases h2 : u < 2
    · rw [e, hEl.1 u k h2 hk] at hF
      obtain ⟨fs, hfs⟩ := eR_c (zR z u k)
      rw [hfs] at hF
      simp [oF] at hF
    · rw [e, hEl.2 u k (by omega) hu hk] at hF
      obtain ⟨fs, hfs⟩ := eE_c (zE z u k)
      rw [hfs] at hF
      simp [oF] at hF
  · rw [e, hj] at hF
    simp [oJ, oF] at hF
def fGo : vR → vR := fun (_, nm, rf, ve) => (false, nm, rf, ve)
def kIn (i k j : Nat) (rf : Int32) (z : cZ) : cZ := sE (kNo 0 k j (sR z k j (fIns (zR z k j) (eNm (zE z (sL i k) j)) rf))) (sL i k) j (fSnap (zE z (sL i k) j) (fIns (zR z k j) (eNm (zE z (sL i k) j)) rf))
def kUd (i k j : Nat) (z : cZ) : cZ := sE (kNo 1 k j (sR z k j (fUpd (zR z k j) (eNm (zE z (sL i k) j)) (eRf (zE z (sL i k) j))))) (sL i k) j (fSnap (zE z (sL i k) j) (fUpd (zR z k j) (eNm (zE z (sL i k) j)) (eRf (zE z (sL i k) j))))
def kDl (i k j : Nat) (z : cZ) : cZ := sE (kNo 2 k j (sR z k j (fGo (zR z k j)))) (sL i k) j (fForget (zE z (sL i k) j))
def kIa (i j : Nat) (z : cZ) : cZ := if fNew (zE z (sL i 0) j) = true then kIn i 0 j (if (rV z 1 (eRf (zE z (sL i 0) j))).1 = true then eRf (zE z (sL i 0) j) else -1) z else z
def kIb (i j : Nat) (z : cZ) : cZ := if fNew (zE z (sL i 1) j) = true then kIn i 1 j (eRf (zE z (sL i 1) j)) z else z
def kUp (i k j : Nat) (z : cZ) : cZ := if fChg (zE z (sL i k) j) = true then kUd i k j z else z
def kDe (i k j : Nat) (z : cZ) : cZ := if (zE z (sL i k) j).2.1 = true then kDl i k j z else z
/-- a step of a flush: sizes stay, the journal grows -/
def fStp (F : Nat → cZ → cZ) : Prop := ∀ j z, zN (F j z) = zN z ∧ zC z ≤ zC (F j z) ∧ zW (F j z) ≤ zW z + 1
theorem kIn_st (i k j : Nat) (rf : Int32) (z : cZ) : zN (kIn i k j rf z) = zN z ∧ zC z ≤ zC (kIn i k j rf z) ∧ zW (kIn i k j rf z) ≤ zW z + 1 := ⟨rfl, kNo_C 0 k j (sR z k j _), Nat.le_refl _⟩
theorem kUd_st (i k j : Nat) (z : cZ) : zN (kUd i k j z) = zN z ∧ zC z ≤ zC (kUd i k j z) ∧ zW (kUd i k j z) ≤ zW z + 1 := ⟨rfl, kNo_C 1 k j (sR z k j _), Nat.le_refl _⟩
theorem kDl_st (i k j : Nat) (z : cZ) : zN (kDl i k j z) = zN z ∧ zC z ≤ zC (kDl i k j z) ∧ zW (kDl i k j z) ≤ zW z + 1 := ⟨rfl, kNo_C 2 k j (sR z k j _), Nat.le_refl _⟩
theorem kIa_st (i : Nat) : fStp (kIa i) := fun j z => by
  unfold kIa
  split
  · exact kIn_st i 0 j _ z
  · exact ⟨rfl, Nat.le_refl _, by omega⟩
theorem kIb_st (i : Nat) : fStp (kIb i) := fun j z => by
  unfold kIb
  split
  · exact kIn_st i 1 j _ z
  · exact ⟨rfl, Nat.le_refl _, by omega⟩
theorem kUp_st (i k : Nat) : fStp (kUp i k) := fun j z => by
  unfold kUp
  split
  · exact kUd_st i k j z
  · exact ⟨rfl, Nat.le_refl _, by omega⟩
theorem kDe_st (i k : Nat) : fStp (kDe i k) := fun j z => by
  unfold kDe
  split
  · exact kDl_st i k j z
  · exact ⟨rfl, Nat.le_refl _, by omega⟩
theorem fStp.N {F : Nat → cZ → cZ} (h : fStp F) : ∀ j z, zN (F j z) = zN z := fun j z => (h j z).1
theorem itr_C {F : Nat → cZ → cZ} (h : fStp F) {n m : Nat} (hnm : n ≤ m) (z : cZ) : zC (itr F n z) ≤ zC (itr F m z) := by
  induction m with
  | zero => rw [show n = 0 by omega]; exact Nat.le_refl _
  | succ m ih =>
    by_cases e : n = m + 1
    · rw [e]; exact Nat.le_refl _
    · exact Nat.le_trans (ih (by omega)) (h m _).2.1
theorem itr_W {F : Nat → cZ → cZ} (h : fStp F) (n : Nat) (z : cZ) : zW (itr F n z) ≤ zW z + n := by
  induction n with
  | zero => exact Nat.le_refl _
  | succ n ih =>
    have := (h n (itr F n z)).2.2
    show zW (F n (itr F n z)) ≤ _
    omega
set_option maxHeartbeats 4000000 in
set_option maxRecDepth 100000 in
theorem c_insert (l : Launch) (G : gG) (dce sz : Nat) (M : gM) (x : Nat) (ad : Nat → Nat) (y : cY) (z : cZ) (hcw : CW G dce x ad M y z) (i : Nat) (hi : i < 3) (heq : cEq z) (h9 : Nat) (hF : M h9 = some (oF (ad (4 + i)) (ad 0) (ad 1) (ad 2))) (k : Nat) (hk2 : k < 2) (j : Nat) (hjk : j < zN z (sL i k)) (rf : Int32) (hw9 : zW z < 16384) (kc ks : Nat) (hkk : zW z < zC z ∨ (2 ≤ kc ∧ 4 * zW z ≤ ks)) : mV l yX1_insert wsX1_insert ({ frames := 4, cells := kc, slots := ks, locals := 95 }) G dce sz M [.ref h9, .ref (yO y (sL i k) j), .int (nI k), .int (nI j), .int rf] (fun M' => cTo G dce x ad M y z M' (kIn i k j rf z)) (kc) (ks) := by
  have hF9 : M h9 = some (.inr (2, [.ref (ad (4 + i)), .ref (ad 0), .ref (ad 1), .ref (ad 2)])) := hF
  have hs9 : M (ad (4 + i)) = some (.inr (5, [.ref (ad (12 + 2 * i)), .ref (ad (13 + 2 * i)), .ref (ad (40 + i))])) := (hcw.1.2.2.2 i hi).1
  have hkr : j < zN z k := by rw [← heq i k hi hk2]; exact hjk
  have hen : M (yO y (sL i k) j) = some (eE (zE z (sL i k) j)) := hcw.ent (by unfold sL; omega) (by unfold sL; omega) hjk
  obtain ⟨b1, b2, b3, nm, er, sn, sr, sv, hev⟩ : ∃ b1 b2 b3 nm er sn sr sv, (zE z (sL i k) j) = (b1, b2, b3, nm, er, sn, sr, sv) := ⟨_, _, _, _, _, _, _, _, rfl⟩
  have hec : M (yO y (sL i k) j) = some (.inr (1, [.int (bI b1), .int (bI b2), .int (bI b3), .int nm, .int er, .int sn, .int sr, .int sv])) := by rw [hen, hev]; rfl
  refine wMet (Qc := QV G _) (cc := cX1_insert) (maxL := 6) (ret := none) (by decide) rfl (Nat.le_of_ble_eq_true rfl) ?_
  intro p e s m below meth c A ls X hnm hw hK hZ hA hS hsz eA hl
  obtain ⟨hx, hb, hr, hts, hown, hlk, hml⟩ := id X
  have hl : lv_has ls 6 [(0, .ref h9), (1, .ref (yO y (sL i k) j)), (2, .int (nI k)), (3, .int (nI j)), (4, .int rf)] := hl
  have iX0 : ∀ w ∈ wsX00, w ∈ wsX1_insert := by decide +kernel
  have iX1 : ∀ w ∈ wsX10, w ∈ wsX1_insert := by decide +kernel
  refine lv_aload_n hx hb dX1_insert_0 rfl (lv_at hl 0 rfl) ?_
  refine lv_iload_n hx hb dX1_insert_1 rfl (lv_at hl 2 rfl) ?_
  refine m_callVr X (ci := 2) rfl hF9 hK hw hZ hS hA (As := [.int (nI k)]) (rest := []) (c_X1_tableFor l G dce _ M h9 (ad (4 + i)) (ad 0) (ad 1) (ad 2) hF (nI k)) (cwV 1 hts gX1_insert_X1_tableFor rfl rfl rfl (by decide +kernel) ⟨Nat.le_of_ble_eq_true rfl, Nat.le_of_ble_eq_true rfl⟩) rfl hl.1 rfl (Nat.le_of_ble_eq_true rfl) dX1_insert_2 (by dsimp only; omega) (by dsimp only; omega) (fun r2 M1 H locs hp hw hS hz hk => ?_)
  rw [hp.2] at hw
  rw [hp.1, (ta_if hk2)]
  have ht9 : M (ad k) = some (.inr (6, [.ref (ad (10 + k)), .ref (ad (20 + k))])) := (hcw.1.2.1 k hk2).1
  refine lv_iload_n hx hb dX1_insert_5 rfl (lv_at hl 3 rfl) ?_
  refine m_callVr X (ci := 6) rfl ht9 hK hw hZ hS hA (As := [.int (nI j)]) (rest := []) (c_rowAt l G dce _ M x ad y z hcw k hk2 (nI j)) (cwV 1 hts gX1_insert_X5_rowAt rfl rfl rfl (by decide +kernel) ⟨Nat.le_of_ble_eq_true rfl, Nat.le_of_ble_eq_true rfl⟩) rfl hl.1 rfl (Nat.le_of_ble_eq_true rfl) dX1_insert_6 (by dsimp only; omega) (by dsimp only; omega) (fun r4 M3 H locs hp hw hS hz hk => ?_)
  rw [hp.2] at hw
  rw [hp.1, rA_in (hcw.n (by omega)) hkr]
  have hrwr : M ((yO y k j)) = some (eR (zR z k j)) := hcw.row hk2 hkr
  obtain ⟨rbr, rnr, rrr, rvr, hrvr⟩ : ∃ rbr rnr rrr rvr, (zR z k j) = (rbr, rnr, rrr, rvr) := ⟨_, _, _, _, rfl⟩
  have hrcr : M ((yO y k j)) = some (.inr (4, [.int (bI rbr), .int rnr, .int rrr, .int rvr])) := by rw [hrwr, hrvr]; rfl
  refine lv_astore (lv' := [(5, .ref (yO y k j)), (0, .ref h9), (1, .ref (yO y (sL i k) j)), (2, .int (nI k)), (3, .int (nI j)), (4, .int rf)]) hx hb dX1_insert_9 hl (by decide) rfl (fun ls hl => ?_)
  refine lv_aload hx hb dX1_insert_11 (lv_at hl 0 rfl) ?_
  refine lv_aload_n hx hb dX1_insert_13 rfl (lv_at hl 2 rfl) ?_
  refine m_get X iX0 hK hw hec rfl 3 (by decide) (ref := "ObjectMapper$Entity") (by decide +kernel) (Or.inl rfl) rfl dX1_insert_14 ?_
  refine lv_iload hx hb dX1_insert_17 (lv_at hl 5 rfl) ?_
  refine m_callVv X (ci := 4) rfl hrcr hK hw hZ hS hA (As := [.int nm, .int rf]) (rest := []) (c_X3_insert l G dce _ M (yO y k j) (zR z k j) hrwr nm rf) (cwV 2 hts gX1_insert_X3_insert rfl rfl rfl (by decide +kernel) ⟨Nat.le_of_ble_eq_true rfl, Nat.le_of_ble_eq_true rfl⟩) rfl hl.1 rfl (Nat.le_of_ble_eq_true rfl) dX1_insert_19 (by dsimp only; omega) (by dsimp only; omega) (fun M5 H locs hp hw hS hz hk => ?_)
  obtain ⟨zA, hzA⟩ : ∃ zA, zA = sR z k j (fIns (zR z k j) (eNm (zE z (sL i k) j)) rf) := ⟨_, rfl⟩
  obtain ⟨hcA, hsA⟩ := hcw.setR (M1 := M5) (u := k) (k := j) (v := (fIns (zR z k j) (eNm (zE z (sL i k) j)) rf)) hk2 hkr (by rw [hp, hev]; rfl)
  rw [← hzA] at hcA hsA
  have hFA : M5 h9 = some (.inr (2, [.ref (ad (4 + i)), .ref (ad 0), .ref (ad 1), .ref (ad 2)])) := hsA.1 h9 _ hF (hcw.nF hF)
  have hjA : M5 (ad 2) = some (.inr (3, [.int (nI (zW zA)), .ref (yX y 8), .ref (yX y 9)])) := hcA.2.2.2.1.1
  refine lv_aload_n hx hb dX1_insert_22 rfl (lv_at hl 1 rfl) ?_
  refine m_get X iX1 hK hw hFA rfl 3 (by decide) (ref := "ObjectMapper$Flush") (by decide +kernel) (Or.inl rfl) rfl dX1_insert_23 ?_
  refine lv_iconst (v := 0) hx hb dX1_insert_26 (by decide) ?_
  refine lv_iload_n hx hb dX1_insert_27 rfl (lv_at hl 3 rfl) ?_
  refine lv_iload_n hx hb dX1_insert_28 rfl (lv_at hl 4 rfl) ?_
  refine m_callVv X (ci := 3) rfl hjA hK hw hZ hS hA (As := [.int 0, .int (nI k), .int (nI j)]) (rest := []) (c_note l G dce _ M5 x ad y zA hcA k j hk2 0 (by rw [hzA]; exact hw9) kc ks (by rw [hzA]; exact hkk)) (cwV 3 hts gX1_insert_X2_note rfl rfl rfl (by decide +kernel) ⟨Nat.le_of_ble_eq_true rfl, Nat.le_of_ble_eq_true rfl⟩) rfl hl.1 rfl (Nat.le_of_ble_eq_true rfl) dX1_insert_29 (by dsimp only; omega) (by dsimp only; omega) (fun M6 H locs hp hw hS hz hk => ?_)
  obtain ⟨yB, hoB, hcB, hsB⟩ := hp
  have hrB : M6 (yO y k j) = some (eR (fIns (zR z k j) (eNm (zE z (sL i k) j)) rf)) := by
    have h := hcB.row (u := k) (k := j) hk2 (by rw [hzA]; exact hkr)
    rw [hoB] at h
    rw [h, hzA]
    show some (eR (up2 (zR z) k j (fIns (zR z k j) (eNm (zE z (sL i k) j)) rf) k j)) = _
    rw [up2_s]
  have henB : M6 ((yO y (sL i k) j)) = some (eE (zE z (sL i k) j)) := by have h := hcB.ent (u := sL i k) (k := j) (by unfold sL; omega) (by unfold sL; omega) (by rw [hzA]; exact hjk); rw [hoB] at h; rw [h, hzA]; rfl
  obtain ⟨b1B, b2B, b3B, nmB, rfB, snB, srB, svB, hevB⟩ : ∃ b1B b2B b3B nmB rfB snB srB svB, (zE z (sL i k) j) = (b1B, b2B, b3B, nmB, rfB, snB, srB, svB) := ⟨_, _, _, _, _, _, _, _, rfl⟩
  have hecB : M6 ((yO y (sL i k) j)) = some (.inr (1, [.int (bI b1B), .int (bI b2B), .int (bI b3B), .int nmB, .int rfB, .int snB, .int srB, .int svB])) := by rw [henB, hevB]; rfl
  refine lv_aload_n hx hb dX1_insert_32 rfl (lv_at hl 2 rfl) ?_
  refine lv_aload hx hb dX1_insert_33 (lv_at hl 0 rfl) ?_
  refine m_callVv X (ci := 1) rfl hecB hK hw hZ hS hA (As := [.ref (yO y k j)]) (rest := []) (c_X0_takeSnapshot l G dce _ M6 (yO y (sL i k) j) (zE z (sL i k) j) henB (yO y k j) (fIns (zR z k j) (eNm (zE z (sL i k) j)) rf) hrB) (cwV 1 hts gX1_insert_X0_takeSnapshot rfl rfl rfl (by decide +kernel) ⟨Nat.le_of_ble_eq_true rfl, Nat.le_of_ble_eq_true rfl⟩) rfl hl.1 rfl (Nat.le_of_ble_eq_true rfl) dX1_insert_35 (by dsimp only; omega) (by dsimp only; omega) (fun M7 H locs hp hw hS hz hk => ?_)
  obtain ⟨hcC, hsC⟩ := hcB.setE (M1 := M7) (u := sL i k) (k := j) (v := fSnap (zE z (sL i k) j) (fIns (zR z k j) (eNm (zE z (sL i k) j)) rf)) (by unfold sL; omega) (by unfold sL; omega) (by rw [hzA]; exact hjk) (by rw [hoB]; exact hp)
  exact m_vret X hK hw hS ⟨yB, hoB, by rw [hzA] at hcC; exact hcC, by rw [hzA] at hsA hsB hsC; exact (hsA.tr hsB).tr hsC⟩ (by omega) (by omega) dX1_insert_38
theorem c_insertK (l : Launch) (G : gG) (dce sz : Nat) (M : gM) (x : Nat) (ad : Nat → Nat) (y : cY) (z : cZ) (hcw : CW G dce x ad M y z) (i : Nat) (hi : i < 3) (heq : cEq z) (h9 : Nat) (hF : M h9 = some (oF (ad (4 + i)) (ad 0) (ad 1) (ad 2))) (k : Nat) (hk2 : k < 2) (j : Nat) (hjk : j < zN z (sL i k)) (rf : Int32) (hw9 : zW z < 16384) (kc ks : Nat) (hkk : zW z < zC z ∨ (2 ≤ kc ∧ 4 * zW z ≤ ks)) (kd : Int32) (hkd : kd = nI k) : mV l yX1_insert wsX1_insert ({ frames := 4, cells := kc, slots := ks, locals := 95 }) G dce sz M [.ref h9, .ref (yO y (sL i k) j), .int kd, .int (nI j), .int rf] (fun M' => cTo G dce x ad M y z M' (kIn i k j rf z)) (kc) (ks) := by
  subst hkd
  exact c_insert l G dce sz M x ad y z hcw i hi heq h9 hF k hk2 j hjk rf hw9 kc ks hkk
set_option maxHeartbeats 4000000 in
set_option maxRecDepth 100000 in
theorem c_insertAuthors (l : Launch) (G : gG) (dce sz : Nat) (M : gM) (x : Nat) (ad : Nat → Nat) (y : cY) (z : cZ) (hcw : CW G dce x ad M y z) (i : Nat) (hi : i < 3) (heq : cEq z) (h9 : Nat) (hF : M h9 = some (oF (ad (4 + i)) (ad 0) (ad 1) (ad 2))) (hw9 : zW z + 1024 ≤ 16384) (kc ks : Nat) (hkc : zC (itr (kIa i) (zN z (sL i 0)) z) - zC z ≤ kc) (hks : 4 * (zC (itr (kIa i) (zN z (sL i 0)) z) - zC z) ≤ ks) : mV l yX1_insertAuthors wsX1_insertAuthors ({ frames := 5, cells := kc, slots := ks, locals := 120 }) G dce sz M [.ref h9] (fun M' => cTo G dce x ad M y z M' (itr (kIa i) (zN z (sL i 0)) z)) (kc) (ks) := by
  have hF9 : M h9 = some (.inr (2, [.ref (ad (4 + i)), .ref (ad 0), .ref (ad 1), .ref (ad 2)])) := hF
  have hs9 : M (ad (4 + i)) = some (.inr (5, [.ref (ad (12 + 2 * i)), .ref (ad (13 + 2 * i)), .ref (ad (40 + i))])) := (hcw.1.2.2.2 i hi).1
  refine wMet (Qc := QV G _) (cc := cX1_insertAuthors) (maxL := 4) (ret := none) (by decide) rfl (Nat.le_of_ble_eq_true rfl) ?_
  intro p e s m below meth c A ls X hnm hw hK hZ hA hS hsz eA hl
  obtain ⟨hx, hb, hr, hts, hown, hlk, hml⟩ := id X
  have hl : lv_has ls 4 [(0, .ref h9)] := hl
  have iX0 : ∀ w ∈ wsX00, w ∈ wsX1_insertAuthors := by decide +kernel
  have iX1 : ∀ w ∈ wsX10, w ∈ wsX1_insertAuthors := by decide +kernel
  have iX3 : ∀ w ∈ wsX30, w ∈ wsX1_insertAuthors := by decide +kernel
  refine lv_iconst (v := 0) hx hb dX1_insertAuthors_0 (by decide) ?_
  refine lv_istore_n (lv' := [(1, .int 0), (0, .ref h9)]) hx hb dX1_insertAuthors_1 rfl hl (by decide) rfl (fun ls hl => ?_)
  refine W.widen (k := zC z - zC z) (n := 4 * (zC z - zC z)) (by omega) (by omega) ?_
  have loop : ∀ (d : Nat) (j : Nat) (z1 : cZ) (Mi : gM)  (H : Heap) (locs : List Loc) (ls : Array Slot), j ≤ (zN z (sL i 0)) → (zN z (sL i 0)) + 1 ≤ j + d → z1 = itr (kIa i) j z → cTo G dce x ad M y z Mi z1 → wd G A Mi H → va_S A s.heap H locs → lv_has ls 4 [(1, .int (nI j)), (0, .ref h9)] → W p l e ({ frames := 5, cells := kc, slots := ks, locals := 120 }) s m [.ref h9].toArray below meth c H locs (zC z1 - zC z) (4 * (zC z1 - zC z)) (MQ below (QV G (fun M' => cTo G dce x ad M y z M' (itr (kIa i) (zN z (sL i 0)) z)) A) [.ref h9].toArray s (kc) (ks) A) (F0 m 2 ls []) := by
    intro d
    induction d with
    | zero => intro j z1 Mi H locs ls h1 h2; exact absurd h2 (by omega)
    | succ d ih =>
      intro j z1 Mi H locs ls hj1 hj2 hz1 hto hw hS hl
      obtain ⟨y1, ho, hc1, hs1⟩ := hto
      have hn1 : zN z1 = zN z := by rw [hz1]; exact itr_N (kIa_st i).N j z
      have hjn : (zN z (sL i 0)) ≤ 1024 := hcw.n (by unfold sL; omega)
      have hF1 : Mi h9 = some (oF (ad (4 + i)) (ad 0) (ad 1) (ad 2)) := hs1.1 h9 _ hF (hcw.nF hF)
      have hF2 : Mi h9 = some (.inr (2, [.ref (ad (4 + i)), .ref (ad 0), .ref (ad 1), .ref (ad 2)])) := hF1
      have hm1 : zC z ≤ zC z1 := by rw [hz1]; exact itr_C (n := 0) (kIa_st i) (Nat.zero_le _) z
      have hm2 : zW z1 ≤ zW z + j := by rw [hz1]; exact itr_W (kIa_st i) j z
      have hm0 : zC z1 ≤ zC (itr (kIa i) (zN z (sL i 0)) z) := by rw [hz1]; exact itr_C (kIa_st i) hj1 z
      have heq1 : cEq z1 := fun i k h1 h2 => by rw [hn1]; exact heq i k h1 h2
      have hs9 : Mi (ad (4 + i)) = some (.inr (5, [.ref (ad (12 + 2 * i)), .ref (ad (13 + 2 * i)), .ref (ad (40 + i))])) := (hc1.1.2.2.2 i hi).1
      refine lv_iload_n hx hb dX1_insertAuthors_2 rfl (lv_at hl 0 rfl) ?_
      refine lv_aload_n hx hb dX1_insertAuthors_3 rfl (lv_at hl 1 rfl) ?_
      refine m_get X iX1 hK hw hF2 rfl 0 (by decide) (ref := "ObjectMapper$Flush") (by decide +kernel) (Or.inl rfl) rfl dX1_insertAuthors_4 ?_
      refine lv_iconst (v := 0) hx hb dX1_insertAuthors_7 (by decide) ?_
      refine m_callVi X (ci := 5) rfl hs9 hK hw hZ hS hA (As := [.int 0]) (rest := [.int (nI j)]) (c_sizeOfK l G dce _ Mi x ad y1 z1 hc1 i 0 hi (by decide) 0 (by decide)) (cwV 1 hts gX1_insertAuthors_X4_sizeOf rfl rfl rfl (by decide +kernel) ⟨Nat.le_of_ble_eq_true rfl, Nat.le_of_ble_eq_true rfl⟩) rfl hl.1 rfl (Nat.le_of_ble_eq_true rfl) dX1_insertAuthors_8 (by dsimp only; omega) (by dsimp only; omega) (fun r2 M1 H locs hp hw hS hz hk => ?_)
      rw [hp.2] at hw
      rw [hp.1, hn1]
      refine lv_icmp_ge (tgt := 71) hx hb dX1_insertAuthors_11 (by decide) (fun c_11 => ?_) (fun c_11 => ?_)
      · have hkn : (zN z (sL i 0)) ≤ j := (nI_leI (by omega) (by omega)).mp c_11
        have hjj : j = (zN z (sL i 0)) := by omega
        rw [hjj] at hz1
        have hzc : zC z1 = zC (itr (kIa i) (zN z (sL i 0)) z) := congrArg zC hz1
        exact m_vret X hK hw hS (by rw [← hz1]; exact ⟨y1, ho, hc1, hs1⟩) (by omega) (by omega) dX1_insertAuthors_71
      · have hkl : j < (zN z (sL i 0)) := Nat.lt_of_not_le (fun q => c_11 (nI_le q (by omega)))
        refine lv_aload_n hx hb dX1_insertAuthors_14 rfl (lv_at hl 1 rfl) ?_
        refine m_get X iX1 hK hw hF2 rfl 0 (by decide) (ref := "ObjectMapper$Flush") (by decide +kernel) (Or.inl rfl) rfl dX1_insertAuthors_15 ?_
        refine lv_iconst (v := 0) hx hb dX1_insertAuthors_18 (by decide) ?_
        refine lv_iload_n hx hb dX1_insertAuthors_19 rfl (lv_at hl 0 rfl) ?_
        refine m_callVr X (ci := 5) rfl hs9 hK hw hZ hS hA (As := [.int 0, .int (nI j)]) (rest := []) (c_entityAtK l G dce _ Mi x ad y1 z1 hc1 i 0 hi (by decide) (nI j) 0 (by decide)) (cwV 2 hts gX1_insertAuthors_X4_entityAt rfl rfl rfl (by decide +kernel) ⟨Nat.le_of_ble_eq_true rfl, Nat.le_of_ble_eq_true rfl⟩) rfl hl.1 rfl (Nat.le_of_ble_eq_true rfl) dX1_insertAuthors_20 (by dsimp only; omega) (by dsimp only; omega) (fun r4 M3 H locs hp hw hS hz hk => ?_)
        rw [hp.2] at hw
        have hjk1 : j < zN z1 (sL i 0) := by rw [hn1]; exact hkl
        have hm3 : zC ((kIa i) j z1) ≤ zC (itr (kIa i) (zN z (sL i 0)) z) := by rw [hz1]; exact itr_C (kIa_st i) (show j + 1 ≤ (zN z (sL i 0)) by omega) z
        have hm4 : zC z1 ≤ zC ((kIa i) j z1) := ((kIa_st i) j z1).2.1
        have hkr : j < zN z1 0 := by rw [← heq1 i 0 hi (by decide)]; exact hjk1
        rw [hp.1, eA_in (hc1.n (by unfold sL; omega)) hjk1]
        have hen : Mi ((yO y1 (sL i 0) j)) = some (eE (zE z1 (sL i 0) j)) := hc1.ent (by unfold sL; omega) (by unfold sL; omega) hjk1
        obtain ⟨b1, b2, b3, nm, rf, sn, sr, sv, hev⟩ : ∃ b1 b2 b3 nm rf sn sr sv, (zE z1 (sL i 0) j) = (b1, b2, b3, nm, rf, sn, sr, sv) := ⟨_, _, _, _, _, _, _, _, rfl⟩
        have hec : Mi ((yO y1 (sL i 0) j)) = some (.inr (1, [.int (bI b1), .int (bI b2), .int (bI b3), .int nm, .int rf, .int sn, .int sr, .int sv])) := by rw [hen, hev]; rfl
        refine lv_astore_n (lv' := [(2, .ref (yO y1 (sL i 0) j)), (1, .int (nI j)), (0, .ref h9)]) hx hb dX1_insertAuthors_23 rfl hl (by decide) rfl (fun ls hl => ?_)
        refine lv_aload_n hx hb dX1_insertAuthors_24 rfl (lv_at hl 0 rfl) ?_
        refine m_callVi X (ci := 1) rfl hec hK hw hZ hS hA (As := []) (rest := []) (c_X0_isNew l G dce _ Mi (yO y1 (sL i 0) j) (zE z1 (sL i 0) j) hen) (cwV 0 hts gX1_insertAuthors_X0_isNew rfl rfl rfl (by decide +kernel) ⟨Nat.le_of_ble_eq_true rfl, Nat.le_of_ble_eq_true rfl⟩) rfl hl.1 rfl (Nat.le_of_ble_eq_true rfl) dX1_insertAuthors_25 (by dsimp only; omega) (by dsimp only; omega) (fun r6 M5 H locs hp hw hS hz hk => ?_)
        rw [hp.2] at hw
        rw [hp.1]
        refine lv_if_eq (tgt := 65) hx hb dX1_insertAuthors_28 (by decide) (fun c_28 => ?_) (fun c_28 => ?_)
        · have hFj : (kIa i) j z1 = z1 := if_neg (bI_f c_28)
          refine W.widen (k := zC z1 - zC z) (n := 4 * (zC z1 - zC z)) (by omega) (by omega) ?_
          refine lv_iinc (v := (nI (j + 1))) (lv' := [(1, .int (nI (j + 1))), (2, .ref (yO y1 (sL i 0) j)), (0, .ref h9)]) hx hb dX1_insertAuthors_65 hl (k := 1) rfl (nI_1 _) (by decide) rfl (fun ls hl => ?_)
          refine lv_goto (tgt := 2) hx hb dX1_insertAuthors_68 (by decide) ?_
          have hz2 : z1 = itr (kIa i) (j + 1) z := by
            show _ = (kIa i) j (itr (kIa i) j z)
            rw [← hz1]
            exact (hFj).symm
          exact ih (j + 1) z1 Mi H locs ls (by omega) (by omega) hz2 (⟨y1, ho, hc1, hs1⟩) hw hS (lv_sub hl [0, 2] rfl)
        · refine lv_aload_n hx hb dX1_insertAuthors_31 rfl (lv_at hl 2 rfl) ?_
          refine m_get X iX1 hK hw hF2 rfl 2 (by decide) (ref := "ObjectMapper$Flush") (by decide +kernel) (Or.inl rfl) rfl dX1_insertAuthors_32 ?_
          refine lv_aload_n hx hb dX1_insertAuthors_35 rfl (lv_at hl 0 rfl) ?_
          refine m_get X iX0 hK hw hec rfl 4 (by decide) (ref := "ObjectMapper$Entity") (by decide +kernel) (Or.inl rfl) rfl dX1_insertAuthors_36 ?_
          have ht1 : Mi (ad 1) = some (.inr (6, [.ref (ad (10 + 1)), .ref (ad (20 + 1))])) := (hc1.1.2.1 1 (by decide)).1
          refine m_callVr X (ci := 6) rfl ht1 hK hw hZ hS hA (As := [.int rf]) (rest := []) (c_rowAt l G dce _ Mi x ad y1 z1 hc1 1 (by decide) rf) (cwV 1 hts gX1_insertAuthors_X5_rowAt rfl rfl rfl (by decide +kernel) ⟨Nat.le_of_ble_eq_true rfl, Nat.le_of_ble_eq_true rfl⟩) rfl hl.1 rfl (Nat.le_of_ble_eq_true rfl) dX1_insertAuthors_39 (by dsimp only; omega) (by dsimp only; omega) (fun r8 M7 H locs hp hw hS hz hk => ?_)
          rw [hp.2] at hw
          rw [hp.1]
          have hrwf : Mi ((rwA ad (yO y1) (zN z1) 1 rf)) = some (eR (rV z1 1 rf)) := CW_rA hc1 (by decide) rf
          obtain ⟨rbf, rnf, rrf, rvf, hrvf⟩ : ∃ rbf rnf rrf rvf, (rV z1 1 rf) = (rbf, rnf, rrf, rvf) := ⟨_, _, _, _, rfl⟩
          have hrcf : Mi ((rwA ad (yO y1) (zN z1) 1 rf)) = some (.inr (4, [.int (bI rbf), .int rnf, .int rrf, .int rvf])) := by rw [hrwf, hrvf]; rfl
          refine m_get X iX3 hK hw hrcf rfl 0 (by decide) (ref := "ObjectMapper$Row") (by decide +kernel) (Or.inl rfl) rfl dX1_insertAuthors_42 ?_
          refine lv_istore_n (lv' := [(3, .int (bI rbf)), (2, .ref (yO y1 (sL i 0) j)), (1, .int (nI j)), (0, .ref h9)]) hx hb dX1_insertAuthors_45 rfl hl (by decide) rfl (fun ls hl => ?_)
          refine lv_aload_n hx hb dX1_insertAuthors_46 rfl (lv_at hl 3 rfl) ?_
          refine lv_aload_n hx hb dX1_insertAuthors_47 rfl (lv_at hl 1 rfl) ?_
          refine lv_iconst (v := 0) hx hb dX1_insertAuthors_48 (by decide) ?_
          refine lv_iload_n hx hb dX1_insertAuthors_49 rfl (lv_at hl 2 rfl) ?_
          refine lv_iload_n hx hb dX1_insertAuthors_50 rfl (lv_at hl 0 rfl) ?_
          refine lv_if_eq (tgt := 61) hx hb dX1_insertAuthors_51 (by decide) (fun c_51 => ?_) (fun c_51 => ?_)
          · refine lv_iconst (v := (-1)) hx hb dX1_insertAuthors_61 (by decide) ?_
            obtain ⟨zB, hzB⟩ : ∃ zB, zB = kIn i 0 j (-1) z1 := ⟨_, rfl⟩
            have hFj : (kIa i) j z1 = zB := by
              rw [hzB]
              show (if fNew (zE z1 (sL i 0) j) = true then _ else _) = _
              rw [if_pos (bI_t c_28)]
              have h7 : eRf (zE z1 (sL i 0) j) = rf := by rw [hev]; rfl
              rw [h7, if_neg (by rw [hrvf]; exact bI_f c_51)]
            rw [hFj] at hm3 hm4
            refine m_callVv X (ci := 2) rfl hF2 hK hw hZ hS hA (As := [.ref (yO y1 (sL i 0) j), .int 0, .int (nI j), .int (-1)]) (rest := []) (c_insertK l G dce _ Mi x ad y1 z1 hc1 i hi heq1 h9 hF1 0 (by decide) j hjk1 (-1) (by omega) (zC zB - zC z1) (4 * (zC zB - zC z1)) (by rw [hzB]; exact (kNo_room hc1 0 0 j).2) 0 (by decide)) (cwV 4 hts gX1_insertAuthors_X1_insert rfl rfl rfl (by decide +kernel) ⟨Nat.le_of_ble_eq_true rfl, Nat.le_of_ble_eq_true rfl⟩) rfl hl.1 rfl (Nat.le_of_ble_eq_true rfl) dX1_insertAuthors_62 (by dsimp only; omega) (by dsimp only; omega) (fun M9 H locs hp hw hS hz hk => ?_)
            rw [← hzB] at hp
            refine W.widen (k := zC zB - zC z) (n := 4 * (zC zB - zC z)) (by omega) (by omega) ?_
            refine lv_iinc (v := (nI (j + 1))) (lv' := [(1, .int (nI (j + 1))), (3, .int (bI rbf)), (2, .ref (yO y1 (sL i 0) j)), (0, .ref h9)]) hx hb dX1_insertAuthors_65 hl (k := 2) rfl (nI_1 _) (by decide) rfl (fun ls hl => ?_)
            refine lv_goto (tgt := 2) hx hb dX1_insertAuthors_68 (by decide) ?_
            have hz2 : zB = itr (kIa i) (j + 1) z := by
              show _ = (kIa i) j (itr (kIa i) j z)
              rw [← hz1]
              exact (hFj).symm
            exact ih (j + 1) zB M9 H locs ls (by omega) (by omega) hz2 (cTo.tr ho hs1 hp) hw hS (lv_sub hl [0, 3] rfl)
          · refine lv_aload_n hx hb dX1_insertAuthors_54 rfl (lv_at hl 1 rfl) ?_
            refine m_get X iX0 hK hw hec rfl 4 (by decide) (ref := "ObjectMapper$Entity") (by decide +kernel) (Or.inl rfl) rfl dX1_insertAuthors_55 ?_
            refine lv_goto (tgt := 62) hx hb dX1_insertAuthors_58 (by decide) ?_
            obtain ⟨zB, hzB⟩ : ∃ zB, zB = kIn i 0 j rf z1 := ⟨_, rfl⟩
            have hFj : (kIa i) j z1 = zB := by
              rw [hzB]
              show (if fNew (zE z1 (sL i 0) j) = true then _ else _) = _
              rw [if_pos (bI_t c_28)]
              have h7 : eRf (zE z1 (sL i 0) j) = rf := by rw [hev]; rfl
              rw [h7, if_pos (by rw [hrvf]; exact bI_t c_51)]
            rw [hFj] at hm3 hm4
            refine m_callVv X (ci := 2) rfl hF2 hK hw hZ hS hA (As := [.ref (yO y1 (sL i 0) j), .int 0, .int (nI j), .int rf]) (rest := []) (c_insertK l G dce _ Mi x ad y1 z1 hc1 i hi heq1 h9 hF1 0 (by decide) j hjk1 rf (by omega) (zC zB - zC z1) (4 * (zC zB - zC z1)) (by rw [hzB]; exact (kNo_room hc1 0 0 j).2) 0 (by decide)) (cwV 4 hts gX1_insertAuthors_X1_insert rfl rfl rfl (by decide +kernel) ⟨Nat.le_of_ble_eq_true rfl, Nat.le_of_ble_eq_true rfl⟩) rfl hl.1 rfl (Nat.le_of_ble_eq_true rfl) dX1_insertAuthors_62 (by dsimp only; omega) (by dsimp only; omega) (fun M10 H locs hp hw hS hz hk => ?_)
            rw [← hzB] at hp
            refine W.widen (k := zC zB - zC z) (n := 4 * (zC zB - zC z)) (by omega) (by omega) ?_
            refine lv_iinc (v := (nI (j + 1))) (lv' := [(1, .int (nI (j + 1))), (3, .int (bI rbf)), (2, .ref (yO y1 (sL i 0) j)), (0, .ref h9)]) hx hb dX1_insertAuthors_65 hl (k := 2) rfl (nI_1 _) (by decide) rfl (fun ls hl => ?_)
            refine lv_goto (tgt := 2) hx hb dX1_insertAuthors_68 (by decide) ?_
            have hz2 : zB = itr (kIa i) (j + 1) z := by
              show _ = (kIa i) j (itr (kIa i) j z)
              rw [← hz1]
              exact (hFj).symm
            exact ih (j + 1) zB M10 H locs ls (by omega) (by omega) hz2 (cTo.tr ho hs1 hp) hw hS (lv_sub hl [0, 3] rfl)
  exact loop ((zN z (sL i 0)) + 1) 0 z M _ _ ls (Nat.zero_le _) (by omega) rfl (cTo.rf hcw) hw hS (lv_sub hl [0, 1] rfl)
set_option maxHeartbeats 4000000 in
set_option maxRecDepth 100000 in
theorem c_insertBooks (l : Launch) (G : gG) (dce sz : Nat) (M : gM) (x : Nat) (ad : Nat → Nat) (y : cY) (z : cZ) (hcw : CW G dce x ad M y z) (i : Nat) (hi : i < 3) (heq : cEq z) (h9 : Nat) (hF : M h9 = some (oF (ad (4 + i)) (ad 0) (ad 1) (ad 2))) (hw9 : zW z + 1024 ≤ 16384) (kc ks : Nat) (hkc : zC (itr (kIb i) (zN z (sL i 1)) z) - zC z ≤ kc) (hks : 4 * (zC (itr (kIb i) (zN z (sL i 1)) z) - zC z) ≤ ks) : mV l yX1_insertBooks wsX1_insertBooks ({ frames := 5, cells := kc, slots := ks, locals := 120 }) G dce sz M [.ref h9] (fun M' => cTo G dce x ad M y z M' (itr (kIb i) (zN z (sL i 1)) z)) (kc) (ks) := by
  have hF9 : M h9 = some (.inr (2, [.ref (ad (4 + i)), .ref (ad 0), .ref (ad 1), .ref (ad 2)])) := hF
  have hs9 : M (ad (4 + i)) = some (.inr (5, [.ref (ad (12 + 2 * i)), .ref (ad (13 + 2 * i)), .ref (ad (40 + i))])) := (hcw.1.2.2.2 i hi).1
  refine wMet (Qc := QV G _) (cc := cX1_insertBooks) (maxL := 3) (ret := none) (by decide) rfl (Nat.le_of_ble_eq_true rfl) ?_
  intro p e s m below meth c A ls X hnm hw hK hZ hA hS hsz eA hl
  obtain ⟨hx, hb, hr, hts, hown, hlk, hml⟩ := id X
  have hl : lv_has ls 3 [(0, .ref h9)] := hl
  have iX0 : ∀ w ∈ wsX00, w ∈ wsX1_insertBooks := by decide +kernel
  have iX1 : ∀ w ∈ wsX10, w ∈ wsX1_insertBooks := by decide +kernel
  refine lv_iconst (v := 0) hx hb dX1_insertBooks_0 (by decide) ?_
  refine lv_istore_n (lv' := [(1, .int 0), (0, .ref h9)]) hx hb dX1_insertBooks_1 rfl hl (by decide) rfl (fun ls hl => ?_)
  refine W.widen (k := zC z - zC z) (n := 4 * (zC z - zC z)) (by omega) (by omega) ?_
  have loop : ∀ (d : Nat) (j : Nat) (z1 : cZ) (Mi : gM)  (H : Heap) (locs : List Loc) (ls : Array Slot), j ≤ (zN z (sL i 1)) → (zN z (sL i 1)) + 1 ≤ j + d → z1 = itr (kIb i) j z → cTo G dce x ad M y z Mi z1 → wd G A Mi H → va_S A s.heap H locs → lv_has ls 3 [(1, .int (nI j)), (0, .ref h9)] → W p l e ({ frames := 5, cells := kc, slots := ks, locals := 120 }) s m [.ref h9].toArray below meth c H locs (zC z1 - zC z) (4 * (zC z1 - zC z)) (MQ below (QV G (fun M' => cTo G dce x ad M y z M' (itr (kIb i) (zN z (sL i 1)) z)) A) [.ref h9].toArray s (kc) (ks) A) (F0 m 2 ls []) := by
    intro d
    induction d with
    | zero => intro j z1 Mi H locs ls h1 h2; exact absurd h2 (by omega)
    | succ d ih =>
      intro j z1 Mi H locs ls hj1 hj2 hz1 hto hw hS hl
      obtain ⟨y1, ho, hc1, hs1⟩ := hto
      have hn1 : zN z1 = zN z := by rw [hz1]; exact itr_N (kIb_st i).N j z
      have hjn : (zN z (sL i 1)) ≤ 1024 := hcw.n (by unfold sL; omega)
      have hF1 : Mi h9 = some (oF (ad (4 + i)) (ad 0) (ad 1) (ad 2)) := hs1.1 h9 _ hF (hcw.nF hF)
      have hF2 : Mi h9 = some (.inr (2, [.ref (ad (4 + i)), .ref (ad 0), .ref (ad 1), .ref (ad 2)])) := hF1
      have hm1 : zC z ≤ zC z1 := by rw [hz1]; exact itr_C (n := 0) (kIb_st i) (Nat.zero_le _) z
      have hm2 : zW z1 ≤ zW z + j := by rw [hz1]; exact itr_W (kIb_st i) j z
      have hm0 : zC z1 ≤ zC (itr (kIb i) (zN z (sL i 1)) z) := by rw [hz1]; exact itr_C (kIb_st i) hj1 z
      have heq1 : cEq z1 := fun i k h1 h2 => by rw [hn1]; exact heq i k h1 h2
      have hs9 : Mi (ad (4 + i)) = some (.inr (5, [.ref (ad (12 + 2 * i)), .ref (ad (13 + 2 * i)), .ref (ad (40 + i))])) := (hc1.1.2.2.2 i hi).1
      refine lv_iload_n hx hb dX1_insertBooks_2 rfl (lv_at hl 0 rfl) ?_
      refine lv_aload_n hx hb dX1_insertBooks_3 rfl (lv_at hl 1 rfl) ?_
      refine m_get X iX1 hK hw hF2 rfl 0 (by decide) (ref := "ObjectMapper$Flush") (by decide +kernel) (Or.inl rfl) rfl dX1_insertBooks_4 ?_
      refine lv_iconst (v := 1) hx hb dX1_insertBooks_7 (by decide) ?_
      refine m_callVi X (ci := 5) rfl hs9 hK hw hZ hS hA (As := [.int 1]) (rest := [.int (nI j)]) (c_sizeOfK l G dce _ Mi x ad y1 z1 hc1 i 1 hi (by decide) 1 (by decide)) (cwV 1 hts gX1_insertBooks_X4_sizeOf rfl rfl rfl (by decide +kernel) ⟨Nat.le_of_ble_eq_true rfl, Nat.le_of_ble_eq_true rfl⟩) rfl hl.1 rfl (Nat.le_of_ble_eq_true rfl) dX1_insertBooks_8 (by dsimp only; omega) (by dsimp only; omega) (fun r2 M1 H locs hp hw hS hz hk => ?_)
      rw [hp.2] at hw
      rw [hp.1, hn1]
      refine lv_icmp_ge (tgt := 48) hx hb dX1_insertBooks_11 (by decide) (fun c_11 => ?_) (fun c_11 => ?_)
      · have hkn : (zN z (sL i 1)) ≤ j := (nI_leI (by omega) (by omega)).mp c_11
        have hjj : j = (zN z (sL i 1)) := by omega
        rw [hjj] at hz1
        have hzc : zC z1 = zC (itr (kIb i) (zN z (sL i 1)) z) := congrArg zC hz1
        exact m_vret X hK hw hS (by rw [← hz1]; exact ⟨y1, ho, hc1, hs1⟩) (by omega) (by omega) dX1_insertBooks_48
      · have hkl : j < (zN z (sL i 1)) := Nat.lt_of_not_le (fun q => c_11 (nI_le q (by omega)))
        refine lv_aload_n hx hb dX1_insertBooks_14 rfl (lv_at hl 1 rfl) ?_
        refine m_get X iX1 hK hw hF2 rfl 0 (by decide) (ref := "ObjectMapper$Flush") (by decide +kernel) (Or.inl rfl) rfl dX1_insertBooks_15 ?_
        refine lv_iconst (v := 1) hx hb dX1_insertBooks_18 (by decide) ?_
        refine lv_iload_n hx hb dX1_insertBooks_19 rfl (lv_at hl 0 rfl) ?_
        refine m_callVr X (ci := 5) rfl hs9 hK hw hZ hS hA (As := [.int 1, .int (nI j)]) (rest := []) (c_entityAtK l G dce _ Mi x ad y1 z1 hc1 i 1 hi (by decide) (nI j) 1 (by decide)) (cwV 2 hts gX1_insertBooks_X4_entityAt rfl rfl rfl (by decide +kernel) ⟨Nat.le_of_ble_eq_true rfl, Nat.le_of_ble_eq_true rfl⟩) rfl hl.1 rfl (Nat.le_of_ble_eq_true rfl) dX1_insertBooks_20 (by dsimp only; omega) (by dsimp only; omega) (fun r4 M3 H locs hp hw hS hz hk => ?_)
        rw [hp.2] at hw
        have hjk1 : j < zN z1 (sL i 1) := by rw [hn1]; exact hkl
        have hm3 : zC ((kIb i) j z1) ≤ zC (itr (kIb i) (zN z (sL i 1)) z) := by rw [hz1]; exact itr_C (kIb_st i) (show j + 1 ≤ (zN z (sL i 1)) by omega) z
        have hm4 : zC z1 ≤ zC ((kIb i) j z1) := ((kIb_st i) j z1).2.1
        have hkr : j < zN z1 1 := by rw [← heq1 i 1 hi (by decide)]; exact hjk1
        rw [hp.1, eA_in (hc1.n (by unfold sL; omega)) hjk1]
        have hen : Mi ((yO y1 (sL i 1) j)) = some (eE (zE z1 (sL i 1) j)) := hc1.ent (by unfold sL; omega) (by unfold sL; omega) hjk1
        obtain ⟨b1, b2, b3, nm, rf, sn, sr, sv, hev⟩ : ∃ b1 b2 b3 nm rf sn sr sv, (zE z1 (sL i 1) j) = (b1, b2, b3, nm, rf, sn, sr, sv) := ⟨_, _, _, _, _, _, _, _, rfl⟩
        have hec : Mi ((yO y1 (sL i 1) j)) = some (.inr (1, [.int (bI b1), .int (bI b2), .int (bI b3), .int nm, .int rf, .int sn, .int sr, .int sv])) := by rw [hen, hev]; rfl
        refine lv_astore_n (lv' := [(2, .ref (yO y1 (sL i 1) j)), (1, .int (nI j)), (0, .ref h9)]) hx hb dX1_insertBooks_23 rfl hl (by decide) rfl (fun ls hl => ?_)
        refine lv_aload_n hx hb dX1_insertBooks_24 rfl (lv_at hl 0 rfl) ?_
        refine m_callVi X (ci := 1) rfl hec hK hw hZ hS hA (As := []) (rest := []) (c_X0_isNew l G dce _ Mi (yO y1 (sL i 1) j) (zE z1 (sL i 1) j) hen) (cwV 0 hts gX1_insertBooks_X0_isNew rfl rfl rfl (by decide +kernel) ⟨Nat.le_of_ble_eq_true rfl, Nat.le_of_ble_eq_true rfl⟩) rfl hl.1 rfl (Nat.le_of_ble_eq_true rfl) dX1_insertBooks_25 (by dsimp only; omega) (by dsimp only; omega) (fun r6 M5 H locs hp hw hS hz hk => ?_)
        rw [hp.2] at hw
        rw [hp.1]
        refine lv_if_eq (tgt := 42) hx hb dX1_insertBooks_28 (by decide) (fun c_28 => ?_) (fun c_28 => ?_)
        · have hFj : (kIb i) j z1 = z1 := if_neg (bI_f c_28)
          refine W.widen (k := zC z1 - zC z) (n := 4 * (zC z1 - zC z)) (by omega) (by omega) ?_
          refine lv_iinc (v := (nI (j + 1))) (lv' := [(1, .int (nI (j + 1))), (2, .ref (yO y1 (sL i 1) j)), (0, .ref h9)]) hx hb dX1_insertBooks_42 hl (k := 1) rfl (nI_1 _) (by decide) rfl (fun ls hl => ?_)
          refine lv_goto (tgt := 2) hx hb dX1_insertBooks_45 (by decide) ?_
          have hz2 : z1 = itr (kIb i) (j + 1) z := by
            show _ = (kIb i) j (itr (kIb i) j z)
            rw [← hz1]
            exact (hFj).symm
          exact ih (j + 1) z1 Mi H locs ls (by omega) (by omega) hz2 (⟨y1, ho, hc1, hs1⟩) hw hS (lv_sub hl [0, 2] rfl)
        · refine lv_aload_n hx hb dX1_insertBooks_31 rfl (lv_at hl 2 rfl) ?_
          refine lv_aload_n hx hb dX1_insertBooks_32 rfl (lv_at hl 0 rfl) ?_
          refine lv_iconst (v := 1) hx hb dX1_insertBooks_33 (by decide) ?_
          refine lv_iload_n hx hb dX1_insertBooks_34 rfl (lv_at hl 1 rfl) ?_
          refine lv_aload_n hx hb dX1_insertBooks_35 rfl (lv_at hl 0 rfl) ?_
          refine m_get X iX0 hK hw hec rfl 4 (by decide) (ref := "ObjectMapper$Entity") (by decide +kernel) (Or.inl rfl) rfl dX1_insertBooks_36 ?_
          obtain ⟨zB, hzB⟩ : ∃ zB, zB = kIn i 1 j rf z1 := ⟨_, rfl⟩
          have hFj : (kIb i) j z1 = zB := by
            rw [hzB]
            show (if fNew (zE z1 (sL i 1) j) = true then _ else _) = _
            rw [if_pos (bI_t c_28)]
            rw [show eRf (zE z1 (sL i 1) j) = rf from by rw [hev]; rfl]
          rw [hFj] at hm3 hm4
          refine m_callVv X (ci := 2) rfl hF2 hK hw hZ hS hA (As := [.ref (yO y1 (sL i 1) j), .int 1, .int (nI j), .int rf]) (rest := []) (c_insertK l G dce _ Mi x ad y1 z1 hc1 i hi heq1 h9 hF1 1 (by decide) j hjk1 rf (by omega) (zC zB - zC z1) (4 * (zC zB - zC z1)) (by rw [hzB]; exact (kNo_room hc1 0 1 j).2) 1 (by decide)) (cwV 4 hts gX1_insertBooks_X1_insert rfl rfl rfl (by decide +kernel) ⟨Nat.le_of_ble_eq_true rfl, Nat.le_of_ble_eq_true rfl⟩) rfl hl.1 rfl (Nat.le_of_ble_eq_true rfl) dX1_insertBooks_39 (by dsimp only; omega) (by dsimp only; omega) (fun M7 H locs hp hw hS hz hk => ?_)
          rw [← hzB] at hp
          refine W.widen (k := zC zB - zC z) (n := 4 * (zC zB - zC z)) (by omega) (by omega) ?_
          refine lv_iinc (v := (nI (j + 1))) (lv' := [(1, .int (nI (j + 1))), (2, .ref (yO y1 (sL i 1) j)), (0, .ref h9)]) hx hb dX1_insertBooks_42 hl (k := 1) rfl (nI_1 _) (by decide) rfl (fun ls hl => ?_)
          refine lv_goto (tgt := 2) hx hb dX1_insertBooks_45 (by decide) ?_
          have hz2 : zB = itr (kIb i) (j + 1) z := by
            show _ = (kIb i) j (itr (kIb i) j z)
            rw [← hz1]
            exact (hFj).symm
          exact ih (j + 1) zB M7 H locs ls (by omega) (by omega) hz2 (cTo.tr ho hs1 hp) hw hS (lv_sub hl [0, 2] rfl)
  exact loop ((zN z (sL i 1)) + 1) 0 z M _ _ ls (Nat.zero_le _) (by omega) rfl (cTo.rf hcw) hw hS (lv_sub hl [0, 1] rfl)
