theorem CW.mono {G : gG} {dce x : Nat} {ad : Nat → Nat} {M M1 : gM} {y : cY} {z : cZ} (h : CW G dce x ad M y z) (t : ∀ b w, M b = some w → M1 b = some w) : CW G dce x ad M1 y z := by
  obtain ⟨⟨hX, hT, ⟨f, hsa, hf⟩, hS⟩, hL, hEl, ⟨hj, ⟨hj1, hj2, hj3⟩, hj4⟩, hD, hn⟩ := h
  refine ⟨⟨t _ _ hX, fun k hk => ⟨t _ _ (hT k hk).1, t _ _ (hT k hk).2⟩, ⟨f, t _ _ hsa, hf⟩, fun i hi => ⟨t _ _ (hS i hi).1, t _ _ (hS i hi).2⟩⟩, ?_, ⟨fun a b ha hb => t _ _ (hEl.1 a b ha hb), fun a b ha hb hc => t _ _ (hEl.2 a b ha hb hc)⟩, ⟨t _ _ hj, ⟨t _ _ hj1, t _ _ hj2, hj3⟩, hj4⟩, hD, hn⟩
  intro v hv
  obtain ⟨⟨mc, q1⟩, q2⟩ := hL v hv
  refine ⟨⟨mc, t _ _ q1⟩, ?_⟩
  rcases q2 with q2 | ⟨cap, g, q2, q3⟩
  · exact Or.inl q2
  · exact Or.inr ⟨cap, g, t _ _ q2, q3⟩
theorem cStep.mono {ad : Nat → Nat} {dce : Nat} {y : cY} {z : cZ} {M M1 : gM} (t : ∀ b w, M b = some w → M1 b = some w) : cStep ad dce y z M y z M1 := ⟨fun b w hb _ => t b w hb, fun _ h => Or.inl h⟩
theorem nI_subN {a b : Nat} (h : b ≤ a) : nI a - nI b = nI (a - b) := by
  rw [show nI a = nI (a - b) + nI b from by rw [nI_add, Nat.sub_add_cancel h]]
  exact Int32.add_sub_cancel _ _
def kCla (i : Nat) (z : cZ) : Bool := (anyN (fun j => fClash (zE z (sL i 0) j) (zR z 0 j)) (zN z (sL i 0)) || anyN (fun j => fClash (zE z (sL i 1) j) (zR z 1 j)) (zN z (sL i 1)))
def kDan (i : Nat) (z : cZ) : Bool := (anyN (fun j => (thB i 0 (nI j) z && (!decide (rfB i 0 (nI j) z = -1)) && !thB i (1 - 0) (rfB i 0 (nI j) z) z)) (zN z (sL i 0)) || anyN (fun j => (thB i 1 (nI j) z && (!decide (rfB i 1 (nI j) z = -1)) && !thB i (1 - 1) (rfB i 1 (nI j) z) z)) (zN z (sL i 1)))
theorem kNo_W (ac : Int32) (k j : Nat) (z : cZ) : zW (kNo ac k j z) = zW z + 1 := rfl
theorem itr_mW {F : Nat → cZ → cZ} (h : ∀ j z, zW z ≤ zW (F j z)) (n : Nat) (z : cZ) : zW z ≤ zW (itr F n z) := by
  induction n with
  | zero => exact Nat.le_refl _
  | succ n ih => exact Nat.le_trans ih (h n _)
theorem kFl_W (i : Nat) (z : cZ) : zW z ≤ zW (kFl i z) := by
  have a : ∀ j z, zW z ≤ zW (kIa i j z) := fun j z => by
    unfold kIa
    split
    · exact Nat.le_succ _
    · exact Nat.le_refl _
  have b : ∀ j z, zW z ≤ zW (kIb i j z) := fun j z => by
    unfold kIb
    split
    · exact Nat.le_succ _
    · exact Nat.le_refl _
  have c : ∀ k j z, zW z ≤ zW (kUp i k j z) := fun k j z => by
    unfold kUp
    split
    · exact Nat.le_succ _
    · exact Nat.le_refl _
  have d : ∀ k j z, zW z ≤ zW (kDe i k j z) := fun k j z => by
    unfold kDe
    split
    · exact Nat.le_succ _
    · exact Nat.le_refl _
  exact Nat.le_trans (itr_mW a _ _) (Nat.le_trans (itr_mW b _ _) (Nat.le_trans (itr_mW (c 0) _ _) (Nat.le_trans (itr_mW (c 1) _ _) (Nat.le_trans (itr_mW (d 1) _ _) (itr_mW (d 0) _ _)))))
set_option maxHeartbeats 4000000 in
set_option maxRecDepth 100000 in
theorem c_flush (l : Launch) (G : gG) (dce sz : Nat) (M : gM) (hlt : l.stackTraces = false) (x : Nat) (ad : Nat → Nat) (y : cY) (z : cZ) (hcw : CW G dce x ad M y z) (heq : cEq z) (si : Int32) (kc ks : Nat) (hkc : ∀ i, si = nI i → i < 3 → zW z < 4096 → (kCla i z || kDan i z) = false → zC (kFl i z) - zC z + 3 ≤ kc) (hks : ∀ i, si = nI i → i < 3 → zW z < 4096 → (kCla i z || kDan i z) = false → 4 * (zC (kFl i z) - zC z) + 16 ≤ ks) (hk2 : 3 ≤ kc) (hk10 : 16 ≤ ks) : xI l yX6_flush wsX6_flush ({ frames := 7, cells := kc, slots := ks, locals := 163 }) G dce sz M [.ref x, .int si] (fun r M' => ∃ i, aS si i ∧ zW z < 4096 ∧ (kCla i z || kDan i z) = false ∧ r = nI (zW (kFl i z) - zW z) ∧ cTo G dce x ad M y z M' (kFl i z)) (fun E M' => ((E = xIOB ∧ sOK si = false) ∨ (E = xISE ∧ ∃ i, aS si i ∧ (4096 ≤ zW z ∨ (kCla i z || kDan i z) = true))) ∧ cTo G dce x ad M y z M' z) (kc) (ks) := by
  obtain ⟨f, hsa, hf⟩ := hcw.1.2.2.1
  have hx9 : M x = some (.inr (7, [.ref (ad 0), .ref (ad 1), .ref (ad 2), .ref (ad 3)])) := hcw.1.1
  have hj9 : M (ad 2) = some (.inr (3, [.int (nI (zW z)), .ref (yX y 8), .ref (yX y 9)])) := hcw.2.2.2.1.1
  have hcc := hcw.2.2.2.1.2.1.2.2
  refine xMet (Qc := QI G _) (XC := QX G _) (cc := cX6_flush) (maxL := 5) (ret := (some .int)) (by decide) rfl (Nat.le_of_ble_eq_true rfl) ?_
  intro p e s m below meth c A ls X hno hnm hw hK hZ hA hS hsz eA hl
  obtain ⟨hx, hb, hr, hts, hown, hlk, hml⟩ := id X
  have hl : lv_has ls 5 [(0, .ref x), (1, .int si)] := hl
  have iX1 : ∀ w ∈ wsX10, w ∈ wsX6_flush := by decide +kernel
  have iX2 : ∀ w ∈ wsX20, w ∈ wsX6_flush := by decide +kernel
  have iX6 : ∀ w ∈ wsX60, w ∈ wsX6_flush := by decide +kernel
  refine lv_aload_n hx hb dX6_flush_0 rfl (lv_at hl 0 rfl) ?_
  refine lv_iload_n hx hb dX6_flush_1 rfl (lv_at hl 1 rfl) ?_
  refine x_callVr X (ci := 7) rfl hx9 hK hw hZ hS hA (As := [.int si]) (rest := []) (c_X6_sessionAt l G dce _ M hlt x (ad 0) (ad 1) (ad 2) (ad 3) hcw.1.1 f (fun i => ad (4 + i)) hsa hf si) (cwV 1 hts gX6_flush_X6_sessionAt rfl rfl rfl (by decide +kernel) ⟨Nat.le_of_ble_eq_true rfl, Nat.le_of_ble_eq_true rfl⟩) rfl hl.1 rfl (Nat.le_of_ble_eq_true rfl) dX6_flush_2 (by dsimp only; omega) (by dsimp only; omega) (fun E ce q9 M1 H locs hp hw hS hz hk hce hcv hcl9 => ?_) (fun r2 M1 H locs hp hw hS hz hk => ?_)
  · exact m_out X hno hK hw hS hce hcv hcl9 (by omega) (by omega) (⟨Or.inl ⟨hp.1, hp.2.1⟩, by rw [hp.2.2]; exact cTo.rf hcw⟩)
  obtain ⟨⟨i, hi, ei, er⟩, hso, eM⟩ := hp
  have er : r2 = ad (4 + i) := er
  rw [er]
  rw [eM] at hw
  have hs9 : M (ad (4 + i)) = some (.inr (5, [.ref (ad (12 + 2 * i)), .ref (ad (13 + 2 * i)), .ref (ad (40 + i))])) := (hcw.1.2.2.2 i hi).1
  refine lv_astore_n (lv' := [(2, .ref (ad (4 + i))), (0, .ref x), (1, .int si)]) hx hb dX6_flush_5 rfl hl (by decide) rfl (fun ls hl => ?_)
  refine lv_aload_n hx hb dX6_flush_6 rfl (lv_at hl 1 rfl) ?_
  refine m_get X iX6 hK hw hx9 rfl 2 (by decide) (ref := "ObjectMapper") (by decide +kernel) (Or.inl rfl) rfl dX6_flush_7 ?_
  refine m_callVi X (ci := 3) rfl hj9 hK hw hZ hS hA (As := []) (rest := []) (c_X2_isFull l G dce _ M (ad 2) (yX y 8) (yX y 9) (nI (zW z)) hj9) (cwV 0 hts gX6_flush_X2_isFull rfl rfl rfl (by decide +kernel) ⟨Nat.le_of_ble_eq_true rfl, Nat.le_of_ble_eq_true rfl⟩) rfl hl.1 rfl (Nat.le_of_ble_eq_true rfl) dX6_flush_10 (by dsimp only; omega) (by dsimp only; omega) (fun r4 M3 H locs hp hw hS hz hk => ?_)
  rw [hp.2] at hw
  rw [hp.1]
  refine lv_if_eq (tgt := 26) hx hb dX6_flush_13 (by decide) (fun c_13 => ?_) (fun c_13 => ?_)
  · have hnf : ¬ (4096 : Int32) ≤ nI (zW z) := of_decide_eq_false ((bI_0 _).mp c_13)
    have hwl : zW z < 4096 := Nat.lt_of_not_le (fun q => hnf (nI_le (a := 4096) (b := zW z) q (by omega)))
    refine m_new X iX1 tyX1_ok (ci := 2) (by decide +kernel) (by decide +kernel) (by decide +kernel) hK hw hS hA rfl (fs := [.null, .null, .null, .null]) rfl (by first | exact Nat.le_of_ble_eq_true rfl | (dsimp only; omega)) (by first | exact Nat.le_of_ble_eq_true rfl | (dsimp only; omega)) dX6_flush_26 (fun fl M5 H nfl eM5 hw hS => ?_)
    have d_x_fl : x ≠ fl := gM_nn nfl hx9
    have k6 := (congrFun eM5 x).trans (mu_g hx9 d_x_fl)
    have k7 : M5 fl = some (.inr (2, [.null, .null, .null, .null])) := by rw [eM5]; exact mu_s _ _ _
    refine lv_dup hx hb dX6_flush_29 rfl ?_
    refine lv_aload_n hx hb dX6_flush_30 rfl (lv_at hl 0 rfl) ?_
    refine lv_aload_n hx hb dX6_flush_31 rfl (lv_at hl 1 rfl) ?_
    refine m_get X iX6 hK hw k6 rfl 0 (by decide) (ref := "ObjectMapper") (by decide +kernel) (Or.inl rfl) rfl dX6_flush_32 ?_
    refine lv_aload_n hx hb dX6_flush_35 rfl (lv_at hl 1 rfl) ?_
    refine m_get X iX6 hK hw k6 rfl 1 (by decide) (ref := "ObjectMapper") (by decide +kernel) (Or.inl rfl) rfl dX6_flush_36 ?_
    refine lv_aload_n hx hb dX6_flush_39 rfl (lv_at hl 1 rfl) ?_
    refine m_get X iX6 hK hw k6 rfl 2 (by decide) (ref := "ObjectMapper") (by decide +kernel) (Or.inl rfl) rfl dX6_flush_40 ?_
    refine m_callIv (ret9 := none) X hK hw hZ hS hA (As := [.ref (ad (4 + i)), .ref (ad 0), .ref (ad 1), .ref (ad 2)]) (rest := [.ref fl]) (c_X1_init l G dce _ M5 fl (ad (4 + i)) (ad 0) (ad 1) (ad 2) k7) (cwI 4 hts gX6_flush_X1_init rfl rfl rfl (hts (.initialized RX1) (by decide +kernel)) (hts (.methodLink RX6 135 yX1_init) (by decide +kernel)) (hts (.instanceMethod yX1_init) (by decide +kernel)) rfl (by decide +kernel) ⟨Nat.le_of_ble_eq_true rfl, Nat.le_of_ble_eq_true rfl⟩) rfl hl.1 rfl (Nat.le_of_ble_eq_true rfl) dX6_flush_43 (by dsimp only; omega) (by dsimp only; omega) (fun M8 H locs hp hw hS hz hk => ?_)
    have eM8 := hp
    have k9 := (congrFun eM8 x).trans (mu_g k6 d_x_fl)
    have k10 : M8 fl = some (.inr (2, [.ref (ad (4 + i)), .ref (ad 0), .ref (ad 1), .ref (ad 2)])) := by rw [eM8]; exact mu_s _ _ _
    have fr : ∀ b w, M b = some w → M8 b = some w := fun b w hb => by rw [eM8, mu_n (gM_nn nfl hb), eM5, mu_n (gM_nn nfl hb)]; exact hb
    have hc2 : CW G dce x ad M8 y z := hcw.mono fr
    have hF2 : M8 fl = some (oF (ad (4 + i)) (ad 0) (ad 1) (ad 2)) := k10
    have hj2 : M8 (ad 2) = some (.inr (3, [.int (nI (zW z)), .ref (yX y 8), .ref (yX y 9)])) := fr _ _ hj9
    refine lv_astore_n (lv' := [(3, .ref fl), (2, .ref (ad (4 + i))), (0, .ref x), (1, .int si)]) hx hb dX6_flush_46 rfl hl (by decide) rfl (fun ls hl => ?_)
    refine lv_aload_n hx hb dX6_flush_47 rfl (lv_at hl 0 rfl) ?_
    refine m_callVi X (ci := 2) rfl k10 hK hw hZ hS hA (As := []) (rest := []) (c_clashes l G dce _ M8 x ad y z hc2 i hi heq fl hF2) (cwV 0 hts gX6_flush_X1_clashes rfl rfl rfl (by decide +kernel) ⟨Nat.le_of_ble_eq_true rfl, Nat.le_of_ble_eq_true rfl⟩) rfl hl.1 rfl (Nat.le_of_ble_eq_true rfl) dX6_flush_48 (by dsimp only; omega) (by dsimp only; omega) (fun r12 M11 H locs hp hw hS hz hk => ?_)
    rw [hp.2] at hw
    rw [hp.1]
    refine lv_if_ne (tgt := 61) hx hb dX6_flush_51 (by decide) (fun c_51 => ?_) (fun c_51 => ?_)
    · exact m_throwS X hno hlt rfl (cls := "java/lang/IllegalStateException") (text := "the flush fails") (names := xNm) (by decide +kernel) (by decide +kernel) (by decide +kernel) (by decide +kernel) (by decide) (fun w h => List.mem_cons_of_mem _ (List.mem_append_left _ (List.mem_append_right _ h))) xng_ISE (by decide) xgd_ISE hK hw hZ hS hl.1 dX6_flush_61 dX6_flush_64 dX6_flush_65 dX6_flush_67 dX6_flush_70 (by first | exact Nat.le_of_ble_eq_true rfl | (dsimp only; omega)) (by first | exact Nat.le_of_ble_eq_true rfl | (dsimp only; omega)) (by first | exact Nat.le_of_ble_eq_true rfl | (dsimp only; omega)) (by first | exact Nat.le_of_ble_eq_true rfl | (dsimp only; omega)) (by omega) (by omega) (⟨Or.inr ⟨rfl, i, ⟨hi, ei⟩, Or.inr (by rw [show kCla i z = true from bI_t c_51]; rfl)⟩, ⟨y, rfl, hc2, cStep.mono fr⟩⟩)
    · refine lv_aload_n hx hb dX6_flush_54 rfl (lv_at hl 0 rfl) ?_
      refine m_callVi X (ci := 2) rfl k10 hK hw hZ hS hA (As := []) (rest := []) (c_dangling l G dce _ M8 x ad y z hc2 i hi heq fl hF2) (cwV 0 hts gX6_flush_X1_leavesDanglingReference rfl rfl rfl (by decide +kernel) ⟨Nat.le_of_ble_eq_true rfl, Nat.le_of_ble_eq_true rfl⟩) rfl hl.1 rfl (Nat.le_of_ble_eq_true rfl) dX6_flush_55 (by dsimp only; omega) (by dsimp only; omega) (fun r14 M13 H locs hp hw hS hz hk => ?_)
      rw [hp.2] at hw
      rw [hp.1]
      refine lv_if_eq (tgt := 71) hx hb dX6_flush_58 (by decide) (fun c_58 => ?_) (fun c_58 => ?_)
      · refine lv_aload_n hx hb dX6_flush_71 rfl (lv_at hl 2 rfl) ?_
        refine m_get X iX6 hK hw k9 rfl 2 (by decide) (ref := "ObjectMapper") (by decide +kernel) (Or.inl rfl) rfl dX6_flush_72 ?_
        refine m_get X iX2 hK hw hj2 rfl 0 (by decide) (ref := "ObjectMapper$Journal") (by decide +kernel) (Or.inl rfl) rfl dX6_flush_75 ?_
        refine lv_istore (lv' := [(4, .int (nI (zW z))), (3, .ref fl), (2, .ref (ad (4 + i))), (0, .ref x), (1, .int si)]) hx hb dX6_flush_78 hl (by decide) rfl (fun ls hl => ?_)
        refine lv_aload_n hx hb dX6_flush_80 rfl (lv_at hl 1 rfl) ?_
        have hok9 : (kCla i z || kDan i z) = false := by rw [show kCla i z = false from (bI_0 _).mp c_51, show kDan i z = false from (bI_0 _).mp c_58]; rfl
        have hkc9 := hkc i ei hi hwl hok9
        have hks9 := hks i ei hi hwl hok9
        refine m_callVv X (ci := 2) rfl k10 hK hw hZ hS hA (As := []) (rest := []) (c_doWrites l G dce _ M8 x ad y z hc2 i hi heq fl hF2 (by omega) (zC (kFl i z) - zC z) (4 * (zC (kFl i z) - zC z)) (Nat.le_refl _) (Nat.le_refl _)) (cwV 0 hts gX6_flush_X1_doWrites rfl rfl rfl (by decide +kernel) ⟨Nat.le_of_ble_eq_true rfl, Nat.le_of_ble_eq_true rfl⟩) rfl hl.1 rfl (Nat.le_of_ble_eq_true rfl) dX6_flush_81 (by dsimp only; omega) (by dsimp only; omega) (fun M15 H locs hp hw hS hz hk => ?_)
        obtain ⟨y3, ho3, hc3, hs3⟩ := hp
        have hX3 : M15 x = some (.inr (7, [.ref (ad 0), .ref (ad 1), .ref (ad 2), .ref (ad 3)])) := hc3.1.1
        have hj3 : M15 (ad 2) = some (.inr (3, [.int (nI (zW (kFl i z))), .ref (yX y3 8), .ref (yX y3 9)])) := hc3.2.2.2.1.1
        refine lv_aload_n hx hb dX6_flush_84 rfl (lv_at hl 3 rfl) ?_
        refine m_get X iX6 hK hw hX3 rfl 2 (by decide) (ref := "ObjectMapper") (by decide +kernel) (Or.inl rfl) rfl dX6_flush_85 ?_
        refine m_get X iX2 hK hw hj3 rfl 0 (by decide) (ref := "ObjectMapper$Journal") (by decide +kernel) (Or.inl rfl) rfl dX6_flush_88 ?_
        refine lv_iload hx hb dX6_flush_91 (lv_at hl 0 rfl) ?_
        have hww := kFl_W i z
        refine lv_isub hx hb dX6_flush_93 ?_
        rw [nI_subN hww]
        refine vx_ret ?_
        exact m_iret X hK hw hS ⟨i, ⟨hi, ei⟩, hwl, by rw [show kCla i z = false from (bI_0 _).mp c_51, show kDan i z = false from (bI_0 _).mp c_58]; rfl, rfl, cTo.tr rfl (cStep.mono fr) ⟨y3, ho3, hc3, hs3⟩⟩ (by omega) (by omega) dX6_flush_94
      · exact m_throwS X hno hlt rfl (cls := "java/lang/IllegalStateException") (text := "the flush fails") (names := xNm) (by decide +kernel) (by decide +kernel) (by decide +kernel) (by decide +kernel) (by decide) (fun w h => List.mem_cons_of_mem _ (List.mem_append_left _ (List.mem_append_right _ h))) xng_ISE (by decide) xgd_ISE hK hw hZ hS hl.1 dX6_flush_61 dX6_flush_64 dX6_flush_65 dX6_flush_67 dX6_flush_70 (by first | exact Nat.le_of_ble_eq_true rfl | (dsimp only; omega)) (by first | exact Nat.le_of_ble_eq_true rfl | (dsimp only; omega)) (by first | exact Nat.le_of_ble_eq_true rfl | (dsimp only; omega)) (by first | exact Nat.le_of_ble_eq_true rfl | (dsimp only; omega)) (by omega) (by omega) (⟨Or.inr ⟨rfl, i, ⟨hi, ei⟩, Or.inr (by rw [show kDan i z = true from bI_t c_58, Bool.or_true])⟩, ⟨y, rfl, hc2, cStep.mono fr⟩⟩)
  · exact m_throwS X hno hlt rfl (cls := "java/lang/IllegalStateException") (text := "too many writes") (names := xNm) (by decide +kernel) (by decide +kernel) (by decide +kernel) (by decide +kernel) (by decide) (fun w h => List.mem_cons_of_mem _ (List.mem_append_left _ (List.mem_append_right _ h))) xng_ISE (by decide) xgd_ISE hK hw hZ hS hl.1 dX6_flush_16 dX6_flush_19 dX6_flush_20 dX6_flush_22 dX6_flush_25 (by first | exact Nat.le_of_ble_eq_true rfl | (dsimp only; omega)) (by first | exact Nat.le_of_ble_eq_true rfl | (dsimp only; omega)) (by first | exact Nat.le_of_ble_eq_true rfl | (dsimp only; omega)) (by first | exact Nat.le_of_ble_eq_true rfl | (dsimp only; omega)) (by omega) (by omega) (⟨Or.inr ⟨rfl, i, ⟨hi, ei⟩, Or.inl (Nat.le_of_not_lt (fun q => absurd (of_decide_eq_true (bI_t c_13)) (nI_ge (a := zW z) (b := 4096) q (by decide))))⟩, cTo.rf hcw⟩)
