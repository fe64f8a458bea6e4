theorem bI_f {b : Bool} (h : bI b = 0) : ¬ b = true := by rw [(bI_0 b).mp h]; simp
theorem bI_t {b : Bool} (h : ¬ bI b = 0) : b = true := by
  cases b
  · exact absurd rfl h
  · rfl
theorem c_sizeOf (l : Launch) (G : gG) (dce sz : Nat) (M : gM) (x : Nat) (ad : Nat → Nat) (y : cY) (z : cZ) (hcw : CW G dce x ad M y z) (i k : Nat) (hi : i < 3) (hk2 : k < 2) : mI l yX4_sizeOf wsX4_sizeOf ({ frames := 1, cells := 0, slots := 0, locals := 21 }) G dce sz M [.ref (ad (4 + i)), .int (nI k)] (fun r M' => r = nI (zN z (sL i k)) ∧ M' = M) (0) (0) := by
  have hu : sL i k < 8 := by unfold sL; omega
  obtain ⟨⟨mc, hli⟩, hrow⟩ := hcw.2.1 (sL i k) hu
  have hv := (hcw.1.2.2.2 i hi).1
  have hn := hcw.n hu
  rw [← ad_if (ad := ad) (i := i) hk2] at hli
  exact c_X4_sizeOf l G dce sz M _ _ _ _ hv (nI k) mc _ _ hli
theorem c_entityAt (l : Launch) (G : gG) (dce sz : Nat) (M : gM) (x : Nat) (ad : Nat → Nat) (y : cY) (z : cZ) (hcw : CW G dce x ad M y z) (i k : Nat) (hi : i < 3) (hk2 : k < 2) (ky : Int32) : mR l yX4_entityAt wsX4_entityAt ({ frames := 3, cells := 0, slots := 0, locals := 64 }) G dce sz M [.ref (ad (4 + i)), .int (nI k), .int ky] (fun r M' => r = enA ad (yO y) (zN z) i k ky ∧ M' = M) (0) (0) := by
  have hu : sL i k < 8 := by unfold sL; omega
  obtain ⟨⟨mc, hli⟩, hrow⟩ := hcw.2.1 (sL i k) hu
  have hv := (hcw.1.2.2.2 i hi).1
  have hn := hcw.n hu
  rw [← ad_if (ad := ad) (i := i) hk2] at hli
  by_cases q : inK (zN z (sL i k)) ky = true
  · obtain ⟨j, h1, rfl⟩ := inK_n hn q
    rw [eA_in hn h1]
    rcases hrow with ⟨h2, -⟩ | ⟨cap, g, h2, h3, h4, h5⟩
    · omega
    · exact c_X4_entityAt_in l G dce sz M _ _ _ _ hv (nI k) mc _ j cap _ _ g _ hli h2 h1 h3 h4.1 (h5 j h1) (hcw.ent (by unfold sL; omega) hu h1)
  · rw [show enA ad (yO y) (zN z) i k ky = ad (40 + i) from if_neg q]
    exact c_X4_entityAt_out l G dce sz M _ _ _ _ hv (nI k) mc _ _ hli ky (inK_not (by simpa using q))
theorem c_size (l : Launch) (G : gG) (dce sz : Nat) (M : gM) (x : Nat) (ad : Nat → Nat) (y : cY) (z : cZ) (hcw : CW G dce x ad M y z) (k : Nat) (hk2 : k < 2) : mI l yX5_size wsX5_size ({ frames := 1, cells := 0, slots := 0, locals := 20 }) G dce sz M [.ref (ad k)] (fun r M' => r = nI (zN z k) ∧ M' = M) (0) (0) := by
  obtain ⟨⟨mc, hli⟩, hrow⟩ := hcw.2.1 k (by omega)
  have hv := (hcw.1.2.1 k hk2).1
  have hn := hcw.n (u := k) (by omega)
  exact c_X5_size l G dce sz M _ _ _ hv mc _ _ hli
theorem c_rowAt (l : Launch) (G : gG) (dce sz : Nat) (M : gM) (x : Nat) (ad : Nat → Nat) (y : cY) (z : cZ) (hcw : CW G dce x ad M y z) (k : Nat) (hk2 : k < 2) (ky : Int32) : mR l yX5_rowAt wsX5_rowAt ({ frames := 3, cells := 0, slots := 0, locals := 64 }) G dce sz M [.ref (ad k), .int ky] (fun r M' => r = rwA ad (yO y) (zN z) k ky ∧ M' = M) (0) (0) := by
  obtain ⟨⟨mc, hli⟩, hrow⟩ := hcw.2.1 k (by omega)
  have hv := (hcw.1.2.1 k hk2).1
  have hn := hcw.n (u := k) (by omega)
  by_cases q : inK (zN z k) ky = true
  · obtain ⟨j, h1, rfl⟩ := inK_n hn q
    rw [rA_in hn h1]
    rcases hrow with ⟨h2, -⟩ | ⟨cap, g, h2, h3, h4, h5⟩
    · omega
    · exact c_X5_rowAt_in l G dce sz M _ _ _ hv mc _ j cap _ _ g _ hli h2 h1 h3 h4.1 (h5 j h1) (hcw.row hk2 h1)
  · rw [show rwA ad (yO y) (zN z) k ky = ad (20 + k) from if_neg q]
    exact c_X5_rowAt_out l G dce sz M _ _ _ hv mc _ _ hli ky (inK_not (by simpa using q))
set_option maxHeartbeats 4000000 in
set_option maxRecDepth 100000 in
theorem c_countLive (l : Launch) (G : gG) (dce sz : Nat) (M : gM) (x : Nat) (ad : Nat → Nat) (y : cY) (z : cZ) (hcw : CW G dce x ad M y z) (i k : Nat) (hi : i < 3) (hk2 : k < 2) : mI l yX4_countLive wsX4_countLive ({ frames := 4, cells := 0, slots := 0, locals := 87 }) G dce sz M [.ref (ad (4 + i)), .int (nI k)] (fun r M' => r = nI (cnt (fun j => fLive (zE z (sL i k) j)) (zN z (sL i k))) ∧ M' = M) (0) (0) := by
  have hs9 : M (ad (4 + i)) = some (.inr (5, [.ref (ad (12 + 2 * i)), .ref (ad (13 + 2 * i)), .ref (ad (40 + i))])) := (hcw.1.2.2.2 i hi).1
  refine wMet (Qc := QI G _) (cc := cX4_countLive) (maxL := 4) (ret := (some .int)) (by decide) rfl (Nat.le_of_ble_eq_true rfl) ?_
  intro p e s m below meth c A ls X hnm hw hK hZ hA hS hsz eA hl
  obtain ⟨hx, hb, hr, hts, hown, hlk, hml⟩ := id X
  have hl : lv_has ls 4 [(0, .ref (ad (4 + i))), (1, .int (nI k))] := hl
  refine lv_iconst (v := 0) hx hb dX4_countLive_0 (by decide) ?_
  refine lv_istore_n (lv' := [(2, .int 0), (0, .ref (ad (4 + i))), (1, .int (nI k))]) hx hb dX4_countLive_1 rfl hl (by decide) rfl (fun ls hl => ?_)
  refine lv_iconst (v := 0) hx hb dX4_countLive_2 (by decide) ?_
  refine lv_istore_n (lv' := [(3, .int 0), (2, .int 0), (0, .ref (ad (4 + i))), (1, .int (nI k))]) hx hb dX4_countLive_3 rfl hl (by decide) rfl (fun ls hl => ?_)
  have loop : ∀ (d : Nat) (j : Nat) (H : Heap) (locs : List Loc) (ls : Array Slot), j ≤ (zN z (sL i k)) → (zN z (sL i k)) + 1 ≤ j + d → wd G A M H → va_S A s.heap H locs → lv_has ls 4 [(3, .int (nI j)), (2, .int (nI (cnt (fun j => fLive (zE z (sL i k) j)) j))), (0, .ref (ad (4 + i))), (1, .int (nI k))] → W p l e ({ frames := 4, cells := 0, slots := 0, locals := 87 }) s m [.ref (ad (4 + i)), .int (nI k)].toArray below meth c H locs (0) (0) (MQ below (QI G (fun r M' => r = nI (cnt (fun j => fLive (zE z (sL i k) j)) (zN z (sL i k))) ∧ M' = M) A) [.ref (ad (4 + i)), .int (nI k)].toArray s (0) (0) A) (F0 m 4 ls []) := by
    intro d
    induction d with
    | zero => intro j H locs ls h1 h2; exact absurd h2 (by omega)
    | succ d ih =>
      intro j H locs ls hj1 hj2 hw hS hl
      have hjn : (zN z (sL i k)) ≤ 1024 := hcw.n (by unfold sL; omega)
      refine lv_iload_n hx hb dX4_countLive_4 rfl (lv_at hl 0 rfl) ?_
      refine lv_aload_n hx hb dX4_countLive_5 rfl (lv_at hl 2 rfl) ?_
      refine lv_iload_n hx hb dX4_countLive_6 rfl (lv_at hl 3 rfl) ?_
      refine m_callVi X (ci := 5) rfl hs9 hK hw hZ hS hA (As := [.int (nI k)]) (rest := [.int (nI j)]) (c_sizeOf l G dce _ M x ad y z hcw i k hi hk2) (cwV 1 hts gX4_countLive_X4_sizeOf rfl rfl rfl (by decide +kernel) ⟨Nat.le_of_ble_eq_true rfl, Nat.le_of_ble_eq_true rfl⟩) rfl hl.1 rfl (Nat.le_of_ble_eq_true rfl) dX4_countLive_7 (Nat.le_of_ble_eq_true rfl) (Nat.le_of_ble_eq_true rfl) (fun r2 M1 H locs hp hw hS hz hk => ?_)
      rw [hp.2] at hw
      rw [hp.1]
      refine lv_icmp_ge (tgt := 34) hx hb dX4_countLive_10 (by decide) (fun c_10 => ?_) (fun c_10 => ?_)
      · have hkn : (zN z (sL i k)) ≤ j := (nI_leI (by omega) (by omega)).mp c_10
        refine lv_iload_n hx hb dX4_countLive_34 rfl (lv_at hl 1 rfl) ?_
        have hjj : j = (zN z (sL i k)) := by omega
        exact m_iret X hK hw hS ⟨by rw [hjj], rfl⟩ (by omega) (by omega) dX4_countLive_35
      · have hkl : j < (zN z (sL i k)) := Nat.lt_of_not_le (fun q => c_10 (nI_le q (by omega)))
        refine lv_aload_n hx hb dX4_countLive_13 rfl (lv_at hl 2 rfl) ?_
        refine lv_iload_n hx hb dX4_countLive_14 rfl (lv_at hl 3 rfl) ?_
        refine lv_iload_n hx hb dX4_countLive_15 rfl (lv_at hl 0 rfl) ?_
        refine m_callVr X (ci := 5) rfl hs9 hK hw hZ hS hA (As := [.int (nI k), .int (nI j)]) (rest := []) (c_entityAt l G dce _ M x ad y z hcw i k hi hk2 (nI j)) (cwV 2 hts gX4_countLive_X4_entityAt rfl rfl rfl (by decide +kernel) ⟨Nat.le_of_ble_eq_true rfl, Nat.le_of_ble_eq_true rfl⟩) rfl hl.1 rfl (Nat.le_of_ble_eq_true rfl) dX4_countLive_16 (Nat.le_of_ble_eq_true rfl) (Nat.le_of_ble_eq_true rfl) (fun r4 M3 H locs hp hw hS hz hk => ?_)
        rw [hp.2] at hw
        rw [hp.1, eA_in hjn hkl]
        have hen : M ((yO y (sL i k) j)) = some (eE (zE z (sL i k) j)) := hcw.ent (by unfold sL; omega) (by unfold sL; omega) hkl
        obtain ⟨b1, b2, b3, nm, rf, sn, sr, sv, hev⟩ : ∃ b1 b2 b3 nm rf sn sr sv, (zE z (sL i k) j) = (b1, b2, b3, nm, rf, sn, sr, sv) := ⟨_, _, _, _, _, _, _, _, rfl⟩
        have hec : M ((yO y (sL i k) j)) = some (.inr (1, [.int (bI b1), .int (bI b2), .int (bI b3), .int nm, .int rf, .int sn, .int sr, .int sv])) := by rw [hen, hev]; rfl
        refine m_callVi X (ci := 1) rfl hec hK hw hZ hS hA (As := []) (rest := []) (c_X0_isLive l G dce _ M (yO y (sL i k) j) (zE z (sL i k) j) hen) (cwV 0 hts gX4_countLive_X0_isLive rfl rfl rfl (by decide +kernel) ⟨Nat.le_of_ble_eq_true rfl, Nat.le_of_ble_eq_true rfl⟩) rfl hl.1 rfl (Nat.le_of_ble_eq_true rfl) dX4_countLive_19 (Nat.le_of_ble_eq_true rfl) (Nat.le_of_ble_eq_true rfl) (fun r6 M5 H locs hp hw hS hz hk => ?_)
        rw [hp.2] at hw
        rw [hp.1]
        refine lv_if_eq (tgt := 28) hx hb dX4_countLive_22 (by decide) (fun c_22 => ?_) (fun c_22 => ?_)
        · refine lv_iinc (v := (nI (j + 1))) (lv' := [(3, .int (nI (j + 1))), (2, .int (nI (cnt (fun j => fLive (zE z (sL i k) j)) j))), (0, .ref (ad (4 + i))), (1, .int (nI k))]) hx hb dX4_countLive_28 hl (k := 0) rfl (nI_1 _) (by decide) rfl (fun ls hl => ?_)
          refine lv_goto (tgt := 4) hx hb dX4_countLive_31 (by decide) ?_
          have hcn : cnt (fun j => fLive (zE z (sL i k) j)) j = cnt (fun j => fLive (zE z (sL i k) j)) (j + 1) := by
            show cnt (fun j => fLive (zE z (sL i k) j)) j = cnt (fun j => fLive (zE z (sL i k) j)) j + (if fLive (zE z (sL i k) j) = true then 1 else 0)
            rw [if_neg (by first | exact bI_f (by assumption) | exact fun q => bI_f (by assumption) ((Bool.and_eq_true _ _).mp q).1 | exact fun q => bI_f (by assumption) ((Bool.and_eq_true _ _).mp q).2)]
            exact (Nat.add_zero _).symm
          rw [hcn] at hl
          exact ih (j + 1) H locs ls (by omega) (by omega) hw hS (lv_sub hl [0, 1, 2, 3] rfl)
        · refine lv_iinc (v := (nI ((cnt (fun j => fLive (zE z (sL i k) j)) j) + 1))) (lv' := [(2, .int (nI ((cnt (fun j => fLive (zE z (sL i k) j)) j) + 1))), (3, .int (nI j)), (0, .ref (ad (4 + i))), (1, .int (nI k))]) hx hb dX4_countLive_25 hl (k := 1) rfl (nI_1 _) (by decide) rfl (fun ls hl => ?_)
          refine lv_iinc (v := (nI (j + 1))) (lv' := [(3, .int (nI (j + 1))), (2, .int (nI ((cnt (fun j => fLive (zE z (sL i k) j)) j) + 1))), (0, .ref (ad (4 + i))), (1, .int (nI k))]) hx hb dX4_countLive_28 hl (k := 1) rfl (nI_1 _) (by decide) rfl (fun ls hl => ?_)
          refine lv_goto (tgt := 4) hx hb dX4_countLive_31 (by decide) ?_
          have hcn : cnt (fun j => fLive (zE z (sL i k) j)) j + 1 = cnt (fun j => fLive (zE z (sL i k) j)) (j + 1) := by
            show cnt (fun j => fLive (zE z (sL i k) j)) j + 1 = cnt (fun j => fLive (zE z (sL i k) j)) j + (if fLive (zE z (sL i k) j) = true then 1 else 0)
            rw [if_pos (by first | exact bI_t (by assumption) | exact (Bool.and_eq_true _ _).mpr ⟨bI_t (by assumption), bI_t (by assumption)⟩)]
          rw [hcn] at hl
          exact ih (j + 1) H locs ls (by omega) (by omega) hw hS (lv_sub hl [0, 1, 2, 3] rfl)
  exact loop ((zN z (sL i k)) + 1) 0 _ _ ls (Nat.zero_le _) (by omega) hw hS (lv_sub hl [0, 1, 2, 3] rfl)
set_option maxHeartbeats 4000000 in
set_option maxRecDepth 100000 in
theorem c_countDirty (l : Launch) (G : gG) (dce sz : Nat) (M : gM) (x : Nat) (ad : Nat → Nat) (y : cY) (z : cZ) (hcw : CW G dce x ad M y z) (i k : Nat) (hi : i < 3) (hk2 : k < 2) : mI l yX4_countLiveAndDirty wsX4_countLiveAndDirty ({ frames := 4, cells := 0, slots := 0, locals := 87 }) G dce sz M [.ref (ad (4 + i)), .int (nI k)] (fun r M' => r = nI (cnt (fun j => (fLive (zE z (sL i k) j) && fChg (zE z (sL i k) j))) (zN z (sL i k))) ∧ M' = M) (0) (0) := by
  have hs9 : M (ad (4 + i)) = some (.inr (5, [.ref (ad (12 + 2 * i)), .ref (ad (13 + 2 * i)), .ref (ad (40 + i))])) := (hcw.1.2.2.2 i hi).1
  refine wMet (Qc := QI G _) (cc := cX4_countLiveAndDirty) (maxL := 5) (ret := (some .int)) (by decide) rfl (Nat.le_of_ble_eq_true rfl) ?_
  intro p e s m below meth c A ls X hnm hw hK hZ hA hS hsz eA hl
  obtain ⟨hx, hb, hr, hts, hown, hlk, hml⟩ := id X
  have hl : lv_has ls 5 [(0, .ref (ad (4 + i))), (1, .int (nI k))] := hl
  refine lv_iconst (v := 0) hx hb dX4_countLiveAndDirty_0 (by decide) ?_
  refine lv_istore_n (lv' := [(2, .int 0), (0, .ref (ad (4 + i))), (1, .int (nI k))]) hx hb dX4_countLiveAndDirty_1 rfl hl (by decide) rfl (fun ls hl => ?_)
  refine lv_iconst (v := 0) hx hb dX4_countLiveAndDirty_2 (by decide) ?_
  refine lv_istore_n (lv' := [(3, .int 0), (2, .int 0), (0, .ref (ad (4 + i))), (1, .int (nI k))]) hx hb dX4_countLiveAndDirty_3 rfl hl (by decide) rfl (fun ls hl => ?_)
  have loop : ∀ (d : Nat) (j : Nat) (H : Heap) (locs : List Loc) (ls : Array Slot), j ≤ (zN z (sL i k)) → (zN z (sL i k)) + 1 ≤ j + d → wd G A M H → va_S A s.heap H locs → lv_has ls 5 [(3, .int (nI j)), (2, .int (nI (cnt (fun j => (fLive (zE z (sL i k) j) && fChg (zE z (sL i k) j))) j))), (0, .ref (ad (4 + i))), (1, .int (nI k))] → W p l e ({ frames := 4, cells := 0, slots := 0, locals := 87 }) s m [.ref (ad (4 + i)), .int (nI k)].toArray below meth c H locs (0) (0) (MQ below (QI G (fun r M' => r = nI (cnt (fun j => (fLive (zE z (sL i k) j) && fChg (zE z (sL i k) j))) (zN z (sL i k))) ∧ M' = M) A) [.ref (ad (4 + i)), .int (nI k)].toArray s (0) (0) A) (F0 m 4 ls []) := by
    intro d
    induction d with
    | zero => intro j H locs ls h1 h2; exact absurd h2 (by omega)
    | succ d ih =>
      intro j H locs ls hj1 hj2 hw hS hl
      have hjn : (zN z (sL i k)) ≤ 1024 := hcw.n (by unfold sL; omega)
      refine lv_iload_n hx hb dX4_countLiveAndDirty_4 rfl (lv_at hl 0 rfl) ?_
      refine lv_aload_n hx hb dX4_countLiveAndDirty_5 rfl (lv_at hl 2 rfl) ?_
      refine lv_iload_n hx hb dX4_countLiveAndDirty_6 rfl (lv_at hl 3 rfl) ?_
      refine m_callVi X (ci := 5) rfl hs9 hK hw hZ hS hA (As := [.int (nI k)]) (rest := [.int (nI j)]) (c_sizeOf l G dce _ M x ad y z hcw i k hi hk2) (cwV 1 hts gX4_countLiveAndDirty_X4_sizeOf rfl rfl rfl (by decide +kernel) ⟨Nat.le_of_ble_eq_true rfl, Nat.le_of_ble_eq_true rfl⟩) rfl hl.1 rfl (Nat.le_of_ble_eq_true rfl) dX4_countLiveAndDirty_7 (Nat.le_of_ble_eq_true rfl) (Nat.le_of_ble_eq_true rfl) (fun r2 M1 H locs hp hw hS hz hk => ?_)
      rw [hp.2] at hw
      rw [hp.1]
      refine lv_icmp_ge (tgt := 46) hx hb dX4_countLiveAndDirty_10 (by decide) (fun c_10 => ?_) (fun c_10 => ?_)
      · have hkn : (zN z (sL i k)) ≤ j := (nI_leI (by omega) (by omega)).mp c_10
        refine lv_iload_n hx hb dX4_countLiveAndDirty_46 rfl (lv_at hl 1 rfl) ?_
        have hjj : j = (zN z (sL i k)) := by omega
        exact m_iret X hK hw hS ⟨by rw [hjj], rfl⟩ (by omega) (by omega) dX4_countLiveAndDirty_47
      · have hkl : j < (zN z (sL i k)) := Nat.lt_of_not_le (fun q => c_10 (nI_le q (by omega)))
        refine lv_aload_n hx hb dX4_countLiveAndDirty_13 rfl (lv_at hl 2 rfl) ?_
        refine lv_iload_n hx hb dX4_countLiveAndDirty_14 rfl (lv_at hl 3 rfl) ?_
        refine lv_iload_n hx hb dX4_countLiveAndDirty_15 rfl (lv_at hl 0 rfl) ?_
        refine m_callVr X (ci := 5) rfl hs9 hK hw hZ hS hA (As := [.int (nI k), .int (nI j)]) (rest := []) (c_entityAt l G dce _ M x ad y z hcw i k hi hk2 (nI j)) (cwV 2 hts gX4_countLiveAndDirty_X4_entityAt rfl rfl rfl (by decide +kernel) ⟨Nat.le_of_ble_eq_true rfl, Nat.le_of_ble_eq_true rfl⟩) rfl hl.1 rfl (Nat.le_of_ble_eq_true rfl) dX4_countLiveAndDirty_16 (Nat.le_of_ble_eq_true rfl) (Nat.le_of_ble_eq_true rfl) (fun r4 M3 H locs hp hw hS hz hk => ?_)
        rw [hp.2] at hw
        rw [hp.1, eA_in hjn hkl]
        have hen : M ((yO y (sL i k) j)) = some (eE (zE z (sL i k) j)) := hcw.ent (by unfold sL; omega) (by unfold sL; omega) hkl
        obtain ⟨b1, b2, b3, nm, rf, sn, sr, sv, hev⟩ : ∃ b1 b2 b3 nm rf sn sr sv, (zE z (sL i k) j) = (b1, b2, b3, nm, rf, sn, sr, sv) := ⟨_, _, _, _, _, _, _, _, rfl⟩
        have hec : M ((yO y (sL i k) j)) = some (.inr (1, [.int (bI b1), .int (bI b2), .int (bI b3), .int nm, .int rf, .int sn, .int sr, .int sv])) := by rw [hen, hev]; rfl
        refine lv_astore (lv' := [(4, .ref (yO y (sL i k) j)), (3, .int (nI j)), (2, .int (nI (cnt (fun j => (fLive (zE z (sL i k) j) && fChg (zE z (sL i k) j))) j))), (0, .ref (ad (4 + i))), (1, .int (nI k))]) hx hb dX4_countLiveAndDirty_19 hl (by decide) rfl (fun ls hl => ?_)
        refine lv_aload hx hb dX4_countLiveAndDirty_21 (lv_at hl 0 rfl) ?_
        refine m_callVi X (ci := 1) rfl hec hK hw hZ hS hA (As := []) (rest := []) (c_X0_isLive l G dce _ M (yO y (sL i k) j) (zE z (sL i k) j) hen) (cwV 0 hts gX4_countLiveAndDirty_X0_isLive rfl rfl rfl (by decide +kernel) ⟨Nat.le_of_ble_eq_true rfl, Nat.le_of_ble_eq_true rfl⟩) rfl hl.1 rfl (Nat.le_of_ble_eq_true rfl) dX4_countLiveAndDirty_23 (Nat.le_of_ble_eq_true rfl) (Nat.le_of_ble_eq_true rfl) (fun r6 M5 H locs hp hw hS hz hk => ?_)
        rw [hp.2] at hw
        rw [hp.1]
        refine lv_if_eq (tgt := 40) hx hb dX4_countLiveAndDirty_26 (by decide) (fun c_26 => ?_) (fun c_26 => ?_)
        · refine lv_iinc (v := (nI (j + 1))) (lv' := [(3, .int (nI (j + 1))), (4, .ref (yO y (sL i k) j)), (2, .int (nI (cnt (fun j => (fLive (zE z (sL i k) j) && fChg (zE z (sL i k) j))) j))), (0, .ref (ad (4 + i))), (1, .int (nI k))]) hx hb dX4_countLiveAndDirty_40 hl (k := 1) rfl (nI_1 _) (by decide) rfl (fun ls hl => ?_)
          refine lv_goto (tgt := 4) hx hb dX4_countLiveAndDirty_43 (by decide) ?_
          have hcn : cnt (fun j => (fLive (zE z (sL i k) j) && fChg (zE z (sL i k) j))) j = cnt (fun j => (fLive (zE z (sL i k) j) && fChg (zE z (sL i k) j))) (j + 1) := by
            show cnt (fun j => (fLive (zE z (sL i k) j) && fChg (zE z (sL i k) j))) j = cnt (fun j => (fLive (zE z (sL i k) j) && fChg (zE z (sL i k) j))) j + (if (fLive (zE z (sL i k) j) && fChg (zE z (sL i k) j)) = true then 1 else 0)
            rw [if_neg (by first | exact bI_f (by assumption) | exact fun q => bI_f (by assumption) ((Bool.and_eq_true _ _).mp q).1 | exact fun q => bI_f (by assumption) ((Bool.and_eq_true _ _).mp q).2)]
            exact (Nat.add_zero _).symm
          rw [hcn] at hl
          exact ih (j + 1) H locs ls (by omega) (by omega) hw hS (lv_sub hl [0, 2, 3, 4] rfl)
        · refine lv_aload hx hb dX4_countLiveAndDirty_29 (lv_at hl 0 rfl) ?_
          refine m_callVi X (ci := 1) rfl hec hK hw hZ hS hA (As := []) (rest := []) (c_X0_isChanged l G dce _ M (yO y (sL i k) j) (zE z (sL i k) j) hen) (cwV 0 hts gX4_countLiveAndDirty_X0_isChanged rfl rfl rfl (by decide +kernel) ⟨Nat.le_of_ble_eq_true rfl, Nat.le_of_ble_eq_true rfl⟩) rfl hl.1 rfl (Nat.le_of_ble_eq_true rfl) dX4_countLiveAndDirty_31 (Nat.le_of_ble_eq_true rfl) (Nat.le_of_ble_eq_true rfl) (fun r8 M7 H locs hp hw hS hz hk => ?_)
          rw [hp.2] at hw
          rw [hp.1]
          refine lv_if_eq (tgt := 40) hx hb dX4_countLiveAndDirty_34 (by decide) (fun c_34 => ?_) (fun c_34 => ?_)
          · refine lv_iinc (v := (nI (j + 1))) (lv' := [(3, .int (nI (j + 1))), (4, .ref (yO y (sL i k) j)), (2, .int (nI (cnt (fun j => (fLive (zE z (sL i k) j) && fChg (zE z (sL i k) j))) j))), (0, .ref (ad (4 + i))), (1, .int (nI k))]) hx hb dX4_countLiveAndDirty_40 hl (k := 1) rfl (nI_1 _) (by decide) rfl (fun ls hl => ?_)
            refine lv_goto (tgt := 4) hx hb dX4_countLiveAndDirty_43 (by decide) ?_
            have hcn : cnt (fun j => (fLive (zE z (sL i k) j) && fChg (zE z (sL i k) j))) j = cnt (fun j => (fLive (zE z (sL i k) j) && fChg (zE z (sL i k) j))) (j + 1) := by
              show cnt (fun j => (fLive (zE z (sL i k) j) && fChg (zE z (sL i k) j))) j = cnt (fun j => (fLive (zE z (sL i k) j) && fChg (zE z (sL i k) j))) j + (if (fLive (zE z (sL i k) j) && fChg (zE z (sL i k) j)) = true then 1 else 0)
              rw [if_neg (by first | exact bI_f (by assumption) | exact fun q => bI_f (by assumption) ((Bool.and_eq_true _ _).mp q).1 | exact fun q => bI_f (by assumption) ((Bool.and_eq_true _ _).mp q).2)]
              exact (Nat.add_zero _).symm
            rw [hcn] at hl
            exact ih (j + 1) H locs ls (by omega) (by omega) hw hS (lv_sub hl [0, 2, 3, 4] rfl)
          · refine lv_iinc (v := (nI ((cnt (fun j => (fLive (zE z (sL i k) j) && fChg (zE z (sL i k) j))) j) + 1))) (lv' := [(2, .int (nI ((cnt (fun j => (fLive (zE z (sL i k) j) && fChg (zE z (sL i k) j))) j) + 1))), (4, .ref (yO y (sL i k) j)), (3, .int (nI j)), (0, .ref (ad (4 + i))), (1, .int (nI k))]) hx hb dX4_countLiveAndDirty_37 hl (k := 2) rfl (nI_1 _) (by decide) rfl (fun ls hl => ?_)
            refine lv_iinc (v := (nI (j + 1))) (lv' := [(3, .int (nI (j + 1))), (2, .int (nI ((cnt (fun j => (fLive (zE z (sL i k) j) && fChg (zE z (sL i k) j))) j) + 1))), (4, .ref (yO y (sL i k) j)), (0, .ref (ad (4 + i))), (1, .int (nI k))]) hx hb dX4_countLiveAndDirty_40 hl (k := 2) rfl (nI_1 _) (by decide) rfl (fun ls hl => ?_)
            refine lv_goto (tgt := 4) hx hb dX4_countLiveAndDirty_43 (by decide) ?_
            have hcn : cnt (fun j => (fLive (zE z (sL i k) j) && fChg (zE z (sL i k) j))) j + 1 = cnt (fun j => (fLive (zE z (sL i k) j) && fChg (zE z (sL i k) j))) (j + 1) := by
              show cnt (fun j => (fLive (zE z (sL i k) j) && fChg (zE z (sL i k) j))) j + 1 = cnt (fun j => (fLive (zE z (sL i k) j) && fChg (zE z (sL i k) j))) j + (if (fLive (zE z (sL i k) j) && fChg (zE z (sL i k) j)) = true then 1 else 0)
              rw [if_pos (by first | exact bI_t (by assumption) | exact (Bool.and_eq_true _ _).mpr ⟨bI_t (by assumption), bI_t (by assumption)⟩)]
            rw [hcn] at hl
            exact ih (j + 1) H locs ls (by omega) (by omega) hw hS (lv_sub hl [0, 1, 3, 4] rfl)
  exact loop ((zN z (sL i k)) + 1) 0 _ _ ls (Nat.zero_le _) (by omega) hw hS (lv_sub hl [0, 1, 2, 3] rfl)
set_option maxHeartbeats 4000000 in
set_option maxRecDepth 100000 in
theorem c_countThere (l : Launch) (G : gG) (dce sz : Nat) (M : gM) (x : Nat) (ad : Nat → Nat) (y : cY) (z : cZ) (hcw : CW G dce x ad M y z) (k : Nat) (hk2 : k < 2) : mI l yX5_countThere wsX5_countThere ({ frames := 4, cells := 0, slots := 0, locals := 85 }) G dce sz M [.ref (ad k)] (fun r M' => r = nI (cnt (fun j => (zR z k j).1) (zN z k)) ∧ M' = M) (0) (0) := by
  obtain ⟨⟨mc, hli⟩, hrow⟩ := hcw.2.1 k (by omega)
  have ht9 : M (ad k) = some (.inr (6, [.ref (ad (10 + k)), .ref (ad (20 + k))])) := (hcw.1.2.1 k hk2).1
  have hli9 : M (ad (10 + k)) = some (.inr (0, [.int mc, .ref (yX y k), .int (nI (zN z k))])) := hli
  refine wMet (Qc := QI G _) (cc := cX5_countThere) (maxL := 3) (ret := (some .int)) (by decide) rfl (Nat.le_of_ble_eq_true rfl) ?_
  intro p e s m below meth c A ls X hnm hw hK hZ hA hS hsz eA hl
  obtain ⟨hx, hb, hr, hts, hown, hlk, hml⟩ := id X
  have hl : lv_has ls 3 [(0, .ref (ad k))] := hl
  have iX3 : ∀ w ∈ wsX30, w ∈ wsX5_countThere := by decide +kernel
  have iX5 : ∀ w ∈ wsX50, w ∈ wsX5_countThere := by decide +kernel
  refine lv_iconst (v := 0) hx hb dX5_countThere_0 (by decide) ?_
  refine lv_istore_n (lv' := [(1, .int 0), (0, .ref (ad k))]) hx hb dX5_countThere_1 rfl hl (by decide) rfl (fun ls hl => ?_)
  refine lv_iconst (v := 0) hx hb dX5_countThere_2 (by decide) ?_
  refine lv_istore_n (lv' := [(2, .int 0), (1, .int 0), (0, .ref (ad k))]) hx hb dX5_countThere_3 rfl hl (by decide) rfl (fun ls hl => ?_)
  have loop : ∀ (d : Nat) (j : Nat) (H : Heap) (locs : List Loc) (ls : Array Slot), j ≤ (zN z k) → (zN z k) + 1 ≤ j + d → wd G A M H → va_S A s.heap H locs → lv_has ls 3 [(2, .int (nI j)), (1, .int (nI (cnt (fun j => (zR z k j).1) j))), (0, .ref (ad k))] → W p l e ({ frames := 4, cells := 0, slots := 0, locals := 85 }) s m [.ref (ad k)].toArray below meth c H locs (0) (0) (MQ below (QI G (fun r M' => r = nI (cnt (fun j => (zR z k j).1) (zN z k)) ∧ M' = M) A) [.ref (ad k)].toArray s (0) (0) A) (F0 m 4 ls []) := by
    intro d
    induction d with
    | zero => intro j H locs ls h1 h2; exact absurd h2 (by omega)
    | succ d ih =>
      intro j H locs ls hj1 hj2 hw hS hl
      have hjn : (zN z k) ≤ 1024 := hcw.n (by omega)
      refine lv_iload_n hx hb dX5_countThere_4 rfl (lv_at hl 0 rfl) ?_
      refine lv_aload_n hx hb dX5_countThere_5 rfl (lv_at hl 2 rfl) ?_
      refine m_get X iX5 hK hw ht9 rfl 0 (by decide) (ref := "ObjectMapper$Table") (by decide +kernel) (Or.inl rfl) rfl dX5_countThere_6 ?_
      refine m_callVi X (ci := 0) rfl hli9 hK hw hZ hS hA (As := []) (rest := [.int (nI j)]) (c_Jx4a65c_size_8abf5 l G dce _ M (ad (10 + k)) (yX y k) mc (nI (zN z k)) hli) (cwV 0 hts gX5_countThere_Jx4a65c_size_8abf5 rfl rfl rfl (by decide +kernel) ⟨Nat.le_of_ble_eq_true rfl, Nat.le_of_ble_eq_true rfl⟩) rfl hl.1 rfl (Nat.le_of_ble_eq_true rfl) dX5_countThere_9 (Nat.le_of_ble_eq_true rfl) (Nat.le_of_ble_eq_true rfl) (fun r2 M1 H locs hp hw hS hz hk => ?_)
      rw [hp.2] at hw
      rw [hp.1]
      refine lv_icmp_ge (tgt := 35) hx hb dX5_countThere_12 (by decide) (fun c_12 => ?_) (fun c_12 => ?_)
      · have hkn : (zN z k) ≤ j := (nI_leI (by omega) (by omega)).mp c_12
        refine lv_iload_n hx hb dX5_countThere_35 rfl (lv_at hl 1 rfl) ?_
        have hjj : j = (zN z k) := by omega
        exact m_iret X hK hw hS ⟨by rw [hjj], rfl⟩ (by omega) (by omega) dX5_countThere_36
      · have hkl : j < (zN z k) := Nat.lt_of_not_le (fun q => c_12 (nI_le q (by omega)))
        refine lv_aload_n hx hb dX5_countThere_15 rfl (lv_at hl 2 rfl) ?_
        refine lv_iload_n hx hb dX5_countThere_16 rfl (lv_at hl 0 rfl) ?_
        refine m_callVr X (ci := 6) rfl ht9 hK hw hZ hS hA (As := [.int (nI j)]) (rest := []) (c_rowAt l G dce _ M x ad y z hcw k hk2 (nI j)) (cwV 1 hts gX5_countThere_X5_rowAt rfl rfl rfl (by decide +kernel) ⟨Nat.le_of_ble_eq_true rfl, Nat.le_of_ble_eq_true rfl⟩) rfl hl.1 rfl (Nat.le_of_ble_eq_true rfl) dX5_countThere_17 (Nat.le_of_ble_eq_true rfl) (Nat.le_of_ble_eq_true rfl) (fun r4 M3 H locs hp hw hS hz hk => ?_)
        rw [hp.2] at hw
        rw [hp.1, rA_in hjn hkl]
        have hrw : M ((yO y k j)) = some (eR (zR z k j)) := hcw.row hk2 hkl
        obtain ⟨rb, rn, rr, rv, hrv⟩ : ∃ rb rn rr rv, (zR z k j) = (rb, rn, rr, rv) := ⟨_, _, _, _, rfl⟩
        have hrc : M ((yO y k j)) = some (.inr (4, [.int (bI rb), .int rn, .int rr, .int rv])) := by rw [hrw, hrv]; rfl
        refine m_get X iX3 hK hw hrc rfl 0 (by decide) (ref := "ObjectMapper$Row") (by decide +kernel) (Or.inl rfl) rfl dX5_countThere_20 ?_
        refine lv_if_eq (tgt := 29) hx hb dX5_countThere_23 (by decide) (fun c_23 => ?_) (fun c_23 => ?_)
        · refine lv_iinc (v := (nI (j + 1))) (lv' := [(2, .int (nI (j + 1))), (1, .int (nI (cnt (fun j => (zR z k j).1) j))), (0, .ref (ad k))]) hx hb dX5_countThere_29 hl (k := 0) rfl (nI_1 _) (by decide) rfl (fun ls hl => ?_)
          refine lv_goto (tgt := 4) hx hb dX5_countThere_32 (by decide) ?_
          have hcn : cnt (fun j => (zR z k j).1) j = cnt (fun j => (zR z k j).1) (j + 1) := by
            show cnt (fun j => (zR z k j).1) j = cnt (fun j => (zR z k j).1) j + (if (zR z k j).1 = true then 1 else 0)
            rw [hrv]
            rw [if_neg (bI_f (by assumption)), Nat.add_zero]
          rw [hcn] at hl
          exact ih (j + 1) H locs ls (by omega) (by omega) hw hS (lv_sub hl [0, 1, 2] rfl)
        · refine lv_iinc (v := (nI ((cnt (fun j => (zR z k j).1) j) + 1))) (lv' := [(1, .int (nI ((cnt (fun j => (zR z k j).1) j) + 1))), (2, .int (nI j)), (0, .ref (ad k))]) hx hb dX5_countThere_26 hl (k := 1) rfl (nI_1 _) (by decide) rfl (fun ls hl => ?_)
          refine lv_iinc (v := (nI (j + 1))) (lv' := [(2, .int (nI (j + 1))), (1, .int (nI ((cnt (fun j => (zR z k j).1) j) + 1))), (0, .ref (ad k))]) hx hb dX5_countThere_29 hl (k := 1) rfl (nI_1 _) (by decide) rfl (fun ls hl => ?_)
          refine lv_goto (tgt := 4) hx hb dX5_countThere_32 (by decide) ?_
          have hcn : cnt (fun j => (zR z k j).1) j + 1 = cnt (fun j => (zR z k j).1) (j + 1) := by
            show cnt (fun j => (zR z k j).1) j + 1 = cnt (fun j => (zR z k j).1) j + (if (zR z k j).1 = true then 1 else 0)
            rw [hrv]
            rw [if_pos (bI_t (by assumption))]
          rw [hcn] at hl
          exact ih (j + 1) H locs ls (by omega) (by omega) hw hS (lv_sub hl [0, 1, 2] rfl)
  exact loop ((zN z k) + 1) 0 _ _ ls (Nat.zero_le _) (by omega) hw hS (lv_sub hl [0, 1, 2] rfl)
