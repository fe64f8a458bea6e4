/-! P23: rows behind a flush -/
set_option maxHeartbeats 4000000 in
set_option maxRecDepth 100000 in
theorem c_ofRow (l : Launch) (G : gG) (dce sz : Nat) (M : gM) (hlt : l.stackTraces = false) (x : Nat) (ad : Nat → Nat) (ca : Nat) (f : Nat → Int32) (P : Nat → Prop) (n w : Nat) (y : cY) (z : cZ) (h : LC G dce x ad ca f P n w M y z) (hn : n ≤ 511) (k j : Nat) (hk2 : k < 2) (hj : j < zN z k) : mI l yL_ofRow wsL_ofRow ({ frames := 9, cells := 2, slots := 12, locals := 147 }) G dce sz M [.ref x, .ref ca, .int (nI k), .int (nI j)] (fun r M' => r = ofR (zR z k j) ∧ M' = M) (2) (12) := by
  have hx9 : M x = some (.inr (7, [.ref (ad 0), .ref (ad 1), .ref (ad 2), .ref (ad 3)])) := h.1.1.1
  have hzc : zC z ≤ 32768 := h.1.2.2.2.1.2.1.2.2.2.2
  have hzw : zW z ≤ zC z := h.2.1.2.2.2.1.1
  refine wMet (Qc := QI G _) (cc := cL_ofRow) (maxL := 6) (ret := (some .int)) (by decide) rfl (Nat.le_of_ble_eq_true rfl) ?_
  intro p e s m below meth c A ls X hnm hw hK hZ hA hS hsz eA hl
  obtain ⟨hx, hb, hr, hts, hown, hlk, hml⟩ := id X
  have hl : lv_has ls 6 [(0, .ref x), (1, .ref ca), (2, .int (nI k)), (3, .int (nI j))] := hl
  refine lv_iconst (v := (-1)) hx hb dL_ofRow_0 (by decide) ?_
  refine lv_istore (lv' := [(4, .int (-1)), (0, .ref x), (1, .ref ca), (2, .int (nI k)), (3, .int (nI j))]) hx hb dL_ofRow_1 hl (by decide) rfl (fun ls hl => ?_)
  refine lv_iconst (v := 0) hx hb dL_ofRow_3 (by decide) ?_
  refine lv_istore (lv' := [(5, .int 0), (4, .int (-1)), (0, .ref x), (1, .ref ca), (2, .int (nI k)), (3, .int (nI j))]) hx hb dL_ofRow_4 hl (by decide) rfl (fun ls hl => ?_)
  have loop : ∀ (d : Nat) (m9 : Nat) (H : Heap) (locs : List Loc) (ls : Array Slot), m9 ≤ zW z → zW z + 1 ≤ m9 + d → wd G A M H → va_S A s.heap H locs → lv_has ls 6 [(5, .int (nI m9)), (4, .int (lastW (zJ z) (nI (2 * j + k)) m9)), (0, .ref x), (1, .ref ca), (2, .int (nI k)), (3, .int (nI j))] → W p l e ({ frames := 9, cells := 2, slots := 12, locals := 147 }) s m [.ref x, .ref ca, .int (nI k), .int (nI j)].toArray below meth c H locs (0) (0) (MQ below (QI G (fun r M' => r = ofR (zR z k j) ∧ M' = M) A) [.ref x, .ref ca, .int (nI k), .int (nI j)].toArray s (2) (12) A) (F0 m 6 ls []) := by
    intro d
    induction d with
    | zero => intro m9 H locs ls h1 h2; exact absurd h2 (by omega)
    | succ d ih =>
      intro m9 H locs ls hm1 hm2 hw hS hl
      refine lv_iload hx hb dL_ofRow_6 (lv_at hl 0 rfl) ?_
      refine lv_aload_n hx hb dL_ofRow_8 rfl (lv_at hl 2 rfl) ?_
      refine m_callVi X (ci := 7) rfl hx9 hK hw hZ hS hA (As := []) (rest := [.int (nI m9)]) (c_writes l G dce _ M x ad y z h.1) (cwV 0 hts gL_ofRow_X6_writes rfl rfl rfl (by decide +kernel) ⟨Nat.le_of_ble_eq_true rfl, Nat.le_of_ble_eq_true rfl⟩) rfl hl.1 rfl (Nat.le_of_ble_eq_true rfl) dL_ofRow_9 (Nat.le_of_ble_eq_true rfl) (Nat.le_of_ble_eq_true rfl) (fun r2 M1 H locs hp hw hS hz hk => ?_)
      rw [hp.2] at hw
      rw [hp.1]
      refine lv_icmp_ge (tgt := 48) hx hb dL_ofRow_12 (by decide) (fun c_12 => ?_) (fun c_12 => ?_)
      · have hkn : (zW z) ≤ m9 := (nI_leI (by omega) (by omega)).mp c_12
        refine lv_iload hx hb dL_ofRow_48 (lv_at hl 1 rfl) ?_
        refine lv_iconst (v := (-1)) hx hb dL_ofRow_50 (by decide) ?_
        refine lv_icmp_eq (tgt := 60) hx hb dL_ofRow_51 (by decide) (fun c_51 => ?_) (fun c_51 => ?_)
        · refine lv_bipush (v := (-3)) hx hb dL_ofRow_60 (by decide) ?_
          refine lv_goto (tgt := 71) hx hb dL_ofRow_62 (by decide) ?_
          exact m_iret X hK hw hS (by have hm9 : m9 = zW z := (by omega); refine ⟨(of_f ((lw_row h.2.1.2.2.2.1 hk2 hj).mp ?_)).symm, rfl⟩; first | exact Or.inl (by rw [← hm9]; exact c_51) | exact Or.inr (by rw [← hm9]; exact c_57)) (by omega) (by omega) dL_ofRow_71
        · refine lv_iload hx hb dL_ofRow_54 (lv_at hl 1 rfl) ?_
          refine lv_iconst (v := 2) hx hb dL_ofRow_56 (by decide) ?_
          refine lv_icmp_ne (tgt := 65) hx hb dL_ofRow_57 (by decide) (fun c_57 => ?_) (fun c_57 => ?_)
          · have hm9 : m9 = zW z := by omega
            have ht9 : (zR z k j).1 = true := by
              cases h0 : (zR z k j).1
              · rcases (lw_row h.2.1.2.2.2.1 hk2 hj).mpr h0 with q | q
                · exact absurd (by rw [hm9]; exact q) c_51
                · exact absurd (by rw [hm9]; exact q) c_57
              · rfl
            refine lv_aload_n hx hb dL_ofRow_65 rfl (lv_at hl 2 rfl) ?_
            refine lv_iload_n hx hb dL_ofRow_66 rfl (lv_at hl 4 rfl) ?_
            refine lv_iload_n hx hb dL_ofRow_67 rfl (lv_at hl 5 rfl) ?_
            refine m_callVi X (ci := 7) rfl hx9 hK hw hZ hS hA (As := [.int (nI k), .int (nI j)]) (rest := []) (n_rowReference l G dce _ M hlt x ad ca f P n w y z h hn hk2 hj ht9) (cwV 2 hts gL_ofRow_X6_rowReference rfl rfl rfl (by decide +kernel) ⟨Nat.le_of_ble_eq_true rfl, Nat.le_of_ble_eq_true rfl⟩) rfl hl.1 rfl (Nat.le_of_ble_eq_true rfl) dL_ofRow_68 (Nat.le_of_ble_eq_true rfl) (Nat.le_of_ble_eq_true rfl) (fun r4 M3 H locs hp hw hS hz hk => ?_)
            rw [hp.2] at hw
            rw [hp.1]
            exact m_iret X hK hw hS (by exact ⟨(of_t ht9).symm, rfl⟩) (by omega) (by omega) dL_ofRow_71
          · refine lv_bipush (v := (-3)) hx hb dL_ofRow_60 (by decide) ?_
            refine lv_goto (tgt := 71) hx hb dL_ofRow_62 (by decide) ?_
            exact m_iret X hK hw hS (by have hm9 : m9 = zW z := (by omega); refine ⟨(of_f ((lw_row h.2.1.2.2.2.1 hk2 hj).mp ?_)).symm, rfl⟩; first | exact Or.inl (by rw [← hm9]; exact c_51) | exact Or.inr (by rw [← hm9]; exact c_57)) (by omega) (by omega) dL_ofRow_71
      · have hkl : m9 < (zW z) := Nat.lt_of_not_le (fun q => c_12 (nI_le q (by omega)))
        refine lv_aload_n hx hb dL_ofRow_15 rfl (lv_at hl 2 rfl) ?_
        refine lv_iload hx hb dL_ofRow_16 (lv_at hl 0 rfl) ?_
        refine m_callVi X (ci := 7) rfl hx9 hK hw hZ hS hA (As := [.int (nI m9)]) (rest := []) (c_writtenN l G dce _ M x ad y z h.1 m9 hkl) (cwV 1 hts gL_ofRow_X6_written rfl rfl rfl (by decide +kernel) ⟨Nat.le_of_ble_eq_true rfl, Nat.le_of_ble_eq_true rfl⟩) rfl hl.1 rfl (Nat.le_of_ble_eq_true rfl) dL_ofRow_18 (Nat.le_of_ble_eq_true rfl) (Nat.le_of_ble_eq_true rfl) (fun r6 M5 H locs hp hw hS hz hk => ?_)
        rw [hp.2] at hw
        rw [hp.1]
        refine lv_iconst (v := 2) hx hb dL_ofRow_21 (by decide) ?_
        refine lv_iload_n hx hb dL_ofRow_22 rfl (lv_at hl 5 rfl) ?_
        refine lv_imul hx hb dL_ofRow_23 ?_
        rw [show (2 : Int32) * nI j = nI (2 * j) from nI_mul 2 j]
        refine lv_iload_n hx hb dL_ofRow_24 rfl (lv_at hl 4 rfl) ?_
        refine lv_iadd hx hb dL_ofRow_25 ?_
        rw [nI_add]
        refine lv_icmp_ne (tgt := 38) hx hb dL_ofRow_26 (by decide) (fun c_26 => ?_) (fun c_26 => ?_)
        · refine lv_iload hx hb dL_ofRow_38 (lv_at hl 1 rfl) ?_
          rw [← lw_s0 (J := zJ z) c_26]
          refine lv_istore (lv' := [(4, .int (lastW (zJ z) (nI (2 * j + k)) (m9 + 1))), (5, .int (nI m9)), (0, .ref x), (1, .ref ca), (2, .int (nI k)), (3, .int (nI j))]) hx hb dL_ofRow_40 hl (by decide) rfl (fun ls hl => ?_)
          refine lv_iinc (v := (nI (m9 + 1))) (lv' := [(5, .int (nI (m9 + 1))), (4, .int (lastW (zJ z) (nI (2 * j + k)) (m9 + 1))), (0, .ref x), (1, .ref ca), (2, .int (nI k)), (3, .int (nI j))]) hx hb dL_ofRow_42 hl (k := 1) rfl (nI_1 _) (by decide) rfl (fun ls hl => ?_)
          refine lv_goto (tgt := 6) hx hb dL_ofRow_45 (by decide) ?_
          exact ih (m9 + 1) H locs ls (by omega) (by omega) hw hS (lv_sub hl [0, 1, 2, 3, 4, 5] rfl)
        · refine lv_aload_n hx hb dL_ofRow_29 rfl (lv_at hl 2 rfl) ?_
          refine lv_iload hx hb dL_ofRow_30 (lv_at hl 0 rfl) ?_
          refine m_callVi X (ci := 7) rfl hx9 hK hw hZ hS hA (As := [.int (nI m9)]) (rest := []) (c_writeN l G dce _ M x ad y z h.1 m9 hkl) (cwV 1 hts gL_ofRow_X6_write rfl rfl rfl (by decide +kernel) ⟨Nat.le_of_ble_eq_true rfl, Nat.le_of_ble_eq_true rfl⟩) rfl hl.1 rfl (Nat.le_of_ble_eq_true rfl) dL_ofRow_32 (Nat.le_of_ble_eq_true rfl) (Nat.le_of_ble_eq_true rfl) (fun r8 M7 H locs hp hw hS hz hk => ?_)
          rw [hp.2] at hw
          rw [hp.1]
          refine lv_goto (tgt := 40) hx hb dL_ofRow_35 (by decide) ?_
          rw [← lw_s1 (J := zJ z) c_26]
          refine lv_istore (lv' := [(4, .int (lastW (zJ z) (nI (2 * j + k)) (m9 + 1))), (5, .int (nI m9)), (0, .ref x), (1, .ref ca), (2, .int (nI k)), (3, .int (nI j))]) hx hb dL_ofRow_40 hl (by decide) rfl (fun ls hl => ?_)
          refine lv_iinc (v := (nI (m9 + 1))) (lv' := [(5, .int (nI (m9 + 1))), (4, .int (lastW (zJ z) (nI (2 * j + k)) (m9 + 1))), (0, .ref x), (1, .ref ca), (2, .int (nI k)), (3, .int (nI j))]) hx hb dL_ofRow_42 hl (k := 1) rfl (nI_1 _) (by decide) rfl (fun ls hl => ?_)
          refine lv_goto (tgt := 6) hx hb dL_ofRow_45 (by decide) ?_
          exact ih (m9 + 1) H locs ls (by omega) (by omega) hw hS (lv_sub hl [0, 1, 2, 3, 4, 5] rfl)
  exact loop (zW z + 1) 0 _ _ ls (Nat.zero_le _) (by omega) hw hS (lv_sub hl [0, 1, 2, 3, 4, 5] rfl)
set_option maxHeartbeats 4000000 in
set_option maxRecDepth 100000 in
theorem aw_in {p : Program} {l : Launch} {e : Env} {s : State} {m : MethodId} {below : List Frame} {meth : Method} {c : Code} {args : Array Value} {G : gG} {dce : Nat} {A : Nat → Prop} {Q : State → Prop} {M : gM} (X : cX p s m meth c cL_areWhole 8 (some .boolean) wsL_areWhole RL args) (hK : wK G s) (hZ : wZ dce A s s.heap) (hA : ∀ q : Nat, s.heap.size ≤ q → A q) (hlt : l.stackTraces = false) (x : Nat) (ad : Nat → Nat) (ca : Nat) (f : Nat → Int32) (P : Nat → Prop) (n w : Nat) (y : cY) (z : cZ) (h : LC G dce x ad ca f P n w M y z) (hn : n ≤ 511) (k : Nat) (hk2 : k < 2) (hfk : f k = nI (zN z k)) (hn2 : n ≤ 55) {c0 s0 : Nat} (hc0 : c0 ≤ 260) (hs0 : s0 ≤ 1560) (tail : ∀ (H : Heap) (locs : List Loc) (cells slots : Nat) (ls : Array Slot), wd G A M H → va_S A s.heap H locs → lv_has ls 8 [(5, .int (nI (cnt (fun c => (zR z k c).1) (zN z k)))), (4, .int (nI k)), (3, .int 1), (2, .int 0), (1, .ref ca), (0, .ref x)] → cells ≤ c0 + 4 * zN z k → slots ≤ s0 + 24 * zN z k → W p l e ({ frames := 10, cells := 500, slots := 3000, locals := 220 }) s m args below meth c H locs cells slots Q (F0 m 93 ls [])) : ∀ (d m9 : Nat) (H : Heap) (locs : List Loc) (cells slots : Nat) (ls : Array Slot), m9 ≤ zN z k → zN z k + 1 ≤ m9 + d → wd G A M H → va_S A s.heap H locs → cells ≤ c0 + 4 * m9 → slots ≤ s0 + 24 * m9 → lv_has ls 8 [(6, .int (nI m9)), (5, .int (nI (cnt (fun c => (zR z k c).1) m9))), (4, .int (nI k)), (3, .int 1), (2, .int 0), (1, .ref ca), (0, .ref x)] → W p l e ({ frames := 10, cells := 500, slots := 3000, locals := 220 }) s m args below meth c H locs cells slots Q (F0 m 19 ls []) := by
  obtain ⟨hx, hb, hr, hts, hown, hlk, hml⟩ := id X
  have hx9 : M x = some (.inr (7, [.ref (ad 0), .ref (ad 1), .ref (ad 2), .ref (ad 3)])) := h.1.1.1
  have hnk : zN z k ≤ n := h.2.1.2.1 k (by omega)
  intro d
  induction d with
  | zero =>
    intro m9 H locs cells slots ls h1 h2
    exact absurd h2 (by omega)
  | succ d ih =>
    intro m9 H locs cells slots ls hm1 hm2 hw hS hC hS9 hl
    refine lv_iload hx hb dL_areWhole_19 (lv_at hl 0 rfl) ?_
    refine lv_aload_n hx hb dL_areWhole_21 rfl (lv_at hl 5 rfl) ?_
    refine lv_iload hx hb dL_areWhole_22 (lv_at hl 2 rfl) ?_
    refine m_iald X hK hw h.2.2.1 (i := nI k) (vp_in_nI (by omega) (by decide)) dL_areWhole_24 ?_
    rw [show f (((nI k) : Int32).toNatClampNeg) = nI (zN z k) from (congrArg f (nI_clamp (by omega))).trans hfk]
    refine lv_icmp_ge (tgt := 93) hx hb dL_areWhole_25 (by decide) (fun c_25 => ?_) (fun c_25 => ?_)
    · have hkn : (zN z k) ≤ m9 := (nI_leI (by omega) (by omega)).mp c_25
      have hm9 : m9 = zN z k := by omega
      rw [hm9] at hl hC hS9
      exact tail _ _ _ _ ls hw hS (lv_sub hl [1, 2, 3, 4, 5, 6] rfl) hC hS9
    · have hkl : m9 < (zN z k) := Nat.lt_of_not_le (fun q => c_25 (nI_le q (by omega)))
      refine lv_iload_n hx hb dL_areWhole_28 rfl (lv_at hl 3 rfl) ?_
      refine lv_if_eq (tgt := 93) hx hb dL_areWhole_29 (by decide) (fun c_29 => absurd c_29 (by decide)) (fun _ => ?_)
      refine lv_aload_n hx hb dL_areWhole_32 rfl (lv_at hl 6 rfl) ?_
      refine lv_aload_n hx hb dL_areWhole_33 rfl (lv_at hl 5 rfl) ?_
      refine lv_iload hx hb dL_areWhole_34 (lv_at hl 2 rfl) ?_
      refine lv_iload hx hb dL_areWhole_36 (lv_at hl 0 rfl) ?_
      refine m_callSi X hK hw hZ hS hA (As := [.ref x, .ref ca, .int (nI k), .int (nI m9)]) (rest := []) (c_ofRow l G dce _ M hlt x ad ca f P n w y z h hn k m9 hk2 hkl) (va_cwS 4 hts gL_areWhole_L_ofRow rfl rfl rfl (by decide +kernel) ⟨Nat.le_of_ble_eq_true rfl, Nat.le_of_ble_eq_true rfl⟩) rfl hl.1 rfl (Nat.le_of_ble_eq_true rfl) dL_areWhole_38 (by dsimp only; omega) (by dsimp only; omega) (fun r42 M41 H locs hp hw hS hz hk => ?_)
      rw [hp.2] at hw
      rw [hp.1]
      have h3 := of_n3 h.2.1.2.2.1.1 (h.2.1.n8 (by omega)) hk2 hkl
      have hto := fun q => of_to (z := z) (k := k) (j := m9) h.2.1.2.2.1.1 hk2 hkl q
      refine lv_istore (lv' := [(7, .int (ofR (zR z k m9))), (6, .int (nI m9)), (5, .int (nI (cnt (fun c => (zR z k c).1) m9))), (4, .int (nI k)), (3, .int 1), (2, .int 0), (1, .ref ca), (0, .ref x)]) hx hb dL_areWhole_41 hl (by decide) rfl (fun ls hl => ?_)
      refine lv_iload hx hb dL_areWhole_43 (lv_at hl 2 rfl) ?_
      refine lv_iload hx hb dL_areWhole_45 (lv_at hl 0 rfl) ?_
      refine lv_bipush (v := (-3)) hx hb dL_areWhole_47 (by decide) ?_
      refine lv_icmp_ne (tgt := 56) hx hb dL_areWhole_49 (by decide) (fun c_49 => ?_) (fun c_49 => ?_)
      · refine lv_iconst (v := 1) hx hb dL_areWhole_56 (by decide) ?_
        refine lv_iadd hx hb dL_areWhole_57 ?_
        rw [show nI (cnt (fun c => (zR z k c).1) m9) + 1 = nI (cnt (fun c => (zR z k c).1) (m9 + 1)) from by show nI (cnt (fun c => (zR z k c).1) m9) + 1 = nI ((cnt (fun c => (zR z k c).1) m9) + (if (zR z k m9).1 = true then 1 else 0)); rw [if_pos (by cases h0 : (zR z k m9).1; exact absurd (h3.mpr h0) c_49; rfl), nI_1]]
        refine lv_istore (lv' := [(5, .int (nI (cnt (fun c => (zR z k c).1) (m9 + 1)))), (7, .int (ofR (zR z k m9))), (6, .int (nI m9)), (4, .int (nI k)), (3, .int 1), (2, .int 0), (1, .ref ca), (0, .ref x)]) hx hb dL_areWhole_58 hl (by decide) rfl (fun ls hl => ?_)
        refine lv_iload hx hb dL_areWhole_60 (lv_at hl 1 rfl) ?_
        refine lv_if_lt (tgt := 81) hx hb dL_areWhole_62 (by decide) (fun c_62 => ?_) (fun c_62 => ?_)
        · refine lv_iconst (v := 1) hx hb dL_areWhole_81 (by decide) ?_
          refine lv_goto (tgt := 86) hx hb dL_areWhole_82 (by decide) ?_
          refine lv_istore_n (lv' := [(3, .int 1), (5, .int (nI (cnt (fun c => (zR z k c).1) (m9 + 1)))), (7, .int (ofR (zR z k m9))), (6, .int (nI m9)), (4, .int (nI k)), (2, .int 0), (1, .ref ca), (0, .ref x)]) hx hb dL_areWhole_86 rfl hl (by decide) rfl (fun ls hl => ?_)
          refine lv_iinc (v := (nI (m9 + 1))) (lv' := [(6, .int (nI (m9 + 1))), (3, .int 1), (5, .int (nI (cnt (fun c => (zR z k c).1) (m9 + 1)))), (7, .int (ofR (zR z k m9))), (4, .int (nI k)), (2, .int 0), (1, .ref ca), (0, .ref x)]) hx hb dL_areWhole_87 hl (k := 3) rfl (nI_1 _) (by decide) rfl (fun ls hl => ?_)
          refine lv_goto (tgt := 19) hx hb dL_areWhole_90 (by decide) ?_
          exact ih (m9 + 1) _ _ _ _ ls (by omega) (by omega) hw hS (by omega) (by omega) (lv_sub hl [0, 2, 4, 1, 5, 6, 7] rfl)
        · refine lv_aload_n hx hb dL_areWhole_65 rfl (lv_at hl 7 rfl) ?_
          refine lv_aload_n hx hb dL_areWhole_66 rfl (lv_at hl 6 rfl) ?_
          refine lv_iconst (v := 1) hx hb dL_areWhole_67 (by decide) ?_
          refine lv_iload hx hb dL_areWhole_68 (lv_at hl 3 rfl) ?_
          refine lv_isub hx hb dL_areWhole_70 ?_
          rw [nI_1s hk2]
          refine lv_iload hx hb dL_areWhole_71 (lv_at hl 1 rfl) ?_
          obtain ⟨q9, hq9, hq8, hq7⟩ := hto c_62
          rw [hq8]
          refine m_callSi X hK hw hZ hS hA (As := [.ref x, .ref ca, .int (nI (1 - k)), .int (nI q9)]) (rest := []) (c_ofRow l G dce _ M hlt x ad ca f P n w y z h hn (1 - k) q9 (show 1 - k < 2 by omega) hq9) (va_cwS 4 hts gL_areWhole_L_ofRow rfl rfl rfl (by decide +kernel) ⟨Nat.le_of_ble_eq_true rfl, Nat.le_of_ble_eq_true rfl⟩) rfl hl.1 rfl (Nat.le_of_ble_eq_true rfl) dL_areWhole_73 (by dsimp only; omega) (by dsimp only; omega) (fun r44 M43 H locs hp hw hS hz hk => ?_)
          rw [hp.2] at hw
          rw [hp.1]
          refine lv_bipush (v := (-3)) hx hb dL_areWhole_76 (by decide) ?_
          refine lv_icmp_eq (tgt := 85) hx hb dL_areWhole_78 (by decide) (fun c_78 => ?_) (fun c_78 => ?_)
          · exact (by exfalso; first | exact absurd ((of_n3 h.2.1.2.2.1.1 (h.2.1.n8 (by omega)) (show 1 - k < 2 by omega) hq9).mp c_78) (by rw [hq7]; decide))
          · refine lv_iconst (v := 1) hx hb dL_areWhole_81 (by decide) ?_
            refine lv_goto (tgt := 86) hx hb dL_areWhole_82 (by decide) ?_
            refine lv_istore_n (lv' := [(3, .int 1), (5, .int (nI (cnt (fun c => (zR z k c).1) (m9 + 1)))), (7, .int (ofR (zR z k m9))), (6, .int (nI m9)), (4, .int (nI k)), (2, .int 0), (1, .ref ca), (0, .ref x)]) hx hb dL_areWhole_86 rfl hl (by decide) rfl (fun ls hl => ?_)
            refine lv_iinc (v := (nI (m9 + 1))) (lv' := [(6, .int (nI (m9 + 1))), (3, .int 1), (5, .int (nI (cnt (fun c => (zR z k c).1) (m9 + 1)))), (7, .int (ofR (zR z k m9))), (4, .int (nI k)), (2, .int 0), (1, .ref ca), (0, .ref x)]) hx hb dL_areWhole_87 hl (k := 3) rfl (nI_1 _) (by decide) rfl (fun ls hl => ?_)
            refine lv_goto (tgt := 19) hx hb dL_areWhole_90 (by decide) ?_
            exact ih (m9 + 1) _ _ _ _ ls (by omega) (by omega) hw hS (by omega) (by omega) (lv_sub hl [0, 2, 4, 1, 5, 6, 7] rfl)
      · refine lv_iconst (v := 0) hx hb dL_areWhole_52 (by decide) ?_
        refine lv_goto (tgt := 57) hx hb dL_areWhole_53 (by decide) ?_
        refine lv_iadd hx hb dL_areWhole_57 ?_
        rw [show nI (cnt (fun c => (zR z k c).1) m9) + 0 = nI (cnt (fun c => (zR z k c).1) (m9 + 1)) from by show nI (cnt (fun c => (zR z k c).1) m9) + 0 = nI ((cnt (fun c => (zR z k c).1) m9) + (if (zR z k m9).1 = true then 1 else 0)); rw [if_neg (by rw [h3.mp c_49]; decide), Nat.add_zero]; exact Int32.add_zero _]
        refine lv_istore (lv' := [(5, .int (nI (cnt (fun c => (zR z k c).1) (m9 + 1)))), (7, .int (ofR (zR z k m9))), (6, .int (nI m9)), (4, .int (nI k)), (3, .int 1), (2, .int 0), (1, .ref ca), (0, .ref x)]) hx hb dL_areWhole_58 hl (by decide) rfl (fun ls hl => ?_)
        refine lv_iload hx hb dL_areWhole_60 (lv_at hl 1 rfl) ?_
        refine lv_if_lt (tgt := 81) hx hb dL_areWhole_62 (by decide) (fun c_62 => ?_) (fun c_62 => ?_)
        · refine lv_iconst (v := 1) hx hb dL_areWhole_81 (by decide) ?_
          refine lv_goto (tgt := 86) hx hb dL_areWhole_82 (by decide) ?_
          refine lv_istore_n (lv' := [(3, .int 1), (5, .int (nI (cnt (fun c => (zR z k c).1) (m9 + 1)))), (7, .int (ofR (zR z k m9))), (6, .int (nI m9)), (4, .int (nI k)), (2, .int 0), (1, .ref ca), (0, .ref x)]) hx hb dL_areWhole_86 rfl hl (by decide) rfl (fun ls hl => ?_)
          refine lv_iinc (v := (nI (m9 + 1))) (lv' := [(6, .int (nI (m9 + 1))), (3, .int 1), (5, .int (nI (cnt (fun c => (zR z k c).1) (m9 + 1)))), (7, .int (ofR (zR z k m9))), (4, .int (nI k)), (2, .int 0), (1, .ref ca), (0, .ref x)]) hx hb dL_areWhole_87 hl (k := 3) rfl (nI_1 _) (by decide) rfl (fun ls hl => ?_)
          refine lv_goto (tgt := 19) hx hb dL_areWhole_90 (by decide) ?_
          exact ih (m9 + 1) _ _ _ _ ls (by omega) (by omega) hw hS (by omega) (by omega) (lv_sub hl [0, 2, 4, 1, 5, 6, 7] rfl)
        · refine lv_aload_n hx hb dL_areWhole_65 rfl (lv_at hl 7 rfl) ?_
          refine lv_aload_n hx hb dL_areWhole_66 rfl (lv_at hl 6 rfl) ?_
          refine lv_iconst (v := 1) hx hb dL_areWhole_67 (by decide) ?_
          refine lv_iload hx hb dL_areWhole_68 (lv_at hl 3 rfl) ?_
          refine lv_isub hx hb dL_areWhole_70 ?_
          rw [nI_1s hk2]
          refine lv_iload hx hb dL_areWhole_71 (lv_at hl 1 rfl) ?_
          obtain ⟨q9, hq9, hq8, hq7⟩ := hto c_62
          rw [hq8]
          refine m_callSi X hK hw hZ hS hA (As := [.ref x, .ref ca, .int (nI (1 - k)), .int (nI q9)]) (rest := []) (c_ofRow l G dce _ M hlt x ad ca f P n w y z h hn (1 - k) q9 (show 1 - k < 2 by omega) hq9) (va_cwS 4 hts gL_areWhole_L_ofRow rfl rfl rfl (by decide +kernel) ⟨Nat.le_of_ble_eq_true rfl, Nat.le_of_ble_eq_true rfl⟩) rfl hl.1 rfl (Nat.le_of_ble_eq_true rfl) dL_areWhole_73 (by dsimp only; omega) (by dsimp only; omega) (fun r46 M45 H locs hp hw hS hz hk => ?_)
          rw [hp.2] at hw
          rw [hp.1]
          refine lv_bipush (v := (-3)) hx hb dL_areWhole_76 (by decide) ?_
          refine lv_icmp_eq (tgt := 85) hx hb dL_areWhole_78 (by decide) (fun c_78 => ?_) (fun c_78 => ?_)
          · exact (by exfalso; first | exact absurd ((of_n3 h.2.1.2.2.1.1 (h.2.1.n8 (by omega)) (show 1 - k < 2 by omega) hq9).mp c_78) (by rw [hq7]; decide))
          · refine lv_iconst (v := 1) hx hb dL_areWhole_81 (by decide) ?_
            refine lv_goto (tgt := 86) hx hb dL_areWhole_82 (by decide) ?_
            refine lv_istore_n (lv' := [(3, .int 1), (5, .int (nI (cnt (fun c => (zR z k c).1) (m9 + 1)))), (7, .int (ofR (zR z k m9))), (6, .int (nI m9)), (4, .int (nI k)), (2, .int 0), (1, .ref ca), (0, .ref x)]) hx hb dL_areWhole_86 rfl hl (by decide) rfl (fun ls hl => ?_)
            refine lv_iinc (v := (nI (m9 + 1))) (lv' := [(6, .int (nI (m9 + 1))), (3, .int 1), (5, .int (nI (cnt (fun c => (zR z k c).1) (m9 + 1)))), (7, .int (ofR (zR z k m9))), (4, .int (nI k)), (2, .int 0), (1, .ref ca), (0, .ref x)]) hx hb dL_areWhole_87 hl (k := 3) rfl (nI_1 _) (by decide) rfl (fun ls hl => ?_)
            refine lv_goto (tgt := 19) hx hb dL_areWhole_90 (by decide) ?_
            exact ih (m9 + 1) _ _ _ _ ls (by omega) (by omega) hw hS (by omega) (by omega) (lv_sub hl [0, 2, 4, 1, 5, 6, 7] rfl)
set_option maxHeartbeats 4000000 in
set_option maxRecDepth 100000 in
theorem c_areWhole (l : Launch) (G : gG) (dce sz : Nat) (M : gM) (hlt : l.stackTraces = false) (x : Nat) (ad : Nat → Nat) (ca : Nat) (f : Nat → Int32) (P : Nat → Prop) (n w : Nat) (y : cY) (z : cZ) (h : LC G dce x ad ca f P n w M y z) (hn : n ≤ 511) (hn2 : n ≤ 55) (hf0 : f 0 = nI (zN z 0)) (hf1 : f 1 = nI (zN z 1)) : mI l yL_areWhole wsL_areWhole ({ frames := 10, cells := 500, slots := 3000, locals := 220 }) G dce sz M [.ref x, .ref ca] (fun r M' => r = 1 ∧ M' = M) (500) (3000) := by
  have hx9 : M x = some (.inr (7, [.ref (ad 0), .ref (ad 1), .ref (ad 2), .ref (ad 3)])) := h.1.1.1
  have hz0 : zN z 0 ≤ n := h.2.1.2.1 0 (by omega)
  have hz1 : zN z 1 ≤ n := h.2.1.2.1 1 (by omega)
  refine wMet (Qc := QI G _) (cc := cL_areWhole) (maxL := 8) (ret := (some .boolean)) (by decide) rfl (Nat.le_of_ble_eq_true rfl) ?_
  intro p e s m below meth c A ls X hnm hw hK hZ hA hS hsz eA hl
  obtain ⟨hx, hb, hr, hts, hown, hlk, hml⟩ := id X
  have hl : lv_has ls 8 [(0, .ref x), (1, .ref ca)] := hl
  refine lv_iconst (v := 0) hx hb dL_areWhole_0 (by decide) ?_
  refine lv_istore_n (lv' := [(2, .int 0), (0, .ref x), (1, .ref ca)]) hx hb dL_areWhole_1 rfl hl (by decide) rfl (fun ls hl => ?_)
  refine lv_iconst (v := 1) hx hb dL_areWhole_2 (by decide) ?_
  refine lv_istore_n (lv' := [(3, .int 1), (2, .int 0), (0, .ref x), (1, .ref ca)]) hx hb dL_areWhole_3 rfl hl (by decide) rfl (fun ls hl => ?_)
  refine lv_iconst (v := 0) hx hb dL_areWhole_4 (by decide) ?_
  refine lv_istore (lv' := [(4, .int 0), (3, .int 1), (2, .int 0), (0, .ref x), (1, .ref ca)]) hx hb dL_areWhole_5 hl (by decide) rfl (fun ls hl => ?_)
  refine lv_iload hx hb dL_areWhole_7 (lv_at hl 0 rfl) ?_
  refine lv_iconst (v := 2) hx hb dL_areWhole_9 (by decide) ?_
  refine lv_icmp_ge (tgt := 119) hx hb dL_areWhole_10 (by decide) (fun c_10 => absurd c_10 (by decide)) (fun _ => ?_)
  refine lv_iconst (v := 0) hx hb dL_areWhole_13 (by decide) ?_
  refine lv_istore (lv' := [(5, .int 0), (4, .int 0), (3, .int 1), (2, .int 0), (0, .ref x), (1, .ref ca)]) hx hb dL_areWhole_14 hl (by decide) rfl (fun ls hl => ?_)
  refine lv_iconst (v := 0) hx hb dL_areWhole_16 (by decide) ?_
  refine lv_istore (lv' := [(6, .int 0), (5, .int 0), (4, .int 0), (3, .int 1), (2, .int 0), (0, .ref x), (1, .ref ca)]) hx hb dL_areWhole_17 hl (by decide) rfl (fun ls hl => ?_)
  have hl : lv_has ls 8 [(6, .int (nI 0)), (5, .int (nI (cnt (fun c => (zR z 0 c).1) 0))), (4, .int (nI 0)), (3, .int 1), (2, .int 0), (1, .ref ca), (0, .ref x)] := lv_sub hl [0, 1, 2, 3, 4, 6, 5] rfl
  refine aw_in X hK hZ hA hlt x ad ca f P n w y z h hn 0 (by decide) hf0 hn2 (c0 := 0) (s0 := 0) (by omega) (by omega) (fun H locs cells slots ls hw hS hl hC hS9 => ?_) (zN z 0 + 1) 0 _ _ _ _ ls (Nat.zero_le _) (by omega) hw hS (by omega) (by omega) hl
  have hl : lv_has ls 8 [(5, .int (nI (cnt (fun c => (zR z 0 c).1) (zN z 0)))), (4, .int 0), (3, .int 1), (2, .int 0), (1, .ref ca), (0, .ref x)] := hl
  refine lv_iload_n hx hb dL_areWhole_93 rfl (lv_at hl 3 rfl) ?_
  refine lv_iload_n hx hb dL_areWhole_94 rfl (lv_at hl 2 rfl) ?_
  refine lv_if_eq (tgt := 110) hx hb dL_areWhole_95 (by decide) (fun c_95 => absurd c_95 (by decide)) (fun _ => ?_)
  refine lv_iload hx hb dL_areWhole_98 (lv_at hl 0 rfl) ?_
  refine lv_aload_n hx hb dL_areWhole_100 rfl (lv_at hl 5 rfl) ?_
  refine lv_iload hx hb dL_areWhole_101 (lv_at hl 1 rfl) ?_
  refine m_callVi X (ci := 7) rfl hx9 hK hw hZ hS hA (As := [.int 0]) (rest := [.int (nI (cnt (fun c => (zR z 0 c).1) (zN z 0))), .int 0]) (n_rows l G dce _ M hlt x ad ca f P n w y z h hn (k := 0) (by decide)) (cwV 1 hts gL_areWhole_X6_rows rfl rfl rfl (by decide +kernel) ⟨Nat.le_of_ble_eq_true rfl, Nat.le_of_ble_eq_true rfl⟩) rfl hl.1 rfl (Nat.le_of_ble_eq_true rfl) dL_areWhole_103 (by dsimp only; omega) (by dsimp only; omega) (fun r2 M1 H locs hp hw hS hz hk => ?_)
  rw [hp.2] at hw
  rw [hp.1]
  refine lv_isub hx hb dL_areWhole_106 ?_
  rw [Int32.sub_self]
  refine lv_goto (tgt := 111) hx hb dL_areWhole_107 (by decide) ?_
  refine lv_iadd hx hb dL_areWhole_111 ?_
  rw [show (0 : Int32) + 0 = 0 from by decide]
  refine lv_istore_n (lv' := [(2, .int 0), (5, .int (nI (cnt (fun c => (zR z 0 c).1) (zN z 0)))), (4, .int 0), (3, .int 1), (1, .ref ca), (0, .ref x)]) hx hb dL_areWhole_112 rfl hl (by decide) rfl (fun ls hl => ?_)
  refine lv_iinc (v := 1) (lv' := [(4, .int 1), (2, .int 0), (5, .int (nI (cnt (fun c => (zR z 0 c).1) (zN z 0)))), (3, .int 1), (1, .ref ca), (0, .ref x)]) hx hb dL_areWhole_113 hl (k := 2) rfl (by decide) (by decide) rfl (fun ls hl => ?_)
  refine lv_goto (tgt := 7) hx hb dL_areWhole_116 (by decide) ?_
  refine lv_iload hx hb dL_areWhole_7 (lv_at hl 0 rfl) ?_
  refine lv_iconst (v := 2) hx hb dL_areWhole_9 (by decide) ?_
  refine lv_icmp_ge (tgt := 119) hx hb dL_areWhole_10 (by decide) (fun c_10 => absurd c_10 (by decide)) (fun _ => ?_)
  refine lv_iconst (v := 0) hx hb dL_areWhole_13 (by decide) ?_
  refine lv_istore (lv' := [(5, .int 0), (4, .int 1), (2, .int 0), (3, .int 1), (1, .ref ca), (0, .ref x)]) hx hb dL_areWhole_14 hl (by decide) rfl (fun ls hl => ?_)
  refine lv_iconst (v := 0) hx hb dL_areWhole_16 (by decide) ?_
  refine lv_istore (lv' := [(6, .int 0), (5, .int 0), (4, .int 1), (2, .int 0), (3, .int 1), (1, .ref ca), (0, .ref x)]) hx hb dL_areWhole_17 hl (by decide) rfl (fun ls hl => ?_)
  have hl : lv_has ls 8 [(6, .int (nI 0)), (5, .int (nI (cnt (fun c => (zR z 1 c).1) 0))), (4, .int (nI 1)), (3, .int 1), (2, .int 0), (1, .ref ca), (0, .ref x)] := lv_sub hl [0, 1, 2, 4, 3, 5, 6] rfl
  refine aw_in X hK hZ hA hlt x ad ca f P n w y z h hn 1 (by decide) hf1 hn2 (c0 := (4 * zN z 0 + 1)) (s0 := (24 * zN z 0 + 6)) (by omega) (by omega) (fun H locs cells slots ls hw hS hl hC hS9 => ?_) (zN z 1 + 1) 0 _ _ _ _ ls (Nat.zero_le _) (by omega) hw hS (by omega) (by omega) hl
  have hl : lv_has ls 8 [(5, .int (nI (cnt (fun c => (zR z 1 c).1) (zN z 1)))), (4, .int 1), (3, .int 1), (2, .int 0), (1, .ref ca), (0, .ref x)] := hl
  refine lv_iload_n hx hb dL_areWhole_93 rfl (lv_at hl 3 rfl) ?_
  refine lv_iload_n hx hb dL_areWhole_94 rfl (lv_at hl 2 rfl) ?_
  refine lv_if_eq (tgt := 110) hx hb dL_areWhole_95 (by decide) (fun c_95 => absurd c_95 (by decide)) (fun _ => ?_)
  refine lv_iload hx hb dL_areWhole_98 (lv_at hl 0 rfl) ?_
  refine lv_aload_n hx hb dL_areWhole_100 rfl (lv_at hl 5 rfl) ?_
  refine lv_iload hx hb dL_areWhole_101 (lv_at hl 1 rfl) ?_
  refine m_callVi X (ci := 7) rfl hx9 hK hw hZ hS hA (As := [.int 1]) (rest := [.int (nI (cnt (fun c => (zR z 1 c).1) (zN z 1))), .int 0]) (n_rows l G dce _ M hlt x ad ca f P n w y z h hn (k := 1) (by decide)) (cwV 1 hts gL_areWhole_X6_rows rfl rfl rfl (by decide +kernel) ⟨Nat.le_of_ble_eq_true rfl, Nat.le_of_ble_eq_true rfl⟩) rfl hl.1 rfl (Nat.le_of_ble_eq_true rfl) dL_areWhole_103 (by dsimp only; omega) (by dsimp only; omega) (fun r4 M3 H locs hp hw hS hz hk => ?_)
  rw [hp.2] at hw
  rw [hp.1]
  refine lv_isub hx hb dL_areWhole_106 ?_
  rw [Int32.sub_self]
  refine lv_goto (tgt := 111) hx hb dL_areWhole_107 (by decide) ?_
  refine lv_iadd hx hb dL_areWhole_111 ?_
  rw [show (0 : Int32) + 0 = 0 from by decide]
  refine lv_istore_n (lv' := [(2, .int 0), (5, .int (nI (cnt (fun c => (zR z 1 c).1) (zN z 1)))), (4, .int 1), (3, .int 1), (1, .ref ca), (0, .ref x)]) hx hb dL_areWhole_112 rfl hl (by decide) rfl (fun ls hl => ?_)
  refine lv_iinc (v := 2) (lv' := [(4, .int 2), (2, .int 0), (5, .int (nI (cnt (fun c => (zR z 1 c).1) (zN z 1)))), (3, .int 1), (1, .ref ca), (0, .ref x)]) hx hb dL_areWhole_113 hl (k := 2) rfl (by decide) (by decide) rfl (fun ls hl => ?_)
  refine lv_goto (tgt := 7) hx hb dL_areWhole_116 (by decide) ?_
  refine lv_iload hx hb dL_areWhole_7 (lv_at hl 0 rfl) ?_
  refine lv_iconst (v := 2) hx hb dL_areWhole_9 (by decide) ?_
  refine lv_icmp_ge (tgt := 119) hx hb dL_areWhole_10 (by decide) (fun _ => ?_) (fun c_10 => absurd (by decide) c_10)
  refine lv_iload_n hx hb dL_areWhole_119 rfl (lv_at hl 3 rfl) ?_
  refine lv_if_eq (tgt := 131) hx hb dL_areWhole_120 (by decide) (fun c_120 => absurd c_120 (by decide)) (fun _ => ?_)
  refine lv_iload_n hx hb dL_areWhole_123 rfl (lv_at hl 1 rfl) ?_
  refine lv_if_ne (tgt := 131) hx hb dL_areWhole_124 (by decide) (fun c_124 => absurd (by decide) c_124) (fun _ => ?_)
  refine lv_iconst (v := 1) hx hb dL_areWhole_127 (by decide) ?_
  refine lv_goto (tgt := 132) hx hb dL_areWhole_128 (by decide) ?_
  exact m_zret X (by decide) hK hw hS (by exact ⟨rfl, rfl⟩) (by omega) (by omega) dL_areWhole_132
set_option maxHeartbeats 4000000 in
set_option maxRecDepth 100000 in
theorem ar_in {p : Program} {l : Launch} {e : Env} {s : State} {m : MethodId} {below : List Frame} {meth : Method} {c : Code} {args : Array Value} {G : gG} {dce : Nat} {A : Nat → Prop} {Q : State → Prop} (X : cX p s m meth c cL_areRows 8 (some .boolean) wsL_areRows RL args) (hK : wK G s) (hZ : wZ dce A s s.heap) (hA : ∀ q : Nat, s.heap.size ≤ q → A q) (hlt : l.stackTraces = false) (x : Nat) (ad : Nat → Nat) (ca : Nat) (f : Nat → Int32) (P : Nat → Prop) (n w : Nat) (z : cZ) (hn : n ≤ 511) (i : Nat) (hi : i < 3) (k : Nat) (hk2 : k < 2) (hfk : f k = nI (zN z k)) (hnk : zN z k ≤ n) (hn2 : n ≤ 55) (hw9 : w ≤ 4096) {c0 s0 : Nat} (hc0 : c0 ≤ 1000) (hs0 : s0 ≤ 6000) (tail : ∀ (y1 : cY) (z1 : cZ) (M1 : gM) (H : Heap) (locs : List Loc) (cells slots : Nat) (ls : Array Slot), LC G dce x ad ca f P n w M1 y1 z1 → zS z z1 → jE i z1 → wd G A M1 H → va_S A s.heap H locs → lv_has ls 8 [(4, .int (nI k)), (3, .int 1), (2, .int (nI i)), (1, .ref ca), (0, .ref x)] → cells ≤ c0 + 16 * zN z k → slots ≤ s0 + 96 * zN z k → W p l e ({ frames := 11, cells := 2000, slots := 12000, locals := 260 }) s m args below meth c H locs cells slots Q (F0 m 134 ls [])) : ∀ (d m9 : Nat) (y1 : cY) (z1 : cZ) (M1 : gM) (H : Heap) (locs : List Loc) (cells slots : Nat) (ls : Array Slot), LC G dce x ad ca f P n w M1 y1 z1 → zS z z1 → jE i z1 → m9 ≤ zN z k → zN z k + 1 ≤ m9 + d → wd G A M1 H → va_S A s.heap H locs → cells ≤ c0 + 16 * m9 → slots ≤ s0 + 96 * m9 → lv_has ls 8 [(5, .int (nI m9)), (4, .int (nI k)), (3, .int 1), (2, .int (nI i)), (1, .ref ca), (0, .ref x)] → W p l e ({ frames := 11, cells := 2000, slots := 12000, locals := 260 }) s m args below meth c H locs cells slots Q (F0 m 14 ls []) := by
  obtain ⟨hx, hb, hr, hts, hown, hlk, hml⟩ := id X
  intro d
  induction d with
  | zero =>
    intro m9 y1 z1 M1 H locs cells slots ls g1 g2 g3 h1 h2
    exact absurd h2 (by omega)
  | succ d ih =>
    intro m9 y1 z1 M1 H locs cells slots ls h1 hs1 hE1 hm1 hm2 hw hS hC hS9 hl
    have hx9 : M1 x = some (.inr (7, [.ref (ad 0), .ref (ad 1), .ref (ad 2), .ref (ad 3)])) := h1.1.1.1
    refine lv_iload hx hb dL_areRows_14 (lv_at hl 0 rfl) ?_
    refine lv_aload_n hx hb dL_areRows_16 rfl (lv_at hl 4 rfl) ?_
    refine lv_iload hx hb dL_areRows_17 (lv_at hl 1 rfl) ?_
    refine m_iald X hK hw h1.2.2.1 (i := nI k) (vp_in_nI (by omega) (by decide)) dL_areRows_19 ?_
    rw [show f (((nI k) : Int32).toNatClampNeg) = nI (zN z k) from (congrArg f (nI_clamp (by omega))).trans hfk]
    refine lv_icmp_ge (tgt := 134) hx hb dL_areRows_20 (by decide) (fun c_20 => ?_) (fun c_20 => ?_)
    · have hkn : (zN z k) ≤ m9 := (nI_leI (by omega) (by omega)).mp c_20
      have hm9 : m9 = zN z k := by omega
      rw [hm9] at hC hS9
      exact tail y1 z1 M1 _ _ _ _ ls h1 hs1 hE1 hw hS (lv_sub hl [1, 2, 3, 4, 5] rfl) hC hS9
    · have hkl : m9 < (zN z k) := Nat.lt_of_not_le (fun q => c_20 (nI_le q (by omega)))
      refine lv_iload_n hx hb dL_areRows_23 rfl (lv_at hl 2 rfl) ?_
      refine lv_if_eq (tgt := 134) hx hb dL_areRows_24 (by decide) (fun c_24 => absurd c_24 (by decide)) (fun _ => ?_)
      refine lv_aload_n hx hb dL_areRows_27 rfl (lv_at hl 5 rfl) ?_
      refine lv_aload_n hx hb dL_areRows_28 rfl (lv_at hl 4 rfl) ?_
      refine lv_iload hx hb dL_areRows_29 (lv_at hl 1 rfl) ?_
      refine lv_iload hx hb dL_areRows_31 (lv_at hl 0 rfl) ?_
      have hj1 : m9 < zN z1 k := by rw [hs1.1]; exact hkl
      refine m_callSi X hK hw hZ hS hA (As := [.ref x, .ref ca, .int (nI k), .int (nI m9)]) (rest := []) (c_ofRow l G dce _ M1 hlt x ad ca f P n w y1 z1 h1 hn k m9 hk2 hj1) (va_cwS 4 hts gL_areRows_L_ofRow rfl rfl rfl (by decide +kernel) ⟨Nat.le_of_ble_eq_true rfl, Nat.le_of_ble_eq_true rfl⟩) rfl hl.1 rfl (Nat.le_of_ble_eq_true rfl) dL_areRows_33 (by dsimp only; omega) (by dsimp only; omega) (fun r42 M41 H locs hp hw hS hz hk => ?_)
      rw [hp.2] at hw
      rw [hp.1]
      have h3 := of_n3 h1.2.1.2.2.1.1 (h1.2.1.n8 (by omega)) hk2 hj1
      refine lv_bipush (v := (-3)) hx hb dL_areRows_36 (by decide) ?_
      refine lv_icmp_eq (tgt := 45) hx hb dL_areRows_38 (by decide) (fun c_38 => ?_) (fun c_38 => ?_)
      · refine lv_iconst (v := 0) hx hb dL_areRows_45 (by decide) ?_
        refine lv_istore (lv' := [(6, .int 0), (5, .int (nI m9)), (4, .int (nI k)), (3, .int 1), (2, .int (nI i)), (1, .ref ca), (0, .ref x)]) hx hb dL_areRows_46 hl (by decide) rfl (fun ls hl => ?_)
        refine lv_aload_n hx hb dL_areRows_48 rfl (lv_at hl 6 rfl) ?_
        refine lv_iload_n hx hb dL_areRows_49 rfl (lv_at hl 4 rfl) ?_
        refine lv_iload hx hb dL_areRows_50 (lv_at hl 2 rfl) ?_
        refine lv_iload hx hb dL_areRows_52 (lv_at hl 1 rfl) ?_
        refine m_callVi X (ci := 7) rfl hx9 hK hw hZ hS hA (As := [.int (nI i), .int (nI k), .int (nI m9)]) (rest := []) (n_find l G dce _ M1 hlt x ad ca f P n w y1 z1 h1 hn hi hk2 (nI m9)) (cwV 3 hts gL_areRows_X6_find rfl rfl rfl (by decide +kernel) ⟨Nat.le_of_ble_eq_true rfl, Nat.le_of_ble_eq_true rfl⟩) rfl hl.1 rfl (Nat.le_of_ble_eq_true rfl) dL_areRows_54 (by dsimp only; omega) (by dsimp only; omega) (fun r44 M43 H locs hp hw hS hz hk => ?_)
        obtain ⟨er2, y2, h2⟩ := hp
        rw [er2]
        obtain ⟨z2, e2⟩ : ∃ zz9, zz9 = kFi i k (nI m9) z1 := ⟨_, rfl⟩
        rw [← e2] at h2
        have hx2 : M43 x = some (.inr (7, [.ref (ad 0), .ref (ad 1), .ref (ad 2), .ref (ad 3)])) := h2.1.1.1
        have han := jE.an hE1 h1.2.1.1 (h1.2.1.n8 (by omega)) hi hk2 hj1
        have hf9 : (zR z1 k m9).1 = false := h3.mp c_38
        rw [han.1, hf9, show bI false = (0 : Int32) from rfl]
        refine lv_istore (lv' := [(7, .int 0), (6, .int 0), (5, .int (nI m9)), (4, .int (nI k)), (3, .int 1), (2, .int (nI i)), (1, .ref ca), (0, .ref x)]) hx hb dL_areRows_57 hl (by decide) rfl (fun ls hl => ?_)
        refine lv_iload hx hb dL_areRows_59 (lv_at hl 0 rfl) ?_
        refine lv_iload hx hb dL_areRows_61 (lv_at hl 1 rfl) ?_
        refine lv_icmp_ne (tgt := 126) hx hb dL_areRows_63 (by decide) (fun c_63 => absurd (by decide) c_63) (fun _ => ?_)
        refine lv_iload hx hb dL_areRows_66 (lv_at hl 0 rfl) ?_
        refine lv_if_eq (tgt := 122) hx hb dL_areRows_68 (by decide) (fun _ => ?_) (fun c_68 => absurd (by decide) c_68)
        refine lv_iconst (v := 1) hx hb dL_areRows_122 (by decide) ?_
        refine lv_goto (tgt := 127) hx hb dL_areRows_123 (by decide) ?_
        refine lv_istore_n (lv' := [(3, .int 1), (7, .int 0), (6, .int 0), (5, .int (nI m9)), (4, .int (nI k)), (2, .int (nI i)), (1, .ref ca), (0, .ref x)]) hx hb dL_areRows_127 rfl hl (by decide) rfl (fun ls hl => ?_)
        refine lv_iinc (v := (nI (m9 + 1))) (lv' := [(5, .int (nI (m9 + 1))), (3, .int 1), (7, .int 0), (6, .int 0), (4, .int (nI k)), (2, .int (nI i)), (1, .ref ca), (0, .ref x)]) hx hb dL_areRows_128 hl (k := 3) rfl (nI_1 _) (by decide) rfl (fun ls hl => ?_)
        refine lv_goto (tgt := 14) hx hb dL_areRows_131 (by decide) ?_
        exact ih (m9 + 1) y2 z2 M43 _ _ _ _ ls h2 (hs1.tr (by rw [e2]; exact zS.fi)) (by rw [e2]; exact (jE.fi hE1 h1.2.1.1 (h1.2.1.n8 (by omega)) hi hk2 (nI m9)).1) (by omega) (by omega) hw hS (by omega) (by omega) (lv_sub hl [0, 4, 1, 5, 6, 7] rfl)
      · refine lv_iconst (v := 1) hx hb dL_areRows_41 (by decide) ?_
        refine lv_goto (tgt := 46) hx hb dL_areRows_42 (by decide) ?_
        refine lv_istore (lv' := [(6, .int 1), (5, .int (nI m9)), (4, .int (nI k)), (3, .int 1), (2, .int (nI i)), (1, .ref ca), (0, .ref x)]) hx hb dL_areRows_46 hl (by decide) rfl (fun ls hl => ?_)
        refine lv_aload_n hx hb dL_areRows_48 rfl (lv_at hl 6 rfl) ?_
        refine lv_iload_n hx hb dL_areRows_49 rfl (lv_at hl 4 rfl) ?_
        refine lv_iload hx hb dL_areRows_50 (lv_at hl 2 rfl) ?_
        refine lv_iload hx hb dL_areRows_52 (lv_at hl 1 rfl) ?_
        refine m_callVi X (ci := 7) rfl hx9 hK hw hZ hS hA (As := [.int (nI i), .int (nI k), .int (nI m9)]) (rest := []) (n_find l G dce _ M1 hlt x ad ca f P n w y1 z1 h1 hn hi hk2 (nI m9)) (cwV 3 hts gL_areRows_X6_find rfl rfl rfl (by decide +kernel) ⟨Nat.le_of_ble_eq_true rfl, Nat.le_of_ble_eq_true rfl⟩) rfl hl.1 rfl (Nat.le_of_ble_eq_true rfl) dL_areRows_54 (by dsimp only; omega) (by dsimp only; omega) (fun r46 M45 H locs hp hw hS hz hk => ?_)
        obtain ⟨er2, y2, h2⟩ := hp
        rw [er2]
        obtain ⟨z2, e2⟩ : ∃ zz9, zz9 = kFi i k (nI m9) z1 := ⟨_, rfl⟩
        rw [← e2] at h2
        have hx2 : M45 x = some (.inr (7, [.ref (ad 0), .ref (ad 1), .ref (ad 2), .ref (ad 3)])) := h2.1.1.1
        have han := jE.an hE1 h1.2.1.1 (h1.2.1.n8 (by omega)) hi hk2 hj1
        have ht9 : (zR z1 k m9).1 = true := by
          cases h0 : (zR z1 k m9).1
          · exact absurd (h3.mpr h0) c_38
          · rfl
        rw [han.1, ht9, show bI true = (1 : Int32) from rfl]
        have hj2 : m9 < zN z2 k := by rw [e2, kFi_N]; exact hj1
        have hv2 : zE z2 (sL i k) m9 = (true, false, true, (zR z1 k m9).2.1, (zR z1 k m9).2.2.1, (zR z1 k m9).2) := by rw [e2]; exact han.2 ht9
        have hl2 : fLive (zE z2 (sL i k) m9) = true := by rw [hv2]; rfl
        have hr2 : zR z2 k m9 = zR z1 k m9 := by rw [e2]; exact zS.fi.2.1 k m9 hk2
        have ht2 : (zR z2 k m9).1 = true := by rw [hr2]; exact ht9
        refine lv_istore (lv' := [(7, .int 1), (6, .int 1), (5, .int (nI m9)), (4, .int (nI k)), (3, .int 1), (2, .int (nI i)), (1, .ref ca), (0, .ref x)]) hx hb dL_areRows_57 hl (by decide) rfl (fun ls hl => ?_)
        refine lv_iload hx hb dL_areRows_59 (lv_at hl 0 rfl) ?_
        refine lv_iload hx hb dL_areRows_61 (lv_at hl 1 rfl) ?_
        refine lv_icmp_ne (tgt := 126) hx hb dL_areRows_63 (by decide) (fun c_63 => absurd (by decide) c_63) (fun _ => ?_)
        refine lv_iload hx hb dL_areRows_66 (lv_at hl 0 rfl) ?_
        refine lv_if_eq (tgt := 122) hx hb dL_areRows_68 (by decide) (fun c_68 => absurd c_68 (by decide)) (fun _ => ?_)
        refine lv_aload_n hx hb dL_areRows_71 rfl (lv_at hl 7 rfl) ?_
        refine lv_iload_n hx hb dL_areRows_72 rfl (lv_at hl 5 rfl) ?_
        refine lv_iload hx hb dL_areRows_73 (lv_at hl 3 rfl) ?_
        refine lv_iload hx hb dL_areRows_75 (lv_at hl 2 rfl) ?_
        refine m_callVi X (ci := 7) rfl hx2 hK hw hZ hS hA (As := [.int (nI i), .int (nI k), .int (nI m9)]) (rest := []) (n_name l G dce _ M45 hlt x ad ca f P n w y2 z2 h2 hn hi hk2 hj2 hl2) (cwV 3 hts gL_areRows_X6_name rfl rfl rfl (by decide +kernel) ⟨Nat.le_of_ble_eq_true rfl, Nat.le_of_ble_eq_true rfl⟩) rfl hl.1 rfl (Nat.le_of_ble_eq_true rfl) dL_areRows_77 (by dsimp only; omega) (by dsimp only; omega) (fun r48 M47 H locs hp hw hS hz hk => ?_)
        rw [hp.2] at hw
        rw [hp.1]
        rw [show eNm (zE z2 (sL i k) m9) = (zR z1 k m9).2.1 from by rw [hv2]; rfl]
        refine lv_aload_n hx hb dL_areRows_80 rfl (lv_at hl 7 rfl) ?_
        refine lv_iload hx hb dL_areRows_81 (lv_at hl 3 rfl) ?_
        refine lv_iload hx hb dL_areRows_83 (lv_at hl 2 rfl) ?_
        refine m_callVi X (ci := 7) rfl hx2 hK hw hZ hS hA (As := [.int (nI k), .int (nI m9)]) (rest := [.int ((zR z1 k m9).2.1)]) (n_rowName l G dce _ M45 hlt x ad ca f P n w y2 z2 h2 hn hk2 hj2 ht2) (cwV 2 hts gL_areRows_X6_rowName rfl rfl rfl (by decide +kernel) ⟨Nat.le_of_ble_eq_true rfl, Nat.le_of_ble_eq_true rfl⟩) rfl hl.1 rfl (Nat.le_of_ble_eq_true rfl) dL_areRows_85 (by dsimp only; omega) (by dsimp only; omega) (fun r50 M49 H locs hp hw hS hz hk => ?_)
        rw [hp.2] at hw
        rw [hp.1]
        rw [hr2]
        refine lv_icmp_ne (tgt := 126) hx hb dL_areRows_88 (by decide) (fun c_88 => ?_) (fun c_88 => ?_)
        · exact (by exfalso; first | exact c_88 rfl | exact c_108 rfl | (obtain ⟨v, hv, ev⟩ := h2.2.1.ver hk2 hj2; rw [ev] at c_119; exact nI_pos (by omega) c_119))
        · refine lv_aload_n hx hb dL_areRows_91 rfl (lv_at hl 7 rfl) ?_
          refine lv_iload_n hx hb dL_areRows_92 rfl (lv_at hl 5 rfl) ?_
          refine lv_iload hx hb dL_areRows_93 (lv_at hl 3 rfl) ?_
          refine lv_iload hx hb dL_areRows_95 (lv_at hl 2 rfl) ?_
          refine m_callVi X (ci := 7) rfl hx2 hK hw hZ hS hA (As := [.int (nI i), .int (nI k), .int (nI m9)]) (rest := []) (n_reference l G dce _ M45 hlt x ad ca f P n w y2 z2 h2 hn hi hk2 hj2 hl2) (cwV 3 hts gL_areRows_X6_reference rfl rfl rfl (by decide +kernel) ⟨Nat.le_of_ble_eq_true rfl, Nat.le_of_ble_eq_true rfl⟩) rfl hl.1 rfl (Nat.le_of_ble_eq_true rfl) dL_areRows_97 (by dsimp only; omega) (by dsimp only; omega) (fun r52 M51 H locs hp hw hS hz hk => ?_)
          rw [hp.2] at hw
          rw [hp.1]
          rw [show eRf (zE z2 (sL i k) m9) = (zR z1 k m9).2.2.1 from by rw [hv2]; rfl]
          refine lv_aload_n hx hb dL_areRows_100 rfl (lv_at hl 7 rfl) ?_
          refine lv_iload hx hb dL_areRows_101 (lv_at hl 3 rfl) ?_
          refine lv_iload hx hb dL_areRows_103 (lv_at hl 2 rfl) ?_
          refine m_callVi X (ci := 7) rfl hx2 hK hw hZ hS hA (As := [.int (nI k), .int (nI m9)]) (rest := [.int ((zR z1 k m9).2.2.1)]) (n_rowReference l G dce _ M45 hlt x ad ca f P n w y2 z2 h2 hn hk2 hj2 ht2) (cwV 2 hts gL_areRows_X6_rowReference rfl rfl rfl (by decide +kernel) ⟨Nat.le_of_ble_eq_true rfl, Nat.le_of_ble_eq_true rfl⟩) rfl hl.1 rfl (Nat.le_of_ble_eq_true rfl) dL_areRows_105 (by dsimp only; omega) (by dsimp only; omega) (fun r54 M53 H locs hp hw hS hz hk => ?_)
          rw [hp.2] at hw
          rw [hp.1]
          rw [hr2]
          refine lv_icmp_ne (tgt := 126) hx hb dL_areRows_108 (by decide) (fun c_108 => ?_) (fun c_108 => ?_)
          · exact (by exfalso; first | exact c_88 rfl | exact c_108 rfl | (obtain ⟨v, hv, ev⟩ := h2.2.1.ver hk2 hj2; rw [ev] at c_119; exact nI_pos (by omega) c_119))
          · refine lv_aload_n hx hb dL_areRows_111 rfl (lv_at hl 7 rfl) ?_
            refine lv_iload hx hb dL_areRows_112 (lv_at hl 3 rfl) ?_
            refine lv_iload hx hb dL_areRows_114 (lv_at hl 2 rfl) ?_
            refine m_callVi X (ci := 7) rfl hx2 hK hw hZ hS hA (As := [.int (nI k), .int (nI m9)]) (rest := []) (n_rowVersion l G dce _ M45 hlt x ad ca f P n w y2 z2 h2 hn hk2 hj2 ht2) (cwV 2 hts gL_areRows_X6_rowVersion rfl rfl rfl (by decide +kernel) ⟨Nat.le_of_ble_eq_true rfl, Nat.le_of_ble_eq_true rfl⟩) rfl hl.1 rfl (Nat.le_of_ble_eq_true rfl) dL_areRows_116 (by dsimp only; omega) (by dsimp only; omega) (fun r56 M55 H locs hp hw hS hz hk => ?_)
            rw [hp.2] at hw
            rw [hp.1]
            refine lv_if_lt (tgt := 126) hx hb dL_areRows_119 (by decide) (fun c_119 => ?_) (fun c_119 => ?_)
            · exact (by exfalso; first | exact c_88 rfl | exact c_108 rfl | (obtain ⟨v, hv, ev⟩ := h2.2.1.ver hk2 hj2; rw [ev] at c_119; exact nI_pos (by omega) c_119))
            · refine lv_iconst (v := 1) hx hb dL_areRows_122 (by decide) ?_
              refine lv_goto (tgt := 127) hx hb dL_areRows_123 (by decide) ?_
              refine lv_istore_n (lv' := [(3, .int 1), (7, .int 1), (6, .int 1), (5, .int (nI m9)), (4, .int (nI k)), (2, .int (nI i)), (1, .ref ca), (0, .ref x)]) hx hb dL_areRows_127 rfl hl (by decide) rfl (fun ls hl => ?_)
              refine lv_iinc (v := (nI (m9 + 1))) (lv' := [(5, .int (nI (m9 + 1))), (3, .int 1), (7, .int 1), (6, .int 1), (4, .int (nI k)), (2, .int (nI i)), (1, .ref ca), (0, .ref x)]) hx hb dL_areRows_128 hl (k := 3) rfl (nI_1 _) (by decide) rfl (fun ls hl => ?_)
              refine lv_goto (tgt := 14) hx hb dL_areRows_131 (by decide) ?_
              exact ih (m9 + 1) y2 z2 M45 _ _ _ _ ls h2 (hs1.tr (by rw [e2]; exact zS.fi)) (by rw [e2]; exact (jE.fi hE1 h1.2.1.1 (h1.2.1.n8 (by omega)) hi hk2 (nI m9)).1) (by omega) (by omega) hw hS (by omega) (by omega) (lv_sub hl [0, 4, 1, 5, 6, 7] rfl)
set_option maxHeartbeats 4000000 in
set_option maxRecDepth 100000 in
theorem c_areRows (l : Launch) (G : gG) (dce sz : Nat) (M : gM) (hlt : l.stackTraces = false) (x : Nat) (ad : Nat → Nat) (ca : Nat) (f : Nat → Int32) (P : Nat → Prop) (n w : Nat) (y : cY) (z : cZ) (h : LC G dce x ad ca f P n w M y z) (hn : n ≤ 511) (i : Nat) (hi : i < 3) (hE : jE i z) (hn2 : n ≤ 55) (hf0 : f 0 = nI (zN z 0)) (hf1 : f 1 = nI (zN z 1)) (hw9 : w ≤ 4096) : mI l yL_areRows wsL_areRows ({ frames := 11, cells := 2000, slots := 12000, locals := 260 }) G dce sz M [.ref x, .ref ca, .int (nI i)] (fun r M' => r = 1 ∧ ∃ (y1 : cY) (z1 : cZ), LC G dce x ad ca f P n w M' y1 z1 ∧ zS z z1) (2000) (12000) := by
  have hx9 : M x = some (.inr (7, [.ref (ad 0), .ref (ad 1), .ref (ad 2), .ref (ad 3)])) := h.1.1.1
  have hz0 : zN z 0 ≤ n := h.2.1.2.1 0 (by omega)
  have hz1 : zN z 1 ≤ n := h.2.1.2.1 1 (by omega)
  refine wMet (Qc := QI G _) (cc := cL_areRows) (maxL := 8) (ret := (some .boolean)) (by decide) rfl (Nat.le_of_ble_eq_true rfl) ?_
  intro p e s m below meth c A ls X hnm hw hK hZ hA hS hsz eA hl
  obtain ⟨hx, hb, hr, hts, hown, hlk, hml⟩ := id X
  have hl : lv_has ls 8 [(0, .ref x), (1, .ref ca), (2, .int (nI i))] := hl
  refine lv_iconst (v := 1) hx hb dL_areRows_0 (by decide) ?_
  refine lv_istore_n (lv' := [(3, .int 1), (0, .ref x), (1, .ref ca), (2, .int (nI i))]) hx hb dL_areRows_1 rfl hl (by decide) rfl (fun ls hl => ?_)
  refine lv_iconst (v := 0) hx hb dL_areRows_2 (by decide) ?_
  refine lv_istore (lv' := [(4, .int 0), (3, .int 1), (0, .ref x), (1, .ref ca), (2, .int (nI i))]) hx hb dL_areRows_3 hl (by decide) rfl (fun ls hl => ?_)
  refine lv_iload hx hb dL_areRows_5 (lv_at hl 0 rfl) ?_
  refine lv_iconst (v := 2) hx hb dL_areRows_7 (by decide) ?_
  refine lv_icmp_ge (tgt := 140) hx hb dL_areRows_8 (by decide) (fun c_8 => absurd c_8 (by decide)) (fun _ => ?_)
  refine lv_iconst (v := 0) hx hb dL_areRows_11 (by decide) ?_
  refine lv_istore (lv' := [(5, .int 0), (4, .int 0), (3, .int 1), (0, .ref x), (1, .ref ca), (2, .int (nI i))]) hx hb dL_areRows_12 hl (by decide) rfl (fun ls hl => ?_)
  have hl : lv_has ls 8 [(5, .int (nI 0)), (4, .int (nI 0)), (3, .int 1), (2, .int (nI i)), (1, .ref ca), (0, .ref x)] := lv_sub hl [0, 1, 2, 5, 4, 3] rfl
  refine ar_in X hK hZ hA hlt x ad ca f P n w z hn i hi 0 (by decide) hf0 hz0 hn2 hw9 (c0 := 0) (s0 := 0) (by omega) (by omega) (fun yA zA MA H locs cells slots ls hcA hsA hEA hw hS hl hC hS9 => ?_) (zN z 0 + 1) 0 y z M _ _ _ _ ls h zS.rf hE (Nat.zero_le _) (by omega) hw hS (by omega) (by omega) hl
  have hl : lv_has ls 8 [(4, .int 0), (3, .int 1), (2, .int (nI i)), (1, .ref ca), (0, .ref x)] := hl
  have hxA : MA x = some (.inr (7, [.ref (ad 0), .ref (ad 1), .ref (ad 2), .ref (ad 3)])) := hcA.1.1.1
  refine lv_iinc (v := 1) (lv' := [(4, .int 1), (3, .int 1), (2, .int (nI i)), (1, .ref ca), (0, .ref x)]) hx hb dL_areRows_134 hl (k := 0) rfl (by decide) (by decide) rfl (fun ls hl => ?_)
  refine lv_goto (tgt := 5) hx hb dL_areRows_137 (by decide) ?_
  refine lv_iload hx hb dL_areRows_5 (lv_at hl 0 rfl) ?_
  refine lv_iconst (v := 2) hx hb dL_areRows_7 (by decide) ?_
  refine lv_icmp_ge (tgt := 140) hx hb dL_areRows_8 (by decide) (fun c_8 => absurd c_8 (by decide)) (fun _ => ?_)
  refine lv_iconst (v := 0) hx hb dL_areRows_11 (by decide) ?_
  refine lv_istore (lv' := [(5, .int 0), (4, .int 1), (3, .int 1), (2, .int (nI i)), (1, .ref ca), (0, .ref x)]) hx hb dL_areRows_12 hl (by decide) rfl (fun ls hl => ?_)
  have hl : lv_has ls 8 [(5, .int (nI 0)), (4, .int (nI 1)), (3, .int 1), (2, .int (nI i)), (1, .ref ca), (0, .ref x)] := lv_sub hl [0, 1, 2, 3, 4, 5] rfl
  refine ar_in X hK hZ hA hlt x ad ca f P n w z hn i hi 1 (by decide) hf1 hz1 hn2 hw9 (c0 := (16 * zN z 0)) (s0 := (96 * zN z 0)) (by omega) (by omega) (fun yB zB MB H locs cells slots ls hcB hsB hEB hw hS hl hC hS9 => ?_) (zN z 1 + 1) 0 yA zA MA _ _ _ _ ls hcA hsA hEA (Nat.zero_le _) (by omega) hw hS (by omega) (by omega) hl
  have hl : lv_has ls 8 [(4, .int 1), (3, .int 1), (2, .int (nI i)), (1, .ref ca), (0, .ref x)] := hl
  have hxB : MB x = some (.inr (7, [.ref (ad 0), .ref (ad 1), .ref (ad 2), .ref (ad 3)])) := hcB.1.1.1
  refine lv_iinc (v := 2) (lv' := [(4, .int 2), (3, .int 1), (2, .int (nI i)), (1, .ref ca), (0, .ref x)]) hx hb dL_areRows_134 hl (k := 0) rfl (by decide) (by decide) rfl (fun ls hl => ?_)
  refine lv_goto (tgt := 5) hx hb dL_areRows_137 (by decide) ?_
  refine lv_iload hx hb dL_areRows_5 (lv_at hl 0 rfl) ?_
  refine lv_iconst (v := 2) hx hb dL_areRows_7 (by decide) ?_
  refine lv_icmp_ge (tgt := 140) hx hb dL_areRows_8 (by decide) (fun _ => ?_) (fun c_8 => absurd (by decide) c_8)
  refine lv_iload_n hx hb dL_areRows_140 rfl (lv_at hl 1 rfl) ?_
  refine lv_if_eq (tgt := 156) hx hb dL_areRows_141 (by decide) (fun c_141 => absurd c_141 (by decide)) (fun _ => ?_)
  refine lv_aload_n hx hb dL_areRows_144 rfl (lv_at hl 4 rfl) ?_
  refine lv_iload_n hx hb dL_areRows_145 rfl (lv_at hl 2 rfl) ?_
  refine m_callVi X (ci := 7) rfl hxB hK hw hZ hS hA (As := [.int (nI i)]) (rest := []) (n_dirty l G dce _ MB hlt x ad ca f P n w yB zB hcB hn hi) (cwV 1 hts gL_areRows_X6_dirty rfl rfl rfl (by decide +kernel) ⟨Nat.le_of_ble_eq_true rfl, Nat.le_of_ble_eq_true rfl⟩) rfl hl.1 rfl (Nat.le_of_ble_eq_true rfl) dL_areRows_146 (by dsimp only; omega) (by dsimp only; omega) (fun r2 M1 H locs hp hw hS hz hk => ?_)
  rw [hp.2] at hw
  rw [hp.1]
  rw [jE.dy hEB hcB.2.1.1 hi, nI_0]
  refine lv_if_ne (tgt := 156) hx hb dL_areRows_149 (by decide) (fun c_149 => absurd (by decide) c_149) (fun _ => ?_)
  refine lv_iconst (v := 1) hx hb dL_areRows_152 (by decide) ?_
  refine lv_goto (tgt := 157) hx hb dL_areRows_153 (by decide) ?_
  exact m_zret X (by decide) hK hw hS (by exact ⟨rfl, yB, zB, hcB, hsB⟩) (by omega) (by omega) dL_areRows_157
