/-- a write is noted: the rows grow where they are full -/
def jBase (z : cZ) (a : Nat) : Nat → Int32 := if zW z < zC z then zJ z a else va_cpy (zJ z a) (fun _ => 0) 0 0 (zC z)
def kNo (ac : Int32) (k j : Nat) (z : cZ) : cZ := (zN z, zR z, zE z, zW z + 1, fun a => if a = 0 then upd (jBase z 0) (zW z) ac else upd (jBase z 1) (zW z) (nI (2 * j + k)), if zW z < zC z then zC z else zC z + zW z)
theorem kNo_room {G : gG} {dce x : Nat} {ad : Nat → Nat} {M : gM} {y : cY} {z : cZ} (h : CW G dce x ad M y z) (ac : Int32) (k j : Nat) : zC z ≤ zC (kNo ac k j z) ∧ (zW z < zC z ∨ (2 ≤ zC (kNo ac k j z) - zC z ∧ 4 * zW z ≤ 4 * (zC (kNo ac k j z) - zC z))) := by
  have h1 := h.2.2.2.1.2.1.2.2
  show zC z ≤ (if zW z < zC z then zC z else zC z + zW z) ∧ (zW z < zC z ∨ (2 ≤ (if zW z < zC z then zC z else zC z + zW z) - zC z ∧ 4 * zW z ≤ 4 * ((if zW z < zC z then zC z else zC z + zW z) - zC z)))
  by_cases h2 : zW z < zC z
  · rw [if_pos h2]
    exact ⟨Nat.le_refl _, Or.inl h2⟩
  · rw [if_neg h2]
    exact ⟨by omega, Or.inr ⟨by omega, by omega⟩⟩
theorem kNo_C (ac : Int32) (k j : Nat) (z : cZ) : zC z ≤ zC (kNo ac k j z) := by
  show zC z ≤ (if zW z < zC z then zC z else zC z + zW z)
  split <;> omega
def yJr (y : cY) (q8 q9 : Nat) : cY := (fun v => if v = 8 then q8 else if v = 9 then q9 else yX y v, yO y)
/-- the journal is written, in rows of its own or in new ones -/
theorem CW.jrn {G : gG} {dce x : Nat} {ad : Nat → Nat} {M M1 : gM} {y : cY} {z : cZ} (h : CW G dce x ad M y z) {q8 q9 c : Nat} {f8 f9 : Nat → Int32} (hq8 : q8 = yX y 8 ∨ M q8 = none) (hq9 : q9 = yX y 9 ∨ M q9 = none) (hne : q8 ≠ q9) (hc : 64 ≤ c ∧ zW z + 1 ≤ c ∧ c ≤ 32768) (e : M1 = mu (mu (mu M q8 (oI G c f8)) q9 (oI G c f9)) (ad 2) (oJ (nI (zW z + 1)) q8 q9)) :
    CW G dce x ad M1 (yJr y q8 q9) (zN z, zR z, zE z, zW z + 1, (fun a => if a = 0 then f8 else f9), c) ∧ cStep ad dce y z M (yJr y q8 q9) (zN z, zR z, zE z, zW z + 1, (fun a => if a = 0 then f8 else f9), c) M1 := by
  obtain ⟨⟨hX, hT, ⟨f, hsa, hf⟩, hS⟩, hL, hEl, ⟨hj, ⟨hj1, hj2, hj3⟩, hj4⟩, hD, hn⟩ := h
  have n8 : ∀ b w, M b = some w → (∀ c g, w ≠ oI G c g) → b ≠ q8 := fun b w hb hw r => by
    rcases hq8 with h1 | h1
    · rw [r, h1, hj1] at hb
      cases hb
      exact hw _ _ rfl
    · rw [r, h1] at hb
      cases hb
  have n9 : ∀ b w, M b = some w → (∀ c g, w ≠ oI G c g) → b ≠ q9 := fun b w hb hw r => by
    rcases hq9 with h1 | h1
    · rw [r, h1, hj2] at hb
      cases hb
      exact hw _ _ rfl
    · rw [r, h1] at hb
      cases hb
  have t : ∀ b w, M b = some w → (∀ c g, w ≠ oI G c g) → (∀ n a b, w ≠ oJ n a b) → M1 b = some w := fun b w hb h1 h2 => by
    rw [e, mu_n (fun r => by rw [r, hj] at hb; cases hb; exact h2 _ _ _ rfl), mu_n (n9 b w hb h1), mu_n (n8 b w hb h1)]
    exact hb
  have a2 : ad 2 ≠ q8 := n8 _ _ hj (fun c g => by simp [oJ, oI])
  have a3 : ad 2 ≠ q9 := n9 _ _ hj (fun c g => by simp [oJ, oI])
  have rowR : ∀ w : vR, (∀ c g, eR w ≠ oI G c g) ∧ (∀ n a b, eR w ≠ oJ n a b) := fun w => by
    obtain ⟨w1, w2, w3, w4⟩ := w
    exact ⟨fun _ _ => by simp [eR, oI], fun _ _ _ => by simp [eR, oJ]⟩
  have rowE : ∀ w : vE, (∀ c g, eE w ≠ oI G c g) ∧ (∀ n a b, eE w ≠ oJ n a b) := fun w => by
    obtain ⟨w1, w2, w3, w4, w5, w6, w7, w8⟩ := w
    exact ⟨fun _ _ => by simp [eE, oI], fun _ _ _ => by simp [eE, oJ]⟩
  have x8 : yX (yJr y q8 q9) 8 = q8 := rfl
  have x9 : yX (yJr y q8 q9) 9 = q9 := rfl
  have xn : ∀ v, v < 8 → yX (yJr y q8 q9) v = yX y v := fun v hv => by
    show (if v = 8 then q8 else if v = 9 then q9 else yX y v) = yX y v
    rw [if_neg (by omega), if_neg (by omega)]
  refine ⟨⟨⟨t _ _ hX (by simp [oX, oI]) (by simp [oX, oJ]), fun k hk => ⟨t _ _ (hT k hk).1 (by simp [oT, oI]) (by simp [oT, oJ]), t _ _ (hT k hk).2 (rowR _).1 (rowR _).2⟩, ⟨f, t _ _ hsa (by simp [oI]) (by simp [oJ]), hf⟩, fun i hi => ⟨t _ _ (hS i hi).1 (by simp [oS, oI]) (by simp [oS, oJ]), t _ _ (hS i hi).2 (rowE _).1 (rowE _).2⟩⟩, ?_, ⟨fun a b ha hb => t _ _ (hEl.1 a b ha hb) (rowR _).1 (rowR _).2, fun a b ha hb hc => t _ _ (hEl.2 a b ha hb hc) (rowE _).1 (rowE _).2⟩, ⟨?_, ⟨?_, ?_, hc⟩, hne⟩, ⟨hD.1, hD.2.1, hD.2.2.1, fun u v hu hv h1 h2 r => ?_, fun u hu => ?_⟩, hn⟩, ?_, ?_⟩
  · intro v hv
    obtain ⟨⟨mc, q1⟩, q2⟩ := hL v hv
    rw [xn v hv]
    refine ⟨⟨mc, t _ _ q1 (by simp [oL, oI]) (by simp [oL, oJ])⟩, ?_⟩
    rcases q2 with q2 | ⟨cap, g, q2, q3⟩
    · exact Or.inl q2
    · exact Or.inr ⟨cap, g, t _ _ q2 (by simp [oA, oI]) (by simp [oA, oJ]), q3⟩
  · rw [e]
    exact mu_s _ _ _
  · rw [x8, e, mu_n (Ne.symm a2), mu_n hne]
    exact mu_s _ _ _
  · rw [x9, e, mu_n (Ne.symm a3)]
    exact mu_s _ _ _
  · rw [xn u hu, xn v hv] at r
    exact hD.2.2.2.1 u v hu hv h1 h2 r
  · rw [xn u hu]
    exact hD.2.2.2.2 u hu
  · intro b w hb hno
    rw [e, mu_n (fun r => hno (Or.inr (Or.inr (Or.inr r)))), mu_n (fun r => ?_), mu_n (fun r => ?_)]
    · exact hb
    · rcases hq8 with h1 | h1
      · exact hno (Or.inr (Or.inl ⟨8, by omega, r.trans h1, fun h => absurd h (by omega)⟩))
      · rw [r, h1] at hb
        cases hb
    · rcases hq9 with h1 | h1
      · exact hno (Or.inr (Or.inl ⟨9, by omega, r.trans h1, fun h => absurd h (by omega)⟩))
      · rw [r, h1] at hb
        cases hb
  · intro b hb
    rcases hb with hb | ⟨v, hv, r, h0⟩ | hb | hb
    · exact Or.inl (Or.inl hb)
    · by_cases h8 : v = 8
      · rw [h8, x8] at r
        rcases hq8 with h1 | h1
        · exact Or.inl (Or.inr (Or.inl ⟨8, by omega, r.trans h1, fun h => absurd h (by omega)⟩))
        · exact Or.inr (by rw [r]; exact h1)
      · by_cases h9 : v = 9
        · rw [h9, x9] at r
          rcases hq9 with h1 | h1
          · exact Or.inl (Or.inr (Or.inl ⟨9, by omega, r.trans h1, fun h => absurd h (by omega)⟩))
          · exact Or.inr (by rw [r]; exact h1)
        · rw [xn v (by omega)] at r
          exact Or.inl (Or.inr (Or.inl ⟨v, hv, r, h0⟩))
    · exact Or.inl (Or.inr (Or.inr (Or.inl hb)))
    · exact Or.inl (Or.inr (Or.inr (Or.inr hb)))
set_option maxHeartbeats 4000000 in
set_option maxRecDepth 100000 in
theorem c_copyOfI (l : Launch) (G : gG) (dce sz : Nat) (M : gM) (a0 n0 N : Nat) (f : Nat → Int32) (he : M a0 = some (.inl (G.2 0, n0, .inl f))) (hN0 : n0 < N) (hN2 : N ≤ 65536) : mR l yJ7_copyOf_59c91 wsJ7_copyOf_59c91 ({ frames := 1, cells := 1, slots := N, locals := 50 }) G dce sz M [.ref a0, .int (nI N)] (fun r M' => M r = none ∧ M' = mu M r (oI G N (va_cpy f (fun _ => 0) 0 0 n0))) (1) (N) := by
  refine wMet (Qc := QR G _) (cc := cJ7_copyOf_59c91) (maxL := 3) (ret := (some (.array .int))) (by decide) rfl (Nat.le_of_ble_eq_true rfl) ?_
  intro p e s m below meth c A ls X hnm hw hK hZ hA hS hsz eA hl
  obtain ⟨hx, hb, hr, hts, hown, hlk, hml⟩ := id X
  have hl : lv_has ls 3 [(0, .ref a0), (1, .int (nI N))] := hl
  refine lv_iload_n hx hb dJ7_copyOf_59c91_0 rfl (lv_at hl 1 rfl) ?_
  refine lv_aload_n hx hb dJ7_copyOf_59c91_1 rfl (lv_at hl 0 rfl) ?_
  refine m_alen X hK hw he 0 rfl dJ7_copyOf_59c91_2 ?_
  refine W.eq (g2 := F0 m 3 ls [.int (nI n0), .int (nI N)]) rfl ?_
  refine lv_icmp_ne (tgt := 14) hx hb dJ7_copyOf_59c91_3 (by decide) (fun c_3 => ?_) (fun c_3 => ?_)
  · refine lv_iload_n hx hb dJ7_copyOf_59c91_14 rfl (lv_at hl 1 rfl) ?_
    refine m_newa_int X (by decide +kernel) hK hw hS hA (N' := N) (nI_pos (by omega)) (nI_clamp (by omega)) (by rw [show componentBytes .int = 4 from by decide]; omega) (by dsimp only; omega) (by dsimp only; omega) dJ7_copyOf_59c91_15 (fun q M1 H nq eM1 hw hS => ?_)
    have d_a0_q : a0 ≠ q := gM_nn nq he
    have k2 := (congrFun eM1 a0).trans (mu_g he d_a0_q)
    have k3 : M1 q = some (.inl (G.2 0, N, .inl (fun _ => 0))) := by rw [eM1]; exact mu_s _ _ _
    refine lv_astore_n (lv' := [(2, .ref q), (0, .ref a0), (1, .int (nI N))]) hx hb dJ7_copyOf_59c91_17 rfl hl (by decide) rfl (fun ls hl => ?_)
    refine lv_aload_n hx hb dJ7_copyOf_59c91_18 rfl (lv_at hl 1 rfl) ?_
    refine lv_iconst (v := 0) hx hb dJ7_copyOf_59c91_19 (by decide) ?_
    refine lv_aload_n hx hb dJ7_copyOf_59c91_20 rfl (lv_at hl 0 rfl) ?_
    refine lv_iconst (v := 0) hx hb dJ7_copyOf_59c91_21 (by decide) ?_
    refine lv_aload_n hx hb dJ7_copyOf_59c91_22 rfl (lv_at hl 1 rfl) ?_
    refine m_alen X hK hw k2 0 rfl dJ7_copyOf_59c91_23 ?_
    refine W.eq (g2 := F0 m 24 ls [.int (nI n0), .int 0, .ref q, .int 0, .ref a0]) rfl ?_
    refine lv_iload_n hx hb dJ7_copyOf_59c91_24 rfl (lv_at hl 2 rfl) ?_
    refine va_mmin hx hb (by rw [hml]; exact hl.1.symm) hown (hts (.methodLink RJ7 304 Lib.Math.min.name) (by decide +kernel)) (hts (.static Lib.Math.min.name) (by decide +kernel)) (hts (.initialized "java/lang/Math") (by decide +kernel)) (hts (.code Lib.Math.min.name Lib.Math.min.code 2 (some .int)) (by decide +kernel)) (Nat.le_of_ble_eq_true rfl) (Nat.le_of_ble_eq_true rfl) (by dsimp only; omega) (by dsimp only; omega) dJ7_copyOf_59c91_25 ?_
    rw [show (if nI N < nI n0 then nI N else nI n0) = nI n0 from (nI_min (by omega) (by omega)).trans (congrArg nI (by omega))]
    refine m_copyi X hl.1 (by decide +kernel) (by decide +kernel) (by decide +kernel) (by decide +kernel) hK hw hS k2 k3 (by decide) (by decide) (nI_pos (by omega)) (by rw [nI_clamp (by omega)]; show 0 + _ ≤ _; omega) (by rw [nI_clamp (by omega)]; show 0 + _ ≤ _; omega) (Nat.le_of_ble_eq_true rfl) (Nat.le_of_ble_eq_true rfl) dJ7_copyOf_59c91_28 (fun M4 H locs eM4 hw hS => ?_)
    rw [nI_clamp (by omega)] at eM4
    refine lv_aload_n hx hb dJ7_copyOf_59c91_31 rfl (lv_at hl 0 rfl) ?_
    exact m_aret X (Or.inr ⟨_, rfl⟩) hK hw hS ⟨nq, by rw [eM4, eM1, mu_mu]; rfl⟩ (by omega) (by omega) dJ7_copyOf_59c91_32
  · exact (by exfalso; exact absurd ((nI_eq (a := N) (b := n0) (by omega) (by omega)).mp (by first | exact c_3 | exact Classical.not_not.mp c_3)) (by omega))
theorem nI_mul (a b : Nat) : nI a * nI b = nI (a * b) := (Int32.ofNat_mul a b).symm
set_option maxHeartbeats 4000000 in
set_option maxRecDepth 100000 in
theorem c_note_slow (l : Launch) (G : gG) (dce sz : Nat) (M : gM) (x : Nat) (ad : Nat → Nat) (y : cY) (z : cZ) (hcw : CW G dce x ad M y z) (k j : Nat) (hk2 : k < 2) (ac : Int32) (hwc : zW z = zC z) (hw9 : zW z < 16384) (kc ks : Nat) (hkc : 2 ≤ kc) (hks : 4 * zW z ≤ ks) : mV l yX2_note wsX2_note ({ frames := 2, cells := kc, slots := ks, locals := 72 }) G dce sz M [.ref (ad 2), .int ac, .int (nI k), .int (nI j)] (fun M' => cTo G dce x ad M y z M' (kNo ac k j z)) (kc) (ks) := by
  have hj9 : M (ad 2) = some (.inr (3, [.int (nI (zW z)), .ref (yX y 8), .ref (yX y 9)])) := hcw.2.2.2.1.1
  have h8 : M (yX y 8) = some (.inl (G.2 0, zC z, .inl (zJ z 0))) := hcw.2.2.2.1.2.1.1
  have h9 : M (yX y 9) = some (.inl (G.2 0, zC z, .inl (zJ z 1))) := hcw.2.2.2.1.2.1.2.1
  have hcc := hcw.2.2.2.1.2.1.2.2
  have h89 : yX y 8 ≠ yX y 9 := hcw.2.2.2.1.2.2
  refine wMet (Qc := QV G _) (cc := cX2_note) (maxL := 4) (ret := none) (by decide) rfl (Nat.le_of_ble_eq_true rfl) ?_
  intro p e s m below meth c A ls X hnm hw hK hZ hA hS hsz eA hl
  obtain ⟨hx, hb, hr, hts, hown, hlk, hml⟩ := id X
  have hl : lv_has ls 4 [(0, .ref (ad 2)), (1, .int ac), (2, .int (nI k)), (3, .int (nI j))] := hl
  have iX2 : ∀ w ∈ wsX20, w ∈ wsX2_note := by decide +kernel
  refine lv_aload_n hx hb dX2_note_0 rfl (lv_at hl 0 rfl) ?_
  refine m_get X iX2 hK hw hj9 rfl 0 (by decide) (ref := "ObjectMapper$Journal") (by decide +kernel) (Or.inl rfl) rfl dX2_note_1 ?_
  refine lv_aload_n hx hb dX2_note_4 rfl (lv_at hl 0 rfl) ?_
  refine m_get X iX2 hK hw hj9 rfl 1 (by decide) (ref := "ObjectMapper$Journal") (by decide +kernel) (Or.inl rfl) rfl dX2_note_5 ?_
  refine m_alen X hK hw h8 0 rfl dX2_note_8 ?_
  refine W.eq (g2 := F0 m 9 ls [.int (nI (zC z)), .int (nI (zW z))]) rfl ?_
  refine lv_icmp_ge (tgt := 24) hx hb dX2_note_9 (by decide) (fun c_9 => ?_) (fun c_9 => ?_)
  · refine lv_aload_n hx hb dX2_note_24 rfl (lv_at hl 0 rfl) ?_
    refine lv_aload_n hx hb dX2_note_25 rfl (lv_at hl 0 rfl) ?_
    refine m_get X iX2 hK hw hj9 rfl 1 (by decide) (ref := "ObjectMapper$Journal") (by decide +kernel) (Or.inl rfl) rfl dX2_note_26 ?_
    refine lv_iconst (v := 2) hx hb dX2_note_29 (by decide) ?_
    refine lv_aload_n hx hb dX2_note_30 rfl (lv_at hl 0 rfl) ?_
    refine m_get X iX2 hK hw hj9 rfl 0 (by decide) (ref := "ObjectMapper$Journal") (by decide +kernel) (Or.inl rfl) rfl dX2_note_31 ?_
    refine lv_imul hx hb dX2_note_34 ?_
    rw [show (2 : Int32) * nI (zW z) = nI (2 * (zW z)) from nI_mul 2 (zW z)]
    refine m_callSr X hK hw hZ hS hA (As := [.ref (yX y 8), .int (nI (2 * (zW z)))]) (rest := [.ref (ad 2)]) (c_copyOfI l G dce _ M (yX y 8) (zC z) (2 * zW z) (zJ z 0) h8 (by omega) (by omega)) (va_cwS 2 hts gX2_note_J7_copyOf_59c91 rfl rfl rfl (by decide +kernel) ⟨Nat.le_of_ble_eq_true rfl, Nat.le_of_ble_eq_true rfl⟩) rfl hl.1 rfl (Nat.le_of_ble_eq_true rfl) dX2_note_35 (by dsimp only; omega) (by dsimp only; omega) (fun r2 M1 H locs hp hw hS hz hk => ?_)
    obtain ⟨nr2, eM1⟩ := hp
    have k3 := (congrFun eM1 ((ad 2))).trans (mu_g hj9 (gM_nn nr2 hj9))
    have dk3 : (ad 2) ≠ r2 := gM_nn nr2 hj9
    have k4 := (congrFun eM1 ((yX y 8))).trans (mu_g h8 (gM_nn nr2 h8))
    have dk4 : (yX y 8) ≠ r2 := gM_nn nr2 h8
    have k5 := (congrFun eM1 ((yX y 9))).trans (mu_g h9 (gM_nn nr2 h9))
    have dk5 : (yX y 9) ≠ r2 := gM_nn nr2 h9
    have k6 : M1 r2 = some (.inl (G.2 0, 2 * zW z, .inl (va_cpy (zJ z 0) (fun _ => 0) 0 0 (zC z)))) := by rw [eM1]; exact mu_s _ _ _
    refine m_put X iX2 tyX2_ok nmX2 hK hw hS k3 rfl 1 (by decide) (ref := "ObjectMapper$Journal") (by decide +kernel) (Or.inl rfl) rfl (v := .ref r2) rfl rfl (Nat.le_of_ble_eq_true rfl) (fs1 := [.int (nI (zW z)), .ref r2, .ref (yX y 9)]) rfl dX2_note_38 (fun M7 H locs eM7 hw hS => ?_)
    have k8 : M7 ((ad 2)) = some (.inr (3, [.int (nI (zW z)), .ref r2, .ref (yX y 9)])) := by rw [eM7]; exact mu_s _ _ _
    have k9 := (congrFun eM7 ((yX y 8))).trans (mu_g k4 (gM_ne k4 k3 (by simp)))
    have k10 := (congrFun eM7 ((yX y 9))).trans (mu_g k5 (gM_ne k5 k3 (by simp)))
    have k11 := (congrFun eM7 r2).trans (mu_g k6 (Ne.symm dk3))
    refine lv_aload_n hx hb dX2_note_41 rfl (lv_at hl 0 rfl) ?_
    refine lv_aload_n hx hb dX2_note_42 rfl (lv_at hl 0 rfl) ?_
    refine m_get X iX2 hK hw k8 rfl 2 (by decide) (ref := "ObjectMapper$Journal") (by decide +kernel) (Or.inl rfl) rfl dX2_note_43 ?_
    refine lv_iconst (v := 2) hx hb dX2_note_46 (by decide) ?_
    refine lv_aload_n hx hb dX2_note_47 rfl (lv_at hl 0 rfl) ?_
    refine m_get X iX2 hK hw k8 rfl 0 (by decide) (ref := "ObjectMapper$Journal") (by decide +kernel) (Or.inl rfl) rfl dX2_note_48 ?_
    refine lv_imul hx hb dX2_note_51 ?_
    rw [show (2 : Int32) * nI (zW z) = nI (2 * (zW z)) from nI_mul 2 (zW z)]
    refine m_callSr X hK hw hZ hS hA (As := [.ref (yX y 9), .int (nI (2 * (zW z)))]) (rest := [.ref (ad 2)]) (c_copyOfI l G dce _ M7 (yX y 9) (zC z) (2 * zW z) (zJ z 1) k10 (by omega) (by omega)) (va_cwS 2 hts gX2_note_J7_copyOf_59c91 rfl rfl rfl (by decide +kernel) ⟨Nat.le_of_ble_eq_true rfl, Nat.le_of_ble_eq_true rfl⟩) rfl hl.1 rfl (Nat.le_of_ble_eq_true rfl) dX2_note_52 (by dsimp only; omega) (by dsimp only; omega) (fun r13 M12 H locs hp hw hS hz hk => ?_)
    obtain ⟨nr13, eM12⟩ := hp
    have k14 := (congrFun eM12 ((ad 2))).trans (mu_g k8 (gM_nn nr13 k8))
    have dk14 : (ad 2) ≠ r13 := gM_nn nr13 k8
    have k15 := (congrFun eM12 ((yX y 8))).trans (mu_g k9 (gM_nn nr13 k9))
    have dk15 : (yX y 8) ≠ r13 := gM_nn nr13 k9
    have k16 := (congrFun eM12 ((yX y 9))).trans (mu_g k10 (gM_nn nr13 k10))
    have dk16 : (yX y 9) ≠ r13 := gM_nn nr13 k10
    have k17 := (congrFun eM12 r2).trans (mu_g k11 (gM_nn nr13 k11))
    have dk17 : r2 ≠ r13 := gM_nn nr13 k11
    have k18 : M12 r13 = some (.inl (G.2 0, 2 * zW z, .inl (va_cpy (zJ z 1) (fun _ => 0) 0 0 (zC z)))) := by rw [eM12]; exact mu_s _ _ _
    have n0r13 : r13 ≠ r2 := Ne.symm dk17
    refine m_put X iX2 tyX2_ok nmX2 hK hw hS k14 rfl 2 (by decide) (ref := "ObjectMapper$Journal") (by decide +kernel) (Or.inl rfl) rfl (v := .ref r13) rfl rfl (Nat.le_of_ble_eq_true rfl) (fs1 := [.int (nI (zW z)), .ref r2, .ref r13]) rfl dX2_note_55 (fun M19 H locs eM19 hw hS => ?_)
    have k20 : M19 ((ad 2)) = some (.inr (3, [.int (nI (zW z)), .ref r2, .ref r13])) := by rw [eM19]; exact mu_s _ _ _
    have k21 := (congrFun eM19 ((yX y 8))).trans (mu_g k15 (gM_ne k15 k14 (by simp)))
    have k22 := (congrFun eM19 ((yX y 9))).trans (mu_g k16 (gM_ne k16 k14 (by simp)))
    have k23 := (congrFun eM19 r2).trans (mu_g k17 (Ne.symm dk3))
    have k24 := (congrFun eM19 r13).trans (mu_g k18 (Ne.symm dk14))
    refine lv_aload_n hx hb dX2_note_58 rfl (lv_at hl 0 rfl) ?_
    refine m_get X iX2 hK hw k20 rfl 1 (by decide) (ref := "ObjectMapper$Journal") (by decide +kernel) (Or.inl rfl) rfl dX2_note_59 ?_
    refine lv_aload_n hx hb dX2_note_62 rfl (lv_at hl 0 rfl) ?_
    refine m_get X iX2 hK hw k20 rfl 0 (by decide) (ref := "ObjectMapper$Journal") (by decide +kernel) (Or.inl rfl) rfl dX2_note_63 ?_
    refine lv_iload_n hx hb dX2_note_66 rfl (lv_at hl 1 rfl) ?_
    refine m_iast X hK hw hS k23 (i := nI (zW z)) (x := ac) (vp_in_nI (by omega) (by omega)) dX2_note_67 (fun M25 H locs eM25 hw hS => ?_)
    rw [nI_clamp (by omega)] at eM25
    have k26 := (congrFun eM25 ((ad 2))).trans (mu_g k20 dk3)
    have k27 := (congrFun eM25 ((yX y 8))).trans (mu_g k21 dk4)
    have k28 := (congrFun eM25 ((yX y 9))).trans (mu_g k22 dk5)
    have k29 : M25 r2 = some (.inl (G.2 0, (2 * zW z), .inl (upd (va_cpy (zJ z 0) (fun _ => 0) 0 0 (zC z)) (zW z) ac))) := by rw [eM25]; exact mu_s _ _ _
    have k30 := (congrFun eM25 r13).trans (mu_g k24 (Ne.symm dk17))
    refine lv_aload_n hx hb dX2_note_68 rfl (lv_at hl 0 rfl) ?_
    refine m_get X iX2 hK hw k26 rfl 2 (by decide) (ref := "ObjectMapper$Journal") (by decide +kernel) (Or.inl rfl) rfl dX2_note_69 ?_
    refine lv_aload_n hx hb dX2_note_72 rfl (lv_at hl 0 rfl) ?_
    refine m_get X iX2 hK hw k26 rfl 0 (by decide) (ref := "ObjectMapper$Journal") (by decide +kernel) (Or.inl rfl) rfl dX2_note_73 ?_
    refine lv_iconst (v := 2) hx hb dX2_note_76 (by decide) ?_
    refine lv_iload_n hx hb dX2_note_77 rfl (lv_at hl 3 rfl) ?_
    refine lv_imul hx hb dX2_note_78 ?_
    rw [show (2 : Int32) * nI j = nI (2 * j) from nI_mul 2 j]
    refine lv_iload_n hx hb dX2_note_79 rfl (lv_at hl 2 rfl) ?_
    refine lv_iconst (v := 1) hx hb dX2_note_80 (by decide) ?_
    refine lv_icmp_ne (tgt := 88) hx hb dX2_note_81 (by decide) (fun c_81 => ?_) (fun c_81 => ?_)
    · have hk1 : k = 0 := by
        rcases (show k = 0 ∨ k = 1 by omega) with h7 | h7
        · exact h7
        · rw [h7] at c_81; exact absurd (by decide) c_81
      refine lv_iconst (v := 0) hx hb dX2_note_88 (by decide) ?_
      refine lv_iadd hx hb dX2_note_89 ?_
      rw [show nI (2 * j) + (0 : Int32) = nI (2 * j + k) from by rw [hk1]; exact nI_add (2 * j) 0]
      refine m_iast X hK hw hS k30 (i := nI (zW z)) (x := (nI (2 * j + k))) (vp_in_nI (by omega) (by omega)) dX2_note_90 (fun M31 H locs eM31 hw hS => ?_)
      rw [nI_clamp (by omega)] at eM31
      have k32 := (congrFun eM31 ((ad 2))).trans (mu_g k26 dk14)
      have k33 := (congrFun eM31 ((yX y 8))).trans (mu_g k27 dk15)
      have k34 := (congrFun eM31 ((yX y 9))).trans (mu_g k28 dk16)
      have k35 := (congrFun eM31 r2).trans (mu_g k29 dk17)
      have k36 : M31 r13 = some (.inl (G.2 0, (2 * zW z), .inl (upd (va_cpy (zJ z 1) (fun _ => 0) 0 0 (zC z)) (zW z) (nI (2 * j + k))))) := by rw [eM31]; exact mu_s _ _ _
      refine lv_aload_n hx hb dX2_note_91 rfl (lv_at hl 0 rfl) ?_
      refine lv_dup hx hb dX2_note_92 rfl ?_
      refine m_get X iX2 hK hw k32 rfl 0 (by decide) (ref := "ObjectMapper$Journal") (by decide +kernel) (Or.inl rfl) rfl dX2_note_93 ?_
      refine lv_iconst (v := 1) hx hb dX2_note_96 (by decide) ?_
      refine lv_iadd hx hb dX2_note_97 ?_
      rw [nI_1]
      refine m_put X iX2 tyX2_ok nmX2 hK hw hS k32 rfl 0 (by decide) (ref := "ObjectMapper$Journal") (by decide +kernel) (Or.inl rfl) rfl (v := .int (nI (zW z + 1))) rfl rfl (Nat.le_of_ble_eq_true rfl) (fs1 := [.int (nI (zW z + 1)), .ref r2, .ref r13]) rfl dX2_note_98 (fun M37 H locs eM37 hw hS => ?_)
      have k38 : M37 ((ad 2)) = some (.inr (3, [.int (nI (zW z + 1)), .ref r2, .ref r13])) := by rw [eM37]; exact mu_s _ _ _
      have k39 := (congrFun eM37 ((yX y 8))).trans (mu_g k33 (gM_ne k33 k32 (by simp)))
      have k40 := (congrFun eM37 ((yX y 9))).trans (mu_g k34 (gM_ne k34 k32 (by simp)))
      have k41 := (congrFun eM37 r2).trans (mu_g k35 (Ne.symm dk3))
      have k42 := (congrFun eM37 r13).trans (mu_g k36 (Ne.symm dk14))
      have d2a : r2 ≠ ad 2 := (Ne.symm dk3)
      have d2b : r13 ≠ ad 2 := (Ne.symm dk14)
      have d98 : r13 ≠ r2 := n0r13
      have eQ : M37 = mu (mu (mu M r2 (oI G (2 * zW z) (upd (va_cpy (zJ z 0) (fun _ => 0) 0 0 (zC z)) (zW z) ac))) r13 (oI G (2 * zW z) (upd (va_cpy (zJ z 1) (fun _ => 0) 0 0 (zC z)) (zW z) (nI (2 * j + k))))) (ad 2) (oJ (nI (zW z + 1)) r2 r13) := by
        rw [eM37, eM31, eM25, eM19, eM12, eM7, eM1]
        funext w
        by_cases w1 : w = ad 2
        · subst w1; simp [mu, oJ]
        · by_cases w2 : w = r13
          · subst w2; simp [mu, w1, d98, oI]
          · by_cases w3 : w = r2
            · subst w3; simp [mu, w1, w2, oI]
            · simp [mu, w1, w2, w3]
      have nn8 : M r2 = none := nr2
      have nn9 : M r13 = none := by
        have h7 := nr13
        rw [eM7, mu_n d2b, eM1, mu_n d98] at h7
        exact h7
      obtain ⟨hcz, hsz⟩ := hcw.jrn (q8 := r2) (q9 := r13) (c := 2 * zW z) (Or.inr nn8) (Or.inr nn9) (Ne.symm d98) ⟨by omega, by omega, by omega⟩ eQ
      have ez : (zN z, zR z, zE z, zW z + 1, (fun a : Nat => if a = 0 then (upd (va_cpy (zJ z 0) (fun _ => 0) 0 0 (zC z)) (zW z) ac) else (upd (va_cpy (zJ z 1) (fun _ => 0) 0 0 (zC z)) (zW z) (nI (2 * j + k)))), (2 * zW z)) = kNo ac k j z := by
        unfold kNo jBase
        rw [if_neg (show ¬ zW z < zC z by omega), if_neg (show ¬ zW z < zC z by omega), if_neg (show ¬ zW z < zC z by omega), show zC z + zW z = 2 * zW z by omega]
      rw [ez] at hcz hsz
      exact m_vret X hK hw hS ⟨yJr y r2 r13, rfl, hcz, hsz⟩ (by omega) (by omega) dX2_note_101
    · have hk1 : k = 1 := (nI_eq (a := k) (b := 1) (by omega) (by decide)).mp (by first | exact c_81 | exact Classical.not_not.mp c_81)
      refine lv_iconst (v := 1) hx hb dX2_note_84 (by decide) ?_
      refine lv_goto (tgt := 89) hx hb dX2_note_85 (by decide) ?_
      refine lv_iadd hx hb dX2_note_89 ?_
      rw [show nI (2 * j) + (1 : Int32) = nI (2 * j + k) from by rw [hk1]; exact nI_add (2 * j) 1]
      refine m_iast X hK hw hS k30 (i := nI (zW z)) (x := (nI (2 * j + k))) (vp_in_nI (by omega) (by omega)) dX2_note_90 (fun M43 H locs eM43 hw hS => ?_)
      rw [nI_clamp (by omega)] at eM43
      have k44 := (congrFun eM43 ((ad 2))).trans (mu_g k26 dk14)
      have k45 := (congrFun eM43 ((yX y 8))).trans (mu_g k27 dk15)
      have k46 := (congrFun eM43 ((yX y 9))).trans (mu_g k28 dk16)
      have k47 := (congrFun eM43 r2).trans (mu_g k29 dk17)
      have k48 : M43 r13 = some (.inl (G.2 0, (2 * zW z), .inl (upd (va_cpy (zJ z 1) (fun _ => 0) 0 0 (zC z)) (zW z) (nI (2 * j + k))))) := by rw [eM43]; exact mu_s _ _ _
      refine lv_aload_n hx hb dX2_note_91 rfl (lv_at hl 0 rfl) ?_
      refine lv_dup hx hb dX2_note_92 rfl ?_
      refine m_get X iX2 hK hw k44 rfl 0 (by decide) (ref := "ObjectMapper$Journal") (by decide +kernel) (Or.inl rfl) rfl dX2_note_93 ?_
      refine lv_iconst (v := 1) hx hb dX2_note_96 (by decide) ?_
      refine lv_iadd hx hb dX2_note_97 ?_
      rw [nI_1]
      refine m_put X iX2 tyX2_ok nmX2 hK hw hS k44 rfl 0 (by decide) (ref := "ObjectMapper$Journal") (by decide +kernel) (Or.inl rfl) rfl (v := .int (nI (zW z + 1))) rfl rfl (Nat.le_of_ble_eq_true rfl) (fs1 := [.int (nI (zW z + 1)), .ref r2, .ref r13]) rfl dX2_note_98 (fun M49 H locs eM49 hw hS => ?_)
      have k50 : M49 ((ad 2)) = some (.inr (3, [.int (nI (zW z + 1)), .ref r2, .ref r13])) := by rw [eM49]; exact mu_s _ _ _
      have k51 := (congrFun eM49 ((yX y 8))).trans (mu_g k45 (gM_ne k45 k44 (by simp)))
      have k52 := (congrFun eM49 ((yX y 9))).trans (mu_g k46 (gM_ne k46 k44 (by simp)))
      have k53 := (congrFun eM49 r2).trans (mu_g k47 (Ne.symm dk3))
      have k54 := (congrFun eM49 r13).trans (mu_g k48 (Ne.symm dk14))
      have d2a : r2 ≠ ad 2 := (Ne.symm dk3)
      have d2b : r13 ≠ ad 2 := (Ne.symm dk14)
      have d98 : r13 ≠ r2 := n0r13
      have eQ : M49 = mu (mu (mu M r2 (oI G (2 * zW z) (upd (va_cpy (zJ z 0) (fun _ => 0) 0 0 (zC z)) (zW z) ac))) r13 (oI G (2 * zW z) (upd (va_cpy (zJ z 1) (fun _ => 0) 0 0 (zC z)) (zW z) (nI (2 * j + k))))) (ad 2) (oJ (nI (zW z + 1)) r2 r13) := by
        rw [eM49, eM43, eM25, eM19, eM12, eM7, eM1]
        funext w
        by_cases w1 : w = ad 2
        · subst w1; simp [mu, oJ]
        · by_cases w2 : w = r13
          · subst w2; simp [mu, w1, d98, oI]
          · by_cases w3 : w = r2
            · subst w3; simp [mu, w1, w2, oI]
            · simp [mu, w1, w2, w3]
      have nn8 : M r2 = none := nr2
      have nn9 : M r13 = none := by
        have h7 := nr13
        rw [eM7, mu_n d2b, eM1, mu_n d98] at h7
        exact h7
      obtain ⟨hcz, hsz⟩ := hcw.jrn (q8 := r2) (q9 := r13) (c := 2 * zW z) (Or.inr nn8) (Or.inr nn9) (Ne.symm d98) ⟨by omega, by omega, by omega⟩ eQ
      have ez : (zN z, zR z, zE z, zW z + 1, (fun a : Nat => if a = 0 then (upd (va_cpy (zJ z 0) (fun _ => 0) 0 0 (zC z)) (zW z) ac) else (upd (va_cpy (zJ z 1) (fun _ => 0) 0 0 (zC z)) (zW z) (nI (2 * j + k)))), (2 * zW z)) = kNo ac k j z := by
        unfold kNo jBase
        rw [if_neg (show ¬ zW z < zC z by omega), if_neg (show ¬ zW z < zC z by omega), if_neg (show ¬ zW z < zC z by omega), show zC z + zW z = 2 * zW z by omega]
      rw [ez] at hcz hsz
      exact m_vret X hK hw hS ⟨yJr y r2 r13, rfl, hcz, hsz⟩ (by omega) (by omega) dX2_note_101
  · exact (by exfalso; exact absurd (nI_le (a := zC z) (b := zW z) (by omega) (by omega)) c_9)
set_option maxHeartbeats 4000000 in
set_option maxRecDepth 100000 in
theorem c_note_fast (l : Launch) (G : gG) (dce sz : Nat) (M : gM) (x : Nat) (ad : Nat → Nat) (y : cY) (z : cZ) (hcw : CW G dce x ad M y z) (k j : Nat) (hk2 : k < 2) (ac : Int32) (hwc : zW z < zC z) (kc ks : Nat) : mV l yX2_note wsX2_note ({ frames := 2, cells := kc, slots := ks, locals := 72 }) G dce sz M [.ref (ad 2), .int ac, .int (nI k), .int (nI j)] (fun M' => cTo G dce x ad M y z M' (kNo ac k j z)) (kc) (ks) := by
  have hj9 : M (ad 2) = some (.inr (3, [.int (nI (zW z)), .ref (yX y 8), .ref (yX y 9)])) := hcw.2.2.2.1.1
  have h8 : M (yX y 8) = some (.inl (G.2 0, zC z, .inl (zJ z 0))) := hcw.2.2.2.1.2.1.1
  have h9 : M (yX y 9) = some (.inl (G.2 0, zC z, .inl (zJ z 1))) := hcw.2.2.2.1.2.1.2.1
  have hcc := hcw.2.2.2.1.2.1.2.2
  have h89 : yX y 8 ≠ yX y 9 := hcw.2.2.2.1.2.2
  refine wMet (Qc := QV G _) (cc := cX2_note) (maxL := 4) (ret := none) (by decide) rfl (Nat.le_of_ble_eq_true rfl) ?_
  intro p e s m below meth c A ls X hnm hw hK hZ hA hS hsz eA hl
  obtain ⟨hx, hb, hr, hts, hown, hlk, hml⟩ := id X
  have hl : lv_has ls 4 [(0, .ref (ad 2)), (1, .int ac), (2, .int (nI k)), (3, .int (nI j))] := hl
  have iX2 : ∀ w ∈ wsX20, w ∈ wsX2_note := by decide +kernel
  refine lv_aload_n hx hb dX2_note_0 rfl (lv_at hl 0 rfl) ?_
  refine m_get X iX2 hK hw hj9 rfl 0 (by decide) (ref := "ObjectMapper$Journal") (by decide +kernel) (Or.inl rfl) rfl dX2_note_1 ?_
  refine lv_aload_n hx hb dX2_note_4 rfl (lv_at hl 0 rfl) ?_
  refine m_get X iX2 hK hw hj9 rfl 1 (by decide) (ref := "ObjectMapper$Journal") (by decide +kernel) (Or.inl rfl) rfl dX2_note_5 ?_
  refine m_alen X hK hw h8 0 rfl dX2_note_8 ?_
  refine W.eq (g2 := F0 m 9 ls [.int (nI (zC z)), .int (nI (zW z))]) rfl ?_
  refine lv_icmp_ge (tgt := 24) hx hb dX2_note_9 (by decide) (fun c_9 => ?_) (fun c_9 => ?_)
  · exact (by exfalso; first | exact absurd ((nI_leI (by omega) (by omega)).mp c_9) (by omega) | exact c_21 (nI_lt (by omega) (by omega)))
  · refine lv_aload_n hx hb dX2_note_12 rfl (lv_at hl 0 rfl) ?_
    refine m_get X iX2 hK hw hj9 rfl 0 (by decide) (ref := "ObjectMapper$Journal") (by decide +kernel) (Or.inl rfl) rfl dX2_note_13 ?_
    refine lv_aload_n hx hb dX2_note_16 rfl (lv_at hl 0 rfl) ?_
    refine m_get X iX2 hK hw hj9 rfl 2 (by decide) (ref := "ObjectMapper$Journal") (by decide +kernel) (Or.inl rfl) rfl dX2_note_17 ?_
    refine m_alen X hK hw h9 0 rfl dX2_note_20 ?_
    refine W.eq (g2 := F0 m 21 ls [.int (nI (zC z)), .int (nI (zW z))]) rfl ?_
    refine lv_icmp_lt (tgt := 58) hx hb dX2_note_21 (by decide) (fun c_21 => ?_) (fun c_21 => ?_)
    · refine lv_aload_n hx hb dX2_note_58 rfl (lv_at hl 0 rfl) ?_
      refine m_get X iX2 hK hw hj9 rfl 1 (by decide) (ref := "ObjectMapper$Journal") (by decide +kernel) (Or.inl rfl) rfl dX2_note_59 ?_
      refine lv_aload_n hx hb dX2_note_62 rfl (lv_at hl 0 rfl) ?_
      refine m_get X iX2 hK hw hj9 rfl 0 (by decide) (ref := "ObjectMapper$Journal") (by decide +kernel) (Or.inl rfl) rfl dX2_note_63 ?_
      refine lv_iload_n hx hb dX2_note_66 rfl (lv_at hl 1 rfl) ?_
      refine m_iast X hK hw hS h8 (i := nI (zW z)) (x := ac) (vp_in_nI (by omega) (by omega)) dX2_note_67 (fun M1 H locs eM1 hw hS => ?_)
      rw [nI_clamp (by omega)] at eM1
      have k2 := (congrFun eM1 ((ad 2))).trans (mu_g hj9 (gM_ne hj9 h8 (by simp)))
      have k3 : M1 (yX y 8) = some (.inl (G.2 0, (zC z), .inl (upd (zJ z 0) (zW z) ac))) := by rw [eM1]; exact mu_s _ _ _
      have k4 := (congrFun eM1 ((yX y 9))).trans (mu_g h9 (Ne.symm h89))
      refine lv_aload_n hx hb dX2_note_68 rfl (lv_at hl 0 rfl) ?_
      refine m_get X iX2 hK hw k2 rfl 2 (by decide) (ref := "ObjectMapper$Journal") (by decide +kernel) (Or.inl rfl) rfl dX2_note_69 ?_
      refine lv_aload_n hx hb dX2_note_72 rfl (lv_at hl 0 rfl) ?_
      refine m_get X iX2 hK hw k2 rfl 0 (by decide) (ref := "ObjectMapper$Journal") (by decide +kernel) (Or.inl rfl) rfl dX2_note_73 ?_
      refine lv_iconst (v := 2) hx hb dX2_note_76 (by decide) ?_
      refine lv_iload_n hx hb dX2_note_77 rfl (lv_at hl 3 rfl) ?_
      refine lv_imul hx hb dX2_note_78 ?_
      rw [show (2 : Int32) * nI j = nI (2 * j) from nI_mul 2 j]
      refine lv_iload_n hx hb dX2_note_79 rfl (lv_at hl 2 rfl) ?_
      refine lv_iconst (v := 1) hx hb dX2_note_80 (by decide) ?_
      refine lv_icmp_ne (tgt := 88) hx hb dX2_note_81 (by decide) (fun c_81 => ?_) (fun c_81 => ?_)
      · have hk1 : k = 0 := by
          rcases (show k = 0 ∨ k = 1 by omega) with h7 | h7
          · exact h7
          · rw [h7] at c_81; exact absurd (by decide) c_81
        refine lv_iconst (v := 0) hx hb dX2_note_88 (by decide) ?_
        refine lv_iadd hx hb dX2_note_89 ?_
        rw [show nI (2 * j) + (0 : Int32) = nI (2 * j + k) from by rw [hk1]; exact nI_add (2 * j) 0]
        refine m_iast X hK hw hS k4 (i := nI (zW z)) (x := (nI (2 * j + k))) (vp_in_nI (by omega) (by omega)) dX2_note_90 (fun M5 H locs eM5 hw hS => ?_)
        rw [nI_clamp (by omega)] at eM5
        have k6 := (congrFun eM5 ((ad 2))).trans (mu_g k2 (gM_ne k2 k4 (by simp)))
        have k7 := (congrFun eM5 ((yX y 8))).trans (mu_g k3 h89)
        have k8 : M5 (yX y 9) = some (.inl (G.2 0, (zC z), .inl (upd (zJ z 1) (zW z) (nI (2 * j + k))))) := by rw [eM5]; exact mu_s _ _ _
        refine lv_aload_n hx hb dX2_note_91 rfl (lv_at hl 0 rfl) ?_
        refine lv_dup hx hb dX2_note_92 rfl ?_
        refine m_get X iX2 hK hw k6 rfl 0 (by decide) (ref := "ObjectMapper$Journal") (by decide +kernel) (Or.inl rfl) rfl dX2_note_93 ?_
        refine lv_iconst (v := 1) hx hb dX2_note_96 (by decide) ?_
        refine lv_iadd hx hb dX2_note_97 ?_
        rw [nI_1]
        refine m_put X iX2 tyX2_ok nmX2 hK hw hS k6 rfl 0 (by decide) (ref := "ObjectMapper$Journal") (by decide +kernel) (Or.inl rfl) rfl (v := .int (nI (zW z + 1))) rfl rfl (Nat.le_of_ble_eq_true rfl) (fs1 := [.int (nI (zW z + 1)), .ref (yX y 8), .ref (yX y 9)]) rfl dX2_note_98 (fun M9 H locs eM9 hw hS => ?_)
        have k10 : M9 ((ad 2)) = some (.inr (3, [.int (nI (zW z + 1)), .ref (yX y 8), .ref (yX y 9)])) := by rw [eM9]; exact mu_s _ _ _
        have k11 := (congrFun eM9 ((yX y 8))).trans (mu_g k7 (gM_ne k7 k6 (by simp)))
        have k12 := (congrFun eM9 ((yX y 9))).trans (mu_g k8 (gM_ne k8 k6 (by simp)))
        have eQ : M9 = mu (mu (mu M (yX y 8) (oI G (zC z) (upd (zJ z 0) (zW z) ac))) (yX y 9) (oI G (zC z) (upd (zJ z 1) (zW z) (nI (2 * j + k))))) (ad 2) (oJ (nI (zW z + 1)) (yX y 8) (yX y 9)) := by rw [eM9, eM5, eM1]; rfl
        obtain ⟨hcz, hsz⟩ := hcw.jrn (q8 := yX y 8) (q9 := yX y 9) (c := zC z) (Or.inl rfl) (Or.inl rfl) h89 ⟨hcc.1, by omega, hcc.2.2⟩ eQ
        have ez : (zN z, zR z, zE z, zW z + 1, (fun a : Nat => if a = 0 then (upd (zJ z 0) (zW z) ac) else (upd (zJ z 1) (zW z) (nI (2 * j + k)))), (zC z)) = kNo ac k j z := by
          unfold kNo jBase
          rw [if_pos hwc, if_pos hwc, if_pos hwc]
        rw [ez] at hcz hsz
        exact m_vret X hK hw hS ⟨yJr y (yX y 8) (yX y 9), rfl, hcz, hsz⟩ (by omega) (by omega) dX2_note_101
      · have hk1 : k = 1 := (nI_eq (a := k) (b := 1) (by omega) (by decide)).mp (by first | exact c_81 | exact Classical.not_not.mp c_81)
        refine lv_iconst (v := 1) hx hb dX2_note_84 (by decide) ?_
        refine lv_goto (tgt := 89) hx hb dX2_note_85 (by decide) ?_
        refine lv_iadd hx hb dX2_note_89 ?_
        rw [show nI (2 * j) + (1 : Int32) = nI (2 * j + k) from by rw [hk1]; exact nI_add (2 * j) 1]
        refine m_iast X hK hw hS k4 (i := nI (zW z)) (x := (nI (2 * j + k))) (vp_in_nI (by omega) (by omega)) dX2_note_90 (fun M13 H locs eM13 hw hS => ?_)
        rw [nI_clamp (by omega)] at eM13
        have k14 := (congrFun eM13 ((ad 2))).trans (mu_g k2 (gM_ne k2 k4 (by simp)))
        have k15 := (congrFun eM13 ((yX y 8))).trans (mu_g k3 h89)
        have k16 : M13 (yX y 9) = some (.inl (G.2 0, (zC z), .inl (upd (zJ z 1) (zW z) (nI (2 * j + k))))) := by rw [eM13]; exact mu_s _ _ _
        refine lv_aload_n hx hb dX2_note_91 rfl (lv_at hl 0 rfl) ?_
        refine lv_dup hx hb dX2_note_92 rfl ?_
        refine m_get X iX2 hK hw k14 rfl 0 (by decide) (ref := "ObjectMapper$Journal") (by decide +kernel) (Or.inl rfl) rfl dX2_note_93 ?_
        refine lv_iconst (v := 1) hx hb dX2_note_96 (by decide) ?_
        refine lv_iadd hx hb dX2_note_97 ?_
        rw [nI_1]
        refine m_put X iX2 tyX2_ok nmX2 hK hw hS k14 rfl 0 (by decide) (ref := "ObjectMapper$Journal") (by decide +kernel) (Or.inl rfl) rfl (v := .int (nI (zW z + 1))) rfl rfl (Nat.le_of_ble_eq_true rfl) (fs1 := [.int (nI (zW z + 1)), .ref (yX y 8), .ref (yX y 9)]) rfl dX2_note_98 (fun M17 H locs eM17 hw hS => ?_)
        have k18 : M17 ((ad 2)) = some (.inr (3, [.int (nI (zW z + 1)), .ref (yX y 8), .ref (yX y 9)])) := by rw [eM17]; exact mu_s _ _ _
        have k19 := (congrFun eM17 ((yX y 8))).trans (mu_g k15 (gM_ne k15 k14 (by simp)))
        have k20 := (congrFun eM17 ((yX y 9))).trans (mu_g k16 (gM_ne k16 k14 (by simp)))
        have eQ : M17 = mu (mu (mu M (yX y 8) (oI G (zC z) (upd (zJ z 0) (zW z) ac))) (yX y 9) (oI G (zC z) (upd (zJ z 1) (zW z) (nI (2 * j + k))))) (ad 2) (oJ (nI (zW z + 1)) (yX y 8) (yX y 9)) := by rw [eM17, eM13, eM1]; rfl
        obtain ⟨hcz, hsz⟩ := hcw.jrn (q8 := yX y 8) (q9 := yX y 9) (c := zC z) (Or.inl rfl) (Or.inl rfl) h89 ⟨hcc.1, by omega, hcc.2.2⟩ eQ
        have ez : (zN z, zR z, zE z, zW z + 1, (fun a : Nat => if a = 0 then (upd (zJ z 0) (zW z) ac) else (upd (zJ z 1) (zW z) (nI (2 * j + k)))), (zC z)) = kNo ac k j z := by
          unfold kNo jBase
          rw [if_pos hwc, if_pos hwc, if_pos hwc]
        rw [ez] at hcz hsz
        exact m_vret X hK hw hS ⟨yJr y (yX y 8) (yX y 9), rfl, hcz, hsz⟩ (by omega) (by omega) dX2_note_101
    · exact (by exfalso; first | exact absurd ((nI_leI (by omega) (by omega)).mp c_9) (by omega) | exact c_21 (nI_lt (by omega) (by omega)))
theorem c_note (l : Launch) (G : gG) (dce sz : Nat) (M : gM) (x : Nat) (ad : Nat → Nat) (y : cY) (z : cZ) (hcw : CW G dce x ad M y z) (k j : Nat) (hk2 : k < 2) (ac : Int32) (hw9 : zW z < 16384) (kc ks : Nat) (hkk : zW z < zC z ∨ (2 ≤ kc ∧ 4 * zW z ≤ ks)) : mV l yX2_note wsX2_note ({ frames := 2, cells := kc, slots := ks, locals := 72 }) G dce sz M [.ref (ad 2), .int ac, .int (nI k), .int (nI j)] (fun M' => cTo G dce x ad M y z M' (kNo ac k j z)) (kc) (ks) := by
  by_cases hwc : zW z < zC z
  · exact c_note_fast l G dce sz M x ad y z hcw k j hk2 ac hwc kc ks
  · have := hcw.2.2.2.1.2.1.2.2
    rcases hkk with h | ⟨h1, h2⟩
    · exact absurd h hwc
    · exact c_note_slow l G dce sz M x ad y z hcw k j hk2 ac (by omega) hw9 kc ks h1 h2
