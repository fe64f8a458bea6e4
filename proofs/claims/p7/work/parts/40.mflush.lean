def allN (p : Nat → Bool) : Nat → Bool
  | 0 => true
  | n + 1 => allN p n && p n
theorem allN_of {p : Nat → Bool} {n : Nat} : allN p n = true ↔ ∀ k, k < n → p k = true := by
  induction n with
  | zero => exact ⟨fun _ k hk => absurd hk (Nat.not_lt_zero k), fun _ => rfl⟩
  | succ n ih =>
    show (allN p n && p n) = true ↔ _
    rw [Bool.and_eq_true, ih]
    constructor
    · intro h k hk
      by_cases e : k = n
      · rw [e]; exact h.2
      · exact h.1 k (by omega)
    · intro h
      exact ⟨fun k hk => h k (by omega), h n (by omega)⟩
/-- the rows that a session changes are there; which rows there will be -/
def mTh (w : mW) (i k j : Nat) : Bool := (mHr w k (nI j) && decide (rdT w 5 (rP k j) = rdT w 13 (aP i k j))) || (!mGn w i k j && !mDr w i k j)
def mWb (i k j : Nat) (w : mW) : mW := mS w 6 (rP k j) (bI (mMd w i k j || (mHr w k (nI j) && !mGn w i k j)))
theorem mWb_K (i k j : Nat) (w : mW) : rdK (mWb i k j w) = rdK w := rfl
theorem itm_T {F : Nat → mW → mW} {a : Nat} (h : ∀ j w, rdT (F j w) a = rdT w a) (n : Nat) (w : mW) : rdT (itm F n w) a = rdT w a := by
  induction n with
  | zero => rfl
  | succ n ih => exact (h n _).trans ih
/-- alike but for what will be, and the place of the throw -/
def mLk (w w1 : mW) : Prop := rdK w1 = rdK w ∧ rdN w1 = rdN w ∧ ∀ a, a ≠ 6 → rdT w1 a = rdT w a
theorem mLk.rf {w : mW} : mLk w w := ⟨rfl, rfl, fun _ _ => rfl⟩
theorem mLk.tr {w w1 w2 : mW} (h : mLk w w1) (h2 : mLk w1 w2) : mLk w w2 := ⟨h2.1.trans h.1, h2.2.1.trans h.2.1, fun a ha => (h2.2.2 a ha).trans (h.2.2 a ha)⟩
theorem mLk.wb {i k j : Nat} {w : mW} : mLk w (mWb i k j w) := ⟨rfl, rfl, fun _ ha => rdT_o ha⟩
theorem mLk.it {i k n : Nat} {w : mW} : mLk w (itm (mWb i k) n w) := by
  induction n with
  | zero => exact mLk.rf
  | succ n ih => exact ih.tr mLk.wb
theorem mLk.Hr {w w1 : mW} (h : mLk w w1) : mHr w1 = mHr w := by
  funext k ky
  unfold mHr
  rw [h.1, h.2.2 2 (by decide)]
theorem mLk.Kn {w w1 : mW} (h : mLk w w1) : mKn w1 = mKn w := by
  funext i k ky
  unfold mKn
  rw [h.1, h.2.2 7 (by decide), h.2.2 8 (by decide)]
theorem mLk.Md {w w1 : mW} (h : mLk w w1) : mMd w1 = mMd w := by
  funext i k j
  unfold mMd
  rw [h.2.2 7 (by decide)]
theorem mLk.Gn {w w1 : mW} (h : mLk w w1) : mGn w1 = mGn w := by
  funext i k j
  unfold mGn
  rw [h.2.2 7 (by decide), h.2.2 8 (by decide)]
theorem mLk.Dr {w w1 : mW} (h : mLk w w1) : mDr w1 = mDr w := by
  funext i k j
  unfold mDr
  rw [h.Kn, h.2.2 7 (by decide), h.2.2 9 (by decide), h.2.2 10 (by decide), h.2.2 11 (by decide), h.2.2 12 (by decide)]
theorem mLk.Th {w w1 : mW} (h : mLk w w1) : mTh w1 = mTh w := by
  funext i k j
  unfold mTh
  rw [h.Hr, h.Gn, h.Dr, h.2.2 5 (by decide), h.2.2 13 (by decide)]
def mWbs (i : Nat) (w : mW) : mW := itm (mWb i 1) (rdK w 1) (itm (mWb i 0) (rdK w 0) w)
theorem mWbs_L {i : Nat} {w : mW} : mLk w (mWbs i w) := mLk.tr mLk.it mLk.it
def mThs (w : mW) (i : Nat) : Bool := allN (mTh w i 1) (rdK w 1) && (allN (mTh w i 0) (rdK w 0) && true)
set_option maxHeartbeats 4000000 in
set_option maxRecDepth 100000 in
theorem c_areThere (l : Launch) (G : gG) (dce sz : Nat) (M : gM) (x : Nat) (ad : Nat → Nat) (w : mW) (hm : MW G M x ad w) (i : Nat) (hi : i < 3) : mI l yX7_areThere wsX7_areThere ({ frames := 3, cells := 0, slots := 0, locals := 69 }) G dce sz M [.ref x, .int (nI i)] (fun r M' => r = bI (mThs w i) ∧ MW G M' x ad (mWbs i w) ∧ mFr x ad M M') (0) (0) := by
  have hx0 : M x = some (.inr (8, [.int (rdH w), .ref (ad 1), .ref (ad 2), .ref (ad 3), .ref (ad 4), .ref (ad 5), .ref (ad 6), .ref (ad 7), .ref (ad 8), .ref (ad 9), .ref (ad 10), .ref (ad 11), .ref (ad 12), .ref (ad 13), .int (nI (rdN w)), .ref (ad 15)])) := hm.1
  refine wMet (Qc := QI G _) (cc := cX7_areThere) (maxL := 7) (ret := (some .boolean)) (by decide) rfl (Nat.le_of_ble_eq_true rfl) ?_
  intro p e s m below meth c A ls X hnm hw hK hZ hA hS hsz eA hl
  obtain ⟨hx, hb, hr, hts, hown, hlk, hml⟩ := id X
  have hl : lv_has ls 7 [(0, .ref x), (1, .int (nI i))] := hl
  have iX7 : ∀ w ∈ wsX70, w ∈ wsX7_areThere := by decide +kernel
  refine lv_iconst (v := 1) hx hb dX7_areThere_0 (by decide) ?_
  refine lv_istore_n (lv' := [(2, .int (bI true)), (0, .ref x), (1, .int (nI i))]) hx hb dX7_areThere_1 rfl hl (by decide) rfl (fun ls hl => ?_)
  refine lv_iconst (v := 0) hx hb dX7_areThere_2 (by decide) ?_
  refine lv_istore_n (lv' := [(3, .int 0), (2, .int (bI true)), (0, .ref x), (1, .int (nI i))]) hx hb dX7_areThere_3 rfl hl (by decide) rfl (fun ls hl => ?_)
  refine lv_iload_n hx hb dX7_areThere_4 rfl (lv_at hl 0 rfl) ?_
  refine lv_iconst (v := 1) hx hb dX7_areThere_5 (by decide) ?_
  refine lv_icmp_gt (tgt := 161) hx hb dX7_areThere_6 (by decide) (fun c_6 => absurd c_6 (by decide)) (fun _ => ?_)
  refine lv_iconst (v := 0) hx hb dX7_areThere_9 (by decide) ?_
  refine lv_istore (lv' := [(4, .int (nI 0)), (3, .int 0), (2, .int (bI true)), (0, .ref x), (1, .int (nI i))]) hx hb dX7_areThere_10 hl (by decide) rfl (fun ls hl => ?_)
  have hl : lv_has ls 7 [(4, .int (nI 0)), (3, .int 0), (2, .int (bI (allN (mTh w i 0) 0 && true))), (0, .ref x), (1, .int (nI i))] := hl
  have loopa : ∀ (d : Nat) (ja : Nat) (wa : mW) (Ma : gM) (H : Heap) (locs : List Loc) (ls : Array Slot), ja ≤ rdK w 0 → rdK w 0 + 1 ≤ ja + d → wa = itm (mWb i 0) ja w → MW G Ma x ad wa → mFr x ad M Ma → wd G A Ma H → va_S A s.heap H locs → lv_has ls 7 [(4, .int (nI ja)), (2, .int (bI (allN (mTh w i 0) ja && true))), (0, .ref x), (1, .int (nI i)), (3, .int 0)] → W p l e ({ frames := 3, cells := 0, slots := 0, locals := 69 }) s m [.ref x, .int (nI i)].toArray below meth c H locs (0) (0) (MQ below (QI G (fun r M' => r = bI (mThs w i) ∧ MW G M' x ad (mWbs i w) ∧ mFr x ad M M') A) [.ref x, .int (nI i)].toArray s (0) (0) A) (F0 m 12 ls []) := by
    intro d
    induction d with
    | zero => intro ja wa Ma H locs ls h1 h2; exact absurd h2 (by omega)
    | succ d ih =>
      intro ja wa Ma H locs ls hja1 hja2 hza hma hfa hw hS hl
      have hxla : Ma x = some (.inr (8, [.int (rdH wa), .ref (ad 1), .ref (ad 2), .ref (ad 3), .ref (ad 4), .ref (ad 5), .ref (ad 6), .ref (ad 7), .ref (ad 8), .ref (ad 9), .ref (ad 10), .ref (ad 11), .ref (ad 12), .ref (ad 13), .int (nI (rdN wa)), .ref (ad 15)])) := hma.1
      have hna : rdK wa = rdK w := by rw [hza]; exact itm_K (mWb_K i 0) ja w
      have hba : rdK w 0 ≤ 1024 := hm.kb (by decide)
      have hlka : mLk w wa := by rw [hza]; exact mLk.it
      refine lv_iload hx hb dX7_areThere_12 (lv_at hl 0 rfl) ?_
      refine lv_aload_n hx hb dX7_areThere_14 rfl (lv_at hl 2 rfl) ?_
      refine m_get X iX7 hK hw hxla rfl 1 (by decide) (ref := "ObjectMapperModel") (by decide +kernel) (Or.inl rfl) rfl dX7_areThere_15 ?_
      refine lv_iload_n hx hb dX7_areThere_18 rfl (lv_at hl 4 rfl) ?_
      have ix1 : (0 : Int32) = nI 0 := rfl
      have ix1b : 0 < 2 := (by decide)
      refine m_iald X hK hw (hma.a1) (i := 0) (by rw [ix1]; exact vp_in_nI ix1b (by decide)) dX7_areThere_19 ?_
      rw [show (0 : Int32).toNatClampNeg = 0 from by rw [ix1]; exact nI_clamp (by omega)]
      rw [show nI (rdK wa 0) = nI (rdK w 0) from by rw [hna]]
      refine lv_icmp_ge (tgt := 155) hx hb dX7_areThere_20 (by decide) (fun c_20 => ?_) (fun c_20 => ?_)
      · have hkna : rdK w 0 ≤ ja := (nI_leI (by omega) (by omega)).mp c_20
        have hjja : ja = rdK w 0 := by omega
        rw [hjja] at hza
        rw [hjja] at hl
        refine lv_iinc (v := 1) (lv' := [(3, .int 1), (4, .int (nI (rdK w 0))), (2, .int (bI (allN (mTh w i 0) (rdK w 0) && true))), (0, .ref x), (1, .int (nI i))]) hx hb dX7_areThere_155 hl (k := 4) rfl (by decide) (by decide) rfl (fun ls hl => ?_)
        refine lv_goto (tgt := 4) hx hb dX7_areThere_158 (by decide) ?_
        refine lv_iload_n hx hb dX7_areThere_4 rfl (lv_at hl 0 rfl) ?_
        refine lv_iconst (v := 1) hx hb dX7_areThere_5 (by decide) ?_
        refine lv_icmp_gt (tgt := 161) hx hb dX7_areThere_6 (by decide) (fun c_6 => absurd c_6 (by decide)) (fun _ => ?_)
        refine lv_iconst (v := 0) hx hb dX7_areThere_9 (by decide) ?_
        refine lv_istore (lv' := [(4, .int (nI 0)), (3, .int 1), (2, .int (bI (allN (mTh w i 0) (rdK w 0) && true))), (0, .ref x), (1, .int (nI i))]) hx hb dX7_areThere_10 hl (by decide) rfl (fun ls hl => ?_)
        have hl : lv_has ls 7 [(4, .int (nI 0)), (3, .int 1), (2, .int (bI (allN (mTh w i 1) 0 && (allN (mTh w i 0) (rdK w 0) && true)))), (0, .ref x), (1, .int (nI i))] := hl
        have loopb : ∀ (d : Nat) (jb : Nat) (wb : mW) (Mb : gM) (H : Heap) (locs : List Loc) (ls : Array Slot), jb ≤ rdK wa 1 → rdK wa 1 + 1 ≤ jb + d → wb = itm (mWb i 1) jb wa → MW G Mb x ad wb → mFr x ad M Mb → wd G A Mb H → va_S A s.heap H locs → lv_has ls 7 [(4, .int (nI jb)), (2, .int (bI (allN (mTh w i 1) jb && (allN (mTh w i 0) (rdK w 0) && true)))), (0, .ref x), (1, .int (nI i)), (3, .int 1)] → W p l e ({ frames := 3, cells := 0, slots := 0, locals := 69 }) s m [.ref x, .int (nI i)].toArray below meth c H locs (0) (0) (MQ below (QI G (fun r M' => r = bI (mThs w i) ∧ MW G M' x ad (mWbs i w) ∧ mFr x ad M M') A) [.ref x, .int (nI i)].toArray s (0) (0) A) (F0 m 12 ls []) := by
          intro d
          induction d with
          | zero => intro jb wb Mb H locs ls h1 h2; exact absurd h2 (by omega)
          | succ d ih =>
            intro jb wb Mb H locs ls hjb1 hjb2 hzb hmb hfb hw hS hl
            have hxlb : Mb x = some (.inr (8, [.int (rdH wb), .ref (ad 1), .ref (ad 2), .ref (ad 3), .ref (ad 4), .ref (ad 5), .ref (ad 6), .ref (ad 7), .ref (ad 8), .ref (ad 9), .ref (ad 10), .ref (ad 11), .ref (ad 12), .ref (ad 13), .int (nI (rdN wb)), .ref (ad 15)])) := hmb.1
            have hnb : rdK wb = rdK wa := by rw [hzb]; exact itm_K (mWb_K i 1) jb wa
            have hbb : rdK wa 1 ≤ 1024 := hma.kb (by decide)
            have hlkb : mLk w wb := by rw [hzb, hza]; exact (mLk.tr mLk.it mLk.it)
            refine lv_iload hx hb dX7_areThere_12 (lv_at hl 0 rfl) ?_
            refine lv_aload_n hx hb dX7_areThere_14 rfl (lv_at hl 2 rfl) ?_
            refine m_get X iX7 hK hw hxlb rfl 1 (by decide) (ref := "ObjectMapperModel") (by decide +kernel) (Or.inl rfl) rfl dX7_areThere_15 ?_
            refine lv_iload_n hx hb dX7_areThere_18 rfl (lv_at hl 4 rfl) ?_
            have ix2 : (1 : Int32) = nI 1 := rfl
            have ix2b : 1 < 2 := (by decide)
            refine m_iald X hK hw (hmb.a1) (i := 1) (by rw [ix2]; exact vp_in_nI ix2b (by decide)) dX7_areThere_19 ?_
            rw [show (1 : Int32).toNatClampNeg = 1 from by rw [ix2]; exact nI_clamp (by omega)]
            rw [show nI (rdK wb 1) = nI (rdK wa 1) from by rw [hnb]]
            refine lv_icmp_ge (tgt := 155) hx hb dX7_areThere_20 (by decide) (fun c_20 => ?_) (fun c_20 => ?_)
            · have hknb : rdK wa 1 ≤ jb := (nI_leI (by omega) (by omega)).mp c_20
              have hjjb : jb = rdK wa 1 := by omega
              rw [hjjb] at hzb
              rw [hjjb] at hl
              refine lv_iinc (v := 2) (lv' := [(3, .int 2), (4, .int (nI (rdK wa 1))), (2, .int (bI (allN (mTh w i 1) (rdK wa 1) && (allN (mTh w i 0) (rdK w 0) && true)))), (0, .ref x), (1, .int (nI i))]) hx hb dX7_areThere_155 hl (k := 4) rfl (by decide) (by decide) rfl (fun ls hl => ?_)
              refine lv_goto (tgt := 4) hx hb dX7_areThere_158 (by decide) ?_
              refine lv_iload_n hx hb dX7_areThere_4 rfl (lv_at hl 0 rfl) ?_
              refine lv_iconst (v := 1) hx hb dX7_areThere_5 (by decide) ?_
              refine lv_icmp_gt (tgt := 161) hx hb dX7_areThere_6 (by decide) (fun _ => ?_) (fun c_6 => absurd (by decide) c_6)
              refine lv_iload_n hx hb dX7_areThere_161 rfl (lv_at hl 2 rfl) ?_
              have hfin : mWbs i w = wb := by rw [hzb, hna, hza]; rfl
              exact m_zret X (bI_nar _) hK hw hS ⟨by rw [hna]; rfl, by rw [hfin]; exact hmb, hfb⟩ (by omega) (by omega) dX7_areThere_162
            · have hklb : jb < rdK wa 1 := Nat.lt_of_not_le (fun q => c_20 (nI_le q (by omega)))
              have hj9b : jb < 1024 := by omega
              have hkwb : jb < rdK wb 1 := by rw [hnb]; exact hklb
              refine lv_aload_n hx hb dX7_areThere_23 rfl (lv_at hl 2 rfl) ?_
              refine lv_iload_n hx hb dX7_areThere_24 rfl (lv_at hl 3 rfl) ?_
              refine lv_iload_n hx hb dX7_areThere_25 rfl (lv_at hl 4 rfl) ?_
              refine lv_iload hx hb dX7_areThere_26 (lv_at hl 0 rfl) ?_
              refine m_callVi X (ci := 8) rfl hxlb hK hw hZ hS hA (As := [.int (nI i), .int 1, .int (nI jb)]) (rest := []) (c_isGoneK l G dce _ Mb x ad wb hmb i 1 jb hi (by decide) hj9b (nI i) rfl 1 rfl) (cwV 3 hts gX7_areThere_X7_isGone rfl rfl rfl (by decide +kernel) ⟨Nat.le_of_ble_eq_true rfl, Nat.le_of_ble_eq_true rfl⟩) rfl hl.1 rfl (Nat.le_of_ble_eq_true rfl) dX7_areThere_28 (Nat.le_of_ble_eq_true rfl) (Nat.le_of_ble_eq_true rfl) (fun r4 M3 H locs hp hw hS hz hk => ?_)
              rw [hp.2] at hw
              rw [hp.1]
              refine lv_istore (lv' := [(5, .int (bI (mGn wb i 1 jb))), (4, .int (nI jb)), (2, .int (bI (allN (mTh w i 1) jb && (allN (mTh w i 0) (rdK w 0) && true)))), (0, .ref x), (1, .int (nI i)), (3, .int 1)]) hx hb dX7_areThere_31 hl (by decide) rfl (fun ls hl => ?_)
              have jn33_q5 : ∀ (v : Int32) (H : Heap) (locs : List Loc), v = bI (mHr wb 1 (nI jb) && decide (rdT wb 5 (rP 1 jb) = rdT wb 13 (aP i 1 jb))) → wd G A Mb H → va_S A s.heap H locs → W p l e ({ frames := 3, cells := 0, slots := 0, locals := 69 }) s m [.ref x, .int (nI i)].toArray below meth c H locs (0) (0) (MQ below (QI G (fun r M' => r = bI (mThs w i) ∧ MW G M' x ad (mWbs i w) ∧ mFr x ad M M') A) [.ref x, .int (nI i)].toArray s (0) (0) A) (F0 m 74 ls [(.int v)]) := by
                intro v H locs hv9 hw hS
                rw [hv9]
                refine lv_istore (lv' := [(6, .int (bI (mHr wb 1 (nI jb) && decide (rdT wb 5 (rP 1 jb) = rdT wb 13 (aP i 1 jb))))), (5, .int (bI (mGn wb i 1 jb))), (4, .int (nI jb)), (2, .int (bI (allN (mTh w i 1) jb && (allN (mTh w i 0) (rdK w 0) && true)))), (0, .ref x), (1, .int (nI i)), (3, .int 1)]) hx hb dX7_areThere_74 hl (by decide) rfl (fun ls hl => ?_)
                have jn76_q6 : ∀ (v : Int32) (H : Heap) (locs : List Loc), v = bI ((allN (mTh w i 1) jb && (allN (mTh w i 0) (rdK w 0) && true)) && mTh wb i 1 jb) → wd G A Mb H → va_S A s.heap H locs → W p l e ({ frames := 3, cells := 0, slots := 0, locals := 69 }) s m [.ref x, .int (nI i)].toArray below meth c H locs (0) (0) (MQ below (QI G (fun r M' => r = bI (mThs w i) ∧ MW G M' x ad (mWbs i w) ∧ mFr x ad M M') A) [.ref x, .int (nI i)].toArray s (0) (0) A) (F0 m 106 ls [(.int v)]) := by
                  intro v H locs hv9 hw hS
                  rw [hv9]
                  rw [show ((allN (mTh w i 1) jb && (allN (mTh w i 0) (rdK w 0) && true)) && mTh wb i 1 jb) = (allN (mTh w i 1) (jb + 1) && (allN (mTh w i 0) (rdK w 0) && true)) from by rw [hlkb.Th]; exact Bool.and_right_comm _ _ _]
                  refine lv_istore_n (lv' := [(2, .int (bI (allN (mTh w i 1) (jb + 1) && (allN (mTh w i 0) (rdK w 0) && true)))), (6, .int (bI (mHr wb 1 (nI jb) && decide (rdT wb 5 (rP 1 jb) = rdT wb 13 (aP i 1 jb))))), (5, .int (bI (mGn wb i 1 jb))), (4, .int (nI jb)), (0, .ref x), (1, .int (nI i)), (3, .int 1)]) hx hb dX7_areThere_106 rfl hl (by decide) rfl (fun ls hl => ?_)
                  refine lv_aload_n hx hb dX7_areThere_107 rfl (lv_at hl 4 rfl) ?_
                  refine m_get X iX7 hK hw hxlb rfl 6 (by decide) (ref := "ObjectMapperModel") (by decide +kernel) (Or.inl rfl) rfl dX7_areThere_108 ?_
                  refine lv_iload_n hx hb dX7_areThere_111 rfl (lv_at hl 6 rfl) ?_
                  refine lv_iload hx hb dX7_areThere_112 (lv_at hl 3 rfl) ?_
                  refine m_callSi X hK hw hZ hS hA (As := [.int 1, .int (nI jb)]) (rest := [.ref (ad 6)]) (c_rowK l G dce _ Mb 1 jb 1 rfl (nI jb) rfl) (va_cwS 2 hts gX7_areThere_X7_row rfl rfl rfl (by decide +kernel) ⟨Nat.le_of_ble_eq_true rfl, Nat.le_of_ble_eq_true rfl⟩) rfl hl.1 rfl (Nat.le_of_ble_eq_true rfl) dX7_areThere_114 (Nat.le_of_ble_eq_true rfl) (Nat.le_of_ble_eq_true rfl) (fun r8 M7 H locs hp hw hS hz hk => ?_)
                  rw [hp.2] at hw
                  rw [hp.1]
                  have jn117_q9 : ∀ (v : Int32) (H : Heap) (locs : List Loc), v = bI (mMd wb i 1 jb || (mHr wb 1 (nI jb) && !mGn wb i 1 jb)) → wd G A Mb H → va_S A s.heap H locs → W p l e ({ frames := 3, cells := 0, slots := 0, locals := 69 }) s m [.ref x, .int (nI i)].toArray below meth c H locs (0) (0) (MQ below (QI G (fun r M' => r = bI (mThs w i) ∧ MW G M' x ad (mWbs i w) ∧ mFr x ad M M') A) [.ref x, .int (nI i)].toArray s (0) (0) A) (F0 m 148 ls [(.int v), .int (nI (rP 1 jb)), .ref (ad 6)]) := by
                    intro v H locs hv9 hw hS
                    rw [hv9]
                    have ix11 : ((nI (rP 1 jb)) : Int32) = nI (rP 1 jb) := rfl
                    have ix11b : (rP 1 jb) < 2048 := (rP_lt (by decide) hj9b)
                    refine m_zast X hK hw hS (hmb.a6) (i := (nI (rP 1 jb))) (x := (bI (mMd wb i 1 jb || (mHr wb 1 (nI jb) && !mGn wb i 1 jb)))) (bI_vp _) (by rw [ix11]; exact vp_in_nI ix11b (by decide)) dX7_areThere_148 (fun M10 H locs eM10 hw hS => ?_)
                    rw [show ((nI (rP 1 jb)) : Int32).toNatClampNeg = (rP 1 jb) from by rw [ix11]; exact nI_clamp (by omega)] at eM10
                    obtain ⟨wt12, ewt12⟩ : ∃ w9, w9 = mS wb 6 (rP 1 jb) (bI (mMd wb i 1 jb || (mHr wb 1 (nI jb) && !mGn wb i 1 jb))) := ⟨_, rfl⟩
                    have hmt12 : MW G M10 x ad wt12 := by rw [ewt12]; exact hmb.set6 eM10
                    have frt12 := mFr.tr hfb (mFr.wr (x := x) (ad := ad) (a := 6) (by decide) eM10)
                    have hxt12 : M10 x = some (.inr (8, [.int (rdH wt12), .ref (ad 1), .ref (ad 2), .ref (ad 3), .ref (ad 4), .ref (ad 5), .ref (ad 6), .ref (ad 7), .ref (ad 8), .ref (ad 9), .ref (ad 10), .ref (ad 11), .ref (ad 12), .ref (ad 13), .int (nI (rdN wt12)), .ref (ad 15)])) := hmt12.1
                    refine lv_iinc (v := (nI (jb + 1))) (lv' := [(4, .int (nI (jb + 1))), (2, .int (bI (allN (mTh w i 1) (jb + 1) && (allN (mTh w i 0) (rdK w 0) && true)))), (6, .int (bI (mHr wb 1 (nI jb) && decide (rdT wb 5 (rP 1 jb) = rdT wb 13 (aP i 1 jb))))), (5, .int (bI (mGn wb i 1 jb))), (0, .ref x), (1, .int (nI i)), (3, .int 1)]) hx hb dX7_areThere_149 hl (k := 3) rfl (nI_1 _) (by decide) rfl (fun ls hl => ?_)
                    refine lv_goto (tgt := 12) hx hb dX7_areThere_152 (by decide) ?_
                    have hzb2 : wt12 = itm (mWb i 1) (jb + 1) wa := by
                      show _ = (mWb i 1) jb (itm (mWb i 1) jb wa)
                      rw [← hzb]
                      rw [ewt12]
                      rfl
                    exact ih (jb + 1) wt12 M10 H locs ls (by omega) (by omega) hzb2 hmt12 frt12 hw hS (lv_sub hl [0, 1, 4, 5, 6] rfl)
                  refine lv_aload_n hx hb dX7_areThere_117 rfl (lv_at hl 4 rfl) ?_
                  refine lv_iload_n hx hb dX7_areThere_118 rfl (lv_at hl 5 rfl) ?_
                  refine lv_iload_n hx hb dX7_areThere_119 rfl (lv_at hl 6 rfl) ?_
                  refine lv_iload hx hb dX7_areThere_120 (lv_at hl 3 rfl) ?_
                  refine m_callVi X (ci := 8) rfl hxlb hK hw hZ hS hA (As := [.int (nI i), .int 1, .int (nI jb)]) (rest := [.int (nI (rP 1 jb)), .ref (ad 6)]) (c_isMadeK l G dce _ Mb x ad wb hmb i 1 jb hi (by decide) hj9b (nI i) rfl 1 rfl) (cwV 3 hts gX7_areThere_X7_isMade rfl rfl rfl (by decide +kernel) ⟨Nat.le_of_ble_eq_true rfl, Nat.le_of_ble_eq_true rfl⟩) rfl hl.1 rfl (Nat.le_of_ble_eq_true rfl) dX7_areThere_122 (Nat.le_of_ble_eq_true rfl) (Nat.le_of_ble_eq_true rfl) (fun r14 M13 H locs hp hw hS hz hk => ?_)
                  rw [hp.2] at hw
                  rw [hp.1]
                  refine lv_if_ne (tgt := 143) hx hb dX7_areThere_125 (by decide) (fun c_125 => ?_) (fun c_125 => ?_)
                  · refine lv_iconst (v := 1) hx hb dX7_areThere_143 (by decide) ?_
                    refine lv_goto (tgt := 148) hx hb dX7_areThere_144 (by decide) ?_
                    exact jn117_q9 _ _ _ (by simp [bI, (bI_t c_125)]) hw hS
                  · refine lv_aload_n hx hb dX7_areThere_128 rfl (lv_at hl 4 rfl) ?_
                    refine lv_iload_n hx hb dX7_areThere_129 rfl (lv_at hl 6 rfl) ?_
                    refine lv_iload hx hb dX7_areThere_130 (lv_at hl 3 rfl) ?_
                    refine m_callVi X (ci := 8) rfl hxlb hK hw hZ hS hA (As := [.int 1, .int (nI jb)]) (rest := [.int (nI (rP 1 jb)), .ref (ad 6)]) (c_hasRowK l G dce _ Mb x ad wb hmb 1 (by decide) (nI jb) 1 rfl) (cwV 2 hts gX7_areThere_X7_hasRow rfl rfl rfl (by decide +kernel) ⟨Nat.le_of_ble_eq_true rfl, Nat.le_of_ble_eq_true rfl⟩) rfl hl.1 rfl (Nat.le_of_ble_eq_true rfl) dX7_areThere_132 (Nat.le_of_ble_eq_true rfl) (Nat.le_of_ble_eq_true rfl) (fun r16 M15 H locs hp hw hS hz hk => ?_)
                    rw [hp.2] at hw
                    rw [hp.1]
                    refine lv_if_eq (tgt := 147) hx hb dX7_areThere_135 (by decide) (fun c_135 => ?_) (fun c_135 => ?_)
                    · refine lv_iconst (v := 0) hx hb dX7_areThere_147 (by decide) ?_
                      exact jn117_q9 _ _ _ (by simp [bI, ((bI_0 _).mp c_125), ((bI_0 _).mp c_135)]) hw hS
                    · refine lv_iload hx hb dX7_areThere_138 (lv_at hl 2 rfl) ?_
                      refine lv_if_ne (tgt := 147) hx hb dX7_areThere_140 (by decide) (fun c_140 => ?_) (fun c_140 => ?_)
                      · refine lv_iconst (v := 0) hx hb dX7_areThere_147 (by decide) ?_
                        exact jn117_q9 _ _ _ (by simp [bI, ((bI_0 _).mp c_125), (bI_t c_135), (bI_t c_140)]) hw hS
                      · refine lv_iconst (v := 1) hx hb dX7_areThere_143 (by decide) ?_
                        refine lv_goto (tgt := 148) hx hb dX7_areThere_144 (by decide) ?_
                        exact jn117_q9 _ _ _ (by simp [bI, ((bI_0 _).mp c_125), (bI_t c_135), ((bI_0 _).mp c_140)]) hw hS
                refine lv_iload_n hx hb dX7_areThere_76 rfl (lv_at hl 3 rfl) ?_
                refine lv_if_eq (tgt := 105) hx hb dX7_areThere_77 (by decide) (fun c_77 => ?_) (fun c_77 => ?_)
                · refine lv_iconst (v := 0) hx hb dX7_areThere_105 (by decide) ?_
                  exact jn76_q6 _ _ _ (by rw [((bI_0 _).mp c_77)]; rfl) hw hS
                · refine lv_iload hx hb dX7_areThere_80 (lv_at hl 0 rfl) ?_
                  refine lv_if_ne (tgt := 101) hx hb dX7_areThere_82 (by decide) (fun c_82 => ?_) (fun c_82 => ?_)
                  · refine lv_iconst (v := 1) hx hb dX7_areThere_101 (by decide) ?_
                    refine lv_goto (tgt := 106) hx hb dX7_areThere_102 (by decide) ?_
                    exact jn76_q6 _ _ _ (by rw [(bI_t c_77), Bool.true_and, show mTh wb i 1 jb = ((mHr wb 1 (nI jb) && decide (rdT wb 5 (rP 1 jb) = rdT wb 13 (aP i 1 jb))) || (!mGn wb i 1 jb && !mDr wb i 1 jb)) from rfl]; simp only [(bI_t c_82)]; rfl) hw hS
                  · refine lv_iload hx hb dX7_areThere_85 (lv_at hl 1 rfl) ?_
                    refine lv_if_ne (tgt := 105) hx hb dX7_areThere_87 (by decide) (fun c_87 => ?_) (fun c_87 => ?_)
                    · refine lv_iconst (v := 0) hx hb dX7_areThere_105 (by decide) ?_
                      exact jn76_q6 _ _ _ (by rw [(bI_t c_77), Bool.true_and, show mTh wb i 1 jb = ((mHr wb 1 (nI jb) && decide (rdT wb 5 (rP 1 jb) = rdT wb 13 (aP i 1 jb))) || (!mGn wb i 1 jb && !mDr wb i 1 jb)) from rfl]; simp only [((bI_0 _).mp c_82), (bI_t c_87)]; rfl) hw hS
                    · refine lv_aload_n hx hb dX7_areThere_90 rfl (lv_at hl 4 rfl) ?_
                      refine lv_iload_n hx hb dX7_areThere_91 rfl (lv_at hl 5 rfl) ?_
                      refine lv_iload_n hx hb dX7_areThere_92 rfl (lv_at hl 6 rfl) ?_
                      refine lv_iload hx hb dX7_areThere_93 (lv_at hl 2 rfl) ?_
                      refine m_callVi X (ci := 8) rfl hxlb hK hw hZ hS hA (As := [.int (nI i), .int 1, .int (nI jb)]) (rest := []) (c_isDirtyK l G dce _ Mb x ad wb hmb i 1 jb hi (by decide) hj9b (nI i) rfl 1 rfl) (cwV 3 hts gX7_areThere_X7_isDirty rfl rfl rfl (by decide +kernel) ⟨Nat.le_of_ble_eq_true rfl, Nat.le_of_ble_eq_true rfl⟩) rfl hl.1 rfl (Nat.le_of_ble_eq_true rfl) dX7_areThere_95 (Nat.le_of_ble_eq_true rfl) (Nat.le_of_ble_eq_true rfl) (fun r18 M17 H locs hp hw hS hz hk => ?_)
                      rw [hp.2] at hw
                      rw [hp.1]
                      refine lv_if_ne (tgt := 105) hx hb dX7_areThere_98 (by decide) (fun c_98 => ?_) (fun c_98 => ?_)
                      · refine lv_iconst (v := 0) hx hb dX7_areThere_105 (by decide) ?_
                        exact jn76_q6 _ _ _ (by rw [(bI_t c_77), Bool.true_and, show mTh wb i 1 jb = ((mHr wb 1 (nI jb) && decide (rdT wb 5 (rP 1 jb) = rdT wb 13 (aP i 1 jb))) || (!mGn wb i 1 jb && !mDr wb i 1 jb)) from rfl]; simp only [((bI_0 _).mp c_82), ((bI_0 _).mp c_87), (bI_t c_98)]; rfl) hw hS
                      · refine lv_iconst (v := 1) hx hb dX7_areThere_101 (by decide) ?_
                        refine lv_goto (tgt := 106) hx hb dX7_areThere_102 (by decide) ?_
                        exact jn76_q6 _ _ _ (by rw [(bI_t c_77), Bool.true_and, show mTh wb i 1 jb = ((mHr wb 1 (nI jb) && decide (rdT wb 5 (rP 1 jb) = rdT wb 13 (aP i 1 jb))) || (!mGn wb i 1 jb && !mDr wb i 1 jb)) from rfl]; simp only [((bI_0 _).mp c_82), ((bI_0 _).mp c_87), ((bI_0 _).mp c_98)]; rfl) hw hS
              refine lv_aload_n hx hb dX7_areThere_33 rfl (lv_at hl 3 rfl) ?_
              refine lv_iload_n hx hb dX7_areThere_34 rfl (lv_at hl 5 rfl) ?_
              refine lv_iload hx hb dX7_areThere_35 (lv_at hl 1 rfl) ?_
              refine m_callVi X (ci := 8) rfl hxlb hK hw hZ hS hA (As := [.int 1, .int (nI jb)]) (rest := []) (c_hasRowK l G dce _ Mb x ad wb hmb 1 (by decide) (nI jb) 1 rfl) (cwV 2 hts gX7_areThere_X7_hasRow rfl rfl rfl (by decide +kernel) ⟨Nat.le_of_ble_eq_true rfl, Nat.le_of_ble_eq_true rfl⟩) rfl hl.1 rfl (Nat.le_of_ble_eq_true rfl) dX7_areThere_37 (Nat.le_of_ble_eq_true rfl) (Nat.le_of_ble_eq_true rfl) (fun r20 M19 H locs hp hw hS hz hk => ?_)
              rw [hp.2] at hw
              rw [hp.1]
              refine lv_if_eq (tgt := 73) hx hb dX7_areThere_40 (by decide) (fun c_40 => ?_) (fun c_40 => ?_)
              · refine lv_iconst (v := 0) hx hb dX7_areThere_73 (by decide) ?_
                exact jn33_q5 _ _ _ (by simp [bI, ((bI_0 _).mp c_40)]) hw hS
              · refine lv_aload_n hx hb dX7_areThere_43 rfl (lv_at hl 3 rfl) ?_
                refine m_get X iX7 hK hw hxlb rfl 5 (by decide) (ref := "ObjectMapperModel") (by decide +kernel) (Or.inl rfl) rfl dX7_areThere_44 ?_
                refine lv_iload_n hx hb dX7_areThere_47 rfl (lv_at hl 5 rfl) ?_
                refine lv_iload hx hb dX7_areThere_48 (lv_at hl 1 rfl) ?_
                refine m_callSi X hK hw hZ hS hA (As := [.int 1, .int (nI jb)]) (rest := [.ref (ad 5)]) (c_rowK l G dce _ Mb 1 jb 1 rfl (nI jb) rfl) (va_cwS 2 hts gX7_areThere_X7_row rfl rfl rfl (by decide +kernel) ⟨Nat.le_of_ble_eq_true rfl, Nat.le_of_ble_eq_true rfl⟩) rfl hl.1 rfl (Nat.le_of_ble_eq_true rfl) dX7_areThere_50 (Nat.le_of_ble_eq_true rfl) (Nat.le_of_ble_eq_true rfl) (fun r22 M21 H locs hp hw hS hz hk => ?_)
                rw [hp.2] at hw
                rw [hp.1]
                have ix23 : ((nI (rP 1 jb)) : Int32) = nI (rP 1 jb) := rfl
                have ix23b : (rP 1 jb) < 2048 := (rP_lt (by decide) hj9b)
                refine m_iald X hK hw (hmb.a5) (i := (nI (rP 1 jb))) (by rw [ix23]; exact vp_in_nI ix23b (by decide)) dX7_areThere_53 ?_
                rw [show ((nI (rP 1 jb)) : Int32).toNatClampNeg = (rP 1 jb) from by rw [ix23]; exact nI_clamp (by omega)]
                refine lv_aload_n hx hb dX7_areThere_54 rfl (lv_at hl 3 rfl) ?_
                refine m_get X iX7 hK hw hxlb rfl 13 (by decide) (ref := "ObjectMapperModel") (by decide +kernel) (Or.inl rfl) rfl dX7_areThere_55 ?_
                refine lv_iload_n hx hb dX7_areThere_58 rfl (lv_at hl 4 rfl) ?_
                refine lv_iload_n hx hb dX7_areThere_59 rfl (lv_at hl 5 rfl) ?_
                refine lv_iload hx hb dX7_areThere_60 (lv_at hl 1 rfl) ?_
                refine m_callSi X hK hw hZ hS hA (As := [.int (nI i), .int 1, .int (nI jb)]) (rest := [.ref (ad 13), .int (rdT wb 5 (rP 1 jb))]) (c_atK l G dce _ Mb i 1 jb (nI i) rfl 1 rfl (nI jb) rfl) (va_cwS 3 hts gX7_areThere_X7_at rfl rfl rfl (by decide +kernel) ⟨Nat.le_of_ble_eq_true rfl, Nat.le_of_ble_eq_true rfl⟩) rfl hl.1 rfl (Nat.le_of_ble_eq_true rfl) dX7_areThere_62 (Nat.le_of_ble_eq_true rfl) (Nat.le_of_ble_eq_true rfl) (fun r25 M24 H locs hp hw hS hz hk => ?_)
                rw [hp.2] at hw
                rw [hp.1]
                have ix26 : ((nI (aP i 1 jb)) : Int32) = nI (aP i 1 jb) := rfl
                have ix26b : (aP i 1 jb) < 6144 := (aP_lt hi (by decide) hj9b)
                refine m_iald X hK hw (hmb.a13) (i := (nI (aP i 1 jb))) (by rw [ix26]; exact vp_in_nI ix26b (by decide)) dX7_areThere_65 ?_
                rw [show ((nI (aP i 1 jb)) : Int32).toNatClampNeg = (aP i 1 jb) from by rw [ix26]; exact nI_clamp (by omega)]
                refine lv_icmp_ne (tgt := 73) hx hb dX7_areThere_66 (by decide) (fun c_66 => ?_) (fun c_66 => ?_)
                · refine lv_iconst (v := 0) hx hb dX7_areThere_73 (by decide) ?_
                  exact jn33_q5 _ _ _ (by simp [bI, (bI_t c_40), c_66]) hw hS
                · refine lv_iconst (v := 1) hx hb dX7_areThere_69 (by decide) ?_
                  refine lv_goto (tgt := 74) hx hb dX7_areThere_70 (by decide) ?_
                  exact jn33_q5 _ _ _ (by simp [bI, (bI_t c_40), c_66]) hw hS
        exact loopb (rdK wa 1 + 1) 0 wa Ma _ _ ls (Nat.zero_le _) (Nat.le_of_eq (Nat.zero_add _).symm) rfl hma hfa hw hS (lv_sub hl [0, 2, 3, 4, 1] rfl)
      · have hkla : ja < rdK w 0 := Nat.lt_of_not_le (fun q => c_20 (nI_le q (by omega)))
        have hj9a : ja < 1024 := by omega
        have hkwa : ja < rdK wa 0 := by rw [hna]; exact hkla
        refine lv_aload_n hx hb dX7_areThere_23 rfl (lv_at hl 2 rfl) ?_
        refine lv_iload_n hx hb dX7_areThere_24 rfl (lv_at hl 3 rfl) ?_
        refine lv_iload_n hx hb dX7_areThere_25 rfl (lv_at hl 4 rfl) ?_
        refine lv_iload hx hb dX7_areThere_26 (lv_at hl 0 rfl) ?_
        refine m_callVi X (ci := 8) rfl hxla hK hw hZ hS hA (As := [.int (nI i), .int 0, .int (nI ja)]) (rest := []) (c_isGoneK l G dce _ Ma x ad wa hma i 0 ja hi (by decide) hj9a (nI i) rfl 0 rfl) (cwV 3 hts gX7_areThere_X7_isGone rfl rfl rfl (by decide +kernel) ⟨Nat.le_of_ble_eq_true rfl, Nat.le_of_ble_eq_true rfl⟩) rfl hl.1 rfl (Nat.le_of_ble_eq_true rfl) dX7_areThere_28 (Nat.le_of_ble_eq_true rfl) (Nat.le_of_ble_eq_true rfl) (fun r28 M27 H locs hp hw hS hz hk => ?_)
        rw [hp.2] at hw
        rw [hp.1]
        refine lv_istore (lv' := [(5, .int (bI (mGn wa i 0 ja))), (4, .int (nI ja)), (2, .int (bI (allN (mTh w i 0) ja && true))), (0, .ref x), (1, .int (nI i)), (3, .int 0)]) hx hb dX7_areThere_31 hl (by decide) rfl (fun ls hl => ?_)
        have jn33_q29 : ∀ (v : Int32) (H : Heap) (locs : List Loc), v = bI (mHr wa 0 (nI ja) && decide (rdT wa 5 (rP 0 ja) = rdT wa 13 (aP i 0 ja))) → wd G A Ma H → va_S A s.heap H locs → W p l e ({ frames := 3, cells := 0, slots := 0, locals := 69 }) s m [.ref x, .int (nI i)].toArray below meth c H locs (0) (0) (MQ below (QI G (fun r M' => r = bI (mThs w i) ∧ MW G M' x ad (mWbs i w) ∧ mFr x ad M M') A) [.ref x, .int (nI i)].toArray s (0) (0) A) (F0 m 74 ls [(.int v)]) := by
          intro v H locs hv9 hw hS
          rw [hv9]
          refine lv_istore (lv' := [(6, .int (bI (mHr wa 0 (nI ja) && decide (rdT wa 5 (rP 0 ja) = rdT wa 13 (aP i 0 ja))))), (5, .int (bI (mGn wa i 0 ja))), (4, .int (nI ja)), (2, .int (bI (allN (mTh w i 0) ja && true))), (0, .ref x), (1, .int (nI i)), (3, .int 0)]) hx hb dX7_areThere_74 hl (by decide) rfl (fun ls hl => ?_)
          have jn76_q30 : ∀ (v : Int32) (H : Heap) (locs : List Loc), v = bI ((allN (mTh w i 0) ja && true) && mTh wa i 0 ja) → wd G A Ma H → va_S A s.heap H locs → W p l e ({ frames := 3, cells := 0, slots := 0, locals := 69 }) s m [.ref x, .int (nI i)].toArray below meth c H locs (0) (0) (MQ below (QI G (fun r M' => r = bI (mThs w i) ∧ MW G M' x ad (mWbs i w) ∧ mFr x ad M M') A) [.ref x, .int (nI i)].toArray s (0) (0) A) (F0 m 106 ls [(.int v)]) := by
            intro v H locs hv9 hw hS
            rw [hv9]
            rw [show ((allN (mTh w i 0) ja && true) && mTh wa i 0 ja) = (allN (mTh w i 0) (ja + 1) && true) from by rw [hlka.Th]; exact Bool.and_right_comm _ _ _]
            refine lv_istore_n (lv' := [(2, .int (bI (allN (mTh w i 0) (ja + 1) && true))), (6, .int (bI (mHr wa 0 (nI ja) && decide (rdT wa 5 (rP 0 ja) = rdT wa 13 (aP i 0 ja))))), (5, .int (bI (mGn wa i 0 ja))), (4, .int (nI ja)), (0, .ref x), (1, .int (nI i)), (3, .int 0)]) hx hb dX7_areThere_106 rfl hl (by decide) rfl (fun ls hl => ?_)
            refine lv_aload_n hx hb dX7_areThere_107 rfl (lv_at hl 4 rfl) ?_
            refine m_get X iX7 hK hw hxla rfl 6 (by decide) (ref := "ObjectMapperModel") (by decide +kernel) (Or.inl rfl) rfl dX7_areThere_108 ?_
            refine lv_iload_n hx hb dX7_areThere_111 rfl (lv_at hl 6 rfl) ?_
            refine lv_iload hx hb dX7_areThere_112 (lv_at hl 3 rfl) ?_
            refine m_callSi X hK hw hZ hS hA (As := [.int 0, .int (nI ja)]) (rest := [.ref (ad 6)]) (c_rowK l G dce _ Ma 0 ja 0 rfl (nI ja) rfl) (va_cwS 2 hts gX7_areThere_X7_row rfl rfl rfl (by decide +kernel) ⟨Nat.le_of_ble_eq_true rfl, Nat.le_of_ble_eq_true rfl⟩) rfl hl.1 rfl (Nat.le_of_ble_eq_true rfl) dX7_areThere_114 (Nat.le_of_ble_eq_true rfl) (Nat.le_of_ble_eq_true rfl) (fun r32 M31 H locs hp hw hS hz hk => ?_)
            rw [hp.2] at hw
            rw [hp.1]
            have jn117_q33 : ∀ (v : Int32) (H : Heap) (locs : List Loc), v = bI (mMd wa i 0 ja || (mHr wa 0 (nI ja) && !mGn wa i 0 ja)) → wd G A Ma H → va_S A s.heap H locs → W p l e ({ frames := 3, cells := 0, slots := 0, locals := 69 }) s m [.ref x, .int (nI i)].toArray below meth c H locs (0) (0) (MQ below (QI G (fun r M' => r = bI (mThs w i) ∧ MW G M' x ad (mWbs i w) ∧ mFr x ad M M') A) [.ref x, .int (nI i)].toArray s (0) (0) A) (F0 m 148 ls [(.int v), .int (nI (rP 0 ja)), .ref (ad 6)]) := by
              intro v H locs hv9 hw hS
              rw [hv9]
              have ix35 : ((nI (rP 0 ja)) : Int32) = nI (rP 0 ja) := rfl
              have ix35b : (rP 0 ja) < 2048 := (rP_lt (by decide) hj9a)
              refine m_zast X hK hw hS (hma.a6) (i := (nI (rP 0 ja))) (x := (bI (mMd wa i 0 ja || (mHr wa 0 (nI ja) && !mGn wa i 0 ja)))) (bI_vp _) (by rw [ix35]; exact vp_in_nI ix35b (by decide)) dX7_areThere_148 (fun M34 H locs eM34 hw hS => ?_)
              rw [show ((nI (rP 0 ja)) : Int32).toNatClampNeg = (rP 0 ja) from by rw [ix35]; exact nI_clamp (by omega)] at eM34
              obtain ⟨wt36, ewt36⟩ : ∃ w9, w9 = mS wa 6 (rP 0 ja) (bI (mMd wa i 0 ja || (mHr wa 0 (nI ja) && !mGn wa i 0 ja))) := ⟨_, rfl⟩
              have hmt36 : MW G M34 x ad wt36 := by rw [ewt36]; exact hma.set6 eM34
              have frt36 := mFr.tr hfa (mFr.wr (x := x) (ad := ad) (a := 6) (by decide) eM34)
              have hxt36 : M34 x = some (.inr (8, [.int (rdH wt36), .ref (ad 1), .ref (ad 2), .ref (ad 3), .ref (ad 4), .ref (ad 5), .ref (ad 6), .ref (ad 7), .ref (ad 8), .ref (ad 9), .ref (ad 10), .ref (ad 11), .ref (ad 12), .ref (ad 13), .int (nI (rdN wt36)), .ref (ad 15)])) := hmt36.1
              refine lv_iinc (v := (nI (ja + 1))) (lv' := [(4, .int (nI (ja + 1))), (2, .int (bI (allN (mTh w i 0) (ja + 1) && true))), (6, .int (bI (mHr wa 0 (nI ja) && decide (rdT wa 5 (rP 0 ja) = rdT wa 13 (aP i 0 ja))))), (5, .int (bI (mGn wa i 0 ja))), (0, .ref x), (1, .int (nI i)), (3, .int 0)]) hx hb dX7_areThere_149 hl (k := 3) rfl (nI_1 _) (by decide) rfl (fun ls hl => ?_)
              refine lv_goto (tgt := 12) hx hb dX7_areThere_152 (by decide) ?_
              have hza2 : wt36 = itm (mWb i 0) (ja + 1) w := by
                show _ = (mWb i 0) ja (itm (mWb i 0) ja w)
                rw [← hza]
                rw [ewt36]
                rfl
              exact ih (ja + 1) wt36 M34 H locs ls (by omega) (by omega) hza2 hmt36 frt36 hw hS (lv_sub hl [0, 1, 4, 5, 6] rfl)
            refine lv_aload_n hx hb dX7_areThere_117 rfl (lv_at hl 4 rfl) ?_
            refine lv_iload_n hx hb dX7_areThere_118 rfl (lv_at hl 5 rfl) ?_
            refine lv_iload_n hx hb dX7_areThere_119 rfl (lv_at hl 6 rfl) ?_
            refine lv_iload hx hb dX7_areThere_120 (lv_at hl 3 rfl) ?_
            refine m_callVi X (ci := 8) rfl hxla hK hw hZ hS hA (As := [.int (nI i), .int 0, .int (nI ja)]) (rest := [.int (nI (rP 0 ja)), .ref (ad 6)]) (c_isMadeK l G dce _ Ma x ad wa hma i 0 ja hi (by decide) hj9a (nI i) rfl 0 rfl) (cwV 3 hts gX7_areThere_X7_isMade rfl rfl rfl (by decide +kernel) ⟨Nat.le_of_ble_eq_true rfl, Nat.le_of_ble_eq_true rfl⟩) rfl hl.1 rfl (Nat.le_of_ble_eq_true rfl) dX7_areThere_122 (Nat.le_of_ble_eq_true rfl) (Nat.le_of_ble_eq_true rfl) (fun r38 M37 H locs hp hw hS hz hk => ?_)
            rw [hp.2] at hw
            rw [hp.1]
            refine lv_if_ne (tgt := 143) hx hb dX7_areThere_125 (by decide) (fun c_125 => ?_) (fun c_125 => ?_)
            · refine lv_iconst (v := 1) hx hb dX7_areThere_143 (by decide) ?_
              refine lv_goto (tgt := 148) hx hb dX7_areThere_144 (by decide) ?_
              exact jn117_q33 _ _ _ (by simp [bI, (bI_t c_125)]) hw hS
            · refine lv_aload_n hx hb dX7_areThere_128 rfl (lv_at hl 4 rfl) ?_
              refine lv_iload_n hx hb dX7_areThere_129 rfl (lv_at hl 6 rfl) ?_
              refine lv_iload hx hb dX7_areThere_130 (lv_at hl 3 rfl) ?_
              refine m_callVi X (ci := 8) rfl hxla hK hw hZ hS hA (As := [.int 0, .int (nI ja)]) (rest := [.int (nI (rP 0 ja)), .ref (ad 6)]) (c_hasRowK l G dce _ Ma x ad wa hma 0 (by decide) (nI ja) 0 rfl) (cwV 2 hts gX7_areThere_X7_hasRow rfl rfl rfl (by decide +kernel) ⟨Nat.le_of_ble_eq_true rfl, Nat.le_of_ble_eq_true rfl⟩) rfl hl.1 rfl (Nat.le_of_ble_eq_true rfl) dX7_areThere_132 (Nat.le_of_ble_eq_true rfl) (Nat.le_of_ble_eq_true rfl) (fun r40 M39 H locs hp hw hS hz hk => ?_)
              rw [hp.2] at hw
              rw [hp.1]
              refine lv_if_eq (tgt := 147) hx hb dX7_areThere_135 (by decide) (fun c_135 => ?_) (fun c_135 => ?_)
              · refine lv_iconst (v := 0) hx hb dX7_areThere_147 (by decide) ?_
                exact jn117_q33 _ _ _ (by simp [bI, ((bI_0 _).mp c_125), ((bI_0 _).mp c_135)]) hw hS
              · refine lv_iload hx hb dX7_areThere_138 (lv_at hl 2 rfl) ?_
                refine lv_if_ne (tgt := 147) hx hb dX7_areThere_140 (by decide) (fun c_140 => ?_) (fun c_140 => ?_)
                · refine lv_iconst (v := 0) hx hb dX7_areThere_147 (by decide) ?_
                  exact jn117_q33 _ _ _ (by simp [bI, ((bI_0 _).mp c_125), (bI_t c_135), (bI_t c_140)]) hw hS
                · refine lv_iconst (v := 1) hx hb dX7_areThere_143 (by decide) ?_
                  refine lv_goto (tgt := 148) hx hb dX7_areThere_144 (by decide) ?_
                  exact jn117_q33 _ _ _ (by simp [bI, ((bI_0 _).mp c_125), (bI_t c_135), ((bI_0 _).mp c_140)]) hw hS
          refine lv_iload_n hx hb dX7_areThere_76 rfl (lv_at hl 3 rfl) ?_
          refine lv_if_eq (tgt := 105) hx hb dX7_areThere_77 (by decide) (fun c_77 => ?_) (fun c_77 => ?_)
          · refine lv_iconst (v := 0) hx hb dX7_areThere_105 (by decide) ?_
            exact jn76_q30 _ _ _ (by rw [((bI_0 _).mp c_77)]; rfl) hw hS
          · refine lv_iload hx hb dX7_areThere_80 (lv_at hl 0 rfl) ?_
            refine lv_if_ne (tgt := 101) hx hb dX7_areThere_82 (by decide) (fun c_82 => ?_) (fun c_82 => ?_)
            · refine lv_iconst (v := 1) hx hb dX7_areThere_101 (by decide) ?_
              refine lv_goto (tgt := 106) hx hb dX7_areThere_102 (by decide) ?_
              exact jn76_q30 _ _ _ (by rw [(bI_t c_77), Bool.true_and, show mTh wa i 0 ja = ((mHr wa 0 (nI ja) && decide (rdT wa 5 (rP 0 ja) = rdT wa 13 (aP i 0 ja))) || (!mGn wa i 0 ja && !mDr wa i 0 ja)) from rfl]; simp only [(bI_t c_82)]; rfl) hw hS
            · refine lv_iload hx hb dX7_areThere_85 (lv_at hl 1 rfl) ?_
              refine lv_if_ne (tgt := 105) hx hb dX7_areThere_87 (by decide) (fun c_87 => ?_) (fun c_87 => ?_)
              · refine lv_iconst (v := 0) hx hb dX7_areThere_105 (by decide) ?_
                exact jn76_q30 _ _ _ (by rw [(bI_t c_77), Bool.true_and, show mTh wa i 0 ja = ((mHr wa 0 (nI ja) && decide (rdT wa 5 (rP 0 ja) = rdT wa 13 (aP i 0 ja))) || (!mGn wa i 0 ja && !mDr wa i 0 ja)) from rfl]; simp only [((bI_0 _).mp c_82), (bI_t c_87)]; rfl) hw hS
              · refine lv_aload_n hx hb dX7_areThere_90 rfl (lv_at hl 4 rfl) ?_
                refine lv_iload_n hx hb dX7_areThere_91 rfl (lv_at hl 5 rfl) ?_
                refine lv_iload_n hx hb dX7_areThere_92 rfl (lv_at hl 6 rfl) ?_
                refine lv_iload hx hb dX7_areThere_93 (lv_at hl 2 rfl) ?_
                refine m_callVi X (ci := 8) rfl hxla hK hw hZ hS hA (As := [.int (nI i), .int 0, .int (nI ja)]) (rest := []) (c_isDirtyK l G dce _ Ma x ad wa hma i 0 ja hi (by decide) hj9a (nI i) rfl 0 rfl) (cwV 3 hts gX7_areThere_X7_isDirty rfl rfl rfl (by decide +kernel) ⟨Nat.le_of_ble_eq_true rfl, Nat.le_of_ble_eq_true rfl⟩) rfl hl.1 rfl (Nat.le_of_ble_eq_true rfl) dX7_areThere_95 (Nat.le_of_ble_eq_true rfl) (Nat.le_of_ble_eq_true rfl) (fun r42 M41 H locs hp hw hS hz hk => ?_)
                rw [hp.2] at hw
                rw [hp.1]
                refine lv_if_ne (tgt := 105) hx hb dX7_areThere_98 (by decide) (fun c_98 => ?_) (fun c_98 => ?_)
                · refine lv_iconst (v := 0) hx hb dX7_areThere_105 (by decide) ?_
                  exact jn76_q30 _ _ _ (by rw [(bI_t c_77), Bool.true_and, show mTh wa i 0 ja = ((mHr wa 0 (nI ja) && decide (rdT wa 5 (rP 0 ja) = rdT wa 13 (aP i 0 ja))) || (!mGn wa i 0 ja && !mDr wa i 0 ja)) from rfl]; simp only [((bI_0 _).mp c_82), ((bI_0 _).mp c_87), (bI_t c_98)]; rfl) hw hS
                · refine lv_iconst (v := 1) hx hb dX7_areThere_101 (by decide) ?_
                  refine lv_goto (tgt := 106) hx hb dX7_areThere_102 (by decide) ?_
                  exact jn76_q30 _ _ _ (by rw [(bI_t c_77), Bool.true_and, show mTh wa i 0 ja = ((mHr wa 0 (nI ja) && decide (rdT wa 5 (rP 0 ja) = rdT wa 13 (aP i 0 ja))) || (!mGn wa i 0 ja && !mDr wa i 0 ja)) from rfl]; simp only [((bI_0 _).mp c_82), ((bI_0 _).mp c_87), ((bI_0 _).mp c_98)]; rfl) hw hS
        refine lv_aload_n hx hb dX7_areThere_33 rfl (lv_at hl 3 rfl) ?_
        refine lv_iload_n hx hb dX7_areThere_34 rfl (lv_at hl 5 rfl) ?_
        refine lv_iload hx hb dX7_areThere_35 (lv_at hl 1 rfl) ?_
        refine m_callVi X (ci := 8) rfl hxla hK hw hZ hS hA (As := [.int 0, .int (nI ja)]) (rest := []) (c_hasRowK l G dce _ Ma x ad wa hma 0 (by decide) (nI ja) 0 rfl) (cwV 2 hts gX7_areThere_X7_hasRow rfl rfl rfl (by decide +kernel) ⟨Nat.le_of_ble_eq_true rfl, Nat.le_of_ble_eq_true rfl⟩) rfl hl.1 rfl (Nat.le_of_ble_eq_true rfl) dX7_areThere_37 (Nat.le_of_ble_eq_true rfl) (Nat.le_of_ble_eq_true rfl) (fun r44 M43 H locs hp hw hS hz hk => ?_)
        rw [hp.2] at hw
        rw [hp.1]
        refine lv_if_eq (tgt := 73) hx hb dX7_areThere_40 (by decide) (fun c_40 => ?_) (fun c_40 => ?_)
        · refine lv_iconst (v := 0) hx hb dX7_areThere_73 (by decide) ?_
          exact jn33_q29 _ _ _ (by simp [bI, ((bI_0 _).mp c_40)]) hw hS
        · refine lv_aload_n hx hb dX7_areThere_43 rfl (lv_at hl 3 rfl) ?_
          refine m_get X iX7 hK hw hxla rfl 5 (by decide) (ref := "ObjectMapperModel") (by decide +kernel) (Or.inl rfl) rfl dX7_areThere_44 ?_
          refine lv_iload_n hx hb dX7_areThere_47 rfl (lv_at hl 5 rfl) ?_
          refine lv_iload hx hb dX7_areThere_48 (lv_at hl 1 rfl) ?_
          refine m_callSi X hK hw hZ hS hA (As := [.int 0, .int (nI ja)]) (rest := [.ref (ad 5)]) (c_rowK l G dce _ Ma 0 ja 0 rfl (nI ja) rfl) (va_cwS 2 hts gX7_areThere_X7_row rfl rfl rfl (by decide +kernel) ⟨Nat.le_of_ble_eq_true rfl, Nat.le_of_ble_eq_true rfl⟩) rfl hl.1 rfl (Nat.le_of_ble_eq_true rfl) dX7_areThere_50 (Nat.le_of_ble_eq_true rfl) (Nat.le_of_ble_eq_true rfl) (fun r46 M45 H locs hp hw hS hz hk => ?_)
          rw [hp.2] at hw
          rw [hp.1]
          have ix47 : ((nI (rP 0 ja)) : Int32) = nI (rP 0 ja) := rfl
          have ix47b : (rP 0 ja) < 2048 := (rP_lt (by decide) hj9a)
          refine m_iald X hK hw (hma.a5) (i := (nI (rP 0 ja))) (by rw [ix47]; exact vp_in_nI ix47b (by decide)) dX7_areThere_53 ?_
          rw [show ((nI (rP 0 ja)) : Int32).toNatClampNeg = (rP 0 ja) from by rw [ix47]; exact nI_clamp (by omega)]
          refine lv_aload_n hx hb dX7_areThere_54 rfl (lv_at hl 3 rfl) ?_
          refine m_get X iX7 hK hw hxla rfl 13 (by decide) (ref := "ObjectMapperModel") (by decide +kernel) (Or.inl rfl) rfl dX7_areThere_55 ?_
          refine lv_iload_n hx hb dX7_areThere_58 rfl (lv_at hl 4 rfl) ?_
          refine lv_iload_n hx hb dX7_areThere_59 rfl (lv_at hl 5 rfl) ?_
          refine lv_iload hx hb dX7_areThere_60 (lv_at hl 1 rfl) ?_
          refine m_callSi X hK hw hZ hS hA (As := [.int (nI i), .int 0, .int (nI ja)]) (rest := [.ref (ad 13), .int (rdT wa 5 (rP 0 ja))]) (c_atK l G dce _ Ma i 0 ja (nI i) rfl 0 rfl (nI ja) rfl) (va_cwS 3 hts gX7_areThere_X7_at rfl rfl rfl (by decide +kernel) ⟨Nat.le_of_ble_eq_true rfl, Nat.le_of_ble_eq_true rfl⟩) rfl hl.1 rfl (Nat.le_of_ble_eq_true rfl) dX7_areThere_62 (Nat.le_of_ble_eq_true rfl) (Nat.le_of_ble_eq_true rfl) (fun r49 M48 H locs hp hw hS hz hk => ?_)
          rw [hp.2] at hw
          rw [hp.1]
          have ix50 : ((nI (aP i 0 ja)) : Int32) = nI (aP i 0 ja) := rfl
          have ix50b : (aP i 0 ja) < 6144 := (aP_lt hi (by decide) hj9a)
          refine m_iald X hK hw (hma.a13) (i := (nI (aP i 0 ja))) (by rw [ix50]; exact vp_in_nI ix50b (by decide)) dX7_areThere_65 ?_
          rw [show ((nI (aP i 0 ja)) : Int32).toNatClampNeg = (aP i 0 ja) from by rw [ix50]; exact nI_clamp (by omega)]
          refine lv_icmp_ne (tgt := 73) hx hb dX7_areThere_66 (by decide) (fun c_66 => ?_) (fun c_66 => ?_)
          · refine lv_iconst (v := 0) hx hb dX7_areThere_73 (by decide) ?_
            exact jn33_q29 _ _ _ (by simp [bI, (bI_t c_40), c_66]) hw hS
          · refine lv_iconst (v := 1) hx hb dX7_areThere_69 (by decide) ?_
            refine lv_goto (tgt := 74) hx hb dX7_areThere_70 (by decide) ?_
            exact jn33_q29 _ _ _ (by simp [bI, (bI_t c_40), c_66]) hw hS
  exact loopa (rdK w 0 + 1) 0 w M _ _ ls (Nat.zero_le _) (Nat.le_of_eq (Nat.zero_add _).symm) rfl hm mFr.rf hw hS (lv_sub hl [0, 2, 3, 4, 1] rfl)
theorem c_areThereK (l : Launch) (G : gG) (dce sz : Nat) (M : gM) (x : Nat) (ad : Nat → Nat) (w : mW) (hm : MW G M x ad w) (i : Nat) (hi : i < 3) (si : Int32) (hsi : si = nI i) : mI l yX7_areThere wsX7_areThere ({ frames := 3, cells := 0, slots := 0, locals := 69 }) G dce sz M [.ref x, .int si] (fun r M' => r = bI (mThs w i) ∧ MW G M' x ad (mWbs i w) ∧ mFr x ad M M') (0) (0) := by
  subst hsi
  exact c_areThere l G dce sz M x ad w hm i hi
def mRf (w : mW) (i k j : Nat) : Int32 := if (mMd w i k j || mDr w i k j) = true then rdT w 10 (aP i k j) else rdT w 4 (rP k j)
def mWh (w : mW) (i k j : Nat) : Bool := decide (rdT w 6 (rP k j) = 0) || (decide (mRf w i k j = -1) || !decide (rdT w 6 (rP (1 - k) (mRf w i k j).toNatClampNeg) = 0))
def mWhs (w : mW) (i : Nat) : Bool := allN (mWh w i 1) (rdK w 1) && (allN (mWh w i 0) (rdK w 0) && true)
def mWp (w : mW) (i : Nat) : Prop := ∀ k j, k < 2 → j < rdK w k → rdT w 6 (rP k j) ≠ 0 → rOK w (1 - k) (mRf w i k j)
set_option maxHeartbeats 4000000 in
set_option maxRecDepth 100000 in
theorem c_areWhole (l : Launch) (G : gG) (dce sz : Nat) (M : gM) (x : Nat) (ad : Nat → Nat) (w : mW) (hm : MW G M x ad w) (i : Nat) (hi : i < 3) (hwp : mWp w i) : mI l yX7_areWhole wsX7_areWhole ({ frames := 3, cells := 0, slots := 0, locals := 69 }) G dce sz M [.ref x, .int (nI i)] (fun r M' => r = bI (mWhs w i) ∧ M' = M) (0) (0) := by
  have hx0 : M x = some (.inr (8, [.int (rdH w), .ref (ad 1), .ref (ad 2), .ref (ad 3), .ref (ad 4), .ref (ad 5), .ref (ad 6), .ref (ad 7), .ref (ad 8), .ref (ad 9), .ref (ad 10), .ref (ad 11), .ref (ad 12), .ref (ad 13), .int (nI (rdN w)), .ref (ad 15)])) := hm.1
  refine wMet (Qc := QI G _) (cc := cX7_areWhole) (maxL := 7) (ret := (some .boolean)) (by decide) rfl (Nat.le_of_ble_eq_true rfl) ?_
  intro p e s m below meth c A ls X hnm hw hK hZ hA hS hsz eA hl
  obtain ⟨hx, hb, hr, hts, hown, hlk, hml⟩ := id X
  have hl : lv_has ls 7 [(0, .ref x), (1, .int (nI i))] := hl
  have iX7 : ∀ w ∈ wsX70, w ∈ wsX7_areWhole := by decide +kernel
  refine lv_iconst (v := 1) hx hb dX7_areWhole_0 (by decide) ?_
  refine lv_istore_n (lv' := [(2, .int (bI true)), (0, .ref x), (1, .int (nI i))]) hx hb dX7_areWhole_1 rfl hl (by decide) rfl (fun ls hl => ?_)
  refine lv_iconst (v := 0) hx hb dX7_areWhole_2 (by decide) ?_
  refine lv_istore_n (lv' := [(3, .int 0), (2, .int (bI true)), (0, .ref x), (1, .int (nI i))]) hx hb dX7_areWhole_3 rfl hl (by decide) rfl (fun ls hl => ?_)
  refine lv_iload_n hx hb dX7_areWhole_4 rfl (lv_at hl 0 rfl) ?_
  refine lv_iconst (v := 1) hx hb dX7_areWhole_5 (by decide) ?_
  refine lv_icmp_gt (tgt := 143) hx hb dX7_areWhole_6 (by decide) (fun c_6 => absurd c_6 (by decide)) (fun _ => ?_)
  refine lv_iconst (v := 0) hx hb dX7_areWhole_9 (by decide) ?_
  refine lv_istore (lv' := [(4, .int (nI 0)), (3, .int 0), (2, .int (bI true)), (0, .ref x), (1, .int (nI i))]) hx hb dX7_areWhole_10 hl (by decide) rfl (fun ls hl => ?_)
  have hl : lv_has ls 7 [(4, .int (nI 0)), (3, .int 0), (2, .int (bI (allN (mWh w i 0) 0 && true))), (0, .ref x), (1, .int (nI i))] := hl
  have loopa : ∀ (d : Nat) (ja : Nat) (H : Heap) (locs : List Loc) (ls : Array Slot), ja ≤ rdK w 0 → rdK w 0 + 1 ≤ ja + d → wd G A M H → va_S A s.heap H locs → lv_has ls 7 [(4, .int (nI ja)), (2, .int (bI (allN (mWh w i 0) ja && true))), (0, .ref x), (1, .int (nI i)), (3, .int 0)] → W p l e ({ frames := 3, cells := 0, slots := 0, locals := 69 }) s m [.ref x, .int (nI i)].toArray below meth c H locs (0) (0) (MQ below (QI G (fun r M' => r = bI (mWhs w i) ∧ M' = M) A) [.ref x, .int (nI i)].toArray s (0) (0) A) (F0 m 12 ls []) := by
    intro d
    induction d with
    | zero => intro ja H locs ls h1 h2; exact absurd h2 (by omega)
    | succ d ih =>
      intro ja H locs ls hja1 hja2 hw hS hl
      have hba : rdK w 0 ≤ 1024 := hm.kb (by decide)
      refine lv_iload hx hb dX7_areWhole_12 (lv_at hl 0 rfl) ?_
      refine lv_aload_n hx hb dX7_areWhole_14 rfl (lv_at hl 2 rfl) ?_
      refine m_get X iX7 hK hw hx0 rfl 1 (by decide) (ref := "ObjectMapperModel") (by decide +kernel) (Or.inl rfl) rfl dX7_areWhole_15 ?_
      refine lv_iload_n hx hb dX7_areWhole_18 rfl (lv_at hl 4 rfl) ?_
      have ix1 : (0 : Int32) = nI 0 := rfl
      have ix1b : 0 < 2 := (by decide)
      refine m_iald X hK hw (hm.a1) (i := 0) (by rw [ix1]; exact vp_in_nI ix1b (by decide)) dX7_areWhole_19 ?_
      rw [show (0 : Int32).toNatClampNeg = 0 from by rw [ix1]; exact nI_clamp (by omega)]
      refine lv_icmp_ge (tgt := 137) hx hb dX7_areWhole_20 (by decide) (fun c_20 => ?_) (fun c_20 => ?_)
      · have hkna : rdK w 0 ≤ ja := (nI_leI (by omega) (by omega)).mp c_20
        have hjja : ja = rdK w 0 := by omega
        rw [hjja] at hl
        refine lv_iinc (v := 1) (lv' := [(3, .int 1), (4, .int (nI (rdK w 0))), (2, .int (bI (allN (mWh w i 0) (rdK w 0) && true))), (0, .ref x), (1, .int (nI i))]) hx hb dX7_areWhole_137 hl (k := 4) rfl (by decide) (by decide) rfl (fun ls hl => ?_)
        refine lv_goto (tgt := 4) hx hb dX7_areWhole_140 (by decide) ?_
        refine lv_iload_n hx hb dX7_areWhole_4 rfl (lv_at hl 0 rfl) ?_
        refine lv_iconst (v := 1) hx hb dX7_areWhole_5 (by decide) ?_
        refine lv_icmp_gt (tgt := 143) hx hb dX7_areWhole_6 (by decide) (fun c_6 => absurd c_6 (by decide)) (fun _ => ?_)
        refine lv_iconst (v := 0) hx hb dX7_areWhole_9 (by decide) ?_
        refine lv_istore (lv' := [(4, .int (nI 0)), (3, .int 1), (2, .int (bI (allN (mWh w i 0) (rdK w 0) && true))), (0, .ref x), (1, .int (nI i))]) hx hb dX7_areWhole_10 hl (by decide) rfl (fun ls hl => ?_)
        have hl : lv_has ls 7 [(4, .int (nI 0)), (3, .int 1), (2, .int (bI (allN (mWh w i 1) 0 && (allN (mWh w i 0) (rdK w 0) && true)))), (0, .ref x), (1, .int (nI i))] := hl
        have loopb : ∀ (d : Nat) (jb : Nat) (H : Heap) (locs : List Loc) (ls : Array Slot), jb ≤ rdK w 1 → rdK w 1 + 1 ≤ jb + d → wd G A M H → va_S A s.heap H locs → lv_has ls 7 [(4, .int (nI jb)), (2, .int (bI (allN (mWh w i 1) jb && (allN (mWh w i 0) (rdK w 0) && true)))), (0, .ref x), (1, .int (nI i)), (3, .int 1)] → W p l e ({ frames := 3, cells := 0, slots := 0, locals := 69 }) s m [.ref x, .int (nI i)].toArray below meth c H locs (0) (0) (MQ below (QI G (fun r M' => r = bI (mWhs w i) ∧ M' = M) A) [.ref x, .int (nI i)].toArray s (0) (0) A) (F0 m 12 ls []) := by
          intro d
          induction d with
          | zero => intro jb H locs ls h1 h2; exact absurd h2 (by omega)
          | succ d ih =>
            intro jb H locs ls hjb1 hjb2 hw hS hl
            have hbb : rdK w 1 ≤ 1024 := hm.kb (by decide)
            refine lv_iload hx hb dX7_areWhole_12 (lv_at hl 0 rfl) ?_
            refine lv_aload_n hx hb dX7_areWhole_14 rfl (lv_at hl 2 rfl) ?_
            refine m_get X iX7 hK hw hx0 rfl 1 (by decide) (ref := "ObjectMapperModel") (by decide +kernel) (Or.inl rfl) rfl dX7_areWhole_15 ?_
            refine lv_iload_n hx hb dX7_areWhole_18 rfl (lv_at hl 4 rfl) ?_
            have ix2 : (1 : Int32) = nI 1 := rfl
            have ix2b : 1 < 2 := (by decide)
            refine m_iald X hK hw (hm.a1) (i := 1) (by rw [ix2]; exact vp_in_nI ix2b (by decide)) dX7_areWhole_19 ?_
            rw [show (1 : Int32).toNatClampNeg = 1 from by rw [ix2]; exact nI_clamp (by omega)]
            refine lv_icmp_ge (tgt := 137) hx hb dX7_areWhole_20 (by decide) (fun c_20 => ?_) (fun c_20 => ?_)
            · have hknb : rdK w 1 ≤ jb := (nI_leI (by omega) (by omega)).mp c_20
              have hjjb : jb = rdK w 1 := by omega
              rw [hjjb] at hl
              refine lv_iinc (v := 2) (lv' := [(3, .int 2), (4, .int (nI (rdK w 1))), (2, .int (bI (allN (mWh w i 1) (rdK w 1) && (allN (mWh w i 0) (rdK w 0) && true)))), (0, .ref x), (1, .int (nI i))]) hx hb dX7_areWhole_137 hl (k := 4) rfl (by decide) (by decide) rfl (fun ls hl => ?_)
              refine lv_goto (tgt := 4) hx hb dX7_areWhole_140 (by decide) ?_
              refine lv_iload_n hx hb dX7_areWhole_4 rfl (lv_at hl 0 rfl) ?_
              refine lv_iconst (v := 1) hx hb dX7_areWhole_5 (by decide) ?_
              refine lv_icmp_gt (tgt := 143) hx hb dX7_areWhole_6 (by decide) (fun _ => ?_) (fun c_6 => absurd (by decide) c_6)
              refine lv_iload_n hx hb dX7_areWhole_143 rfl (lv_at hl 2 rfl) ?_
              exact m_zret X (bI_nar _) hK hw hS ⟨rfl, rfl⟩ (by omega) (by omega) dX7_areWhole_144
            · have hklb : jb < rdK w 1 := Nat.lt_of_not_le (fun q => c_20 (nI_le q (by omega)))
              have hj9b : jb < 1024 := by omega
              have hkwb : jb < rdK w 1 := hklb
              have jn23_q3 : ∀ (v : Int32) (H : Heap) (locs : List Loc), v = bI (mMd w i 1 jb || mDr w i 1 jb) → wd G A M H → va_S A s.heap H locs → W p l e ({ frames := 3, cells := 0, slots := 0, locals := 69 }) s m [.ref x, .int (nI i)].toArray below meth c H locs (0) (0) (MQ below (QI G (fun r M' => r = bI (mWhs w i) ∧ M' = M) A) [.ref x, .int (nI i)].toArray s (0) (0) A) (F0 m 50 ls [(.int v)]) := by
                intro v H locs hv9 hw hS
                rw [hv9]
                refine lv_istore (lv' := [(5, .int (bI (mMd w i 1 jb || mDr w i 1 jb))), (4, .int (nI jb)), (2, .int (bI (allN (mWh w i 1) jb && (allN (mWh w i 0) (rdK w 0) && true)))), (0, .ref x), (1, .int (nI i)), (3, .int 1)]) hx hb dX7_areWhole_50 hl (by decide) rfl (fun ls hl => ?_)
                have jn52_q4 : ∀ (v : Int32) (H : Heap) (locs : List Loc), v = mRf w i 1 jb → wd G A M H → va_S A s.heap H locs → W p l e ({ frames := 3, cells := 0, slots := 0, locals := 69 }) s m [.ref x, .int (nI i)].toArray below meth c H locs (0) (0) (MQ below (QI G (fun r M' => r = bI (mWhs w i) ∧ M' = M) A) [.ref x, .int (nI i)].toArray s (0) (0) A) (F0 m 83 ls [(.int v)]) := by
                  intro v H locs hv9 hw hS
                  rw [hv9]
                  refine lv_istore (lv' := [(6, .int (mRf w i 1 jb)), (5, .int (bI (mMd w i 1 jb || mDr w i 1 jb))), (4, .int (nI jb)), (2, .int (bI (allN (mWh w i 1) jb && (allN (mWh w i 0) (rdK w 0) && true)))), (0, .ref x), (1, .int (nI i)), (3, .int 1)]) hx hb dX7_areWhole_83 hl (by decide) rfl (fun ls hl => ?_)
                  have jn85_q5 : ∀ (v : Int32) (H : Heap) (locs : List Loc), v = bI ((allN (mWh w i 1) jb && (allN (mWh w i 0) (rdK w 0) && true)) && mWh w i 1 jb) → wd G A M H → va_S A s.heap H locs → W p l e ({ frames := 3, cells := 0, slots := 0, locals := 69 }) s m [.ref x, .int (nI i)].toArray below meth c H locs (0) (0) (MQ below (QI G (fun r M' => r = bI (mWhs w i) ∧ M' = M) A) [.ref x, .int (nI i)].toArray s (0) (0) A) (F0 m 130 ls [(.int v)]) := by
                    intro v H locs hv9 hw hS
                    rw [hv9]
                    rw [show ((allN (mWh w i 1) jb && (allN (mWh w i 0) (rdK w 0) && true)) && mWh w i 1 jb) = (allN (mWh w i 1) (jb + 1) && (allN (mWh w i 0) (rdK w 0) && true)) from Bool.and_right_comm _ _ _]
                    refine lv_istore_n (lv' := [(2, .int (bI (allN (mWh w i 1) (jb + 1) && (allN (mWh w i 0) (rdK w 0) && true)))), (6, .int (mRf w i 1 jb)), (5, .int (bI (mMd w i 1 jb || mDr w i 1 jb))), (4, .int (nI jb)), (0, .ref x), (1, .int (nI i)), (3, .int 1)]) hx hb dX7_areWhole_130 rfl hl (by decide) rfl (fun ls hl => ?_)
                    refine lv_iinc (v := (nI (jb + 1))) (lv' := [(4, .int (nI (jb + 1))), (2, .int (bI (allN (mWh w i 1) (jb + 1) && (allN (mWh w i 0) (rdK w 0) && true)))), (6, .int (mRf w i 1 jb)), (5, .int (bI (mMd w i 1 jb || mDr w i 1 jb))), (0, .ref x), (1, .int (nI i)), (3, .int 1)]) hx hb dX7_areWhole_131 hl (k := 3) rfl (nI_1 _) (by decide) rfl (fun ls hl => ?_)
                    refine lv_goto (tgt := 12) hx hb dX7_areWhole_134 (by decide) ?_
                    exact ih (jb + 1) H locs ls (by omega) (by omega) hw hS (lv_sub hl [0, 1, 4, 5, 6] rfl)
                  refine lv_iload_n hx hb dX7_areWhole_85 rfl (lv_at hl 3 rfl) ?_
                  refine lv_if_eq (tgt := 129) hx hb dX7_areWhole_86 (by decide) (fun c_86 => ?_) (fun c_86 => ?_)
                  · refine lv_iconst (v := 0) hx hb dX7_areWhole_129 (by decide) ?_
                    exact jn85_q5 _ _ _ (by rw [((bI_0 _).mp c_86)]; rfl) hw hS
                  · refine lv_aload_n hx hb dX7_areWhole_89 rfl (lv_at hl 4 rfl) ?_
                    refine m_get X iX7 hK hw hx0 rfl 6 (by decide) (ref := "ObjectMapperModel") (by decide +kernel) (Or.inl rfl) rfl dX7_areWhole_90 ?_
                    refine lv_iload_n hx hb dX7_areWhole_93 rfl (lv_at hl 6 rfl) ?_
                    refine lv_iload hx hb dX7_areWhole_94 (lv_at hl 2 rfl) ?_
                    refine m_callSi X hK hw hZ hS hA (As := [.int 1, .int (nI jb)]) (rest := [.ref (ad 6)]) (c_rowK l G dce _ M 1 jb 1 rfl (nI jb) rfl) (va_cwS 2 hts gX7_areWhole_X7_row rfl rfl rfl (by decide +kernel) ⟨Nat.le_of_ble_eq_true rfl, Nat.le_of_ble_eq_true rfl⟩) rfl hl.1 rfl (Nat.le_of_ble_eq_true rfl) dX7_areWhole_96 (Nat.le_of_ble_eq_true rfl) (Nat.le_of_ble_eq_true rfl) (fun r7 M6 H locs hp hw hS hz hk => ?_)
                    rw [hp.2] at hw
                    rw [hp.1]
                    have ix8 : ((nI (rP 1 jb)) : Int32) = nI (rP 1 jb) := rfl
                    have ix8b : (rP 1 jb) < 2048 := (rP_lt (by decide) hj9b)
                    refine m_zald X hK hw (hm.a6) (i := (nI (rP 1 jb))) (by rw [ix8]; exact vp_in_nI ix8b (by decide)) dX7_areWhole_99 ?_
                    rw [show ((nI (rP 1 jb)) : Int32).toNatClampNeg = (rP 1 jb) from by rw [ix8]; exact nI_clamp (by omega)]
                    refine lv_if_eq (tgt := 125) hx hb dX7_areWhole_100 (by decide) (fun c_100 => ?_) (fun c_100 => ?_)
                    · refine lv_iconst (v := 1) hx hb dX7_areWhole_125 (by decide) ?_
                      refine lv_goto (tgt := 130) hx hb dX7_areWhole_126 (by decide) ?_
                      exact jn85_q5 _ _ _ (by rw [(bI_t c_86), Bool.true_and, show mWh w i 1 jb = (decide (rdT w 6 (rP 1 jb) = 0) || (decide (mRf w i 1 jb = -1) || !decide (rdT w 6 (rP (1 - 1) (mRf w i 1 jb).toNatClampNeg) = 0))) from rfl, decide_eq_true c_100]; first | rfl | simp [bI]) hw hS
                    · refine lv_iload hx hb dX7_areWhole_103 (lv_at hl 0 rfl) ?_
                      refine lv_iconst (v := (-1)) hx hb dX7_areWhole_105 (by decide) ?_
                      refine lv_icmp_eq (tgt := 125) hx hb dX7_areWhole_106 (by decide) (fun c_106 => ?_) (fun c_106 => ?_)
                      · refine lv_iconst (v := 1) hx hb dX7_areWhole_125 (by decide) ?_
                        refine lv_goto (tgt := 130) hx hb dX7_areWhole_126 (by decide) ?_
                        exact jn85_q5 _ _ _ (by rw [(bI_t c_86), Bool.true_and, show mWh w i 1 jb = (decide (rdT w 6 (rP 1 jb) = 0) || (decide (mRf w i 1 jb = -1) || !decide (rdT w 6 (rP (1 - 1) (mRf w i 1 jb).toNatClampNeg) = 0))) from rfl, decide_eq_false c_100, decide_eq_true c_106]; first | rfl | simp [bI]) hw hS
                      · obtain ⟨q9, hq9, eq9⟩ : ∃ q : Nat, q < rdK w (1 - 1) ∧ mRf w i 1 jb = nI q := (hwp 1 jb (by decide) hklb (by exact c_100)).resolve_left c_106
                        have hq9b := hm.kb (k := 1 - 1) (by decide)
                        have eq9c : (mRf w i 1 jb).toNatClampNeg = q9 := by rw [eq9]; exact nI_clamp (by omega)
                        have hq9d : q9 < 1024 := by omega
                        refine lv_aload_n hx hb dX7_areWhole_109 rfl (lv_at hl 4 rfl) ?_
                        refine m_get X iX7 hK hw hx0 rfl 6 (by decide) (ref := "ObjectMapperModel") (by decide +kernel) (Or.inl rfl) rfl dX7_areWhole_110 ?_
                        refine lv_iconst (v := 1) hx hb dX7_areWhole_113 (by decide) ?_
                        refine lv_iload_n hx hb dX7_areWhole_114 rfl (lv_at hl 6 rfl) ?_
                        refine lv_isub hx hb dX7_areWhole_115 ?_
                        rw [show (1 : Int32) - 1 = 0 from by decide]
                        refine lv_iload hx hb dX7_areWhole_116 (lv_at hl 0 rfl) ?_
                        refine m_callSi X hK hw hZ hS hA (As := [.int 0, .int (mRf w i 1 jb)]) (rest := [.ref (ad 6)]) (c_rowK l G dce _ M (1 - 1) q9 0 rfl (mRf w i 1 jb) eq9) (va_cwS 2 hts gX7_areWhole_X7_row rfl rfl rfl (by decide +kernel) ⟨Nat.le_of_ble_eq_true rfl, Nat.le_of_ble_eq_true rfl⟩) rfl hl.1 rfl (Nat.le_of_ble_eq_true rfl) dX7_areWhole_118 (Nat.le_of_ble_eq_true rfl) (Nat.le_of_ble_eq_true rfl) (fun r10 M9 H locs hp hw hS hz hk => ?_)
                        rw [hp.2] at hw
                        rw [hp.1]
                        have ix11 : ((nI (rP (1 - 1) q9)) : Int32) = nI (rP (1 - 1) q9) := rfl
                        have ix11b : (rP (1 - 1) q9) < 2048 := (rP_lt (by decide) hq9d)
                        refine m_zald X hK hw (hm.a6) (i := (nI (rP (1 - 1) q9))) (by rw [ix11]; exact vp_in_nI ix11b (by decide)) dX7_areWhole_121 ?_
                        rw [show ((nI (rP (1 - 1) q9)) : Int32).toNatClampNeg = (rP (1 - 1) q9) from by rw [ix11]; exact nI_clamp (by omega)]
                        refine lv_if_eq (tgt := 129) hx hb dX7_areWhole_122 (by decide) (fun c_122 => ?_) (fun c_122 => ?_)
                        · refine lv_iconst (v := 0) hx hb dX7_areWhole_129 (by decide) ?_
                          exact jn85_q5 _ _ _ (by rw [(bI_t c_86), Bool.true_and, show mWh w i 1 jb = (decide (rdT w 6 (rP 1 jb) = 0) || (decide (mRf w i 1 jb = -1) || !decide (rdT w 6 (rP (1 - 1) q9) = 0))) from by rw [← eq9c]; rfl, decide_eq_false c_100, decide_eq_false c_106, decide_eq_true c_122]; first | rfl | simp [bI]) hw hS
                        · refine lv_iconst (v := 1) hx hb dX7_areWhole_125 (by decide) ?_
                          refine lv_goto (tgt := 130) hx hb dX7_areWhole_126 (by decide) ?_
                          exact jn85_q5 _ _ _ (by rw [(bI_t c_86), Bool.true_and, show mWh w i 1 jb = (decide (rdT w 6 (rP 1 jb) = 0) || (decide (mRf w i 1 jb = -1) || !decide (rdT w 6 (rP (1 - 1) q9) = 0))) from by rw [← eq9c]; rfl, decide_eq_false c_100, decide_eq_false c_106, decide_eq_false c_122]; first | rfl | simp [bI]) hw hS
                refine lv_iload hx hb dX7_areWhole_52 (lv_at hl 0 rfl) ?_
                refine lv_if_eq (tgt := 72) hx hb dX7_areWhole_54 (by decide) (fun c_54 => ?_) (fun c_54 => ?_)
                · refine lv_aload_n hx hb dX7_areWhole_72 rfl (lv_at hl 3 rfl) ?_
                  refine m_get X iX7 hK hw hx0 rfl 4 (by decide) (ref := "ObjectMapperModel") (by decide +kernel) (Or.inl rfl) rfl dX7_areWhole_73 ?_
                  refine lv_iload_n hx hb dX7_areWhole_76 rfl (lv_at hl 5 rfl) ?_
                  refine lv_iload hx hb dX7_areWhole_77 (lv_at hl 1 rfl) ?_
                  refine m_callSi X hK hw hZ hS hA (As := [.int 1, .int (nI jb)]) (rest := [.ref (ad 4)]) (c_rowK l G dce _ M 1 jb 1 rfl (nI jb) rfl) (va_cwS 2 hts gX7_areWhole_X7_row rfl rfl rfl (by decide +kernel) ⟨Nat.le_of_ble_eq_true rfl, Nat.le_of_ble_eq_true rfl⟩) rfl hl.1 rfl (Nat.le_of_ble_eq_true rfl) dX7_areWhole_79 (Nat.le_of_ble_eq_true rfl) (Nat.le_of_ble_eq_true rfl) (fun r13 M12 H locs hp hw hS hz hk => ?_)
                  rw [hp.2] at hw
                  rw [hp.1]
                  have ix14 : ((nI (rP 1 jb)) : Int32) = nI (rP 1 jb) := rfl
                  have ix14b : (rP 1 jb) < 2048 := (rP_lt (by decide) hj9b)
                  refine m_iald X hK hw (hm.a4) (i := (nI (rP 1 jb))) (by rw [ix14]; exact vp_in_nI ix14b (by decide)) dX7_areWhole_82 ?_
                  rw [show ((nI (rP 1 jb)) : Int32).toNatClampNeg = (rP 1 jb) from by rw [ix14]; exact nI_clamp (by omega)]
                  exact jn52_q4 _ _ _ (by unfold mRf; rw [if_neg (by simp [((bI_0 _).mp c_54)])]) hw hS
                · refine lv_aload_n hx hb dX7_areWhole_57 rfl (lv_at hl 3 rfl) ?_
                  refine m_get X iX7 hK hw hx0 rfl 10 (by decide) (ref := "ObjectMapperModel") (by decide +kernel) (Or.inl rfl) rfl dX7_areWhole_58 ?_
                  refine lv_iload_n hx hb dX7_areWhole_61 rfl (lv_at hl 4 rfl) ?_
                  refine lv_iload_n hx hb dX7_areWhole_62 rfl (lv_at hl 5 rfl) ?_
                  refine lv_iload hx hb dX7_areWhole_63 (lv_at hl 1 rfl) ?_
                  refine m_callSi X hK hw hZ hS hA (As := [.int (nI i), .int 1, .int (nI jb)]) (rest := [.ref (ad 10)]) (c_atK l G dce _ M i 1 jb (nI i) rfl 1 rfl (nI jb) rfl) (va_cwS 3 hts gX7_areWhole_X7_at rfl rfl rfl (by decide +kernel) ⟨Nat.le_of_ble_eq_true rfl, Nat.le_of_ble_eq_true rfl⟩) rfl hl.1 rfl (Nat.le_of_ble_eq_true rfl) dX7_areWhole_65 (Nat.le_of_ble_eq_true rfl) (Nat.le_of_ble_eq_true rfl) (fun r16 M15 H locs hp hw hS hz hk => ?_)
                  rw [hp.2] at hw
                  rw [hp.1]
                  have ix17 : ((nI (aP i 1 jb)) : Int32) = nI (aP i 1 jb) := rfl
                  have ix17b : (aP i 1 jb) < 6144 := (aP_lt hi (by decide) hj9b)
                  refine m_iald X hK hw (hm.a10) (i := (nI (aP i 1 jb))) (by rw [ix17]; exact vp_in_nI ix17b (by decide)) dX7_areWhole_68 ?_
                  rw [show ((nI (aP i 1 jb)) : Int32).toNatClampNeg = (aP i 1 jb) from by rw [ix17]; exact nI_clamp (by omega)]
                  refine lv_goto (tgt := 83) hx hb dX7_areWhole_69 (by decide) ?_
                  exact jn52_q4 _ _ _ (by unfold mRf; rw [if_pos (by simp [(bI_t c_54)])]) hw hS
              refine lv_aload_n hx hb dX7_areWhole_23 rfl (lv_at hl 2 rfl) ?_
              refine lv_iload_n hx hb dX7_areWhole_24 rfl (lv_at hl 3 rfl) ?_
              refine lv_iload_n hx hb dX7_areWhole_25 rfl (lv_at hl 4 rfl) ?_
              refine lv_iload hx hb dX7_areWhole_26 (lv_at hl 0 rfl) ?_
              refine m_callVi X (ci := 8) rfl hx0 hK hw hZ hS hA (As := [.int (nI i), .int 1, .int (nI jb)]) (rest := []) (c_isMadeK l G dce _ M x ad w hm i 1 jb hi (by decide) hj9b (nI i) rfl 1 rfl) (cwV 3 hts gX7_areWhole_X7_isMade rfl rfl rfl (by decide +kernel) ⟨Nat.le_of_ble_eq_true rfl, Nat.le_of_ble_eq_true rfl⟩) rfl hl.1 rfl (Nat.le_of_ble_eq_true rfl) dX7_areWhole_28 (Nat.le_of_ble_eq_true rfl) (Nat.le_of_ble_eq_true rfl) (fun r19 M18 H locs hp hw hS hz hk => ?_)
              rw [hp.2] at hw
              rw [hp.1]
              refine lv_if_ne (tgt := 45) hx hb dX7_areWhole_31 (by decide) (fun c_31 => ?_) (fun c_31 => ?_)
              · refine lv_iconst (v := 1) hx hb dX7_areWhole_45 (by decide) ?_
                refine lv_goto (tgt := 50) hx hb dX7_areWhole_46 (by decide) ?_
                exact jn23_q3 _ _ _ (by simp [bI, (bI_t c_31)]) hw hS
              · refine lv_aload_n hx hb dX7_areWhole_34 rfl (lv_at hl 2 rfl) ?_
                refine lv_iload_n hx hb dX7_areWhole_35 rfl (lv_at hl 3 rfl) ?_
                refine lv_iload_n hx hb dX7_areWhole_36 rfl (lv_at hl 4 rfl) ?_
                refine lv_iload hx hb dX7_areWhole_37 (lv_at hl 0 rfl) ?_
                refine m_callVi X (ci := 8) rfl hx0 hK hw hZ hS hA (As := [.int (nI i), .int 1, .int (nI jb)]) (rest := []) (c_isDirtyK l G dce _ M x ad w hm i 1 jb hi (by decide) hj9b (nI i) rfl 1 rfl) (cwV 3 hts gX7_areWhole_X7_isDirty rfl rfl rfl (by decide +kernel) ⟨Nat.le_of_ble_eq_true rfl, Nat.le_of_ble_eq_true rfl⟩) rfl hl.1 rfl (Nat.le_of_ble_eq_true rfl) dX7_areWhole_39 (Nat.le_of_ble_eq_true rfl) (Nat.le_of_ble_eq_true rfl) (fun r21 M20 H locs hp hw hS hz hk => ?_)
                rw [hp.2] at hw
                rw [hp.1]
                refine lv_if_eq (tgt := 49) hx hb dX7_areWhole_42 (by decide) (fun c_42 => ?_) (fun c_42 => ?_)
                · refine lv_iconst (v := 0) hx hb dX7_areWhole_49 (by decide) ?_
                  exact jn23_q3 _ _ _ (by simp [bI, ((bI_0 _).mp c_31), ((bI_0 _).mp c_42)]) hw hS
                · refine lv_iconst (v := 1) hx hb dX7_areWhole_45 (by decide) ?_
                  refine lv_goto (tgt := 50) hx hb dX7_areWhole_46 (by decide) ?_
                  exact jn23_q3 _ _ _ (by simp [bI, ((bI_0 _).mp c_31), (bI_t c_42)]) hw hS
        exact loopb (rdK w 1 + 1) 0 _ _ ls (Nat.zero_le _) (Nat.le_of_eq (Nat.zero_add _).symm) hw hS (lv_sub hl [0, 2, 3, 4, 1] rfl)
      · have hkla : ja < rdK w 0 := Nat.lt_of_not_le (fun q => c_20 (nI_le q (by omega)))
        have hj9a : ja < 1024 := by omega
        have hkwa : ja < rdK w 0 := hkla
        have jn23_q22 : ∀ (v : Int32) (H : Heap) (locs : List Loc), v = bI (mMd w i 0 ja || mDr w i 0 ja) → wd G A M H → va_S A s.heap H locs → W p l e ({ frames := 3, cells := 0, slots := 0, locals := 69 }) s m [.ref x, .int (nI i)].toArray below meth c H locs (0) (0) (MQ below (QI G (fun r M' => r = bI (mWhs w i) ∧ M' = M) A) [.ref x, .int (nI i)].toArray s (0) (0) A) (F0 m 50 ls [(.int v)]) := by
          intro v H locs hv9 hw hS
          rw [hv9]
          refine lv_istore (lv' := [(5, .int (bI (mMd w i 0 ja || mDr w i 0 ja))), (4, .int (nI ja)), (2, .int (bI (allN (mWh w i 0) ja && true))), (0, .ref x), (1, .int (nI i)), (3, .int 0)]) hx hb dX7_areWhole_50 hl (by decide) rfl (fun ls hl => ?_)
          have jn52_q23 : ∀ (v : Int32) (H : Heap) (locs : List Loc), v = mRf w i 0 ja → wd G A M H → va_S A s.heap H locs → W p l e ({ frames := 3, cells := 0, slots := 0, locals := 69 }) s m [.ref x, .int (nI i)].toArray below meth c H locs (0) (0) (MQ below (QI G (fun r M' => r = bI (mWhs w i) ∧ M' = M) A) [.ref x, .int (nI i)].toArray s (0) (0) A) (F0 m 83 ls [(.int v)]) := by
            intro v H locs hv9 hw hS
            rw [hv9]
            refine lv_istore (lv' := [(6, .int (mRf w i 0 ja)), (5, .int (bI (mMd w i 0 ja || mDr w i 0 ja))), (4, .int (nI ja)), (2, .int (bI (allN (mWh w i 0) ja && true))), (0, .ref x), (1, .int (nI i)), (3, .int 0)]) hx hb dX7_areWhole_83 hl (by decide) rfl (fun ls hl => ?_)
            have jn85_q24 : ∀ (v : Int32) (H : Heap) (locs : List Loc), v = bI ((allN (mWh w i 0) ja && true) && mWh w i 0 ja) → wd G A M H → va_S A s.heap H locs → W p l e ({ frames := 3, cells := 0, slots := 0, locals := 69 }) s m [.ref x, .int (nI i)].toArray below meth c H locs (0) (0) (MQ below (QI G (fun r M' => r = bI (mWhs w i) ∧ M' = M) A) [.ref x, .int (nI i)].toArray s (0) (0) A) (F0 m 130 ls [(.int v)]) := by
              intro v H locs hv9 hw hS
              rw [hv9]
              rw [show ((allN (mWh w i 0) ja && true) && mWh w i 0 ja) = (allN (mWh w i 0) (ja + 1) && true) from Bool.and_right_comm _ _ _]
              refine lv_istore_n (lv' := [(2, .int (bI (allN (mWh w i 0) (ja + 1) && true))), (6, .int (mRf w i 0 ja)), (5, .int (bI (mMd w i 0 ja || mDr w i 0 ja))), (4, .int (nI ja)), (0, .ref x), (1, .int (nI i)), (3, .int 0)]) hx hb dX7_areWhole_130 rfl hl (by decide) rfl (fun ls hl => ?_)
              refine lv_iinc (v := (nI (ja + 1))) (lv' := [(4, .int (nI (ja + 1))), (2, .int (bI (allN (mWh w i 0) (ja + 1) && true))), (6, .int (mRf w i 0 ja)), (5, .int (bI (mMd w i 0 ja || mDr w i 0 ja))), (0, .ref x), (1, .int (nI i)), (3, .int 0)]) hx hb dX7_areWhole_131 hl (k := 3) rfl (nI_1 _) (by decide) rfl (fun ls hl => ?_)
              refine lv_goto (tgt := 12) hx hb dX7_areWhole_134 (by decide) ?_
              exact ih (ja + 1) H locs ls (by omega) (by omega) hw hS (lv_sub hl [0, 1, 4, 5, 6] rfl)
            refine lv_iload_n hx hb dX7_areWhole_85 rfl (lv_at hl 3 rfl) ?_
            refine lv_if_eq (tgt := 129) hx hb dX7_areWhole_86 (by decide) (fun c_86 => ?_) (fun c_86 => ?_)
            · refine lv_iconst (v := 0) hx hb dX7_areWhole_129 (by decide) ?_
              exact jn85_q24 _ _ _ (by rw [((bI_0 _).mp c_86)]; rfl) hw hS
            · refine lv_aload_n hx hb dX7_areWhole_89 rfl (lv_at hl 4 rfl) ?_
              refine m_get X iX7 hK hw hx0 rfl 6 (by decide) (ref := "ObjectMapperModel") (by decide +kernel) (Or.inl rfl) rfl dX7_areWhole_90 ?_
              refine lv_iload_n hx hb dX7_areWhole_93 rfl (lv_at hl 6 rfl) ?_
              refine lv_iload hx hb dX7_areWhole_94 (lv_at hl 2 rfl) ?_
              refine m_callSi X hK hw hZ hS hA (As := [.int 0, .int (nI ja)]) (rest := [.ref (ad 6)]) (c_rowK l G dce _ M 0 ja 0 rfl (nI ja) rfl) (va_cwS 2 hts gX7_areWhole_X7_row rfl rfl rfl (by decide +kernel) ⟨Nat.le_of_ble_eq_true rfl, Nat.le_of_ble_eq_true rfl⟩) rfl hl.1 rfl (Nat.le_of_ble_eq_true rfl) dX7_areWhole_96 (Nat.le_of_ble_eq_true rfl) (Nat.le_of_ble_eq_true rfl) (fun r26 M25 H locs hp hw hS hz hk => ?_)
              rw [hp.2] at hw
              rw [hp.1]
              have ix27 : ((nI (rP 0 ja)) : Int32) = nI (rP 0 ja) := rfl
              have ix27b : (rP 0 ja) < 2048 := (rP_lt (by decide) hj9a)
              refine m_zald X hK hw (hm.a6) (i := (nI (rP 0 ja))) (by rw [ix27]; exact vp_in_nI ix27b (by decide)) dX7_areWhole_99 ?_
              rw [show ((nI (rP 0 ja)) : Int32).toNatClampNeg = (rP 0 ja) from by rw [ix27]; exact nI_clamp (by omega)]
              refine lv_if_eq (tgt := 125) hx hb dX7_areWhole_100 (by decide) (fun c_100 => ?_) (fun c_100 => ?_)
              · refine lv_iconst (v := 1) hx hb dX7_areWhole_125 (by decide) ?_
                refine lv_goto (tgt := 130) hx hb dX7_areWhole_126 (by decide) ?_
                exact jn85_q24 _ _ _ (by rw [(bI_t c_86), Bool.true_and, show mWh w i 0 ja = (decide (rdT w 6 (rP 0 ja) = 0) || (decide (mRf w i 0 ja = -1) || !decide (rdT w 6 (rP (1 - 0) (mRf w i 0 ja).toNatClampNeg) = 0))) from rfl, decide_eq_true c_100]; first | rfl | simp [bI]) hw hS
              · refine lv_iload hx hb dX7_areWhole_103 (lv_at hl 0 rfl) ?_
                refine lv_iconst (v := (-1)) hx hb dX7_areWhole_105 (by decide) ?_
                refine lv_icmp_eq (tgt := 125) hx hb dX7_areWhole_106 (by decide) (fun c_106 => ?_) (fun c_106 => ?_)
                · refine lv_iconst (v := 1) hx hb dX7_areWhole_125 (by decide) ?_
                  refine lv_goto (tgt := 130) hx hb dX7_areWhole_126 (by decide) ?_
                  exact jn85_q24 _ _ _ (by rw [(bI_t c_86), Bool.true_and, show mWh w i 0 ja = (decide (rdT w 6 (rP 0 ja) = 0) || (decide (mRf w i 0 ja = -1) || !decide (rdT w 6 (rP (1 - 0) (mRf w i 0 ja).toNatClampNeg) = 0))) from rfl, decide_eq_false c_100, decide_eq_true c_106]; first | rfl | simp [bI]) hw hS
                · obtain ⟨q9, hq9, eq9⟩ : ∃ q : Nat, q < rdK w (1 - 0) ∧ mRf w i 0 ja = nI q := (hwp 0 ja (by decide) hkla (by exact c_100)).resolve_left c_106
                  have hq9b := hm.kb (k := 1 - 0) (by decide)
                  have eq9c : (mRf w i 0 ja).toNatClampNeg = q9 := by rw [eq9]; exact nI_clamp (by omega)
                  have hq9d : q9 < 1024 := by omega
                  refine lv_aload_n hx hb dX7_areWhole_109 rfl (lv_at hl 4 rfl) ?_
                  refine m_get X iX7 hK hw hx0 rfl 6 (by decide) (ref := "ObjectMapperModel") (by decide +kernel) (Or.inl rfl) rfl dX7_areWhole_110 ?_
                  refine lv_iconst (v := 1) hx hb dX7_areWhole_113 (by decide) ?_
                  refine lv_iload_n hx hb dX7_areWhole_114 rfl (lv_at hl 6 rfl) ?_
                  refine lv_isub hx hb dX7_areWhole_115 ?_
                  rw [show (1 : Int32) - 0 = 1 from by decide]
                  refine lv_iload hx hb dX7_areWhole_116 (lv_at hl 0 rfl) ?_
                  refine m_callSi X hK hw hZ hS hA (As := [.int 1, .int (mRf w i 0 ja)]) (rest := [.ref (ad 6)]) (c_rowK l G dce _ M (1 - 0) q9 1 rfl (mRf w i 0 ja) eq9) (va_cwS 2 hts gX7_areWhole_X7_row rfl rfl rfl (by decide +kernel) ⟨Nat.le_of_ble_eq_true rfl, Nat.le_of_ble_eq_true rfl⟩) rfl hl.1 rfl (Nat.le_of_ble_eq_true rfl) dX7_areWhole_118 (Nat.le_of_ble_eq_true rfl) (Nat.le_of_ble_eq_true rfl) (fun r29 M28 H locs hp hw hS hz hk => ?_)
                  rw [hp.2] at hw
                  rw [hp.1]
                  have ix30 : ((nI (rP (1 - 0) q9)) : Int32) = nI (rP (1 - 0) q9) := rfl
                  have ix30b : (rP (1 - 0) q9) < 2048 := (rP_lt (by decide) hq9d)
                  refine m_zald X hK hw (hm.a6) (i := (nI (rP (1 - 0) q9))) (by rw [ix30]; exact vp_in_nI ix30b (by decide)) dX7_areWhole_121 ?_
                  rw [show ((nI (rP (1 - 0) q9)) : Int32).toNatClampNeg = (rP (1 - 0) q9) from by rw [ix30]; exact nI_clamp (by omega)]
                  refine lv_if_eq (tgt := 129) hx hb dX7_areWhole_122 (by decide) (fun c_122 => ?_) (fun c_122 => ?_)
                  · refine lv_iconst (v := 0) hx hb dX7_areWhole_129 (by decide) ?_
                    exact jn85_q24 _ _ _ (by rw [(bI_t c_86), Bool.true_and, show mWh w i 0 ja = (decide (rdT w 6 (rP 0 ja) = 0) || (decide (mRf w i 0 ja = -1) || !decide (rdT w 6 (rP (1 - 0) q9) = 0))) from by rw [← eq9c]; rfl, decide_eq_false c_100, decide_eq_false c_106, decide_eq_true c_122]; first | rfl | simp [bI]) hw hS
                  · refine lv_iconst (v := 1) hx hb dX7_areWhole_125 (by decide) ?_
                    refine lv_goto (tgt := 130) hx hb dX7_areWhole_126 (by decide) ?_
                    exact jn85_q24 _ _ _ (by rw [(bI_t c_86), Bool.true_and, show mWh w i 0 ja = (decide (rdT w 6 (rP 0 ja) = 0) || (decide (mRf w i 0 ja = -1) || !decide (rdT w 6 (rP (1 - 0) q9) = 0))) from by rw [← eq9c]; rfl, decide_eq_false c_100, decide_eq_false c_106, decide_eq_false c_122]; first | rfl | simp [bI]) hw hS
          refine lv_iload hx hb dX7_areWhole_52 (lv_at hl 0 rfl) ?_
          refine lv_if_eq (tgt := 72) hx hb dX7_areWhole_54 (by decide) (fun c_54 => ?_) (fun c_54 => ?_)
          · refine lv_aload_n hx hb dX7_areWhole_72 rfl (lv_at hl 3 rfl) ?_
            refine m_get X iX7 hK hw hx0 rfl 4 (by decide) (ref := "ObjectMapperModel") (by decide +kernel) (Or.inl rfl) rfl dX7_areWhole_73 ?_
            refine lv_iload_n hx hb dX7_areWhole_76 rfl (lv_at hl 5 rfl) ?_
            refine lv_iload hx hb dX7_areWhole_77 (lv_at hl 1 rfl) ?_
            refine m_callSi X hK hw hZ hS hA (As := [.int 0, .int (nI ja)]) (rest := [.ref (ad 4)]) (c_rowK l G dce _ M 0 ja 0 rfl (nI ja) rfl) (va_cwS 2 hts gX7_areWhole_X7_row rfl rfl rfl (by decide +kernel) ⟨Nat.le_of_ble_eq_true rfl, Nat.le_of_ble_eq_true rfl⟩) rfl hl.1 rfl (Nat.le_of_ble_eq_true rfl) dX7_areWhole_79 (Nat.le_of_ble_eq_true rfl) (Nat.le_of_ble_eq_true rfl) (fun r32 M31 H locs hp hw hS hz hk => ?_)
            rw [hp.2] at hw
            rw [hp.1]
            have ix33 : ((nI (rP 0 ja)) : Int32) = nI (rP 0 ja) := rfl
            have ix33b : (rP 0 ja) < 2048 := (rP_lt (by decide) hj9a)
            refine m_iald X hK hw (hm.a4) (i := (nI (rP 0 ja))) (by rw [ix33]; exact vp_in_nI ix33b (by decide)) dX7_areWhole_82 ?_
            rw [show ((nI (rP 0 ja)) : Int32).toNatClampNeg = (rP 0 ja) from by rw [ix33]; exact nI_clamp (by omega)]
            exact jn52_q23 _ _ _ (by unfold mRf; rw [if_neg (by simp [((bI_0 _).mp c_54)])]) hw hS
          · refine lv_aload_n hx hb dX7_areWhole_57 rfl (lv_at hl 3 rfl) ?_
            refine m_get X iX7 hK hw hx0 rfl 10 (by decide) (ref := "ObjectMapperModel") (by decide +kernel) (Or.inl rfl) rfl dX7_areWhole_58 ?_
            refine lv_iload_n hx hb dX7_areWhole_61 rfl (lv_at hl 4 rfl) ?_
            refine lv_iload_n hx hb dX7_areWhole_62 rfl (lv_at hl 5 rfl) ?_
            refine lv_iload hx hb dX7_areWhole_63 (lv_at hl 1 rfl) ?_
            refine m_callSi X hK hw hZ hS hA (As := [.int (nI i), .int 0, .int (nI ja)]) (rest := [.ref (ad 10)]) (c_atK l G dce _ M i 0 ja (nI i) rfl 0 rfl (nI ja) rfl) (va_cwS 3 hts gX7_areWhole_X7_at rfl rfl rfl (by decide +kernel) ⟨Nat.le_of_ble_eq_true rfl, Nat.le_of_ble_eq_true rfl⟩) rfl hl.1 rfl (Nat.le_of_ble_eq_true rfl) dX7_areWhole_65 (Nat.le_of_ble_eq_true rfl) (Nat.le_of_ble_eq_true rfl) (fun r35 M34 H locs hp hw hS hz hk => ?_)
            rw [hp.2] at hw
            rw [hp.1]
            have ix36 : ((nI (aP i 0 ja)) : Int32) = nI (aP i 0 ja) := rfl
            have ix36b : (aP i 0 ja) < 6144 := (aP_lt hi (by decide) hj9a)
            refine m_iald X hK hw (hm.a10) (i := (nI (aP i 0 ja))) (by rw [ix36]; exact vp_in_nI ix36b (by decide)) dX7_areWhole_68 ?_
            rw [show ((nI (aP i 0 ja)) : Int32).toNatClampNeg = (aP i 0 ja) from by rw [ix36]; exact nI_clamp (by omega)]
            refine lv_goto (tgt := 83) hx hb dX7_areWhole_69 (by decide) ?_
            exact jn52_q23 _ _ _ (by unfold mRf; rw [if_pos (by simp [(bI_t c_54)])]) hw hS
        refine lv_aload_n hx hb dX7_areWhole_23 rfl (lv_at hl 2 rfl) ?_
        refine lv_iload_n hx hb dX7_areWhole_24 rfl (lv_at hl 3 rfl) ?_
        refine lv_iload_n hx hb dX7_areWhole_25 rfl (lv_at hl 4 rfl) ?_
        refine lv_iload hx hb dX7_areWhole_26 (lv_at hl 0 rfl) ?_
        refine m_callVi X (ci := 8) rfl hx0 hK hw hZ hS hA (As := [.int (nI i), .int 0, .int (nI ja)]) (rest := []) (c_isMadeK l G dce _ M x ad w hm i 0 ja hi (by decide) hj9a (nI i) rfl 0 rfl) (cwV 3 hts gX7_areWhole_X7_isMade rfl rfl rfl (by decide +kernel) ⟨Nat.le_of_ble_eq_true rfl, Nat.le_of_ble_eq_true rfl⟩) rfl hl.1 rfl (Nat.le_of_ble_eq_true rfl) dX7_areWhole_28 (Nat.le_of_ble_eq_true rfl) (Nat.le_of_ble_eq_true rfl) (fun r38 M37 H locs hp hw hS hz hk => ?_)
        rw [hp.2] at hw
        rw [hp.1]
        refine lv_if_ne (tgt := 45) hx hb dX7_areWhole_31 (by decide) (fun c_31 => ?_) (fun c_31 => ?_)
        · refine lv_iconst (v := 1) hx hb dX7_areWhole_45 (by decide) ?_
          refine lv_goto (tgt := 50) hx hb dX7_areWhole_46 (by decide) ?_
          exact jn23_q22 _ _ _ (by simp [bI, (bI_t c_31)]) hw hS
        · refine lv_aload_n hx hb dX7_areWhole_34 rfl (lv_at hl 2 rfl) ?_
          refine lv_iload_n hx hb dX7_areWhole_35 rfl (lv_at hl 3 rfl) ?_
          refine lv_iload_n hx hb dX7_areWhole_36 rfl (lv_at hl 4 rfl) ?_
          refine lv_iload hx hb dX7_areWhole_37 (lv_at hl 0 rfl) ?_
          refine m_callVi X (ci := 8) rfl hx0 hK hw hZ hS hA (As := [.int (nI i), .int 0, .int (nI ja)]) (rest := []) (c_isDirtyK l G dce _ M x ad w hm i 0 ja hi (by decide) hj9a (nI i) rfl 0 rfl) (cwV 3 hts gX7_areWhole_X7_isDirty rfl rfl rfl (by decide +kernel) ⟨Nat.le_of_ble_eq_true rfl, Nat.le_of_ble_eq_true rfl⟩) rfl hl.1 rfl (Nat.le_of_ble_eq_true rfl) dX7_areWhole_39 (Nat.le_of_ble_eq_true rfl) (Nat.le_of_ble_eq_true rfl) (fun r40 M39 H locs hp hw hS hz hk => ?_)
          rw [hp.2] at hw
          rw [hp.1]
          refine lv_if_eq (tgt := 49) hx hb dX7_areWhole_42 (by decide) (fun c_42 => ?_) (fun c_42 => ?_)
          · refine lv_iconst (v := 0) hx hb dX7_areWhole_49 (by decide) ?_
            exact jn23_q22 _ _ _ (by simp [bI, ((bI_0 _).mp c_31), ((bI_0 _).mp c_42)]) hw hS
          · refine lv_iconst (v := 1) hx hb dX7_areWhole_45 (by decide) ?_
            refine lv_goto (tgt := 50) hx hb dX7_areWhole_46 (by decide) ?_
            exact jn23_q22 _ _ _ (by simp [bI, ((bI_0 _).mp c_31), (bI_t c_42)]) hw hS
  exact loopa (rdK w 0 + 1) 0 _ _ ls (Nat.zero_le _) (Nat.le_of_eq (Nat.zero_add _).symm) hw hS (lv_sub hl [0, 2, 3, 4, 1] rfl)
theorem c_areWholeK (l : Launch) (G : gG) (dce sz : Nat) (M : gM) (x : Nat) (ad : Nat → Nat) (w : mW) (hm : MW G M x ad w) (i : Nat) (hi : i < 3) (hwp : mWp w i) (si : Int32) (hsi : si = nI i) : mI l yX7_areWhole wsX7_areWhole ({ frames := 3, cells := 0, slots := 0, locals := 69 }) G dce sz M [.ref x, .int si] (fun r M' => r = bI (mWhs w i) ∧ M' = M) (0) (0) := by
  subst hsi
  exact c_areWhole l G dce sz M x ad w hm i hi hwp
