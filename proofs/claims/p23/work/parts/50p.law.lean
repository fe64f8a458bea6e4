/-! P23, PURE: what the law's helpers need -/
theorem LC.mono {G : gG} {dce x : Nat} {ad : Nat → Nat} {ca : Nat} {f : Nat → Int32} {P P1 : Nat → Prop} {n w n1 w1 : Nat} {M : gM} {y : cY} {z : cZ} (h : LC G dce x ad ca f P n w M y z) (hp : ∀ a, a < 3 → P1 a → P a) (hn : n ≤ n1) (hw : w ≤ w1) : LC G dce x ad ca f P1 n1 w1 M y z := ⟨h.1, h.2.1.mono hp hn hw, h.2.2⟩
/-- the journal's arrays are at most twice as long as what they hold -/
def CB (z : cZ) : Prop := zC z ≤ 64 ∨ zC z ≤ 2 * zW z
theorem CB.s {z z1 : cZ} (h : CB z) (s : zS z z1) : CB z1 := by
  unfold CB
  rw [s.2.2.1, s.2.2.2.2]
  exact h
theorem CB.no {z : cZ} (h : CB z) (ac : Int32) (k j : Nat) : CB (kNo ac k j z) := by
  show (if zW z < zC z then zC z else zC z + zW z) ≤ 64 ∨ (if zW z < zC z then zC z else zC z + zW z) ≤ 2 * (zW z + 1)
  unfold CB at h
  by_cases q : zW z < zC z
  · rw [if_pos q]
    omega
  · rw [if_neg q]
    omega
theorem CB.it {F : Nat → cZ → cZ} (hF : ∀ j z, CB z → CB (F j z)) {z : cZ} (h : CB z) : ∀ n, CB (itr F n z) := by
  intro n
  induction n with
  | zero => exact h
  | succ n ih => exact hF n _ ih
theorem CB.w {z : cZ} (h : CB z) (ac : Int32) (k j : Nat) (r : vR) : CB (kNo ac k j (sR z k j r)) := CB.no (z := sR z k j r) h ac k j
theorem CB.ia {i j : Nat} {z : cZ} (h : CB z) : CB (kIa i j z) := by
  unfold kIa
  split
  · exact h.w _ _ _ _
  · exact h
theorem CB.ib {i j : Nat} {z : cZ} (h : CB z) : CB (kIb i j z) := by
  unfold kIb
  split
  · exact h.w _ _ _ _
  · exact h
theorem CB.up {i k j : Nat} {z : cZ} (h : CB z) : CB (kUp i k j z) := by
  unfold kUp
  split
  · exact h.w _ _ _ _
  · exact h
theorem CB.de {i k j : Nat} {z : cZ} (h : CB z) : CB (kDe i k j z) := by
  unfold kDe
  split
  · exact h.w _ _ _ _
  · exact h
theorem CB.fl {z : cZ} (h : CB z) (i : Nat) : CB (kFl i z) :=
  CB.it (fun _ _ => CB.de) (CB.it (fun _ _ => CB.de) (CB.it (fun _ _ => CB.up) (CB.it (fun _ _ => CB.up) (CB.it (fun _ _ => CB.ib) (CB.it (fun _ _ => CB.ia) h _) _) _) _) _) _
theorem jH.C {P : Nat → Prop} {n w : Nat} {z : cZ} (h : jH P n w z) (hc : CB z) (hw : w ≤ 480) : zC z ≤ 960 := by
  have := h.W
  unfold CB at hc
  omega
/-- an object that is found has a key -/
theorem eV_liv {z : cZ} (hq : cEq z) (hn8 : ∀ u, u < 8 → zN z u ≤ 1024) {i k : Nat} (hi : i < 3) (hk : k < 2) {ky : Int32} (h : fLive (eV z i k ky) = true) : ∃ q, q < zN z k ∧ ky = nI q ∧ fLive (zE z (sL i k) q) = true := by
  have hn := hn8 k (by omega)
  by_cases q : inK (zN z (sL i k)) ky = true
  · obtain ⟨j, h1, h2⟩ := inK_n (by rw [hq i k hi hk]; exact hn) q
    rw [h2, eV_in (by rw [hq i k hi hk]; exact hn) h1] at h
    rw [hq i k hi hk] at h1
    exact ⟨j, h1, h2, h⟩
  · rw [show eV z i k ky = v0E from if_neg q] at h
    exact absurd h (by decide)
/-- what a reference may be set to -/
def rfH (i k j : Nat) (z : cZ) (rf : Int32) : Prop := (rf = -1 ∧ k = 0) ∨ (∃ q, q < zN z (1 - k) ∧ rf = nI q ∧ fLive (zE z (sL i (1 - k)) q) = true) ∨ rf = eRf (zE z (sL i k) j)
theorem nI_m1 {q : Nat} (h : q < 2 ^ 31) : nI q ≠ -1 := fun e => nI_pos h (by rw [e]; decide)
theorem rf_n1 {z : cZ} (hA : jA z) (hn8 : ∀ u, u < 8 → zN z u ≤ 1024) {i k j : Nat} (hi : i < 3) (hk : k < 2) (hj : j < zN z k) (hl : fLive (zE z (sL i k) j) = true) {rf : Int32} (hr : rfH i k j z rf) (e : rf = -1) : k = 0 := by
  have h8 := hn8 (1 - k) (by omega)
  rcases hr with h | ⟨q, hq, h, -⟩ | h
  · exact h.2
  · exact absurd (h.symm.trans e) (nI_m1 (by omega))
  · rcases (hA.2.1.1 i k j hi hk hj (fLive_1 hl).1).1 with g | ⟨q, hq, g⟩
    · exact g.2
    · exact absurd (g.symm.trans (h.symm.trans e)) (nI_m1 (by omega))
theorem rf_had {z : cZ} (hq : cEq z) (hn8 : ∀ u, u < 8 → zN z u ≤ 1024) {i k j : Nat} (hi : i < 3) (hk : k < 2) {rf : Int32} (hr : rfH i k j z rf) (e : ¬ rf = -1) (hf : fLive (eV (kFi i (1 - k) rf z) i (1 - k) rf) = false) : rf = eRf (zE z (sL i k) j) := by
  rcases hr with h | ⟨q, hq9, h, hl⟩ | h
  · exact absurd h.1 e
  · rw [h, fi_l hq hn8 hi (show 1 - k < 2 by omega) hq9, fi_o hq hn8 hi (show 1 - k < 2 by omega) _ (show 1 - k < 2 by omega) (fLive_1 hl).1, hl] at hf
    exact absurd hf (by decide)
  · exact h
theorem rf_kn {z : cZ} {i k j : Nat} (hi : i < 3) (hk : k < 2) (rf : Int32) : eRf (zE (kRf i k j rf z) (sL i k) j) = rf := by
  have u := zU_E (z := z) (i := i) (k := k) (j := j) (v := fRf (zE z (sL i k) j) rf) hk
  show eRf (zE (sE z (sL i k) j (fRf (zE z (sL i k) j) rf)) (sL i k) j) = rf
  rw [u.e hi hk]
  rfl
theorem kd_0 {k : Nat} (hk : k < 2) (h : nI k = 0) : k = 0 := by
  rcases (show k = 0 ∨ k = 1 by omega) with r | r
  · exact r
  · rw [r] at h
    exact absurd h (by decide)
theorem kd_n {k : Nat} (hk : k < 2) (h : ¬ nI k = 0) : k = 1 := by
  rcases (show k = 0 ∨ k = 1 by omega) with r | r
  · rw [r] at h
    exact absurd (by decide) h
  · exact r
theorem nI_1a (m : Nat) : (1 : Int32) + nI m = nI (m + 1) := by
  rw [Int32.add_comm]
  exact nI_1 m
theorem nI_lts {a b c : Nat} (ha : a ≤ 4096) (hb : b ≤ 4096) (hc : c ≤ 4096) (h : a ≤ c + b) : ¬ nI c < nI a - nI b := fun q => by
  rw [Int32.lt_iff_toInt_lt, show (nI a - nI b).toInt = (a : Int) - (b : Nat) from pk_sub_toInt (a := a) (b := b) (by omega) (by omega), nI_toInt (by omega)] at q
  omega
/-- loads leave what is live -/
theorem lds_l {i t : Nat} {z : cZ} (hi : i < 3) {c n : Nat} : zE (itr (kLd i 1 (nI t)) n z) (sL i 0) c = zE z (sL i 0) c := by
  rw [(lds_L hi (show 1 < 2 by decide) (nI t) z n).2 i 0 c hi (by decide), if_neg (fun q => absurd q.2.1 (by decide))]
theorem rmC_b {i a : Nat} {z : cZ} (hq : cEq z) (hi : i < 3) (hn8 : ∀ u, u < 8 → zN z u ≤ 1024) : rmC i a z ≤ 1024 := by
  unfold rmC
  rw [hq i 1 hi (by decide)]
  exact Nat.le_trans (cnt_le _ _) (hn8 1 (by decide))
theorem nOK_0 {nm : Int32} (h : nOK nm = true) : ¬ nm < 0 := fun q => by
  unfold nOK at h
  rw [decide_eq_true q] at h
  exact absurd h (by simp)
theorem okK_ge {z : cZ} (hn8 : ∀ u, u < 8 → zN z u ≤ 1024) {k : Nat} (hk : k < 2) {r : Int32} (h : okK z k r) : ¬ r < nI k - 1 := by
  rcases h with ⟨h1, h2⟩ | ⟨q, hq, h1⟩
  · rw [h1, h2]
    decide
  · rw [h1]
    have h8 := hn8 (1 - k) (by omega)
    rcases (show k = 0 ∨ k = 1 by omega) with e | e
    · rw [e]
      intro g
      rw [Int32.lt_iff_toInt_lt, nI_toInt (by omega), show (nI 0 - 1 : Int32).toInt = -1 from by decide] at g
      omega
    · rw [e]
      intro g
      rw [Int32.lt_iff_toInt_lt, nI_toInt (by omega), show (nI 1 - 1 : Int32).toInt = 0 from by decide] at g
      omega
/-- what is asked of a row -/
def ofR (r : vR) : Int32 := if r.1 = true then r.2.2.1 else -3
theorem of_t {r : vR} (h : r.1 = true) : ofR r = r.2.2.1 := if_pos h
theorem of_f {r : vR} (h : r.1 = false) : ofR r = -3 := if_neg (by rw [h]; decide)
/-- a row's reference isn't -3; where it isn't negative it leads to a row -/
theorem of_n3 {z : cZ} (hA : jA z) (hn8 : ∀ u, u < 8 → zN z u ≤ 1024) {k j : Nat} (hk : k < 2) (hj : j < zN z k) : ofR (zR z k j) = -3 ↔ (zR z k j).1 = false := by
  cases h : (zR z k j).1
  · rw [of_f h]
    exact ⟨fun _ => rfl, fun _ => rfl⟩
  · rw [of_t h]
    refine ⟨fun q => ?_, fun q => absurd q (by decide)⟩
    rcases (hA.2.1.2 k j hk hj h).1 with g | ⟨c, hc, g⟩
    · rw [g.1] at q
      exact absurd q (by decide)
    · rw [g] at q
      have h8 := hn8 (1 - k) (by omega)
      exact absurd (by rw [q]; decide) (nI_pos (n := c) (by omega))
theorem of_to {z : cZ} (hA : jA z) {k j : Nat} (hk : k < 2) (hj : j < zN z k) (h : ¬ ofR (zR z k j) < 0) : ∃ q, q < zN z (1 - k) ∧ ofR (zR z k j) = nI q ∧ (zR z (1 - k) q).1 = true := by
  cases h0 : (zR z k j).1
  · rw [of_f h0] at h
    exact absurd (by decide) h
  · rw [of_t h0] at h ⊢
    rcases (hA.2.1.2 k j hk hj h0).1 with g | ⟨c, hc, g⟩
    · rw [g.1] at h
      exact absurd (by decide) h
    · exact ⟨c, hc, g, hA.2.2.1 k j c hk hj hc h0 g⟩
/-- the last write says whether there is a row -/
theorem lw_row {z : cZ} (hJ : jJ z) {k j : Nat} (hk : k < 2) (hj : j < zN z k) : (lastW (zJ z) (nI (2 * j + k)) (zW z) = -1 ∨ lastW (zJ z) (nI (2 * j + k)) (zW z) = 2 ↔ (zR z k j).1 = false) := by
  rw [← hJ.2.2.2 k j hk hj]
  generalize lastW (zJ z) (nI (2 * j + k)) (zW z) = v
  unfold jr
  simp only [Bool.not_eq_false', Bool.or_eq_true, decide_eq_true_eq]
theorem lw_s1 {J : Nat → Nat → Int32} {t : Int32} {n : Nat} (h : J 1 n = t) : lastW J t (n + 1) = J 0 n := if_pos h
theorem lw_s0 {J : Nat → Nat → Int32} {t : Int32} {n : Nat} (h : ¬ J 1 n = t) : lastW J t (n + 1) = lastW J t n := if_neg h
/-- what a script's int is -/
theorem and31 (x : Int32) : ∃ v, v < 2 ^ 31 ∧ x &&& 2147483647 = nI v := by
  refine ⟨(x &&& 2147483647).toBitVec.toNat, ?_, ?_⟩
  · show (x.toBitVec &&& 2147483647#32).toNat < 2 ^ 31
    rw [BitVec.toNat_and]
    exact Nat.lt_of_le_of_lt Nat.and_le_right (by decide)
  · apply Int32.toBitVec_inj.mp
    show _ = (Int32.ofNat _).toBitVec
    rw [Int32.toBitVec_ofNat']
    exact (BitVec.ofNat_toNat _ _).symm ▸ (by simp)
theorem upd_1 (f : Nat → Int32) (k : Nat) (v : Int32) : upd f k v k = v := if_pos rfl
theorem upd_0 (f : Nat → Int32) {k j : Nat} (v : Int32) (h : j ≠ k) : upd f k v j = f j := if_neg h
theorem le0 {d : Nat} (h : nI d ≤ 0) (hd : d < 2 ^ 31) : d = 0 := by
  rcases Nat.eq_zero_or_pos d with e | e
  · exact e
  · exact absurd h (nI_nle e hd)
/-- what holds between the law's steps -/
def LSt (G : gG) (dce x : Nat) (ad : Nat → Nat) (ca n w : Nat) (M : gM) (y : cY) (z : cZ) : Prop := ∃ (f : Nat → Int32) (bm : Nat → Bool), LC G dce x ad ca f (fun a => bm a = false) n w M y z ∧ f 0 = nI (zN z 0) ∧ f 1 = nI (zN z 1) ∧ f 3 = msk bm ∧ CB z
theorem CB.mk {z : cZ} (h : CB z) (i k : Nat) (nm rf : Int32) : CB (kMk i k nm rf z) := h
theorem nOK_n {n : Nat} (h : n ≤ 1000) : nOK (nI n) = true := by
  unfold nOK
  rw [decide_eq_false (nI_pos (by omega)), decide_eq_true (show nI n ≤ 1000 from (nI_leI (b := 1000) (by omega) (by decide)).mpr h)]
  rfl
theorem fk_k {f : Nat → Int32} {z : cZ} (h0 : f 0 = nI (zN z 0)) (h1 : f 1 = nI (zN z 1)) {k : Nat} (hk : k < 2) : f k = nI (zN z k) := by
  rcases (show k = 0 ∨ k = 1 by omega) with r | r <;> rw [r]
  · exact h0
  · exact h1
theorem n0_of {n : Nat} (h : ¬ nI n = 0) : 0 < n := by
  rcases Nat.eq_zero_or_pos n with e | e
  · rw [e] at h
    exact absurd (by decide) h
  · exact e
theorem n0_e {n : Nat} (h : nI n = 0) (hn : n < 2 ^ 31) : n = 0 := nI_inj hn (by decide) (by rw [h]; decide)
theorem rem_l {a b : Nat} (ha : a < 2 ^ 31) (hb : b < 2 ^ 31) (h0 : 0 < b) {q : Int32} (hq : q = nI b) : nI a - nI a / q * q = nI (a % b) := by
  rw [hq]
  exact nI_rem ha hb h0
theorem div_l {a b : Nat} (ha : a < 2 ^ 31) (hb : b < 2 ^ 31) (h0 : 0 < b) {q : Int32} (hq : q = nI b) : nI a / q = nI (a / b) := by
  rw [hq]
  exact nI_div ha hb h0
/-- the beginning -/
theorem jH0 {P : Nat → Prop} {z : cZ} (hz : ∀ u, zN z u = 0) (hW : zW z = 0) (hC : zC z = 64) : jH P 0 0 z := by
  have no : ∀ {k j : Nat}, j < zN z k → False := fun {k j} hj => by
    rw [hz] at hj
    exact absurd hj (Nat.not_lt_zero j)
  refine ⟨fun i k _ _ => by rw [hz, hz], fun u _ => by rw [hz]; exact Nat.le_refl _, ⟨⟨fun i k j _ _ hj => (no hj).elim, ⟨fun i k j _ _ hj => (no hj).elim, fun k j _ hj => (no hj).elim⟩, fun k j q _ hj => (no hj).elim, fun i k j _ _ hj => (no hj).elim⟩, fun a _ _ => ⟨fun k j _ hj => (no hj).elim, fun k j q _ hj => (no hj).elim, fun k j q _ hj => (no hj).elim⟩⟩, ⟨by rw [hW]; exact Nat.zero_le _, by rw [hC]; exact Nat.le_refl _, fun m hm => by rw [hW] at hm; exact absurd hm (Nat.not_lt_zero m), fun k j _ hj => (no hj).elim⟩, fun k j _ hj => (no hj).elim, ?_⟩
  unfold Phi
  rw [hz, hz, hW]
  exact Nat.le_refl _
theorem tot_z {f : vE → Bool} {i : Nat} {z : cZ} (hz : ∀ u, zN z u = 0) : tot f i z = 0 := tot_0 (fun k j _ hj => by
  rw [hz] at hj
  exact absurd hj (Nat.not_lt_zero j))
theorem CW.nNew {G : gG} {dce x : Nat} {ad : Nat → Nat} {M : gM} {y : cY} {z : cZ} (h : CW G dce x ad M y z) {b : Nat} (hb : M b = none) : ¬ cOwn ad y z dce b := fun q => by
  rcases h.own q with (e | e) | ⟨k, fs, e, -⟩ | ⟨c, n, f, e⟩
  · obtain ⟨⟨c, n, f, h8⟩, -⟩ := h.j8
    rw [← e, hb] at h8
    cases h8
  · obtain ⟨-, ⟨c, n, f, h8⟩⟩ := h.j8
    rw [← e, hb] at h8
    cases h8
  · rw [hb] at e
    cases e
  · rw [hb] at e
    cases e
