/-! THE REFERENCE: what a step leaves at a place; what holds of every state that is reached -/
theorem rdT_S (w : mW) (a p : Nat) (v : Int32) (b q : Nat) : rdT (mS w a p v) b q = if b = a ∧ q = p then v else rdT w b q := rfl
theorem rdT_N (w : mW) (n : Nat) : rdT (mN w n) = rdT w := rfl
theorem rdT_H (w : mW) (v : Int32) : rdT (mH w v) = rdT w := rfl
theorem rdT_K (w : mW) (k n : Nat) : rdT (mK w k n) = rdT w := rfl
theorem rdK_S (w : mW) (a p : Nat) (v : Int32) : rdK (mS w a p v) = rdK w := rfl
theorem rdN_S (w : mW) (a p : Nat) (v : Int32) : rdN (mS w a p v) = rdN w := rfl
theorem aP_inj {i k j a b c : Nat} (hk : k < 2) (hj : j < 1024) (hb : b < 2) (hc : c < 1024) (h : aP a b c = aP i k j) : a = i ∧ b = k ∧ c = j := by
  unfold aP at h
  omega
theorem rP_inj {k j b c : Nat} (hj : j < 1024) (hc : c < 1024) (h : rP b c = rP k j) : b = k ∧ c = j := by
  unfold rP at h
  omega
theorem aP_i {i k j a b c : Nat} (hk : k < 2) (hj : j < 1024) (hb : b < 2) (hc : c < 1024) : aP a b c = aP i k j ↔ (a = i ∧ b = k ∧ c = j) := ⟨aP_inj hk hj hb hc, fun ⟨h1, h2, h3⟩ => by rw [h1, h2, h3]⟩
theorem rP_i {k j b c : Nat} (hj : j < 1024) (hc : c < 1024) : rP b c = rP k j ↔ (b = k ∧ c = j) := ⟨rP_inj hj hc, fun ⟨h1, h2⟩ => by rw [h1, h2]⟩
theorem mNo_T {ac k j : Nat} {w : mW} {a : Nat} (h : a ≠ 15) : rdT (mNo ac k j w) a = rdT w a := rdT_o h
theorem mNo_K {ac k j : Nat} {w : mW} : rdK (mNo ac k j w) = rdK w := rfl
theorem mNo_N {ac k j : Nat} {w : mW} : rdN (mNo ac k j w) = rdN w + 1 := rfl
/-- rows: is there, name, reference, version; objects: state, removed, name, reference, old ones -/
abbrev wR : Type := Int32 × Int32 × Int32 × Int32
abbrev wO : Type := Int32 × Int32 × Int32 × Int32 × Int32 × Int32 × Int32
def gR (w : mW) (k j : Nat) : wR := (rdT w 2 (rP k j), rdT w 3 (rP k j), rdT w 4 (rP k j), rdT w 5 (rP k j))
def gO (w : mW) (i k j : Nat) : wO := (rdT w 7 (aP i k j), rdT w 8 (aP i k j), rdT w 9 (aP i k j), rdT w 10 (aP i k j), rdT w 11 (aP i k j), rdT w 12 (aP i k j), rdT w 13 (aP i k j))
/-- a state w1 is w with the row (k, j) and the object (i, k, j) changed, and else alike -/
def mU (w w1 : mW) (i k j : Nat) (r : wR) (o : wO) : Prop := rdK w1 = rdK w ∧ (∀ b c, b < 2 → c < 1024 → gR w1 b c = if b = k ∧ c = j then r else gR w b c) ∧ (∀ a b c, a < 3 → b < 2 → c < 1024 → gO w1 a b c = if a = i ∧ b = k ∧ c = j then o else gO w a b c)
theorem mU.tr {w w1 w2 : mW} {i k j : Nat} {r r2 : wR} {o o2 : wO} (h1 : mU w w1 i k j r o) (h2 : mU w1 w2 i k j r2 o2) : mU w w2 i k j r2 o2 := by
  refine ⟨h2.1.trans h1.1, fun b c hb hc => ?_, fun a b c ha hb hc => ?_⟩
  · rw [h2.2.1 b c hb hc, h1.2.1 b c hb hc]
    by_cases h : b = k ∧ c = j
    · rw [if_pos h, if_pos h]
    · rw [if_neg h, if_neg h, if_neg h]
  · rw [h2.2.2 a b c ha hb hc, h1.2.2 a b c ha hb hc]
    by_cases h : a = i ∧ b = k ∧ c = j
    · rw [if_pos h, if_pos h]
    · rw [if_neg h, if_neg h, if_neg h]
theorem mU.r {w w1 : mW} {i k j : Nat} {r : wR} {o : wO} (h : mU w w1 i k j r o) (hk : k < 2) (hj : j < 1024) : gR w1 k j = r := by
  rw [h.2.1 k j hk hj, if_pos ⟨rfl, rfl⟩]
theorem mU.o {w w1 : mW} {i k j : Nat} {r : wR} {o : wO} (h : mU w w1 i k j r o) (hi : i < 3) (hk : k < 2) (hj : j < 1024) : gO w1 i k j = o := by
  rw [h.2.2 i k j hi hk hj, if_pos ⟨rfl, rfl, rfl⟩]
theorem mU.no {w : mW} {ac i k j : Nat} : mU w (mNo ac k j w) i k j (gR w k j) (gO w i k j) := by
  refine ⟨rfl, fun b c hb hc => ?_, fun a b c ha hb hc => ?_⟩
  · rw [show gR (mNo ac k j w) b c = gR w b c from rfl]
    split
    · rename_i q
      rw [q.1, q.2]
    · rfl
  · rw [show gO (mNo ac k j w) a b c = gO w a b c from rfl]
    split
    · rename_i q
      rw [q.1, q.2.1, q.2.2]
    · rfl
theorem mS2_U {w : mW} {i k j : Nat} {v : Int32} (hk : k < 2) (hj : j < 1024) : mU w (mS w 2 (rP k j) v) i k j (v, (gR w k j).2.1, (gR w k j).2.2.1, (gR w k j).2.2.2) (gO w i k j) := by
  refine ⟨rfl, fun b c hb hc => ?_, fun a b c ha hb hc => ?_⟩
  · simp only [gR, rdT_S, rP_i hj hc]
    by_cases h : b = k ∧ c = j
    · obtain ⟨rfl, rfl⟩ := h
      simp
    · simp [h]
  · simp only [gO, rdT_S]
    by_cases h : a = i ∧ b = k ∧ c = j
    · obtain ⟨rfl, rfl, rfl⟩ := h
      simp
    · simp [h]
theorem mS3_U {w : mW} {i k j : Nat} {v : Int32} (hk : k < 2) (hj : j < 1024) : mU w (mS w 3 (rP k j) v) i k j ((gR w k j).1, v, (gR w k j).2.2.1, (gR w k j).2.2.2) (gO w i k j) := by
  refine ⟨rfl, fun b c hb hc => ?_, fun a b c ha hb hc => ?_⟩
  · simp only [gR, rdT_S, rP_i hj hc]
    by_cases h : b = k ∧ c = j
    · obtain ⟨rfl, rfl⟩ := h
      simp
    · simp [h]
  · simp only [gO, rdT_S]
    by_cases h : a = i ∧ b = k ∧ c = j
    · obtain ⟨rfl, rfl, rfl⟩ := h
      simp
    · simp [h]
theorem mS4_U {w : mW} {i k j : Nat} {v : Int32} (hk : k < 2) (hj : j < 1024) : mU w (mS w 4 (rP k j) v) i k j ((gR w k j).1, (gR w k j).2.1, v, (gR w k j).2.2.2) (gO w i k j) := by
  refine ⟨rfl, fun b c hb hc => ?_, fun a b c ha hb hc => ?_⟩
  · simp only [gR, rdT_S, rP_i hj hc]
    by_cases h : b = k ∧ c = j
    · obtain ⟨rfl, rfl⟩ := h
      simp
    · simp [h]
  · simp only [gO, rdT_S]
    by_cases h : a = i ∧ b = k ∧ c = j
    · obtain ⟨rfl, rfl, rfl⟩ := h
      simp
    · simp [h]
theorem mS5_U {w : mW} {i k j : Nat} {v : Int32} (hk : k < 2) (hj : j < 1024) : mU w (mS w 5 (rP k j) v) i k j ((gR w k j).1, (gR w k j).2.1, (gR w k j).2.2.1, v) (gO w i k j) := by
  refine ⟨rfl, fun b c hb hc => ?_, fun a b c ha hb hc => ?_⟩
  · simp only [gR, rdT_S, rP_i hj hc]
    by_cases h : b = k ∧ c = j
    · obtain ⟨rfl, rfl⟩ := h
      simp
    · simp [h]
  · simp only [gO, rdT_S]
    by_cases h : a = i ∧ b = k ∧ c = j
    · obtain ⟨rfl, rfl, rfl⟩ := h
      simp
    · simp [h]
theorem mS7_U {w : mW} {i k j : Nat} {v : Int32} (hk : k < 2) (hj : j < 1024) : mU w (mS w 7 (aP i k j) v) i k j (gR w k j) (v, (gO w i k j).2.1, (gO w i k j).2.2.1, (gO w i k j).2.2.2.1, (gO w i k j).2.2.2.2.1, (gO w i k j).2.2.2.2.2.1, (gO w i k j).2.2.2.2.2.2) := by
  refine ⟨rfl, fun b c hb hc => ?_, fun a b c ha hb hc => ?_⟩
  · simp only [gR, rdT_S]
    by_cases h : b = k ∧ c = j
    · obtain ⟨rfl, rfl⟩ := h
      simp
    · simp [h]
  · simp only [gO, rdT_S, aP_i hk hj hb hc]
    by_cases h : a = i ∧ b = k ∧ c = j
    · obtain ⟨rfl, rfl, rfl⟩ := h
      simp
    · simp [h]
theorem mS8_U {w : mW} {i k j : Nat} {v : Int32} (hk : k < 2) (hj : j < 1024) : mU w (mS w 8 (aP i k j) v) i k j (gR w k j) ((gO w i k j).1, v, (gO w i k j).2.2.1, (gO w i k j).2.2.2.1, (gO w i k j).2.2.2.2.1, (gO w i k j).2.2.2.2.2.1, (gO w i k j).2.2.2.2.2.2) := by
  refine ⟨rfl, fun b c hb hc => ?_, fun a b c ha hb hc => ?_⟩
  · simp only [gR, rdT_S]
    by_cases h : b = k ∧ c = j
    · obtain ⟨rfl, rfl⟩ := h
      simp
    · simp [h]
  · simp only [gO, rdT_S, aP_i hk hj hb hc]
    by_cases h : a = i ∧ b = k ∧ c = j
    · obtain ⟨rfl, rfl, rfl⟩ := h
      simp
    · simp [h]
theorem mS9_U {w : mW} {i k j : Nat} {v : Int32} (hk : k < 2) (hj : j < 1024) : mU w (mS w 9 (aP i k j) v) i k j (gR w k j) ((gO w i k j).1, (gO w i k j).2.1, v, (gO w i k j).2.2.2.1, (gO w i k j).2.2.2.2.1, (gO w i k j).2.2.2.2.2.1, (gO w i k j).2.2.2.2.2.2) := by
  refine ⟨rfl, fun b c hb hc => ?_, fun a b c ha hb hc => ?_⟩
  · simp only [gR, rdT_S]
    by_cases h : b = k ∧ c = j
    · obtain ⟨rfl, rfl⟩ := h
      simp
    · simp [h]
  · simp only [gO, rdT_S, aP_i hk hj hb hc]
    by_cases h : a = i ∧ b = k ∧ c = j
    · obtain ⟨rfl, rfl, rfl⟩ := h
      simp
    · simp [h]
theorem mS10_U {w : mW} {i k j : Nat} {v : Int32} (hk : k < 2) (hj : j < 1024) : mU w (mS w 10 (aP i k j) v) i k j (gR w k j) ((gO w i k j).1, (gO w i k j).2.1, (gO w i k j).2.2.1, v, (gO w i k j).2.2.2.2.1, (gO w i k j).2.2.2.2.2.1, (gO w i k j).2.2.2.2.2.2) := by
  refine ⟨rfl, fun b c hb hc => ?_, fun a b c ha hb hc => ?_⟩
  · simp only [gR, rdT_S]
    by_cases h : b = k ∧ c = j
    · obtain ⟨rfl, rfl⟩ := h
      simp
    · simp [h]
  · simp only [gO, rdT_S, aP_i hk hj hb hc]
    by_cases h : a = i ∧ b = k ∧ c = j
    · obtain ⟨rfl, rfl, rfl⟩ := h
      simp
    · simp [h]
theorem mS11_U {w : mW} {i k j : Nat} {v : Int32} (hk : k < 2) (hj : j < 1024) : mU w (mS w 11 (aP i k j) v) i k j (gR w k j) ((gO w i k j).1, (gO w i k j).2.1, (gO w i k j).2.2.1, (gO w i k j).2.2.2.1, v, (gO w i k j).2.2.2.2.2.1, (gO w i k j).2.2.2.2.2.2) := by
  refine ⟨rfl, fun b c hb hc => ?_, fun a b c ha hb hc => ?_⟩
  · simp only [gR, rdT_S]
    by_cases h : b = k ∧ c = j
    · obtain ⟨rfl, rfl⟩ := h
      simp
    · simp [h]
  · simp only [gO, rdT_S, aP_i hk hj hb hc]
    by_cases h : a = i ∧ b = k ∧ c = j
    · obtain ⟨rfl, rfl, rfl⟩ := h
      simp
    · simp [h]
theorem mS12_U {w : mW} {i k j : Nat} {v : Int32} (hk : k < 2) (hj : j < 1024) : mU w (mS w 12 (aP i k j) v) i k j (gR w k j) ((gO w i k j).1, (gO w i k j).2.1, (gO w i k j).2.2.1, (gO w i k j).2.2.2.1, (gO w i k j).2.2.2.2.1, v, (gO w i k j).2.2.2.2.2.2) := by
  refine ⟨rfl, fun b c hb hc => ?_, fun a b c ha hb hc => ?_⟩
  · simp only [gR, rdT_S]
    by_cases h : b = k ∧ c = j
    · obtain ⟨rfl, rfl⟩ := h
      simp
    · simp [h]
  · simp only [gO, rdT_S, aP_i hk hj hb hc]
    by_cases h : a = i ∧ b = k ∧ c = j
    · obtain ⟨rfl, rfl, rfl⟩ := h
      simp
    · simp [h]
theorem mS13_U {w : mW} {i k j : Nat} {v : Int32} (hk : k < 2) (hj : j < 1024) : mU w (mS w 13 (aP i k j) v) i k j (gR w k j) ((gO w i k j).1, (gO w i k j).2.1, (gO w i k j).2.2.1, (gO w i k j).2.2.2.1, (gO w i k j).2.2.2.2.1, (gO w i k j).2.2.2.2.2.1, v) := by
  refine ⟨rfl, fun b c hb hc => ?_, fun a b c ha hb hc => ?_⟩
  · simp only [gR, rdT_S]
    by_cases h : b = k ∧ c = j
    · obtain ⟨rfl, rfl⟩ := h
      simp
    · simp [h]
  · simp only [gO, rdT_S, aP_i hk hj hb hc]
    by_cases h : a = i ∧ b = k ∧ c = j
    · obtain ⟨rfl, rfl, rfl⟩ := h
      simp
    · simp [h]
theorem mTk_U {w : mW} {i k j : Nat} (hi : i < 3) (hk : k < 2) (hj : j < 1024) : mU w (mTk i k j w) i k j (rdT w 2 (rP k j), rdT w 3 (rP k j), rdT w 4 (rP k j), rdT w 5 (rP k j)) (2, 0, rdT w 3 (rP k j), rdT w 4 (rP k j), rdT w 3 (rP k j), rdT w 4 (rP k j), rdT w 5 (rP k j)) := by
  obtain ⟨w1, e1⟩ : ∃ wX, wX = mS w 7 (aP i k j) (2) := ⟨_, rfl⟩
  have u1 := mS7_U (w := w) (i := i) (v := 2) hk hj
  rw [← e1] at u1
  have t1 := u1
  have r1 := u1.r hk hj
  have o1 := u1.o hi hk hj
  obtain ⟨w2, e2⟩ : ∃ wX, wX = mS w1 8 (aP i k j) (0) := ⟨_, rfl⟩
  have u2 := mS8_U (w := w1) (i := i) (v := 0) hk hj
  rw [← e2] at u2
  rw [r1, o1] at u2
  have t2 := t1.tr u2
  have r2 := u2.r hk hj
  have o2 := u2.o hi hk hj
  obtain ⟨w3, e3⟩ : ∃ wX, wX = mS w2 9 (aP i k j) (rdT w 3 (rP k j)) := ⟨_, rfl⟩
  have u3 := mS9_U (w := w2) (i := i) (v := rdT w 3 (rP k j)) hk hj
  rw [← e3] at u3
  rw [r2, o2] at u3
  have t3 := t2.tr u3
  have r3 := u3.r hk hj
  have o3 := u3.o hi hk hj
  obtain ⟨w4, e4⟩ : ∃ wX, wX = mS w3 10 (aP i k j) (rdT w 4 (rP k j)) := ⟨_, rfl⟩
  have u4 := mS10_U (w := w3) (i := i) (v := rdT w 4 (rP k j)) hk hj
  rw [← e4] at u4
  rw [r3, o3] at u4
  have t4 := t3.tr u4
  have r4 := u4.r hk hj
  have o4 := u4.o hi hk hj
  obtain ⟨w5, e5⟩ : ∃ wX, wX = mS w4 11 (aP i k j) (rdT w 3 (rP k j)) := ⟨_, rfl⟩
  have u5 := mS11_U (w := w4) (i := i) (v := rdT w 3 (rP k j)) hk hj
  rw [← e5] at u5
  rw [r4, o4] at u5
  have t5 := t4.tr u5
  have r5 := u5.r hk hj
  have o5 := u5.o hi hk hj
  obtain ⟨w6, e6⟩ : ∃ wX, wX = mS w5 12 (aP i k j) (rdT w 4 (rP k j)) := ⟨_, rfl⟩
  have u6 := mS12_U (w := w5) (i := i) (v := rdT w 4 (rP k j)) hk hj
  rw [← e6] at u6
  rw [r5, o5] at u6
  have t6 := t5.tr u6
  have r6 := u6.r hk hj
  have o6 := u6.o hi hk hj
  obtain ⟨w7, e7⟩ : ∃ wX, wX = mS w6 13 (aP i k j) (rdT w 5 (rP k j)) := ⟨_, rfl⟩
  have u7 := mS13_U (w := w6) (i := i) (v := rdT w 5 (rP k j)) hk hj
  rw [← e7] at u7
  rw [r6, o6] at u7
  have t7 := t6.tr u7
  have r7 := u7.r hk hj
  have o7 := u7.o hi hk hj
  have hx : (mTk i k j w) = w7 := by rw [e7, e6, e5, e4, e3, e2, e1]; rfl
  rw [hx]
  exact t7
theorem mGo_U {w : mW} {i k j : Nat} (hi : i < 3) (hk : k < 2) (hj : j < 1024) : mU w (mGo i k j w) i k j (rdT w 2 (rP k j), rdT w 3 (rP k j), rdT w 4 (rP k j), rdT w 5 (rP k j)) (if rdT w 7 (aP i k j) = 2 then 2 else 0, bI (decide (rdT w 7 (aP i k j) = 2)), rdT w 9 (aP i k j), rdT w 10 (aP i k j), rdT w 11 (aP i k j), rdT w 12 (aP i k j), rdT w 13 (aP i k j)) := by
  obtain ⟨w1, e1⟩ : ∃ wX, wX = mS w 8 (aP i k j) (bI (decide (rdT w 7 (aP i k j) = 2))) := ⟨_, rfl⟩
  have u1 := mS8_U (w := w) (i := i) (v := bI (decide (rdT w 7 (aP i k j) = 2))) hk hj
  rw [← e1] at u1
  have t1 := u1
  have r1 := u1.r hk hj
  have o1 := u1.o hi hk hj
  obtain ⟨w2, e2⟩ : ∃ wX, wX = mS w1 7 (aP i k j) (if rdT w 7 (aP i k j) = 2 then 2 else 0) := ⟨_, rfl⟩
  have u2 := mS7_U (w := w1) (i := i) (v := if rdT w 7 (aP i k j) = 2 then 2 else 0) hk hj
  rw [← e2] at u2
  rw [r1, o1] at u2
  have t2 := t1.tr u2
  have r2 := u2.r hk hj
  have o2 := u2.o hi hk hj
  have hx : (mGo i k j w) = w2 := by rw [e2, e1]; rfl
  rw [hx]
  exact t2
theorem mFg_U {w : mW} {i k j : Nat} (hi : i < 3) (hk : k < 2) (hj : j < 1024) : mU w (mFg i k j w) i k j (rdT w 2 (rP k j), rdT w 3 (rP k j), rdT w 4 (rP k j), rdT w 5 (rP k j)) (0, 0, rdT w 9 (aP i k j), rdT w 10 (aP i k j), rdT w 11 (aP i k j), rdT w 12 (aP i k j), rdT w 13 (aP i k j)) := by
  obtain ⟨w1, e1⟩ : ∃ wX, wX = mS w 7 (aP i k j) (0) := ⟨_, rfl⟩
  have u1 := mS7_U (w := w) (i := i) (v := 0) hk hj
  rw [← e1] at u1
  have t1 := u1
  have r1 := u1.r hk hj
  have o1 := u1.o hi hk hj
  obtain ⟨w2, e2⟩ : ∃ wX, wX = mS w1 8 (aP i k j) (0) := ⟨_, rfl⟩
  have u2 := mS8_U (w := w1) (i := i) (v := 0) hk hj
  rw [← e2] at u2
  rw [r1, o1] at u2
  have t2 := t1.tr u2
  have r2 := u2.r hk hj
  have o2 := u2.o hi hk hj
  have hx : (mFg i k j w) = w2 := by rw [e2, e1]; rfl
  rw [hx]
  exact t2
theorem mRi_U {w : mW} {i k j : Nat} (hi : i < 3) (hk : k < 2) (hj : j < 1024) : mU w (mRi i k j w) i k j (1, rdT w 9 (aP i k j), if mIt i k j w = true then rdT w 10 (aP i k j) else -1, 0) (rdT w 7 (aP i k j), rdT w 8 (aP i k j), rdT w 9 (aP i k j), rdT w 10 (aP i k j), rdT w 11 (aP i k j), rdT w 12 (aP i k j), rdT w 13 (aP i k j)) := by
  obtain ⟨w1, e1⟩ : ∃ wX, wX = mS w 2 (rP k j) (1) := ⟨_, rfl⟩
  have u1 := mS2_U (w := w) (i := i) (v := 1) hk hj
  rw [← e1] at u1
  have t1 := u1
  have r1 := u1.r hk hj
  have o1 := u1.o hi hk hj
  obtain ⟨w2, e2⟩ : ∃ wX, wX = mS w1 3 (rP k j) (rdT w 9 (aP i k j)) := ⟨_, rfl⟩
  have u2 := mS3_U (w := w1) (i := i) (v := rdT w 9 (aP i k j)) hk hj
  rw [← e2] at u2
  rw [r1, o1] at u2
  have t2 := t1.tr u2
  have r2 := u2.r hk hj
  have o2 := u2.o hi hk hj
  obtain ⟨w3, e3⟩ : ∃ wX, wX = mS w2 4 (rP k j) (if mIt i k j w = true then rdT w 10 (aP i k j) else -1) := ⟨_, rfl⟩
  have u3 := mS4_U (w := w2) (i := i) (v := if mIt i k j w = true then rdT w 10 (aP i k j) else -1) hk hj
  rw [← e3] at u3
  rw [r2, o2] at u3
  have t3 := t2.tr u3
  have r3 := u3.r hk hj
  have o3 := u3.o hi hk hj
  obtain ⟨w4, e4⟩ : ∃ wX, wX = mS w3 5 (rP k j) (0) := ⟨_, rfl⟩
  have u4 := mS5_U (w := w3) (i := i) (v := 0) hk hj
  rw [← e4] at u4
  rw [r3, o3] at u4
  have t4 := t3.tr u4
  have r4 := u4.r hk hj
  have o4 := u4.o hi hk hj
  have hx : (mRi i k j w) = w4 := by rw [e4, e3, e2, e1]; rfl
  rw [hx]
  exact t4
theorem mRu_U {w : mW} {i k j : Nat} (hi : i < 3) (hk : k < 2) (hj : j < 1024) : mU w (mRu i k j w) i k j (rdT w 2 (rP k j), rdT w 9 (aP i k j), rdT w 10 (aP i k j), rdT w 5 (rP k j) + 1) (rdT w 7 (aP i k j), rdT w 8 (aP i k j), rdT w 9 (aP i k j), rdT w 10 (aP i k j), rdT w 11 (aP i k j), rdT w 12 (aP i k j), rdT w 13 (aP i k j)) := by
  obtain ⟨w1, e1⟩ : ∃ wX, wX = mS w 3 (rP k j) (rdT w 9 (aP i k j)) := ⟨_, rfl⟩
  have u1 := mS3_U (w := w) (i := i) (v := rdT w 9 (aP i k j)) hk hj
  rw [← e1] at u1
  have t1 := u1
  have r1 := u1.r hk hj
  have o1 := u1.o hi hk hj
  obtain ⟨w2, e2⟩ : ∃ wX, wX = mS w1 4 (rP k j) (rdT w 10 (aP i k j)) := ⟨_, rfl⟩
  have u2 := mS4_U (w := w1) (i := i) (v := rdT w 10 (aP i k j)) hk hj
  rw [← e2] at u2
  rw [r1, o1] at u2
  have t2 := t1.tr u2
  have r2 := u2.r hk hj
  have o2 := u2.o hi hk hj
  obtain ⟨w3, e3⟩ : ∃ wX, wX = mS w2 5 (rP k j) (rdT w 5 (rP k j) + 1) := ⟨_, rfl⟩
  have u3 := mS5_U (w := w2) (i := i) (v := rdT w 5 (rP k j) + 1) hk hj
  rw [← e3] at u3
  rw [r2, o2] at u3
  have t3 := t2.tr u3
  have r3 := u3.r hk hj
  have o3 := u3.o hi hk hj
  have hx : (mRu i k j w) = w3 := by rw [e3, e2, e1]; rfl
  rw [hx]
  exact t3
theorem mIns_U {w : mW} {i k j : Nat} (hi : i < 3) (hk : k < 2) (hj : j < 1024) : mU w (mIns i k j w) i k j (1, rdT w 9 (aP i k j), (if mIt i k j w = true then rdT w 10 (aP i k j) else -1), 0) (2, 0, rdT w 9 (aP i k j), rdT w 10 (aP i k j), rdT w 9 (aP i k j), (if mIt i k j w = true then rdT w 10 (aP i k j) else -1), 0) := by
  have t1 := mRi_U (w := w) hi hk hj
  obtain ⟨w1, e1⟩ : ∃ wX, wX = mRi i k j w := ⟨_, rfl⟩
  rw [← e1] at t1
  have r1 := t1.r hk hj
  have a2 : rdT w1 2 (rP k j) = 1 := congrArg (fun r : wR => r.1) r1
  have a3 : rdT w1 3 (rP k j) = rdT w 9 (aP i k j) := congrArg (fun r : wR => r.2.1) r1
  have a4 : rdT w1 4 (rP k j) = (if mIt i k j w = true then rdT w 10 (aP i k j) else -1) := congrArg (fun r : wR => r.2.2.1) r1
  have a5 : rdT w1 5 (rP k j) = 0 := congrArg (fun r : wR => r.2.2.2) r1
  have u2 := mTk_U (w := w1) hi hk hj
  rw [a2, a3, a4, a5] at u2
  obtain ⟨w2, e2⟩ : ∃ wX, wX = mTk i k j w1 := ⟨_, rfl⟩
  rw [← e2] at u2
  have t2 := t1.tr u2
  have r2 := u2.r hk hj
  have o2 := u2.o hi hk hj
  have u3 := mS10_U (w := w2) (i := i) (v := rdT w 10 (aP i k j)) hk hj
  rw [r2, o2] at u3
  obtain ⟨w3, e3⟩ : ∃ wX, wX = mS w2 10 (aP i k j) (rdT w 10 (aP i k j)) := ⟨_, rfl⟩
  rw [← e3] at u3
  have t3 := t2.tr u3
  have r3 := u3.r hk hj
  have o3 := u3.o hi hk hj
  have hx : mIns i k j w = mNo 0 k j w3 := by rw [e3, e2, e1]; rfl
  rw [hx]
  have t9 := t3.tr (mU.no (ac := 0))
  rw [r3, o3] at t9
  exact t9
theorem mUpd_U {w : mW} {i k j : Nat} (hi : i < 3) (hk : k < 2) (hj : j < 1024) : mU w (mUpd i k j w) i k j (rdT w 2 (rP k j), rdT w 9 (aP i k j), rdT w 10 (aP i k j), rdT w 5 (rP k j) + 1) (2, 0, rdT w 9 (aP i k j), rdT w 10 (aP i k j), rdT w 9 (aP i k j), rdT w 10 (aP i k j), rdT w 5 (rP k j) + 1) := by
  have t1 := mRu_U (w := w) hi hk hj
  obtain ⟨w1, e1⟩ : ∃ wX, wX = mRu i k j w := ⟨_, rfl⟩
  rw [← e1] at t1
  have r1 := t1.r hk hj
  have a2 : rdT w1 2 (rP k j) = rdT w 2 (rP k j) := congrArg (fun r : wR => r.1) r1
  have a3 : rdT w1 3 (rP k j) = rdT w 9 (aP i k j) := congrArg (fun r : wR => r.2.1) r1
  have a4 : rdT w1 4 (rP k j) = rdT w 10 (aP i k j) := congrArg (fun r : wR => r.2.2.1) r1
  have a5 : rdT w1 5 (rP k j) = rdT w 5 (rP k j) + 1 := congrArg (fun r : wR => r.2.2.2) r1
  have u2 := mTk_U (w := w1) hi hk hj
  rw [a2, a3, a4, a5] at u2
  obtain ⟨w2, e2⟩ : ∃ wX, wX = mTk i k j w1 := ⟨_, rfl⟩
  rw [← e2] at u2
  have t2 := t1.tr u2
  have r2 := u2.r hk hj
  have o2 := u2.o hi hk hj
  have hx : mUpd i k j w = mNo 1 k j w2 := by rw [e2, e1]; rfl
  rw [hx]
  have t9 := t2.tr (mU.no (ac := 1))
  rw [r2, o2] at t9
  exact t9
theorem mDel_U {w : mW} {i k j : Nat} (hi : i < 3) (hk : k < 2) (hj : j < 1024) : mU w (mDel i k j w) i k j (0, rdT w 3 (rP k j), rdT w 4 (rP k j), rdT w 5 (rP k j)) (0, 0, rdT w 9 (aP i k j), rdT w 10 (aP i k j), rdT w 11 (aP i k j), rdT w 12 (aP i k j), rdT w 13 (aP i k j)) := by
  obtain ⟨w1, e1⟩ : ∃ wX, wX = mS w 2 (rP k j) (0) := ⟨_, rfl⟩
  have u1 := mS2_U (w := w) (i := i) (v := 0) hk hj
  rw [← e1] at u1
  have t1 := u1
  have r1 := u1.r hk hj
  have o1 := u1.o hi hk hj
  obtain ⟨w2, e2⟩ : ∃ wX, wX = mS w1 7 (aP i k j) (0) := ⟨_, rfl⟩
  have u2 := mS7_U (w := w1) (i := i) (v := 0) hk hj
  rw [← e2] at u2
  rw [r1, o1] at u2
  have t2 := t1.tr u2
  have r2 := u2.r hk hj
  have o2 := u2.o hi hk hj
  obtain ⟨w3, e3⟩ : ∃ wX, wX = mS w2 8 (aP i k j) (0) := ⟨_, rfl⟩
  have u3 := mS8_U (w := w2) (i := i) (v := 0) hk hj
  rw [← e3] at u3
  rw [r2, o2] at u3
  have t3 := t2.tr u3
  have r3 := u3.r hk hj
  have o3 := u3.o hi hk hj
  have hx : (mDel i k j w) = mNo 2 k j w3 := by rw [e3, e2, e1]; rfl
  rw [hx]
  have t9 := t3.tr (mU.no (ac := 2))
  rw [r3, o3] at t9
  exact t9
/-- references are to keys that were given; what isn't given is not there -/
def okR (w : mW) (k j : Nat) (r : wR) : Prop := r.1 ≠ 0 → j < rdK w k ∧ rOK w (1 - k) r.2.2.1
def okO (w : mW) (k j : Nat) (o : wO) : Prop := o.1 ≠ 0 → j < rdK w k ∧ rOK w (1 - k) o.2.2.2.1
def mInv (w : mW) : Prop := (∀ k j, k < 2 → j < 1024 → okR w k j (gR w k j)) ∧ (∀ i k j, i < 3 → k < 2 → j < 1024 → okO w k j (gO w i k j)) ∧ ∀ k, k < 2 → rdK w k ≤ 1024
theorem rOK_K {w w1 : mW} (h : rdK w1 = rdK w) {k : Nat} {r : Int32} : rOK w1 k r ↔ rOK w k r := by unfold rOK; rw [h]
theorem mInv.up {w w1 : mW} {i k j : Nat} {r : wR} {o : wO} (h : mInv w) (u : mU w w1 i k j r o) (hr : okR w k j r) (ho : okO w k j o) : mInv w1 := by
  obtain ⟨hK, u1, u2⟩ := u
  refine ⟨fun b c hb hc => ?_, fun a b c ha hb hc => ?_, fun k hk => by rw [hK]; exact h.2.2 k hk⟩
  · unfold okR
    rw [hK, rOK_K hK, u1 b c hb hc]
    split
    · rename_i q
      obtain ⟨rfl, rfl⟩ := q
      exact hr
    · exact h.1 b c hb hc
  · unfold okO
    rw [hK, rOK_K hK, u2 a b c ha hb hc]
    split
    · rename_i q
      obtain ⟨rfl, rfl, rfl⟩ := q
      exact ho
    · exact h.2.1 a b c ha hb hc
theorem mLk.gRw {w w1 : mW} (l : mLk w w1) (k j : Nat) : gR w1 k j = gR w k j := by
  unfold gR
  rw [l.2.2 2 (by decide), l.2.2 3 (by decide), l.2.2 4 (by decide), l.2.2 5 (by decide)]
theorem mLk.gOw {w w1 : mW} (l : mLk w w1) (i k j : Nat) : gO w1 i k j = gO w i k j := by
  unfold gO
  rw [l.2.2 7 (by decide), l.2.2 8 (by decide), l.2.2 9 (by decide), l.2.2 10 (by decide), l.2.2 11 (by decide), l.2.2 12 (by decide), l.2.2 13 (by decide)]
theorem mInv.lk {w w1 : mW} (h : mInv w) (l : mLk w w1) : mInv w1 := by
  refine ⟨fun b c hb hc => ?_, fun a b c ha hb hc => ?_, fun k hk => by rw [l.1]; exact h.2.2 k hk⟩
  · unfold okR
    rw [l.1, rOK_K l.1, l.gRw]
    exact h.1 b c hb hc
  · unfold okO
    rw [l.1, rOK_K l.1, l.gOw]
    exact h.2.1 a b c ha hb hc
theorem mLk.H {w : mW} {v : Int32} : mLk w (mH w v) := ⟨rfl, rfl, fun _ _ => rfl⟩
theorem mInv.H {w : mW} {v : Int32} (h : mInv w) : mInv (mH w v) := h.lk mLk.H
theorem inK_iff {n j : Nat} (hn : n ≤ 1024) (hj : j < 1024) : inK n (nI j) = true ↔ j < n := by
  constructor
  · intro h
    obtain ⟨q, h1, h2⟩ := inK_n hn h
    rw [(nI_eq (by omega) (by omega)).mp h2]
    exact h1
  · exact inK_of hn
theorem mHr_iff {w : mW} {k j : Nat} (hn : rdK w k ≤ 1024) (hj : j < 1024) : mHr w k (nI j) = true ↔ j < rdK w k ∧ rdT w 2 (rP k j) ≠ 0 := by
  unfold mHr
  rw [Bool.and_eq_true, nI_clamp (by omega), decide_eq_true_iff, inK_iff hn hj]
theorem mKn_iff {w : mW} {i k j : Nat} (hn : rdK w k ≤ 1024) (hj : j < 1024) : mKn w i k (nI j) = true ↔ j < rdK w k ∧ rdT w 7 (aP i k j) ≠ 0 ∧ rdT w 8 (aP i k j) = 0 := by
  unfold mKn
  rw [Bool.and_eq_true, Bool.and_eq_true, nI_clamp (by omega), decide_eq_true_iff, decide_eq_true_iff, inK_iff hn hj]
theorem mDr_0 {w : mW} {i k j : Nat} (hn : rdK w k ≤ 1024) (hj : j < 1024) (h : mDr w i k j = true) : rdT w 7 (aP i k j) ≠ 0 := by
  unfold mDr at h
  exact ((mKn_iff hn hj).mp ((Bool.and_eq_true _ _).mp h).1).2.1
theorem mMd_0 {w : mW} {i k j : Nat} (h : mMd w i k j = true) : rdT w 7 (aP i k j) ≠ 0 := by
  unfold mMd at h
  rw [of_decide_eq_true h]
  decide
theorem itm_I {P : mW → Prop} {F : Nat → mW → mW} {n : Nat} (h : ∀ j w, j < n → P w → P (F j w)) {w : mW} (hw : P w) : P (itm F n w) := by
  induction n with
  | zero => exact hw
  | succ n ih => exact h n _ (by omega) (ih (fun j w hj hp => h j w (by omega) hp))
theorem mTk_I {w : mW} {i k j : Nat} (h : mInv w) (hi : i < 3) (hk : k < 2) (hj : j < 1024) (hr : rdT w 2 (rP k j) ≠ 0) : mInv (mTk i k j w) :=
  h.up (mTk_U hi hk hj) (h.1 k j hk hj) (fun _ => h.1 k j hk hj hr)
theorem mLd_I {w : mW} {i k j : Nat} {t : Int32} (h : mInv w) (hi : i < 3) (hk : k < 2) (hj : j < 1024) : mInv (mLd i k t j w) := by
  unfold mLd
  split
  · rename_i q
    exact mTk_I h hi hk hj ((mHr_iff (h.2.2 k hk) hj).mp ((Bool.and_eq_true _ _).mp ((Bool.and_eq_true _ _).mp q).1).1).2
  · exact h
theorem mGo_I {w : mW} {i k j : Nat} (h : mInv w) (hi : i < 3) (hk : k < 2) (hj : j < 1024) : mInv (mGo i k j w) := by
  refine h.up (mGo_U hi hk hj) (h.1 k j hk hj) (fun q => h.2.1 i k j hi hk hj (fun q2 => q ?_))
  have q2 : rdT w 7 (aP i k j) = 0 := q2
  show (if rdT w 7 (aP i k j) = 2 then (2 : Int32) else 0) = 0
  rw [q2]
  rfl
theorem mS10_I {w : mW} {i k j : Nat} {v : Int32} (h : mInv w) (hi : i < 3) (hk : k < 2) (hj : j < 1024) (hv : rOK w (1 - k) v) : mInv (mS w 10 (aP i k j) v) :=
  h.up (mS10_U hk hj) (h.1 k j hk hj) (fun q => ⟨(h.2.1 i k j hi hk hj q).1, hv⟩)
theorem mS9_I {w : mW} {i k j : Nat} {v : Int32} (h : mInv w) (hi : i < 3) (hk : k < 2) (hj : j < 1024) : mInv (mS w 9 (aP i k j) v) :=
  h.up (mS9_U hk hj) (h.1 k j hk hj) (h.2.1 i k j hi hk hj)
theorem mS10_I2 {w : mW} {i k j : Nat} (h : mInv w) (hi : i < 3) (hk : k < 2) (hj : j < 1024) : mInv (mS w 10 (aP i k j) (rdT w 10 (aP i k j))) :=
  h.up (mS10_U hk hj) (h.1 k j hk hj) (h.2.1 i k j hi hk hj)
theorem mCl_I {w : mW} {i j : Nat} {t : Int32} (h : mInv w) (hi : i < 3) (hj : j < 1024) : mInv (mCl i t j w) := by
  unfold mCl
  split
  · exact mS10_I h hi (by decide) hj (Or.inl rfl)
  · exact mS10_I2 h hi (by decide) hj
theorem mRmB_I {w : mW} {i b : Nat} (h : mInv w) (hi : i < 3) (hb : b < 1024) : mInv (mRmB i b w) := by
  have hn := h.2.2 0 (by decide)
  exact itm_I (fun j w hj h => mCl_I h hi (by omega)) (itm_I (fun j w hj h => mLd_I h hi (by decide) (by omega)) (mGo_I h hi (by decide) hb))
theorem mRb_I {w : mW} {i j : Nat} {t : Int32} (h : mInv w) (hi : i < 3) (hj : j < 1024) : mInv (mRb i t j w) := by
  unfold mRb
  split
  · exact mRmB_I h hi hj
  · exact h
theorem mRmA_I {w : mW} {i a : Nat} (h : mInv w) (hi : i < 3) (ha : a < 1024) : mInv (mRmA i a w) := by
  have hn := h.2.2 1 (by decide)
  exact itm_I (fun j w hj h => mRb_I h hi (by omega)) (mGo_I (itm_I (fun j w hj h => mLd_I h hi (by decide) (by omega)) h) hi (by decide) ha)
theorem mFi_I {w : mW} {i k j : Nat} (h : mInv w) (hi : i < 3) (hk : k < 2) (hj : j < 1024) : mInv (mFi i k (nI j) w) := by
  unfold mFi
  rw [nI_clamp (by omega)]
  split
  · rename_i q
    exact mTk_I h hi hk hj ((mHr_iff (h.2.2 k hk) hj).mp ((Bool.and_eq_true _ _).mp q).1).2
  · exact h
theorem mFg_I {w : mW} {i k j : Nat} (h : mInv w) (hi : i < 3) (hk : k < 2) (hj : j < 1024) : mInv (mFg i k j w) :=
  h.up (mFg_U hi hk hj) (h.1 k j hk hj) (fun q => absurd rfl q)
theorem mCr_I {w : mW} {i : Nat} (h : mInv w) (hi : i < 3) : mInv (mCr i w) := by
  have h0 := h.2.2 0 (by decide)
  have h1 := h.2.2 1 (by decide)
  exact itm_I (fun j w hj h => mFg_I h hi (by decide) (by omega)) (itm_I (fun j w hj h => mFg_I h hi (by decide) (by omega)) h)
def mIn (i k j : Nat) (w : mW) : mW := if mMd w i k j = true then mIns i k j w else w
def mUp (i k j : Nat) (w : mW) : mW := if mDr w i k j = true then mUpd i k j w else w
def mDe (i k j : Nat) (w : mW) : mW := if mGn w i k j = true then mDel i k j w else w
theorem mIn_K (i k j : Nat) (w : mW) : rdK (mIn i k j w) = rdK w := by
  unfold mIn
  split <;> rfl
theorem mUp_K (i k j : Nat) (w : mW) : rdK (mUp i k j w) = rdK w := by
  unfold mUp
  split <;> rfl
theorem mDe_K (i k j : Nat) (w : mW) : rdK (mDe i k j w) = rdK w := by
  unfold mDe
  split <;> rfl
theorem mIn_N (i k j : Nat) (w : mW) : rdN w ≤ rdN (mIn i k j w) ∧ rdN (mIn i k j w) ≤ rdN w + 1 := by
  unfold mIn
  split
  · exact ⟨Nat.le_succ _, Nat.le_refl _⟩
  · exact ⟨Nat.le_refl _, Nat.le_succ _⟩
theorem mUp_N (i k j : Nat) (w : mW) : rdN w ≤ rdN (mUp i k j w) ∧ rdN (mUp i k j w) ≤ rdN w + 1 := by
  unfold mUp
  split
  · exact ⟨Nat.le_succ _, Nat.le_refl _⟩
  · exact ⟨Nat.le_refl _, Nat.le_succ _⟩
theorem mDe_N (i k j : Nat) (w : mW) : rdN w ≤ rdN (mDe i k j w) ∧ rdN (mDe i k j w) ≤ rdN w + 1 := by
  unfold mDe
  split
  · exact ⟨Nat.le_succ _, Nat.le_refl _⟩
  · exact ⟨Nat.le_refl _, Nat.le_succ _⟩
theorem itm_N {F : Nat → mW → mW} (h : ∀ j w, rdN w ≤ rdN (F j w) ∧ rdN (F j w) ≤ rdN w + 1) (n : Nat) (w : mW) : rdN w ≤ rdN (itm F n w) ∧ rdN (itm F n w) ≤ rdN w + n := by
  induction n with
  | zero => exact ⟨Nat.le_refl _, Nat.le_refl _⟩
  | succ n ih =>
    have h1 := h n (itm F n w)
    show rdN w ≤ rdN (F n (itm F n w)) ∧ rdN (F n (itm F n w)) ≤ rdN w + (n + 1)
    omega
theorem mIn_I {w : mW} {i k j : Nat} (h : mInv w) (hi : i < 3) (hk : k < 2) (hj : j < 1024) : mInv (mIn i k j w) := by
  unfold mIn
  split
  · rename_i q
    have h2 := h.2.1 i k j hi hk hj (mMd_0 q)
    refine h.up (mIns_U hi hk hj) (fun _ => ⟨h2.1, ?_⟩) (fun _ => h2)
    show rOK w (1 - k) (if mIt i k j w = true then rdT w 10 (aP i k j) else -1)
    split
    · exact h2.2
    · exact Or.inl rfl
  · exact h
theorem mUp_I {w : mW} {i k j : Nat} (h : mInv w) (hi : i < 3) (hk : k < 2) (hj : j < 1024) : mInv (mUp i k j w) := by
  unfold mUp
  split
  · rename_i q
    have h2 := h.2.1 i k j hi hk hj (mDr_0 (h.2.2 k hk) hj q)
    exact h.up (mUpd_U hi hk hj) (fun _ => h2) (fun _ => h2)
  · exact h
theorem mDe_I {w : mW} {i k j : Nat} (h : mInv w) (hi : i < 3) (hk : k < 2) (hj : j < 1024) : mInv (mDe i k j w) := by
  unfold mDe
  split
  · exact h.up (mDel_U hi hk hj) (fun q => absurd rfl q) (fun q => absurd rfl q)
  · exact h
def mFl (i : Nat) (w : mW) : mW := itm (mDe i 0) (rdK w 0) (itm (mDe i 1) (rdK w 1) (itm (mUp i 1) (rdK w 1) (itm (mUp i 0) (rdK w 0) (itm (mIn i 1) (rdK w 1) (itm (mIn i 0) (rdK w 0) w)))))
theorem mFl_I {w : mW} {i : Nat} (h : mInv w) (hi : i < 3) : mInv (mFl i w) := by
  have h0 := h.2.2 0 (by decide)
  have h1 := h.2.2 1 (by decide)
  exact itm_I (fun j w hj h => mDe_I h hi (by decide) (by omega)) (itm_I (fun j w hj h => mDe_I h hi (by decide) (by omega)) (itm_I (fun j w hj h => mUp_I h hi (by decide) (by omega)) (itm_I (fun j w hj h => mUp_I h hi (by decide) (by omega)) (itm_I (fun j w hj h => mIn_I h hi (by decide) (by omega)) (itm_I (fun j w hj h => mIn_I h hi (by decide) (by omega)) h)))))
theorem mFl_N {w : mW} {i : Nat} (h : mInv w) : rdN w ≤ rdN (mFl i w) ∧ rdN (mFl i w) ≤ rdN w + 6144 := by
  have h0 := h.2.2 0 (by decide)
  have h1 := h.2.2 1 (by decide)
  have a := itm_N (mIn_N i 0) (rdK w 0) w
  have b := itm_N (mIn_N i 1) (rdK w 1) (itm (mIn i 0) (rdK w 0) w)
  have c := itm_N (mUp_N i 0) (rdK w 0) (itm (mIn i 1) (rdK w 1) (itm (mIn i 0) (rdK w 0) w))
  have d := itm_N (mUp_N i 1) (rdK w 1) (itm (mUp i 0) (rdK w 0) (itm (mIn i 1) (rdK w 1) (itm (mIn i 0) (rdK w 0) w)))
  have e := itm_N (mDe_N i 1) (rdK w 1) (itm (mUp i 1) (rdK w 1) (itm (mUp i 0) (rdK w 0) (itm (mIn i 1) (rdK w 1) (itm (mIn i 0) (rdK w 0) w))))
  have f := itm_N (mDe_N i 0) (rdK w 0) (itm (mDe i 1) (rdK w 1) (itm (mUp i 1) (rdK w 1) (itm (mUp i 0) (rdK w 0) (itm (mIn i 1) (rdK w 1) (itm (mIn i 0) (rdK w 0) w)))))
  show _ ∧ rdN (itm (mDe i 0) _ _) ≤ _
  unfold mFl
  omega
/-- a new object -/
theorem mMk_K (i k : Nat) (nm rf : Int32) (w : mW) : rdK (mMk i k nm rf w) = upK (rdK w) k (rdK w k + 1) := rfl
theorem mMk_R (i k : Nat) (nm rf : Int32) (w : mW) (b c : Nat) : gR (mMk i k nm rf w) b c = gR w b c := by
  simp [gR, mMk, rdT_S, rdT_K]
theorem mMk_O {i k : Nat} {nm rf : Int32} {w : mW} (hk : k < 2) (hn : rdK w k < 1024) {a b c : Nat} (hb : b < 2) (hc : c < 1024) : gO (mMk i k nm rf w) a b c = if a = i ∧ b = k ∧ c = rdK w k then (1, 0, nm, rf, rdT w 11 (aP a b c), rdT w 12 (aP a b c), rdT w 13 (aP a b c)) else gO w a b c := by
  simp only [gO, mMk, rdT_S, rdT_K, aP_i hk hn hb hc]
  by_cases h : a = i ∧ b = k ∧ c = rdK w k
  · obtain ⟨rfl, rfl, rfl⟩ := h
    simp
  · simp [h]
theorem upK_le (f : Nat → Nat) (k b : Nat) : f b ≤ upK f k (f k + 1) b := by
  unfold upK
  split
  · rename_i h
    rw [h]
    exact Nat.le_succ _
  · exact Nat.le_refl _
theorem mMk_I {w : mW} {i k : Nat} {nm rf : Int32} (h : mInv w) (hk : k < 2) (hn : rdK w k < 1024) (hr : rOK w (1 - k) rf) : mInv (mMk i k nm rf w) := by
  have up : ∀ b r, rOK w b r → rOK (mMk i k nm rf w) b r := fun b r h1 => by
    rcases h1 with h1 | ⟨q, h1, h2⟩
    · exact Or.inl h1
    · exact Or.inr ⟨q, Nat.lt_of_lt_of_le h1 (upK_le _ _ _), h2⟩
  have ul : ∀ b c, c < rdK w b → c < rdK (mMk i k nm rf w) b := fun b c h1 => Nat.lt_of_lt_of_le h1 (upK_le _ _ _)
  refine ⟨fun b c hb hc => ?_, fun a b c ha hb hc => ?_, fun b hb => ?_⟩
  · unfold okR
    rw [mMk_R]
    intro q
    exact ⟨ul _ _ (h.1 b c hb hc q).1, up _ _ (h.1 b c hb hc q).2⟩
  · unfold okO
    rw [mMk_O hk hn hb hc]
    split
    · rename_i q
      obtain ⟨rfl, rfl, rfl⟩ := q
      intro _
      refine ⟨?_, up _ _ hr⟩
      rw [mMk_K]
      unfold upK
      rw [if_pos rfl]
      exact Nat.lt_succ_self _
    · intro q
      exact ⟨ul _ _ (h.2.1 a b c ha hb hc q).1, up _ _ (h.2.1 a b c ha hb hc q).2⟩
  · rw [mMk_K]
    unfold upK
    split
    · exact hn
    · exact h.2.2 b hb
/-- which rows there will be -/
theorem itm_6 {i k n : Nat} {w : mW} (hn : n ≤ 1024) {b c : Nat} (hc : c < 1024) : rdT (itm (mWb i k) n w) 6 (rP b c) = if b = k ∧ c < n then bI (mMd w i k c || (mHr w k (nI c) && !mGn w i k c)) else rdT w 6 (rP b c) := by
  induction n with
  | zero => simp [itm]
  | succ n ih =>
    have l : mLk w (itm (mWb i k) n w) := mLk.it
    show rdT (mWb i k n (itm (mWb i k) n w)) 6 (rP b c) = _
    rw [mWb, rdT_S, l.Md, l.Hr, l.Gn, ih (by omega)]
    simp only [rP_i (show n < 1024 by omega) hc, true_and]
    by_cases h : b = k ∧ c = n
    · obtain ⟨rfl, rfl⟩ := h
      simp
    · rw [if_neg h]
      by_cases h2 : b = k ∧ c < n
      · rw [if_pos h2, if_pos ⟨h2.1, by omega⟩]
      · rw [if_neg h2, if_neg (fun q => h2 ⟨q.1, by
          have : c ≠ n := fun q2 => h ⟨q.1, q2⟩
          omega⟩)]
theorem mWbs_6 {i : Nat} {w : mW} (h0 : rdK w 0 ≤ 1024) (h1 : rdK w 1 ≤ 1024) {k j : Nat} (hk : k < 2) (hj : j < rdK w k) (hj2 : j < 1024) : rdT (mWbs i w) 6 (rP k j) = bI (mMd w i k j || (mHr w k (nI j) && !mGn w i k j)) := by
  unfold mWbs
  rw [itm_6 h1 hj2]
  have l : mLk w (itm (mWb i 0) (rdK w 0) w) := mLk.it
  rcases (show k = 0 ∨ k = 1 by omega) with rfl | rfl
  · rw [if_neg (by omega), itm_6 h0 hj2, if_pos ⟨rfl, hj⟩]
  · rw [if_pos ⟨rfl, hj⟩, l.Md, l.Hr, l.Gn]
theorem mWp_of {i : Nat} {w : mW} (h : mInv w) (hi : i < 3) : mWp (mWbs i w) i := by
  intro k j hk hj hq
  have l : mLk w (mWbs i w) := mWbs_L
  rw [l.1] at hj
  have hn := h.2.2 k hk
  rw [mWbs_6 (h.2.2 0 (by decide)) (h.2.2 1 (by decide)) hk hj (by omega)] at hq
  rw [rOK_K l.1]
  unfold mRf
  rw [l.Md, l.Dr, l.2.2 10 (by decide), l.2.2 4 (by decide)]
  split
  · rename_i q
    rcases (Bool.or_eq_true _ _).mp q with q | q
    · exact (h.2.1 i k j hi hk (by omega) (mMd_0 q)).2
    · exact (h.2.1 i k j hi hk (by omega) (mDr_0 hn (by omega) q)).2
  · rename_i q
    refine (h.1 k j hk (by omega) ?_).2
    have q2 := bI_t hq
    rcases (Bool.or_eq_true _ _).mp q2 with q3 | q3
    · exact absurd ((Bool.or_eq_true _ _).mpr (Or.inl q3)) q
    · exact ((mHr_iff hn (by omega)).mp ((Bool.and_eq_true _ _).mp q3).1).2
