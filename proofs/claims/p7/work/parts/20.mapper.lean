/-! THE MAPPER IN ANY STATE: addresses (ad: what never changes; y: rows of lists and elements), contents z -/
/-- sizes of the eight lists (0, 1: tables; 2 + 2 i + k: session i, kind k), rows, objects, writes: how many, which, room -/
abbrev cZ : Type := (Nat → Nat) × (Nat → Nat → vR) × (Nat → Nat → vE) × Nat × (Nat → Nat → Int32) × Nat
abbrev cY : Type := (Nat → Nat) × (Nat → Nat → Nat)
def zN (z : cZ) : Nat → Nat := z.1
def zR (z : cZ) : Nat → Nat → vR := z.2.1
def zE (z : cZ) : Nat → Nat → vE := z.2.2.1
def zW (z : cZ) : Nat := z.2.2.2.1
def zJ (z : cZ) : Nat → Nat → Int32 := z.2.2.2.2.1
def zC (z : cZ) : Nat := z.2.2.2.2.2
def yX (y : cY) : Nat → Nat := y.1
def yO (y : cY) : Nat → Nat → Nat := y.2
def up2 {α : Type} (f : Nat → Nat → α) (u k : Nat) (v : α) : Nat → Nat → α := fun a b => if a = u ∧ b = k then v else f a b
theorem up2_s {α : Type} (f : Nat → Nat → α) (u k : Nat) (v : α) : up2 f u k v u k = v := by simp [up2]
theorem up2_n {α : Type} {f : Nat → Nat → α} {u k a b : Nat} {v : α} (h : ¬ (a = u ∧ b = k)) : up2 f u k v a b = f a b := by simp [up2, h]
def sE (z : cZ) (u k : Nat) (v : vE) : cZ := (zN z, zR z, up2 (zE z) u k v, zW z, zJ z, zC z)
def sR (z : cZ) (u k : Nat) (v : vR) : cZ := (zN z, up2 (zR z) u k v, zE z, zW z, zJ z, zC z)
/-- what no call changes -/
def cFix (G : gG) (M : gM) (x : Nat) (ad : Nat → Nat) : Prop :=
  M x = some (oX (ad 0) (ad 1) (ad 2) (ad 3)) ∧ (∀ k, k < 2 → M (ad k) = some (oT (ad (10 + k)) (ad (20 + k))) ∧ M (ad (20 + k)) = some (eR v0R)) ∧
  (∃ f : Nat → Option Nat, M (ad 3) = some (.inl (G.2 4, 3, .inr (.inr (.inr (.inr f))))) ∧ ∀ i, i < 3 → f i = some (ad (4 + i))) ∧
  (∀ i, i < 3 → M (ad (4 + i)) = some (oS (ad (12 + 2 * i)) (ad (13 + 2 * i)) (ad (40 + i))) ∧ M (ad (40 + i)) = some (eE v0E))
def cLst (G : gG) (dce : Nat) (M : gM) (ad : Nat → Nat) (y : cY) (z : cZ) : Prop := ∀ u, u < 8 → (∃ mc : Int32, M (ad (10 + u)) = some (oL mc (yX y u) (nI (zN z u)))) ∧ ((zN z u = 0 ∧ yX y u = dce) ∨ ∃ (cap : Nat) (g : Nat → Option Nat), M (yX y u) = some (oA G cap g) ∧ zN z u ≤ cap ∧ (cap ≤ 2048 ∧ 0 < zN z u) ∧ ∀ k, k < zN z u → g k = some (yO y u k))
def cElm (M : gM) (y : cY) (z : cZ) : Prop := (∀ u k, u < 2 → k < zN z u → M (yO y u k) = some (eR (zR z u k))) ∧ (∀ u k, 2 ≤ u → u < 8 → k < zN z u → M (yO y u k) = some (eE (zE z u k)))
def cJrn (G : gG) (M : gM) (ad : Nat → Nat) (y : cY) (z : cZ) : Prop := M (ad 2) = some (oJ (nI (zW z)) (yX y 8) (yX y 9)) ∧ (M (yX y 8) = some (oI G (zC z) (zJ z 0)) ∧ M (yX y 9) = some (oI G (zC z) (zJ z 1)) ∧ 64 ≤ zC z ∧ zW z ≤ zC z ∧ zC z ≤ 32768) ∧ yX y 8 ≠ yX y 9
def cDis (ad : Nat → Nat) (y : cY) (z : cZ) (dce : Nat) : Prop := (∀ u v, u < 8 → v < 8 → ad (10 + u) = ad (10 + v) → u = v) ∧ (∀ u v k l, u < 8 → v < 8 → k < zN z u → l < zN z v → yO y u k = yO y v l → u = v ∧ k = l) ∧
  (∀ u k, u < 8 → k < zN z u → yO y u k ≠ ad 20 ∧ yO y u k ≠ ad 21 ∧ yO y u k ≠ ad 40 ∧ yO y u k ≠ ad 41 ∧ yO y u k ≠ ad 42) ∧ (∀ u v, u < 8 → v < 8 → 0 < zN z u → 0 < zN z v → yX y u = yX y v → u = v) ∧ ∀ u, u < 8 → yX y u ≠ ad 3
def CW (G : gG) (dce : Nat) (x : Nat) (ad : Nat → Nat) (M : gM) (y : cY) (z : cZ) : Prop := cFix G M x ad ∧ cLst G dce M ad y z ∧ cElm M y z ∧ cJrn G M ad y z ∧ cDis ad y z dce ∧ ∀ u, u < 8 → zN z u ≤ 1024
/-- the cells that calls may change -/
def cOwn (ad : Nat → Nat) (y : cY) (z : cZ) (dce : Nat) (b : Nat) : Prop := (∃ u, u < 8 ∧ b = ad (10 + u)) ∨ (∃ u, u < 10 ∧ b = yX y u ∧ (u < 8 → 0 < zN z u)) ∨ (∃ u k, u < 8 ∧ k < zN z u ∧ b = yO y u k) ∨ b = ad 2
def cStep (ad : Nat → Nat) (dce : Nat) (y : cY) (z : cZ) (M : gM) (y1 : cY) (z1 : cZ) (M1 : gM) : Prop := (∀ b e, M b = some e → ¬ cOwn ad y z dce b → M1 b = some e) ∧ ∀ b, cOwn ad y1 z1 dce b → cOwn ad y z dce b ∨ M b = none
theorem cStep.rf {ad : Nat → Nat} {dce : Nat} {y : cY} {z : cZ} {M : gM} : cStep ad dce y z M y z M := ⟨fun _ _ h _ => h, fun _ h => Or.inl h⟩
theorem cStep.tr {ad : Nat → Nat} {dce : Nat} {y y1 y2 : cY} {z z1 z2 : cZ} {M M1 M2 : gM} (h1 : cStep ad dce y z M y1 z1 M1) (h2 : cStep ad dce y1 z1 M1 y2 z2 M2) : cStep ad dce y z M y2 z2 M2 := by
  refine ⟨fun b e hb hn => ?_, fun b hb => ?_⟩
  · refine h2.1 b e (h1.1 b e hb hn) (fun q => ?_)
    rcases h1.2 b q with h | h
    · exact hn h
    · rw [hb] at h
      cases h
  · rcases h2.2 b hb with h | h
    · exact h1.2 b h
    · by_cases hn : cOwn ad y z dce b
      · exact Or.inl hn
      · refine Or.inr ?_
        cases e : M b with
        | none => rfl
        | some w =>
          rw [h1.1 b w e hn] at h
          cases h
/-- from one state to another; the elements stay where they are -/
def cTo (G : gG) (dce x : Nat) (ad : Nat → Nat) (M : gM) (y : cY) (z : cZ) (M1 : gM) (z1 : cZ) : Prop := ∃ y1 : cY, yO y1 = yO y ∧ CW G dce x ad M1 y1 z1 ∧ cStep ad dce y z M y1 z1 M1
theorem cTo.rf {G : gG} {dce x : Nat} {ad : Nat → Nat} {M : gM} {y : cY} {z : cZ} (h : CW G dce x ad M y z) : cTo G dce x ad M y z M z := ⟨y, rfl, h, cStep.rf⟩
theorem cTo.tr {G : gG} {dce x : Nat} {ad : Nat → Nat} {M M1 M2 : gM} {y y1 : cY} {z z1 z2 : cZ} (ho : yO y1 = yO y) (h1 : cStep ad dce y z M y1 z1 M1) (h2 : cTo G dce x ad M1 y1 z1 M2 z2) : cTo G dce x ad M y z M2 z2 := by
  obtain ⟨y2, ho2, hc2, hs2⟩ := h2
  exact ⟨y2, ho2.trans ho, hc2, h1.tr hs2⟩
theorem CW.ent {G : gG} {dce x : Nat} {ad : Nat → Nat} {M : gM} {y : cY} {z : cZ} (h : CW G dce x ad M y z) {u k : Nat} (h1 : 2 ≤ u) (h2 : u < 8) (h3 : k < zN z u) : M (yO y u k) = some (eE (zE z u k)) := h.2.2.1.2 u k h1 h2 h3
theorem CW.row {G : gG} {dce x : Nat} {ad : Nat → Nat} {M : gM} {y : cY} {z : cZ} (h : CW G dce x ad M y z) {u k : Nat} (h2 : u < 2) (h3 : k < zN z u) : M (yO y u k) = some (eR (zR z u k)) := h.2.2.1.1 u k h2 h3
theorem CW.n {G : gG} {dce x : Nat} {ad : Nat → Nat} {M : gM} {y : cY} {z : cZ} (h : CW G dce x ad M y z) {u : Nat} (hu : u < 8) : zN z u ≤ 1024 := h.2.2.2.2.2 u hu
/-- an object is written -/
theorem CW.setE {G : gG} {dce x : Nat} {ad : Nat → Nat} {M M1 : gM} {y : cY} {z : cZ} (h : CW G dce x ad M y z) {u k : Nat} {v : vE} (h1 : 2 ≤ u) (h2 : u < 8) (h3 : k < zN z u) (e : M1 = mu M (yO y u k) (eE v)) : CW G dce x ad M1 y (sE z u k v) ∧ cStep ad dce y z M y (sE z u k v) M1 := by
  have hE := h.ent h1 h2 h3
  obtain ⟨⟨hX, hT, ⟨f, hsa, hf⟩, hS⟩, hL, hEl, ⟨hj, ⟨hj1, hj2, hj3⟩, hj4⟩, hD, hn⟩ := h
  have t : ∀ b w, M b = some w → (∀ fs, w ≠ .inr (1, fs)) → M1 b = some w := fun b w hb hy => by
    rw [e]
    exact mu_g hb (gM_ne hb hE (by obtain ⟨a1, a2, a3, a4, a5, a6, a7, a8⟩ := zE z u k; exact hy _))
  have nb : ∀ i, i < 3 → ad (40 + i) ≠ yO y u k := fun i hi q => by
    have := hD.2.2.1 u k h2 h3
    rcases (show i = 0 ∨ i = 1 ∨ i = 2 by omega) with rfl | rfl | rfl
    · exact this.2.2.1 q.symm
    · exact this.2.2.2.1 q.symm
    · exact this.2.2.2.2 q.symm
  refine ⟨⟨⟨t _ _ hX (by simp [oX]), fun k hk => ⟨t _ _ (hT k hk).1 (by simp [oT]), t _ _ (hT k hk).2 (by simp [eR, v0R])⟩, ⟨f, t _ _ hsa (by simp), hf⟩, fun i hi => ⟨t _ _ (hS i hi).1 (by simp [oS]), by rw [e]; exact mu_g (hS i hi).2 (nb i hi)⟩⟩, ?_, ⟨fun a b ha hb => t _ _ (hEl.1 a b ha hb) (by show ∀ fs, eR (zR z a b) ≠ _; obtain ⟨w1, w2, w3, w4⟩ := zR z a b; simp [eR]), fun a b ha hb hc => ?_⟩, ⟨t _ _ hj (by simp [oJ]), ⟨t _ _ hj1 (by simp [oI]), t _ _ hj2 (by simp [oI]), hj3⟩, hj4⟩, hD, hn⟩, ?_, fun b hb => Or.inl hb⟩
  · intro v hv
    obtain ⟨⟨mc, q1⟩, q2⟩ := hL v hv
    refine ⟨⟨mc, t _ _ q1 (by simp [oL])⟩, ?_⟩
    rcases q2 with q2 | ⟨cap, g, q2, q3⟩
    · exact Or.inl q2
    · exact Or.inr ⟨cap, g, t _ _ q2 (by simp [oA]), q3⟩
  · show M1 (yO y a b) = some (eE (up2 (zE z) u k v a b))
    by_cases q : a = u ∧ b = k
    · obtain ⟨rfl, rfl⟩ := q
      rw [up2_s, e]
      exact mu_s _ _ _
    · rw [up2_n q, e]
      exact mu_g (hEl.2 a b ha hb hc) (fun q9 => q (hD.2.1 a u b k hb h2 hc h3 q9))
  · intro b w hb hn9
    rw [e]
    exact mu_g hb (fun q => hn9 (Or.inr (Or.inr (Or.inl ⟨u, k, h2, h3, q⟩))))
/-- a row is written -/
theorem CW.setR {G : gG} {dce x : Nat} {ad : Nat → Nat} {M M1 : gM} {y : cY} {z : cZ} (h : CW G dce x ad M y z) {u k : Nat} {v : vR} (h2 : u < 2) (h3 : k < zN z u) (e : M1 = mu M (yO y u k) (eR v)) : CW G dce x ad M1 y (sR z u k v) ∧ cStep ad dce y z M y (sR z u k v) M1 := by
  have hE := h.row h2 h3
  have h28 : u < 8 := by omega
  obtain ⟨⟨hX, hT, ⟨f, hsa, hf⟩, hS⟩, hL, hEl, ⟨hj, ⟨hj1, hj2, hj3⟩, hj4⟩, hD, hn⟩ := h
  have t : ∀ b w, M b = some w → (∀ fs, w ≠ .inr (4, fs)) → M1 b = some w := fun b w hb hy => by
    rw [e]
    exact mu_g hb (gM_ne hb hE (by obtain ⟨a1, a2, a3, a4⟩ := zR z u k; exact hy _))
  have nb : ∀ i, i < 2 → ad (20 + i) ≠ yO y u k := fun i hi q => by
    have := hD.2.2.1 u k h28 h3
    rcases (show i = 0 ∨ i = 1 by omega) with rfl | rfl
    · exact this.1 q.symm
    · exact this.2.1 q.symm
  refine ⟨⟨⟨t _ _ hX (by simp [oX]), fun k hk => ⟨t _ _ (hT k hk).1 (by simp [oT]), by rw [e]; exact mu_g (hT k hk).2 (nb k hk)⟩, ⟨f, t _ _ hsa (by simp), hf⟩, fun i hi => ⟨t _ _ (hS i hi).1 (by simp [oS]), t _ _ (hS i hi).2 (by simp [eE, v0E])⟩⟩, ?_, ⟨fun a b ha hb => ?_, fun a b ha hb hc => t _ _ (hEl.2 a b ha hb hc) (by show ∀ fs, eE (zE z a b) ≠ _; obtain ⟨w1, w2, w3, w4, w5, w6, w7, w8⟩ := zE z a b; simp [eE])⟩, ⟨t _ _ hj (by simp [oJ]), ⟨t _ _ hj1 (by simp [oI]), t _ _ hj2 (by simp [oI]), hj3⟩, hj4⟩, hD, hn⟩, ?_, fun b hb => Or.inl hb⟩
  · intro v hv
    obtain ⟨⟨mc, q1⟩, q2⟩ := hL v hv
    refine ⟨⟨mc, t _ _ q1 (by simp [oL])⟩, ?_⟩
    rcases q2 with q2 | ⟨cap, g, q2, q3⟩
    · exact Or.inl q2
    · exact Or.inr ⟨cap, g, t _ _ q2 (by simp [oA]), q3⟩
  · show M1 (yO y a b) = some (eR (up2 (zR z) u k v a b))
    by_cases q : a = u ∧ b = k
    · obtain ⟨rfl, rfl⟩ := q
      rw [up2_s, e]
      exact mu_s _ _ _
    · rw [up2_n q, e]
      exact mu_g (hEl.1 a b ha hb) (fun q9 => q (hD.2.1 a u b k (by omega) h28 hb h3 q9))
  · intro b w hb hn9
    rw [e]
    exact mu_g hb (fun q => hn9 (Or.inr (Or.inr (Or.inl ⟨u, k, h28, h3, q⟩))))
/-- what a key means: the object or nobody, the row or none -/
def inK (n : Nat) (ky : Int32) : Bool := !decide (ky < 0) && decide (ky < nI n)
theorem inK_n {n : Nat} (hn : n ≤ 1024) {ky : Int32} (h : inK n ky = true) : ∃ k, k < n ∧ ky = nI k := by
  simp only [inK, Bool.and_eq_true, Bool.not_eq_true', decide_eq_false_iff_not, decide_eq_true_eq] at h
  obtain ⟨k, h1, h2⟩ := nI_of h.1
  exact ⟨k, (nI_ltI h1 (by omega)).mp (by rw [← h2]; exact h.2), h2⟩
theorem inK_of {n k : Nat} (hn : n ≤ 1024) (h : k < n) : inK n (nI k) = true := by
  simp only [inK, Bool.and_eq_true, Bool.not_eq_true', decide_eq_false_iff_not, decide_eq_true_eq]
  exact ⟨nI_pos (by omega), nI_lt h (by omega)⟩
theorem inK_not {n : Nat} {ky : Int32} (h : inK n ky = false) : ky < 0 ∨ nI n ≤ ky := by
  by_cases h1 : ky < 0
  · exact Or.inl h1
  · refine Or.inr (Int32.not_lt.mp (fun q => ?_))
    rw [inK, decide_eq_false h1, decide_eq_true q] at h
    cases h
def sL (i k : Nat) : Nat := 2 + 2 * i + k
/-- where the object of a key lies (O: elements, n: sizes), what it is -/
def enA (ad : Nat → Nat) (O : Nat → Nat → Nat) (n : Nat → Nat) (i k : Nat) (ky : Int32) : Nat := if inK (n (sL i k)) ky = true then O (sL i k) ky.toNatClampNeg else ad (40 + i)
def eV (z : cZ) (i k : Nat) (ky : Int32) : vE := if inK (zN z (sL i k)) ky = true then zE z (sL i k) ky.toNatClampNeg else v0E
def rwA (ad : Nat → Nat) (O : Nat → Nat → Nat) (n : Nat → Nat) (k : Nat) (ky : Int32) : Nat := if inK (n k) ky = true then O k ky.toNatClampNeg else ad (20 + k)
def rV (z : cZ) (k : Nat) (ky : Int32) : vR := if inK (zN z k) ky = true then zR z k ky.toNatClampNeg else v0R
theorem CW_eA {G : gG} {dce x : Nat} {ad : Nat → Nat} {M : gM} {y : cY} {z : cZ} (h : CW G dce x ad M y z) {i k : Nat} (hi : i < 3) (hk : k < 2) (ky : Int32) : M (enA ad (yO y) (zN z) i k ky) = some (eE (eV z i k ky)) := by
  unfold enA eV
  split
  · rename_i q
    obtain ⟨j, h1, h2⟩ := inK_n (h.n (by unfold sL; omega)) q
    have h3 := h.n (u := sL i k) (by unfold sL; omega)
    rw [h2, nI_clamp (by omega)]
    exact h.ent (by unfold sL; omega) (by unfold sL; omega) h1
  · exact (h.1.2.2.2 i hi).2
theorem CW_rA {G : gG} {dce x : Nat} {ad : Nat → Nat} {M : gM} {y : cY} {z : cZ} (h : CW G dce x ad M y z) {k : Nat} (hk : k < 2) (ky : Int32) : M (rwA ad (yO y) (zN z) k ky) = some (eR (rV z k ky)) := by
  unfold rwA rV
  split
  · rename_i q
    obtain ⟨j, h1, h2⟩ := inK_n (h.n (by omega)) q
    have h3 := h.n (u := k) (by omega)
    rw [h2, nI_clamp (by omega)]
    exact h.row hk h1
  · exact (h.1.2.1 k hk).2
theorem eA_in {ad : Nat → Nat} {O : Nat → Nat → Nat} {n : Nat → Nat} {i k j : Nat} (hn : n (sL i k) ≤ 1024) (h : j < n (sL i k)) : enA ad O n i k (nI j) = O (sL i k) j := by
  unfold enA
  rw [if_pos (inK_of hn h), nI_clamp (by omega)]
theorem eV_in {z : cZ} {i k j : Nat} (hn : zN z (sL i k) ≤ 1024) (h : j < zN z (sL i k)) : eV z i k (nI j) = zE z (sL i k) j := by
  unfold eV
  rw [if_pos (inK_of hn h), nI_clamp (by omega)]
theorem rA_in {ad : Nat → Nat} {O : Nat → Nat → Nat} {n : Nat → Nat} {k j : Nat} (hn : n k ≤ 1024) (h : j < n k) : rwA ad O n k (nI j) = O k j := by
  unfold rwA
  rw [if_pos (inK_of hn h), nI_clamp (by omega)]
theorem rV_in {z : cZ} {k j : Nat} (hn : zN z k ≤ 1024) (h : j < zN z k) : rV z k (nI j) = zR z k j := by
  unfold rV
  rw [if_pos (inK_of hn h), nI_clamp (by omega)]
theorem ad_if {ad : Nat → Nat} {i k : Nat} (hk : k < 2) : (if nI k = 0 then ad (12 + 2 * i) else ad (13 + 2 * i)) = ad (10 + sL i k) := by
  unfold sL
  rcases (show k = 0 ∨ k = 1 by omega) with rfl | rfl
  · rw [if_pos (by decide)]
    congr 1
    omega
  · rw [if_neg (by decide)]
    congr 1
    omega
theorem ta_if {ad : Nat → Nat} {k : Nat} (hk : k < 2) : (if nI k = 0 then ad 0 else ad 1) = ad k := by
  rcases (show k = 0 ∨ k = 1 by omega) with rfl | rfl
  · rw [if_pos (by decide)]
  · rw [if_neg (by decide)]
/-- how many of the first n; whether one of them -/
def cnt (p : Nat → Bool) : Nat → Nat
  | 0 => 0
  | n + 1 => cnt p n + (if p n = true then 1 else 0)
theorem cnt_le (p : Nat → Bool) (n : Nat) : cnt p n ≤ n := by
  induction n with
  | zero => exact Nat.le_refl 0
  | succ n ih =>
    show cnt p n + _ ≤ n + 1
    split <;> omega
theorem cnt_congr {p q : Nat → Bool} {n : Nat} (h : ∀ k, k < n → p k = q k) : cnt p n = cnt q n := by
  induction n with
  | zero => rfl
  | succ n ih =>
    show cnt p n + _ = cnt q n + _
    rw [ih (fun k hk => h k (by omega)), h n (by omega)]
def anyN (p : Nat → Bool) : Nat → Bool
  | 0 => false
  | n + 1 => anyN p n || p n
theorem anyN_of {p : Nat → Bool} {n k : Nat} (hk : k < n) (h : p k = true) : anyN p n = true := by
  induction n with
  | zero => omega
  | succ n ih =>
    show (anyN p n || p n) = true
    by_cases e : k = n
    · rw [← e, h, Bool.or_true]
    · rw [ih (by omega), Bool.true_or]
/-- a step for each of the first n keys -/
def itr (F : Nat → cZ → cZ) : Nat → cZ → cZ
  | 0, z => z
  | n + 1, z => F n (itr F n z)
theorem itr_N {F : Nat → cZ → cZ} (h : ∀ j z, zN (F j z) = zN z) (n : Nat) (z : cZ) : zN (itr F n z) = zN z := by
  induction n with
  | zero => rfl
  | succ n ih => exact (h n _).trans ih
