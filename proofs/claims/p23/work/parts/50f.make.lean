/-! P23, PURE: an object is made; the sessions that aren't touched; all of it together -/
theorem jI.oo {X : Nat → Nat → Prop} {z z1 : cZ} {a : Nat} (h : jI X a z) (hN : zN z1 = zN z) (hR : ∀ k c, k < 2 → zR z1 k c = zR z k c) (hE : ∀ k c, k < 2 → zE z1 (sL a k) c = zE z (sL a k) c) : jI X a z1 := by
  obtain ⟨s, c, d⟩ := h
  refine ⟨fun k j hk hj => ?_, fun k j q hk hj hq2 => ?_, fun k j q hk hj hq2 => ?_⟩
  · rw [hN] at hj
    rw [hE k j hk, hR k j hk]
    exact s k j hk hj
  · rw [hN] at hj hq2
    unfold tB
    rw [hE k j hk, hE (1 - k) q (by omega), hR (1 - k) q (by omega)]
    exact c k j q hk hj hq2
  · rw [hN] at hj hq2
    rw [hE k j hk, hE (1 - k) q (by omega), hR k j hk]
    exact d k j q hk hj hq2
theorem rmA_o {i a : Nat} {z : cZ} (hi : i < 3) : (∀ k c, k < 2 → zR (kRmA i a z) k c = zR z k c) ∧ ∀ b k c, b < 3 → k < 2 → b ≠ i → zE (kRmA i a z) (sL b k) c = zE z (sL b k) c := by
  unfold kRmA kRm0
  have u := zU_E (z := z) (i := i) (k := 0) (j := a) (v := fStrike (zE z (sL i 0) a)) (by decide)
  have e0 : kSt i 0 a z = sE z (sL i 0) a (fStrike (zE z (sL i 0) a)) := rfl
  rw [e0]
  generalize sE z (sL i 0) a (fStrike (zE z (sL i 0) a)) = z1 at u ⊢
  have L := lds_L hi (k := 1) (by decide) (nI a) z1 (zN z 1)
  generalize itr (kLd i 1 (nI a)) (zN z 1) z1 = z2 at L ⊢
  have K := rbs_K (i := i) (t := nI a) (z := z2) hi (zN z (sL i 1))
  refine ⟨fun k c hk => ?_, fun b k c hb hk hne => ?_⟩
  · rw [K.2.2.1 k c hk, L.1 k c hk, u.2.1 k c hk]
    split
    · rename_i q
      rw [q.1, q.2]
    · rfl
  · rw [K.2.2.2.1 b k c hb hk hne, L.2 b k c hb hk, if_neg (fun q => hne q.1), u.2.2 b k c hb hk, if_neg (fun q => hne q.1)]
/-- an object is made -/
theorem mk_lt {i k : Nat} {nm rf : Int32} {z : cZ} (hk : k < 2) {b c : Nat} (hb : b < 2) (hc : c < zN (kMk i k nm rf z) b) (hx : ¬ (b = k ∧ c = zN z k)) : c < zN z b := by
  rw [kMk_N hk] at hc
  by_cases e : b = k
  · rw [if_pos (Or.inl e)] at hc
    have e2 : c ≠ zN z b := fun e2 => hx ⟨e, by rw [← e]; exact e2⟩
    omega
  · rw [if_neg (by unfold sL; omega)] at hc
    exact hc
theorem mk_ge {i k : Nat} {nm rf : Int32} {z : cZ} (hk : k < 2) (u : Nat) : zN z u ≤ zN (kMk i k nm rf z) u ∧ zN (kMk i k nm rf z) u ≤ zN z u + 1 := by
  rw [kMk_N hk]
  split <;> omega
theorem okK_q {z : cZ} (hn : ∀ u, u < 8 → zN z u ≤ 1024) {b : Nat} {r : Int32} (h : okK z b r) {q : Nat} (hq : q < 2 ^ 31) (e : r = nI q) : q < zN z (1 - b) := by
  rcases h with ⟨h, -⟩ | ⟨p, hp, h⟩
  · exact absurd (e.symm.trans h) (nI_nm1 hq)
  · have h9 := hn (1 - b) (by omega)
    rw [e] at h
    have := nI_inj hq (by omega) h
    omega
theorem jA.mk {z : cZ} (h : jA z) (hq : cEq z) (hn : ∀ u, u < 8 → zN z u ≤ 1024) {i k : Nat} (hi : i < 3) (hk : k < 2) {nm rf : Int32} (hr : okK z k rf) (hm : nOK nm = true) : jA (kMk i k nm rf z) := by
  obtain ⟨f, ⟨v1, v2⟩, w, n⟩ := h
  have E := fun {a b c : Nat} (ha : a < 3) (hb : b < 2) => kMk_E (i := i) (k := k) (nm := nm) (rf := rf) (z := z) hk hq hi (a := a) (b := b) (c := c) ha hb
  have R := fun {b c : Nat} (hb : b < 2) => kMk_R (i := i) (k := k) (nm := nm) (rf := rf) (z := z) hk (b := b) (c := c) hb
  have L := fun {b c : Nat} (hb : b < 2) => mk_lt (i := i) (k := k) (nm := nm) (rf := rf) (z := z) hk (b := b) (c := c) hb
  have kK : ∀ b r, okK z b r → okK (kMk i k nm rf z) b r := fun b r q => q.elim Or.inl (fun ⟨p, hp, e⟩ => Or.inr ⟨p, Nat.lt_of_lt_of_le hp (mk_ge hk (1 - b)).1, e⟩)
  refine ⟨fun a b c ha hb hc => ?_, ⟨fun a b c ha hb hc => ?_, fun b c hb hc => ?_⟩, fun b c q hb hc hq9 => ?_, fun a b c ha hb hc => ?_⟩
  · by_cases x : b = k ∧ c = zN z k
    · rw [E ha hb]
      by_cases y : a = i ∧ b = k ∧ c = zN z k
      · rw [if_pos y]
        exact ⟨fun q => ff q, fun q => ff q⟩
      · rw [if_neg y, if_pos x]
        exact ⟨fun q => ff q, fun q => ff q⟩
    · rw [E ha hb, if_neg (fun y => x y.2), if_neg x]
      exact f a b c ha hb (L hb hc x)
  · by_cases x : b = k ∧ c = zN z k
    · rw [E ha hb]
      by_cases y : a = i ∧ b = k ∧ c = zN z k
      · rw [if_pos y]
        intro _
        refine ⟨?_, hm⟩
        show okK (kMk i k nm rf z) b rf
        rw [y.2.1]
        exact kK k rf hr
      · rw [if_neg y, if_pos x]
        exact fun q => ff q
    · rw [E ha hb, if_neg (fun y => x y.2), if_neg x]
      intro q
      have h9 := v1 a b c ha hb (L hb hc x) q
      exact ⟨kK _ _ h9.1, h9.2⟩
  · by_cases x : b = k ∧ c = zN z k
    · rw [R hb, if_pos x]
      exact fun q => ff q
    · rw [R hb, if_neg x]
      intro q
      have h9 := v2 b c hb (L hb hc x) q
      exact ⟨kK _ _ h9.1, h9.2⟩
  · intro ht hr9
    by_cases x : b = k ∧ c = zN z k
    · rw [R hb, if_pos x] at ht
      exact ff ht
    · have hc0 := L hb hc x
      rw [R hb, if_neg x] at ht hr9
      have hb2 : 1 - b < 2 := by omega
      have y : ¬ (1 - b = k ∧ q = zN z k) := fun y => by
        have h8 := hn k (by omega)
        have h9 := okK_q hn (v2 b c hb hc0 ht).1 (q := q) (by omega) hr9
        rw [y.1] at h9
        omega
      rw [R hb2, if_neg y]
      exact w b c q hb hc0 (L hb2 hq9 y) ht hr9
  · intro hf
    by_cases x : b = k ∧ c = zN z k
    · by_cases y : a = i ∧ b = k ∧ c = zN z k
      · refine ⟨by rw [R hb, if_pos x]; rfl, fun a2 ha2 hne => ?_⟩
        rw [E ha2 hb, if_neg (fun r => hne (r.1.trans y.1.symm)), if_pos x]
        rfl
      · rw [E ha hb, if_neg y, if_pos x] at hf
        exact absurd hf (by decide)
    · rw [E ha hb, if_neg (fun y => x y.2), if_neg x] at hf
      have h9 := n a b c ha hb (L hb hc x) hf
      refine ⟨by rw [R hb, if_neg x]; exact h9.1, fun a2 ha2 hne => ?_⟩
      rw [E ha2 hb, if_neg (fun y => x y.2), if_neg x]
      exact h9.2 a2 ha2 hne
theorem jI.mk {z : cZ} (hA : jA z) (hq : cEq z) (hn : ∀ u, u < 8 → zN z u ≤ 1024) {a i k : Nat} (h : jI xN a z) (ha : a < 3) (hi : i < 3) (hk : k < 2) {nm rf : Int32} (hr : a = i → ∀ q, q < zN z (1 - k) → rf = nI q → tB i z (1 - k) q = true) : jI xN a (kMk i k nm rf z) := by
  obtain ⟨s, c, d⟩ := h
  have E := fun {b c : Nat} (hb : b < 2) => kMk_E (i := i) (k := k) (nm := nm) (rf := rf) (z := z) hk hq hi (a := a) (b := b) (c := c) ha hb
  have R := fun {b c : Nat} (hb : b < 2) => kMk_R (i := i) (k := k) (nm := nm) (rf := rf) (z := z) hk (b := b) (c := c) hb
  have L := fun {b c : Nat} (hb : b < 2) => mk_lt (i := i) (k := k) (nm := nm) (rf := rf) (z := z) hk (b := b) (c := c) hb
  have T : ∀ b q, b < 2 → ¬ (b = k ∧ q = zN z k) → tB a (kMk i k nm rf z) b q = tB a z b q := fun b q hb x => by
    unfold tB
    rw [E hb, if_neg (fun y => x y.2), if_neg x, R hb, if_neg x]
  refine ⟨fun b x hb hx h3 => ?_, fun b x q hb hx hq9 hX hl hr9 => ?_, fun b x q hb hx hq9 hX hg ht hr9 => ?_⟩
  · by_cases y : b = k ∧ x = zN z k
    · rw [E hb] at h3
      by_cases y2 : a = i ∧ b = k ∧ x = zN z k
      · rw [if_pos y2] at h3
        exact ff h3
      · rw [if_neg y2, if_pos y] at h3
        exact ff h3
    · rw [E hb, if_neg (fun y2 => y y2.2), if_neg y] at h3 ⊢
      rw [R hb, if_neg y]
      exact s b x hb (L hb hx y) h3
  · have hb2 : 1 - b < 2 := by omega
    by_cases y : b = k ∧ x = zN z k
    · by_cases y2 : a = i ∧ b = k ∧ x = zN z k
      · rw [E hb, if_pos y2] at hr9
        have hr9 : rf = nI q := hr9
        have x9 : ¬ (1 - b = k ∧ q = zN z k) := fun r => by
          have r1 := r.1
          have y1 := y.1
          omega
        have hq8 := L hb2 hq9 x9
        rw [T (1 - b) q hb2 x9]
        rw [y.1] at hq8 ⊢
        have h9 := hr y2.1 q hq8 hr9
        rw [← y2.1] at h9
        exact h9
      · rw [E hb, if_neg y2, if_pos y] at hl
        exact absurd hl (by decide)
    · rw [E hb, if_neg (fun y2 => y y2.2), if_neg y] at hl hr9
      have hx0 := L hb hx y
      have g1 := (mk_ge (i := i) (nm := nm) (rf := rf) (z := z) hk (1 - b)).2
      have g2 := hn (1 - b) (by omega)
      have hq0 : q < zN z (1 - b) := okK_q hn (hA.2.1.1 a b x ha hb hx0 (fLive_1 hl).1).1 (by omega) hr9
      rw [T (1 - b) q hb2 (fun r => by
        rw [r.1] at hq0
        have := r.2
        omega)]
      exact c b x q hb hx0 hq0 hX hl hr9
  · have hb2 : 1 - b < 2 := by omega
    have y : ¬ (b = k ∧ x = zN z k) := fun y => by
      rw [R hb, if_pos y] at ht
      exact ff ht
    have y3 : ¬ (1 - b = k ∧ q = zN z k) := fun y3 => by
      rw [E hb2] at hg
      by_cases y2 : a = i ∧ 1 - b = k ∧ q = zN z k
      · rw [if_pos y2] at hg
        exact ff hg
      · rw [if_neg y2, if_pos y3] at hg
        exact ff hg
    rw [R hb, if_neg y] at ht hr9
    rw [E hb2, if_neg (fun y2 => y3 y2.2), if_neg y3] at hg
    rw [E hb, if_neg (fun y2 => y y2.2), if_neg y]
    exact d b x q hb (L hb hx y) (L hb2 hq9 y3) hX hg ht hr9
/-- all of it: P, the sessions that aren't stale -/
def jK (P : Nat → Prop) (z : cZ) : Prop := jA z ∧ ∀ a, a < 3 → P a → jI xN a z
theorem jK.ld {P : Nat → Prop} {z : cZ} (h : jK P z) {i k j : Nat} (hi : i < 3) (hk : k < 2) (hj : j < zN z k) (h0 : (zE z (sL i k) j).1 = false) (ht : (zR z k j).1 = true) : jK P (sE z (sL i k) j (fLoad (zE z (sL i k) j) (zR z k j))) :=
  ⟨h.1.ld hi hk hj h0 ht, fun a ha hp => by
    by_cases e : a = i
    · subst e
      exact jI.ld h.1 (h.2 a ha hp) hi hk hj h0 ht
    · exact (h.2 a ha hp).o ha e (zU_E hk)⟩
/-- a find: nothing, or a load -/
theorem kFi_c {z : cZ} (hq : cEq z) (hn8 : ∀ u, u < 8 → zN z u ≤ 1024) {i k : Nat} (hi : i < 3) (hk : k < 2) (ky : Int32) : kFi i k ky z = z ∨ ∃ j, j < zN z k ∧ ky = nI j ∧ (zE z (sL i k) j).1 = false ∧ (zR z k j).1 = true ∧ kFi i k ky z = sE z (sL i k) j (fLoad (zE z (sL i k) j) (zR z k j)) := by
  have hn := hn8 k (by omega)
  unfold kFi
  by_cases q : inK (zN z k) ky = true
  · obtain ⟨j, hj, rfl⟩ := inK_n hn q
    rw [eV_in (by rw [hq i k hi hk]; exact hn) (by rw [hq i k hi hk]; exact hj), rV_in hn hj, nI_clamp (by omega)]
    split
    · rename_i q2
      rw [Bool.and_eq_true, Bool.not_eq_true'] at q2
      exact Or.inr ⟨j, hj, rfl, q2.2, q2.1, rfl⟩
    · exact Or.inl rfl
  · rw [show (rV z k ky).1 = false from by unfold rV; rw [if_neg q]; rfl]
    exact Or.inl rfl
theorem jK.fi {P : Nat → Prop} {z : cZ} (h : jK P z) (hq : cEq z) (hn8 : ∀ u, u < 8 → zN z u ≤ 1024) {i k : Nat} (hi : i < 3) (hk : k < 2) (ky : Int32) : jK P (kFi i k ky z) := by
  rcases kFi_c hq hn8 hi hk ky with e | ⟨j, hj, -, h0, ht, e⟩
  · rw [e]
    exact h
  · rw [e]
    exact h.ld hi hk hj h0 ht
theorem jK.lds {P : Nat → Prop} {z : cZ} (h : jK P z) {i k : Nat} (hi : i < 3) (hk : k < 2) (t : Int32) {n : Nat} (hn : n ≤ zN z k) : jK P (itr (kLd i k t) n z) :=
  Q_it (Q := jK P) (N0 := zN z) (kLd_N i k t) (fun j z2 hj hz2 h2 => by
    unfold kLd
    split
    · rename_i q
      rw [Bool.and_eq_true, Bool.and_eq_true, Bool.not_eq_true'] at q
      exact h2.ld hi hk (by rw [hz2]; omega) q.2 q.1.1
    · exact h2) rfl h
theorem jK.set {P : Nat → Prop} {z : cZ} (h : jK P z) {i k j : Nat} (hi : i < 3) (hk : k < 2) (hj : j < zN z k) (nm9 rf9 : Int32) (h1 : (zE z (sL i k) j).1 = true → okK z k rf9 ∧ nOK nm9 = true) (h2 : jI xN i z → ∀ q, q < zN z (1 - k) → fLive (zE z (sL i k) j) = true → rf9 = nI q → tB i z (1 - k) q = true) : jK P (sE z (sL i k) j ((zE z (sL i k) j).1, (zE z (sL i k) j).2.1, (zE z (sL i k) j).2.2.1, nm9, rf9, (zE z (sL i k) j).2.2.2.2.2)) :=
  ⟨h.1.set hi hk hj nm9 rf9 h1, fun a ha hp => by
    by_cases e : a = i
    · subst e
      exact (h.2 a ha hp).set hi hk hj nm9 rf9 (fun q hq _ => h2 (h.2 a ha hp) q hq)
    · exact (h.2 a ha hp).o ha e (zU_E hk)⟩
theorem jK.nm {P : Nat → Prop} {z : cZ} (h : jK P z) {i k j : Nat} (hi : i < 3) (hk : k < 2) (hj : j < zN z k) {nm : Int32} (hm : nOK nm = true) : jK P (kNm i k j nm z) :=
  h.set hi hk hj nm (eRf (zE z (sL i k) j)) (fun q => ⟨(h.1.2.1.1 i k j hi hk hj q).1, hm⟩) (fun hI q hq hl e => hI.2.1 k j q hk hj hq (fun r => r) hl e)
theorem jK.rf {P : Nat → Prop} {z : cZ} (h : jK P z) (hn8 : ∀ u, u < 8 → zN z u ≤ 1024) {i k j : Nat} (hi : i < 3) (hk : k < 2) (hj : j < zN z k) {rf9 : Int32} (hr : (rf9 = -1 ∧ k = 0) ∨ ∃ q, q < zN z (1 - k) ∧ rf9 = nI q ∧ fLive (zE z (sL i (1 - k)) q) = true) : jK P (kRf i k j rf9 z) :=
  h.set hi hk hj (eNm (zE z (sL i k) j)) rf9 (fun q => ⟨hr.elim Or.inl (fun ⟨p, hp, e, _⟩ => Or.inr ⟨p, hp, e⟩), (h.1.2.1.1 i k j hi hk hj q).2⟩) (fun hI q hq _ e => by
    have hb := hn8 (1 - k) (by omega)
    rcases hr with ⟨r, -⟩ | ⟨p, hp, r, hl⟩
    · exact absurd (e.symm.trans r) (nI_nm1 (by omega))
    · have e9 : p = q := nI_inj (by omega) (by omega) (r.symm.trans e)
      rw [← e9]
      exact tB_live hI.1 (by omega) hp hl)
theorem jK.rmB {P : Nat → Prop} {z : cZ} (h : jK P z) (hq : cEq z) (hn : ∀ u, u < 8 → zN z u ≤ 1024) {i b : Nat} (hi : i < 3) (hb : b < zN z 1) : jK P (kRmB i b z) :=
  ⟨h.1.rmB hq hi hb, fun a ha hp => by
    by_cases e : a = i
    · subst e
      exact jI.rmB h.1 hq hn (h.2 a ha hp) hi hb
    · have K := rmB_K (i := i) (b := b) (z := z) hi
      exact (h.2 a ha hp).oo (kRmB_N i b z) K.2.2.1 (fun k c hk => K.2.2.2.1 a k c ha hk e)⟩
theorem jK.rmA {P : Nat → Prop} {z : cZ} (h : jK P z) (hq : cEq z) (hn : ∀ u, u < 8 → zN z u ≤ 1024) {i b : Nat} (hi : i < 3) (hb : b < zN z 0) : jK P (kRmA i b z) :=
  ⟨h.1.rmA hq hi hb, fun a ha hp => by
    by_cases e : a = i
    · subst e
      exact jI.rmA h.1 hq hn (h.2 a ha hp) hi hb
    · have K := rmA_o (i := i) (a := b) (z := z) hi
      exact (h.2 a ha hp).oo (kRmA_N i b z) K.1 (fun k c hk => K.2 a k c ha hk e)⟩
theorem jK.cr {P : Nat → Prop} {z : cZ} (h : jK P z) (hq : cEq z) {i : Nat} (hi : i < 3) : jK (fun a => P a ∨ a = i) (kCr i z) :=
  ⟨h.1.cr hq hi, fun a ha hp => by
    by_cases e : a = i
    · subst e
      exact jI.cr hq hi
    · exact (h.2 a ha (hp.elim id (fun r => absurd r e))).cro hq hi ha e⟩
theorem jK.mk {P : Nat → Prop} {z : cZ} (h : jK P z) (hq : cEq z) (hn : ∀ u, u < 8 → zN z u ≤ 1024) {i k : Nat} (hi : i < 3) (hk : k < 2) {nm rf9 : Int32} (hr : (rf9 = -1 ∧ k = 0) ∨ ∃ q, q < zN z (1 - k) ∧ rf9 = nI q ∧ fLive (zE z (sL i (1 - k)) q) = true) (hm : nOK nm = true) : jK P (kMk i k nm rf9 z) :=
  ⟨h.1.mk hq hn hi hk (hr.elim Or.inl (fun ⟨p, hp, e, _⟩ => Or.inr ⟨p, hp, e⟩)) hm, fun a ha hp => jI.mk h.1 hq hn (h.2 a ha hp) ha hi hk (fun e q hq9 e2 => by
    subst e
    have hb := hn (1 - k) (by omega)
    rcases hr with ⟨r, -⟩ | ⟨p, hp2, r, hl⟩
    · exact absurd (e2.symm.trans r) (nI_nm1 (by omega))
    · have e9 : p = q := nI_inj (by omega) (by omega) (r.symm.trans e2)
      rw [← e9]
      exact tB_live (h.2 a ha hp).1 (by omega) hp2 hl)⟩
theorem jK.fl {P : Nat → Prop} {z : cZ} (h : jK P z) (hq : cEq z) (hn : ∀ u, u < 8 → zN z u ≤ 1024) {i : Nat} (hi : i < 3) (hp : P i) : jK (fun a => a = i) (kFl i z) :=
  ⟨(jA.fl h.1 (h.2 i hi hp) hq hn hi).1, fun a _ e => by
    subst e
    exact (jA.fl h.1 (h.2 a hi hp) hq hn hi).2⟩
theorem jK.mono {P Q : Nat → Prop} {z : cZ} (h : jK P z) (hp : ∀ a, a < 3 → Q a → P a) : jK Q z := ⟨h.1, fun a ha q => h.2 a ha (hp a ha q)⟩
