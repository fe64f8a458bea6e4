/-! A PLACE IS ADDED -/
theorem gM_nn' {M : gM} {a b : Nat} {w : va_E} (ha : M a = none) (hb : M b = some w) : a ≠ b := fun r => by
  rw [r, hb] at ha
  cases ha
def zAdd (u : Nat) (z : cZ) : cZ := (fun v => if v = u then zN z u + 1 else zN z v, up2 (zR z) u (zN z u) v0R, up2 (zE z) u (zN z u) v0E, zW z, zJ z, zC z)
def yAdd (y : cY) (u n a q : Nat) : cY := (fun v => if v = u then q else yX y v, up2 (yO y) u n a)
theorem zAdd_Nu (u : Nat) (z : cZ) : zN (zAdd u z) u = zN z u + 1 := if_pos rfl
theorem zAdd_Nn {u v : Nat} {z : cZ} (h : v ≠ u) : zN (zAdd u z) v = zN z v := if_neg h
theorem yAdd_Xu (y : cY) (u n a q : Nat) : yX (yAdd y u n a q) u = q := if_pos rfl
theorem yAdd_Xn {y : cY} {u n a q v : Nat} (h : v ≠ u) : yX (yAdd y u n a q) v = yX y v := if_neg h
set_option maxHeartbeats 1000000 in
theorem CW.add {G : gG} {dce x : Nat} {ad : Nat → Nat} {M M1 : gM} {y : cY} {z : cZ} (h : CW G dce x ad M y z) {u a q cap : Nat} {g : Nat → Option Nat} {mc : Int32} {cell : va_E} (hu : u < 8) (hn9 : zN z u ≤ 1023) (ha : M a = none) (hq9 : (q = yX y u ∧ 0 < zN z u) ∨ (M q = none ∧ q ≠ a)) (hcell : (u < 2 ∧ cell = eR v0R) ∨ (2 ≤ u ∧ cell = eE v0E)) (hc1 : zN z u + 1 ≤ cap) (hc2 : cap ≤ 2048) (hg : ∀ k, k < zN z u → g k = some (yO y u k)) (hga : g (zN z u) = some a)
    (e : M1 = mu (mu (mu M a cell) q (oA G cap g)) (ad (10 + u)) (oL mc q (nI (zN z u + 1)))) : CW G dce x ad M1 (yAdd y u (zN z u) a q) (zAdd u z) ∧ cStep ad dce y z M (yAdd y u (zN z u) a q) (zAdd u z) M1 := by
  obtain ⟨⟨hX, hT, ⟨f, hsa, hf⟩, hS⟩, hL, hEl, ⟨hj, ⟨hj1, hj2, hj3⟩, hj4⟩, hD, hn⟩ := h
  obtain ⟨⟨mc0, hLu⟩, hRu⟩ := hL u hu
  have hq : (q = yX y u ∧ ∃ c0 g0, M q = some (oA G c0 g0)) ∨ (M q = none ∧ q ≠ a) := by
    rcases hq9 with ⟨h1, h2⟩ | h1
    · rcases hRu with ⟨h3, -⟩ | ⟨c0, g0, h3, -⟩
      · omega
      · exact Or.inl ⟨h1, c0, g0, by rw [h1]; exact h3⟩
    · exact Or.inr h1
  have t : ∀ b w, M b = some w → b ≠ ad (10 + u) → b ≠ q → M1 b = some w := fun b w hb h1 h2 => by
    rw [e, mu_n h1, mu_n h2, mu_n (fun r => by rw [r, ha] at hb; cases hb)]
    exact hb
  have nq : ∀ b w, M b = some w → (∀ c0 g0, w ≠ oA G c0 g0) → b ≠ q := fun b w hb hw r => by
    rcases hq with ⟨-, c0, g0, h1⟩ | ⟨h1, -⟩
    · rw [r, h1] at hb
      cases hb
      exact hw _ _ rfl
    · rw [r, h1] at hb
      cases hb
  have tt : ∀ b w, M b = some w → (∀ c0 g0, w ≠ oA G c0 g0) → (∀ m k v, w ≠ oL m k v) → M1 b = some w := fun b w hb h1 h2 => t b w hb (fun r => by rw [r, hLu] at hb; cases hb; exact h2 _ _ _ rfl) (nq b w hb h1)
  have hal : a ≠ ad (10 + u) := fun r => by rw [r, hLu] at ha; cases ha
  have haq : a ≠ q := fun r => by
    rcases hq with ⟨-, c0, g0, h1⟩ | ⟨-, h1⟩
    · rw [← r, ha] at h1
      cases h1
    · exact h1 r.symm
  have hql : q ≠ ad (10 + u) := fun r => nq _ _ hLu (fun c0 g0 => by simp [oL, oA]) r.symm
  have k1 : M1 (ad (10 + u)) = some (oL mc q (nI (zN z u + 1))) := by rw [e]; exact mu_s _ _ _
  have k2 : M1 q = some (oA G cap g) := by rw [e, mu_n hql]; exact mu_s _ _ _
  have k3 : M1 a = some cell := by rw [e, mu_n hal, mu_n haq]; exact mu_s _ _ _
  have hO : ∀ v k, v < 8 → k < zN z v → ∃ w, M (yO y v k) = some w := fun v k hv hk => by
    by_cases h2 : v < 2
    · exact ⟨_, hEl.1 v k h2 hk⟩
    · exact ⟨_, hEl.2 v k (by omega) hv hk⟩
  have hOa : ∀ v k, v < 8 → k < zN z v → yO y v k ≠ a := fun v k hv hk r => by
    obtain ⟨w, hw⟩ := hO v k hv hk
    rw [r, ha] at hw
    cases hw
  have hup : ∀ v k, k < zN (zAdd u z) v → (v = u ∧ k = zN z u) ∨ ((¬ (v = u ∧ k = zN z u)) ∧ k < zN z v) := fun v k hk => by
    by_cases h1 : v = u ∧ k = zN z u
    · exact Or.inl h1
    · refine Or.inr ⟨h1, ?_⟩
      by_cases h2 : v = u
      · subst h2
        rw [zAdd_Nu] at hk
        have : k ≠ zN z v := fun h3 => h1 ⟨rfl, h3⟩
        omega
      · rw [zAdd_Nn h2] at hk
        exact hk
  have rowR : ∀ w : vR, (∀ c0 g0, eR w ≠ oA G c0 g0) ∧ (∀ m k v, eR w ≠ oL m k v) := fun w => by
    obtain ⟨w1, w2, w3, w4⟩ := w
    exact ⟨fun _ _ => by simp [eR, oA], fun _ _ _ => by simp [eR, oL]⟩
  have rowE : ∀ w : vE, (∀ c0 g0, eE w ≠ oA G c0 g0) ∧ (∀ m k v, eE w ≠ oL m k v) := fun w => by
    obtain ⟨w1, w2, w3, w4, w5, w6, w7, w8⟩ := w
    exact ⟨fun _ _ => by simp [eE, oA], fun _ _ _ => by simp [eE, oL]⟩
  have hXq : ∀ v, v < 8 → v ≠ u → 0 < zN z v → yX y v ≠ q := fun v hv hvu h0 r => by
    rcases hq9 with ⟨h1, h2⟩ | ⟨h1, -⟩
    · exact hvu (hD.2.2.2.1 v u hv hu h0 h2 (r.trans h1))
    · rcases (hL v hv).2 with ⟨h2, -⟩ | ⟨c0, g0, h2, -⟩
      · omega
      · rw [r, h1] at h2
        cases h2
  have h20 : M (ad 20) = some (eR v0R) := (hT 0 (by omega)).2
  have h21 : M (ad 21) = some (eR v0R) := (hT 1 (by omega)).2
  have h40 : M (ad 40) = some (eE v0E) := (hS 0 (by omega)).2
  have h41 : M (ad 41) = some (eE v0E) := (hS 1 (by omega)).2
  have h42 : M (ad 42) = some (eE v0E) := (hS 2 (by omega)).2
  have hq3 : q ≠ ad 3 := fun r => by
    rcases hq with ⟨h1, -⟩ | ⟨h1, -⟩
    · exact hD.2.2.2.2 u hu (h1.symm.trans r)
    · rw [r, hsa] at h1
      cases h1
  refine ⟨⟨⟨tt _ _ hX (by simp [oX, oA]) (by simp [oX, oL]), fun k hk => ⟨tt _ _ (hT k hk).1 (by simp [oT, oA]) (by simp [oT, oL]), tt _ _ (hT k hk).2 (rowR _).1 (rowR _).2⟩, ⟨f, ?_, hf⟩, fun i hi => ⟨tt _ _ (hS i hi).1 (by simp [oS, oA]) (by simp [oS, oL]), tt _ _ (hS i hi).2 (rowE _).1 (rowE _).2⟩⟩, ?_, ⟨?_, ?_⟩, ⟨?_, ⟨?_, ?_, hj3⟩, ?_⟩, ?_, ?_⟩, ?_, ?_⟩
  · exact t _ _ hsa (fun r => by rw [r, hLu] at hsa; cases hsa) (Ne.symm hq3)
  · intro v hv
    by_cases hvu : v = u
    · subst hvu
      refine ⟨⟨mc, by rw [yAdd_Xu, zAdd_Nu]; exact k1⟩, Or.inr ⟨cap, g, by rw [yAdd_Xu]; exact k2, by rw [zAdd_Nu]; exact hc1, ⟨hc2, by rw [zAdd_Nu]; omega⟩, fun k hk => ?_⟩⟩
      rw [zAdd_Nu] at hk
      show g k = some (up2 (yO y) v (zN z v) a v k)
      by_cases hk2 : k = zN z v
      · rw [hk2, up2_s]
        exact hga
      · rw [up2_n (fun r => hk2 r.2)]
        exact hg k (by omega)
    · obtain ⟨⟨mcv, q1⟩, q2⟩ := hL v hv
      rw [yAdd_Xn hvu, zAdd_Nn hvu]
      refine ⟨⟨mcv, t _ _ q1 (fun r => hvu (hD.1 v u hv hu r)) (nq _ _ q1 (by simp [oL, oA]))⟩, ?_⟩
      rcases q2 with q2 | ⟨c0, g0, q2, q3, q4, q5⟩
      · exact Or.inl q2
      · refine Or.inr ⟨c0, g0, t _ _ q2 (gM_ne q2 hLu (by simp [oA, oL])) (hXq v hv hvu q4.2), q3, q4, fun k hk => ?_⟩
        show g0 k = some (up2 (yO y) u (zN z u) a v k)
        rw [up2_n (fun r => hvu r.1)]
        exact q5 k hk
  · intro v k hv hk
    rcases hup v k hk with ⟨rfl, rfl⟩ | ⟨h1, h2⟩
    · show M1 (up2 (yO y) v (zN z v) a v (zN z v)) = some (eR (up2 (zR z) v (zN z v) v0R v (zN z v)))
      rw [up2_s, up2_s, k3]
      rcases hcell with ⟨-, h3⟩ | ⟨h3, -⟩
      · rw [h3]
      · omega
    · show M1 (up2 (yO y) u (zN z u) a v k) = some (eR (up2 (zR z) u (zN z u) v0R v k))
      rw [up2_n h1, up2_n h1]
      exact tt _ _ (hEl.1 v k hv h2) (rowR _).1 (rowR _).2
  · intro v k hv2 hv hk
    rcases hup v k hk with ⟨rfl, rfl⟩ | ⟨h1, h2⟩
    · show M1 (up2 (yO y) v (zN z v) a v (zN z v)) = some (eE (up2 (zE z) v (zN z v) v0E v (zN z v)))
      rw [up2_s, up2_s, k3]
      rcases hcell with ⟨h3, -⟩ | ⟨-, h3⟩
      · omega
      · rw [h3]
    · show M1 (up2 (yO y) u (zN z u) a v k) = some (eE (up2 (zE z) u (zN z u) v0E v k))
      rw [up2_n h1, up2_n h1]
      exact tt _ _ (hEl.2 v k hv2 hv h2) (rowE _).1 (rowE _).2
  · rw [yAdd_Xn (by omega), yAdd_Xn (by omega)]
    exact tt _ _ hj (by simp [oJ, oA]) (by simp [oJ, oL])
  · rw [yAdd_Xn (by omega)]
    exact tt _ _ hj1 (by simp [oI, oA]) (by simp [oI, oL])
  · rw [yAdd_Xn (by omega)]
    exact tt _ _ hj2 (by simp [oI, oA]) (by simp [oI, oL])
  · rw [yAdd_Xn (by omega), yAdd_Xn (by omega)]
    exact hj4
  · refine ⟨hD.1, ?_, ?_, ?_, ?_⟩
    · intro v w k l hv hw hk hl r
      have r : up2 (yO y) u (zN z u) a v k = up2 (yO y) u (zN z u) a w l := r
      rcases hup v k hk with ⟨h1, h2⟩ | ⟨h1, h2⟩ <;> rcases hup w l hl with ⟨h3, h4⟩ | ⟨h3, h4⟩
      · exact ⟨h1.trans h3.symm, h2.trans h4.symm⟩
      · rw [h1, h2, up2_s, up2_n h3] at r
        exact absurd r.symm (hOa w l hw h4)
      · rw [h3, h4, up2_s, up2_n h1] at r
        exact absurd r (hOa v k hv h2)
      · rw [up2_n h1, up2_n h3] at r
        exact hD.2.1 v w k l hv hw h2 h4 r
    · intro v k hv hk
      show up2 (yO y) u (zN z u) a v k ≠ _ ∧ up2 (yO y) u (zN z u) a v k ≠ _ ∧ up2 (yO y) u (zN z u) a v k ≠ _ ∧ up2 (yO y) u (zN z u) a v k ≠ _ ∧ up2 (yO y) u (zN z u) a v k ≠ _
      rcases hup v k hk with ⟨h1, h2⟩ | ⟨h1, h2⟩
      · rw [h1, h2, up2_s]
        exact ⟨gM_nn' ha h20, gM_nn' ha h21, gM_nn' ha h40, gM_nn' ha h41, gM_nn' ha h42⟩
      · rw [up2_n h1]
        exact hD.2.2.1 v k hv h2
    · intro v w hv hw h1 h2 r
      by_cases hvu : v = u <;> by_cases hwu : w = u
      · exact hvu.trans hwu.symm
      · rw [hvu, yAdd_Xu, yAdd_Xn hwu] at r
        rw [zAdd_Nn hwu] at h2
        exact absurd r.symm (hXq w hw hwu h2)
      · rw [hwu, yAdd_Xu, yAdd_Xn hvu] at r
        rw [zAdd_Nn hvu] at h1
        exact absurd r (hXq v hv hvu h1)
      · rw [yAdd_Xn hvu, yAdd_Xn hwu] at r
        rw [zAdd_Nn hvu] at h1
        rw [zAdd_Nn hwu] at h2
        exact hD.2.2.2.1 v w hv hw h1 h2 r
    · intro v hv
      by_cases hvu : v = u
      · rw [hvu, yAdd_Xu]
        exact hq3
      · rw [yAdd_Xn hvu]
        exact hD.2.2.2.2 v hv
  · intro v hv
    by_cases hvu : v = u
    · rw [hvu, zAdd_Nu]
      omega
    · rw [zAdd_Nn hvu]
      exact hn v hv
  · intro b w hb hno
    refine t b w hb (fun r => hno (Or.inl ⟨u, hu, r⟩)) (fun r => ?_)
    rcases hq9 with ⟨h1, h2⟩ | ⟨h1, -⟩
    · exact hno (Or.inr (Or.inl ⟨u, by omega, r.trans h1, fun _ => h2⟩))
    · rw [r, h1] at hb
      cases hb
  · intro b hb
    rcases hb with ⟨v, hv, r⟩ | ⟨v, hv, r, h0⟩ | ⟨v, k, hv, hk, r⟩ | r
    · exact Or.inl (Or.inl ⟨v, hv, r⟩)
    · by_cases hvu : v = u
      · rw [hvu, yAdd_Xu] at r
        rcases hq9 with ⟨h1, h2⟩ | ⟨h1, -⟩
        · exact Or.inl (Or.inr (Or.inl ⟨u, by omega, r.trans h1, fun _ => h2⟩))
        · exact Or.inr (by rw [r]; exact h1)
      · rw [yAdd_Xn hvu] at r
        exact Or.inl (Or.inr (Or.inl ⟨v, hv, r, fun h8 => by have := h0 h8; rw [zAdd_Nn hvu] at this; exact this⟩))
    · rcases hup v k hk with ⟨h1, h2⟩ | ⟨h1, h2⟩
      · have r : b = up2 (yO y) u (zN z u) a v k := r
        rw [h1, h2, up2_s] at r
        exact Or.inr (by rw [r]; exact ha)
      · have r : b = up2 (yO y) u (zN z u) a v k := r
        rw [up2_n h1] at r
        exact Or.inl (Or.inr (Or.inr (Or.inl ⟨v, k, hv, h2, r⟩)))
    · exact Or.inl (Or.inr (Or.inr (Or.inr r)))
