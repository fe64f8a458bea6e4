/-! HOW MANY WRITES: no more than four a call -/
def eSn (e : vE) : Int32 := e.2.2.2.2.2.1
def eSr (e : vE) : Int32 := e.2.2.2.2.2.2.1
def eSv (e : vE) : Int32 := e.2.2.2.2.2.2.2
def rho (r : vR) : Nat := if r.1 = true then (if r.2.2.1 = -1 then 1 else 2) else 0
def omg (e : vE) : Nat := if fNew e = true then 4 else if fChg e = true then (if eNm e = eSn e ∧ eRf e = -1 then 0 else 2) else 0
def phi (z : cZ) (k j : Nat) : Nat := rho (zR z k j) + (omg (zE z (sL 0 k) j) + (omg (zE z (sL 1 k) j) + omg (zE z (sL 2 k) j)))
def sumN (f : Nat → Nat) : Nat → Nat
  | 0 => 0
  | n + 1 => sumN f n + f n
theorem sumN_congr {f g : Nat → Nat} : ∀ {n : Nat}, (∀ j, j < n → f j = g j) → sumN f n = sumN g n := by
  intro n
  induction n with
  | zero => intro _; rfl
  | succ n ih =>
    intro h
    show sumN f n + f n = sumN g n + g n
    rw [ih (fun j hj => h j (by omega)), h n (by omega)]
theorem sumN_up {f g : Nat → Nat} {a : Nat} : ∀ {n : Nat}, (∀ j, j < n → j ≠ a → f j = g j) → a < n → sumN f n + g a = sumN g n + f a := by
  intro n
  induction n with
  | zero => intro _ h; omega
  | succ n ih =>
    intro h ha
    show sumN f n + f n + g a = sumN g n + g n + f a
    by_cases e : a = n
    · have := sumN_congr (f := f) (g := g) (n := n) (fun j hj => h j (by omega) (by omega))
      rw [e]
      omega
    · have h1 := ih (fun j hj => h j (by omega)) (by omega)
      have h2 := h n (by omega) (fun q => e q.symm)
      omega
def Phi (z : cZ) : Nat := sumN (phi z 0) (zN z 0) + sumN (phi z 1) (zN z 1)
theorem phi_n {z z1 : cZ} {i k j : Nat} {r : vR} {e : vE} (u : zU z z1 i k j r e) {b c : Nat} (hb : b < 2) (h : ¬ (b = k ∧ c = j)) : phi z1 b c = phi z b c := by
  unfold phi
  rw [u.2.1 b c hb, if_neg h, u.2.2 0 b c (by decide) hb, if_neg (fun q => h q.2), u.2.2 1 b c (by decide) hb, if_neg (fun q => h q.2), u.2.2 2 b c (by decide) hb, if_neg (fun q => h q.2)]
theorem phi_s {z z1 : cZ} {i k j : Nat} {r : vR} {e : vE} (u : zU z z1 i k j r e) (hi : i < 3) (hk : k < 2) : phi z1 k j + (rho (zR z k j) + omg (zE z (sL i k) j)) = phi z k j + (rho r + omg e) := by
  unfold phi
  rw [u.2.1 k j hk, if_pos ⟨rfl, rfl⟩, u.2.2 0 k j (by decide) hk, u.2.2 1 k j (by decide) hk, u.2.2 2 k j (by decide) hk]
  rcases (show i = 0 ∨ i = 1 ∨ i = 2 by omega) with rfl | rfl | rfl
  · rw [if_pos ⟨rfl, rfl, rfl⟩, if_neg (fun q => absurd q.1 (by decide)), if_neg (fun q => absurd q.1 (by decide))]
    omega
  · rw [if_neg (fun q => absurd q.1 (by decide)), if_pos ⟨rfl, rfl, rfl⟩, if_neg (fun q => absurd q.1 (by decide))]
    omega
  · rw [if_neg (fun q => absurd q.1 (by decide)), if_neg (fun q => absurd q.1 (by decide)), if_pos ⟨rfl, rfl, rfl⟩]
    omega
theorem Phi_up {z z1 : cZ} {i k j : Nat} {r : vR} {e : vE} (u : zU z z1 i k j r e) (hi : i < 3) (hk : k < 2) (hj : j < zN z k) : Phi z1 + (rho (zR z k j) + omg (zE z (sL i k) j)) = Phi z + (rho r + omg e) := by
  have hs := phi_s u hi hk
  unfold Phi
  rw [u.1]
  rcases (show k = 0 ∨ k = 1 by omega) with rfl | rfl
  · have a := sumN_up (f := phi z1 0) (g := phi z 0) (a := j) (n := zN z 0) (fun c _ hc => phi_n u (by decide) (fun q => hc q.2)) hj
    have b := sumN_congr (f := phi z1 1) (g := phi z 1) (n := zN z 1) (fun c _ => phi_n u (by decide) (fun q => absurd q.1 (by decide)))
    omega
  · have a := sumN_up (f := phi z1 1) (g := phi z 1) (a := j) (n := zN z 1) (fun c _ hc => phi_n u (by decide) (fun q => hc q.2)) hj
    have b := sumN_congr (f := phi z1 0) (g := phi z 0) (n := zN z 0) (fun c _ => phi_n u (by decide) (fun q => absurd q.1 (by decide)))
    omega
/-- what holds of a key: its row, its objects in the three sessions; W: how many writes there are -/
def KI (W : Nat) (r : vR) (E : Nat → vE) : Prop := (∀ i, i < 3 → (E i).2.2.1 = true → (E i).1 = true) ∧ (∀ i, i < 3 → fNew (E i) = true → r.1 = false ∧ ∀ a, a < 3 → a ≠ i → (E a).1 = false) ∧ ∃ v, v ≤ W ∧ r.2.2.2 = nI v ∧ ∀ i, i < 3 → (E i).2.2.1 = true → ∃ s, s ≤ v ∧ eSv (E i) = nI s ∧ (s = v → r.1 = true → eSr (E i) = r.2.2.1)
def upE (E : Nat → vE) (i : Nat) (e : vE) : Nat → vE := fun a => if a = i then e else E a
theorem KI.mono {W W1 : Nat} {r : vR} {E : Nat → vE} (h : KI W r E) (hW : W ≤ W1) : KI W1 r E := by
  obtain ⟨h1, h2, v, h3, h4⟩ := h
  exact ⟨h1, h2, v, by omega, h4⟩
theorem KI.cg {W : Nat} {r : vR} {E E2 : Nat → vE} (he : ∀ a, a < 3 → E a = E2 a) (h : KI W r E) : KI W r E2 := by
  obtain ⟨h1, h2, v, h3, h4, h5⟩ := h
  exact ⟨fun a ha q => by rw [← he a ha] at q ⊢; exact h1 a ha q, fun a ha q => by rw [← he a ha] at q; exact ⟨(h2 a ha q).1, fun b hb hne => by rw [← he b hb]; exact (h2 a ha q).2 b hb hne⟩, v, h3, h4, fun a ha q => by rw [← he a ha] at q ⊢; exact h5 a ha q⟩
/-- an object changes, its row doesn't -/
theorem KI.e {W : Nat} {r : vR} {E : Nat → vE} (h : KI W r E) {i : Nat} (hi : i < 3) {e : vE} (h31 : e.2.2.1 = true → e.1 = true) (hnw : fNew e = true → fNew (E i) = true) (hin : e.1 = true → (E i).1 = true) (hsn : e.2.2.1 = true → (E i).2.2.1 = true ∧ eSv e = eSv (E i) ∧ eSr e = eSr (E i)) : KI W r (upE E i e) := by
  obtain ⟨h1, h2, v, h3, h4, h5⟩ := h
  refine ⟨fun a ha q => ?_, fun a ha q => ?_, v, h3, h4, fun a ha q => ?_⟩
  · unfold upE at q ⊢
    split at q
    · rename_i e9
      rw [if_pos e9]
      exact h31 q
    · rename_i e9
      rw [if_neg e9]
      exact h1 a ha q
  · unfold upE at q
    split at q
    · rename_i e9
      have h9 := h2 i hi (hnw q)
      refine ⟨h9.1, fun b hb hne => ?_⟩
      unfold upE
      rw [if_neg (fun r => hne (r.trans e9.symm))]
      exact h9.2 b hb (fun r => hne (r.trans e9.symm))
    · rename_i e9
      have h9 := h2 a ha q
      refine ⟨h9.1, fun b hb hne => ?_⟩
      unfold upE
      split
      · rename_i e8
        have h7 := h9.2 i hi (fun r => e9 r.symm)
        cases h6 : e.1
        · rfl
        · rw [hin h6] at h7
          exact absurd h7 (by decide)
      · exact h9.2 b hb hne
  · unfold upE at q ⊢
    split at q
    · rename_i e9
      rw [if_pos e9]
      obtain ⟨a1, a2, a3⟩ := hsn q
      obtain ⟨s, s1, s2, s3⟩ := h5 i hi a1
      exact ⟨s, s1, by rw [a2]; exact s2, by rw [a3]; exact s3⟩
    · rename_i e9
      rw [if_neg e9]
      exact h5 a ha q
/-- the row is written by session i: its new version is v1 -/
theorem KI.w {W W1 : Nat} {r r1 : vR} {E : Nat → vE} (h : KI W r E) {i : Nat} (hi : i < 3) {e : vE} {v1 : Nat} (hv : v1 ≤ W1) (hv2 : r1.2.2.2 = nI v1) (h31 : e.2.2.1 = true → e.1 = true) (hnw : fNew e = false) (hot : ∀ a, a < 3 → a ≠ i → fNew (E a) = false) (hsn : e.2.2.1 = true → eSv e = nI v1 ∧ eSr e = r1.2.2.1) (hold : ∀ a, a < 3 → a ≠ i → (E a).2.2.1 = true → ∃ s, s ≤ v1 ∧ eSv (E a) = nI s ∧ (s = v1 → r1.1 = true → eSr (E a) = r1.2.2.1)) : KI W1 r1 (upE E i e) := by
  obtain ⟨h1, h2, -⟩ := h
  refine ⟨fun a ha q => ?_, fun a ha q => ?_, v1, hv, hv2, fun a ha q => ?_⟩
  · unfold upE at q ⊢
    split at q
    · rename_i e9
      rw [if_pos e9]
      exact h31 q
    · rename_i e9
      rw [if_neg e9]
      exact h1 a ha q
  · unfold upE at q
    split at q
    · rw [hnw] at q
      exact absurd q (by decide)
    · rename_i e9
      rw [hot a ha e9] at q
      exact absurd q (by decide)
  · unfold upE at q ⊢
    split at q
    · rename_i e9
      rw [if_pos e9]
      exact ⟨v1, Nat.le_refl _, (hsn q).1, fun _ _ => (hsn q).2⟩
    · rename_i e9
      rw [if_neg e9]
      exact hold a ha e9 q
/-- the whole: each key, and the writes that are left -/
def PT (n : Nat) (z : cZ) : Prop := (∀ k j, k < 2 → j < zN z k → KI (zW z) (zR z k j) (fun i => zE z (sL i k) j)) ∧ zW z + Phi z ≤ n
theorem PT.up {n d : Nat} {z z1 : cZ} {i k j : Nat} {r : vR} {e : vE} (h : PT n z) (hi : i < 3) (hk : k < 2) (hj : j < zN z k) (u : zU z z1 i k j r e) (hW : zW z ≤ zW z1) (hK : KI (zW z1) r (upE (fun a => zE z (sL a k) j) i e)) (hp : zW z1 + (rho r + omg e) ≤ zW z + (rho (zR z k j) + omg (zE z (sL i k) j)) + d) : PT (n + d) z1 := by
  refine ⟨fun b c hb hc => ?_, ?_⟩
  · rw [u.1] at hc
    rw [u.2.1 b c hb]
    have hE : (fun a => zE z1 (sL a b) c) = (fun a => if a < 3 then (if a = i ∧ b = k ∧ c = j then e else zE z (sL a b) c) else zE z1 (sL a b) c) := by
      funext a
      by_cases ha : a < 3
      · rw [if_pos ha, u.2.2 a b c ha hb]
      · rw [if_neg ha]
    have hcg : ∀ {W : Nat} {r : vR} {E E2 : Nat → vE}, (∀ a, a < 3 → E a = E2 a) → KI W r E → KI W r E2 := fun {W r E E2} he h9 => by
      obtain ⟨h1, h2, v, h3, h4, h5⟩ := h9
      exact ⟨fun a ha q => by rw [← he a ha] at q ⊢; exact h1 a ha q, fun a ha q => by rw [← he a ha] at q; exact ⟨(h2 a ha q).1, fun b hb hne => by rw [← he b hb]; exact (h2 a ha q).2 b hb hne⟩, v, h3, h4, fun a ha q => by rw [← he a ha] at q ⊢; exact h5 a ha q⟩
    by_cases q : b = k ∧ c = j
    · rw [if_pos q]
      refine hcg (fun a ha => ?_) hK
      show upE (fun a => zE z (sL a k) j) i e a = zE z1 (sL a b) c
      rw [u.2.2 a b c ha hb]
      unfold upE
      by_cases qa : a = i
      · rw [if_pos qa, if_pos ⟨qa, q⟩]
      · rw [if_neg qa, if_neg (fun r => qa r.1), q.1, q.2]
    · rw [if_neg q]
      refine hcg (fun a ha => ?_) ((h.1 b c hb hc).mono hW)
      show zE z (sL a b) c = zE z1 (sL a b) c
      rw [u.2.2 a b c ha hb, if_neg (fun r => q r.2)]
  · have := Phi_up u hi hk hj
    have := h.2
    omega
theorem PT.le {n m : Nat} {z : cZ} (h : PT n z) (hm : n ≤ m) : PT m z := ⟨h.1, Nat.le_trans h.2 hm⟩
theorem omg_0 {e : vE} (h1 : fNew e = false) (h2 : fChg e = false) : omg e = 0 := by
  unfold omg
  rw [if_neg (by rw [h1]; decide), if_neg (by rw [h2]; decide)]
theorem omg_2 {e : vE} (h1 : fNew e = false) : omg e ≤ 2 := by
  unfold omg
  rw [if_neg (by rw [h1]; decide)]
  split
  · split <;> decide
  · decide
theorem omg_4 {e : vE} (h1 : fNew e = true) : omg e = 4 := by
  unfold omg
  rw [if_pos h1]
theorem PT.ld {n : Nat} {z : cZ} (h : PT n z) {i k j : Nat} (hi : i < 3) (hk : k < 2) (hj : j < zN z k) (h0 : (zE z (sL i k) j).1 = false) (ht : (zR z k j).1 = true) : PT n (sE z (sL i k) j (fLoad (zE z (sL i k) j) (zR z k j))) := by
  have hK := h.1 k j hk hj
  have e9 : fLoad (zE z (sL i k) j) (zR z k j) = (true, (zE z (sL i k) j).2.1, true, (zR z k j).2.1, (zR z k j).2.2.1, (zR z k j).2.1, (zR z k j).2.2.1, (zR z k j).2.2.2) := rfl
  have hw : omg (fLoad (zE z (sL i k) j) (zR z k j)) = 0 := omg_0 (by rw [e9]; rfl) (by
    rw [e9]
    show (true && (decide ((zR z k j).2.1 ≠ (zR z k j).2.1) || decide ((zR z k j).2.2.1 ≠ (zR z k j).2.2.1))) = false
    simp)
  refine PT.up (d := 0) h hi hk hj (zU_E hk) (Nat.le_refl _) ?_ (by rw [hw]; show zW z + _ ≤ _; omega)
  obtain ⟨h1, h2, v, h3, h4, h5⟩ := hK
  refine KI.w (v1 := v) ⟨h1, h2, v, h3, h4, h5⟩ hi h3 h4 (fun _ => rfl) rfl (fun a ha hne => ?_) (fun _ => ⟨h4, rfl⟩) (fun a ha hne q => h5 a ha q)
  cases q : fNew (zE z (sL a k) j)
  · rfl
  · rw [(h2 a ha q).1] at ht
    exact absurd ht (by decide)
theorem PT.e {n d : Nat} {z : cZ} (h : PT n z) {i k j : Nat} (hi : i < 3) (hk : k < 2) (hj : j < zN z k) {e : vE} (h31 : e.2.2.1 = true → e.1 = true) (hnw : fNew e = true → fNew (zE z (sL i k) j) = true) (hin : e.1 = true → (zE z (sL i k) j).1 = true) (hsn : e.2.2.1 = true → (zE z (sL i k) j).2.2.1 = true ∧ eSv e = eSv (zE z (sL i k) j) ∧ eSr e = eSr (zE z (sL i k) j)) (hp : omg e ≤ omg (zE z (sL i k) j) + d) : PT (n + d) (sE z (sL i k) j e) :=
  h.up hi hk hj (zU_E hk) (Nat.le_refl _) ((h.1 k j hk hj).e hi h31 hnw hin hsn) (by show zW z + _ ≤ _; omega)
theorem PT.lod {n : Nat} {z : cZ} (h : PT n z) {i k j : Nat} (hi : i < 3) (hk : k < 2) (hj : j < zN z k) (t : Int32) : PT n (kLd i k t j z) := by
  unfold kLd
  split
  · rename_i q
    rw [Bool.and_eq_true, Bool.and_eq_true, Bool.not_eq_true'] at q
    exact h.ld hi hk hj q.2 q.1.1
  · exact h
theorem PT.fg {n : Nat} {z : cZ} (h : PT n z) {i k j : Nat} (hi : i < 3) (hk : k < 2) (hj : j < zN z k) : PT n (kFg i k j z) :=
  PT.e (d := 0) h hi hk hj (fun q => absurd q (by show ¬ false = true; decide)) (fun q => absurd q (by show ¬ (false && !false) = true; decide)) (fun q => absurd q (by show ¬ false = true; decide)) (fun q => absurd q (by show ¬ false = true; decide)) (by rw [omg_0 (e := fForget (zE z (sL i k) j)) rfl rfl]; exact Nat.zero_le _)
theorem omg_eq {e e2 : vE} (h1 : fNew e = fNew e2) (h2 : fChg e = fChg e2) (h3 : eNm e = eNm e2) (h4 : eSn e = eSn e2) (h5 : eRf e = eRf e2) : omg e = omg e2 := by
  unfold omg
  rw [h1, h2, h3, h4, h5]
theorem PT.st {n : Nat} {z : cZ} (h : PT n z) {i k j : Nat} (hi : i < 3) (hk : k < 2) (hj : j < zN z k) : PT n (kSt i k j z) := by
  have h31 := (h.1 k j hk hj).1 i hi
  have h31 : (zE z (sL i k) j).2.2.1 = true → (zE z (sL i k) j).1 = true := h31
  refine PT.e (d := 0) h hi hk hj ?_ ?_ ?_ ?_ ?_ <;> generalize zE z (sL i k) j = v at h31 ⊢ <;> obtain ⟨b1, b2, b3, nm, rf, sn, sr, sv⟩ := v <;> cases b3
  · exact fun q => absurd q (by show ¬ false = true; decide)
  · exact fun _ => h31 rfl
  · exact fun q => absurd q (by show ¬ (false && !false) = true; decide)
  · exact fun q => q
  · exact fun q => absurd q (by show ¬ false = true; decide)
  · exact fun q => q
  · exact fun q => absurd q (by show ¬ false = true; decide)
  · exact fun q => ⟨rfl, rfl, rfl⟩
  · rw [show omg (fStrike (b1, b2, false, nm, rf, sn, sr, sv)) = 0 from omg_0 rfl rfl]
    exact Nat.zero_le _
  · exact Nat.le_of_eq (omg_eq rfl rfl rfl rfl rfl)
theorem PT.clr {n : Nat} {z : cZ} (h : PT n z) {i j : Nat} (hi : i < 3) (hj : j < zN z 0) (t : Int32) : PT n (kCl i t j z) := by
  unfold kCl
  split
  · rename_i hl
    have h31 : (zE z (sL i 0) j).2.2.1 = true → (zE z (sL i 0) j).1 = true := (h.1 0 j (by decide) hj).1 i hi
    refine PT.e (d := 0) h hi (by decide) hj ?_ ?_ ?_ ?_ ?_ <;> generalize zE z (sL i 0) j = v at h31 hl ⊢ <;> obtain ⟨b1, b2, b3, nm, rf, sn, sr, sv⟩ := v
    · exact h31
    · exact fun q => q
    · exact fun q => q
    · exact fun q => ⟨q, rfl, rfl⟩
    · show omg (b1, b2, b3, nm, -1, sn, sr, sv) ≤ omg (b1, b2, b3, nm, rf, sn, sr, sv)
      by_cases hn : fNew (b1, b2, b3, nm, rf, sn, sr, sv) = true
      · rw [omg_4 (e := (b1, b2, b3, nm, -1, sn, sr, sv)) hn, omg_4 hn]
        exact Nat.le_refl _
      · have hn2 : ¬ fNew (b1, b2, b3, nm, -1, sn, sr, sv) = true := hn
        unfold omg
        rw [if_neg hn, if_neg hn2]
        by_cases hs : nm = sn
        · rw [show (if eNm (b1, b2, b3, nm, -1, sn, sr, sv) = eSn (b1, b2, b3, nm, -1, sn, sr, sv) ∧ eRf (b1, b2, b3, nm, -1, sn, sr, sv) = -1 then 0 else 2) = 0 from if_pos ⟨hs, rfl⟩]
          split <;> exact Nat.zero_le _
        · cases b3
          · rw [if_neg (show ¬ fChg (b1, b2, false, nm, -1, sn, sr, sv) = true from fun q => ff q)]
            exact Nat.zero_le _
          · rw [show fChg (b1, b2, true, nm, rf, sn, sr, sv) = true from by show (true && (decide (nm ≠ sn) || _)) = true; rw [decide_eq_true hs]; rfl]
            rw [show (if eNm (b1, b2, true, nm, rf, sn, sr, sv) = eSn (b1, b2, true, nm, rf, sn, sr, sv) ∧ eRf (b1, b2, true, nm, rf, sn, sr, sv) = -1 then 0 else 2) = 2 from if_neg (fun q => hs q.1)]
            rw [if_pos rfl]
            split
            · split <;> decide
            · decide
  · exact h
theorem PT.set {n : Nat} {z : cZ} (h : PT n z) {i k j : Nat} (hi : i < 3) (hk : k < 2) (hj : j < zN z k) {nm9 rf9 : Int32} : PT (n + 2) (sE z (sL i k) j ((zE z (sL i k) j).1, (zE z (sL i k) j).2.1, (zE z (sL i k) j).2.2.1, nm9, rf9, (zE z (sL i k) j).2.2.2.2.2)) := by
  have h31 : (zE z (sL i k) j).2.2.1 = true → (zE z (sL i k) j).1 = true := (h.1 k j hk hj).1 i hi
  refine PT.e (d := 2) h hi hk hj h31 (fun q => q) (fun q => q) (fun q => ⟨q, rfl, rfl⟩) ?_
  generalize zE z (sL i k) j = v
  obtain ⟨b1, b2, b3, nm, rf, sn, sr, sv⟩ := v
  show omg (b1, b2, b3, nm9, rf9, sn, sr, sv) ≤ omg (b1, b2, b3, nm, rf, sn, sr, sv) + 2
  by_cases hn : fNew (b1, b2, b3, nm, rf, sn, sr, sv) = true
  · rw [omg_4 (e := (b1, b2, b3, nm9, rf9, sn, sr, sv)) hn, omg_4 hn]
    decide
  · have := omg_2 (e := (b1, b2, b3, nm9, rf9, sn, sr, sv)) (show fNew (b1, b2, b3, nm, rf, sn, sr, sv) = false from by simpa using hn)
    omega
theorem Q_it {Q : cZ → Prop} {F : Nat → cZ → cZ} {N0 : Nat → Nat} {n : Nat} (hN : ∀ j z, zN (F j z) = zN z) (h : ∀ j z, j < n → zN z = N0 → Q z → Q (F j z)) {z : cZ} (hz : zN z = N0) (hQ : Q z) : Q (itr F n z) := by
  induction n with
  | zero => exact hQ
  | succ n ih => exact h n _ (by omega) ((itr_N hN n z).trans hz) (ih (fun j z hj => h j z (by omega)))
theorem PT.rmB {n : Nat} {z : cZ} (h : PT n z) (hq : cEq z) {i b : Nat} (hi : i < 3) (hb : b < zN z 1) : PT n (kRmB i b z) := by
  unfold kRmB
  rw [hq i 0 hi (by decide)]
  refine Q_it (Q := PT n) (N0 := zN z) (kCl_N i (nI b)) (fun j z2 hj hz2 h2 => h2.clr hi (by rw [hz2]; exact hj) _) (itr_N (kLd_N i 0 (nI b)) _ _) ?_
  exact Q_it (Q := PT n) (N0 := zN z) (kLd_N i 0 (nI b)) (fun j z2 hj hz2 h2 => h2.lod hi (by decide) (by rw [hz2]; exact hj) _) rfl (h.st hi (by decide) hb)
theorem PT.rmA {n : Nat} {z : cZ} (h : PT n z) (hq : cEq z) {i a : Nat} (hi : i < 3) (ha : a < zN z 0) : PT n (kRmA i a z) := by
  have h0 : PT n (kRm0 i a z) := Q_it (Q := PT n) (N0 := zN z) (kLd_N i 1 (nI a)) (fun j z2 hj hz2 h2 => h2.lod hi (by decide) (by rw [hz2]; exact hj) _) rfl (h.st hi (by decide) ha)
  unfold kRmA
  rw [hq i 1 hi (by decide)]
  refine Q_it (Q := PT n) (N0 := zN z) (kRb_N i (nI a)) (fun j z2 hj hz2 h2 => ?_) (kRm0_N i a z) h0
  unfold kRb
  split
  · exact h2.rmB (cEq_N hz2 hq) hi (by rw [hz2]; exact hj)
  · exact h2
theorem PT.fgs {n : Nat} {z : cZ} (h : PT n z) (hq : cEq z) {i : Nat} (hi : i < 3) : PT n (itr (kFg i 1) (zN z (sL i 1)) (itr (kFg i 0) (zN z (sL i 0)) z)) := by
  rw [hq i 1 hi (by decide), hq i 0 hi (by decide)]
  refine Q_it (Q := PT n) (N0 := zN z) (kFg_N i 1) (fun j z2 hj hz2 h2 => h2.fg hi (by decide) (by rw [hz2]; exact hj)) (itr_N (kFg_N i 0) _ _) ?_
  exact Q_it (Q := PT n) (N0 := zN z) (kFg_N i 0) (fun j z2 hj hz2 h2 => h2.fg hi (by decide) (by rw [hz2]; exact hj)) rfl h
theorem PT.fi {n : Nat} {z : cZ} (h : PT n z) (hq : cEq z) (hn8 : ∀ u, u < 8 → zN z u ≤ 1024) {i k : Nat} (hi : i < 3) (hk : k < 2) (ky : Int32) : PT n (kFi i k ky z) := by
  have hn := hn8 k (by omega)
  unfold kFi
  by_cases q : inK (zN z k) ky = true
  · obtain ⟨j, hj, rfl⟩ := inK_n hn q
    rw [eV_in (by rw [hq i k hi hk]; exact hn) (by rw [hq i k hi hk]; exact hj), rV_in hn hj, nI_clamp (by omega)]
    split
    · rename_i q2
      rw [Bool.and_eq_true, Bool.not_eq_true'] at q2
      exact h.ld hi hk hj q2.2 q2.1
    · exact h
  · rw [show (rV z k ky).1 = false from by unfold rV; rw [if_neg q]; rfl]
    exact h
/-- a new object -/
theorem PT.mk {n : Nat} {z : cZ} (h : PT n z) (hq : cEq z) {i k : Nat} (hi : i < 3) (hk : k < 2) (nm rf : Int32) : PT (n + 4) (kMk i k nm rf z) := by
  have hW : zW (kMk i k nm rf z) = zW z := rfl
  have hNk : zN (kMk i k nm rf z) k = zN z k + 1 := by
    rw [kMk_N hk, if_pos (Or.inl rfl)]
  have hNo : ∀ b, b < 2 → b ≠ k → zN (kMk i k nm rf z) b = zN z b := fun b hb hne => by
    rw [kMk_N hk, if_neg (by unfold sL; omega)]
  have hR : ∀ b c, b < 2 → ¬ (b = k ∧ c = zN z k) → zR (kMk i k nm rf z) b c = zR z b c := fun b c hb hne => by
    rw [kMk_R hk hb, if_neg hne]
  have hE : ∀ a b c, a < 3 → b < 2 → ¬ (b = k ∧ c = zN z k) → zE (kMk i k nm rf z) (sL a b) c = zE z (sL a b) c := fun a b c ha hb hne => by
    rw [kMk_E hk hq hi ha hb, if_neg (fun q => hne q.2), if_neg hne]
  have hE9 : ∀ a, a < 3 → zE (kMk i k nm rf z) (sL a k) (zN z k) = if a = i then (true, false, false, nm, rf, 0, 0, 0) else v0E := fun a ha => by
    rw [kMk_E hk hq hi ha hk]
    by_cases q : a = i
    · rw [if_pos ⟨q, rfl, rfl⟩, if_pos q]
    · rw [if_neg (fun r => q r.1), if_pos ⟨rfl, rfl⟩, if_neg q]
  have hR9 : zR (kMk i k nm rf z) k (zN z k) = v0R := by
    rw [kMk_R hk hk, if_pos ⟨rfl, rfl⟩]
  refine ⟨fun b c hb hc => ?_, ?_⟩
  · by_cases q : b = k ∧ c = zN z k
    · obtain ⟨rfl, rfl⟩ := q
      rw [hR9]
      refine ⟨fun a ha q => ?_, fun a ha q => ?_, 0, Nat.zero_le _, rfl, fun a ha q => ?_⟩
      · have q : (zE (kMk i b nm rf z) (sL a b) (zN z b)).2.2.1 = true := q
        rw [hE9 a ha] at q
        split at q
        · exact absurd q (by show ¬ false = true; decide)
        · exact absurd q (by show ¬ false = true; decide)
      · refine ⟨rfl, fun a2 ha2 hne => ?_⟩
        have q : fNew (zE (kMk i b nm rf z) (sL a b) (zN z b)) = true := q
        rw [hE9 a ha] at q
        show (zE (kMk i b nm rf z) (sL a2 b) (zN z b)).1 = false
        rw [hE9 a2 ha2]
        by_cases qa : a = i
        · rw [if_neg (fun r => hne (r.trans qa.symm))]
          rfl
        · rw [if_neg qa] at q
          exact absurd q (by decide)
      · have q : (zE (kMk i b nm rf z) (sL a b) (zN z b)).2.2.1 = true := q
        rw [hE9 a ha] at q
        split at q
        · exact absurd q (by show ¬ false = true; decide)
        · exact absurd q (by show ¬ false = true; decide)
    · have hc2 : c < zN z b := by
        by_cases e : b = k
        · rw [e, hNk] at hc
          rw [e]
          have : c ≠ zN z k := fun r => q ⟨e, r⟩
          omega
        · rw [hNo b hb e] at hc
          exact hc
      have h9 := h.1 b c hb hc2
      rw [hR b c hb q, hW]
      exact KI.cg (fun a ha => (hE a b c ha hb q).symm) h9
  · have hph : ∀ b c, b < 2 → ¬ (b = k ∧ c = zN z k) → phi (kMk i k nm rf z) b c = phi z b c := fun b c hb hne => by
      unfold phi
      rw [hR b c hb hne, hE 0 b c (by decide) hb hne, hE 1 b c (by decide) hb hne, hE 2 b c (by decide) hb hne]
    have h4 : phi (kMk i k nm rf z) k (zN z k) = 4 := by
      unfold phi
      rw [hR9, hE9 0 (by decide), hE9 1 (by decide), hE9 2 (by decide), show rho v0R = 0 from rfl]
      have o4 : omg (true, false, false, nm, rf, 0, 0, 0) = 4 := omg_4 rfl
      have o0 : omg v0E = 0 := omg_0 rfl rfl
      rcases (show i = 0 ∨ i = 1 ∨ i = 2 by omega) with rfl | rfl | rfl
      · rw [if_pos rfl, if_neg (by decide), if_neg (by decide), o4, o0]
      · rw [if_neg (by decide), if_pos rfl, if_neg (by decide), o4, o0]
      · rw [if_neg (by decide), if_neg (by decide), if_pos rfl, o4, o0]
    have hS : sumN (phi (kMk i k nm rf z) k) (zN z k + 1) = sumN (phi z k) (zN z k) + 4 := by
      show sumN _ (zN z k) + _ = _
      rw [h4, sumN_congr (fun c hc => hph k c hk (fun q => by have := q.2; omega))]
    have h2 := h.2
    unfold Phi at h2 ⊢
    rw [hW]
    rcases (show k = 0 ∨ k = 1 by omega) with rfl | rfl
    · rw [hNk, hS, hNo 1 (by decide) (by decide), sumN_congr (f := phi (kMk i 0 nm rf z) 1) (g := phi z 1) (fun c hc => hph 1 c (by decide) (fun q => absurd q.1 (by decide)))]
      omega
    · rw [hNk, hS, hNo 0 (by decide) (by decide), sumN_congr (f := phi (kMk i 1 nm rf z) 0) (g := phi z 0) (fun c hc => hph 0 c (by decide) (fun q => absurd q.1 (by decide)))]
      omega
