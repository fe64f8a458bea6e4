/-! P23, PURE: counts -/
theorem cnt_s (p : Nat → Bool) (n : Nat) : cnt p (n + 1) = cnt p n + (if p n = true then 1 else 0) := rfl
theorem cnt_mono {p q : Nat → Bool} : ∀ {n : Nat}, (∀ j, j < n → p j = true → q j = true) → cnt p n ≤ cnt q n := by
  intro n
  induction n with
  | zero => intro _; exact Nat.le_refl 0
  | succ n ih =>
    intro h
    have h1 := ih (fun j hj => h j (by omega))
    have h2 := h n (by omega)
    rw [cnt_s, cnt_s]
    by_cases e : p n = true
    · rw [if_pos e, if_pos (h2 e)]
      omega
    · rw [if_neg e]
      exact Nat.le_trans h1 (Nat.le_add_right _ _)
theorem cnt_or {p q r : Nat → Bool} : ∀ {n : Nat}, (∀ j, j < n → p j = true → q j = true ∨ r j = true) → cnt p n ≤ cnt q n + cnt r n := by
  intro n
  induction n with
  | zero => intro _; exact Nat.zero_le _
  | succ n ih =>
    intro h
    have h1 := ih (fun j hj => h j (by omega))
    have h2 := h n (by omega)
    rw [cnt_s, cnt_s, cnt_s]
    by_cases e : p n = true
    · rw [if_pos e]
      rcases h2 e with e2 | e2
      · rw [if_pos e2]
        omega
      · rw [if_pos e2]
        omega
    · rw [if_neg e]
      omega
theorem cnt_one (a : Nat) : ∀ n, cnt (fun j => decide (j = a)) n ≤ 1 := by
  have h0 : ∀ n, n ≤ a → cnt (fun j => decide (j = a)) n = 0 := by
    intro n
    induction n with
    | zero => intro _; rfl
    | succ n ih =>
      intro h
      rw [cnt_s, ih (by omega), if_neg (by rw [decide_eq_true_iff]; omega)]
  intro n
  induction n with
  | zero => exact Nat.zero_le _
  | succ n ih =>
    rw [cnt_s]
    by_cases e : n = a
    · rw [h0 n (by omega), if_pos (decide_eq_true e)]
      exact Nat.le_refl 1
    · rw [if_neg (by rw [decide_eq_true_iff]; exact e)]
      exact ih
theorem cnt_m1 {p q : Nat → Bool} {a n : Nat} (h : ∀ j, j < n → j ≠ a → p j = true → q j = true) : cnt p n ≤ cnt q n + 1 := by
  have h1 := cnt_or (p := p) (q := q) (r := fun j => decide (j = a)) (n := n) (fun j hj hp => by
    by_cases e : j = a
    · exact Or.inr (decide_eq_true e)
    · exact Or.inl (h j hj e hp))
  have h2 := cnt_one a n
  omega
theorem cnt_0 {p : Nat → Bool} : ∀ {n : Nat}, (∀ j, j < n → p j = false) → cnt p n = 0 := by
  intro n
  induction n with
  | zero => intro _; rfl
  | succ n ih =>
    intro h
    rw [cnt_s, ih (fun j hj => h j (by omega)), if_neg (by rw [h n (by omega)]; decide)]
theorem cnt_pos {p : Nat → Bool} {a : Nat} (hp : p a = true) : ∀ {n : Nat}, a < n → 1 ≤ cnt p n := by
  intro n
  induction n with
  | zero => intro h; omega
  | succ n ih =>
    intro h
    rw [cnt_s]
    by_cases e : a = n
    · rw [if_pos (by rw [← e]; exact hp)]
      omega
    · have := ih (by omega)
      omega
theorem cnt_sum (p : Nat → Bool) (n : Nat) : cnt p n = sumN (fun j => if p j = true then 1 else 0) n := by
  induction n with
  | zero => rfl
  | succ n ih =>
    rw [cnt_s, ih]
    rfl
theorem cnt_up {p q : Nat → Bool} {a n : Nat} (h : ∀ j, j < n → j ≠ a → p j = q j) (ha : a < n) : cnt p n + (if q a = true then 1 else 0) = cnt q n + (if p a = true then 1 else 0) := by
  rw [cnt_sum, cnt_sum]
  exact sumN_up (f := fun j => if p j = true then 1 else 0) (g := fun j => if q j = true then 1 else 0) (fun j hj hne => by
    show (if p j = true then 1 else 0) = (if q j = true then 1 else 0)
    rw [h j hj hne]) ha
/-- what holds of how many objects of a session -/
def tot (f : vE → Bool) (i : Nat) (z : cZ) : Nat := cnt (fun j => f (zE z (sL i 0) j)) (zN z (sL i 0)) + cnt (fun j => f (zE z (sL i 1) j)) (zN z (sL i 1))
def fDy (e : vE) : Bool := fLive e && fChg e
theorem tot_U {f : vE → Bool} {z z1 : cZ} {i k j : Nat} {r : vR} {e : vE} (u : zU z z1 i k j r e) (hi : i < 3) (hk : k < 2) (hj : j < zN z (sL i k)) : tot f i z1 + (if f (zE z (sL i k) j) = true then 1 else 0) = tot f i z + (if f e = true then 1 else 0) := by
  have he := u.e hi hk
  unfold tot
  rw [u.1]
  rcases (show k = 0 ∨ k = 1 by omega) with rfl | rfl
  · have h1 := cnt_up (p := fun c => f (zE z1 (sL i 0) c)) (q := fun c => f (zE z (sL i 0) c)) (a := j) (n := zN z (sL i 0)) (fun c _ hne => by
      show f (zE z1 (sL i 0) c) = f (zE z (sL i 0) c)
      rw [u.2.2 i 0 c hi (by decide), if_neg (fun q => hne q.2.2)]) hj
    have h2 : cnt (fun c => f (zE z1 (sL i 1) c)) (zN z (sL i 1)) = cnt (fun c => f (zE z (sL i 1) c)) (zN z (sL i 1)) := cnt_congr (fun c _ => by
      show f (zE z1 (sL i 1) c) = f (zE z (sL i 1) c)
      rw [u.2.2 i 1 c hi (by decide), if_neg (fun q => absurd q.2.1 (by decide))])
    have h1 : cnt (fun c => f (zE z1 (sL i 0) c)) (zN z (sL i 0)) + (if f (zE z (sL i 0) j) = true then 1 else 0) = cnt (fun c => f (zE z (sL i 0) c)) (zN z (sL i 0)) + (if f (zE z1 (sL i 0) j) = true then 1 else 0) := h1
    rw [he] at h1
    omega
  · have h1 := cnt_up (p := fun c => f (zE z1 (sL i 1) c)) (q := fun c => f (zE z (sL i 1) c)) (a := j) (n := zN z (sL i 1)) (fun c _ hne => by
      show f (zE z1 (sL i 1) c) = f (zE z (sL i 1) c)
      rw [u.2.2 i 1 c hi (by decide), if_neg (fun q => hne q.2.2)]) hj
    have h2 : cnt (fun c => f (zE z1 (sL i 0) c)) (zN z (sL i 0)) = cnt (fun c => f (zE z (sL i 0) c)) (zN z (sL i 0)) := cnt_congr (fun c _ => by
      show f (zE z1 (sL i 0) c) = f (zE z (sL i 0) c)
      rw [u.2.2 i 0 c hi (by decide), if_neg (fun q => absurd q.2.1 (by decide))])
    have h1 : cnt (fun c => f (zE z1 (sL i 1) c)) (zN z (sL i 1)) + (if f (zE z (sL i 1) j) = true then 1 else 0) = cnt (fun c => f (zE z (sL i 1) c)) (zN z (sL i 1)) + (if f (zE z1 (sL i 1) j) = true then 1 else 0) := h1
    rw [he] at h1
    omega
theorem tot_le {f g : vE → Bool} {z z1 : cZ} {i : Nat} (hN : zN z1 = zN z) (h : ∀ k j, k < 2 → j < zN z (sL i k) → f (zE z1 (sL i k) j) = true → g (zE z (sL i k) j) = true) : tot f i z1 ≤ tot g i z := by
  unfold tot
  rw [hN]
  exact Nat.add_le_add (cnt_mono (fun j hj => h 0 j (by decide) hj)) (cnt_mono (fun j hj => h 1 j (by decide) hj))
theorem tot_eq {f : vE → Bool} {z z1 : cZ} {i : Nat} (hN : zN z1 = zN z) (h : ∀ k j, k < 2 → j < zN z (sL i k) → f (zE z1 (sL i k) j) = f (zE z (sL i k) j)) : tot f i z1 = tot f i z := by
  unfold tot
  rw [hN, cnt_congr (fun j hj => h 0 j (by decide) hj), cnt_congr (fun j hj => h 1 j (by decide) hj)]
theorem tot_0 {f : vE → Bool} {z : cZ} {i : Nat} (h : ∀ k j, k < 2 → j < zN z (sL i k) → f (zE z (sL i k) j) = false) : tot f i z = 0 := by
  unfold tot
  rw [cnt_0 (fun j hj => h 0 j (by decide) hj), cnt_0 (fun j hj => h 1 j (by decide) hj)]
theorem tot_b {f : vE → Bool} {z : cZ} {i : Nat} (hq : cEq z) (hi : i < 3) (hn : ∀ u, u < 8 → zN z u ≤ 1024) : tot f i z ≤ 2048 := by
  unfold tot
  have h0 := cnt_le (fun j => f (zE z (sL i 0) j)) (zN z (sL i 0))
  have h1 := cnt_le (fun j => f (zE z (sL i 1) j)) (zN z (sL i 1))
  have h2 := hn 0 (by decide)
  have h3 := hn 1 (by decide)
  rw [← hq i 0 hi (by decide)] at h2
  rw [← hq i 1 hi (by decide)] at h3
  omega
/-- what is known is more than what is dirty -/
theorem dy_kn {z : cZ} {i : Nat} : tot fDy i z ≤ tot fLive i z := tot_le rfl (fun k j _ _ h => by
  have h9 : (fLive (zE z (sL i k) j) && fChg (zE z (sL i k) j)) = true := h
  rw [Bool.and_eq_true] at h9
  exact h9.1)
/-- a find -/
theorem fLoad_e (e : vE) (r : vR) : fLoad e r = (true, e.2.1, true, r.2.1, r.2.2.1, r.2.1, r.2.2.1, r.2.2.2) := rfl
theorem fi_cnt {z : cZ} (hA : jA z) (hq : cEq z) (hn8 : ∀ u, u < 8 → zN z u ≤ 1024) {i k : Nat} (hi : i < 3) (hk : k < 2) (ky : Int32) : tot fLive i z ≤ tot fLive i (kFi i k ky z) ∧ tot fLive i (kFi i k ky z) ≤ tot fLive i z + 1 ∧ tot fDy i (kFi i k ky z) = tot fDy i z := by
  rcases kFi_c hq hn8 hi hk ky with e | ⟨j, hj, -, h0, ht, e⟩
  · rw [e]
    exact ⟨Nat.le_refl _, Nat.le_succ _, rfl⟩
  · rw [e]
    have hj2 : j < zN z (sL i k) := by rw [hq i k hi hk]; exact hj
    have u := zU_E (z := z) (i := i) (k := k) (j := j) (v := fLoad (zE z (sL i k) j) (zR z k j)) hk
    have l0 : fLive (zE z (sL i k) j) = false := by
      show ((zE z (sL i k) j).1 && !(zE z (sL i k) j).2.1) = false
      rw [h0]
      rfl
    have d0 : fDy (zE z (sL i k) j) = false := by
      show (fLive (zE z (sL i k) j) && _) = false
      rw [l0]
      rfl
    have d1 : fDy (fLoad (zE z (sL i k) j) (zR z k j)) = false := by
      rw [fLoad_e]
      show (_ && (true && (decide ((zR z k j).2.1 ≠ (zR z k j).2.1) || decide ((zR z k j).2.2.1 ≠ (zR z k j).2.2.1)))) = false
      simp
    have t1 := tot_U (f := fLive) u hi hk hj2
    have t2 := tot_U (f := fDy) u hi hk hj2
    rw [l0, if_neg (by decide)] at t1
    rw [d0, d1] at t2
    refine ⟨?_, ?_, by omega⟩
    · omega
    · rw [Nat.add_zero] at t1
      rw [t1]
      split <;> omega
/-- an object of session i changes: what is dirty by one at most -/
theorem dy_1 {f : vE → Bool} {z z1 : cZ} {i k j : Nat} {r : vR} {e : vE} (u : zU z z1 i k j r e) (hi : i < 3) (hk : k < 2) (hj : j < zN z (sL i k)) : tot f i z1 ≤ tot f i z + 1 ∧ tot f i z ≤ tot f i z1 + 1 ∧ (f e = f (zE z (sL i k) j) → tot f i z1 = tot f i z) := by
  have t := tot_U (f := f) u hi hk hj
  revert t
  cases f e <;> cases f (zE z (sL i k) j) <;> intro t
  · rw [if_neg (by decide)] at t
    exact ⟨by omega, by omega, fun _ => by omega⟩
  · rw [if_pos rfl, if_neg (by decide)] at t
    exact ⟨by omega, by omega, fun h => by cases h⟩
  · rw [if_neg (by decide), if_pos rfl] at t
    exact ⟨by omega, by omega, fun h => by cases h⟩
  · exact ⟨by omega, by omega, fun _ => by omega⟩
/-- an object is made: one more is known -/
theorem mk_kn {i k : Nat} {nm rf : Int32} {z : cZ} (hq : cEq z) (hi : i < 3) (hk : k < 2) : tot fLive i (kMk i k nm rf z) = tot fLive i z + 1 := by
  have E := fun {b c : Nat} (hb : b < 2) => kMk_E (i := i) (k := k) (nm := nm) (rf := rf) (z := z) hk hq hi (a := i) (b := b) (c := c) hi hb
  have N1 : zN (kMk i k nm rf z) (sL i k) = zN z (sL i k) + 1 := by
    rw [kMk_N hk, if_pos]
    rcases (show i = 0 ∨ i = 1 ∨ i = 2 by omega) with rfl | rfl | rfl
    · exact Or.inr (Or.inl rfl)
    · exact Or.inr (Or.inr (Or.inl rfl))
    · exact Or.inr (Or.inr (Or.inr rfl))
  have N2 : ∀ b, b < 2 → b ≠ k → zN (kMk i k nm rf z) (sL i b) = zN z (sL i b) := fun b hb hne => by
    rw [kMk_N hk, if_neg (by unfold sL; omega)]
  have c1 : cnt (fun j => fLive (zE (kMk i k nm rf z) (sL i k) j)) (zN (kMk i k nm rf z) (sL i k)) = cnt (fun j => fLive (zE z (sL i k) j)) (zN z (sL i k)) + 1 := by
    rw [N1, cnt_s, cnt_congr (q := fun j => fLive (zE z (sL i k) j)) (fun j hj => by
      show fLive (zE (kMk i k nm rf z) (sL i k) j) = _
      rw [hq i k hi hk] at hj
      rw [E hk, if_neg (fun q => absurd q.2.2 (by omega)), if_neg (fun q => absurd q.2 (by omega))])]
    show _ + (if fLive (zE (kMk i k nm rf z) (sL i k) (zN z (sL i k))) = true then 1 else 0) = _
    have q9 : i = i ∧ k = k ∧ zN z (sL i k) = zN z k := ⟨rfl, rfl, hq i k hi hk⟩
    rw [E hk, if_pos q9]
    rfl
  have c2 : ∀ b, b < 2 → b ≠ k → cnt (fun j => fLive (zE (kMk i k nm rf z) (sL i b) j)) (zN (kMk i k nm rf z) (sL i b)) = cnt (fun j => fLive (zE z (sL i b) j)) (zN z (sL i b)) := fun b hb hne => by
    rw [N2 b hb hne]
    exact cnt_congr (fun j _ => by
      show fLive (zE (kMk i k nm rf z) (sL i b) j) = _
      rw [E hb, if_neg (fun q => hne q.2.1), if_neg (fun q => hne q.1)])
  unfold tot
  rcases (show k = 0 ∨ k = 1 by omega) with rfl | rfl
  · rw [c1, c2 1 (by decide) (by decide)]
    omega
  · rw [c1, c2 0 (by decide) (by decide)]
    omega
/-- everything is forgotten: nothing is known -/
theorem cr_0 {f : vE → Bool} {z : cZ} {i : Nat} (hf : ∀ e, f (fForget e) = false) (hq : cEq z) (hi : i < 3) : tot f i (kCr i z) = 0 := tot_0 (fun k j hk hj => by
  have N := kCr_N i z
  rw [N, hq i k hi hk] at hj
  rw [(kCr_K hq hi).2.1 k j hk hj]
  exact hf _)
theorem fLive_F (e : vE) : fLive (fForget e) = false := rfl
theorem fDy_F (e : vE) : fDy (fForget e) = false := rfl
