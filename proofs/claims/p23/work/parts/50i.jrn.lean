/-! P23, PURE: the writes tell the rows -/
def lastW (J : Nat → Nat → Int32) (t : Int32) : Nat → Int32
  | 0 => -1
  | n + 1 => if J 1 n = t then J 0 n else lastW J t n
theorem lastW_s (J : Nat → Nat → Int32) (t : Int32) (n : Nat) : lastW J t (n + 1) = if J 1 n = t then J 0 n else lastW J t n := rfl
theorem lastW_cg {J J1 : Nat → Nat → Int32} {t : Int32} : ∀ {n : Nat}, (∀ a m, a < 2 → m < n → J a m = J1 a m) → lastW J t n = lastW J1 t n := by
  intro n
  induction n with
  | zero => intro _; rfl
  | succ n ih =>
    intro h
    rw [lastW_s, lastW_s, h 1 n (by decide) (by omega), h 0 n (by decide) (by omega), ih (fun a m ha hm => h a m ha (by omega))]
theorem lastW_n {J : Nat → Nat → Int32} {t : Int32} : ∀ {n : Nat}, (∀ m, m < n → J 1 m ≠ t) → lastW J t n = -1 := by
  intro n
  induction n with
  | zero => intro _; rfl
  | succ n ih =>
    intro h
    rw [lastW_s, if_neg (h n (by omega)), ih (fun m hm => h m (by omega))]
/-- whether such a write leaves a row -/
def jr (v : Int32) : Bool := !(decide (v = -1) || decide (v = 2))
def jJ (z : cZ) : Prop := zW z ≤ zC z ∧ 64 ≤ zC z ∧ (∀ m, m < zW z → ∃ k j, k < 2 ∧ j < zN z k ∧ zJ z 1 m = nI (2 * j + k)) ∧ ∀ k j, k < 2 → j < zN z k → jr (lastW (zJ z) (nI (2 * j + k)) (zW z)) = (zR z k j).1
theorem kNo_J (ac : Int32) (k j : Nat) (z : cZ) (h : zW z ≤ zC z) : zJ (kNo ac k j z) 0 (zW z) = ac ∧ zJ (kNo ac k j z) 1 (zW z) = nI (2 * j + k) ∧ ∀ a m, a < 2 → m < zW z → zJ (kNo ac k j z) a m = zJ z a m := by
  have hb : ∀ a m, m < zW z → jBase z a m = zJ z a m := fun a m hm => by
    unfold jBase
    split
    · rfl
    · show (if 0 ≤ m ∧ m < 0 + zC z then zJ z a (0 + (m - 0)) else 0) = zJ z a m
      rw [if_pos ⟨Nat.zero_le m, by omega⟩, Nat.zero_add, Nat.sub_zero]
  refine ⟨?_, ?_, fun a m ha hm => ?_⟩
  · show (if zW z = zW z then ac else _) = ac
    rw [if_pos rfl]
  · show (if zW z = zW z then nI (2 * j + k) else _) = _
    rw [if_pos rfl]
  · rcases (show a = 0 ∨ a = 1 by omega) with rfl | rfl
    · show (if m = zW z then ac else jBase z 0 m) = _
      rw [if_neg (by omega), hb 0 m hm]
    · show (if m = zW z then nI (2 * j + k) else jBase z 1 m) = _
      rw [if_neg (by omega), hb 1 m hm]
theorem nr_eq {k j b c : Nat} (hk : k < 2) (hb : b < 2) (hj : j < 2 ^ 20) (hc : c < 2 ^ 20) (h : nI (2 * j + k) = nI (2 * c + b)) : k = b ∧ j = c := by
  have := nI_inj (a := 2 * j + k) (b := 2 * c + b) (by omega) (by omega) h
  omega
/-- a write is noted, with its row -/
theorem jJ.w {z z1 : cZ} {i k j : Nat} {r : vR} {e : vE} {ac : Int32} (h : jJ z) (hn : ∀ u, u < 8 → zN z u ≤ 1024) (hk : k < 2) (hj : j < zN z k) (u : zU z z1 i k j r e) (hW : zW z1 = zW z + 1) (hJ : zJ z1 = zJ (kNo ac k j z)) (hC : zC z1 = zC (kNo ac k j z)) (hr : jr ac = r.1) : jJ z1 := by
  obtain ⟨h1, h2, h3, h4⟩ := h
  have K := kNo_J ac k j z h1
  have C : zC (kNo ac k j z) = if zW z < zC z then zC z else zC z + zW z := rfl
  rw [← hJ] at K
  refine ⟨?_, ?_, fun m hm => ?_, fun b c hb hc => ?_⟩
  · rw [hW, hC, C]
    split <;> omega
  · rw [hC, C]
    split <;> omega
  · rw [hW] at hm
    rw [u.1]
    by_cases q : m = zW z
    · exact ⟨k, j, hk, hj, by rw [q]; exact K.2.1⟩
    · rw [K.2.2 1 m (by decide) (by omega)]
      exact h3 m (by omega)
  · rw [u.1] at hc
    have b1 := hn b (by omega)
    have b2 := hn k (by omega)
    rw [hW, lastW_s, K.1, K.2.1, u.2.1 b c hb]
    by_cases q : b = k ∧ c = j
    · rw [if_pos q, if_pos (by rw [q.1, q.2])]
      exact hr
    · rw [if_neg q, if_neg (fun q2 => by
        have := nr_eq hk hb (by omega) (by omega) q2
        exact q ⟨this.1.symm, this.2.symm⟩)]
      rw [lastW_cg (J1 := zJ z) (fun a m ha hm => K.2.2 a m ha hm)]
      exact h4 b c hb hc
/-- an object changes: the writes don't -/
theorem jJ.k {z z1 : cZ} (h : jJ z) (hN : zN z1 = zN z) (hR : ∀ k j, k < 2 → zR z1 k j = zR z k j) (hW : zW z1 = zW z) (hJ : zJ z1 = zJ z) (hC : zC z1 = zC z) : jJ z1 := by
  obtain ⟨h1, h2, h3, h4⟩ := h
  refine ⟨by rw [hW, hC]; exact h1, by rw [hC]; exact h2, fun m hm => ?_, fun k j hk hj => ?_⟩
  · rw [hW] at hm
    rw [hJ, hN]
    exact h3 m hm
  · rw [hN] at hj
    rw [hJ, hW, hR k j hk]
    exact h4 k j hk hj
theorem jJ.mk {z : cZ} (h : jJ z) (hn : ∀ u, u < 8 → zN z u ≤ 1024) {i k : Nat} (hk : k < 2) {nm rf : Int32} : jJ (kMk i k nm rf z) := by
  obtain ⟨h1, h2, h3, h4⟩ := h
  refine ⟨h1, h2, fun m hm => ?_, fun b c hb hc => ?_⟩
  · obtain ⟨b, c, hb, hc, e⟩ := h3 m hm
    exact ⟨b, c, hb, Nat.lt_of_lt_of_le hc (mk_ge hk b).1, e⟩
  · rw [kMk_R hk hb]
    by_cases q : b = k ∧ c = zN z k
    · rw [if_pos q]
      have e : lastW (zJ (kMk i k nm rf z)) (nI (2 * c + b)) (zW (kMk i k nm rf z)) = -1 := lastW_n (fun m hm r => by
        obtain ⟨b2, c2, hb2, hc2, e⟩ := h3 m hm
        have r : zJ z 1 m = nI (2 * c + b) := r
        have g1 := hn b2 (by omega)
        have g2 := hn k (by omega)
        have := nr_eq hb2 hb (by omega) (by omega) (e.symm.trans r)
        rw [this.1, q.1] at hc2
        omega)
      rw [e]
      rfl
    · rw [if_neg q]
      exact h4 b c hb (mk_lt hk hb hc q)
/-- snapshots stay the rows, write by write -/
theorem jS.up {z z1 : cZ} {i k j : Nat} {r : vR} {e : vE} (h : jS i z) (hi : i < 3) (u : zU z z1 i k j r e) (he : e.2.2.1 = true → r.1 = true ∧ e.2.2.2.2.2 = r.2) : jS i z1 := fun b c hb hc => by
  rw [u.1] at hc
  rw [u.2.1 b c hb, u.2.2 i b c hi hb]
  by_cases q : b = k ∧ c = j
  · rw [if_pos q, if_pos ⟨rfl, q⟩]
    exact he
  · rw [if_neg q, if_neg (fun q2 => q q2.2)]
    exact h b c hb hc
def jQ (i : Nat) (z : cZ) : Prop := jS i z ∧ jJ z
theorem jQ.in {z : cZ} {i k j : Nat} (h : jQ i z) (hn : ∀ u, u < 8 → zN z u ≤ 1024) (hi : i < 3) (hk : k < 2) (hj : j < zN z k) (rf : Int32) : jQ i (kIn i k j rf z) :=
  ⟨h.1.up hi (kIn_U hk) (fun _ => ⟨rfl, rfl⟩), h.2.w (ac := 0) hn hk hj (kIn_U hk) rfl rfl rfl rfl⟩
theorem jQ.ia {z : cZ} {i j : Nat} (h : jQ i z) (hn : ∀ u, u < 8 → zN z u ≤ 1024) (hi : i < 3) (hj : j < zN z 0) : jQ i (kIa i j z) := by
  unfold kIa
  split
  · exact h.in hn hi (by decide) hj _
  · exact h
theorem jQ.ib {z : cZ} {i j : Nat} (h : jQ i z) (hn : ∀ u, u < 8 → zN z u ≤ 1024) (hi : i < 3) (hj : j < zN z 1) : jQ i (kIb i j z) := by
  unfold kIb
  split
  · exact h.in hn hi (by decide) hj _
  · exact h
theorem jQ.u {z : cZ} {i k j : Nat} (h : jQ i z) (hn : ∀ u, u < 8 → zN z u ≤ 1024) (hi : i < 3) (hk : k < 2) (hj : j < zN z k) : jQ i (kUp i k j z) := by
  unfold kUp
  split
  · rename_i q
    have s := (h.1 k j hk hj (fChg_3 q)).1
    exact ⟨h.1.up hi (kUd_U hk) (fun _ => ⟨s, rfl⟩), h.2.w (ac := 1) hn hk hj (kUd_U hk) rfl rfl rfl (by
      show jr 1 = (zR z k j).1
      rw [s]
      rfl)⟩
  · exact h
theorem jQ.d {z : cZ} {i k j : Nat} (h : jQ i z) (hn : ∀ u, u < 8 → zN z u ≤ 1024) (hi : i < 3) (hk : k < 2) (hj : j < zN z k) : jQ i (kDe i k j z) := by
  unfold kDe
  split
  · exact ⟨h.1.up hi (kDl_U hk) (fun q => ff q), h.2.w (ac := 2) hn hk hj (kDl_U hk) rfl rfl rfl rfl⟩
  · exact h
theorem jQ.fl {z : cZ} {i : Nat} (h : jQ i z) (hq : cEq z) (hn : ∀ u, u < 8 → zN z u ≤ 1024) (hi : i < 3) : jQ i (kFl i z) := by
  have c0 := hq i 0 hi (by decide)
  have c1 := hq i 1 hi (by decide)
  have N1 : zN (kF1 i z) = zN z := itr_N (kIa_st i).N _ _
  have N2 : zN (kF2 i (kF1 i z)) = zN z := (itr_N (kIb_st i).N _ _).trans N1
  have N3 : zN (kF3 i 0 (kF2 i (kF1 i z))) = zN z := (itr_N (kUp_st i 0).N _ _).trans N2
  have N4 : zN (kF3 i 1 (kF3 i 0 (kF2 i (kF1 i z)))) = zN z := (itr_N (kUp_st i 1).N _ _).trans N3
  have N5 : zN (kF4 i 1 (kF3 i 1 (kF3 i 0 (kF2 i (kF1 i z))))) = zN z := (itr_N (kDe_st i 1).N _ _).trans N4
  have a1 : jQ i (kF1 i z) := Q_it (Q := jQ i) (N0 := zN z) (kIa_st i).N (fun j z2 hj hz2 h2 => h2.ia (by rw [hz2]; exact hn) hi (by rw [hz2]; omega)) rfl h
  have a2 : jQ i (kF2 i (kF1 i z)) := Q_it (Q := jQ i) (N0 := zN z) (kIb_st i).N (fun j z2 hj hz2 h2 => h2.ib (by rw [hz2]; exact hn) hi (by rw [N1] at hj; rw [hz2]; omega)) N1 a1
  have a3 : jQ i (kF3 i 0 (kF2 i (kF1 i z))) := Q_it (Q := jQ i) (N0 := zN z) (kUp_st i 0).N (fun j z2 hj hz2 h2 => h2.u (by rw [hz2]; exact hn) hi (by decide) (by rw [N2] at hj; rw [hz2]; omega)) N2 a2
  have a4 : jQ i (kF3 i 1 (kF3 i 0 (kF2 i (kF1 i z)))) := Q_it (Q := jQ i) (N0 := zN z) (kUp_st i 1).N (fun j z2 hj hz2 h2 => h2.u (by rw [hz2]; exact hn) hi (by decide) (by rw [N3] at hj; rw [hz2]; omega)) N3 a3
  have a5 : jQ i (kF4 i 1 (kF3 i 1 (kF3 i 0 (kF2 i (kF1 i z))))) := Q_it (Q := jQ i) (N0 := zN z) (kDe_st i 1).N (fun j z2 hj hz2 h2 => h2.d (by rw [hz2]; exact hn) hi (by decide) (by rw [N4] at hj; rw [hz2]; omega)) N4 a4
  exact Q_it (Q := jQ i) (N0 := zN z) (kDe_st i 0).N (fun j z2 hj hz2 h2 => h2.d (by rw [hz2]; exact hn) hi (by decide) (by rw [N5] at hj; rw [hz2]; omega)) N5 a5
/-- loads, names, references, goings: the writes stay -/
def zS (z z1 : cZ) : Prop := zN z1 = zN z ∧ (∀ k j, k < 2 → zR z1 k j = zR z k j) ∧ zW z1 = zW z ∧ zJ z1 = zJ z ∧ zC z1 = zC z
theorem zS.rf {z : cZ} : zS z z := ⟨rfl, fun _ _ _ => rfl, rfl, rfl, rfl⟩
theorem zS.tr {z z1 z2 : cZ} (h : zS z z1) (g : zS z1 z2) : zS z z2 := ⟨g.1.trans h.1, fun k j hk => (g.2.1 k j hk).trans (h.2.1 k j hk), g.2.2.1.trans h.2.2.1, g.2.2.2.1.trans h.2.2.2.1, g.2.2.2.2.trans h.2.2.2.2⟩
theorem zS.e {z : cZ} {u k : Nat} {v : vE} : zS z (sE z u k v) := ⟨rfl, fun _ _ _ => rfl, rfl, rfl, rfl⟩
theorem zS.it {F : Nat → cZ → cZ} (h : ∀ j z, zS z (F j z)) (n : Nat) (z : cZ) : zS z (itr F n z) := by
  induction n with
  | zero => exact zS.rf
  | succ n ih => exact ih.tr (h n _)
theorem zS.ld {i k : Nat} {t : Int32} (j : Nat) (z : cZ) : zS z (kLd i k t j z) := by
  unfold kLd
  split
  · exact zS.e
  · exact zS.rf
theorem zS.cl {i : Nat} {t : Int32} (j : Nat) (z : cZ) : zS z (kCl i t j z) := by
  unfold kCl
  split
  · exact zS.e
  · exact zS.rf
theorem zS.rmB {i b : Nat} {z : cZ} : zS z (kRmB i b z) := by
  unfold kRmB kSt
  exact (zS.e.tr (zS.it zS.ld _ _)).tr (zS.it zS.cl _ _)
theorem zS.rb {i : Nat} {t : Int32} (j : Nat) (z : cZ) : zS z (kRb i t j z) := by
  unfold kRb
  split
  · exact zS.rmB
  · exact zS.rf
theorem zS.rmA {i a : Nat} {z : cZ} : zS z (kRmA i a z) := by
  unfold kRmA kRm0 kSt
  exact (zS.e.tr (zS.it zS.ld _ _)).tr (zS.it zS.rb _ _)
theorem zS.fi {i k : Nat} {ky : Int32} {z : cZ} : zS z (kFi i k ky z) := by
  unfold kFi
  split
  · exact zS.e
  · exact zS.rf
theorem zS.cr {i : Nat} {z : cZ} : zS z (kCr i z) := by
  unfold kCr
  exact (zS.it (F := kFg i 0) (fun _ _ => zS.e) _ _).tr (zS.it (F := kFg i 1) (fun _ _ => zS.e) _ _)
theorem jJ.s {z z1 : cZ} (h : jJ z) (s : zS z z1) : jJ z1 := h.k s.1 s.2.1 s.2.2.1 s.2.2.2.1 s.2.2.2.2
