/-! THE WAY of a group, second by second: kind K, direction D, speed V, opens at oo, from height H, winds wx and wy by layers -/
def mst (K : Int32) : Nat := if K = 1 then 60 else if K = 2 then 45 else 50
def drp (K : Int32) (s : Nat) : Nat := 10 * min (10 * (s + 1)) (mst K)
def fh (K : Int32) (oo H : Nat) : Nat → Nat × Nat
  | 0 => (H, 1)
  | s + 1 => if (fh K oo H s).2 = 1 then ((fh K oo H s).1 - drp K s, if (fh K oo H s).1 - drp K s ≤ oo ∨ (K = 3 ∧ 2 ≤ s) then 2 else 1) else if (fh K oo H s).2 = 2 then ((fh K oo H s).1 - 50, if (fh K oo H s).1 - 50 = 0 then 3 else 2) else fh K oo H s
def thr (V : Int32) (s : Nat) : Int32 := if s ≤ 20 then V >>> (nI (s + 1) &&& 31) else 0
def trx (K D : Int32) (s : Nat) : Int32 := if K = 2 ∧ 5 ≤ s then (if D = 0 then 80 else if D = 2 then -80 else 0) else 0
def trw (K D : Int32) (s : Nat) : Int32 := if K = 2 ∧ 5 ≤ s then (if D = 1 then 80 else if D = 3 then -80 else 0) else 0
def fx (K D V : Int32) (oo H : Nat) (wx : Nat → Int32) : Nat → Int32
  | 0 => 0
  | s + 1 => if (fh K oo H s).2 = 1 then ((fx K D V oo H wx s + wx ((fh K oo H s).1 / 4000)) + thr V s) + trx K D s else if (fh K oo H s).2 = 2 then fx K D V oo H wx s + wx ((fh K oo H s).1 / 4000) else fx K D V oo H wx s
def fy (K D : Int32) (oo H : Nat) (wy : Nat → Int32) : Nat → Int32
  | 0 => 0
  | s + 1 => if (fh K oo H s).2 = 1 then (fy K D oo H wy s + wy ((fh K oo H s).1 / 4000)) + trw K D s else if (fh K oo H s).2 = 2 then fy K D oo H wy s + wy ((fh K oo H s).1 / 4000) else fy K D oo H wy s
theorem mst_b (K : Int32) : 45 ≤ mst K ∧ mst K ≤ 60 := by
  unfold mst
  by_cases h : K = 1
  · rw [if_pos h]; omega
  · rw [if_neg h]
    by_cases h : K = 2
    · rw [if_pos h]; omega
    · rw [if_neg h]; omega
theorem drp_b (K : Int32) (s : Nat) : drp K s ≤ 600 ∧ 100 ≤ drp K s ∧ (4 ≤ s → 450 ≤ drp K s) := by
  have := mst_b K
  unfold drp
  omega
section FH
variable {K : Int32} {oo H : Nat}
/-! how high, and in which state: what holds at every second -/
set_option maxRecDepth 20000 in
theorem fh_inv (ho : 6000 ≤ oo) (ho2 : oo ≤ 15000) (hH : 15000 ≤ H) (hH2 : H ≤ 47000) : ∀ s, ((fh K oo H s).2 = 1 ∧ 6000 ≤ (fh K oo H s).1 ∧ (fh K oo H s).1 + 450 * s ≤ 47000 + 350 * min s 4 ∧ (K = 3 → s ≤ 2)) ∨ ((fh K oo H s).2 = 2 ∧ 0 < (fh K oo H s).1 ∧ (fh K oo H s).1 + 50 * s ≤ 47150) ∨ ((fh K oo H s).2 = 3 ∧ (fh K oo H s).1 = 0)
  | 0 => by
    left
    show 1 = 1 ∧ 6000 ≤ H ∧ H + 450 * 0 ≤ 47000 + 350 * min 0 4 ∧ (K = 3 → 0 ≤ 2)
    omega
  | s + 1 => by
    have ih := fh_inv ho ho2 hH hH2 s
    have hd := drp_b K s
    unfold fh
    rcases ih with ⟨h1, h2, h3, h4⟩ | ⟨h1, h2, h3⟩ | ⟨h1, h2⟩
    · rw [if_pos h1]
      by_cases hc : (fh K oo H s).1 - drp K s ≤ oo ∨ (K = 3 ∧ 2 ≤ s)
      · rw [if_pos hc]
        right; left
        refine ⟨rfl, ?_, ?_⟩
        · show 0 < (fh K oo H s).1 - drp K s
          omega
        · show (fh K oo H s).1 - drp K s + 50 * (s + 1) ≤ 47150
          rcases hc with hc | hc
          · omega
          · have h9 := h4 hc.1
            generalize (fh K oo H s).1 = A at h2 h3 ⊢
            generalize drp K s = B at hd ⊢
            have h8 := hc.2
            clear h4 hc
            omega
      · rw [if_neg hc]
        left
        have h8 : ¬ (fh K oo H s).1 - drp K s ≤ oo := fun z => hc (Or.inl z)
        refine ⟨rfl, ?_, ?_, ?_⟩
        · show 6000 ≤ (fh K oo H s).1 - drp K s
          clear hc h4
          omega
        · show (fh K oo H s).1 - drp K s + 450 * (s + 1) ≤ 47000 + 350 * min (s + 1) 4
          clear hc h4
          generalize (fh K oo H s).1 = A at h2 h3 h8 ⊢
          generalize drp K s = B at hd h8 ⊢
          obtain ⟨d1, d2, d3⟩ := hd
          clear h1 h8 hH hH2 ho ho2
          rcases Nat.lt_or_ge s 4 with hs | hs
          · have e1 : min s 4 = s := by omega
            have e2 : min (s + 1) 4 = s + 1 := by omega
            rw [e1] at h3
            rw [e2]
            omega
          · have e1 : min s 4 = 4 := by omega
            have e2 : min (s + 1) 4 = 4 := by omega
            have d4 := d3 hs
            rw [e1] at h3
            rw [e2]
            clear d3
            omega
        · intro hK
          by_cases h2s : 2 ≤ s
          · exact absurd (Or.inr ⟨hK, h2s⟩) hc
          · omega
    · rw [if_neg (by omega), if_pos h1]
      by_cases hz : (fh K oo H s).1 - 50 = 0
      · rw [if_pos hz]
        exact Or.inr (Or.inr ⟨rfl, hz⟩)
      · rw [if_neg hz]
        right; left
        refine ⟨rfl, ?_, ?_⟩
        · show 0 < (fh K oo H s).1 - 50
          omega
        · show (fh K oo H s).1 - 50 + 50 * (s + 1) ≤ 47150
          omega
    · rw [if_neg (by omega), if_neg (by omega)]
      exact Or.inr (Or.inr ⟨h1, h2⟩)
theorem fh_top (hH2 : H ≤ 47000) : ∀ s, (fh K oo H s).1 ≤ 47000
  | 0 => hH2
  | s + 1 => by
    have ih := fh_top hH2 s
    unfold fh
    by_cases h1 : (fh K oo H s).2 = 1
    · rw [if_pos h1]
      show (fh K oo H s).1 - drp K s ≤ 47000
      omega
    · rw [if_neg h1]
      by_cases h2 : (fh K oo H s).2 = 2
      · rw [if_pos h2]
        show (fh K oo H s).1 - 50 ≤ 47000
        omega
      · rw [if_neg h2]; exact ih
/-- opened at o, down at d -/
def Wd (K : Int32) (oo H o d : Nat) : Prop := 0 < o ∧ o < d ∧ d ≤ 943 ∧ (∀ t, t < o → (fh K oo H t).2 = 1) ∧ (∀ t, o ≤ t → t < d → (fh K oo H t).2 = 2) ∧ ∀ t, d ≤ t → fh K oo H t = (0, 3)
theorem fh_stay (ho : 6000 ≤ oo) (ho2 : oo ≤ 15000) (hH : 15000 ≤ H) (hH2 : H ≤ 47000) {s : Nat} (h : (fh K oo H s).2 = 3) : ∀ k, fh K oo H (s + k) = (0, 3)
  | 0 => by
    rcases fh_inv (K := K) ho ho2 hH hH2 s with h1 | h1 | h1
    · omega
    · omega
    · show fh K oo H s = (0, 3)
      exact Prod.ext h1.2 h1.1
  | k + 1 => by
    have ih := fh_stay ho ho2 hH hH2 h k
    show fh K oo H (s + k + 1) = (0, 3)
    unfold fh
    rw [ih, if_neg (by decide), if_neg (by decide)]
theorem fh_mono (s : Nat) : (fh K oo H s).2 ≠ 1 → (fh K oo H (s + 1)).2 ≠ 1 := by
  intro h
  unfold fh
  rw [if_neg h]
  by_cases h2 : (fh K oo H s).2 = 2
  · rw [if_pos h2]
    show (if (fh K oo H s).1 - 50 = 0 then 3 else 2) ≠ 1
    by_cases hz : (fh K oo H s).1 - 50 = 0
    · rw [if_pos hz]; omega
    · rw [if_neg hz]; omega
  · rw [if_neg h2]; exact h
theorem leastN (P : Nat → Prop) (n : Nat) (h : P n) : ∃ k, k ≤ n ∧ P k ∧ ∀ j, j < k → ¬ P j := by
  obtain ⟨k, h1, h2⟩ := pk_least P ⟨n, h⟩
  refine ⟨k, ?_, h1, h2⟩
  by_cases hk : k ≤ n
  · exact hk
  · exact absurd h (h2 n (by omega))
theorem fh_wd (ho : 6000 ≤ oo) (ho2 : oo ≤ 15000) (hH : 15000 ≤ H) (hH2 : H ≤ 47000) : ∃ o d, Wd K oo H o d := by
  have inv := fh_inv (K := K) ho ho2 hH hH2
  have h943 : (fh K oo H 943).2 = 3 := by
    rcases inv 943 with h | h | h
    · omega
    · omega
    · exact h.1
  obtain ⟨d, hd1, hd2, hd3⟩ := leastN (fun t => (fh K oo H t).2 = 3) 943 h943
  obtain ⟨o, ho1, ho2', ho3⟩ := leastN (fun t => (fh K oo H t).2 ≠ 1) d (by show _ ≠ 1; rw [hd2]; decide)
  have h0 : (fh K oo H 0).2 = 1 := rfl
  have hge : ∀ k, (fh K oo H (o + k)).2 ≠ 1 := by
    intro k
    induction k with
    | zero => exact ho2'
    | succ k ih => exact fh_mono (o + k) ih
  have ho0 : 0 < o := by
    rcases Nat.eq_zero_or_pos o with h | h
    · subst h; exact absurd h0 ho2'
    · exact h
  refine ⟨o, d, ho0, ?_, hd1, fun t ht => Classical.byContradiction (ho3 t ht), fun t h1 h2 => ?_, fun t ht => ?_⟩
  · rcases Nat.lt_or_ge o d with h | h
    · exact h
    · have hod : o = d := by omega
      subst hod
      obtain ⟨p, rfl⟩ : ∃ p, o = p + 1 := ⟨o - 1, by omega⟩
      have hp : (fh K oo H p).2 = 1 := Classical.byContradiction (ho3 p (by omega))
      have := hd2
      unfold fh at this
      rw [if_pos hp] at this
      by_cases hc : (fh K oo H p).1 - drp K p ≤ oo ∨ (K = 3 ∧ 2 ≤ p)
      · rw [if_pos hc] at this
        exact absurd this (fun z => by cases z)
      · rw [if_neg hc] at this
        exact absurd this (fun z => by cases z)
  · have h3 := hd3 t h2
    have h4 := hge (t - o)
    rw [show o + (t - o) = t by omega] at h4
    rcases inv t with h | h | h
    · exact absurd h.1 h4
    · exact h.1
    · exact absurd h.1 h3
  · have := fh_stay ho ho2 hH hH2 hd2 (t - d)
    rw [show d + (t - d) = t by omega] at this
    exact this
end FH
theorem fx_down {K D V : Int32} {oo H o d : Nat} {wx : Nat → Int32} (h : Wd K oo H o d) : ∀ k, fx K D V oo H wx (d + k) = fx K D V oo H wx d
  | 0 => rfl
  | k + 1 => by
    have h3 := h.2.2.2.2.2 (d + k) (by omega)
    show fx K D V oo H wx (d + k + 1) = _
    rw [fx, h3, if_neg (by decide), if_neg (by decide)]
    exact fx_down h k
theorem fy_down {K D : Int32} {oo H o d : Nat} {wy : Nat → Int32} (h : Wd K oo H o d) : ∀ k, fy K D oo H wy (d + k) = fy K D oo H wy d
  | 0 => rfl
  | k + 1 => by
    have h3 := h.2.2.2.2.2 (d + k) (by omega)
    show fy K D oo H wy (d + k + 1) = _
    rw [fy, h3, if_neg (by decide), if_neg (by decide)]
    exact fy_down h k
/-! how far -/
theorem add_B {a b : Int32} (h1 : -2147483648 ≤ a.toInt + b.toInt) (h2 : a.toInt + b.toInt < 2147483648) : (a + b).toInt = a.toInt + b.toInt := by
  rw [Int32.toInt_add]; exact Int.bmod_eq_of_le (by omega) (by omega)
theorem sub_B {a b : Int32} (h1 : -2147483648 ≤ a.toInt - b.toInt) (h2 : a.toInt - b.toInt < 2147483648) : (a - b).toInt = a.toInt - b.toInt := by
  rw [Int32.toInt_sub]; exact Int.bmod_eq_of_le (by omega) (by omega)
theorem mul_B {a b : Int32} (h1 : -2147483648 ≤ a.toInt * b.toInt) (h2 : a.toInt * b.toInt < 2147483648) : (a * b).toInt = a.toInt * b.toInt := by
  rw [Int32.toInt_mul]; exact Int.bmod_eq_of_le (by omega) (by omega)
theorem adL_B {a b : Int64} (h1 : -9223372036854775808 ≤ a.toInt + b.toInt) (h2 : a.toInt + b.toInt < 9223372036854775808) : (a + b).toInt = a.toInt + b.toInt := by
  rw [Int64.toInt_add]; exact Int.bmod_eq_of_le (by omega) (by omega)
theorem suL_B {a b : Int64} (h1 : -9223372036854775808 ≤ a.toInt - b.toInt) (h2 : a.toInt - b.toInt < 9223372036854775808) : (a - b).toInt = a.toInt - b.toInt := by
  rw [Int64.toInt_sub]; exact Int.bmod_eq_of_le (by omega) (by omega)
theorem muL_B {a b : Int64} (h1 : -9223372036854775808 ≤ a.toInt * b.toInt) (h2 : a.toInt * b.toInt < 9223372036854775808) : (a * b).toInt = a.toInt * b.toInt := by
  rw [Int64.toInt_mul]; exact Int.bmod_eq_of_le (by omega) (by omega)
theorem thr_sm : ∀ s, s < 21 → ((nI (s + 1) &&& 31).toBitVec.smod 32).toNat = s + 1 := by decide +kernel
theorem thr_b {V : Int32} (hV : btw V 0 600) (s : Nat) : btw (thr V s) 0 600 := by
  unfold thr
  by_cases h : s ≤ 20
  · rw [if_pos h]
    have h1 := pk_shr V (nI (s + 1) &&& 31) (s + 1) (thr_sm s (by omega))
    unfold btw
    rw [h1, Int.shiftRight_eq_div_pow]
    have h3 : (0 : Int) < ((2 ^ (s + 1) : Nat) : Int) := by exact_mod_cast Nat.two_pow_pos (s + 1)
    refine ⟨Int.ediv_nonneg hV.1 (by omega), ?_⟩
    exact Int.le_trans (Int.ediv_le_self _ hV.1) hV.2
  · rw [if_neg h]; decide
theorem trx_b (K D : Int32) (s : Nat) : btw (trx K D s) (-80) 80 := by
  unfold trx
  by_cases h : K = 2 ∧ 5 ≤ s
  · rw [if_pos h]
    by_cases h : D = 0
    · rw [if_pos h]; decide
    · rw [if_neg h]
      by_cases h : D = 2
      · rw [if_pos h]; decide
      · rw [if_neg h]; decide
  · rw [if_neg h]; decide
theorem trw_b (K D : Int32) (s : Nat) : btw (trw K D s) (-80) 80 := by
  unfold trw
  by_cases h : K = 2 ∧ 5 ≤ s
  · rw [if_pos h]
    by_cases h : D = 1
    · rw [if_pos h]; decide
    · rw [if_neg h]
      by_cases h : D = 3
      · rw [if_pos h]; decide
      · rw [if_neg h]; decide
  · rw [if_neg h]; decide
theorem fx_b {K D V : Int32} {oo H : Nat} {wx : Nat → Int32} (hV : btw V 0 600) (hH : H ≤ 47000) (hw : ∀ j, j < 12 → okW (wx j)) : ∀ s, s ≤ 1000 → btw (fx K D V oo H wx s) (-1000 * (s : Int)) (1000 * (s : Int))
  | 0, _ => by
    show btw (0 : Int32) _ _
    exact ⟨by decide, by decide⟩
  | s + 1, hs => by
    have ih := fx_b (K := K) (D := D) (oo := oo) hV hH hw s (by omega)
    have ht := fh_top (K := K) (oo := oo) hH s
    have hw1 := hw ((fh K oo H s).1 / 4000) (by omega)
    have ht1 := thr_b hV s
    have ht2 := trx_b K D s
    have e1 := add_B (a := fx K D V oo H wx s) (b := wx ((fh K oo H s).1 / 4000)) (by omega) (by omega)
    have e2 := add_B (a := fx K D V oo H wx s + wx ((fh K oo H s).1 / 4000)) (b := thr V s) (by omega) (by omega)
    have e3 := add_B (a := (fx K D V oo H wx s + wx ((fh K oo H s).1 / 4000)) + thr V s) (b := trx K D s) (by omega) (by omega)
    unfold fx
    by_cases h1 : (fh K oo H s).2 = 1
    · rw [if_pos h1]
      unfold btw
      omega
    · rw [if_neg h1]
      by_cases h2 : (fh K oo H s).2 = 2
      · rw [if_pos h2]
        unfold btw
        omega
      · rw [if_neg h2]
        unfold btw
        omega
theorem fy_b {K D : Int32} {oo H : Nat} {wy : Nat → Int32} (hH : H ≤ 47000) (hw : ∀ j, j < 12 → okW (wy j)) : ∀ s, s ≤ 1000 → btw (fy K D oo H wy s) (-1000 * (s : Int)) (1000 * (s : Int))
  | 0, _ => by
    show btw (0 : Int32) _ _
    exact ⟨by decide, by decide⟩
  | s + 1, hs => by
    have ih := fy_b (K := K) (D := D) (oo := oo) hH hw s (by omega)
    have ht := fh_top (K := K) (oo := oo) hH s
    have hw1 := hw ((fh K oo H s).1 / 4000) (by omega)
    have ht2 := trw_b K D s
    have e1 := add_B (a := fy K D oo H wy s) (b := wy ((fh K oo H s).1 / 4000)) (by omega) (by omega)
    have e3 := add_B (a := fy K D oo H wy s + wy ((fh K oo H s).1 / 4000)) (b := trw K D s) (by omega) (by omega)
    unfold fy
    by_cases h1 : (fh K oo H s).2 = 1
    · rw [if_pos h1]
      unfold btw
      omega
    · rw [if_neg h1]
      by_cases h2 : (fh K oo H s).2 = 2
      · rw [if_pos h2]
        unfold btw
        omega
      · rw [if_neg h2]
        unfold btw
        omega
theorem grtest (a b c d : Int64) : (a + b - c) * (a + b - c) = (c - b - a) * (c - b - a) := by grind
