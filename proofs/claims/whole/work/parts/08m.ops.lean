/-! FLOATS: no NaN, nowhere -/
theorem fmask (v : UInt32) : (v &&& 0x7fffffff).toNat = v.toNat % 2 ^ 31 := by
  rw [UInt32.toNat_and, show (0x7fffffff : UInt32).toNat = 2 ^ 31 - 1 from rfl, Nat.and_two_pow_sub_one_eq_mod]
theorem ckN_ok {β : Type} {v : UInt32} {K : Nat} (h : v.toNat % 2 ^ 31 < K * 2 ^ 23) (hK : K ≤ 255) {f : UInt32 → Option β} : ckN v f = f v := by
  unfold ckN
  rw [if_pos]
  rw [UInt32.le_iff_toNat_le, fmask]
  have : (0x7f800000 : UInt32).toNat = 2139095040 := rfl
  omega
abbrev okG (x : UInt32) : Prop := x.toNat % 2 ^ 31 < 163 * 2 ^ 23
theorem shl_ne : ∀ j, j < 21 → ((1 : Int32) <<< (nI j &&& 31)).toInt ≠ 0 := by decide +kernel
theorem okDiv {v k : Int32} (hk : btw k 0 20) : okF (FP.fdiv (FP.i2f v) (FP.i2f (1 <<< (k &&& 31)))) := by
  obtain ⟨j, hj, rfl⟩ := btw_nI 21 hk (by decide)
  have h1 := Jvm.FP.Core.i2f_mag v
  have h2 := Jvm.FP.Core.i2f_big (shl_ne j hj)
  have h3 := Jvm.FP.Core.fdiv_mag (K := 160) (L := 127) h1 h2.1 h2.2 (by decide) (by decide)
  exact h3
theorem okAdd {a b : UInt32} (ha : okF a) (hb : okF b) : okG (FP.fadd a b) := Jvm.FP.Core.fadd_mag ha hb (by decide)
theorem okHalf {a : UInt32} (ha : okG a) : okG (FP.fdiv a 0x40000000) := Jvm.FP.Core.fdiv_mag (K := 163) (L := 128) ha (by decide) (by decide) (by decide) (by decide)
theorem okK {a : UInt32} (ha : okG a) : (FP.fmul a 1148846080).toNat % 2 ^ 31 < 174 * 2 ^ 23 := Jvm.FP.Core.fmul_mag (Ka := 163) (Kb := 137) ha (by decide) (by decide) (by decide)
theorem okT {a : UInt32} (ha : okG a) : (FP.fmul a 1092616192).toNat % 2 ^ 31 < 174 * 2 ^ 23 := Jvm.FP.Core.fmul_mag (Ka := 163) (Kb := 137) ha (by decide) (by decide) (by decide)
/-! the rows of a sheet as functions: gaps, numbers; the nearest number below and above; what stands filled -/
def blo (g : Nat → Int32) : Nat → Int32
  | 0 => -1
  | i + 1 => if g i = 0 then nI i else blo g i
def abo (g : Nat → Int32) (n : Nat) : Nat → Int32
  | 0 => -1
  | d + 1 => if g (n - (d + 1)) = 0 then nI (n - (d + 1)) else abo g n d
def fil (g : Nat → Int32) (x : Nat → UInt32) (n i : Nat) : UInt32 :=
  if g i = 0 then x i else if blo g i < 0 then (if abo g n (n - (i + 1)) < 0 then 0 else x (abo g n (n - (i + 1))).toNatClampNeg) else if abo g n (n - (i + 1)) < 0 then x (blo g i).toNatClampNeg else FP.fdiv (FP.fadd (x (blo g i).toNatClampNeg) (x (abo g n (n - (i + 1))).toNatClampNeg)) 0x40000000
theorem blo_s (g : Nat → Int32) (i : Nat) : blo g (i + 1) = if g i = 0 then nI i else blo g i := rfl
theorem abo_s (g : Nat → Int32) (n d : Nat) : abo g n (d + 1) = if g (n - (d + 1)) = 0 then nI (n - (d + 1)) else abo g n d := rfl
theorem blo_or (g : Nat → Int32) : ∀ i, blo g i = -1 ∨ ∃ j, j < i ∧ blo g i = nI j
  | 0 => Or.inl rfl
  | i + 1 => by
    unfold blo
    by_cases h : g i = 0
    · rw [if_pos h]
      exact Or.inr ⟨i, by omega, rfl⟩
    · rw [if_neg h]
      rcases blo_or g i with h | ⟨j, h1, h2⟩
      · exact Or.inl h
      · exact Or.inr ⟨j, by omega, h2⟩
theorem abo_or (g : Nat → Int32) (n : Nat) : ∀ d, d ≤ n → abo g n d = -1 ∨ ∃ j, n - d ≤ j ∧ j < n ∧ abo g n d = nI j
  | 0, _ => Or.inl rfl
  | d + 1, hd => by
    unfold abo
    by_cases h : g (n - (d + 1)) = 0
    · rw [if_pos h]
      exact Or.inr ⟨n - (d + 1), by omega, by omega, rfl⟩
    · rw [if_neg h]
      rcases abo_or g n d (by omega) with h | ⟨j, h1, h2, h3⟩
      · exact Or.inl h
      · exact Or.inr ⟨j, by omega, h2, h3⟩
/-- a sheet as it stands -/
def FV (s : Sg) (r n : Nat) (g : Nat → Int32) (x : Nat → UInt32) : Prop := r < 3 ∧ n < 21 ∧ R0 s ∧ sI s (15 + 3 * r) 2 = nI n ∧ sI s 208 r = nI n ∧ ∀ i, i < n → sF s (16 + 3 * r) i = x i ∧ sF s 209 (20 * r + i) = x i ∧ sI s (17 + 3 * r) i = g i ∧ sI s 210 (20 * r + i) = g i ∧ okF (x i)
theorem FV.congr {s s1 : Sg} {r n : Nat} {g : Nat → Int32} {x : Nat → UInt32} (h : FV s r n g x) (r0 : R0 s1) (hE : ∀ a, (15 ≤ a ∧ a < 24) ∨ (208 ≤ a ∧ a ≤ 210) → Eqc s s1 a) : FV s1 r n g x := by
  obtain ⟨h1, h2, h3, h4, h5, h6⟩ := h
  refine ⟨h1, h2, r0, by rw [(hE _ (by omega)).1]; exact h4, by rw [(hE 208 (by omega)).1]; exact h5, fun i hi => ?_⟩
  rw [(hE (17 + 3 * r) (by omega)).1, (hE (16 + 3 * r) (by omega)).2.2, (hE 210 (by omega)).1, (hE 209 (by omega)).2.2]
  exact h6 i hi
theorem R1.fv {s : Sg} (h : R1 s) (r0 : R0 s) {r : Nat} (hr : r < 3) : (sI s (15 + 3 * r) 3 = 0 ∧ sI s 208 r = -1) ∨ (sI s (15 + 3 * r) 3 = 1 ∧ ∃ n, FV s r n (fun i => sI s 210 (20 * r + i)) (fun i => sF s 209 (20 * r + i))) := by
  rcases h r hr with h | ⟨h1, h2, n, h3, h4, h5⟩
  · exact Or.inl h
  · refine Or.inr ⟨h1, n, hr, h3, r0, h2.trans h4, h4, fun i hi => ?_⟩
    obtain ⟨f1, f2, f3, f4⟩ := h5 i hi
    exact ⟨f1, rfl, f2, rfl, f4⟩
section FVS
variable {s : Sg} {r n : Nat} {g : Nat → Int32} {x : Nat → UInt32}
theorem FV.kb (h : FV s r n g x) : ∀ (i : Nat), i ≤ n → ∀ f, i < f → lp (mX7_knownBelow_b4 (15 + 3 * r)) f (nI i - 1) s = some (blo g i, s)
  | _, _, 0, hf => absurd hf (Nat.not_lt_zero _)
  | 0, _, f + 1, _ => by
    show mX7_knownBelow_b4 _ _ _ _ = _
    unfold mX7_knownBelow_b4
    rw [if_pos (by decide)]
    rfl
  | i + 1, hi, f + 1, hf => by
    have h0 := h
    obtain ⟨h1, h2, h3, h4, h5, h6⟩ := h
    obtain ⟨k1, k2, k3, k4, k5⟩ := kdSh r h1
    have hN := h3.1
    obtain ⟨-, q0, q1, q2, q3, q4, q5, q6, q7, q8, q9, q10, q11, q12, q13, b1, -⟩ := h3
    obtain ⟨-, x1, x2⟩ := b1 r h1
    show mX7_knownBelow_b4 _ (lp _ f) _ _ = _
    unfold mX7_knownBelow_b4 blo
    rw [nI_pred, if_neg (nI0 (by omega)), gdR_at k1 (by omega), x2, alZ_n (by omega) k3 (by omega), (h6 i (by omega)).2.2.1]
    by_cases hg : g i = 0
    · rw [if_pos hg, if_neg (fun z => z hg)]
    · rw [if_neg hg, if_pos hg, ← Int32.sub_eq_add_neg]
      exact FV.kb h0 i (by omega) f (by omega)
theorem FV.ka (h : FV s r n g x) : ∀ (d : Nat), d ≤ n → ∀ f, d < f → lp (mX7_knownAbove_b4 (15 + 3 * r)) f (nI (n - d)) s = some (abo g n d, s)
  | _, _, 0, hf => absurd hf (Nat.not_lt_zero _)
  | 0, _, f + 1, _ => by
    obtain ⟨h1, h2, h3, h4, h5, h6⟩ := h
    obtain ⟨k1, k2, k3, k4, k5⟩ := kdSh r h1
    have hN := h3.1
    show mX7_knownAbove_b4 _ _ _ _ = _
    unfold mX7_knownAbove_b4
    rw [gdI_at k1 (by omega), h4, Nat.sub_zero, if_pos (Int32.le_refl _)]
    rfl
  | d + 1, hd, f + 1, hf => by
    have h0 := h
    obtain ⟨h1, h2, h3, h4, h5, h6⟩ := h
    obtain ⟨k1, k2, k3, k4, k5⟩ := kdSh r h1
    have hN := h3.1
    obtain ⟨-, q0, q1, q2, q3, q4, q5, q6, q7, q8, q9, q10, q11, q12, q13, b1, -⟩ := h3
    obtain ⟨-, x1, x2⟩ := b1 r h1
    show mX7_knownAbove_b4 _ (lp _ f) _ _ = _
    unfold mX7_knownAbove_b4 abo
    rw [gdI_at k1 (by omega), h4, if_neg (nI_ge (by omega) (by omega)), gdR_at k1 (by omega), x2, alZ_n (by omega) k3 (by omega), (h6 (n - (d + 1)) (by omega)).2.2.1]
    by_cases hg : g (n - (d + 1)) = 0
    · rw [if_pos hg, if_neg (fun z => z hg)]
    · rw [if_neg hg, if_pos hg, nI_1, show n - (d + 1) + 1 = n - d by omega]
      exact FV.ka h0 d (by omega) f (by omega)
theorem FV.nb (h : FV s r n g x) : ∀ (i : Nat), i ≤ n → ∀ f, i < f → lp (mX9_nearest_b3 207 (nI r) (-1)) f (nI i - 1) s = some (blo g i, s)
  | _, _, 0, hf => absurd hf (Nat.not_lt_zero _)
  | 0, _, f + 1, _ => by
    show mX9_nearest_b3 _ _ _ _ _ _ = _
    unfold mX9_nearest_b3
    rw [jn_eq, if_pos (by decide)]
    rfl
  | i + 1, hi, f + 1, hf => by
    have h0 := h
    obtain ⟨h1, h2, h3, h4, h5, h6⟩ := h
    have hM := h3.m
    have hN := hM.1
    show mX9_nearest_b3 _ _ _ (lp _ f) _ _ = _
    unfold mX9_nearest_b3 blo
    rw [jn_eq, nI_pred, if_neg (nI0 (by omega)), mR hM 0 208 rfl (by decide) (by decide), alI_n (show r < ln 208 from h1) (by decide) (by omega), h5, if_neg (nI_ge (by omega) (by omega)), mR hM 2 210 rfl (by decide) (by decide), i20, alZ_n (show _ < ln 210 from show _ < 60 by omega) (by decide) (by omega), (h6 i (by omega)).2.2.2.1]
    by_cases hg : g i = 0
    · rw [if_pos hg, if_pos hg]
      dsimp only
      rw [if_neg (nI0 (by omega)), mR hM 0 208 rfl (by decide) (by decide), alI_n (show r < ln 208 from h1) (by decide) (by omega), h5, if_neg (nI_ge (by omega) (by omega))]
    · rw [if_neg hg, if_neg hg, ← Int32.sub_eq_add_neg]
      exact FV.nb h0 i (by omega) f (by omega)
theorem FV.na (h : FV s r n g x) : ∀ (d : Nat), d ≤ n → ∀ f, d < f → lp (mX9_nearest_b3 207 (nI r) 1) f (nI (n - d)) s = some (abo g n d, s)
  | _, _, 0, hf => absurd hf (Nat.not_lt_zero _)
  | 0, _, f + 1, _ => by
    obtain ⟨h1, h2, h3, h4, h5, h6⟩ := h
    have hM := h3.m
    have hN := hM.1
    show mX9_nearest_b3 _ _ _ _ _ _ = _
    unfold mX9_nearest_b3
    rw [Nat.sub_zero, jn_eq, if_neg (nI0 (by omega)), mR hM 0 208 rfl (by decide) (by decide), alI_n (show r < ln 208 from h1) (by decide) (by omega), h5, if_pos (Int32.le_refl _)]
    dsimp only
    rw [if_neg (nI0 (by omega)), mR hM 0 208 rfl (by decide) (by decide), alI_n (show r < ln 208 from h1) (by decide) (by omega), h5, if_pos (Int32.le_refl _)]
    rfl
  | d + 1, hd, f + 1, hf => by
    have h0 := h
    obtain ⟨h1, h2, h3, h4, h5, h6⟩ := h
    have hM := h3.m
    have hN := hM.1
    show mX9_nearest_b3 _ _ _ (lp _ f) _ _ = _
    unfold mX9_nearest_b3 abo
    rw [jn_eq, if_neg (nI0 (by omega)), mR hM 0 208 rfl (by decide) (by decide), alI_n (show r < ln 208 from h1) (by decide) (by omega), h5, if_neg (nI_ge (by omega) (by omega)), mR hM 2 210 rfl (by decide) (by decide), i20, alZ_n (show _ < ln 210 from show _ < 60 by omega) (by decide) (by omega), (h6 (n - (d + 1)) (by omega)).2.2.2.1]
    by_cases hg : g (n - (d + 1)) = 0
    · rw [if_pos hg, if_pos hg]
      dsimp only
      rw [if_neg (nI0 (by omega)), mR hM 0 208 rfl (by decide) (by decide), alI_n (show r < ln 208 from h1) (by decide) (by omega), h5, if_neg (nI_ge (by omega) (by omega))]
    · rw [if_neg hg, if_neg hg, nI_1, show n - (d + 1) + 1 = n - d by omega]
      exact FV.na h0 d (by omega) f (by omega)
theorem m1_neg : (-1 : Int32) < 0 := by decide
theorem FV.fil_ok (h : FV s r n g x) {i : Nat} (hi : i < n) : okG (fil g x n i) := by
  obtain ⟨h1, h2, h3, h4, h5, h6⟩ := h
  have hx : ∀ j, j < n → okG (x j) := fun j hj => by have := (h6 j hj).2.2.2.2; omega
  unfold fil
  by_cases hg : g i = 0
  · rw [if_pos hg]; exact hx i hi
  rw [if_neg hg]
  rcases blo_or g i with hb | ⟨j, hj, hb⟩ <;> rcases abo_or g n (n - (i + 1)) (by omega) with ha | ⟨k, hk, hk2, ha⟩ <;> rw [hb, ha]
  · rw [if_pos m1_neg, if_pos m1_neg]; decide
  · rw [if_pos m1_neg, if_neg (nI0 (by omega)), nI_clamp (by omega)]; exact hx k hk2
  · rw [if_neg (nI0 (by omega)), if_pos m1_neg, nI_clamp (by omega)]; exact hx j (by omega)
  · rw [if_neg (nI0 (by omega)), if_neg (nI0 (by omega)), nI_clamp (by omega), nI_clamp (by omega)]
    exact okHalf (okAdd (h6 j (by omega)).2.2.2.2 (h6 k hk2).2.2.2.2)
theorem FV.cfil (h : FV s r n g x) {i : Nat} (hi : i < n) : mX7_filled (15 + 3 * r) (nI i) s = some (fil g x n i, s) := by
  have e1 := h.kb i (by omega) FU (show i < 4000 by have := h.2.1; omega)
  have e2 := h.ka (n - (i + 1)) (by omega) FU (show _ < 4000 by have := h.2.1; omega)
  rw [show n - (n - (i + 1)) = i + 1 by omega] at e2
  obtain ⟨h1, h2, h3, h4, h5, h6⟩ := h
  obtain ⟨k1, k2, k3, k4, k5⟩ := kdSh r h1
  have hN := h3.1
  have eh : mX7_has (15 + 3 * r) (nI i) s = some (1, s) := by
    rcases sheetHas h3 h1 h2 h4 (nI i) with ⟨hp, -⟩ | ⟨j, hj, hji, eh⟩
    · rcases noP_in hp with hp | hp <;> rw [nI_toInt (by omega)] at hp <;> omega
    · exact eh
  obtain ⟨-, q0, q1, q2, q3, q4, q5, q6, q7, q8, q9, q10, q11, q12, q13, b1, -⟩ := h3
  obtain ⟨-, x1, x2⟩ := b1 r h1
  have hx : ∀ j, j < n → sF s (16 + 3 * r) j = x j := fun j hj => (h6 j hj).1
  unfold mX7_filled fil
  rw [cv_at k1 (by omega), eh, cl_some, if_pos (by decide), gdR_at k1 (by omega), x2, alZ_n (by omega) k3 (by omega), (h6 i hi).2.2.1]
  by_cases hg : g i = 0
  · rw [if_pos hg, if_neg (fun z => z hg), gdR_at k1 (by omega), x1, alF_n (by omega) k2 (by omega), hx i hi]
  rw [if_neg hg, if_pos hg, cv_at k1 (by omega)]
  have e3 : mX7_knownBelow (15 + 3 * r) (nI i) s = some (blo g i, s) := e1
  have e4 : mX7_knownAbove (15 + 3 * r) (nI i) s = some (abo g n (n - (i + 1)), s) := by
    unfold mX7_knownAbove
    rw [nI_1]
    exact e2
  rw [e3, cl_some, cv_at k1 (by omega), e4, cl_some, jn_eq]
  dsimp only
  rcases blo_or g i with hb | ⟨j, hj, hb⟩ <;> rcases abo_or g n (n - (i + 1)) (by omega) with ha | ⟨k, hk, hk2, ha⟩ <;> rw [hb, ha]
  · simp only [if_pos m1_neg]
  · have f1 : ¬ nI k < 0 := nI0 (by omega)
    simp only [if_pos m1_neg, if_neg f1]
    rw [gdR_at k1 (by omega), x1, alF_n (by omega) k2 (by omega), hx k hk2, nI_clamp (by omega)]
  · have f1 : ¬ nI j < 0 := nI0 (by omega)
    simp only [if_pos m1_neg, if_neg f1]
    rw [gdR_at k1 (by omega), x1, alF_n (by omega) k2 (by omega), hx j (by omega), nI_clamp (by omega)]
  · have f1 : ¬ nI k < 0 := nI0 (by omega)
    have f2 : ¬ nI j < 0 := nI0 (by omega)
    simp only [if_neg f1, if_neg f2]
    rw [gdR_at k1 (by omega), x1, alF_n (by omega) k2 (by omega), hx j (by omega), gdR_at k1 (by omega), x1, alF_n (by omega) k2 (by omega), hx k hk2, ckN_ok (okAdd (h6 j (by omega)).2.2.2.2 (h6 k hk2).2.2.2.2) (by decide), ckN_ok (okHalf (okAdd (h6 j (by omega)).2.2.2.2 (h6 k hk2).2.2.2.2)) (by decide), nI_clamp (by omega), nI_clamp (by omega)]
theorem m1_nle : ¬ (0 : Int32) ≤ -1 := by decide
theorem FV.mfil (h : FV s r n g x) {i : Nat} (hi : i < n) : mX9_filled 207 (nI r) (nI i) s = some (fil g x n i, s) := by
  have e1 := h.nb (i + 1) (by omega) FU (show i + 1 < 4000 by have := h.2.1; omega)
  have e2 := h.na (n - i) (by omega) FU (show _ < 4000 by have := h.2.1; omega)
  rw [show n - (n - i) = i by omega] at e2
  rw [nI_pred] at e1
  have e3 : mX9_nearest 207 (nI r) (nI i) (-1) s = some (blo g (i + 1), s) := e1
  have e4 : mX9_nearest 207 (nI r) (nI i) 1 s = some (abo g n (n - i), s) := e2
  obtain ⟨h1, h2, h3, h4, h5, h6⟩ := h
  have hM := h3.m
  have hN := hM.1
  have hx : ∀ j, j < n → sF s 209 (20 * r + j) = x j := fun j hj => (h6 j hj).2.1
  unfold mX9_filled fil
  rw [blo_s] at e3
  rw [show n - i = (n - (i + 1)) + 1 by omega, abo_s, show n - (n - (i + 1) + 1) = i by omega] at e4
  rw [c9 hN, e3, cl_some, c9 hN, e4, cl_some, jn_eq]
  by_cases hg : g i = 0
  · rw [if_pos hg, if_pos hg, if_pos hg]
    have f1 : ¬ nI i < 0 := nI0 (by omega)
    have f2 : 0 ≤ nI i := nI_pos' (by omega)
    simp only [if_pos f2, jn_eq, if_neg f1, not_true, if_false]
    rw [mR hM 1 209 rfl (by decide) (by decide), i20, alF_n (show _ < ln 209 from show _ < 60 by omega) (by decide) (by omega), hx i hi]
  rw [if_neg hg, if_neg hg, if_neg hg]
  rcases blo_or g i with hb | ⟨j, hj, hb⟩ <;> rcases abo_or g n (n - (i + 1)) (by omega) with ha | ⟨k, hk, hk2, ha⟩ <;> rw [hb, ha]
  · simp only [if_neg m1_nle, if_pos m1_neg]
  · have f1 : ¬ nI k < 0 := nI0 (by omega)
    have f2 : 0 ≤ nI k := nI_pos' (by omega)
    simp only [if_neg m1_nle, if_pos m1_neg, if_pos f2, if_neg f1, jn_eq]
    rw [mR hM 1 209 rfl (by decide) (by decide), i20, alF_n (show _ < ln 209 from show _ < 60 by omega) (by decide) (by omega), hx k hk2, nI_clamp (by omega)]
  · have f1 : ¬ nI j < 0 := nI0 (by omega)
    have f2 : 0 ≤ nI j := nI_pos' (by omega)
    simp only [if_pos m1_neg, if_pos f2, if_neg f1, jn_eq]
    rw [mR hM 1 209 rfl (by decide) (by decide), i20, alF_n (show _ < ln 209 from show _ < 60 by omega) (by decide) (by omega), hx j (by omega), nI_clamp (by omega)]
  · have f1 : ¬ nI k < 0 := nI0 (by omega)
    have f2 : ¬ nI j < 0 := nI0 (by omega)
    have f3 : 0 ≤ nI j := nI_pos' (by omega)
    have f4 : ¬ nI j = nI k := fun z => by have := (nI_eq (by omega) (by omega)).mp z; omega
    have f5 : (nI j = nI k) = False := eq_false f4
    simp only [if_pos f3, if_neg f1, if_neg f2, jn_eq, f5, not_false_iff, if_true]
    rw [mR hM 1 209 rfl (by decide) (by decide), i20, alF_n (show _ < ln 209 from show _ < 60 by omega) (by decide) (by omega), hx j (by omega), mR hM 1 209 rfl (by decide) (by decide), i20, alF_n (show _ < ln 209 from show _ < 60 by omega) (by decide) (by omega), hx k hk2, ckN_ok (okAdd (h6 j (by omega)).2.2.2.2 (h6 k hk2).2.2.2.2) (by decide), ckN_ok (okHalf (okAdd (h6 j (by omega)).2.2.2.2 (h6 k hk2).2.2.2.2)) (by decide), nI_clamp (by omega), nI_clamp (by omega)]
end FVS
theorem op_told : Op2 mX8_told mX9_told := by
  intro s hr p1 p2
  have hN := hr.1.1
  have hM := hr.1.m
  obtain ⟨r0, r1, r2, r3, r4, r5, r6, r7, r8⟩ := id hr
  by_cases h1 : btw p1 0 2
  rotate_left
  · exact ⟨-2147483648, s, s, by simp only [mX8_told, c8 hN, sheetAt_out r0 h1, cl_some, nn, if_true], hN, by simp only [mX9_told, isSheet_n h1, cl_some, i00, if_true], hr⟩
  obtain ⟨r, hr3, rfl⟩ := btw_nI 3 h1 (by decide)
  obtain ⟨k1, k2, k3, k4, k5⟩ := kdSh r hr3
  rcases r1.fv r0 hr3 with ⟨z1, z2⟩ | ⟨z1, n, hv⟩
  · refine ⟨-2147483648, s, s, ?_, hN, ?_, hr⟩
    · simp only [mX8_told, c8 hN, sheetAt_in r0 hr3, cl_some, sn, if_false]
      rw [gdI_at k1 (by omega), z1, if_pos rfl]
    · simp only [mX9_told, isSheet_y h1, cl_some, i10, if_false]
      rw [mR hM 0 208 rfl (by decide) (by decide), alI_n (show r < ln 208 from hr3) (by decide) (by omega), z2, in_no, cl_some, if_neg (by decide)]
      have h0 : (0 : Int64).toInt = 0 := by decide
      have h2 : (Int32.toInt64 (-1 - 1)).toInt = -2 := by decide
      rw [h0, h2]
      omega
  have hn := hv.2.1
  have z2 := hv.2.2.2.2.1
  rcases sheetHas r0 hr3 hn hv.2.2.2.1 p2 with ⟨hp, eh⟩ | ⟨i, hi, rfl, eh⟩
  · refine ⟨-2147483648, s, s, ?_, hN, ?_, hr⟩
    · simp only [mX8_told, c8 hN, sheetAt_in r0 hr3, cl_some, sn, if_false]
      rw [gdI_at k1 (by omega), z1, if_neg (by decide), cv_at k1 (by omega), eh, cl_some, if_neg (by decide)]
    · simp only [mX9_told, isSheet_y h1, cl_some, i10, if_false]
      rw [mR hM 0 208 rfl (by decide) (by decide), alI_n (show r < ln 208 from hr3) (by decide) (by omega), z2, in_nn (noP_in hp) (by omega), cl_some, if_neg (by decide)]
  · have ok := okK (hv.fil_ok hi)
    refine ⟨FP.f2i (FP.fmul (fil (fun i => sI s 210 (20 * r + i)) (fun i => sF s 209 (20 * r + i)) n i) 1148846080), s, s, ?_, hN, ?_, hr⟩
    · simp only [mX8_told, c8 hN, sheetAt_in r0 hr3, cl_some, sn, if_false]
      rw [gdI_at k1 (by omega), z1, if_neg (by decide), cv_at k1 (by omega), eh, cl_some, if_pos (by decide), cv_at k1 (by omega), hv.cfil hi, cl_some, ckN_ok ok (by decide)]
    · simp only [mX9_told, isSheet_y h1, cl_some, i10, if_false]
      rw [mR hM 0 208 rfl (by decide) (by decide), alI_n (show r < ln 208 from hr3) (by decide) (by omega), z2, in_ny hi (by omega), cl_some, if_pos (by decide), c9 hN, hv.mfil hi, cl_some, ckN_ok ok (by decide)]
