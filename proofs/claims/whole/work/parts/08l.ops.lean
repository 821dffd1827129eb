/-! counts of loads, of who went up -/
def lcnt (s : Sg) : Nat → Int32
  | 0 => 0
  | l + 1 => lcnt s l + (if sI s 232 l = 0 then 0 else 1)
theorem jup_tail {s : Sg} {n : Nat} (h : ∀ l, n ≤ l → l < 12 → sI s 232 l = 0) : ∀ d, n + d ≤ 12 → jup s (n + d) = jup s n
  | 0, _ => rfl
  | d + 1, hd => by
    show jup s (n + d + 1) = _
    rw [jup, if_pos (h (n + d) (by omega) (by omega))]
    exact jup_tail h d (by omega)
theorem LV.count {s : Sg} (r4 : R4 s) {l m : Nat} (h : LV s l m) : mX5_jumperCount (99 + 7 * l) s = some (jin s l m, s) := by
  obtain ⟨hl, hm, z1, z2, z3, z9, ⟨hN, -⟩, z4⟩ := h
  obtain ⟨k1, k2, k3, k4, k5, -⟩ := kdLo l hl
  obtain ⟨-, n, -, -, r4⟩ := r4
  refine lp_run (F := mX5_jumperCount_b4 (99 + 7 * l)) (n := m) (q := fun k => (jin s l k, nI k)) (S := fun _ => s) (fun r => ?_) (fun k hk r => ?_) FU 0 (Nat.zero_le _) (show m - 0 < 4000 by omega)
  · unfold mX5_jumperCount_b4
    rw [gdI_at k1 (by omega), z2, if_pos (Int32.le_refl _)]
  · obtain ⟨g, t1, t2, t3, -⟩ := z4 k hk
    obtain ⟨kg1, -⟩ := kdGr g t1
    obtain ⟨-, -, -, -, y5, -⟩ := r4 g t1
    unfold mX5_jumperCount_b4
    rw [gdI_at k1 (by omega), z2]
    dsimp only
    rw [if_neg (nI_ge hk (by omega)), gdR_at k1 (by omega), z3, alR_n (by omega) k2 (by omega), t3, gdI_at kg1 (by omega), y5, nI_1]
    show r (jin s l k + sI s 220 g, nI (k + 1)) s = r (jin s l k + sI s 220 (sI s 229 (6 * l + k)).toNatClampNeg, nI (k + 1)) s
    rw [t2, nI_clamp (by omega)]
theorem mJumpersIn {s : Sg} (hM : M0 s) {l m : Nat} (hl : l < 12) (hm : m < 7) (z1 : sI s 228 l = nI m) (z4 : ∀ i, i < m → ∃ g, g < 20 ∧ sI s 229 (6 * l + i) = nI g) : mX9_jumpersIn 207 (nI l) s = some (jin s l m, s) := by
  have hN := hM.1
  refine lp_run (F := mX9_jumpersIn_b4 207 (nI l)) (n := m) (q := fun k => (jin s l k, nI k)) (S := fun _ => s) (fun r => ?_) (fun k hk r => ?_) FU 0 (Nat.zero_le _) (show m - 0 < 4000 by omega)
  · unfold mX9_jumpersIn_b4
    rw [mR hM 22 228 rfl (by decide) (by decide), alI_n (show l < ln 228 from hl) (by decide) (by omega), z1, if_pos (Int32.le_refl _)]
  · obtain ⟨g, t1, t2⟩ := z4 k hk
    unfold mX9_jumpersIn_b4
    rw [mR hM 22 228 rfl (by decide) (by decide), alI_n (show l < ln 228 from hl) (by decide) (by omega), z1]
    dsimp only
    rw [if_neg (nI_ge hk (by omega)), mR hM 13 220 rfl (by decide) (by decide), mR hM 23 229 rfl (by decide) (by decide), i6, alI_n (show _ < ln 229 from show _ < 72 by omega) (by decide) (by omega), t2, alI_n (show g < ln 220 from t1) (by decide) (by omega), nI_1]
    show r (jin s l k + sI s 220 g, nI (k + 1)) s = r (jin s l k + sI s 220 (sI s 229 (6 * l + k)).toNatClampNeg, nI (k + 1)) s
    rw [t2, nI_clamp (by omega)]
theorem op_many : Op1 mX8_many mX9_many := by
  intro s hr p1
  have hN := hr.1.1
  have hM := hr.1.m
  obtain ⟨r0, r1, r2, r3, r4, r5, r6, r7, r8⟩ := id hr
  obtain ⟨en, n, hn, en2, hL⟩ := id r7
  have q := r0
  obtain ⟨h0, q0, q1, q2, q3, q4, q5, q6, q7, q8, q9, q10, q11, q12, q13, b1, b2, b3, b4, b5, -⟩ := q
  have hml : ∀ i, i ≤ n → ∀ f, n - i < f → lp (mX9_many_b4 207 p1) f (lcnt s i, nI i) s = swc p1 0 [some (sI s 207 8, s), some (nI n, s), some (lcnt s n, s), some (sI s 207 31, s)] (some (-1, s)) := by
    intro i hi f hf
    refine lp_run (F := mX9_many_b4 207 p1) (n := n) (q := fun k => (lcnt s k, nI k)) (S := fun _ => s) (fun r => ?_) (fun k hk r => ?_) f i hi hf
    · unfold mX9_many_b4
      rw [mI hN, en2]
      dsimp only
      rw [if_pos (Int32.le_refl _), mI hN, mI hN, mI hN, en2]
    · unfold mX9_many_b4
      rw [mI hN, en2]
      dsimp only
      rw [if_neg (nI_ge hk (by omega)), mR hM 26 232 rfl (by decide) (by decide), alZ_n (show k < ln 232 from show k < 12 by omega) (by decide) (by omega), nI_1]
      by_cases hz : sI s 232 k = 0
      · rw [if_pos hz]
        show _ = r (lcnt s k + (if sI s 232 k = 0 then 0 else 1), nI (k + 1)) s
        rw [if_pos hz]
      · rw [if_neg hz]
        show _ = r (lcnt s k + (if sI s 232 k = 0 then 0 else 1), nI (k + 1)) s
        rw [if_neg hz]
  have hm : mX9_many 207 p1 s = swc p1 0 [some (sI s 207 8, s), some (nI n, s), some (lcnt s n, s), some (sI s 207 31, s)] (some (-1, s)) := hml 0 (Nat.zero_le _) FU (show n - 0 < 4000 by omega)
  have hcl : mX8_leftCount 0 s = some (lcnt s n, s) := by
    refine lp_run (F := mX8_leftCount_b4 0) (n := n) (q := fun k => (lcnt s k, nI k)) (S := fun _ => s) (fun r => ?_) (fun k hk r => ?_) FU 0 (Nat.zero_le _) (show n - 0 < 4000 by omega)
    · unfold mX8_leftCount_b4
      rw [dI h0, en, en2]
      dsimp only
      rw [if_pos (Int32.le_refl _)]
    · obtain ⟨k1, -⟩ := kdLo k (by omega)
      have a3 := (hL k (by omega)).2.2.1
      unfold mX8_leftCount_b4
      rw [dI h0, en, en2]
      dsimp only
      rw [if_neg (nI_ge hk (by omega)), dR h0, q5, alR_n (show k < ln 8 from show k < 12 by omega) (by decide) (by omega), (b5 k (by omega)).1, gdI_at k1 (by omega), a3, nI_1]
      show _ = r (lcnt s k + (if sI s 232 k = 0 then 0 else 1), nI (k + 1)) s
      by_cases hz : sI s 232 k = 0
      · rw [if_pos hz, if_pos hz, Int32.add_zero]
      · rw [if_neg hz, if_neg hz]
  have hcu : mX8_upCount 0 s = some (jup s n, s) := by
    refine lp_run (F := mX8_upCount_b4 0) (n := n) (q := fun k => (jup s k, nI k)) (S := fun _ => s) (fun r => ?_) (fun k hk r => ?_) FU 0 (Nat.zero_le _) (show n - 0 < 4000 by omega)
    · unfold mX8_upCount_b4
      rw [dI h0, en, en2]
      dsimp only
      rw [if_pos (Int32.le_refl _)]
    · obtain ⟨k1, -⟩ := kdLo k (by omega)
      have a3 := (hL k (by omega)).2.2.1
      obtain ⟨m, hv⟩ := (hL k (by omega)).lv r0 (by omega)
      have hc := hv.count r4
      unfold mX8_upCount_b4
      rw [dI h0, en, en2]
      dsimp only
      rw [if_neg (nI_ge hk (by omega)), dR h0, q5, alR_n (show k < ln 8 from show k < 12 by omega) (by decide) (by omega), (b5 k (by omega)).1, gdI_at k1 (by omega), a3, nI_1]
      show _ = r (if sI s 232 k = 0 then jup s k else jup s k + jin s k (sI s 228 k).toNatClampNeg, nI (k + 1)) s
      by_cases hz : sI s 232 k = 0
      · rw [if_pos hz, if_pos hz]
      · rw [if_neg hz, if_neg hz, dR h0, q5, alR_n (show k < ln 8 from show k < 12 by omega) (by decide) (by omega), (b5 k (by omega)).1, cv_at k1 (by omega), hc, cl_some, hv.2.2.1, nI_clamp (by have := hv.2.1; omega)]
  have hup : sI s 207 31 = jup s n := by
    unfold R8 at r8
    rw [r8]
    have := jup_tail (s := s) (n := n) (fun l h1 h2 => by
      rcases (hL l h2).z with z | ⟨-, z⟩
      · exact z
      · omega) (12 - n) (by omega)
    rw [show n + (12 - n) = 12 by omega] at this
    exact this
  have en9 := r4.1
  have hc : mX8_many 0 p1 s = swc p1 0 [some (sI s 207 8, s), some (nI n, s), some (lcnt s n, s), some (sI s 207 31, s)] (some (-1, s)) := by
    unfold mX8_many
    rw [dI h0, dI h0, c8 hN, c8 hN, hcl, hcu, cl_some, cl_some, en9, en, en2, hup]
  rcases plc 4 (by decide) p1 with hp | ⟨j, hj, rfl⟩
  · rw [swc_out (by exact hp)] at hc hm
    exact ⟨-1, s, s, hc, hN, hm, hr⟩
  · rw [swc_at (by omega)] at hc hm
    rcases (show j = 0 ∨ j = 1 ∨ j = 2 ∨ j = 3 by omega) with rfl | rfl | rfl | rfl
    · exact ⟨_, s, s, hc, hN, hm, hr⟩
    · exact ⟨_, s, s, hc, hN, hm, hr⟩
    · exact ⟨_, s, s, hc, hN, hm, hr⟩
    · exact ⟨_, s, s, hc, hN, hm, hr⟩
/-! a sheet begun anew -/
def zsh (s : Sg) (a b o : Nat) : Nat → Sg
  | 0 => s
  | k + 1 => uI (uF (zsh s a b o k) a (o + k) 0) b (o + k) 0
theorem zsh_I (s : Sg) (a b o c q : Nat) : ∀ k, sI (zsh s a b o k) c q = if c = b ∧ o ≤ q ∧ q < o + k then 0 else sI s c q
  | 0 => (if_neg (by omega)).symm
  | k + 1 => by
    show sI (uI (uF (zsh s a b o k) a (o + k) 0) b (o + k) 0) c q = _
    rw [sI_if, sI_uF, zsh_I s a b o c q k]
    by_cases h1 : c = b ∧ q = o + k
    · rw [if_pos h1, if_pos (by omega)]
    · rw [if_neg h1]
      by_cases h2 : c = b ∧ o ≤ q ∧ q < o + k
      · rw [if_pos h2, if_pos (by omega)]
      · rw [if_neg h2, if_neg (by omega)]
theorem zsh_F (s : Sg) (a b o c q : Nat) : ∀ k, sF (zsh s a b o k) c q = if c = a ∧ o ≤ q ∧ q < o + k then 0 else sF s c q
  | 0 => (if_neg (by omega)).symm
  | k + 1 => by
    show sF (uI (uF (zsh s a b o k) a (o + k) 0) b (o + k) 0) c q = _
    rw [sF_uI, sF_if, zsh_F s a b o c q k]
    by_cases h1 : c = a ∧ q = o + k
    · rw [if_pos h1, if_pos (by omega)]
    · rw [if_neg h1]
      by_cases h2 : c = a ∧ o ≤ q ∧ q < o + k
      · rw [if_pos h2, if_pos (by omega)]
      · rw [if_neg h2, if_neg (by omega)]
theorem zsh_N (s : Sg) (a b o : Nat) : ∀ k, sN (zsh s a b o k) = sN s
  | 0 => rfl
  | k + 1 => zsh_N s a b o k
theorem zsh_R (s : Sg) (a b o : Nat) : ∀ k, sR (zsh s a b o k) = sR s
  | 0 => rfl
  | k + 1 => zsh_R s a b o k
theorem zsh_M {s : Sg} (h : M0 s) (a b o : Nat) : ∀ k, M0 (zsh s a b o k)
  | 0 => h
  | k + 1 => (zsh_M h a b o k).uF.uI
theorem i20 (r i : Nat) : (20 * nI r) + nI i = nI (20 * r + i) := by
  rw [show (20 : Int32) = nI 20 from rfl, pk_mul, nI_add]
theorem op_sheet : Op2 mX8_sheet mX9_sheet := by
  intro s hr p1 p2
  have hN := hr.1.1
  have hM := hr.1.m
  obtain ⟨r0, r1, r2, r3, r4, r5, r6, r7, r8⟩ := id hr
  by_cases h1 : btw p1 0 2
  rotate_left
  · exact ⟨-1, s, s, by simp only [mX8_sheet, c8 hN, sheetAt_out r0 h1, cl_some, nn, if_true], hN, by simp only [mX9_sheet, isSheet_n h1, cl_some, i00, if_false, not_true], hr⟩
  obtain ⟨r, hr3, rfl⟩ := btw_nI 3 h1 (by decide)
  obtain ⟨k1, k2, k3, k4, k5⟩ := kdSh r hr3
  by_cases h2 : 0 ≤ p2
  rotate_left
  · refine ⟨-4, s, s, ?_, hN, ?_, hr⟩
    · simp only [mX8_sheet, c8 hN, sheetAt_in r0 hr3, cl_some, sn, if_false]
      rw [if_neg h2]
    · simp only [mX9_sheet, isSheet_y h1, cl_some, i10, if_true, not_false_iff]
      rw [if_neg h2]
  by_cases h3 : p2 ≤ 20
  rotate_left
  · refine ⟨-1, s, s, ?_, hN, ?_, hr⟩
    · simp only [mX8_sheet, c8 hN, sheetAt_in r0 hr3, cl_some, sn, if_false]
      rw [if_pos h2, if_neg h3]
    · simp only [mX9_sheet, isSheet_y h1, cl_some, i10, if_true, not_false_iff]
      rw [if_pos h2, if_neg h3]
  obtain ⟨n, hn20, rfl⟩ : ∃ n, n ≤ 20 ∧ p2 = nI n := nI_of2 (M := 20) (n := 20) rfl (fun z => by
    rw [Int32.lt_iff_toInt_lt] at z
    rw [Int32.le_iff_toInt_le] at h2
    omega) h3
  have q := r0
  obtain ⟨h0, q0, q1, q2, q3, q4, q5, q6, q7, q8, q9, q10, q11, q12, q13, b1, b2, b3, b4, b5, -⟩ := q
  obtain ⟨-, x1, x2⟩ := b1 r hr3
  have e1 : mX8_sheet 0 (nI r) (nI n) s = some (1, uI (uI (zsh s (16 + 3 * r) (17 + 3 * r) 0 20) (15 + 3 * r) 2 (nI n)) (15 + 3 * r) 3 1) := by
    simp only [mX8_sheet, c8 hN, sheetAt_in r0 hr3, cl_some, sn, if_false]
    rw [if_pos h2, if_pos h3, cv_at k1 (by omega)]
    have hb : mX7_begin (15 + 3 * r) (nI n) s = some ((), uI (uI (zsh s (16 + 3 * r) (17 + 3 * r) 0 20) (15 + 3 * r) 2 (nI n)) (15 + 3 * r) 3 1) := by
      refine lp_run (F := mX7_begin_b2 (15 + 3 * r) (nI n)) (n := 20) (q := nI) (S := zsh s (16 + 3 * r) (17 + 3 * r) 0) (fun w => ?_) (fun k hk w => ?_) FU 0 (Nat.zero_le _) (by decide)
      · unfold mX7_begin_b2
        rw [gdR_at k1 (by rw [zsh_N]; omega), zsh_R, x1, aln_at (Or.inl k2) (by rw [zsh_N]; omega), k4, if_pos (Int32.le_refl _), ptI_at k1 (by rw [zsh_N]; omega), ptZ_at (Or.inr rfl) k1 (by rw [sN_uI, zsh_N]; omega)]
      · unfold mX7_begin_b2
        rw [gdR_at k1 (by rw [zsh_N]; omega), zsh_R, x1, aln_at (Or.inl k2) (by rw [zsh_N]; omega), k4, if_neg (nI_ge hk (by decide)), gdR_at k1 (by rw [zsh_N]; omega), zsh_R, x1, asF_n (by omega) k2 (by rw [zsh_N]; omega), gdR_at k1 (by rw [sN_uF, zsh_N]; omega), sR_uF, zsh_R, x2, asZ_n (Or.inl rfl) (by omega) k3 (by rw [sN_uF, zsh_N]; omega), nI_1]
        show w _ (uI (uF (zsh s (16 + 3 * r) (17 + 3 * r) 0 k) (16 + 3 * r) k 0) (17 + 3 * r) k 0) = w _ (uI (uF (zsh s (16 + 3 * r) (17 + 3 * r) 0 k) (16 + 3 * r) (0 + k) 0) (17 + 3 * r) (0 + k) 0)
        rw [Nat.zero_add]
    rw [hb, cl_some]
  have e2 : ∀ s1, M0 s1 → mX9_sheet 207 (nI r) (nI n) s1 = some (1, zsh (uI s1 208 r (nI n)) 209 210 (20 * r) n) := by
    intro s1 m1
    have m1N := m1.1
    simp only [mX9_sheet, isSheet_y h1, cl_some, i10, if_true, not_false_iff]
    rw [if_pos h2, if_pos h3, mR m1 0 208 rfl (by decide) (by decide), asI_n (show r < ln 208 from hr3) (by decide) (by omega)]
    have hMk := zsh_M (s := uI s1 208 r (nI n)) m1.uI 209 210 (20 * r)
    have hNk : ∀ k, sN (zsh (uI s1 208 r (nI n)) 209 210 (20 * r) k) = 249 := fun k => (hMk k).1
    refine lp_run (F := mX9_sheet_b33 (nI n) 207 (nI r)) (n := n) (q := nI) (S := zsh (uI s1 208 r (nI n)) 209 210 (20 * r)) (fun w => ?_) (fun k hk w => ?_) FU 0 (Nat.zero_le _) (show n - 0 < 4000 by omega)
    · unfold mX9_sheet_b33
      rw [if_pos (Int32.le_refl _)]
    · unfold mX9_sheet_b33
      rw [if_neg (nI_ge hk (by omega)), mR (hMk _) 1 209 rfl (by decide) (by decide), i20, asF_n (show _ < ln 209 from show _ < 60 by omega) (by decide) (by rw [hNk]; omega), mR (hMk _).uF 2 210 rfl (by decide) (by decide), asZ_n (Or.inl rfl) (show _ < ln 210 from show _ < 60 by omega) (by decide) (by rw [sN_uF, hNk]; omega), nI_1]
      rfl
  refine ⟨1, _, _, e1, by rw [sN_uI, sN_uI, zsh_N]; exact hN, e2 _ (zsh_M hM _ _ _ _).uI.uI, ?_⟩
  generalize hSd : zsh (uI (uI (uI (zsh s (16 + 3 * r) (17 + 3 * r) 0 20) (15 + 3 * r) 2 (nI n)) (15 + 3 * r) 3 1) 208 r (nI n)) 209 210 (20 * r) n = S
  have hI : ∀ c q, sI S c q = if c = 210 ∧ 20 * r ≤ q ∧ q < 20 * r + n then 0 else if c = 208 ∧ q = r then nI n else if c = 15 + 3 * r ∧ q = 3 then 1 else if c = 15 + 3 * r ∧ q = 2 then nI n else if c = 17 + 3 * r ∧ 0 ≤ q ∧ q < 0 + 20 then 0 else sI s c q := fun c q => by
    rw [← hSd, zsh_I, sI_if, sI_if, sI_if, zsh_I]
  have hF : ∀ c q, sF S c q = if c = 209 ∧ 20 * r ≤ q ∧ q < 20 * r + n then 0 else if c = 16 + 3 * r ∧ 0 ≤ q ∧ q < 0 + 20 then 0 else sF s c q := fun c q => by
    rw [← hSd, zsh_F, sF_uI, sF_uI, sF_uI, zsh_F]
  have hR : sR S = sR s := by rw [← hSd, zsh_R, sR_uI, sR_uI, sR_uI, zsh_R]
  have hSN : sN S = sN s := by rw [← hSd, zsh_N, sN_uI, sN_uI, sN_uI, zsh_N]
  have hEI : ∀ a, a ≠ 15 + 3 * r → a ≠ 17 + 3 * r → a ≠ 208 → a ≠ 210 → sI S a = sI s a := fun a z1 z2 z3 z4 => funext fun q => by
    rw [hI, if_neg (by omega), if_neg (by omega), if_neg (by omega), if_neg (by omega), if_neg (by omega)]
  have hEF : ∀ a, a ≠ 16 + 3 * r → a ≠ 209 → sF S a = sF s a := fun a z1 z2 => funext fun q => by
    rw [hF, if_neg (by omega), if_neg (by omega)]
  have hE : ∀ a, a ≠ 15 + 3 * r → a ≠ 16 + 3 * r → a ≠ 17 + 3 * r → a ≠ 208 → a ≠ 209 → a ≠ 210 → Eqc s S a := fun a z1 z2 z3 z4 z5 z6 => ⟨hEI a z1 z3 z4 z6, by rw [hR], hEF a z2 z5⟩
  have h00 : sI S 0 = sI s 0 := hEI 0 (by omega) (by omega) (by omega) (by omega)
  have h7 : sI S 207 = sI s 207 := hEI 207 (by omega) (by omega) (by omega) (by omega)
  refine ⟨r0.congr hSN (fun a k _ _ _ => by rw [hR]) (fun a z1 z2 => by rw [hEI a (by omega) (by omega) (by omega) (by omega)]), fun r' hr' => ?_, r2.congr (fun a h => hE a (by omega) (by omega) (by omega) (by omega) (by omega) (by omega)), r3.congr (fun a h => hE a (by omega) (by omega) (by omega) (by omega) (by omega) (by omega)), r4.congr (fun a h => hE a (by omega) (by omega) (by omega) (by omega) (by omega) (by omega)) (by rw [h00]) (by rw [h7]), r5.congr (fun a h => hE a (by omega) (by omega) (by omega) (by omega) (by omega) (by omega)), r6.congr (fun a h => hE a (by omega) (by omega) (by omega) (by omega) (by omega) (by omega)), r7.congr (fun a h => hE a (by omega) (by omega) (by omega) (by omega) (by omega) (by omega)) (by rw [h00]) (by rw [h7]) (by rw [h7]), r8.congr (fun a h => hE a (by omega) (by omega) (by omega) (by omega) (by omega) (by omega)) (by rw [h7])⟩
  by_cases hrr : r' = r
  · subst hrr
    have w1 : sI S 208 r' = nI n := by rw [hI, if_neg (by omega), if_pos ⟨rfl, rfl⟩]
    refine Or.inr ⟨by rw [hI, if_neg (by omega), if_neg (by omega), if_pos ⟨rfl, rfl⟩], by rw [w1, hI, if_neg (by omega), if_neg (by omega), if_neg (by omega), if_pos ⟨rfl, rfl⟩], n, by omega, w1, fun i hi => ?_⟩
    have v1 : sF S (16 + 3 * r') i = 0 := by rw [hF, if_neg (by omega), if_pos (by omega)]
    have v2 : sF S 209 (20 * r' + i) = 0 := by rw [hF, if_pos (by omega)]
    have v3 : sI S (17 + 3 * r') i = 0 := by rw [hI, if_neg (by omega), if_neg (by omega), if_neg (by omega), if_neg (by omega), if_pos (by omega)]
    have v4 : sI S 210 (20 * r' + i) = 0 := by rw [hI, if_pos (by omega)]
    rw [v1, v2, v3, v4]
    exact ⟨rfl, rfl, Or.inl rfl, by decide⟩
  · exact r1.one hr' (hEI _ (by omega) (by omega) (by omega) (by omega)) (hEF _ (by omega) (by omega)) (hEI _ (by omega) (by omega) (by omega) (by omega)) (by rw [hI, if_neg (by omega), if_neg (by omega), if_neg (by omega), if_neg (by omega), if_neg (by omega)]) (fun i hi => by rw [hF, if_neg (by omega), if_neg (by omega)]) (fun i hi => by rw [hI, if_neg (by omega), if_neg (by omega), if_neg (by omega), if_neg (by omega), if_neg (by omega)])
