/-! what the way out of a load does to its rows -/
def shf (s : Sg) (l i : Nat) : Nat → Sg
  | 0 => s
  | k + 1 => uI (uR (shf s l i k) (100 + 7 * l) (i + k) (sR s (100 + 7 * l) (i + k + 1))) (101 + 7 * l) (i + k) (sI s (101 + 7 * l) (i + k + 1))
def msh (s : Sg) (l i : Nat) : Nat → Sg
  | 0 => s
  | k + 1 => uI (uI (msh s l i k) 229 (6 * l + (i + k)) (sI s 229 (6 * l + (i + k) + 1))) 230 (6 * l + (i + k)) (sI s 230 (6 * l + (i + k) + 1))
theorem shf_I (s : Sg) (l i : Nat) (a q : Nat) : ∀ k, sI (shf s l i k) a q = if a = 101 + 7 * l ∧ i ≤ q ∧ q < i + k then sI s a (q + 1) else sI s a q
  | 0 => (if_neg (by omega)).symm
  | k + 1 => by
    have ih := shf_I s l i a q k
    show sI (uI (uR (shf s l i k) (100 + 7 * l) (i + k) (sR s (100 + 7 * l) (i + k + 1))) (101 + 7 * l) (i + k) (sI s (101 + 7 * l) (i + k + 1))) a q = _
    rw [sI_if, sI_uR, ih]
    by_cases h1 : a = 101 + 7 * l ∧ q = i + k
    · rw [if_pos h1, if_pos (by omega), h1.1, h1.2]
    · rw [if_neg h1]
      by_cases h2 : a = 101 + 7 * l ∧ i ≤ q ∧ q < i + k
      · rw [if_pos h2, if_pos (by omega)]
      · rw [if_neg h2, if_neg (by omega)]
theorem shf_R (s : Sg) (l i : Nat) (a q : Nat) : ∀ k, sR (shf s l i k) a q = if a = 100 + 7 * l ∧ i ≤ q ∧ q < i + k then sR s a (q + 1) else sR s a q
  | 0 => (if_neg (by omega)).symm
  | k + 1 => by
    have ih := shf_R s l i a q k
    show sR (uI (uR (shf s l i k) (100 + 7 * l) (i + k) (sR s (100 + 7 * l) (i + k + 1))) (101 + 7 * l) (i + k) (sI s (101 + 7 * l) (i + k + 1))) a q = _
    rw [sR_uI, sR_if, ih]
    by_cases h1 : a = 100 + 7 * l ∧ q = i + k
    · rw [if_pos h1, if_pos (by omega), h1.1, h1.2]
    · rw [if_neg h1]
      by_cases h2 : a = 100 + 7 * l ∧ i ≤ q ∧ q < i + k
      · rw [if_pos h2, if_pos (by omega)]
      · rw [if_neg h2, if_neg (by omega)]
theorem msh_I (s : Sg) (l i : Nat) (a q : Nat) : ∀ k, sI (msh s l i k) a q = if (a = 229 ∨ a = 230) ∧ 6 * l + i ≤ q ∧ q < 6 * l + i + k then sI s a (q + 1) else sI s a q
  | 0 => (if_neg (by omega)).symm
  | k + 1 => by
    have ih := msh_I s l i a q k
    show sI (uI (uI (msh s l i k) 229 (6 * l + (i + k)) (sI s 229 (6 * l + (i + k) + 1))) 230 (6 * l + (i + k)) (sI s 230 (6 * l + (i + k) + 1))) a q = _
    rw [sI_if, sI_if, ih]
    by_cases h1 : a = 230 ∧ q = 6 * l + (i + k)
    · rw [if_pos h1, if_pos (by omega), h1.1, h1.2]
    · rw [if_neg h1]
      by_cases h3 : a = 229 ∧ q = 6 * l + (i + k)
      · rw [if_pos h3, if_pos (by omega), h3.1, h3.2]
      · rw [if_neg h3]
        by_cases h2 : (a = 229 ∨ a = 230) ∧ 6 * l + i ≤ q ∧ q < 6 * l + i + k
        · rw [if_pos h2, if_pos (by omega)]
        · rw [if_neg h2, if_neg (by omega)]
theorem shf_In {s : Sg} {l i a q k : Nat} (h : ¬ (a = 101 + 7 * l ∧ i ≤ q ∧ q < i + k)) : sI (shf s l i k) a q = sI s a q := by rw [shf_I, if_neg h]
theorem shf_Rn {s : Sg} {l i a q k : Nat} (h : ¬ (a = 100 + 7 * l ∧ i ≤ q ∧ q < i + k)) : sR (shf s l i k) a q = sR s a q := by rw [shf_R, if_neg h]
theorem msh_In {s : Sg} {l i a q k : Nat} (h : ¬ ((a = 229 ∨ a = 230) ∧ 6 * l + i ≤ q ∧ q < 6 * l + i + k)) : sI (msh s l i k) a q = sI s a q := by rw [msh_I, if_neg h]
theorem shf_N (s : Sg) (l i : Nat) : ∀ k, sN (shf s l i k) = sN s
  | 0 => rfl
  | k + 1 => shf_N s l i k
theorem shf_F (s : Sg) (l i : Nat) : ∀ k, sF (shf s l i k) = sF s
  | 0 => rfl
  | k + 1 => shf_F s l i k
theorem msh_N (s : Sg) (l i : Nat) : ∀ k, sN (msh s l i k) = sN s
  | 0 => rfl
  | k + 1 => msh_N s l i k
theorem msh_F (s : Sg) (l i : Nat) : ∀ k, sF (msh s l i k) = sF s
  | 0 => rfl
  | k + 1 => msh_F s l i k
theorem msh_R (s : Sg) (l i : Nat) : ∀ k, sR (msh s l i k) = sR s
  | 0 => rfl
  | k + 1 => msh_R s l i k
theorem shf_M {s : Sg} (h : M0 s) (l i : Nat) (hl : l < 12) : ∀ k, M0 (shf s l i k)
  | 0 => h
  | k + 1 => ((shf_M h l i hl k).uR (by omega)).uI
theorem msh_M {s : Sg} (h : M0 s) (l i : Nat) : ∀ k, M0 (msh s l i k)
  | 0 => h
  | k + 1 => (msh_M h l i k).uI.uI
theorem LV.remove {s : Sg} {l m i : Nat} (h : LV s l m) (hi : i < m) : mX5_remove (99 + 7 * l) (nI i) s = some ((), uI (shf s l i (m - 1 - i)) (99 + 7 * l) 6 (nI (m - 1))) := by
  have hhas := h.has_in hi
  obtain ⟨hl, hm, z1, z2, z3, z9, ⟨hN, -⟩, z4⟩ := h
  obtain ⟨k1, k2, k3, k4, k5, -⟩ := kdLo l hl
  unfold mX5_remove
  rw [cv_at k1 (by omega), hhas, cl_some, if_pos (by decide), nI_1]
  refine lp_run (F := mX5_remove_b13 (99 + 7 * l)) (n := m - 1 - i) (q := fun k => nI (i + k + 1)) (S := shf s l i) (fun r => ?_) (fun k hk r => ?_) FU 0 (Nat.zero_le _) (show m - 1 - i - 0 < 4000 by omega)
  · unfold mX5_remove_b13
    rw [gdI_at k1 (by rw [shf_N]; omega), shf_In (by omega), z2, if_pos (nI_le (by omega) (by omega)), gdI_at k1 (by rw [shf_N]; omega), shf_In (by omega), z2, ptI_at k1 (by rw [shf_N]; omega)]
    have e : m = (m - 1) + 1 := by omega
    rw [show nI m - 1 = nI (m - 1) by rw [e, nI_pred]; rfl]
  · obtain ⟨g, t1, t2, t3, -⟩ := z4 (i + k + 1) (by omega)
    obtain ⟨kg1, -⟩ := kdGr g t1
    unfold mX5_remove_b13
    rw [gdI_at k1 (by rw [shf_N]; omega), shf_In (by omega), z2, if_neg (nI_ge (by omega) (by omega)), gdR_at k1 (by rw [shf_N]; omega), shf_Rn (by omega), z3, gdR_at k1 (by rw [shf_N]; omega), shf_Rn (by omega), z3, alR_n (by omega) k2 (by rw [shf_N]; omega), shf_Rn (by omega), nI_pred, asR_n (by rw [t3]; exact isAb_s kg1 (by rw [shf_N]; omega)) (by omega) k2 (by rw [shf_N]; omega), gdR_at k1 (by rw [sN_uR, shf_N]; omega), sR_if, if_neg (by omega), shf_Rn (by omega), z9, gdR_at k1 (by rw [sN_uR, shf_N]; omega), sR_if, if_neg (by omega), shf_Rn (by omega), z9, alI_n (by omega) k4 (by rw [sN_uR, shf_N]; omega), sI_uR, shf_In (by omega), asI_n (by omega) k4 (by rw [sN_uR, shf_N]; omega), nI_1]
    rfl
theorem mout {s : Sg} (hM : M0 s) {l m i : Nat} (hl : l < 12) (hm : m < 6) (hi : i ≤ m) (z1 : sI s 228 l = nI m) : lp (mX9_out_b35 207 (nI l)) FU (nI i) s = some (nI m, msh s l i (m - i)) := by
  have hMk := msh_M hM l i
  have hNk : ∀ k, sN (msh s l i k) = 249 := fun k => (hMk k).1
  refine lp_run (F := mX9_out_b35 207 (nI l)) (n := m - i) (q := fun k => nI (i + k)) (S := msh s l i) (fun r => ?_) (fun k hk r => ?_) FU 0 (Nat.zero_le _) (show m - i - 0 < 4000 by omega)
  · unfold mX9_out_b35
    rw [mR (hMk _) 22 228 rfl (by decide) (by decide), alI_n (show l < ln 228 from hl) (by decide) (by rw [hNk]; omega), msh_In (by omega), z1, if_pos (nI_le (by omega) (by omega)), mR (hMk _) 22 228 rfl (by decide) (by decide), alI_n (show l < ln 228 from hl) (by decide) (by rw [hNk]; omega), msh_In (by omega), z1]
  · unfold mX9_out_b35
    rw [mR (hMk _) 22 228 rfl (by decide) (by decide), alI_n (show l < ln 228 from hl) (by decide) (by rw [hNk]; omega), msh_In (by omega), z1, if_neg (nI_ge (by omega) (by omega)), mR (hMk _) 23 229 rfl (by decide) (by decide), mR (hMk _) 23 229 rfl (by decide) (by decide), i6, nI_1, alI_n (show _ < ln 229 from show _ < 72 by omega) (by decide) (by rw [hNk]; omega), msh_In (by omega), asI_n (show _ < ln 229 from show _ < 72 by omega) (by decide) (by rw [hNk]; omega), mR (hMk _).uI 24 230 rfl (by decide) (by decide), mR (hMk _).uI 24 230 rfl (by decide) (by decide), alI_n (show _ < ln 230 from show _ < 72 by omega) (by decide) (by rw [sN_uI, hNk]; omega), sI_ne (by omega), msh_In (by omega), asI_n (show _ < ln 230 from show _ < 72 by omega) (by decide) (by rw [sN_uI, hNk]; omega), nI_1]
    rfl
theorem op_out : Op2 mX8_out mX9_out := by
  intro s hr p1 p2
  have hN := hr.1.1
  have hM := hr.1.m
  obtain ⟨r0, r1, r2, r3, r4, r5, r6, r7, r8⟩ := id hr
  obtain ⟨en, n, hn, en2, hL⟩ := id r7
  rcases plc n (by omega) p1 with hp | ⟨l, hln, rfl⟩
  · exact ⟨-1, s, s, by simp only [mX8_out, c8 hN, loadAt_out r0 (en.trans en2) hp, cl_some, nn, if_true], hN, by simp only [mX9_out, c9 hN, isIn_l hM hn en2 hp, cl_some, i00, if_false, not_true], hr⟩
  have hl12 : l < 12 := by omega
  obtain ⟨k1, k2, k3, k4, k5, -⟩ := kdLo l hl12
  obtain ⟨m, hv⟩ := (hL l hl12).lv r0 hl12
  obtain ⟨-, hm, z1, z2, z3, z9, -, z4⟩ := id hv
  rcases plc m (by omega) p2 with hp | ⟨i, him, rfl⟩
  · refine ⟨-1, s, s, ?_, hN, ?_, hr⟩
    · simp only [mX8_out, c8 hN, loadAt_in r0 hn (en.trans en2) hln, cl_some, sn, if_false]
      rw [cv_at k1 (by omega), hv.has_out hp, cl_some, if_neg (by decide)]
    · simp only [mX9_out, c9 hN, isIn_n hM hn en2 hln hm z1 hp, cl_some, i00, if_false, not_true]
  have a3 := (hL l hl12).2.2.1
  rcases (hL l hl12).z with z | ⟨z, -⟩
  rotate_left
  · refine ⟨-6, s, s, ?_, hN, ?_, hr⟩
    · simp only [mX8_out, c8 hN, loadAt_in r0 hn (en.trans en2) hln, cl_some, sn, if_false]
      rw [cv_at k1 (by omega), hv.has_in him, cl_some, if_pos (by decide), gdI_at k1 (by omega), a3, z, if_neg (by decide)]
    · simp only [mX9_out, c9 hN, isIn_y hM hn en2 hln hm z1 him, cl_some, i10, if_true, not_false_iff]
      rw [mR hM 26 232 rfl (by decide) (by decide), alZ_n (show l < ln 232 from hl12) (by decide) (by omega), z, if_neg (by decide)]
  have hpr : nI m - 1 = nI (m - 1) := by
    have e : m = (m - 1) + 1 := by omega
    rw [e, nI_pred]; rfl
  have e1 : mX8_out 0 (nI l) (nI i) s = some (nI (m - 1), uI (shf s l i (m - 1 - i)) (99 + 7 * l) 6 (nI (m - 1))) := by
    simp only [mX8_out, c8 hN, loadAt_in r0 hn (en.trans en2) hln, cl_some, sn, if_false]
    rw [cv_at k1 (by omega), hv.has_in him, cl_some, if_pos (by decide), gdI_at k1 (by omega), a3, z, if_pos rfl, cv_at k1 (by omega), hv.remove him, cl_some, gdI_at k1 (by rw [sN_uI, shf_N]; omega), sI_s]
  have e2 : ∀ s1, M0 s1 → (∀ a, 207 ≤ a → sI s1 a = sI s a) → mX9_out 207 (nI l) (nI i) s1 = some (nI (m - 1), msh (uI s1 228 l (nI (m - 1))) l i (m - 1 - i)) := by
    intro s1 m1 hq
    have m1N := m1.1
    have f1 : sI s1 228 l = nI m := by rw [hq 228 (by omega)]; exact z1
    simp only [mX9_out, c9 m1N, isIn_y m1 hn (by rw [hq 207 (by omega)]; exact en2) hln hm f1 him, cl_some, i10, if_true, not_false_iff]
    rw [mR m1 26 232 rfl (by decide) (by decide), alZ_n (show l < ln 232 from hl12) (by decide) (by omega), hq 232 (by omega), z, if_pos rfl, mR m1 22 228 rfl (by decide) (by decide), alI_n (show l < ln 228 from hl12) (by decide) (by omega), f1, asI_n (show l < ln 228 from hl12) (by decide) (by omega), hpr]
    exact mout m1.uI hl12 (by omega) (by omega) sI_s
  refine ⟨nI (m - 1), _, _, e1, by rw [sN_uI, shf_N]; exact hN, e2 _ (shf_M hM l i hl12 _).uI (fun a ha => funext fun q => by rw [sI_ne (by omega), shf_In (by omega)]), ?_⟩
  generalize hSd : msh (uI (uI (shf s l i (m - 1 - i)) (99 + 7 * l) 6 (nI (m - 1))) 228 l (nI (m - 1))) l i (m - 1 - i) = S
  have hEI : ∀ a, a ≠ 101 + 7 * l → a ≠ 99 + 7 * l → a ≠ 228 → a ≠ 229 → a ≠ 230 → sI S a = sI s a := fun a z1 z2 z3 z4 z5 => funext fun q => by rw [← hSd, msh_In (by omega), sI_ne z3, sI_ne z2, shf_In (by omega)]
  have hER : ∀ a q, sR S a q = if a = 100 + 7 * l ∧ i ≤ q ∧ q < m - 1 then sR s a (q + 1) else sR s a q := fun a q => by
    rw [← hSd, msh_R, sR_uI, sR_uI, shf_R]
    by_cases h : a = 100 + 7 * l ∧ i ≤ q ∧ q < m - 1
    · rw [if_pos h, if_pos (by omega)]
    · rw [if_neg h, if_neg (by omega)]
  have hER0 : ∀ a, a ≠ 100 + 7 * l → sR S a = sR s a := fun a h => funext fun q => by rw [hER, if_neg (by omega)]
  have hE : ∀ a, a ≠ 101 + 7 * l → a ≠ 99 + 7 * l → a ≠ 100 + 7 * l → a ≠ 228 → a ≠ 229 → a ≠ 230 → Eqc s S a := fun a z1 z2 z3 z4 z5 z6 => ⟨hEI a z1 z2 z4 z5 z6, hER0 a z3, by rw [← hSd, msh_F]; exact congrFun (shf_F s l i _) a⟩
  have hSN : sN S = sN s := by rw [← hSd, msh_N]; exact shf_N s l i _
  have h0 : sI S 0 = sI s 0 := hEI 0 (by omega) (by omega) (by omega) (by omega) (by omega)
  have h7 : sI S 207 = sI s 207 := hEI 207 (by omega) (by omega) (by omega) (by omega) (by omega)
  have t1 : ∀ q, sI S (101 + 7 * l) q = if i ≤ q ∧ q < m - 1 then sI s (101 + 7 * l) (q + 1) else sI s (101 + 7 * l) q := fun q => by
    rw [← hSd, msh_In (by omega), sI_ne (by omega), sI_ne (by omega), shf_I]
    by_cases h : i ≤ q ∧ q < m - 1
    · rw [if_pos h, if_pos (by omega)]
    · rw [if_neg h, if_neg (by omega)]
  have t3 : ∀ a, a = 229 ∨ a = 230 → ∀ q, sI S a q = if 6 * l + i ≤ q ∧ q < 6 * l + (m - 1) then sI s a (q + 1) else sI s a q := fun a ha q => by
    rw [← hSd, msh_I]
    by_cases h : 6 * l + i ≤ q ∧ q < 6 * l + (m - 1)
    · rw [if_pos h, if_pos (by omega), sI_ne (by omega), sI_ne (by omega), shf_In (by omega)]
    · rw [if_neg h, if_neg (by omega), sI_ne (by omega), sI_ne (by omega), shf_In (by omega)]
  have t7 : sI S 228 l = nI (m - 1) := by rw [← hSd, msh_In (by omega), sI_s]
  have t8 : ∀ q, q ≠ l → sI S 228 q = sI s 228 q := fun q z => by rw [← hSd, msh_In (by omega), sI_nk z, sI_ne (by omega), shf_In (by omega)]
  have t9 : sI S (99 + 7 * l) 6 = nI (m - 1) := by rw [← hSd, msh_In (by omega), sI_ne (by omega), sI_s]
  have t10 : ∀ q, q ≠ 6 → sI S (99 + 7 * l) q = sI s (99 + 7 * l) q := fun q z => by rw [← hSd, msh_In (by omega), sI_ne (by omega), sI_nk z, shf_In (by omega)]
  have w232 : sI S 232 = sI s 232 := hEI 232 (by omega) (by omega) (by omega) (by omega) (by omega)
  refine ⟨r0.congr hSN (fun a k z1 z2 z3 => by rw [hER0 a (by omega)]) (fun a z1 z2 => by rw [hEI a (by omega) (by omega) (by omega) (by omega) (by omega)]), r1.congr (fun a h => hE a (by omega) (by omega) (by omega) (by omega) (by omega) (by omega)), r2.congr (fun a h => hE a (by omega) (by omega) (by omega) (by omega) (by omega) (by omega)), r3.congr (fun a h => hE a (by omega) (by omega) (by omega) (by omega) (by omega) (by omega)), r4.congr (fun a h => hE a (by omega) (by omega) (by omega) (by omega) (by omega) (by omega)) (by rw [h0]) (by rw [h7]), r5.congr (fun a h => hE a (by omega) (by omega) (by omega) (by omega) (by omega) (by omega)), r6.congr (fun a h => hE a (by omega) (by omega) (by omega) (by omega) (by omega) (by omega)), ⟨by rw [h0, h7]; exact en, n, hn, by rw [h7]; exact en2, fun l' hl' => ?_⟩, ?_⟩
  · by_cases hll : l' = l
    · subst hll
      obtain ⟨a1, a2, a3, a4, a5, m', hm', hm2', hm3', hi'⟩ := hL l' hl'
      have hmm : m' = m := (nI_eq (by omega) (by omega)).mp (hm2'.symm.trans z1)
      subst hmm
      have u : ∀ a, a = 231 ∨ a = 232 ∨ a = 227 ∨ a = 235 ∨ a = 236 ∨ a = 102 + 7 * l' ∨ a = 104 + 7 * l' ∨ a = 105 + 7 * l' ∨ a = 233 ∨ a = 234 → sI S a = sI s a := fun a h => hEI a (by omega) (by omega) (by omega) (by omega) (by omega)
      unfold RL1
      rw [u 231 (by omega), u 232 (by omega), u 227 (by omega), u 235 (by omega), u 236 (by omega), u (102 + 7 * l') (by omega), u (104 + 7 * l') (by omega), u (105 + 7 * l') (by omega), u 233 (by omega), u 234 (by omega), h7, t9, t7, t10 _ (by decide), t10 _ (by decide), hER0 (99 + 7 * l') (by omega)]
      refine ⟨rfl, a2, a3, a4, a5, m' - 1, by omega, rfl, fun h => absurd h (by omega), fun k hk => ?_⟩
      have hf : ∀ j, j < m' - 1 → ∃ j', j' < m' ∧ (j < i → j' = j) ∧ (i ≤ j → j' = j + 1) ∧ sI S 229 (6 * l' + j) = sI s 229 (6 * l' + j') ∧ sI S 230 (6 * l' + j) = sI s 230 (6 * l' + j') ∧ sI S (101 + 7 * l') j = sI s (101 + 7 * l') j' ∧ sR S (100 + 7 * l') j = sR s (100 + 7 * l') j' := by
        intro j hj
        by_cases hji : j < i
        · exact ⟨j, by omega, fun _ => rfl, fun h => absurd h (by omega), by rw [t3 229 (by omega), if_neg (by omega)], by rw [t3 230 (by omega), if_neg (by omega)], by rw [t1, if_neg (by omega)], by rw [hER, if_neg (by omega)]⟩
        · exact ⟨j + 1, by omega, fun h => absurd h hji, fun _ => rfl, by rw [t3 229 (by omega), if_pos (by omega)]; rfl, by rw [t3 230 (by omega), if_pos (by omega)]; rfl, by rw [t1, if_pos (by omega)], by rw [hER, if_pos (by omega)]⟩
      obtain ⟨k', x1, x2, x3, x4, x5, x6, x7⟩ := hf k hk
      obtain ⟨⟨d1, d2, d3, d4, d5, d6, d7⟩, d8⟩ := hi' k' x1
      rw [x4, x5, x6, x7]
      refine ⟨⟨d1, d2, d3, d4, d5, d6, d7⟩, fun j hj => ?_⟩
      obtain ⟨j', y1, y2, y3, y4, -⟩ := hf j (by omega)
      rw [y4]
      exact d8 j' (by omega)
    · refine (hL l' hl').fr hl' (fun a h3 h4 => hE a (by omega) (by omega) (by omega) (by omega) (by omega) (by omega)) (by rw [h7]) (fun b h3 h4 h5 h6 h7 h8 => ?_) (fun i hi => by rw [t3 229 (by omega), if_neg (by omega)]) (fun i' hi => by rw [t3 230 (by omega), if_neg (by omega)]) (fun i hi => by rw [hEI 233 (by omega) (by omega) (by omega) (by omega) (by omega)]) (fun i hi => by rw [hEI 234 (by omega) (by omega) (by omega) (by omega) (by omega)])
      by_cases hb : b = 228
      · subst hb
        exact t8 _ hll
      · rw [hEI b (by omega) (by omega) hb (by omega) (by omega)]
  · unfold R8 at r8 ⊢
    rw [h7, r8]
    refine (jup_eq 12 (fun l' hl' => ⟨by rw [w232], ?_⟩)).symm
    by_cases hll : l' = l
    · subst hll
      exact Or.inl z
    · refine Or.inr ⟨t8 _ hll, fun i hi => ?_⟩
      obtain ⟨m', h⟩ := (hL l' hl').lv r0 hl'
      rw [h.2.2.1, nI_clamp (by have := h.2.1; omega)] at hi
      rw [t3 229 (by omega), if_neg (by have := h.2.1; omega), hEI 220 (by omega) (by omega) (by omega) (by omega) (by omega)]
