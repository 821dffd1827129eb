theorem RL1.grow {s : Sg} {n l : Nat} (h : RL1 s n l) (hl : l ≠ n) : RL1 s (n + 1) l := by
  obtain ⟨a1, a2, a3, a4, ⟨p, hp, hpl, hc⟩, m, hm, hm2, hm3, hi⟩ := h
  refine ⟨a1, a2, a3, a4, ⟨p, hp, hpl, ?_⟩, m, hm, hm2, fun h => hm3 (by omega), hi⟩
  rcases hc with ⟨c0, c1 | c1⟩ | ⟨c0, c1, c2⟩
  · exact Or.inl ⟨c0, Or.inl (by omega)⟩
  · exact Or.inl ⟨c0, Or.inr c1⟩
  · exact Or.inr ⟨c0, by omega, c2⟩
theorem op_load : Op1 mX8_load mX9_load := by
  intro s hr p1
  have hN := hr.1.1
  have hM := hr.1.m
  obtain ⟨r0, r1, r2, r3, r4, r5, r6, r7, r8⟩ := id hr
  by_cases h1 : btw p1 0 2
  rotate_left
  · exact ⟨-1, s, s, by simp only [mX8_load, c8 hN, planeAt_out r0 h1, cl_some, nn, if_true], hN, by simp only [mX9_load, Mn0_2 h1, cl_some, i00, if_false, not_true], hr⟩
  obtain ⟨p, hp3, rfl⟩ := btw_nI 3 h1 (by decide)
  obtain ⟨en, n, hn, en2, hl⟩ := id r7
  have q := r0
  obtain ⟨h0, q0, q1, q2, q3, q4, q5, q6, q7, q8, q9, q10, q11, q12, q13, b1, b2, b3, b4, b5, -⟩ := q
  by_cases hn12 : n = 12
  · subst hn12
    refine ⟨-2, s, s, ?_, hN, ?_, hr⟩
    · simp only [mX8_load, c8 hN, planeAt_in r0 hp3, cl_some, sn, if_false]
      rw [dI h0, dR h0, q5, aln_at (by decide) (by omega), en, en2, if_neg (by decide)]
    · simp only [mX9_load, My0_2 h1, cl_some, i10, if_true, not_false_iff]
      rw [mI h0, en2, if_neg (by decide)]
  have hn2 : n < 12 := by omega
  obtain ⟨k1, k2, k3, k4, k5, k6, k7, k8, k9, k10, k11⟩ := kdLo n hn2
  have e1 : mX8_load 0 (nI p) s = some (nI n, uI (uR (uR s (99 + 7 * n) 4 (some (96 + p))) (99 + 7 * n) 5 (some 2)) 0 10 (nI (n + 1))) := by
    simp only [mX8_load, c8 hN, planeAt_in r0 hp3, cl_some, sn, if_false]
    rw [dI h0, dR h0, q5, aln_at (by decide) (by omega), en, en2, if_pos (show nI n < nI (ln 8) from nI_lt hn2 (by decide)), dR h0, q5, dI h0, en, en2, alR_n (show n < ln 8 from hn2) (by decide) (by omega), (b5 n hn2).1, dR h0, q1, cv_at k1 (by omega)]
    unfold mX5_begin
    rw [ptR_at k1 (by omega), ptR_at k1 (by simp only [sN_uR]; omega), cl_some, dI (by simp only [sN_uR]; exact h0), sI_uR, sI_uR, en, en2, nI_1, ptI_at (by decide) (by simp only [sN_uR]; omega), dI (by simp only [sN_uI, sN_uR]; exact h0), sI_s, nI_pred]
  have e2 : ∀ s1, M0 s1 → sI s1 207 20 = nI n → mX9_load 207 (nI p) s1 = some (nI n, uI (uI s1 227 n (nI p)) 207 20 (nI (n + 1))) := by
    intro s1 m1 f1
    have m1N := m1.1
    simp only [mX9_load, My0_2 h1, cl_some, i10, if_true, not_false_iff]
    rw [mI m1N, f1, if_pos (show ¬ nI n = 12 from fun h => hn12 ((nI_eq (b := 12) (by omega) (by decide)).mp h)), mR m1 21 227 rfl (by decide) (by decide), mI m1N, f1, asI_n (show n < ln 227 from hn2) (by decide) (by omega), mI (by simp only [sN_uI]; exact m1N), sI_ne (by omega), f1, nI_1, ptI_at (by decide) (by simp only [sN_uI]; omega), mI (by simp only [sN_uI]; exact m1N), sI_s, nI_pred]
  have hM2 : M0 (uI (uR (uR s (99 + 7 * n) 4 (some (96 + p))) (99 + 7 * n) 5 (some 2)) 0 10 (nI (n + 1))) := ((hM.uR (by omega)).uR (by omega)).uI
  refine ⟨nI n, _, _, e1, hN, e2 _ hM2 (by rw [sI_ne (by omega), sI_uR, sI_uR]; exact en2), ?_⟩
  generalize hS : uI (uI (uI (uR (uR s (99 + 7 * n) 4 (some (96 + p))) (99 + 7 * n) 5 (some 2)) 0 10 (nI (n + 1))) 227 n (nI p)) 207 20 (nI (n + 1)) = S
  have hEI : ∀ a q, a ≠ 0 → a ≠ 207 → a ≠ 227 → sI S a q = sI s a q := fun a q z1 z2 z3 => by
    rw [← hS, sI_ne z2, sI_ne z3, sI_ne z1, sI_uR, sI_uR]
  have hER : ∀ a q, a ≠ 99 + 7 * n → sR S a q = sR s a q := fun a q z1 => by rw [← hS, sR_uI, sR_uI, sR_uI, sR_if, if_neg (by omega), sR_if, if_neg (by omega)]
  have hEF : sF S = sF s := by rw [← hS]; rfl
  have hE : ∀ a, a ≠ 0 → a ≠ 207 → a ≠ 227 → a ≠ 99 + 7 * n → Eqc s S a := fun a z1 z2 z3 z4 => ⟨funext fun q => hEI a q z1 z2 z3, funext fun q => hER a q z4, by rw [hEF]⟩
  have h0q : ∀ q, q ≠ 10 → sI S 0 q = sI s 0 q := fun q z => by rw [← hS, sI_ne (by omega), sI_ne (by omega), sI_nk z, sI_uR, sI_uR]
  have h7q : ∀ q, q ≠ 20 → sI S 207 q = sI s 207 q := fun q z => by rw [← hS, sI_nk z, sI_ne (by omega), sI_ne (by omega), sI_uR, sI_uR]
  have h010 : sI S 0 10 = nI (n + 1) := by rw [← hS, sI_ne (by omega), sI_ne (by omega), sI_s]
  have h720 : sI S 207 20 = nI (n + 1) := by rw [← hS, sI_s]
  have hSN : sN S = sN s := by rw [← hS]; rfl
  refine ⟨r0.congr hSN (fun a k z1 z2 z3 => ?_) (fun a z1 z2 => hEI a 0 (by omega) (by omega) (by omega)), r1.congr (fun a h => hE a (by omega) (by omega) (by omega) (by omega)), r2.congr (fun a h => hE a (by omega) (by omega) (by omega) (by omega)), r3.congr (fun a h => hE a (by omega) (by omega) (by omega) (by omega)), r4.congr (fun a h => hE a (by omega) (by omega) (by omega) (by omega)) (h0q _ (by decide)) (h7q _ (by decide)), r5.congr (fun a h => hE a (by omega) (by omega) (by omega) (by omega)), r6.congr (fun a h => hE a (by omega) (by omega) (by omega) (by omega)), ⟨h010.trans h720.symm, n + 1, by omega, h720, fun l hl2 => ?_⟩, r8.congr (fun a h => hE a (by omega) (by omega) (by omega) (by omega)) (h7q _ (by decide))⟩
  · rw [← hS, sR_uI, sR_uI, sR_uI, sR_if, if_neg (by omega), sR_if, if_neg (by omega)]
  · by_cases hln : l = n
    · subst hln
      obtain ⟨a1, a2, a3, a4, ⟨p9, hp9, hpl9, hc⟩, m, hm, hm2, hm3, hi⟩ := hl l hl2
      have hm0 := hm3 (Nat.le_refl _)
      subst hm0
      have z232 : sI s 232 l = 0 := by
        rcases hc with hc | hc
        · exact hc.1
        · exact absurd hc.2.1 (Nat.lt_irrefl _)
      have w : ∀ a q, 99 ≤ a → a ≠ 207 → a ≠ 227 → sI S a q = sI s a q := fun a q z1 z2 z3 => hEI a q (by omega) z2 z3
      refine ⟨?_, ?_, ?_, ?_, ⟨p, hp3, ?_, Or.inl ⟨?_, Or.inr ⟨?_, ?_⟩⟩⟩, 0, by omega, ?_, fun _ => rfl, fun i hi => absurd hi (Nat.not_lt_zero _)⟩
      · rw [w _ _ (by omega) (by omega) (by omega), w _ _ (by omega) (by omega) (by omega)]; exact a1
      · rw [w _ _ (by omega) (by omega) (by omega), w _ _ (by omega) (by omega) (by omega)]; exact a2
      · rw [w _ _ (by omega) (by omega) (by omega), w _ _ (by omega) (by omega) (by omega)]; exact a3
      · rw [w _ _ (by omega) (by omega) (by omega)]; exact a4
      · rw [← hS, sI_ne (by omega), sI_s]
      · rw [w _ _ (by omega) (by omega) (by omega)]; exact z232
      · rw [← hS, sR_uI, sR_uI, sR_uI, sR_if, if_neg (by omega), sR_if, if_pos ⟨rfl, rfl⟩]
      · rw [← hS, sR_uI, sR_uI, sR_uI, sR_if, if_pos ⟨rfl, rfl⟩]
      · rw [w _ _ (by omega) (by omega) (by omega)]; exact hm2
    · refine ((hl l hl2).grow hln).fr hl2 (fun a h3 h4 => hE a (by omega) (by omega) (by omega) (by omega)) (h7q _ (by decide)) (fun b h3 h4 h5 h6 h7 h8 => ?_) (fun i hi => ?_) (fun i hi => ?_) (fun i hi => ?_) (fun i hi => ?_)
      · by_cases hb : b = 227
        · subst hb
          rw [← hS, sI_ne (by omega), sI_nk hln, sI_ne (by omega), sI_uR, sI_uR]
        · exact hEI _ _ (by omega) (by omega) hb
      all_goals exact hEI _ _ (by omega) (by omega) (by omega)
