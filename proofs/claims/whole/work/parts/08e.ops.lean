theorem mX9_most {α : Type} {k : Nat} (hk : k < 10) {f : Int32 → Sg → Option α} {s : Sg} : (if ¬ nI k = 0 then (if ¬ nI k = 1 then (if 6 ≤ nI k then f 3 s else f 180000 s) else f 20000 s) else f 5000 s) = f (stv 1 k) s := by
  rcases (show k = 0 ∨ k = 1 ∨ k = 2 ∨ k = 3 ∨ k = 4 ∨ k = 5 ∨ k = 6 ∨ k = 7 ∨ k = 8 ∨ k = 9 by omega) with rfl | rfl | rfl | rfl | rfl | rfl | rfl | rfl | rfl | rfl
  · rw [if_neg (by decide)]; rfl
  · rw [if_pos (by decide), if_neg (by decide)]; rfl
  all_goals first | (rw [if_pos (by decide), if_pos (by decide), if_neg (by decide)]; rfl) | (rw [if_pos (by decide), if_pos (by decide), if_pos (by decide)]; rfl)
theorem mX9_mostj {α : Type} {k : Nat} (hk : k < 10) {f : Int32 → Sg → Option α} {s : Sg} : jn f (fun j5 => if ¬ nI k = 0 then (if ¬ nI k = 1 then (if 6 ≤ nI k then j5 3 s else j5 180000 s) else j5 20000 s) else j5 5000 s) = f (stv 1 k) s := mX9_most hk
theorem RL1.congr2 {s s' : Sg} {n l : Nat} (hl : l < 12) (h : RL1 s n l) (hE : ∀ a, (99 ≤ a ∧ a < 183) ∨ (227 ≤ a ∧ a ≤ 236) → Eqc s s' a) (h1 : ∀ g, g < 20 → nI g < sI s 207 8 → nI g < sI s' 207 8) : RL1 s' n l := by
  unfold RL1 at h ⊢
  rw [(hE (99 + 7 * l) (by omega)).1, (hE (99 + 7 * l) (by omega)).2.1, (hE (100 + 7 * l) (by omega)).2.1, (hE (101 + 7 * l) (by omega)).1, (hE (102 + 7 * l) (by omega)).1, (hE (104 + 7 * l) (by omega)).1, (hE (105 + 7 * l) (by omega)).1, (hE 227 (by omega)).1, (hE 228 (by omega)).1, (hE 229 (by omega)).1, (hE 230 (by omega)).1, (hE 231 (by omega)).1, (hE 232 (by omega)).1, (hE 233 (by omega)).1, (hE 234 (by omega)).1, (hE 235 (by omega)).1, (hE 236 (by omega)).1]
  obtain ⟨a1, a2, a3, a4, a5, m, hm, hm2, hm3, hi⟩ := h
  refine ⟨a1, a2, a3, a4, a5, m, hm, hm2, hm3, fun i hi1 => ?_⟩
  obtain ⟨⟨d1, d2, g, d3, d4, d5, d6⟩, d7⟩ := hi i hi1
  exact ⟨⟨d1, d2, g, d3, h1 g d3 d4, d5, d6⟩, d7⟩
theorem op_rule : Op2 mX8_rule mX9_rule := by
  intro s hr p1 p2
  have hN := hr.1.1
  have hM := hr.1.m
  obtain ⟨r0, r1, r2, r3, r4, r5, r6, r7, r8⟩ := id hr
  by_cases h1 : btw p1 0 9
  rotate_left
  · exact ⟨-1, s, s, by simp only [mX8_rule, Wn0_9 h1, cl_some, i00, if_true], hN, by simp only [mX9_rule, Mn0_9 h1, cl_some, i00, if_false, not_true], hr⟩
  obtain ⟨k, hk, rfl⟩ := btw_nI 10 h1 (by decide)
  have hst : ∀ {β : Type} {f : Int32 → Option β}, gS 1 (nI k) f = f (stv 1 k) := fun {β f} => gS_at rfl (show k < 10 from hk) (by omega)
  obtain ⟨g1, g2⟩ := r6 k hk
  have q := r0
  obtain ⟨h0, q0, q1, q2, q3, q4, q5, q6, q7, q8, q9, q10, -⟩ := q
  by_cases h2 : btw p2 0 (stv 1 k).toInt
  rotate_left
  · refine ⟨-1, s, s, ?_, hN, ?_, hr⟩
    · simp only [mX8_rule, Wy0_9 h1, cl_some, i10, if_false]
      rw [hst, within_if, if_neg (show ¬ ((0 : Int32).toInt ≤ p2.toInt ∧ p2.toInt ≤ (stv 1 k).toInt) from h2), cl_some, if_neg (by decide)]
    · simp only [mX9_rule, My0_9 h1, cl_some, i10, if_true, not_false_iff]
      rw [mX9_mostj hk, in_if, Int32.toInt_toInt64, Int32.toInt_toInt64, if_neg (show ¬ ((0 : Int64).toInt ≤ p2.toInt ∧ p2.toInt ≤ (stv 1 k).toInt) from h2), cl_some, if_neg (by decide)]
  · have e1 : mX8_rule 0 (nI k) p2 s = some (sI s 226 k, uI s 9 k p2) := by
      simp only [mX8_rule, Wy0_9 h1, cl_some, i10, if_false]
      rw [hst, within_if, if_pos (show ((0 : Int32).toInt ≤ p2.toInt ∧ p2.toInt ≤ (stv 1 k).toInt) from h2), cl_some, if_pos (by decide), dR h0, q6, alI_n (show k < ln 9 from hk) (by decide) (by omega), dR h0, q6, asI_n (show k < ln 9 from hk) (by decide) (by omega), g1]
    have e2 : ∀ s1, M0 s1 → mX9_rule 207 (nI k) p2 s1 = some (sI s1 226 k, uI s1 226 k p2) := by
      intro s1 m1
      have m1N := m1.1
      simp only [mX9_rule, My0_9 h1, cl_some, i10, if_true, not_false_iff]
      rw [mX9_mostj hk, in_if, Int32.toInt_toInt64, Int32.toInt_toInt64, if_pos (show ((0 : Int64).toInt ≤ p2.toInt ∧ p2.toInt ≤ (stv 1 k).toInt) from h2), cl_some, if_pos (by decide), mR m1 19 226 rfl (by decide) (by decide), alI_n (show k < ln 226 from hk) (by decide) (by omega), mR m1 19 226 rfl (by decide) (by decide), asI_n (show k < ln 226 from hk) (by decide) (by omega)]
    refine ⟨sI s 226 k, _, _, e1, hN, by rw [e2 _ hM.uI, sI_ne (by omega)], ?_⟩
    have hE : ∀ a, a ≠ 9 → a ≠ 226 → Eqc s (uI (uI s 9 k p2) 226 k p2) a := fun a z0 z1 => (Eqc.rf.uI z0).uI z1
    refine ⟨(r0.uI (by omega)).uI (by omega), r1.congr (fun a h => hE a (by omega) (by omega)), r2.congr (fun a h => hE a (by omega) (by omega)), r3.congr (fun a h => hE a (by omega) (by omega)), r4.congr (fun a h => hE a (by omega) (by omega)) rfl rfl, r5.congr (fun a h => hE a (by omega) (by omega)), fun j hj => ?_, r7.congr (fun a h => hE a (by omega) (by omega)) rfl rfl rfl, r8.congr (fun a h => hE a (by omega) (by omega)) rfl⟩
    by_cases hjk : j = k
    · subst hjk
      rw [sI_ne (by omega), sI_s, sI_s]
      exact ⟨rfl, h2⟩
    · rw [sI_ne (by omega), sI_nk hjk, sI_nk hjk, sI_ne (by omega)]
      exact r6 j hj
theorem op_group : Op4 mX8_group mX9_group := by
  intro s hr p1 p2 p3 p4
  have hN := hr.1.1
  have hM := hr.1.m
  obtain ⟨r0, r1, r2, r3, r4, r5, r6, r7, r8⟩ := id hr
  by_cases h1 : btw p1 0 3
  rotate_left
  · exact ⟨-1, s, s, by simp only [mX8_group, Wn0_3 h1, cl_some, i00, if_true], hN, by simp only [mX9_group, Mn0_3 h1, cl_some, i00, if_true], hr⟩
  by_cases h2 : btw p2 6000 15000
  rotate_left
  · exact ⟨-1, s, s, by simp only [mX8_group, Wy0_3 h1, Wn6000_15000 h2, cl_some, i00, i10, if_true, if_false, not_true], hN, by simp only [mX9_group, My0_3 h1, Mn6000_15000 h2, cl_some, i00, i10, if_true, if_false], hr⟩
  by_cases h3 : btw p3 0 150
  rotate_left
  · exact ⟨-1, s, s, by simp only [mX8_group, Wy0_3 h1, Wy6000_15000 h2, Wn0_150 h3, cl_some, i00, i10, if_true, if_false, not_true, not_false_iff], hN, by simp only [mX9_group, My0_3 h1, My6000_15000 h2, Mn0_150 h3, cl_some, i00, i10, if_true, if_false], hr⟩
  by_cases h4 : btw p4 0 3
  rotate_left
  · exact ⟨-1, s, s, by simp only [mX8_group, Wy0_3 h1, Wy6000_15000 h2, Wy0_150 h3, Wn0_3 h4, cl_some, i00, i10, if_true, if_false, not_true, not_false_iff], hN, by simp only [mX9_group, My0_3 h1, My6000_15000 h2, My0_150 h3, Mn0_3 h4, cl_some, i00, i10, if_true, if_false, not_true], hr⟩
  obtain ⟨en, n, hn, en2, hg⟩ := id r4
  have q := r0
  obtain ⟨h0, q0, q1, q2, q3, q4, q5, q6, q7, q8, q9, q10, q11, q12, q13, b1, b2, b3, -⟩ := q
  by_cases hn20 : n = 20
  · subst hn20
    refine ⟨-2, s, s, ?_, hN, ?_, hr⟩
    · simp only [mX8_group, Wy0_3 h1, Wy6000_15000 h2, Wy0_150 h3, Wy0_3 h4, cl_some, i10, if_true, if_false, not_false_iff]
      rw [dI h0, dR h0, q3, aln_at (by decide) (by omega), en, en2, if_neg (by decide)]
    · simp only [mX9_group, My0_3 h1, My6000_15000 h2, My0_150 h3, My0_3 h4, cl_some, i10, if_true, if_false, not_false_iff]
      rw [mI h0, en2, if_neg (by decide)]
  have hn2 : n < 20 := by omega
  obtain ⟨k1, k2, k3⟩ := kdGr n hn2
  have e1 : mX8_group 0 p1 p2 p3 p4 s = some (nI n, uI (uI (uI (uI (uI s (56 + 2 * n) 3 p1) (56 + 2 * n) 4 p2) (56 + 2 * n) 5 p3) (56 + 2 * n) 6 p4) 0 9 (nI (n + 1))) := by
    simp only [mX8_group, Wy0_3 h1, Wy6000_15000 h2, Wy0_150 h3, Wy0_3 h4, cl_some, i10, if_true, if_false, not_false_iff]
    rw [dI h0, dR h0, q3, aln_at (by decide) (by omega), en, en2, if_pos (show nI n < nI (ln 6) from nI_lt hn2 (by decide)), dR h0, q3, dI h0, en, en2, alR_n (show n < ln 6 from hn2) (by decide) (by omega), (b3 n hn2).1, cv_at k1 (by omega)]
    unfold mX2_become
    rw [ptI_at k1 (by omega), ptI_at k1 (by simp only [sN_uI]; omega), ptI_at k1 (by simp only [sN_uI]; omega), ptI_at k1 (by simp only [sN_uI]; omega), cl_some, dI (by simp only [sN_uI]; exact h0), sI_ne (by omega), sI_ne (by omega), sI_ne (by omega), sI_ne (by omega), en, en2, nI_1, ptI_at (by decide) (by simp only [sN_uI]; omega), dI (by simp only [sN_uI]; exact h0), sI_s, nI_pred]
  have e2 : ∀ s1, M0 s1 → sI s1 207 8 = nI n → mX9_group 207 p1 p2 p3 p4 s1 = some (nI n, uI (uI (uI (uI (uI s1 216 n p1) 217 n p2) 218 n p3) 219 n p4) 207 8 (nI (n + 1))) := by
    intro s1 m1 f1
    have m1N := m1.1
    simp only [mX9_group, My0_3 h1, My6000_15000 h2, My0_150 h3, My0_3 h4, cl_some, i10, if_true, if_false, not_false_iff]
    rw [mI m1N, f1, if_pos (show ¬ nI n = 20 from fun h => hn20 ((nI_eq (b := 20) (by omega) (by decide)).mp h)), mR m1 9 216 rfl (by decide) (by decide), mI m1N, f1, asI_n (show n < ln 216 from hn2) (by decide) (by omega), mR m1.uI 10 217 rfl (by decide) (by decide), mI (by simp only [sN_uI]; exact m1N), sI_ne (by omega), f1, asI_n (show n < ln 217 from hn2) (by decide) (by simp only [sN_uI]; omega), mR m1.uI.uI 11 218 rfl (by decide) (by decide), mI (by simp only [sN_uI]; exact m1N), sI_ne (by omega), sI_ne (by omega), f1, asI_n (show n < ln 218 from hn2) (by decide) (by simp only [sN_uI]; omega), mR m1.uI.uI.uI 12 219 rfl (by decide) (by decide), mI (by simp only [sN_uI]; exact m1N), sI_ne (by omega), sI_ne (by omega), sI_ne (by omega), f1, asI_n (show n < ln 219 from hn2) (by decide) (by simp only [sN_uI]; omega), mI (by simp only [sN_uI]; exact m1N), sI_ne (by omega), sI_ne (by omega), sI_ne (by omega), sI_ne (by omega), f1, nI_1, ptI_at (by decide) (by simp only [sN_uI]; omega), mI (by simp only [sN_uI]; exact m1N), sI_s, nI_pred]
  refine ⟨nI n, _, _, e1, hN, e2 _ hM.uI.uI.uI.uI.uI (by rw [sI_ne (by omega), sI_ne (by omega), sI_ne (by omega), sI_ne (by omega), sI_ne (by omega)]; exact en2), ?_⟩
  generalize hS : uI (uI (uI (uI (uI (uI (uI (uI (uI (uI s (56 + 2 * n) 3 p1) (56 + 2 * n) 4 p2) (56 + 2 * n) 5 p3) (56 + 2 * n) 6 p4) 0 9 (nI (n + 1))) 216 n p1) 217 n p2) 218 n p3) 219 n p4) 207 8 (nI (n + 1)) = S
  have hEI : ∀ a q, a ≠ 0 → a ≠ 207 → a ≠ 56 + 2 * n → a ≠ 216 → a ≠ 217 → a ≠ 218 → a ≠ 219 → sI S a q = sI s a q := fun a q z1 z2 z3 z4 z5 z6 z7 => by
    rw [← hS, sI_ne z2, sI_ne z7, sI_ne z6, sI_ne z5, sI_ne z4, sI_ne z1, sI_ne z3, sI_ne z3, sI_ne z3, sI_ne z3]
  have hER : sR S = sR s := by rw [← hS]; rfl
  have hEF : sF S = sF s := by rw [← hS]; rfl
  have hE : ∀ a, a ≠ 0 → a ≠ 207 → a ≠ 56 + 2 * n → a ≠ 216 → a ≠ 217 → a ≠ 218 → a ≠ 219 → Eqc s S a := fun a z1 z2 z3 z4 z5 z6 z7 => ⟨funext fun q => hEI a q z1 z2 z3 z4 z5 z6 z7, by rw [hER], by rw [hEF]⟩
  have h09 : sI S 0 9 = nI (n + 1) := by rw [← hS, sI_ne (by omega), sI_ne (by omega), sI_ne (by omega), sI_ne (by omega), sI_ne (by omega), sI_s]
  have h0q : ∀ q, q ≠ 9 → sI S 0 q = sI s 0 q := fun q z => by rw [← hS, sI_ne (by omega), sI_ne (by omega), sI_ne (by omega), sI_ne (by omega), sI_ne (by omega), sI_nk z, sI_ne (by omega), sI_ne (by omega), sI_ne (by omega), sI_ne (by omega)]
  have h78 : sI S 207 8 = nI (n + 1) := by rw [← hS, sI_s]
  have h7q : ∀ q, q ≠ 8 → sI S 207 q = sI s 207 q := fun q z => by rw [← hS, sI_nk z, sI_ne (by omega), sI_ne (by omega), sI_ne (by omega), sI_ne (by omega), sI_ne (by omega), sI_ne (by omega), sI_ne (by omega), sI_ne (by omega), sI_ne (by omega)]
  have hSN : sN S = sN s := by rw [← hS]; rfl
  obtain ⟨el, nl, hnl, el2, hL⟩ := r7
  refine ⟨r0.congr hSN (fun a k _ _ _ => by rw [hER]) (fun a z1 z2 => ?_), r1.congr (fun a h => hE a (by omega) (by omega) (by omega) (by omega) (by omega) (by omega) (by omega)), r2.congr (fun a h => hE a (by omega) (by omega) (by omega) (by omega) (by omega) (by omega) (by omega)), r3.congr (fun a h => hE a (by omega) (by omega) (by omega) (by omega) (by omega) (by omega) (by omega)), ⟨h09.trans h78.symm, n + 1, by omega, h78, fun g hg2 => ?_⟩, r5.congr (fun a h => hE a (by omega) (by omega) (by omega) (by omega) (by omega) (by omega) (by omega)), r6.congr (fun a h => hE a (by omega) (by omega) (by omega) (by omega) (by omega) (by omega) (by omega)), ⟨by rw [h0q _ (by decide), h7q _ (by decide)]; exact el, nl, hnl, by rw [h7q _ (by decide)]; exact el2, fun l hl => ?_⟩, r8.congr (fun a h => hE a (by omega) (by omega) (by omega) (by omega) (by omega) (by omega) (by omega)) (h7q _ (by decide))⟩
  · by_cases hz : a = 56 + 2 * n
    · subst hz
      rw [← hS, sI_ne (by omega), sI_ne (by omega), sI_ne (by omega), sI_ne (by omega), sI_ne (by omega), sI_ne (by omega), sI_nk (by decide), sI_nk (by decide), sI_nk (by decide), sI_nk (by decide)]
    · exact hEI a 0 (by omega) (by omega) hz (by omega) (by omega) (by omega) (by omega)
  · obtain ⟨c1, c2, c3, c4, c5, c6, c7, c8, c9, c10, c11, m, hm, hm2, hm3⟩ := hg g hg2
    have t220 : ∀ q, sI S 220 q = sI s 220 q := fun q => hEI 220 q (by omega) (by omega) (by omega) (by omega) (by omega) (by omega) (by omega)
    have t221 : ∀ q, sI S 221 q = sI s 221 q := fun q => hEI 221 q (by omega) (by omega) (by omega) (by omega) (by omega) (by omega) (by omega)
    have tail : ∃ m, m < 5 ∧ sI S 220 g = nI m ∧ ∀ k, k < m → ∃ j, j < 32 ∧ sI S 221 (4 * g + k) = nI j ∧ sR S (57 + 2 * g) k = some (24 + j) := ⟨m, hm, by rw [t220]; exact hm2, fun k hk => by rw [t221, hER]; exact hm3 k hk⟩
    by_cases hgn : g = n
    · subst hgn
      have w3 : sI S (56 + 2 * g) 3 = p1 := by rw [← hS, sI_ne (by omega), sI_ne (by omega), sI_ne (by omega), sI_ne (by omega), sI_ne (by omega), sI_ne (by omega), sI_nk (by decide), sI_nk (by decide), sI_nk (by decide), sI_s]
      have w4 : sI S (56 + 2 * g) 4 = p2 := by rw [← hS, sI_ne (by omega), sI_ne (by omega), sI_ne (by omega), sI_ne (by omega), sI_ne (by omega), sI_ne (by omega), sI_nk (by decide), sI_nk (by decide), sI_s]
      have w5 : sI S (56 + 2 * g) 5 = p3 := by rw [← hS, sI_ne (by omega), sI_ne (by omega), sI_ne (by omega), sI_ne (by omega), sI_ne (by omega), sI_ne (by omega), sI_nk (by decide), sI_s]
      have w6 : sI S (56 + 2 * g) 6 = p4 := by rw [← hS, sI_ne (by omega), sI_ne (by omega), sI_ne (by omega), sI_ne (by omega), sI_ne (by omega), sI_ne (by omega), sI_s]
      have w2 : sI S (56 + 2 * g) 2 = sI s (56 + 2 * g) 2 := by rw [← hS, sI_ne (by omega), sI_ne (by omega), sI_ne (by omega), sI_ne (by omega), sI_ne (by omega), sI_ne (by omega), sI_nk (by decide), sI_nk (by decide), sI_nk (by decide), sI_nk (by decide)]
      have v6 : sI S 216 g = p1 := by rw [← hS, sI_ne (by omega), sI_ne (by omega), sI_ne (by omega), sI_ne (by omega), sI_s]
      have v7 : sI S 217 g = p2 := by rw [← hS, sI_ne (by omega), sI_ne (by omega), sI_ne (by omega), sI_s]
      have v8 : sI S 218 g = p3 := by rw [← hS, sI_ne (by omega), sI_ne (by omega), sI_s]
      have v9 : sI S 219 g = p4 := by rw [← hS, sI_ne (by omega), sI_s]
      refine ⟨w3.trans v6.symm, w4.trans v7.symm, w5.trans v8.symm, w6.trans v9.symm, by rw [w2, t220]; exact c5, by rw [v6]; exact h1, by rw [v7]; exact ⟨by have := h2.1; omega, h2.2⟩, by rw [v8]; exact h3, by rw [v9]; exact h4, fun _ => by rw [v7]; exact h2.1, fun hx => by omega, tail⟩
    · have w : ∀ q, sI S (56 + 2 * g) q = sI s (56 + 2 * g) q := fun q => hEI _ q (by omega) (by omega) (by omega) (by omega) (by omega) (by omega) (by omega)
      have v6 : sI S 216 g = sI s 216 g := by rw [← hS, sI_ne (by omega), sI_ne (by omega), sI_ne (by omega), sI_ne (by omega), sI_nk hgn, sI_ne (by omega), sI_ne (by omega), sI_ne (by omega), sI_ne (by omega), sI_ne (by omega)]
      have v7 : sI S 217 g = sI s 217 g := by rw [← hS, sI_ne (by omega), sI_ne (by omega), sI_ne (by omega), sI_nk hgn, sI_ne (by omega), sI_ne (by omega), sI_ne (by omega), sI_ne (by omega), sI_ne (by omega), sI_ne (by omega)]
      have v8 : sI S 218 g = sI s 218 g := by rw [← hS, sI_ne (by omega), sI_ne (by omega), sI_nk hgn, sI_ne (by omega), sI_ne (by omega), sI_ne (by omega), sI_ne (by omega), sI_ne (by omega), sI_ne (by omega), sI_ne (by omega)]
      have v9 : sI S 219 g = sI s 219 g := by rw [← hS, sI_ne (by omega), sI_nk hgn, sI_ne (by omega), sI_ne (by omega), sI_ne (by omega), sI_ne (by omega), sI_ne (by omega), sI_ne (by omega), sI_ne (by omega), sI_ne (by omega)]
      rw [w, w, w, w, w, v6, v7, v8, v9, t220]
      rw [t220] at tail
      exact ⟨c1, c2, c3, c4, c5, c6, c7, c8, c9, fun hx => c10 (by omega), fun hx => c11 (by omega), tail⟩
  · refine (hL l hl).congr2 hl (fun a h => hE a (by omega) (by omega) (by omega) (by omega) (by omega) (by omega) (by omega)) (fun g hg3 d4 => ?_)
    rw [en2] at d4
    rw [h78]
    have := (nI_ltI (a := g) (b := n) (by omega) (by omega)).mp d4
    exact nI_lt (by omega) (by omega)
