theorem LV.has_in {s : Sg} {l m i : Nat} (h : LV s l m) (hi : i < m) : mX5_has (99 + 7 * l) (nI i) s = some (1, s) := by
  obtain ⟨hl, hm, z1, z2, z3, z9, ⟨hN, -⟩, z4⟩ := h
  obtain ⟨k1, k2, k3, -⟩ := kdLo l hl
  unfold mX5_has
  rw [if_neg (nI0 (by omega)), gdI_at k1 (by omega), z2, if_neg (nI_ge hi (by omega)), gdR_at k1 (by omega), z3, aln_at (by rw [k2]; decide) (by omega), k3, if_neg (nI_ge (show i < 6 by omega) (by decide))]
  rfl
theorem LV.has_out {s : Sg} {l m : Nat} {p : Int32} (h : LV s l m) (hp : noP m p) : mX5_has (99 + 7 * l) p s = some (0, s) := by
  obtain ⟨hl, hm, z1, z2, z3, z9, ⟨hN, -⟩, z4⟩ := h
  obtain ⟨k1, k2, k3, -⟩ := kdLo l hl
  unfold mX5_has
  rcases hp with ⟨-, q⟩ | ⟨-, q, q9⟩
  · rw [if_pos q]
    rfl
  · rw [if_neg q9, gdI_at k1 (by omega), z2, if_pos q]
    rfl
theorem isIn_y {s : Sg} (hM : M0 s) {n l m i : Nat} (hn : n < 13) (e : sI s 207 20 = nI n) (hl : l < n) (hm : m < 7) (z : sI s 228 l = nI m) (hi : i < m) : mX9_isIn 207 (nI l) (nI i) s = some (1, s) := by
  have hN := hM.1
  unfold mX9_isIn
  rw [c9 hN, isLoad_y hM hn e hl, cl_some, if_neg (by decide), mR hM 22 228 rfl (by decide) (by decide), alI_n (show l < ln 228 from show l < 12 by omega) (by decide) (by omega), z, in_ny hi (by omega), cl_some, if_neg (by decide)]
  rfl
theorem isIn_n {s : Sg} (hM : M0 s) {n l m : Nat} {p : Int32} (hn : n < 13) (e : sI s 207 20 = nI n) (hl : l < n) (hm : m < 7) (z : sI s 228 l = nI m) (hp : noP m p) : mX9_isIn 207 (nI l) p s = some (0, s) := by
  have hN := hM.1
  unfold mX9_isIn
  rw [c9 hN, isLoad_y hM hn e hl, cl_some, if_neg (by decide), mR hM 22 228 rfl (by decide) (by decide), alI_n (show l < ln 228 from show l < 12 by omega) (by decide) (by omega), z, in_nn (noP_in hp) (by omega), cl_some, if_pos (by decide)]
  rfl
theorem isIn_l {s : Sg} (hM : M0 s) {n : Nat} {p p2 : Int32} (hn : n < 13) (e : sI s 207 20 = nI n) (hp : noP n p) : mX9_isIn 207 p p2 s = some (0, s) := by
  have hN := hM.1
  unfold mX9_isIn
  rw [c9 hN, isLoad_n hM hn e hp, cl_some, if_pos (by decide)]
  rfl
theorem op_pause : Op3 mX8_pause mX9_pause := by
  intro s hr p1 p2 p3
  have hN := hr.1.1
  have hM := hr.1.m
  obtain ⟨r0, r1, r2, r3, r4, r5, r6, r7, r8⟩ := id hr
  obtain ⟨en, n, hn, en2, hL⟩ := id r7
  rcases plc n (by omega) p1 with hp | ⟨l, hln, rfl⟩
  · exact ⟨-1, s, s, by simp only [mX8_pause, c8 hN, loadAt_out r0 (en.trans en2) hp, cl_some, nn, if_true], hN, by simp only [mX9_pause, c9 hN, isIn_l hM hn en2 hp, cl_some, i00, if_true], hr⟩
  have hl12 : l < 12 := by omega
  obtain ⟨k1, k2, k3, k4, k5, -⟩ := kdLo l hl12
  obtain ⟨m, hv⟩ := (hL l hl12).lv r0 hl12
  obtain ⟨-, hm, z1, z2, z3, z9, -, z4⟩ := id hv
  rcases plc m (by omega) p2 with hp | ⟨i, him, rfl⟩
  · refine ⟨-1, s, s, ?_, hN, ?_, hr⟩
    · simp only [mX8_pause, c8 hN, loadAt_in r0 hn (en.trans en2) hln, cl_some, sn, if_false]
      rw [cv_at k1 (by omega), hv.has_out hp, cl_some, if_pos rfl]
    · simp only [mX9_pause, c9 hN, isIn_n hM hn en2 hln hm z1 hp, cl_some, i00, if_true]
  by_cases h3 : btw p3 1 60
  rotate_left
  · refine ⟨-1, s, s, ?_, hN, ?_, hr⟩
    · simp only [mX8_pause, c8 hN, loadAt_in r0 hn (en.trans en2) hln, cl_some, sn, if_false]
      rw [cv_at k1 (by omega), hv.has_in him, cl_some, if_neg (by decide), isPause_n h3, cl_some, if_neg (by decide)]
    · simp only [mX9_pause, c9 hN, isIn_y hM hn en2 hln hm z1 him, Mn1_60 h3, cl_some, i00, i10, if_true, if_false, not_true]
  have a3 := (hL l hl12).2.2.1
  rcases (hL l hl12).z with z | ⟨z, -⟩
  rotate_left
  · refine ⟨-6, s, s, ?_, hN, ?_, hr⟩
    · simp only [mX8_pause, c8 hN, loadAt_in r0 hn (en.trans en2) hln, cl_some, sn, if_false]
      rw [cv_at k1 (by omega), hv.has_in him, cl_some, if_neg (by decide), isPause_y h3, cl_some, if_pos (by decide), gdI_at k1 (by omega), a3, z, if_neg (by decide)]
    · simp only [mX9_pause, c9 hN, isIn_y hM hn en2 hln hm z1 him, My1_60 h3, cl_some, i10, if_true, if_false, not_false_iff]
      rw [mR hM 26 232 rfl (by decide) (by decide), alZ_n (show l < ln 232 from hl12) (by decide) (by omega), z, if_neg (by decide)]
  have e1 : mX8_pause 0 (nI l) (nI i) p3 s = some (1, uI s (101 + 7 * l) i p3) := by
    simp only [mX8_pause, c8 hN, loadAt_in r0 hn (en.trans en2) hln, cl_some, sn, if_false]
    rw [cv_at k1 (by omega), hv.has_in him, cl_some, if_neg (by decide), isPause_y h3, cl_some, if_pos (by decide), gdI_at k1 (by omega), a3, z, if_pos rfl, gdR_at k1 (by omega), z9, asI_n (by omega) k4 (by omega)]
  have e2 : ∀ s1, M0 s1 → (∀ a, 207 ≤ a → sI s1 a = sI s a) → mX9_pause 207 (nI l) (nI i) p3 s1 = some (1, uI s1 230 (6 * l + i) p3) := by
    intro s1 m1 hq
    have m1N := m1.1
    simp only [mX9_pause, c9 m1N, isIn_y m1 hn (by rw [hq 207 (by omega)]; exact en2) hln hm (by rw [hq 228 (by omega)]; exact z1) him, My1_60 h3, cl_some, i10, if_true, if_false, not_false_iff]
    rw [mR m1 26 232 rfl (by decide) (by decide), alZ_n (show l < ln 232 from hl12) (by decide) (by omega), hq 232 (by omega), z, if_pos rfl, mR m1 24 230 rfl (by decide) (by decide), i6, asI_n (show 6 * l + i < ln 230 from show _ < 72 by omega) (by decide) (by omega)]
  refine ⟨1, _, _, e1, hN, e2 _ hM.uI (fun a ha => by rw [sI_fa (by omega)]), ?_⟩
  generalize hSd : uI (uI s (101 + 7 * l) i p3) 230 (6 * l + i) p3 = S
  have hEI : ∀ a, a ≠ 101 + 7 * l → a ≠ 230 → sI S a = sI s a := fun a z1 z2 => by rw [← hSd, sI_fa z2, sI_fa z1]
  have hE : ∀ a, a ≠ 101 + 7 * l → a ≠ 230 → Eqc s S a := fun a z1 z2 => ⟨hEI a z1 z2, by rw [← hSd]; rfl, by rw [← hSd]; rfl⟩
  have h0 : sI S 0 = sI s 0 := hEI 0 (by omega) (by omega)
  have h7 : sI S 207 = sI s 207 := hEI 207 (by omega) (by omega)
  have t1 : sI S (101 + 7 * l) i = p3 := by rw [← hSd, sI_ne (by omega), sI_s]
  have t2 : ∀ q, q ≠ i → sI S (101 + 7 * l) q = sI s (101 + 7 * l) q := fun q z => by rw [← hSd, sI_ne (by omega), sI_nk z]
  have t3 : sI S 230 (6 * l + i) = p3 := by rw [← hSd, sI_s]
  have t4 : ∀ q, q ≠ 6 * l + i → sI S 230 q = sI s 230 q := fun q z => by rw [← hSd, sI_nk z, sI_ne (by omega)]
  refine ⟨by rw [← hSd]; exact (r0.uI (Or.inr (Or.inr (by omega)))).uI (Or.inr (Or.inr (by omega))), r1.congr (fun a h => hE a (by omega) (by omega)), r2.congr (fun a h => hE a (by omega) (by omega)), r3.congr (fun a h => hE a (by omega) (by omega)), r4.congr (fun a h => hE a (by omega) (by omega)) (by rw [h0]) (by rw [h7]), r5.congr (fun a h => hE a (by omega) (by omega)), r6.congr (fun a h => hE a (by omega) (by omega)), ⟨by rw [h0, h7]; exact en, n, hn, by rw [h7]; exact en2, fun l' hl' => ?_⟩, r8.congr (fun a h => hE a (by omega) (by omega)) (by rw [h7])⟩
  by_cases hll : l' = l
  · subst hll
    obtain ⟨a1, a2, a3, a4, a5, m', hm', hm2', hm3', hi'⟩ := hL l' hl'
    unfold RL1
    rw [hEI (99 + 7 * l') (by omega) (by omega), hEI 228 (by omega) (by omega), hEI 229 (by omega) (by omega), hEI 231 (by omega) (by omega), hEI 232 (by omega) (by omega), hEI 227 (by omega) (by omega), hEI 235 (by omega) (by omega), hEI 236 (by omega) (by omega), hEI (102 + 7 * l') (by omega) (by omega), hEI (104 + 7 * l') (by omega) (by omega), hEI (105 + 7 * l') (by omega) (by omega), hEI 233 (by omega) (by omega), hEI 234 (by omega) (by omega), h7, (hE (99 + 7 * l') (by omega) (by omega)).2.1, (hE (100 + 7 * l') (by omega) (by omega)).2.1]
    refine ⟨a1, a2, a3, a4, a5, m', hm', hm2', hm3', fun k hk => ?_⟩
    obtain ⟨⟨d1, d2, d3⟩, d7⟩ := hi' k hk
    refine ⟨⟨?_, ?_, d3⟩, d7⟩
    · by_cases hki : k = i
      · subst hki; rw [t1, t3]
      · rw [t2 _ hki, t4 _ (by omega)]; exact d1
    · by_cases hki : k = i
      · subst hki; rw [t3]; exact h3
      · rw [t4 _ (by omega)]; exact d2
  · exact (hL l' hl').fr hl' (fun a h3 h4 => hE a (by omega) (by omega)) (by rw [h7]) (fun b h3 h4 h5 h6 h7 h8 => by rw [hEI b (by omega) (by omega)]) (fun i hi => by rw [hEI 229 (by omega) (by omega)]) (fun i' hi => t4 _ (by omega)) (fun i hi => by rw [hEI 233 (by omega) (by omega)]) (fun i hi => by rw [hEI 234 (by omega) (by omega)])
theorem op_put : Op3 mX8_put mX9_put := by
  intro s hr p1 p2 p3
  have hN := hr.1.1
  have hM := hr.1.m
  obtain ⟨r0, r1, r2, r3, r4, r5, r6, r7, r8⟩ := id hr
  obtain ⟨el, nl, hnl, el2, hL⟩ := id r7
  obtain ⟨en, n, hn, en2, hg⟩ := id r4
  rcases plc nl (by omega) p1 with hp | ⟨l, hln, rfl⟩
  · rcases plc n (by omega) p2 with hp2 | ⟨g, hgn, rfl⟩
    · exact ⟨-1, s, s, by simp only [mX8_put, c8 hN, loadAt_out r0 (el.trans el2) hp, groupAt_out r0 (en.trans en2) hp2, cl_some, nn, if_true], hN, by simp only [mX9_put, c9 hN, isLoad_n hM hnl el2 hp, cl_some, i00, if_true], hr⟩
    · exact ⟨-1, s, s, by simp only [mX8_put, c8 hN, loadAt_out r0 (el.trans el2) hp, groupAt_in r0 hn (en.trans en2) hgn, cl_some, nn, if_true], hN, by simp only [mX9_put, c9 hN, isLoad_n hM hnl el2 hp, cl_some, i00, if_true], hr⟩
  rcases plc n (by omega) p2 with hp2 | ⟨g, hgn, rfl⟩
  · exact ⟨-1, s, s, by simp only [mX8_put, c8 hN, loadAt_in r0 hnl (el.trans el2) hln, groupAt_out r0 (en.trans en2) hp2, cl_some, nn, sn, if_true, if_false], hN, by simp only [mX9_put, c9 hN, isLoad_y hM hnl el2 hln, isGroup_n hM hn en2 hp2, cl_some, i00, i10, if_true, if_false], hr⟩
  by_cases h3 : btw p3 1 60
  rotate_left
  · exact ⟨-1, s, s, by simp only [mX8_put, c8 hN, loadAt_in r0 hnl (el.trans el2) hln, groupAt_in r0 hn (en.trans en2) hgn, isPause_n h3, cl_some, sn, i00, if_true, if_false, not_true], hN, by simp only [mX9_put, c9 hN, isLoad_y hM hnl el2 hln, isGroup_y hM hn en2 hgn, Mn1_60 h3, cl_some, i00, i10, if_true, if_false, not_true], hr⟩
  have hl12 : l < 12 := by omega
  have hg20 : g < 20 := by omega
  obtain ⟨k1, k2, k3, k4, k5, -⟩ := kdLo l hl12
  obtain ⟨kg1, -⟩ := kdGr g hg20
  obtain ⟨m, hv⟩ := (hL l hl12).lv r0 hl12
  obtain ⟨-, hm, z1, z2, z3, z9, -, z4⟩ := id hv
  have a3 := (hL l hl12).2.2.1
  rcases (hL l hl12).z with z | ⟨z, -⟩
  rotate_left
  · refine ⟨-6, s, s, ?_, hN, ?_, hr⟩
    · simp only [mX8_put, c8 hN, loadAt_in r0 hnl (el.trans el2) hln, groupAt_in r0 hn (en.trans en2) hgn, isPause_y h3, cl_some, sn, i10, if_true, if_false, not_false_iff]
      rw [gdI_at k1 (by omega), a3, z, if_neg (by decide)]
    · simp only [mX9_put, c9 hN, isLoad_y hM hnl el2 hln, isGroup_y hM hn en2 hgn, My1_60 h3, cl_some, i10, if_true, if_false, not_false_iff]
      rw [mR hM 26 232 rfl (by decide) (by decide), alZ_n (show l < ln 232 from hl12) (by decide) (by omega), z, if_neg (by decide)]
  have hL2 : ∀ l, l < nl → ∃ m, m < 7 ∧ sI s 228 l = nI m := fun l hl => by
    obtain ⟨m, h⟩ := (hL l (by omega)).lv r0 (by omega)
    exact ⟨m, h.2.1, h.2.2.1⟩
  have c1 := cInSome hr hnl el2 hg20 0
  have c2 := mInSome (g := g) hM hnl el2 hL2 0
  by_cases hS : inS s nl 0 g
  · refine ⟨-5, s, s, ?_, hN, ?_, hr⟩
    · simp only [mX8_put, c8 hN, loadAt_in r0 hnl (el.trans el2) hln, groupAt_in r0 hn (en.trans en2) hgn, isPause_y h3, cl_some, sn, i10, if_true, if_false, not_false_iff, c1.1 hS]
      rw [gdI_at k1 (by omega), a3, z, if_pos rfl]
    · simp only [mX9_put, c9 hN, isLoad_y hM hnl el2 hln, isGroup_y hM hn en2 hgn, My1_60 h3, cl_some, i10, if_true, if_false, not_false_iff, c2.1 hS]
      rw [mR hM 26 232 rfl (by decide) (by decide), alZ_n (show l < ln 232 from hl12) (by decide) (by omega), z, if_pos rfl]
  by_cases hm6 : m = 6
  · subst hm6
    refine ⟨-2, s, s, ?_, hN, ?_, hr⟩
    · simp only [mX8_put, c8 hN, loadAt_in r0 hnl (el.trans el2) hln, groupAt_in r0 hn (en.trans en2) hgn, isPause_y h3, cl_some, sn, i10, i00, if_true, if_false, not_false_iff, c1.2 hS]
      rw [gdI_at k1 (by omega), a3, z, if_pos rfl, gdI_at k1 (by omega), z2, if_neg (by decide)]
    · simp only [mX9_put, c9 hN, isLoad_y hM hnl el2 hln, isGroup_y hM hn en2 hgn, My1_60 h3, cl_some, i10, i00, if_true, if_false, not_false_iff, c2.2 hS]
      rw [mR hM 26 232 rfl (by decide) (by decide), alZ_n (show l < ln 232 from hl12) (by decide) (by omega), z, if_pos rfl, mR hM 22 228 rfl (by decide) (by decide), alI_n (show l < ln 228 from hl12) (by decide) (by omega), z1, if_neg (by decide)]
  have hm2 : m < 6 := by omega
  have e1 : mX8_put 0 (nI l) (nI g) p3 s = some (nI (m + 1), uI (uI (uR s (100 + 7 * l) m (some (56 + 2 * g))) (101 + 7 * l) m p3) (99 + 7 * l) 6 (nI (m + 1))) := by
    simp only [mX8_put, c8 hN, loadAt_in r0 hnl (el.trans el2) hln, groupAt_in r0 hn (en.trans en2) hgn, isPause_y h3, cl_some, sn, i10, i00, if_true, if_false, not_false_iff, c1.2 hS]
    rw [gdI_at k1 (by omega), a3, z, if_pos rfl, gdI_at k1 (by omega), z2, if_pos (show nI m < 6 from nI_lt (b := 6) hm2 (by decide)), cv_at k1 (by omega)]
    unfold mX5_add
    rw [gdI_at k1 (by omega), z2, gdR_at k1 (by omega), z3, aln_at (by rw [k2]; decide) (by omega), k3, if_neg (nI_ge hm2 (by decide)), gdR_at k1 (by omega), z3, gdI_at k1 (by omega), z2, asR_n (isAb_s kg1 (by omega)) (by omega) k2 (by omega), gdR_at k1 (by simp only [sN_uR]; omega), sR_if, if_neg (by omega), z9, gdI_at k1 (by simp only [sN_uR]; omega), sI_uR, z2, asI_n (by omega) k4 (by simp only [sN_uR]; omega), gdI_at k1 (by simp only [sN_uI, sN_uR]; omega), sI_ne (by omega), sI_uR, z2, nI_1, ptI_at k1 (by simp only [sN_uI, sN_uR]; omega), cl_some, gdI_at k1 (by simp only [sN_uI, sN_uR]; omega), sI_s]
  have e2 : ∀ s1, M0 s1 → (∀ a, 207 ≤ a → sI s1 a = sI s a) → mX9_put 207 (nI l) (nI g) p3 s1 = some (nI (m + 1), uI (uI (uI s1 229 (6 * l + m) (nI g)) 230 (6 * l + m) p3) 228 l (nI (m + 1))) := by
    intro s1 m1 hq
    have m1N := m1.1
    have b1 := mInSome (g := g) m1 hnl (by rw [hq 207 (by omega)]; exact el2) (by rw [hq 228 (by omega)]; exact hL2) 0
    rw [inS.congr (hq 232 (by omega)) (hq 228 (by omega)) (hq 229 (by omega))] at b1
    simp only [mX9_put, c9 m1N, isLoad_y m1 hnl (by rw [hq 207 (by omega)]; exact el2) hln, isGroup_y m1 hn (by rw [hq 207 (by omega)]; exact en2) hgn, My1_60 h3, cl_some, i10, i00, if_true, if_false, not_false_iff, b1.2 hS]
    have f1 : sI s1 228 l = nI m := by rw [hq 228 (by omega)]; exact z1
    rw [mR m1 26 232 rfl (by decide) (by decide), alZ_n (show l < ln 232 from hl12) (by decide) (by omega), hq 232 (by omega), z, if_pos rfl, mR m1 22 228 rfl (by decide) (by decide), alI_n (show l < ln 228 from hl12) (by decide) (by omega), f1, if_pos (show ¬ nI m = 6 from fun z => hm6 ((nI_eq (b := 6) (by omega) (by omega)).mp z)), mR m1 23 229 rfl (by decide) (by decide), mR m1 22 228 rfl (by decide) (by decide), alI_n (show l < ln 228 from hl12) (by decide) (by omega), f1, i6, asI_n (show 6 * l + m < ln 229 from show _ < 72 by omega) (by decide) (by omega), mR m1.uI 24 230 rfl (by decide) (by decide), mR m1.uI 22 228 rfl (by decide) (by decide), alI_n (show l < ln 228 from hl12) (by decide) (by simp only [sN_uI]; omega), sI_ne (by omega), f1, i6, asI_n (show 6 * l + m < ln 230 from show _ < 72 by omega) (by decide) (by simp only [sN_uI]; omega), mR m1.uI.uI 22 228 rfl (by decide) (by decide), alI_n (show l < ln 228 from hl12) (by decide) (by simp only [sN_uI]; omega), sI_ne (by omega), sI_ne (by omega), f1, nI_1, asI_n (show l < ln 228 from hl12) (by decide) (by simp only [sN_uI]; omega), mR m1.uI.uI.uI 22 228 rfl (by decide) (by decide), alI_n (show l < ln 228 from hl12) (by decide) (by simp only [sN_uI]; omega), sI_s]
  refine ⟨nI (m + 1), _, _, e1, hN, e2 _ (hM.uR (by omega)).uI.uI (fun a ha => by rw [sI_fa (by omega), sI_fa (by omega), sI_uR]), ?_⟩
  generalize hSd : uI (uI (uI (uI (uI (uR s (100 + 7 * l) m (some (56 + 2 * g))) (101 + 7 * l) m p3) (99 + 7 * l) 6 (nI (m + 1))) 229 (6 * l + m) (nI g)) 230 (6 * l + m) p3) 228 l (nI (m + 1)) = S
  have hEI : ∀ a, a ≠ 101 + 7 * l → a ≠ 99 + 7 * l → a ≠ 228 → a ≠ 229 → a ≠ 230 → sI S a = sI s a := fun a z1 z2 z3 z4 z5 => by rw [← hSd, sI_fa z3, sI_fa z5, sI_fa z4, sI_fa z2, sI_fa z1, sI_uR]
  have hER : ∀ a q, ¬ (a = 100 + 7 * l ∧ q = m) → sR S a q = sR s a q := fun a q z1 => by rw [← hSd, sR_uI, sR_uI, sR_uI, sR_uI, sR_uI, sR_if, if_neg z1]
  have hE : ∀ a, a ≠ 101 + 7 * l → a ≠ 99 + 7 * l → a ≠ 100 + 7 * l → a ≠ 228 → a ≠ 229 → a ≠ 230 → Eqc s S a := fun a z1 z2 z3 z4 z5 z6 => ⟨hEI a z1 z2 z4 z5 z6, funext fun q => hER a q (by omega), by rw [← hSd]; rfl⟩
  have hSN : sN S = sN s := by rw [← hSd]; rfl
  have h0 : sI S 0 = sI s 0 := hEI 0 (by omega) (by omega) (by omega) (by omega) (by omega)
  have h7 : sI S 207 = sI s 207 := hEI 207 (by omega) (by omega) (by omega) (by omega) (by omega)
  have t1 : sI S (101 + 7 * l) m = p3 := by rw [← hSd, sI_ne (by omega), sI_ne (by omega), sI_ne (by omega), sI_ne (by omega), sI_s]
  have t2 : ∀ q, q ≠ m → sI S (101 + 7 * l) q = sI s (101 + 7 * l) q := fun q z => by rw [← hSd, sI_ne (by omega), sI_ne (by omega), sI_ne (by omega), sI_ne (by omega), sI_nk z, sI_uR]
  have t3 : sI S 230 (6 * l + m) = p3 := by rw [← hSd, sI_ne (by omega), sI_s]
  have t4 : ∀ q, q ≠ 6 * l + m → sI S 230 q = sI s 230 q := fun q z => by rw [← hSd, sI_ne (by omega), sI_nk z, sI_ne (by omega), sI_ne (by omega), sI_ne (by omega), sI_uR]
  have t5 : sI S 229 (6 * l + m) = nI g := by rw [← hSd, sI_ne (by omega), sI_ne (by omega), sI_s]
  have t6 : ∀ q, q ≠ 6 * l + m → sI S 229 q = sI s 229 q := fun q z => by rw [← hSd, sI_ne (by omega), sI_ne (by omega), sI_nk z, sI_ne (by omega), sI_ne (by omega), sI_uR]
  have t7 : sI S 228 l = nI (m + 1) := by rw [← hSd, sI_s]
  have t8 : ∀ q, q ≠ l → sI S 228 q = sI s 228 q := fun q z => by rw [← hSd, sI_nk z, sI_ne (by omega), sI_ne (by omega), sI_ne (by omega), sI_ne (by omega), sI_uR]
  have t9 : sI S (99 + 7 * l) 6 = nI (m + 1) := by rw [← hSd, sI_ne (by omega), sI_ne (by omega), sI_ne (by omega), sI_s]
  have t10 : ∀ q, q ≠ 6 → sI S (99 + 7 * l) q = sI s (99 + 7 * l) q := fun q z => by rw [← hSd, sI_ne (by omega), sI_ne (by omega), sI_ne (by omega), sI_nk z, sI_ne (by omega), sI_uR]
  have t11 : sR S (100 + 7 * l) m = some (56 + 2 * g) := by rw [← hSd, sR_uI, sR_uI, sR_uI, sR_uI, sR_uI, sR_if, if_pos ⟨rfl, rfl⟩]
  have w232 : sI S 232 = sI s 232 := hEI 232 (by omega) (by omega) (by omega) (by omega) (by omega)
  refine ⟨r0.congr hSN (fun a k z1 z2 z3 => hER a k (by omega)) (fun a z1 z2 => by rw [hEI a (by omega) (by omega) (by omega) (by omega) (by omega)]), r1.congr (fun a h => hE a (by omega) (by omega) (by omega) (by omega) (by omega) (by omega)), r2.congr (fun a h => hE a (by omega) (by omega) (by omega) (by omega) (by omega) (by omega)), r3.congr (fun a h => hE a (by omega) (by omega) (by omega) (by omega) (by omega) (by omega)), r4.congr (fun a h => hE a (by omega) (by omega) (by omega) (by omega) (by omega) (by omega)) (by rw [h0]) (by rw [h7]), r5.congr (fun a h => hE a (by omega) (by omega) (by omega) (by omega) (by omega) (by omega)), r6.congr (fun a h => hE a (by omega) (by omega) (by omega) (by omega) (by omega) (by omega)), ⟨by rw [h0, h7]; exact el, nl, hnl, by rw [h7]; exact el2, fun l' hl' => ?_⟩, ?_⟩
  · by_cases hll : l' = l
    · subst hll
      obtain ⟨a1, a2, a3, a4, a5, m', hm', hm2', hm3', hi'⟩ := hL l' hl'
      have hmm : m' = m := (nI_eq (by omega) (by omega)).mp (hm2'.symm.trans z1)
      subst hmm
      have u : ∀ a, a = 231 ∨ a = 232 ∨ a = 227 ∨ a = 235 ∨ a = 236 ∨ a = 102 + 7 * l' ∨ a = 104 + 7 * l' ∨ a = 105 + 7 * l' ∨ a = 233 ∨ a = 234 → sI S a = sI s a := fun a h => hEI a (by omega) (by omega) (by omega) (by omega) (by omega)
      unfold RL1
      rw [u 231 (by omega), u 232 (by omega), u 227 (by omega), u 235 (by omega), u 236 (by omega), u (102 + 7 * l') (by omega), u (104 + 7 * l') (by omega), u (105 + 7 * l') (by omega), u 233 (by omega), u 234 (by omega), h7, t9, t7, t10 _ (by decide), t10 _ (by decide), hER _ _ (by omega), hER _ _ (by omega)]
      refine ⟨rfl, a2, a3, a4, a5, m' + 1, by omega, rfl, fun h => absurd h (by omega), fun k hk => ?_⟩
      by_cases hkm : k = m'
      · subst hkm
        rw [t1, t3, t5]
        refine ⟨⟨rfl, h3, g, hg20, by rw [en2]; exact nI_lt hgn (by omega), rfl, t11⟩, fun j hj => ?_⟩
        rw [t6 _ (by omega)]
        exact fun hq => hS ⟨l', hln, z, j, by rw [z1, nI_clamp (by omega)]; exact hj, hq⟩
      · obtain ⟨⟨d1, d2, d3, d4, d5, d6, d7⟩, d8⟩ := hi' k (by omega)
        rw [t2 _ hkm, t4 _ (by omega), t6 _ (by omega)]
        refine ⟨⟨d1, d2, d3, d4, d5, d6, by rw [hER _ _ (by omega)]; exact d7⟩, fun j hj => ?_⟩
        rw [t6 _ (by omega)]
        exact d8 j hj
    · refine (hL l' hl').fr hl' (fun a h3 h4 => hE a (by omega) (by omega) (by omega) (by omega) (by omega) (by omega)) (by rw [h7]) (fun b h3 h4 h5 h6 h7 h8 => ?_) (fun i hi => t6 _ (by omega)) (fun i' hi => t4 _ (by omega)) (fun i hi => by rw [hEI 233 (by omega) (by omega) (by omega) (by omega) (by omega)]) (fun i hi => by rw [hEI 234 (by omega) (by omega) (by omega) (by omega) (by omega)])
      by_cases hb : b = 228
      · subst hb
        exact t8 _ hll
      · rw [hEI b (by omega) (by omega) hb (by omega) (by omega)]
  · unfold R8 at r8 ⊢
    rw [h7, r8]
    refine (jup_eq 12 (fun l' hl' => ⟨by rw [w232], ?_⟩)).symm
    by_cases hll : l' = l
    · subst hll
      exact Or.inl z
    · refine Or.inr ⟨t8 _ hll, fun i hi => ?_⟩
      obtain ⟨m', h⟩ := (hL l' hl').lv r0 hl'
      rw [h.2.2.1, nI_clamp (by have := h.2.1; omega)] at hi
      rw [t6 _ (by have := h.2.1; omega), hEI 220 (by omega) (by omega) (by omega) (by omega) (by omega)]
