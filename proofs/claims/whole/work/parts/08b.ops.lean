theorem op_blows : Op2 mX8_blows mX9_blows := by
  intro s hr p1 p2
  have hN := hr.1.1
  have hM := hr.1.m
  by_cases h1 : btw p1 0 11
  rotate_left
  · exact ⟨-1000, s, s, by simp only [mX8_blows, Wn0_11 h1, cl_some, i00, i10, if_true, if_false, not_true, not_false_iff, sn, nn], hN, by simp only [mX9_blows, Mn0_11 h1, cl_some, i00, i10, if_true, if_false, not_true, not_false_iff, sn, nn], hr⟩
  by_cases h2 : btw p2 0 1
  rotate_left
  · exact ⟨-1000, s, s, by simp only [mX8_blows, Wy0_11 h1, Wn0_1 h2, cl_some, i00, i10, if_true, if_false, not_true, not_false_iff, sn, nn], hN, by simp only [mX9_blows, My0_11 h1, Mn0_1 h2, cl_some, i00, i10, if_true, if_false, not_true, not_false_iff, sn, nn], hr⟩
  obtain ⟨k, hk, rfl⟩ := btw_nI 12 h1 (by decide)
  have q := hr.1
  obtain ⟨h0, q0, q1, q2, q3, q4, q5, q6, q7, q8, q9, q10, -⟩ := q
  obtain ⟨b1, b2, -, -⟩ := hr.2.2.1 k hk
  have n12 : ¬ (12 : Int32) ≤ nI k := nIn hk (by decide)
  by_cases hz : p2 = 0
  · subst hz
    refine ⟨sI s 211 k, s, s, ?_, hN, ?_, hr⟩
    · simp only [mX8_blows, Wy0_11 h1, Wy0_1 h2, cl_some, i10, if_false, if_true, not_false_iff, i00, not_true]
      rw [dR h0, q1, cv_at (by decide) (by rw [h0]; decide)]
      unfold mX0_alongX
      rw [if_neg (nI0 (by omega)), if_neg n12, gdR_at (by decide) (by rw [h0]; decide), q9, alI_n (show k < ln 3 from hk) (by decide) (by rw [h0]; decide), b1]
      rfl
    · simp only [mX9_blows, My0_11 h1, My0_1 h2, cl_some, i10, if_false, if_true, not_false_iff, i00, not_true]
      rw [mR hM 3 211 rfl (by decide) (by decide), alI_n (show k < ln 211 from hk) (by decide) (by rw [h0]; decide)]
  · refine ⟨sI s 212 k, s, s, ?_, hN, ?_, hr⟩
    · simp only [mX8_blows, Wy0_11 h1, Wy0_1 h2, cl_some, i10, if_false, if_true, not_false_iff, hz]
      rw [dR h0, q1, cv_at (by decide) (by rw [h0]; decide)]
      unfold mX0_alongY
      rw [if_neg (nI0 (by omega)), if_neg n12, gdR_at (by decide) (by rw [h0]; decide), q10, alI_n (show k < ln 4 from hk) (by decide) (by rw [h0]; decide), b2]
      rfl
    · simp only [mX9_blows, My0_11 h1, My0_1 h2, cl_some, i10, if_false, if_true, not_false_iff, hz]
      rw [mR hM 4 212 rfl (by decide) (by decide), alI_n (show k < ln 212 from hk) (by decide) (by rw [h0]; decide)]
theorem op_jumper : Op4 mX8_jumper mX9_jumper := by
  intro s hr p1 p2 p3 p4
  have hN := hr.1.1
  have hM := hr.1.m
  by_cases h1 : btw p1 0 31
  rotate_left
  · exact ⟨-1, s, s, by simp only [mX8_jumper, c8 hN, jumperAt_out hr.1 h1, cl_some, i00, i10, if_true, if_false, not_true, not_false_iff, sn, nn], hN, by simp only [mX9_jumper, Mn0_31 h1, cl_some, i00, i10, if_true, if_false, not_true, not_false_iff, sn, nn], hr⟩
  obtain ⟨j, hj, rfl⟩ := btw_nI 32 h1 (by decide)
  by_cases h2 : btw p2 0 2
  rotate_left
  · exact ⟨-1, s, s, by simp only [mX8_jumper, c8 hN, jumperAt_in hr.1 hj, Wn0_2 h2, cl_some, i00, i10, if_true, if_false, not_true, not_false_iff, sn, nn], hN, by simp only [mX9_jumper, My0_31 h1, Mn0_2 h2, cl_some, i00, i10, if_true, if_false, not_true, not_false_iff, sn, nn], hr⟩
  by_cases h3 : btw p3 40 200
  rotate_left
  · exact ⟨-1, s, s, by simp only [mX8_jumper, c8 hN, jumperAt_in hr.1 hj, Wy0_2 h2, Wn40_200 h3, cl_some, i00, i10, if_true, if_false, not_true, not_false_iff, sn, nn], hN, by simp only [mX9_jumper, My0_31 h1, My0_2 h2, Mn40_200 h3, cl_some, i00, i10, if_true, if_false, not_true, not_false_iff, sn, nn], hr⟩
  by_cases h4 : btw p4 0 1000
  rotate_left
  · exact ⟨-1, s, s, by simp only [mX8_jumper, c8 hN, jumperAt_in hr.1 hj, Wy0_2 h2, Wy40_200 h3, Wn0_1000 h4, cl_some, i00, i10, if_true, if_false, not_true, not_false_iff, sn, nn], hN, by simp only [mX9_jumper, My0_31 h1, My0_2 h2, My40_200 h3, Mn0_1000 h4, cl_some, i00, i10, if_true, if_false, not_true, not_false_iff, sn, nn], hr⟩
  obtain ⟨r0, r1, r2, r3, r4, r5, r6, r7, r8⟩ := hr
  have kj := kdJu j hj
  have e1 : mX8_jumper 0 (nI j) p2 p3 p4 s = some (1, uI (uI (uI s (24 + j) 1 p2) (24 + j) 2 p3) (24 + j) 3 p4) := by
    simp only [mX8_jumper, c8 hN, jumperAt_in r0 hj, Wy0_2 h2, Wy40_200 h3, Wy0_1000 h4, cl_some, i10, if_false, if_true, not_false_iff, sn]
    rw [cv_at kj (by omega)]
    unfold mX3_become
    rw [ptI_at kj (by first | omega | (simp only [sN_uI]; omega)), ptI_at kj (by first | omega | (simp only [sN_uI]; omega)), ptI_at kj (by first | omega | (simp only [sN_uI]; omega))]
    rfl
  have e2 : ∀ s1, M0 s1 → mX9_jumper 207 (nI j) p2 p3 p4 s1 = some (1, uI (uI (uI s1 213 j p2) 214 j p3) 215 j p4) := by
    intro s1 m1
    have m1N := m1.1
    simp only [mX9_jumper, My0_31 h1, My0_2 h2, My40_200 h3, My0_1000 h4, cl_some, i10, if_false, if_true, not_false_iff]
    rw [mR m1 5 213 rfl (by decide) (by decide), asI_n (show j < ln 213 from hj) (by decide) (by first | omega | (simp only [sN_uI]; omega)), mR m1.uI 6 214 rfl (by decide) (by decide), asI_n (show j < ln 214 from hj) (by decide) (by first | omega | (simp only [sN_uI]; omega)), mR (m1.uI.uI) 7 215 rfl (by decide) (by decide), asI_n (show j < ln 215 from hj) (by decide) (by first | omega | (simp only [sN_uI]; omega))]
  refine ⟨1, _, _, e1, hN, e2 _ hM.uI.uI.uI, ?_⟩
  have hE : ∀ a, a ≠ 24 + j → a ≠ 213 → a ≠ 214 → a ≠ 215 → Eqc s (uI (uI (uI (uI (uI (uI s (24 + j) 1 p2) (24 + j) 2 p3) (24 + j) 3 p4) 213 j p2) 214 j p3) 215 j p4) a := fun a z0 z1 z2 z3 => ((((((Eqc.rf.uI z0).uI z0).uI z0).uI z1).uI z2).uI z3)
  refine ⟨((((((r0.uI (Or.inl (by decide))).uI (Or.inl (by decide))).uI (Or.inl (by decide))).uI (Or.inr (Or.inr (by omega)))).uI (Or.inr (Or.inr (by omega)))).uI (Or.inr (Or.inr (by omega)))), r1.congr (fun a h => hE a (by omega) (by omega) (by omega) (by omega)), r2.congr (fun a h => hE a (by omega) (by omega) (by omega) (by omega)), ?_, r4.congr (fun a h => hE a (by omega) (by omega) (by omega) (by omega)) (by repeat rw [sI_ne (by omega)]) (by repeat rw [sI_ne (by omega)]), r5.congr (fun a h => hE a (by omega) (by omega) (by omega) (by omega)), r6.congr (fun a h => hE a (by omega) (by omega) (by omega) (by omega)), r7.congr (fun a h => hE a (by omega) (by omega) (by omega) (by omega)) (by repeat rw [sI_ne (by omega)]) (by repeat rw [sI_ne (by omega)]) (by repeat rw [sI_ne (by omega)]), r8.congr (fun a h => hE a (by omega) (by omega) (by omega) (by omega)) (by repeat rw [sI_ne (by omega)])⟩
  intro i hi
  have z := r3 i hi
  have A : ∀ q, sI (uI (uI (uI (uI (uI (uI s (24 + j) 1 p2) (24 + j) 2 p3) (24 + j) 3 p4) 213 j p2) 214 j p3) 215 j p4) (24 + i) q = sI (uI (uI (uI s (24 + j) 1 p2) (24 + j) 2 p3) (24 + j) 3 p4) (24 + i) q := fun q => by
    rw [sI_ne (by omega), sI_ne (by omega), sI_ne (by omega)]
  have B0 : ∀ q, sI (uI (uI (uI (uI (uI (uI s (24 + j) 1 p2) (24 + j) 2 p3) (24 + j) 3 p4) 213 j p2) 214 j p3) 215 j p4) 213 q = if q = j then p2 else sI s 213 q := fun q => by
    rw [sI_ne (by omega), sI_ne (by omega)]
    by_cases hq : q = j
    · subst hq
      rw [sI_s, if_pos rfl]
    · rw [sI_nk hq, if_neg hq, sI_ne (by omega), sI_ne (by omega), sI_ne (by omega)]
  have B1 : ∀ q, sI (uI (uI (uI (uI (uI (uI s (24 + j) 1 p2) (24 + j) 2 p3) (24 + j) 3 p4) 213 j p2) 214 j p3) 215 j p4) 214 q = if q = j then p3 else sI s 214 q := fun q => by
    rw [sI_ne (by omega)]
    by_cases hq : q = j
    · subst hq
      rw [sI_s, if_pos rfl]
    · rw [sI_nk hq, if_neg hq, sI_ne (by omega), sI_ne (by omega), sI_ne (by omega), sI_ne (by omega)]
  have B2 : ∀ q, sI (uI (uI (uI (uI (uI (uI s (24 + j) 1 p2) (24 + j) 2 p3) (24 + j) 3 p4) 213 j p2) 214 j p3) 215 j p4) 215 q = if q = j then p4 else sI s 215 q := fun q => by
    by_cases hq : q = j
    · subst hq
      rw [sI_s, if_pos rfl]
    · rw [sI_nk hq, if_neg hq, sI_ne (by omega), sI_ne (by omega), sI_ne (by omega), sI_ne (by omega), sI_ne (by omega)]
  rw [A 1, A 2, A 3, B0, B1, B2]
  by_cases hij : i = j
  · subst hij
    simp only [if_true]
    exact ⟨(by rw [sI_nk (by decide), sI_nk (by decide), sI_s]), (by rw [sI_nk (by decide), sI_s]), (by rw [sI_s]), h2, h3, h4⟩
  · simp only [hij, if_false]
    rw [sI_ne (show 24 + i ≠ 24 + j by omega), sI_ne (show 24 + i ≠ 24 + j by omega), sI_ne (show 24 + i ≠ 24 + j by omega), sI_ne (show 24 + i ≠ 24 + j by omega), sI_ne (show 24 + i ≠ 24 + j by omega), sI_ne (show 24 + i ≠ 24 + j by omega), sI_ne (show 24 + i ≠ 24 + j by omega), sI_ne (show 24 + i ≠ 24 + j by omega), sI_ne (show 24 + i ≠ 24 + j by omega)]
    exact z
theorem op_plane : Op5 mX8_plane mX9_plane := by
  intro s hr p1 p2 p3 p4 p5
  have hN := hr.1.1
  have hM := hr.1.m
  by_cases h1 : btw p1 0 2
  rotate_left
  · exact ⟨-1, s, s, by simp only [mX8_plane, c8 hN, planeAt_out hr.1 h1, cl_some, i00, i10, if_true, if_false, not_true, not_false_iff, sn, nn], hN, by simp only [mX9_plane, Mn0_2 h1, cl_some, i00, i10, if_true, if_false, not_true, not_false_iff, sn, nn], hr⟩
  obtain ⟨j, hj, rfl⟩ := btw_nI 3 h1 (by decide)
  by_cases h2 : btw p2 1 20
  rotate_left
  · exact ⟨-1, s, s, by simp only [mX8_plane, c8 hN, planeAt_in hr.1 hj, Wn1_20 h2, cl_some, i00, i10, if_true, if_false, not_true, not_false_iff, sn, nn], hN, by simp only [mX9_plane, My0_2 h1, Mn1_20 h2, cl_some, i00, i10, if_true, if_false, not_true, not_false_iff, sn, nn], hr⟩
  by_cases h3 : btw p3 100 4000
  rotate_left
  · exact ⟨-1, s, s, by simp only [mX8_plane, c8 hN, planeAt_in hr.1 hj, Wy1_20 h2, Wn100_4000 h3, cl_some, i00, i10, if_true, if_false, not_true, not_false_iff, sn, nn], hN, by simp only [mX9_plane, My0_2 h1, My1_20 h2, Mn100_4000 h3, cl_some, i00, i10, if_true, if_false, not_true, not_false_iff, sn, nn], hr⟩
  by_cases h4 : btw p4 200 600
  rotate_left
  · exact ⟨-1, s, s, by simp only [mX8_plane, c8 hN, planeAt_in hr.1 hj, Wy1_20 h2, Wy100_4000 h3, Wn200_600 h4, cl_some, i00, i10, if_true, if_false, not_true, not_false_iff, sn, nn], hN, by simp only [mX9_plane, My0_2 h1, My1_20 h2, My100_4000 h3, Mn200_600 h4, cl_some, i00, i10, if_true, if_false, not_true, not_false_iff, sn, nn], hr⟩
  by_cases h5 : btw p5 15000 47000
  rotate_left
  · exact ⟨-1, s, s, by simp only [mX8_plane, c8 hN, planeAt_in hr.1 hj, Wy1_20 h2, Wy100_4000 h3, Wy200_600 h4, Wn15000_47000 h5, cl_some, i00, i10, if_true, if_false, not_true, not_false_iff, sn, nn], hN, by simp only [mX9_plane, My0_2 h1, My1_20 h2, My100_4000 h3, My200_600 h4, Mn15000_47000 h5, cl_some, i00, i10, if_true, if_false, not_true, not_false_iff, sn, nn], hr⟩
  obtain ⟨r0, r1, r2, r3, r4, r5, r6, r7, r8⟩ := hr
  have kj := kdPl j hj
  have e1 : mX8_plane 0 (nI j) p2 p3 p4 p5 s = some (1, uI (uI (uI (uI s (96 + j) 1 p2) (96 + j) 2 p3) (96 + j) 3 p4) (96 + j) 4 p5) := by
    simp only [mX8_plane, c8 hN, planeAt_in r0 hj, Wy1_20 h2, Wy100_4000 h3, Wy200_600 h4, Wy15000_47000 h5, cl_some, i10, if_false, if_true, not_false_iff, sn]
    rw [cv_at kj (by omega)]
    unfold mX6_become
    rw [ptI_at kj (by first | omega | (simp only [sN_uI]; omega)), ptI_at kj (by first | omega | (simp only [sN_uI]; omega)), ptI_at kj (by first | omega | (simp only [sN_uI]; omega)), ptI_at kj (by first | omega | (simp only [sN_uI]; omega))]
    rfl
  have e2 : ∀ s1, M0 s1 → mX9_plane 207 (nI j) p2 p3 p4 p5 s1 = some (1, uI (uI (uI (uI s1 222 j p2) 223 j p3) 224 j p4) 225 j p5) := by
    intro s1 m1
    have m1N := m1.1
    simp only [mX9_plane, My0_2 h1, My1_20 h2, My100_4000 h3, My200_600 h4, My15000_47000 h5, cl_some, i10, if_false, if_true, not_false_iff]
    rw [mR m1 15 222 rfl (by decide) (by decide), asI_n (show j < ln 222 from hj) (by decide) (by first | omega | (simp only [sN_uI]; omega)), mR m1.uI 16 223 rfl (by decide) (by decide), asI_n (show j < ln 223 from hj) (by decide) (by first | omega | (simp only [sN_uI]; omega)), mR (m1.uI.uI) 17 224 rfl (by decide) (by decide), asI_n (show j < ln 224 from hj) (by decide) (by first | omega | (simp only [sN_uI]; omega)), mR ((m1.uI.uI).uI) 18 225 rfl (by decide) (by decide), asI_n (show j < ln 225 from hj) (by decide) (by first | omega | (simp only [sN_uI]; omega))]
  refine ⟨1, _, _, e1, hN, e2 _ hM.uI.uI.uI.uI, ?_⟩
  have hE : ∀ a, a ≠ 96 + j → a ≠ 222 → a ≠ 223 → a ≠ 224 → a ≠ 225 → Eqc s (uI (uI (uI (uI (uI (uI (uI (uI s (96 + j) 1 p2) (96 + j) 2 p3) (96 + j) 3 p4) (96 + j) 4 p5) 222 j p2) 223 j p3) 224 j p4) 225 j p5) a := fun a z0 z1 z2 z3 z4 => ((((((((Eqc.rf.uI z0).uI z0).uI z0).uI z0).uI z1).uI z2).uI z3).uI z4)
  refine ⟨((((((((r0.uI (Or.inl (by decide))).uI (Or.inl (by decide))).uI (Or.inl (by decide))).uI (Or.inl (by decide))).uI (Or.inr (Or.inr (by omega)))).uI (Or.inr (Or.inr (by omega)))).uI (Or.inr (Or.inr (by omega)))).uI (Or.inr (Or.inr (by omega)))), r1.congr (fun a h => hE a (by omega) (by omega) (by omega) (by omega) (by omega)), r2.congr (fun a h => hE a (by omega) (by omega) (by omega) (by omega) (by omega)), r3.congr (fun a h => hE a (by omega) (by omega) (by omega) (by omega) (by omega)), r4.congr (fun a h => hE a (by omega) (by omega) (by omega) (by omega) (by omega)) (by repeat rw [sI_ne (by omega)]) (by repeat rw [sI_ne (by omega)]), ?_, r6.congr (fun a h => hE a (by omega) (by omega) (by omega) (by omega) (by omega)), r7.congr (fun a h => hE a (by omega) (by omega) (by omega) (by omega) (by omega)) (by repeat rw [sI_ne (by omega)]) (by repeat rw [sI_ne (by omega)]) (by repeat rw [sI_ne (by omega)]), r8.congr (fun a h => hE a (by omega) (by omega) (by omega) (by omega) (by omega)) (by repeat rw [sI_ne (by omega)])⟩
  intro i hi
  have z := r5 i hi
  have A : ∀ q, sI (uI (uI (uI (uI (uI (uI (uI (uI s (96 + j) 1 p2) (96 + j) 2 p3) (96 + j) 3 p4) (96 + j) 4 p5) 222 j p2) 223 j p3) 224 j p4) 225 j p5) (96 + i) q = sI (uI (uI (uI (uI s (96 + j) 1 p2) (96 + j) 2 p3) (96 + j) 3 p4) (96 + j) 4 p5) (96 + i) q := fun q => by
    rw [sI_ne (by omega), sI_ne (by omega), sI_ne (by omega), sI_ne (by omega)]
  have B0 : ∀ q, sI (uI (uI (uI (uI (uI (uI (uI (uI s (96 + j) 1 p2) (96 + j) 2 p3) (96 + j) 3 p4) (96 + j) 4 p5) 222 j p2) 223 j p3) 224 j p4) 225 j p5) 222 q = if q = j then p2 else sI s 222 q := fun q => by
    rw [sI_ne (by omega), sI_ne (by omega), sI_ne (by omega)]
    by_cases hq : q = j
    · subst hq
      rw [sI_s, if_pos rfl]
    · rw [sI_nk hq, if_neg hq, sI_ne (by omega), sI_ne (by omega), sI_ne (by omega), sI_ne (by omega)]
  have B1 : ∀ q, sI (uI (uI (uI (uI (uI (uI (uI (uI s (96 + j) 1 p2) (96 + j) 2 p3) (96 + j) 3 p4) (96 + j) 4 p5) 222 j p2) 223 j p3) 224 j p4) 225 j p5) 223 q = if q = j then p3 else sI s 223 q := fun q => by
    rw [sI_ne (by omega), sI_ne (by omega)]
    by_cases hq : q = j
    · subst hq
      rw [sI_s, if_pos rfl]
    · rw [sI_nk hq, if_neg hq, sI_ne (by omega), sI_ne (by omega), sI_ne (by omega), sI_ne (by omega), sI_ne (by omega)]
  have B2 : ∀ q, sI (uI (uI (uI (uI (uI (uI (uI (uI s (96 + j) 1 p2) (96 + j) 2 p3) (96 + j) 3 p4) (96 + j) 4 p5) 222 j p2) 223 j p3) 224 j p4) 225 j p5) 224 q = if q = j then p4 else sI s 224 q := fun q => by
    rw [sI_ne (by omega)]
    by_cases hq : q = j
    · subst hq
      rw [sI_s, if_pos rfl]
    · rw [sI_nk hq, if_neg hq, sI_ne (by omega), sI_ne (by omega), sI_ne (by omega), sI_ne (by omega), sI_ne (by omega), sI_ne (by omega)]
  have B3 : ∀ q, sI (uI (uI (uI (uI (uI (uI (uI (uI s (96 + j) 1 p2) (96 + j) 2 p3) (96 + j) 3 p4) (96 + j) 4 p5) 222 j p2) 223 j p3) 224 j p4) 225 j p5) 225 q = if q = j then p5 else sI s 225 q := fun q => by
    by_cases hq : q = j
    · subst hq
      rw [sI_s, if_pos rfl]
    · rw [sI_nk hq, if_neg hq, sI_ne (by omega), sI_ne (by omega), sI_ne (by omega), sI_ne (by omega), sI_ne (by omega), sI_ne (by omega), sI_ne (by omega)]
  rw [A 1, A 2, A 3, A 4, B0, B1, B2, B3]
  by_cases hij : i = j
  · subst hij
    simp only [if_true]
    exact ⟨(by rw [sI_nk (by decide), sI_nk (by decide), sI_nk (by decide), sI_s]), (by rw [sI_nk (by decide), sI_nk (by decide), sI_s]), (by rw [sI_nk (by decide), sI_s]), (by rw [sI_s]), h2, h3, h4, h5⟩
  · simp only [hij, if_false]
    rw [sI_ne (show 96 + i ≠ 96 + j by omega), sI_ne (show 96 + i ≠ 96 + j by omega), sI_ne (show 96 + i ≠ 96 + j by omega), sI_ne (show 96 + i ≠ 96 + j by omega), sI_ne (show 96 + i ≠ 96 + j by omega), sI_ne (show 96 + i ≠ 96 + j by omega), sI_ne (show 96 + i ≠ 96 + j by omega), sI_ne (show 96 + i ≠ 96 + j by omega), sI_ne (show 96 + i ≠ 96 + j by omega), sI_ne (show 96 + i ≠ 96 + j by omega), sI_ne (show 96 + i ≠ 96 + j by omega), sI_ne (show 96 + i ≠ 96 + j by omega), sI_ne (show 96 + i ≠ 96 + j by omega), sI_ne (show 96 + i ≠ 96 + j by omega), sI_ne (show 96 + i ≠ 96 + j by omega), sI_ne (show 96 + i ≠ 96 + j by omega)]
    exact z
