/-- what a look at a sheet's number of numbers says -/
theorem R1.at {s : Sg} (h : R1 s) {r : Nat} (hr : r < 3) : (sI s (15 + 3 * r) 3 = 0 ∧ sI s 208 r = -1) ∨ (sI s (15 + 3 * r) 3 = 1 ∧ ∃ n, n < 21 ∧ sI s 208 r = nI n ∧ sI s (15 + 3 * r) 2 = nI n) := by
  rcases h r hr with h | ⟨h1, h2, n, h3, h4, -⟩
  · exact Or.inl h
  · exact Or.inr ⟨h1, n, h3, h4, h2.trans h4⟩
/-- one sheet's cells as they were -/
theorem R1.one {s s' : Sg} (h : R1 s) {r : Nat} (hr : r < 3) (h1 : sI s' (15 + 3 * r) = sI s (15 + 3 * r)) (h2 : sF s' (16 + 3 * r) = sF s (16 + 3 * r)) (h3 : sI s' (17 + 3 * r) = sI s (17 + 3 * r)) (h4 : sI s' 208 r = sI s 208 r) (h5 : ∀ i, i < 20 → sF s' 209 (20 * r + i) = sF s 209 (20 * r + i)) (h6 : ∀ i, i < 20 → sI s' 210 (20 * r + i) = sI s 210 (20 * r + i)) : (sI s' (15 + 3 * r) 3 = 0 ∧ sI s' 208 r = -1) ∨ (sI s' (15 + 3 * r) 3 = 1 ∧ sI s' (15 + 3 * r) 2 = sI s' 208 r ∧ ∃ n, n < 21 ∧ sI s' 208 r = nI n ∧ ∀ i, i < n → sF s' (16 + 3 * r) i = sF s' 209 (20 * r + i) ∧ sI s' (17 + 3 * r) i = sI s' 210 (20 * r + i) ∧ (sI s' 210 (20 * r + i) = 0 ∨ sI s' 210 (20 * r + i) = 1) ∧ okF (sF s' 209 (20 * r + i))) := by
  rw [h1, h2, h3, h4]
  rcases h r hr with h | ⟨a1, a2, n, a3, a4, a5⟩
  · exact Or.inl h
  · refine Or.inr ⟨a1, a2, n, a3, a4, fun i hi => ?_⟩
    rw [h5 i (by omega), h6 i (by omega)]
    exact a5 i hi
theorem op_lose : Op1 mX8_lose mX9_lose := by
  intro s hr p1
  have hN := hr.1.1
  have hM := hr.1.m
  obtain ⟨r0, r1, r2, r3, r4, r5, r6, r7, r8⟩ := id hr
  by_cases h1 : btw p1 0 2
  rotate_left
  · exact ⟨-1, s, s, by simp only [mX8_lose, c8 hN, sheetAt_out r0 h1, cl_some, nn, if_true], hN, by simp only [mX9_lose, isSheet_n h1, cl_some, i00, if_false, not_true], hr⟩
  obtain ⟨r, hr3, rfl⟩ := btw_nI 3 h1 (by decide)
  obtain ⟨k1, k2, k3, k4, k5⟩ := kdSh r hr3
  rcases r1.at hr3 with ⟨z1, z2⟩ | ⟨z1, n, hn, z2, z3⟩
  · refine ⟨-3, s, s, ?_, hN, ?_, hr⟩
    · simp only [mX8_lose, c8 hN, sheetAt_in r0 hr3, cl_some, sn, if_false]
      rw [gdI_at k1 (by omega), z1, if_neg (by decide)]
    · simp only [mX9_lose, isSheet_y h1, cl_some, i10, if_true, not_false_iff]
      rw [mR hM 0 208 rfl (by decide) (by decide), alI_n (show r < ln 208 from hr3) (by decide) (by omega), z2, if_neg (by decide)]
  · have e1 : mX8_lose 0 (nI r) s = some (1, uI s (15 + 3 * r) 3 0) := by
      simp only [mX8_lose, c8 hN, sheetAt_in r0 hr3, cl_some, sn, if_false]
      rw [gdI_at k1 (by omega), z1, if_pos (by decide), ptZ_at (Or.inl rfl) k1 (by omega)]
    have e2 : ∀ s1, M0 s1 → sI s1 208 r = nI n → mX9_lose 207 (nI r) s1 = some (1, uI s1 208 r (-1)) := by
      intro s1 m1 f1
      have m1N := m1.1
      simp only [mX9_lose, isSheet_y h1, cl_some, i10, if_true, not_false_iff]
      rw [mR m1 0 208 rfl (by decide) (by decide), alI_n (show r < ln 208 from hr3) (by decide) (by omega), f1, if_pos (nI_pos' (by omega)), mR m1 0 208 rfl (by decide) (by decide), asI_n (show r < ln 208 from hr3) (by decide) (by omega)]
    refine ⟨1, _, _, e1, hN, e2 _ hM.uI (by rw [sI_ne (by omega)]; exact z2), ?_⟩
    have hE : ∀ a, a ≠ 15 + 3 * r → a ≠ 208 → Eqc s (uI (uI s (15 + 3 * r) 3 0) 208 r (-1)) a := fun a z0 z1 => (Eqc.rf.uI z0).uI z1
    have hz : ∀ q, sI (uI (uI s (15 + 3 * r) 3 0) 208 r (-1)) 0 q = sI s 0 q := fun q => by rw [sI_ne (by omega), sI_ne (by omega)]
    have hz2 : ∀ q, sI (uI (uI s (15 + 3 * r) 3 0) 208 r (-1)) 207 q = sI s 207 q := fun q => by rw [sI_ne (by omega), sI_ne (by omega)]
    refine ⟨(r0.uI (Or.inl (by decide))).uI (Or.inr (Or.inr (by omega))), fun r' hr' => ?_, r2.congr (fun a h => hE a (by omega) (by omega)), r3.congr (fun a h => hE a (by omega) (by omega)), r4.congr (fun a h => hE a (by omega) (by omega)) (hz _) (hz2 _), r5.congr (fun a h => hE a (by omega) (by omega)), r6.congr (fun a h => hE a (by omega) (by omega)), r7.congr (fun a h => hE a (by omega) (by omega)) (hz _) (hz2 _) (hz2 _), r8.congr (fun a h => hE a (by omega) (by omega)) (hz2 _)⟩
    by_cases hrr : r' = r
    · subst hrr
      exact Or.inl ⟨by rw [sI_ne (by omega), sI_s], sI_s⟩
    · exact r1.one hr' (by rw [sI_fa (by omega), sI_fa (by omega)]) rfl (by rw [sI_fa (by omega), sI_fa (by omega)]) (by rw [sI_nk hrr, sI_ne (by omega)]) (fun i _ => rfl) (fun i _ => by rw [sI_ne (by omega), sI_ne (by omega)])
theorem sheetHas {s : Sg} (r0 : R0 s) {r n : Nat} (hr : r < 3) (hn : n < 21) (e : sI s (15 + 3 * r) 2 = nI n) (p : Int32) : (noP n p ∧ mX7_has (15 + 3 * r) p s = some (0, s)) ∨ ∃ i, i < n ∧ p = nI i ∧ mX7_has (15 + 3 * r) p s = some (1, s) := by
  have hN := r0.1
  obtain ⟨k1, k2, k3, k4, k5⟩ := kdSh r hr
  rcases plc n (by omega) p with hp | ⟨i, hi, rfl⟩
  · refine Or.inl ⟨hp, ?_⟩
    unfold mX7_has
    rcases hp with ⟨-, q⟩ | ⟨-, q, q9⟩
    · rw [if_pos q]
      rfl
    · rw [if_neg q9, gdI_at k1 (by omega), e, if_pos q]
      rfl
  · refine Or.inr ⟨i, hi, rfl, ?_⟩
    obtain ⟨h0, q0, q1, q2, q3, q4, q5, q6, q7, q8, q9, q10, q11, q12, q13, b1, -⟩ := r0
    unfold mX7_has
    rw [if_neg (nI0 (by omega)), gdI_at k1 (by omega), e, if_neg (nIn hi (by omega)), gdR_at k1 (by omega), (b1 r hr).2.1, aln_at (Or.inl k2) (by omega), if_neg (by rw [k4]; exact nIn (by omega) (by decide))]
    rfl
theorem op_gap : Op2 mX8_gap mX9_gap := by
  intro s hr p1 p2
  have hN := hr.1.1
  have hM := hr.1.m
  obtain ⟨r0, r1, r2, r3, r4, r5, r6, r7, r8⟩ := id hr
  by_cases h1 : btw p1 0 2
  rotate_left
  · exact ⟨-1, s, s, by simp only [mX8_gap, c8 hN, sheetAt_out r0 h1, cl_some, nn, if_true], hN, by simp only [mX9_gap, isSheet_n h1, cl_some, i00, if_false, not_true], hr⟩
  obtain ⟨r, hr3, rfl⟩ := btw_nI 3 h1 (by decide)
  obtain ⟨k1, k2, k3, k4, k5⟩ := kdSh r hr3
  rcases r1.at hr3 with ⟨z1, z2⟩ | ⟨z1, n, hn, z2, z3⟩
  · refine ⟨-3, s, s, ?_, hN, ?_, hr⟩
    · simp only [mX8_gap, c8 hN, sheetAt_in r0 hr3, cl_some, sn, if_false]
      rw [gdI_at k1 (by omega), z1, if_neg (by decide)]
    · simp only [mX9_gap, isSheet_y h1, cl_some, i10, if_true, not_false_iff]
      rw [mR hM 0 208 rfl (by decide) (by decide), alI_n (show r < ln 208 from hr3) (by decide) (by omega), z2, if_neg (by decide)]
  · rcases sheetHas r0 hr3 hn z3 p2 with ⟨hp, eh⟩ | ⟨i, hi, rfl, eh⟩
    · refine ⟨-1, s, s, ?_, hN, ?_, hr⟩
      · simp only [mX8_gap, c8 hN, sheetAt_in r0 hr3, cl_some, sn, if_false]
        rw [gdI_at k1 (by omega), z1, if_pos (by decide), cv_at k1 (by omega), eh, cl_some, if_neg (by decide)]
      · simp only [mX9_gap, isSheet_y h1, cl_some, i10, if_true, not_false_iff]
        rw [mR hM 0 208 rfl (by decide) (by decide), alI_n (show r < ln 208 from hr3) (by decide) (by omega), z2, if_pos (nI_pos' (by omega)), mR hM 0 208 rfl (by decide) (by decide), alI_n (show r < ln 208 from hr3) (by decide) (by omega), z2, in_nn (noP_in hp) (by omega), cl_some, if_neg (by decide)]
    · have e1 : mX8_gap 0 (nI r) (nI i) s = some (1, uI s (17 + 3 * r) i 1) := by
        have q := r0
        obtain ⟨h0, q0, q1, q2, q3, q4, q5, q6, q7, q8, q9, q10, q11, q12, q13, b1, -⟩ := q
        simp only [mX8_gap, c8 hN, sheetAt_in r0 hr3, cl_some, sn, if_false]
        rw [gdI_at k1 (by omega), z1, if_pos (by decide), cv_at k1 (by omega), eh, cl_some, if_pos (by decide), cv_at k1 (by omega)]
        unfold mX7_blank
        rw [cv_at k1 (by omega), eh, cl_some, if_neg (by decide), gdR_at k1 (by omega), (b1 r hr3).2.2, asZ_n (Or.inr rfl) (by omega) k3 (by omega)]
        rfl
      have hmul : (20 * nI r) + nI i = nI (20 * r + i) := by
        rw [show (20 : Int32) = nI 20 from rfl, pk_mul, nI_add]
      have e2 : ∀ s1, M0 s1 → sI s1 208 r = nI n → mX9_gap 207 (nI r) (nI i) s1 = some (1, uI s1 210 (20 * r + i) 1) := by
        intro s1 m1 f1
        have m1N := m1.1
        simp only [mX9_gap, isSheet_y h1, cl_some, i10, if_true, not_false_iff]
        rw [mR m1 0 208 rfl (by decide) (by decide), alI_n (show r < ln 208 from hr3) (by decide) (by omega), f1, if_pos (nI_pos' (by omega)), mR m1 0 208 rfl (by decide) (by decide), alI_n (show r < ln 208 from hr3) (by decide) (by omega), f1, in_ny hi (by omega), cl_some, if_pos (by decide), mR m1 2 210 rfl (by decide) (by decide), hmul, asZ_n (Or.inr rfl) (show 20 * r + i < 60 by omega) (by decide) (by omega)]
      refine ⟨1, _, _, e1, hN, e2 _ hM.uI (by rw [sI_ne (by omega)]; exact z2), ?_⟩
      have hE : ∀ a, a ≠ 17 + 3 * r → a ≠ 210 → Eqc s (uI (uI s (17 + 3 * r) i 1) 210 (20 * r + i) 1) a := fun a z0 z1 => (Eqc.rf.uI z0).uI z1
      have hz : ∀ q, sI (uI (uI s (17 + 3 * r) i 1) 210 (20 * r + i) 1) 0 q = sI s 0 q := fun q => by rw [sI_ne (by omega), sI_ne (by omega)]
      have hz2 : ∀ q, sI (uI (uI s (17 + 3 * r) i 1) 210 (20 * r + i) 1) 207 q = sI s 207 q := fun q => by rw [sI_ne (by omega), sI_ne (by omega)]
      refine ⟨(r0.uI (Or.inr (Or.inl (by omega)))).uI (Or.inr (Or.inr (by omega))), fun r' hr' => ?_, r2.congr (fun a h => hE a (by omega) (by omega)), r3.congr (fun a h => hE a (by omega) (by omega)), r4.congr (fun a h => hE a (by omega) (by omega)) (hz _) (hz2 _), r5.congr (fun a h => hE a (by omega) (by omega)), r6.congr (fun a h => hE a (by omega) (by omega)), r7.congr (fun a h => hE a (by omega) (by omega)) (hz _) (hz2 _) (hz2 _), r8.congr (fun a h => hE a (by omega) (by omega)) (hz2 _)⟩
      by_cases hrr : r' = r
      · subst hrr
        right
        rcases r1 r' hr' with q | ⟨g1, g2, n2, g3, g4, g5⟩
        · exact absurd (z1.symm.trans q.1) (by decide)
        have hs : ∀ b q, b ≠ 17 + 3 * r' → b ≠ 210 → sI (uI (uI s (17 + 3 * r') i 1) 210 (20 * r' + i) 1) b q = sI s b q := fun b q y0 y1 => by rw [sI_ne y1, sI_ne y0]
        refine ⟨by rw [hs _ _ (by omega) (by omega)]; exact g1, by rw [hs _ _ (by omega) (by omega), hs _ _ (by omega) (by omega)]; exact g2, n2, g3, by rw [hs _ _ (by omega) (by omega)]; exact g4, fun j hj => ?_⟩
        obtain ⟨f1, f2, f3, f4⟩ := g5 j hj
        by_cases hji : j = i
        · subst hji
          refine ⟨f1, by rw [sI_ne (by omega), sI_s, sI_s], Or.inr sI_s, f4⟩
        · have y1 : sI (uI (uI s (17 + 3 * r') i 1) 210 (20 * r' + i) 1) 210 (20 * r' + j) = sI s 210 (20 * r' + j) := by rw [sI_nk (by omega), sI_ne (by omega)]
          have y2 : sI (uI (uI s (17 + 3 * r') i 1) 210 (20 * r' + i) 1) (17 + 3 * r') j = sI s (17 + 3 * r') j := by rw [sI_ne (by omega), sI_nk hji]
          rw [y1, y2]
          exact ⟨f1, f2, f3, f4⟩
      · exact r1.one hr' (by rw [sI_fa (by omega), sI_fa (by omega)]) rfl (by rw [sI_fa (by omega), sI_fa (by omega)]) (by rw [sI_ne (by omega), sI_ne (by omega)]) (fun j _ => rfl) (fun j hj => by rw [sI_nk (by omega), sI_ne (by omega)])
