theorem op_wind : Op3 mX8_wind mX9_wind := by
  intro s hr p1 p2 p3
  have hN := hr.1.1
  have hM := hr.1.m
  by_cases h1 : btw p1 0 11
  rotate_left
  · exact ⟨-1, s, s, by simp only [mX8_wind, Wn0_11 h1, cl_some, i00, if_true], hN, by simp only [mX9_wind, Mn0_11 h1, cl_some, i00, if_true], hr⟩
  by_cases h2 : btw p2 (-300) 300
  rotate_left
  · exact ⟨-1, s, s, by simp only [mX8_wind, Wy0_11 h1, isWind_n h2, cl_some, i00, i10, if_true, if_false], hN, by simp only [mX9_wind, My0_11 h1, Mnm300_300 h2, cl_some, i00, i10, if_true, if_false], hr⟩
  by_cases h3 : btw p3 (-300) 300
  rotate_left
  · exact ⟨-1, s, s, by simp only [mX8_wind, Wy0_11 h1, isWind_y h2, isWind_n h3, cl_some, i00, i10, if_true, if_false, not_true], hN, by simp only [mX9_wind, My0_11 h1, Mym300_300 h2, Mnm300_300 h3, cl_some, i00, i10, if_true, if_false, not_true], hr⟩
  obtain ⟨k, hk, rfl⟩ := btw_nI 12 h1 (by decide)
  obtain ⟨r0, r1, r2, r3, r4, r5, r6, r7, r8⟩ := hr
  have e1 : mX8_wind 0 (nI k) p2 p3 s = some (1, uI (uI s 3 k p2) 4 k p3) := by
    have q := r0
    obtain ⟨h0, q0, q1, q2, q3, q4, q5, q6, q7, q8, q9, q10, -⟩ := q
    simp only [mX8_wind, Wy0_11 h1, isWind_y h2, isWind_y h3, cl_some, i10, if_false, if_true, not_false_iff]
    rw [dR h0, q1, cv_at (by decide) (by rw [h0]; decide)]
    unfold mX0_blowAt
    rw [if_neg (nI0 (by omega)), if_neg (show ¬ (12 : Int32) ≤ nI k from nIn hk (by decide)), gdR_at (by decide) (by rw [h0]; decide), q9, asI_n (show k < ln 3 from hk) (by decide) (by rw [h0]; decide), gdR_at (by decide) (by rw [sN_uI, h0]; decide), sR_uI, q10, asI_n (show k < ln 4 from hk) (by decide) (by rw [sN_uI, h0]; decide)]
    rfl
  have e2 : ∀ s1, M0 s1 → mX9_wind 207 (nI k) p2 p3 s1 = some (1, uI (uI s1 211 k p2) 212 k p3) := by
    intro s1 m1
    simp only [mX9_wind, My0_11 h1, Mym300_300 h2, Mym300_300 h3, cl_some, i10, if_false, if_true, not_false_iff]
    rw [mR m1 3 211 rfl (by decide) (by decide), asI_n (show k < ln 211 from hk) (by decide) (by rw [m1.1]; decide), mR m1.uI 4 212 rfl (by decide) (by decide), asI_n (show k < ln 212 from hk) (by decide) (by rw [sN_uI, m1.1]; decide)]
  refine ⟨1, _, _, e1, hN, e2 _ hM.uI.uI, ?_⟩
  have hE : ∀ a, a ≠ 3 → a ≠ 4 → a ≠ 211 → a ≠ 212 → Eqc s (uI (uI (uI (uI s 3 k p2) 4 k p3) 211 k p2) 212 k p3) a := fun a a1 a2 a3 a4 => (((Eqc.rf.uI a1).uI a2).uI a3).uI a4
  refine ⟨(((r0.uI (by omega)).uI (by omega)).uI (by omega)).uI (by omega), r1.congr (fun a h => hE a (by omega) (by omega) (by omega) (by omega)), ?_, r3.congr (fun a h => hE a (by omega) (by omega) (by omega) (by omega)), r4.congr (fun a h => hE a (by omega) (by omega) (by omega) (by omega)) rfl rfl, r5.congr (fun a h => hE a (by omega) (by omega) (by omega) (by omega)), r6.congr (fun a h => hE a (by omega) (by omega) (by omega) (by omega)), r7.congr (fun a h => hE a (by omega) (by omega) (by omega) (by omega)) rfl rfl rfl, r8.congr (fun a h => hE a (by omega) (by omega) (by omega) (by omega)) rfl⟩
  intro j hj
  simp only [sI_if]
  by_cases hjk : j = k
  · subst hjk
    simp [okW]
    exact ⟨h2, h3⟩
  · simp [hjk]
    exact r2 j hj
