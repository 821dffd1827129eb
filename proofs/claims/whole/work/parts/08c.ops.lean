theorem nIm1 {n : Nat} (hn : n < 2 ^ 30) : (Int32.toInt64 (nI n - 1)).toInt = (n : Int) - 1 := by
  rw [Int32.toInt_toInt64]
  exact pk_sub_toInt (b := 1) hn (by decide)
theorem in_ny {s : Sg} {j n : Nat} (hj : j < n) (hn : n < 2 ^ 30) : mX9_in (Int32.toInt64 (nI j)) 0 (Int32.toInt64 (nI n - 1)) s = some (1, s) := by
  refine in_yes ?_ ?_
  · rw [Int32.toInt_toInt64, nI_toInt (by omega)]
    exact Int.natCast_nonneg j
  · rw [nIm1 hn, Int32.toInt_toInt64, nI_toInt (by omega)]
    omega
theorem in_nn {s : Sg} {p : Int32} {n : Nat} (hp : p.toInt < 0 ∨ (n : Int) ≤ p.toInt) (hn : n < 2 ^ 30) : mX9_in (Int32.toInt64 p) 0 (Int32.toInt64 (nI n - 1)) s = some (0, s) := by
  refine in_no ?_
  rw [nIm1 hn, Int32.toInt_toInt64]
  have h0 : (0 : Int64).toInt = 0 := rfl
  omega
/-- a number that is none of the first n -/
def noP (n : Nat) (p : Int32) : Prop := (p.toInt < 0 ∧ p < 0) ∨ ((n : Int) ≤ p.toInt ∧ nI n ≤ p ∧ ¬ p < 0)
theorem noP_in {n : Nat} {p : Int32} (h : noP n p) : p.toInt < 0 ∨ (n : Int) ≤ p.toInt := by
  rcases h with h | h
  · exact Or.inl h.1
  · exact Or.inr h.1
theorem plc (n : Nat) (hn : n < 2 ^ 31) (p : Int32) : noP n p ∨ ∃ j, j < n ∧ p = nI j := by
  rcases ixI n hn p with h | h | h
  · exact Or.inl (Or.inl h)
  · exact Or.inl (Or.inr h)
  · exact Or.inr h
theorem loadAt_in {s : Sg} (h : R0 s) {n l : Nat} (hn : n < 13) (e : sI s 0 10 = nI n) (hl : l < n) : mX8_loadAt 0 (nI l) s = some (some (99 + 7 * l), s) := by
  obtain ⟨h0, q0, q1, q2, q3, q4, q5, q6, q7, q8, q9, q10, q11, q12, q13, b1, b2, b3, b4, b5, -⟩ := h
  have hl2 : l < ln 8 := show l < 12 by omega
  unfold mX8_loadAt
  rw [if_neg (nI0 (by omega)), dI h0, e, if_neg (nIn hl (by omega)), dR h0, q5, aln_at (by decide) (by rw [h0]; decide), if_neg (nIn hl2 (by decide)), dR h0, q5, alR_n hl2 (by decide) (by rw [h0]; decide), (b5 l hl2).1]
theorem loadAt_out {s : Sg} (h : R0 s) {n : Nat} {p : Int32} (e : sI s 0 10 = nI n) (hp : noP n p) : mX8_loadAt 0 p s = some (none, s) := by
  unfold mX8_loadAt
  rcases hp with ⟨-, q⟩ | ⟨-, q, q9⟩
  · rw [if_pos q]
  · rw [if_neg q9, dI h.1, e, if_pos q]
theorem isLoad_y {s : Sg} (m : M0 s) {n l : Nat} (hn : n < 13) (e : sI s 207 20 = nI n) (hl : l < n) : mX9_isLoad 207 (nI l) s = some (1, s) := by
  unfold mX9_isLoad
  rw [mI m.1, e, in_ny hl (by omega)]
  rfl
theorem isLoad_n {s : Sg} (m : M0 s) {n : Nat} {p : Int32} (hn : n < 13) (e : sI s 207 20 = nI n) (hp : noP n p) : mX9_isLoad 207 p s = some (0, s) := by
  unfold mX9_isLoad
  rw [mI m.1, e, in_nn (noP_in hp) (by omega)]
  rfl
theorem groupAt_in {s : Sg} (h : R0 s) {n l : Nat} (hn : n < 21) (e : sI s 0 9 = nI n) (hl : l < n) : mX8_groupAt 0 (nI l) s = some (some (56 + 2 * l), s) := by
  obtain ⟨h0, q0, q1, q2, q3, q4, q5, q6, q7, q8, q9, q10, q11, q12, q13, b1, b2, b3, -⟩ := h
  have hl2 : l < ln 6 := show l < 20 by omega
  unfold mX8_groupAt
  rw [if_neg (nI0 (by omega)), dI h0, e, if_neg (nIn hl (by omega)), dR h0, q3, aln_at (by decide) (by rw [h0]; decide), if_neg (nIn hl2 (by decide)), dR h0, q3, alR_n hl2 (by decide) (by rw [h0]; decide), (b3 l hl2).1]
theorem groupAt_out {s : Sg} (h : R0 s) {n : Nat} {p : Int32} (e : sI s 0 9 = nI n) (hp : noP n p) : mX8_groupAt 0 p s = some (none, s) := by
  unfold mX8_groupAt
  rcases hp with ⟨-, q⟩ | ⟨-, q, q9⟩
  · rw [if_pos q]
  · rw [if_neg q9, dI h.1, e, if_pos q]
theorem isGroup_y {s : Sg} (m : M0 s) {n l : Nat} (hn : n < 21) (e : sI s 207 8 = nI n) (hl : l < n) : mX9_isGroup 207 (nI l) s = some (1, s) := by
  unfold mX9_isGroup
  rw [mI m.1, e, in_ny hl (by omega)]
  rfl
theorem isGroup_n {s : Sg} (m : M0 s) {n : Nat} {p : Int32} (hn : n < 21) (e : sI s 207 8 = nI n) (hp : noP n p) : mX9_isGroup 207 p s = some (0, s) := by
  unfold mX9_isGroup
  rw [mI m.1, e, in_nn (noP_in hp) (by omega)]
  rfl
theorem c9 {β : Type} {s : Sg} {f : Nat → Option β} (hN : sN s = 249) : cv s 9 (some 207) f = f 207 := cv_at (by decide) (by rw [hN]; decide)
/-- one load's cells and rows as they were -/
theorem RL1.fr {s s' : Sg} {n l : Nat} (hl : l < 12) (h : RL1 s n l) (hE : ∀ a, 99 + 7 * l ≤ a → a < 106 + 7 * l → Eqc s s' a) (h8 : sI s' 207 8 = sI s 207 8) (hR : ∀ b, 227 ≤ b → b ≤ 236 → b ≠ 229 → b ≠ 230 → b ≠ 233 → b ≠ 234 → sI s' b l = sI s b l) (h229 : ∀ i, i < 6 → sI s' 229 (6 * l + i) = sI s 229 (6 * l + i)) (h230 : ∀ i, i < 6 → sI s' 230 (6 * l + i) = sI s 230 (6 * l + i)) (h233 : ∀ k, k < 12 → sI s' 233 (12 * l + k) = sI s 233 (12 * l + k)) (h234 : ∀ k, k < 12 → sI s' 234 (12 * l + k) = sI s 234 (12 * l + k)) : RL1 s' n l := by
  obtain ⟨a1, a2, a3, a4, ⟨p, hp, hpl, hc⟩, m, hm, hm2, hm3, hi⟩ := h
  have e99 := hE (99 + 7 * l) (by omega) (by omega)
  have e100 := hE (100 + 7 * l) (by omega) (by omega)
  have e101 := hE (101 + 7 * l) (by omega) (by omega)
  have e102 := hE (102 + 7 * l) (by omega) (by omega)
  have e104 := hE (104 + 7 * l) (by omega) (by omega)
  have e105 := hE (105 + 7 * l) (by omega) (by omega)
  have q227 := hR 227 (by omega) (by omega) (by omega) (by omega) (by omega) (by omega)
  have q228 := hR 228 (by omega) (by omega) (by omega) (by omega) (by omega) (by omega)
  have q231 := hR 231 (by omega) (by omega) (by omega) (by omega) (by omega) (by omega)
  have q232 := hR 232 (by omega) (by omega) (by omega) (by omega) (by omega) (by omega)
  have q235 := hR 235 (by omega) (by omega) (by omega) (by omega) (by omega) (by omega)
  have q236 := hR 236 (by omega) (by omega) (by omega) (by omega) (by omega) (by omega)
  refine ⟨by rw [e99.1, q228]; exact a1, by rw [e99.1, q231]; exact a2, by rw [e99.1, q232]; exact a3, by rw [q231]; exact a4, ⟨p, hp, by rw [q227]; exact hpl, ?_⟩, m, hm, by rw [q228]; exact hm2, hm3, fun i hi1 => ?_⟩
  · rw [e99.2.1, e102.1, e104.1, e105.1, q232, q235, q236]
    rcases hc with hc | ⟨c1, c2, c3, c4, c5, c6, c7, c8, c9, c10⟩
    · exact Or.inl hc
    · refine Or.inr ⟨c1, c2, c3, c4, c5, c6, c7, c8, c9, fun k hk => ?_⟩
      rw [h233 k hk, h234 k hk]
      exact c10 k hk
  · obtain ⟨⟨d1, d2, g, d3, d4, d5, d6⟩, d7⟩ := hi i hi1
    rw [e101.1, e100.2.1, h229 i (by omega), h230 i (by omega), h8]
    refine ⟨⟨d1, d2, g, d3, d4, d5, d6⟩, fun j hj => ?_⟩
    rw [h229 j (by omega)]
    exact d7 j hj
theorem op_start : Op2 mX8_start mX9_start := by
  intro s hr p1 p2
  have hN := hr.1.1
  have hM := hr.1.m
  obtain ⟨r0, r1, r2, r3, r4, r5, r6, r7, r8⟩ := id hr
  obtain ⟨en, n, hn, en2, hl⟩ := r7
  rcases plc n (by omega) p1 with hp | ⟨l, hln, rfl⟩
  · exact ⟨-1, s, s, by simp only [mX8_start, c8 hN, loadAt_out r0 (en.trans en2) hp, cl_some, nn, if_true], hN, by simp only [mX9_start, c9 hN, isLoad_n hM hn en2 hp, cl_some, i00, if_true], hr⟩
  by_cases h2 : btw p2 (-50000) 50000
  rotate_left
  · exact ⟨-1, s, s, by simp only [mX8_start, c8 hN, loadAt_in r0 hn (en.trans en2) hln, Wnm50000_50000 h2, cl_some, sn, i00, if_true, if_false, not_true], hN, by simp only [mX9_start, c9 hN, isLoad_y hM hn en2 hln, Mnm50000_50000 h2, cl_some, i00, i10, if_true, if_false, not_true], hr⟩
  have hl12 : l < 12 := by omega
  obtain ⟨k1, k2, k3, k4, k5, k6, k7, k8, k9, k10, k11⟩ := kdLo l hl12
  have hL := hl l hl12
  obtain ⟨a1, a2, a3, a4, ⟨p, hp, hpl, hc⟩, m, hm, hm2, hm3, hi⟩ := id hL
  have z232 : sI s 232 l = 0 ∨ sI s 232 l = 1 := by
    rcases hc with hc | hc
    · exact Or.inl hc.1
    · exact Or.inr hc.1
  rcases z232 with z | z
  · have e1 : mX8_start 0 (nI l) p2 s = some (1, uI s (99 + 7 * l) 7 p2) := by
      simp only [mX8_start, c8 hN, loadAt_in r0 hn (en.trans en2) hln, Wym50000_50000 h2, cl_some, sn, i10, if_true, if_false, not_false_iff]
      rw [gdI_at k1 (by omega), a3, z, if_pos rfl, ptI_at k1 (by omega)]
    have e2 : ∀ s1, M0 s1 → sI s1 207 20 = nI n → sI s1 232 l = 0 → mX9_start 207 (nI l) p2 s1 = some (1, uI s1 231 l p2) := by
      intro s1 m1 f1 f2
      have m1N := m1.1
      simp only [mX9_start, c9 m1N, isLoad_y m1 hn f1 hln, Mym50000_50000 h2, cl_some, i10, if_true, if_false, not_false_iff]
      rw [mR m1 26 232 rfl (by decide) (by decide), alZ_n (show l < ln 232 from hl12) (by decide) (by omega), f2, if_pos rfl, mR m1 25 231 rfl (by decide) (by decide), asI_n (show l < ln 231 from hl12) (by decide) (by omega)]
    refine ⟨1, _, _, e1, hN, e2 _ hM.uI (by rw [sI_ne (by omega)]; exact en2) (by rw [sI_ne (by omega)]; exact z), ?_⟩
    have hE : ∀ a, a ≠ 99 + 7 * l → a ≠ 231 → Eqc s (uI (uI s (99 + 7 * l) 7 p2) 231 l p2) a := fun a z0 z1 => (Eqc.rf.uI z0).uI z1
    have hz : ∀ q, sI (uI (uI s (99 + 7 * l) 7 p2) 231 l p2) 0 q = sI s 0 q := fun q => by rw [sI_ne (by omega), sI_ne (by omega)]
    have hz2 : ∀ q, sI (uI (uI s (99 + 7 * l) 7 p2) 231 l p2) 207 q = sI s 207 q := fun q => by rw [sI_ne (by omega), sI_ne (by omega)]
    refine ⟨(r0.uI (Or.inl (by decide))).uI (Or.inr (Or.inr (by omega))), r1.congr (fun a h => hE a (by omega) (by omega)), r2.congr (fun a h => hE a (by omega) (by omega)), r3.congr (fun a h => hE a (by omega) (by omega)), r4.congr (fun a h => hE a (by omega) (by omega)) (hz _) (hz2 _), r5.congr (fun a h => hE a (by omega) (by omega)), r6.congr (fun a h => hE a (by omega) (by omega)), ⟨by rw [hz, hz2]; exact en, n, hn, by rw [hz2]; exact en2, fun l' hl' => ?_⟩, r8.congr (fun a h => hE a (by omega) (by omega)) (hz2 _)⟩
    by_cases hll : l' = l
    · subst hll
      have hs1 : ∀ b q, b ≠ 99 + 7 * l' → b ≠ 231 → sI (uI (uI s (99 + 7 * l') 7 p2) 231 l' p2) b q = sI s b q := fun b q z0 z1 => by rw [sI_ne z1, sI_ne z0]
      have hs2 : ∀ q, q ≠ 7 → sI (uI (uI s (99 + 7 * l') 7 p2) 231 l' p2) (99 + 7 * l') q = sI s (99 + 7 * l') q := fun q z0 => by rw [sI_ne (by omega), sI_nk z0]
      have hs3 : sI (uI (uI s (99 + 7 * l') 7 p2) 231 l' p2) (99 + 7 * l') 7 = p2 := by rw [sI_ne (by omega), sI_s]
      have hs4 : sI (uI (uI s (99 + 7 * l') 7 p2) 231 l' p2) 231 l' = p2 := sI_s
      refine ⟨by rw [hs2 _ (by decide), hs1 _ _ (by omega) (by omega)]; exact a1, by rw [hs3, hs4], by rw [hs2 _ (by decide), hs1 _ _ (by omega) (by omega)]; exact a3, by rw [hs4]; exact h2, ⟨p, hp, by rw [hs1 _ _ (by omega) (by omega)]; exact hpl, Or.inl ⟨by rw [hs1 _ _ (by omega) (by omega)]; exact z, ?_⟩⟩, m, hm, by rw [hs1 _ _ (by omega) (by omega)]; exact hm2, hm3, fun i hi1 => ?_⟩
      · rcases hc with hc | hc
        · exact hc.2
        · exact absurd (z.symm.trans hc.1) (by decide)
      · obtain ⟨⟨d1, d2, g, d3, d4, d5, d6⟩, d7⟩ := hi i hi1
        refine ⟨⟨by rw [hs1 _ _ (by omega) (by omega), hs1 _ _ (by omega) (by omega)]; exact d1, by rw [hs1 _ _ (by omega) (by omega)]; exact d2, g, d3, by rw [hz2]; exact d4, by rw [hs1 _ _ (by omega) (by omega)]; exact d5, d6⟩, fun j hj => ?_⟩
        rw [hs1 _ _ (by omega) (by omega), hs1 _ _ (by omega) (by omega)]
        exact d7 j hj
    · refine (hl l' hl').fr hl' (fun a h3 h4 => hE a (by omega) (by omega)) (hz2 _) (fun b h3 h4 h5 h6 h7 h8 => ?_) (fun i hi => ?_) (fun i hi => ?_) (fun i hi => ?_) (fun i hi => ?_)
      · by_cases hb : b = 231
        · subst hb
          rw [sI_nk hll, sI_ne (by omega)]
        · rw [sI_ne hb, sI_ne (by omega)]
      all_goals rw [sI_ne (by omega), sI_ne (by omega)]
  · refine ⟨-6, s, s, ?_, hN, ?_, hr⟩
    · simp only [mX8_start, c8 hN, loadAt_in r0 hn (en.trans en2) hln, Wym50000_50000 h2, cl_some, sn, i10, if_true, if_false, not_false_iff]
      rw [gdI_at k1 (by omega), a3, z, if_neg (by decide)]
    · simp only [mX9_start, c9 hN, isLoad_y hM hn en2 hln, Mym50000_50000 h2, cl_some, i10, if_true, if_false, not_false_iff]
      rw [mR hM 26 232 rfl (by decide) (by decide), alZ_n (show l < ln 232 from hl12) (by decide) (by omega), z, if_neg (by decide)]
