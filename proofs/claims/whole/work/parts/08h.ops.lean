theorem isAb_s {s : Sg} {c b : Nat} (h : kd b = c) (h2 : b < sN s) : isAb s c (some b) = true := decide_eq_true ⟨h, h2⟩
theorem jin_eq {s s' : Sg} {l : Nat} : ∀ m, (∀ i, i < m → sI s' 220 (sI s' 229 (6 * l + i)).toNatClampNeg = sI s 220 (sI s 229 (6 * l + i)).toNatClampNeg) → jin s' l m = jin s l m
  | 0, _ => rfl
  | m + 1, h => by rw [jin, jin, jin_eq m (fun i hi => h i (by omega)), h m (by omega)]
theorem jup_eq {s s' : Sg} : ∀ L, (∀ l, l < L → sI s' 232 l = sI s 232 l ∧ (sI s 232 l = 0 ∨ (sI s' 228 l = sI s 228 l ∧ ∀ i, i < (sI s 228 l).toNatClampNeg → sI s' 220 (sI s' 229 (6 * l + i)).toNatClampNeg = sI s 220 (sI s 229 (6 * l + i)).toNatClampNeg))) → jup s' L = jup s L
  | 0, _ => rfl
  | L + 1, h => by
    obtain ⟨h1, h2⟩ := h L (by omega)
    rw [jup, jup, jup_eq L (fun l hl => h l (by omega)), h1]
    by_cases hz : sI s 232 L = 0
    · rw [if_pos hz, if_pos hz]
    · rcases h2 with h2 | ⟨h3, h4⟩
      · exact absurd h2 hz
      · rw [if_neg hz, if_neg hz, h3, jin_eq _ h4]
/-- whether a load has left: its word, 0 or 1; who has left is one of the first n -/
theorem RL1.z {s : Sg} {n l : Nat} (h : RL1 s n l) : sI s 232 l = 0 ∨ (sI s 232 l = 1 ∧ l < n) := by
  obtain ⟨a1, a2, a3, a4, ⟨p, hp, hpl, hc⟩, -⟩ := h
  rcases hc with hc | hc
  · exact Or.inl hc.1
  · exact Or.inr ⟨hc.1, hc.2.1⟩
theorem R8.join {s S : Sg} (hr : Rel s) {n g : Nat} (hn : n < 13) (e : sI s 207 20 = nI n) (hg : g < 20) (hs : ¬ inS s n 1 g) (h1 : sI S 207 31 = sI s 207 31) (h2 : sI S 229 = sI s 229) (h3 : sI S 228 = sI s 228) (h4 : sI S 232 = sI s 232) (h5 : ∀ q, q ≠ g → sI S 220 q = sI s 220 q) : R8 S := by
  obtain ⟨r0, r1, r2, r3, r4, r5, r6, ⟨en, n', hn', en', hL⟩, r8⟩ := hr
  have hnn : n' = n := (nI_eq (by omega) (by omega)).mp (en'.symm.trans e)
  subst hnn
  unfold R8 at r8 ⊢
  rw [h1, r8]
  refine (jup_eq 12 (fun l hl => ⟨by rw [h4], ?_⟩)).symm
  rcases (hL l hl).z with z | ⟨z, hln⟩
  · exact Or.inl z
  · refine Or.inr ⟨by rw [h3], fun i hi => ?_⟩
    rw [h2]
    refine h5 _ (fun hq => hs ⟨l, hln, z, i, hi, ?_⟩)
    obtain ⟨m, hl12, hm, z1, z2, z3, z9, -, z4⟩ := (hL l hl).lv r0 hl
    rw [z1, nI_clamp (by omega)] at hi
    obtain ⟨g', hg', e1, -⟩ := z4 i hi
    rw [e1, nI_clamp (by omega)] at hq
    rw [e1, hq]
theorem op_join : Op2 mX8_join mX9_join := by
  intro s hr p1 p2
  have hN := hr.1.1
  have hM := hr.1.m
  obtain ⟨r0, r1, r2, r3, r4, r5, r6, r7, r8⟩ := id hr
  obtain ⟨el, nl, hnl, el2, hL⟩ := id r7
  obtain ⟨en, n, hn, en2, hg⟩ := id r4
  rcases plc n (by omega) p1 with hp | ⟨g, hgn, rfl⟩
  · by_cases h2 : btw p2 0 31
    · obtain ⟨j, hj, rfl⟩ := btw_nI 32 h2 (by decide)
      exact ⟨-1, s, s, by simp only [mX8_join, c8 hN, groupAt_out r0 (en.trans en2) hp, jumperAt_in r0 hj, cl_some, nn, if_true], hN, by simp only [mX9_join, c9 hN, isGroup_n hM hn en2 hp, cl_some, i00, if_true], hr⟩
    · exact ⟨-1, s, s, by simp only [mX8_join, c8 hN, groupAt_out r0 (en.trans en2) hp, jumperAt_out r0 h2, cl_some, nn, if_true], hN, by simp only [mX9_join, c9 hN, isGroup_n hM hn en2 hp, cl_some, i00, if_true], hr⟩
  by_cases h2 : btw p2 0 31
  rotate_left
  · exact ⟨-1, s, s, by simp only [mX8_join, c8 hN, groupAt_in r0 hn (en.trans en2) hgn, jumperAt_out r0 h2, cl_some, nn, sn, if_true, if_false], hN, by simp only [mX9_join, c9 hN, isGroup_y hM hn en2 hgn, Mn0_31 h2, cl_some, i00, i10, if_true, if_false, not_true], hr⟩
  obtain ⟨j, hj, rfl⟩ := btw_nI 32 h2 (by decide)
  have hg20 : g < 20 := by omega
  obtain ⟨k1, k2, k3⟩ := kdGr g hg20
  have c1 := cInSome hr hnl el2 hg20 1
  have hL2 : ∀ l, l < nl → ∃ m, m < 7 ∧ sI s 228 l = nI m := fun l hl => by
    obtain ⟨m, h⟩ := (hL l (by omega)).lv r0 (by omega)
    exact ⟨m, h.2.1, h.2.2.1⟩
  have c2 := mInSome (g := g) hM hnl el2 hL2 1
  by_cases hS : inS s nl 1 g
  · refine ⟨-6, s, s, ?_, hN, ?_, hr⟩
    · simp only [mX8_join, c8 hN, groupAt_in r0 hn (en.trans en2) hgn, jumperAt_in r0 hj, cl_some, sn, if_false, c1.1 hS, i10]
    · simp only [mX9_join, c9 hN, isGroup_y hM hn en2 hgn, My0_31 h2, cl_some, i10, if_false, if_true, not_false_iff, c2.1 hS]
  obtain ⟨m, hv⟩ := r4.gv r0 hg20
  have d1 := hv.holds hj
  have d2 := mHas (j := j) hM hg20 hv.2.1 hv.2.2.1
  have e2g : 56 + 2 * g < sN s := by omega
  by_cases hH : ∃ k, k < m ∧ sI s 221 (4 * g + k) = nI j
  · refine ⟨-5, s, s, ?_, hN, ?_, hr⟩
    · simp only [mX8_join, c8 hN, groupAt_in r0 hn (en.trans en2) hgn, jumperAt_in r0 hj, cl_some, sn, if_false, c1.2 hS, i10, i00, if_true]
      rw [cv_at k1 e2g, d1.1 hH, cl_some, if_neg (by decide)]
    · simp only [mX9_join, c9 hN, isGroup_y hM hn en2 hgn, My0_31 h2, cl_some, i10, i00, if_false, if_true, not_false_iff, c2.2 hS, d2.1 hH]
  obtain ⟨-, hm, z1, z2, z3, -, z4⟩ := id hv
  by_cases hm4 : m = 4
  · subst hm4
    refine ⟨-2, s, s, ?_, hN, ?_, hr⟩
    · simp only [mX8_join, c8 hN, groupAt_in r0 hn (en.trans en2) hgn, jumperAt_in r0 hj, cl_some, sn, if_false, c1.2 hS, i10, i00, if_true]
      rw [cv_at k1 e2g, d1.2 hH, cl_some, if_pos rfl, gdI_at k1 e2g, z2, if_neg (by decide)]
    · simp only [mX9_join, c9 hN, isGroup_y hM hn en2 hgn, My0_31 h2, cl_some, i10, i00, if_false, if_true, not_false_iff, c2.2 hS, d2.2 hH]
      rw [mR hM 13 220 rfl (by decide) (by decide), alI_n (show g < ln 220 from hg20) (by decide) (by omega), z1, if_neg (by decide)]
  have hm2 : m < 4 := by omega
  have e1 : mX8_join 0 (nI g) (nI j) s = some (nI (m + 1), uI (uR s (57 + 2 * g) m (some (24 + j))) (56 + 2 * g) 2 (nI (m + 1))) := by
    simp only [mX8_join, c8 hN, groupAt_in r0 hn (en.trans en2) hgn, jumperAt_in r0 hj, cl_some, sn, if_false, c1.2 hS, i10, i00, if_true]
    rw [cv_at k1 e2g, d1.2 hH, cl_some, if_pos rfl, gdI_at k1 e2g, z2, if_pos (show nI m < 4 from nI_lt (b := 4) hm2 (by decide)), cv_at k1 e2g]
    unfold mX2_add
    rw [gdI_at k1 e2g, z2, gdR_at k1 e2g, z3, aln_at (by rw [k2]; decide) (by omega), k3, if_neg (nI_ge hm2 (by decide)), gdR_at k1 e2g, z3, gdI_at k1 e2g, z2, asR_n (isAb_s (kdJu j hj) (by omega)) (by omega) k2 (by omega), gdI_at k1 (by simp only [sN_uR]; exact e2g), sI_uR, z2, nI_1, ptI_at k1 (by simp only [sN_uR]; exact e2g), cl_some, gdI_at k1 (by simp only [sN_uI, sN_uR]; exact e2g), sI_s]
  have e2 : ∀ s1, M0 s1 → (∀ a, 207 ≤ a → sI s1 a = sI s a) → mX9_join 207 (nI g) (nI j) s1 = some (nI (m + 1), uI (uI s1 221 (4 * g + m) (nI j)) 220 g (nI (m + 1))) := by
    intro s1 m1 hq
    have m1N := m1.1
    have b1 := mInSome (g := g) m1 hnl (by rw [hq 207 (by omega)]; exact el2) (by rw [hq 228 (by omega)]; exact hL2) 1
    have b2 := mHas (j := j) m1 hg20 hm (by rw [hq 220 (by omega)]; exact z1)
    have f1 : sI s1 207 8 = nI n := by rw [hq 207 (by omega)]; exact en2
    have f2 : sI s1 220 g = nI m := by rw [hq 220 (by omega)]; exact z1
    rw [inS.congr (hq 232 (by omega)) (hq 228 (by omega)) (hq 229 (by omega))] at b1
    rw [hq 221 (by omega)] at b2
    simp only [mX9_join, c9 m1N, isGroup_y m1 hn f1 hgn, My0_31 h2, cl_some, i10, i00, if_false, if_true, not_false_iff, b1.2 hS, b2.2 hH]
    rw [mR m1 13 220 rfl (by decide) (by decide), alI_n (show g < ln 220 from hg20) (by decide) (by omega), f2, if_pos (show ¬ nI m = 4 from fun z => hm4 ((nI_eq (b := 4) (by omega) (by omega)).mp z)), mR m1 14 221 rfl (by decide) (by decide), mR m1 13 220 rfl (by decide) (by decide), alI_n (show g < ln 220 from hg20) (by decide) (by omega), f2, i4, asI_n (show 4 * g + m < ln 221 from show _ < 80 by omega) (by decide) (by omega), mR m1.uI 13 220 rfl (by decide) (by decide), alI_n (show g < ln 220 from hg20) (by decide) (by simp only [sN_uI]; omega), sI_ne (by omega), f2, nI_1, asI_n (show g < ln 220 from hg20) (by decide) (by simp only [sN_uI]; omega), mR m1.uI.uI 13 220 rfl (by decide) (by decide), alI_n (show g < ln 220 from hg20) (by decide) (by simp only [sN_uI]; omega), sI_s]
  refine ⟨nI (m + 1), _, _, e1, hN, e2 _ (hM.uR (by omega)).uI (fun a ha => by rw [sI_fa (by omega), sI_uR]), ?_⟩
  generalize hSd : uI (uI (uI (uR s (57 + 2 * g) m (some (24 + j))) (56 + 2 * g) 2 (nI (m + 1))) 221 (4 * g + m) (nI j)) 220 g (nI (m + 1)) = S
  have hEI : ∀ a, a ≠ 56 + 2 * g → a ≠ 221 → a ≠ 220 → sI S a = sI s a := fun a z1 z2 z3 => by
    rw [← hSd, sI_fa z3, sI_fa z2, sI_fa z1, sI_uR]
  have hER : ∀ a q, ¬ (a = 57 + 2 * g ∧ q = m) → sR S a q = sR s a q := fun a q z1 => by rw [← hSd, sR_uI, sR_uI, sR_uI, sR_if, if_neg z1]
  have hEF : sF S = sF s := by rw [← hSd]; rfl
  have hE : ∀ a, a ≠ 56 + 2 * g → a ≠ 57 + 2 * g → a ≠ 221 → a ≠ 220 → Eqc s S a := fun a z1 z2 z3 z4 => ⟨hEI a z1 z3 z4, funext fun q => hER a q (by omega), by rw [hEF]⟩
  have hSN : sN S = sN s := by rw [← hSd]; rfl
  have h56 : ∀ q, q ≠ 2 → sI S (56 + 2 * g) q = sI s (56 + 2 * g) q := fun q z => by rw [← hSd, sI_ne (by omega), sI_ne (by omega), sI_nk z, sI_uR]
  have h562 : sI S (56 + 2 * g) 2 = nI (m + 1) := by rw [← hSd, sI_ne (by omega), sI_ne (by omega), sI_s]
  have h220 : sI S 220 g = nI (m + 1) := by rw [← hSd, sI_s]
  have h220' : ∀ q, q ≠ g → sI S 220 q = sI s 220 q := fun q z => by rw [← hSd, sI_nk z, sI_ne (by omega), sI_ne (by omega), sI_uR]
  have h221 : sI S 221 (4 * g + m) = nI j := by rw [← hSd, sI_ne (by omega), sI_s]
  have h221' : ∀ q, q ≠ 4 * g + m → sI S 221 q = sI s 221 q := fun q z => by rw [← hSd, sI_ne (by omega), sI_nk z, sI_ne (by omega), sI_uR]
  have hR57 : sR S (57 + 2 * g) m = some (24 + j) := by rw [← hSd, sR_uI, sR_uI, sR_uI, sR_if, if_pos ⟨rfl, rfl⟩]
  refine ⟨r0.congr hSN (fun a k z1 z2 z3 => hER a k (by omega)) (fun a z1 z2 => ?_), r1.congr (fun a h => hE a (by omega) (by omega) (by omega) (by omega)), r2.congr (fun a h => hE a (by omega) (by omega) (by omega) (by omega)), r3.congr (fun a h => hE a (by omega) (by omega) (by omega) (by omega)), ⟨by rw [hEI 0 (by omega) (by omega) (by omega), hEI 207 (by omega) (by omega) (by omega)]; exact en, n, hn, by rw [hEI 207 (by omega) (by omega) (by omega)]; exact en2, fun g' hg' => ?_⟩, r5.congr (fun a h => hE a (by omega) (by omega) (by omega) (by omega)), r6.congr (fun a h => hE a (by omega) (by omega) (by omega) (by omega)), r7.congr (fun a h => hE a (by omega) (by omega) (by omega) (by omega)) (by rw [hEI 0 (by omega) (by omega) (by omega)]) (by rw [hEI 207 (by omega) (by omega) (by omega)]) (by rw [hEI 207 (by omega) (by omega) (by omega)]), R8.join hr hnl el2 hg20 hS (by rw [hEI 207 (by omega) (by omega) (by omega)]) (hEI 229 (by omega) (by omega) (by omega)) (hEI 228 (by omega) (by omega) (by omega)) (hEI 232 (by omega) (by omega) (by omega)) h220'⟩
  · by_cases hz : a = 56 + 2 * g
    · subst hz
      exact h56 0 (by decide)
    · rw [hEI a hz (by omega) (by omega)]
  · obtain ⟨y1, y2, y3, y4, y5, y6, y7, y8, y9, y10, y11, m', hm', hm2', hm3'⟩ := hg g' hg'
    rw [hEI 216 (by omega) (by omega) (by omega), hEI 217 (by omega) (by omega) (by omega), hEI 218 (by omega) (by omega) (by omega), hEI 219 (by omega) (by omega) (by omega)]
    by_cases hgg : g' = g
    · subst hgg
      rw [h56 _ (by decide), h56 _ (by decide), h56 _ (by decide), h56 _ (by decide), h562, h220]
      refine ⟨y1, y2, y3, y4, rfl, y6, y7, y8, y9, y10, fun hx => absurd hx (by omega), m + 1, by omega, rfl, fun k hk => ?_⟩
      by_cases hkm : k = m
      · subst hkm
        exact ⟨j, hj, h221, hR57⟩
      · obtain ⟨j', t1, t2, t3⟩ := z4 k (by omega)
        exact ⟨j', t1, by rw [h221' _ (by omega)]; exact t2, by rw [hER _ _ (by omega)]; exact t3⟩
    · rw [hEI (56 + 2 * g') (by omega) (by omega) (by omega), h220' _ hgg]
      refine ⟨y1, y2, y3, y4, y5, y6, y7, y8, y9, y10, y11, m', hm', hm2', fun k hk => ?_⟩
      obtain ⟨j', t1, t2, t3⟩ := hm3' k hk
      exact ⟨j', t1, by rw [h221' _ (by omega)]; exact t2, by rw [hER _ _ (by omega)]; exact t3⟩
