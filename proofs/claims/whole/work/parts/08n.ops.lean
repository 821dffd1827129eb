theorem op_cell : Op4 mX8_cell mX9_cell := by
  intro s hr p1 p2 p3 p4
  have hN := hr.1.1
  have hM := hr.1.m
  obtain ⟨r0, r1, r2, r3, r4, r5, r6, r7, r8⟩ := id hr
  by_cases h1 : btw p1 0 2
  rotate_left
  · exact ⟨-1, s, s, by simp only [mX8_cell, c8 hN, sheetAt_out r0 h1, cl_some, nn, if_true], hN, by simp only [mX9_cell, isSheet_n h1, cl_some, i00, if_true], hr⟩
  obtain ⟨r, hr3, rfl⟩ := btw_nI 3 h1 (by decide)
  by_cases h4 : btw p4 0 20
  rotate_left
  · exact ⟨-1, s, s, by simp only [mX8_cell, c8 hN, sheetAt_in r0 hr3, Wn0_20 h4, cl_some, sn, i00, if_true, if_false, not_true], hN, by simp only [mX9_cell, isSheet_y h1, Mn0_20 h4, cl_some, i00, i10, if_true, if_false, not_true], hr⟩
  obtain ⟨k1, k2, k3, k4, k5⟩ := kdSh r hr3
  rcases r1.at hr3 with ⟨z1, z2⟩ | ⟨z1, n, hn, z2, z3⟩
  · refine ⟨-3, s, s, ?_, hN, ?_, hr⟩
    · simp only [mX8_cell, c8 hN, sheetAt_in r0 hr3, Wy0_20 h4, cl_some, sn, i10, if_false, if_true, not_false_iff]
      rw [gdI_at k1 (by omega), z1, if_neg (by decide)]
    · simp only [mX9_cell, isSheet_y h1, My0_20 h4, cl_some, i10, if_true, if_false, not_false_iff]
      rw [mR hM 0 208 rfl (by decide) (by decide), alI_n (show r < ln 208 from hr3) (by decide) (by omega), z2, if_neg (by decide)]
  rcases sheetHas r0 hr3 hn z3 p2 with ⟨hp, eh⟩ | ⟨i, hi, rfl, eh⟩
  · refine ⟨-1, s, s, ?_, hN, ?_, hr⟩
    · simp only [mX8_cell, c8 hN, sheetAt_in r0 hr3, Wy0_20 h4, cl_some, sn, i10, if_false, if_true, not_false_iff]
      rw [gdI_at k1 (by omega), z1, if_pos (by decide), cv_at k1 (by omega), eh, cl_some, if_neg (by decide)]
    · simp only [mX9_cell, isSheet_y h1, My0_20 h4, cl_some, i10, if_true, if_false, not_false_iff]
      rw [mR hM 0 208 rfl (by decide) (by decide), alI_n (show r < ln 208 from hr3) (by decide) (by omega), z2, if_pos (nI_pos' (by omega)), mR hM 0 208 rfl (by decide) (by decide), alI_n (show r < ln 208 from hr3) (by decide) (by omega), z2, in_nn (noP_in hp) (by omega), cl_some, if_neg (by decide)]
  have ok := okDiv (v := p3) h4
  generalize hV : FP.fdiv (FP.i2f p3) (FP.i2f (1 <<< (p4 &&& 31))) = V at ok
  have e1 : mX8_cell 0 (nI r) (nI i) p3 p4 s = some (1, uI (uF s (16 + 3 * r) i V) (17 + 3 * r) i 0) := by
    have q := r0
    obtain ⟨h0, q0, q1, q2, q3, q4, q5, q6, q7, q8, q9, q10, q11, q12, q13, b1, -⟩ := q
    simp only [mX8_cell, c8 hN, sheetAt_in r0 hr3, Wy0_20 h4, cl_some, sn, i10, if_false, if_true, not_false_iff, hV]
    rw [gdI_at k1 (by omega), z1, if_pos (by decide), cv_at k1 (by omega), eh, cl_some, if_pos (by decide), ckN_ok ok (by decide), cv_at k1 (by omega)]
    unfold mX7_write
    rw [cv_at k1 (by omega), eh, cl_some, if_neg (by decide), gdR_at k1 (by omega), (b1 r hr3).2.1, asF_n (by omega) k2 (by omega), gdR_at k1 (by rw [sN_uF]; omega), sR_uF, (b1 r hr3).2.2, asZ_n (Or.inl rfl) (by omega) k3 (by rw [sN_uF]; omega)]
    rfl
  have e2 : ∀ s1, M0 s1 → sI s1 208 r = nI n → mX9_cell 207 (nI r) (nI i) p3 p4 s1 = some (1, uI (uF s1 209 (20 * r + i) V) 210 (20 * r + i) 0) := by
    intro s1 m1 f1
    have m1N := m1.1
    simp only [mX9_cell, isSheet_y h1, My0_20 h4, cl_some, i10, if_true, if_false, not_false_iff, hV]
    rw [mR m1 0 208 rfl (by decide) (by decide), alI_n (show r < ln 208 from hr3) (by decide) (by omega), f1, if_pos (nI_pos' (by omega)), mR m1 0 208 rfl (by decide) (by decide), alI_n (show r < ln 208 from hr3) (by decide) (by omega), f1, in_ny hi (by omega), cl_some, if_pos (by decide), mR m1 1 209 rfl (by decide) (by decide), ckN_ok ok (by decide), i20, asF_n (show _ < ln 209 from show _ < 60 by omega) (by decide) (by omega), mR m1.uF 2 210 rfl (by decide) (by decide), asZ_n (Or.inl rfl) (show _ < ln 210 from show _ < 60 by omega) (by decide) (by rw [sN_uF]; omega)]
  refine ⟨1, _, _, e1, hN, e2 _ hM.uF.uI (by rw [sI_ne (by omega), sI_uF]; exact z2), ?_⟩
  generalize hSd : uI (uF (uI (uF s (16 + 3 * r) i V) (17 + 3 * r) i 0) 209 (20 * r + i) V) 210 (20 * r + i) 0 = S
  have hE : ∀ a, a ≠ 16 + 3 * r → a ≠ 17 + 3 * r → a ≠ 209 → a ≠ 210 → Eqc s S a := fun a z0 z1 z2 z3 => by
    rw [← hSd]; exact (((Eqc.rf.uF z0).uI z1).uF z2).uI z3
  have hEI : ∀ a, a ≠ 17 + 3 * r → a ≠ 210 → sI S a = sI s a := fun a z1 z2 => by rw [← hSd, sI_fa z2, sI_uF, sI_fa z1, sI_uF]
  have hEF : ∀ a q, ¬ (a = 16 + 3 * r ∧ q = i) → ¬ (a = 209 ∧ q = 20 * r + i) → sF S a q = sF s a q := fun a q z1 z2 => by rw [← hSd, sF_uI, sF_if, if_neg z2, sF_uI, sF_if, if_neg z1]
  have h00 : sI S 0 = sI s 0 := hEI 0 (by omega) (by omega)
  have h7 : sI S 207 = sI s 207 := hEI 207 (by omega) (by omega)
  refine ⟨by rw [← hSd]; exact ((r0.uF.uI (Or.inr (Or.inl (by omega)))).uF).uI (Or.inr (Or.inr (by omega))), fun r' hr' => ?_, r2.congr (fun a h => hE a (by omega) (by omega) (by omega) (by omega)), r3.congr (fun a h => hE a (by omega) (by omega) (by omega) (by omega)), r4.congr (fun a h => hE a (by omega) (by omega) (by omega) (by omega)) (by rw [h00]) (by rw [h7]), r5.congr (fun a h => hE a (by omega) (by omega) (by omega) (by omega)), r6.congr (fun a h => hE a (by omega) (by omega) (by omega) (by omega)), r7.congr (fun a h => hE a (by omega) (by omega) (by omega) (by omega)) (by rw [h00]) (by rw [h7]) (by rw [h7]), r8.congr (fun a h => hE a (by omega) (by omega) (by omega) (by omega)) (by rw [h7])⟩
  by_cases hrr : r' = r
  · subst hrr
    right
    rcases r1 r' hr' with q | ⟨g1, g2, n2, g3, g4, g5⟩
    · exact absurd (z1.symm.trans q.1) (by decide)
    rw [hEI (15 + 3 * r') (by omega) (by omega), hEI 208 (by omega) (by omega)]
    refine ⟨g1, g2, n2, g3, g4, fun j hj => ?_⟩
    obtain ⟨f1, f2, f3, f4⟩ := g5 j hj
    by_cases hji : j = i
    · subst hji
      have v1 : sF S (16 + 3 * r') j = V := by rw [← hSd, sF_uI, sF_if, if_neg (by omega), sF_uI, sF_if, if_pos ⟨rfl, rfl⟩]
      have v2 : sF S 209 (20 * r' + j) = V := by rw [← hSd, sF_uI, sF_if, if_pos ⟨rfl, rfl⟩]
      have v3 : sI S (17 + 3 * r') j = 0 := by rw [← hSd, sI_ne (by omega), sI_uF, sI_s]
      have v4 : sI S 210 (20 * r' + j) = 0 := by rw [← hSd, sI_s]
      rw [v1, v2, v3, v4]
      exact ⟨rfl, rfl, Or.inl rfl, ok⟩
    · have y1 : sI S 210 (20 * r' + j) = sI s 210 (20 * r' + j) := by rw [← hSd, sI_nk (by omega), sI_uF, sI_ne (by omega), sI_uF]
      have y2 : sI S (17 + 3 * r') j = sI s (17 + 3 * r') j := by rw [← hSd, sI_ne (by omega), sI_uF, sI_nk hji, sI_uF]
      rw [y1, y2, hEF _ _ (by omega) (by omega), hEF _ _ (by omega) (by omega)]
      exact ⟨f1, f2, f3, f4⟩
  · exact r1.one hr' (hEI _ (by omega) (by omega)) (funext fun q => hEF _ _ (by omega) (by omega)) (hEI _ (by omega) (by omega)) (by rw [hEI _ (by omega) (by omega)]) (fun j hj => hEF _ _ (by omega) (by omega)) (fun j hj => by rw [← hSd, sI_nk (by omega), sI_uF, sI_ne (by omega), sI_uF])
theorem lt12 {k : Nat} (hk : k < 12) : ¬ (12 : Int32) ≤ nI k := nI_ge (b := 12) hk (by decide)
/-! winds out of sheets -/
def ten (g : Nat → Int32) (x : Nat → UInt32) (n k : Nat) : Int32 := FP.f2i (FP.fmul (fil g x n (if k < n then k else n - 1)) 1092616192)
section FVW
variable {s : Sg} {r n : Nat} {g : Nat → Int32} {x : Nat → UInt32}
theorem FV.cten (h : FV s r n g x) (h0 : 0 < n) {k : Nat} (hk : k < 12) : mX7_windOf (15 + 3 * r) (nI k) s = some (ten g x n k, s) := by
  obtain ⟨h1, h2, h3, h4, -⟩ := id h
  obtain ⟨k1, k2, k3, k4, k5⟩ := kdSh r h1
  have hN := h3.1
  have hi : (if k < n then k else n - 1) < n := by
    by_cases hkn : k < n
    · rw [if_pos hkn]; exact hkn
    · rw [if_neg hkn]; omega
  have hm : mnI (nI k) (nI n - 1) = nI (if k < n then k else n - 1) := by
    have e : nI n - 1 = nI (n - 1) := by
      rw [show n = (n - 1) + 1 by omega, nI_pred]; rfl
    unfold mnI
    rw [e]
    by_cases hkn : k < n
    · rw [if_pos hkn]
      by_cases hk1 : n - 1 < k
      · omega
      · rw [if_neg (nI_nlt (by omega) (by omega))]
    · rw [if_neg hkn, if_pos (nI_lt (by omega) (by omega))]
  unfold mX7_windOf
  rw [gdI_at k1 (by omega), h4, hm, cv_at k1 (by omega), h.cfil hi, cl_some, ckN_ok (okT (h.fil_ok hi)) (by decide)]
  rfl
theorem FV.mten (h : FV s r n g x) (h0 : 0 < n) {k : Nat} (hk : k < 12) : mX9_tenTimes 207 (nI r) (nI k) s = some (ten g x n k, s) := by
  obtain ⟨h1, h2, h3, h4, h5, -⟩ := id h
  have hM := h3.m
  have hN := hM.1
  unfold mX9_tenTimes
  rw [mR hM 0 208 rfl (by decide) (by decide), alI_n (show r < ln 208 from h1) (by decide) (by omega), h5, jn_eq]
  unfold ten
  by_cases hkn : k < n
  · rw [if_neg (nI_ge hkn (by omega)), if_pos hkn]
    dsimp only
    rw [c9 hN, h.mfil hkn, cl_some, ckN_ok (okT (h.fil_ok hkn)) (by decide)]
  · rw [if_pos (nI_le (by omega) (by omega)), if_neg hkn, mR hM 0 208 rfl (by decide) (by decide), alI_n (show r < ln 208 from h1) (by decide) (by omega), h5]
    dsimp only
    have e : nI n - 1 = nI (n - 1) := by
      rw [show n = (n - 1) + 1 by omega, nI_pred]; rfl
    rw [e, c9 hN, h.mfil (show n - 1 < n by omega), cl_some, ckN_ok (okT (h.fil_ok (show n - 1 < n by omega))) (by decide)]
theorem FV.tells (h : FV s r n g x) : BoE (mX8_tellsWinds (some (15 + 3 * r)) s) (fun v => some (v, s)) (0 < n ∧ ∀ k, k < 12 → okW (ten g x n k)) := by
  obtain ⟨h1, h2, h3, h4, -⟩ := id h
  obtain ⟨k1, k2, k3, k4, k5⟩ := kdSh r h1
  have hN := h3.1
  have e0 : mX8_tellsWinds (some (15 + 3 * r)) s = if ¬ nI n = 0 then lp (mX8_tellsWinds_b11 (some (15 + 3 * r))) FU (nI 0) s else some (0, s) := by
    unfold mX8_tellsWinds
    rw [gdI_at k1 (by omega), h4]
    rfl
  by_cases hn0 : n = 0
  · refine ⟨fun q => absurd q.1 (by omega), fun _ => ?_⟩
    rw [e0, hn0, if_neg (by decide)]
  have hb := bo_any (F := mX8_tellsWinds_b11 (some (15 + 3 * r))) (s := s) (n := 12) (c := fun k => ¬ okW (ten g x n k)) (E := fun v => some (1 - v, s)) (fun w => ?_) (fun k hk hc w => ?_) (fun k hk hc w => ?_) FU 0 (Nat.zero_le _) (by decide)
  · rw [e0, if_pos (nI_ne0 (by omega) (by omega))]
    refine ⟨fun q => ?_, fun q => ?_⟩
    · rw [hb.2 (fun ⟨k, _, a, b⟩ => b (q.2 k a))]; rfl
    · rw [hb.1 (Classical.byContradiction fun z => q ⟨by omega, fun k hk => Classical.byContradiction fun y => z ⟨k, Nat.zero_le _, hk, y⟩⟩)]; rfl
  · unfold mX8_tellsWinds_b11
    rw [if_pos (by decide)]
    rfl
  · unfold mX8_tellsWinds_b11
    rw [if_neg (lt12 hk), cv_at k1 (by omega), h.cten (by omega) hk, cl_some, isWind_n hc, cl_some, if_neg (by decide)]
    rfl
  · unfold mX8_tellsWinds_b11
    rw [if_neg (lt12 hk), cv_at k1 (by omega), h.cten (by omega) hk, cl_some, isWind_y (Classical.not_not.mp hc), cl_some, if_pos (by decide)]
end FVW
theorem bo_stop {X : Type} {F : (Int32 × Int32 → Sg → Option X) → Int32 × Int32 → Sg → Option X} {s : Sg} {n : Nat} {c : Nat → Prop} {E : Int32 → Option X} (hend : ∀ r, F r (1, nI n) s = E 0) (hst : ∀ k, k ≤ n → ∀ r, F r (0, nI k) s = E 1) (h1 : ∀ k, k < n → c k → ∀ r, F r (1, nI k) s = r (0, nI k + 1) s) (h0 : ∀ k, k < n → ¬ c k → ∀ r, F r (1, nI k) s = r (1, nI k + 1) s) : ∀ (f i : Nat), i ≤ n → n + 1 - i < f → BoE (lp F f (1, nI i) s) E (∃ k, i ≤ k ∧ k < n ∧ c k)
  | 0, i, hi, hf => absurd hf (Nat.not_lt_zero _)
  | f + 1, i, hi, hf => by
    show BoE (F (lp F f) (1, nI i) s) E _
    by_cases hin : i = n
    · subst hin
      exact ⟨fun ⟨k, a, b, _⟩ => absurd b (by omega), fun _ => hend _⟩
    have hin2 : i < n := by omega
    by_cases hc : c i
    · refine ⟨fun _ => ?_, fun z => absurd ⟨i, Nat.le_refl _, hin2, hc⟩ z⟩
      rw [h1 i hin2 hc, nI_1]
      cases f with
      | zero => omega
      | succ f => exact hst (i + 1) (by omega) _
    · rw [h0 i hin2 hc, nI_1]
      refine (bo_stop hend hst h1 h0 f (i + 1) (by omega) (by omega)).iff ⟨fun ⟨k, a, b, d⟩ => ⟨k, by omega, b, d⟩, fun ⟨k, a, b, d⟩ => ⟨k, ?_, b, d⟩⟩
      by_cases hki : k = i
      · subst hki; exact absurd d hc
      · omega
def wsh (s : Sg) (a b : Nat) (tx ty : Nat → Int32) : Nat → Sg
  | 0 => s
  | k + 1 => uI (uI (wsh s a b tx ty k) a k (tx k)) b k (ty k)
section WSH
variable {s : Sg} {a b : Nat} {tx ty : Nat → Int32}
theorem wsh_I (hab : a ≠ b) (c q : Nat) : ∀ k, sI (wsh s a b tx ty k) c q = if c = b ∧ q < k then ty q else if c = a ∧ q < k then tx q else sI s c q
  | 0 => by rw [if_neg (by omega), if_neg (by omega)]; rfl
  | k + 1 => by
    show sI (uI (uI (wsh s a b tx ty k) a k (tx k)) b k (ty k)) c q = _
    rw [sI_if, sI_if, wsh_I hab c q k]
    by_cases h1 : c = b ∧ q = k
    · rw [if_pos h1, if_pos (by omega), h1.2]
    · rw [if_neg h1]
      by_cases h2 : c = a ∧ q = k
      · rw [if_pos h2, if_neg (by omega), if_pos (by omega), h2.2]
      · rw [if_neg h2]
        by_cases h3 : c = b ∧ q < k
        · rw [if_pos h3, if_pos (by omega)]
        · rw [if_neg h3, if_neg (show ¬ (c = b ∧ q < k + 1) by omega)]
          by_cases h4 : c = a ∧ q < k
          · rw [if_pos h4, if_pos (show c = a ∧ q < k + 1 by omega)]
          · rw [if_neg h4, if_neg (show ¬ (c = a ∧ q < k + 1) by omega)]
theorem wsh_Ic {c : Nat} (h1 : c ≠ a) (h2 : c ≠ b) : ∀ k, sI (wsh s a b tx ty k) c = sI s c
  | 0 => rfl
  | k + 1 => by
    show sI (uI (uI (wsh s a b tx ty k) a k (tx k)) b k (ty k)) c = _
    rw [sI_fa h2, sI_fa h1, wsh_Ic h1 h2 k]
theorem wsh_E {c : Nat} (h1 : c ≠ a) (h2 : c ≠ b) : ∀ k, Eqc s (wsh s a b tx ty k) c
  | 0 => Eqc.rf
  | k + 1 => ((wsh_E h1 h2 k).uI h1).uI h2
theorem wsh_0 (h : R0 s) (ha : a < 24 ∨ 99 ≤ a) (hb : b < 24 ∨ 99 ≤ b) : ∀ k, R0 (wsh s a b tx ty k)
  | 0 => h
  | k + 1 => ((wsh_0 h ha hb k).uI (Or.inr ha)).uI (Or.inr hb)
end WSH
theorem op_winds : Op2 mX8_winds mX9_winds := by
  intro s hr p1 p2
  have hN := hr.1.1
  have hM := hr.1.m
  obtain ⟨r0, r1, r2, r3, r4, r5, r6, r7, r8⟩ := id hr
  by_cases h1 : btw p1 0 2
  rotate_left
  · by_cases h2 : btw p2 0 2
    · obtain ⟨q, hq3, rfl⟩ := btw_nI 3 h2 (by decide)
      exact ⟨-1, s, s, by simp only [mX8_winds, c8 hN, sheetAt_out r0 h1, sheetAt_in r0 hq3, cl_some, nn, if_true], hN, by simp only [mX9_winds, isSheet_n h1, cl_some, i00, if_true], hr⟩
    · exact ⟨-1, s, s, by simp only [mX8_winds, c8 hN, sheetAt_out r0 h1, sheetAt_out r0 h2, cl_some, nn, if_true], hN, by simp only [mX9_winds, isSheet_n h1, cl_some, i00, if_true], hr⟩
  obtain ⟨r, hr3, rfl⟩ := btw_nI 3 h1 (by decide)
  by_cases h2 : btw p2 0 2
  rotate_left
  · exact ⟨-1, s, s, by simp only [mX8_winds, c8 hN, sheetAt_out r0 h2, sheetAt_in r0 hr3, cl_some, nn, sn, if_true, if_false], hN, by simp only [mX9_winds, isSheet_y h1, isSheet_n h2, cl_some, i00, i10, if_true, if_false, not_true], hr⟩
  obtain ⟨q, hq3, rfl⟩ := btw_nI 3 h2 (by decide)
  obtain ⟨k1, k2, k3, k4, k5⟩ := kdSh r hr3
  obtain ⟨l1, l2, l3, l4, l5⟩ := kdSh q hq3
  rcases r1.fv r0 hr3 with ⟨z1, z2⟩ | ⟨z1, n, hv⟩
  · refine ⟨-3, s, s, ?_, hN, ?_, hr⟩
    · simp only [mX8_winds, c8 hN, sheetAt_in r0 hr3, sheetAt_in r0 hq3, cl_some, sn, if_false]
      rw [gdI_at k1 (by omega), z1, if_pos rfl]
    · simp only [mX9_winds, isSheet_y h1, isSheet_y h2, cl_some, i10, if_false, if_true, not_false_iff]
      rw [mR hM 0 208 rfl (by decide) (by decide), alI_n (show r < ln 208 from hr3) (by decide) (by omega), z2, if_pos (by decide)]
  have z2 := hv.2.2.2.2.1
  have hn21 := hv.2.1
  rcases r1.fv r0 hq3 with ⟨y1, y2⟩ | ⟨y1, n', hv'⟩
  · refine ⟨-3, s, s, ?_, hN, ?_, hr⟩
    · simp only [mX8_winds, c8 hN, sheetAt_in r0 hr3, sheetAt_in r0 hq3, cl_some, sn, if_false]
      rw [gdI_at k1 (by omega), z1, if_neg (by decide), gdI_at l1 (by omega), y1, if_neg (by decide)]
    · simp only [mX9_winds, isSheet_y h1, isSheet_y h2, cl_some, i10, if_false, if_true, not_false_iff]
      rw [mR hM 0 208 rfl (by decide) (by decide), alI_n (show r < ln 208 from hr3) (by decide) (by omega), z2, if_neg (nI0 (by omega)), mR hM 0 208 rfl (by decide) (by decide), alI_n (show q < ln 208 from hq3) (by decide) (by omega), y2, if_neg (by decide)]
  have y2 := hv'.2.2.2.2.1
  have hn21' := hv'.2.1
  generalize (fun i => sI s 210 (20 * r + i)) = g at hv
  generalize (fun i => sF s 209 (20 * r + i)) = x at hv
  generalize (fun i => sI s 210 (20 * q + i)) = g' at hv'
  generalize (fun i => sF s 209 (20 * q + i)) = x' at hv'
  have hc0 : mX8_winds 0 (nI r) (nI q) s = cl (mX8_tellsWinds (some (15 + 3 * r)) s) fun v7 s8 => if v7 = 0 then some (-1, s8) else cl (mX8_tellsWinds (some (15 + 3 * q)) s8) fun v9 s10 => if ¬ v9 = 0 then lp (mX8_winds_b62 0 (some (15 + 3 * r)) (some (15 + 3 * q))) FU 0 s10 else some (-1, s10) := by
    simp only [mX8_winds, c8 hN, sheetAt_in r0 hr3, sheetAt_in r0 hq3, cl_some, sn, if_false]
    rw [gdI_at k1 (by omega), z1, if_neg (by decide), gdI_at l1 (by omega), y1, if_pos (by decide)]
  have t1 := hv.tells
  have t2 := hv'.tells
  by_cases hP : (0 < n ∧ ∀ k, k < 12 → okW (ten g x n k)) ∧ (0 < n' ∧ ∀ k, k < 12 → okW (ten g' x' n' k))
  rotate_left
  · refine ⟨-1, s, s, ?_, hN, ?_, hr⟩
    · rw [hc0]
      by_cases hA : 0 < n ∧ ∀ k, k < 12 → okW (ten g x n k)
      · rw [t1.1 hA, cl_some, if_neg (by decide), t2.2 (fun hB => hP ⟨hA, hB⟩), cl_some, if_neg (by decide)]
      · rw [t1.2 hA, cl_some, if_pos rfl]
    · simp only [mX9_winds, isSheet_y h1, isSheet_y h2, cl_some, i10, if_false, if_true, not_false_iff]
      rw [mR hM 0 208 rfl (by decide) (by decide), alI_n (show r < ln 208 from hr3) (by decide) (by omega), z2, if_neg (nI0 (by omega)), mR hM 0 208 rfl (by decide) (by decide), alI_n (show q < ln 208 from hq3) (by decide) (by omega), y2, if_pos (nI_pos' (by omega)), mR hM 0 208 rfl (by decide) (by decide), alI_n (show r < ln 208 from hr3) (by decide) (by omega), z2]
      by_cases hn0 : n = 0
      · rw [if_pos (by rw [hn0]; decide)]
        show mX9_winds_b64 _ _ _ _ _ _ = _
        unfold mX9_winds_b64
        rw [jn_eq]
        dsimp only
        rw [if_neg (by decide), if_pos rfl, if_neg (by decide)]
      rw [if_neg (nI_nle (by omega) (by omega)), mR hM 0 208 rfl (by decide) (by decide), alI_n (show q < ln 208 from hq3) (by decide) (by omega), y2]
      by_cases hn0' : n' = 0
      · rw [if_pos (by rw [hn0']; decide)]
        show mX9_winds_b64_ _ _ _ _ _ _ = _
        unfold mX9_winds_b64_
        rw [jn_eq]
        dsimp only
        rw [if_neg (by decide), if_pos rfl, if_neg (by decide)]
      rw [if_neg (nI_nle (by omega) (by omega))]
      have hb := bo_stop (F := mX9_winds_b64__ 207 (nI r) (nI q)) (s := s) (n := 12) (c := fun k => ¬ (okW (ten g x n k) ∧ okW (ten g' x' n' k))) (E := fun v => if v = 0 then lp (mX9_winds_b136__ 207 (nI r) (nI q)) FU 0 s else some (-1, s)) (fun w => ?_) (fun k hk w => ?_) (fun k hk hc w => ?_) (fun k hk hc w => ?_) FU 0 (Nat.zero_le _) (by decide)
      · refine (hb.1 (Classical.byContradiction fun z => hP ?_)).trans (if_neg (by decide))
        have hall : ∀ k, k < 12 → okW (ten g x n k) ∧ okW (ten g' x' n' k) := fun k hk => Classical.byContradiction fun y => z ⟨k, Nat.zero_le _, hk, y⟩
        exact ⟨⟨by omega, fun k hk => (hall k hk).1⟩, ⟨by omega, fun k hk => (hall k hk).2⟩⟩
      · unfold mX9_winds_b64__
        rw [jn_eq]
        dsimp only
        rw [if_pos (by decide), if_pos (by decide), if_pos rfl]
      · unfold mX9_winds_b64__
        rw [jn_eq]
        dsimp only
        by_cases hk12 : (12 : Int32) ≤ nI k
        · rw [if_pos hk12, if_neg (by decide), if_neg (by decide)]
        · rw [if_neg hk12, if_pos rfl, if_neg (by decide), if_neg (by decide)]
      · unfold mX9_winds_b64__
        rw [jn_eq]
        dsimp only
        rw [if_neg (lt12 hk), if_neg (by decide), c9 hN, hv.mten (by omega) hk, cl_some]
        by_cases hA : okW (ten g x n k)
        · rw [Mym300_300 hA, cl_some, if_neg (by decide), c9 hN, hv'.mten (by omega) hk, cl_some, Mnm300_300 (fun hB => hc ⟨hA, hB⟩), cl_some, if_pos rfl]
        · rw [Mnm300_300 hA, cl_some, if_pos rfl]
      · unfold mX9_winds_b64__
        rw [jn_eq]
        dsimp only
        have hc := Classical.not_not.mp hc
        rw [if_neg (lt12 hk), if_neg (by decide), c9 hN, hv.mten (by omega) hk, cl_some, Mym300_300 hc.1, cl_some, if_neg (by decide), c9 hN, hv'.mten (by omega) hk, cl_some, Mym300_300 hc.2, cl_some, if_neg (by decide)]
  obtain ⟨⟨pn, pA⟩, pn', pB⟩ := hP
  have hg0 : ∀ k, FV (wsh s 3 4 (ten g x n) (ten g' x' n') k) r n g x ∧ FV (wsh s 3 4 (ten g x n) (ten g' x' n') k) q n' g' x' := fun k => by
    have w0 := wsh_0 (a := 3) (b := 4) (tx := ten g x n) (ty := ten g' x' n') r0 (by omega) (by omega) k
    exact ⟨hv.congr w0 (fun a ha => wsh_E (by omega) (by omega) k), hv'.congr w0 (fun a ha => wsh_E (by omega) (by omega) k)⟩
  have e1 : mX8_winds 0 (nI r) (nI q) s = some (1, wsh s 3 4 (ten g x n) (ten g' x' n') 12) := by
    rw [hc0, t1.1 ⟨pn, pA⟩, cl_some, if_neg (by decide), t2.1 ⟨pn', pB⟩, cl_some, if_pos (by decide)]
    refine lp_run (F := mX8_winds_b62 0 (some (15 + 3 * r)) (some (15 + 3 * q))) (n := 12) (q := nI) (S := wsh s 3 4 (ten g x n) (ten g' x' n')) (fun w => ?_) (fun k hk w => ?_) FU 0 (Nat.zero_le _) (by decide)
    · unfold mX8_winds_b62
      rw [if_pos (by decide)]
    · obtain ⟨f1, f2⟩ := hg0 k
      have w0 := f1.2.2.1
      obtain ⟨h0, -, v1, -, -, -, -, -, -, -, v9, v10, -⟩ := w0
      unfold mX8_winds_b62
      rw [if_neg (lt12 hk), dR h0, v1, cv_at k1 (by omega), f1.cten pn hk, cl_some, cv_at l1 (by omega), f2.cten pn' hk, cl_some, cv_at (by decide) (by omega)]
      unfold mX0_blowAt
      rw [if_neg (nI0 (by omega)), if_neg (lt12 hk), gdR_at (by decide) (by omega), v9, asI_n (show k < ln 3 from hk) (by decide) (by omega), gdR_at (by decide) (by rw [sN_uI]; omega), sR_uI, v10, asI_n (show k < ln 4 from hk) (by decide) (by rw [sN_uI]; omega), cl_some, nI_1]
      rfl
  have e2 : ∀ s1, (∀ k, FV (wsh s1 211 212 (ten g x n) (ten g' x' n') k) r n g x ∧ FV (wsh s1 211 212 (ten g x n) (ten g' x' n') k) q n' g' x') → mX9_winds 207 (nI r) (nI q) s1 = some (1, wsh s1 211 212 (ten g x n) (ten g' x' n') 12) := by
    intro s1 hg
    have f1 : FV s1 r n g x := (hg 0).1
    have f2 : FV s1 q n' g' x' := (hg 0).2
    have m1 := f1.2.2.1.m
    have m1N := m1.1
    have u1 := f1.2.2.2.2.1
    have u2 := f2.2.2.2.2.1
    simp only [mX9_winds, isSheet_y h1, isSheet_y h2, cl_some, i10, if_false, if_true, not_false_iff]
    rw [mR m1 0 208 rfl (by decide) (by decide), alI_n (show r < ln 208 from hr3) (by decide) (by omega), u1, if_neg (nI0 (by omega)), mR m1 0 208 rfl (by decide) (by decide), alI_n (show q < ln 208 from hq3) (by decide) (by omega), u2, if_pos (nI_pos' (by omega)), mR m1 0 208 rfl (by decide) (by decide), alI_n (show r < ln 208 from hr3) (by decide) (by omega), u1, if_neg (nI_nle (by omega) (by omega)), mR m1 0 208 rfl (by decide) (by decide), alI_n (show q < ln 208 from hq3) (by decide) (by omega), u2, if_neg (nI_nle (by omega) (by omega))]
    have hw : lp (mX9_winds_b136__ 207 (nI r) (nI q)) FU 0 s1 = some (1, wsh s1 211 212 (ten g x n) (ten g' x' n') 12) := by
      refine lp_run (F := mX9_winds_b136__ 207 (nI r) (nI q)) (n := 12) (q := nI) (S := wsh s1 211 212 (ten g x n) (ten g' x' n')) (fun w => ?_) (fun k hk w => ?_) FU 0 (Nat.zero_le _) (by decide)
      · unfold mX9_winds_b136__
        rw [if_pos (by decide)]
      · obtain ⟨v1, v2⟩ := hg k
        have mk := v1.2.2.1.m
        have mkN := mk.1
        have v2' : FV (uI (wsh s1 211 212 (ten g x n) (ten g' x' n') k) 211 k (ten g x n k)) q n' g' x' := v2.congr (v2.2.2.1.uI (Or.inr (Or.inr (by omega)))) (fun a ha => Eqc.rf.uI (by omega))
        unfold mX9_winds_b136__
        rw [if_neg (lt12 hk), mR mk 3 211 rfl (by decide) (by decide), c9 mkN, v1.mten pn hk, cl_some, asI_n (show k < ln 211 from hk) (by decide) (by omega), mR mk.uI 4 212 rfl (by decide) (by decide), c9 (show sN (uI (wsh s1 211 212 (ten g x n) (ten g' x' n') k) 211 k (ten g x n k)) = 249 from mkN), v2'.mten pn' hk, cl_some, asI_n (show k < ln 212 from hk) (by decide) (by rw [sN_uI]; omega), nI_1]
        rfl
    have hb := bo_stop (F := mX9_winds_b64__ 207 (nI r) (nI q)) (s := s1) (n := 12) (c := fun k => False) (E := fun v => if v = 0 then lp (mX9_winds_b136__ 207 (nI r) (nI q)) FU 0 s1 else some (-1, s1)) (fun w => ?_) (fun k hk w => ?_) (fun k hk hc w => hc.elim) (fun k hk _ w => ?_) FU 0 (Nat.zero_le _) (by decide)
    · exact (hb.2 (fun ⟨k, _, _, z⟩ => z)).trans hw
    · unfold mX9_winds_b64__
      rw [jn_eq]
      dsimp only
      rw [if_pos (by decide), if_pos (by decide), if_pos rfl]
    · unfold mX9_winds_b64__
      rw [jn_eq]
      dsimp only
      by_cases hk12 : (12 : Int32) ≤ nI k
      · rw [if_pos hk12, if_neg (by decide), if_neg (by decide)]
      · rw [if_neg hk12, if_pos rfl, if_neg (by decide), if_neg (by decide)]
    · unfold mX9_winds_b64__
      rw [jn_eq]
      dsimp only
      rw [if_neg (lt12 hk), if_neg (by decide), c9 m1N, f1.mten pn hk, cl_some, Mym300_300 (pA k hk), cl_some, if_neg (by decide), c9 m1N, f2.mten pn' hk, cl_some, Mym300_300 (pB k hk), cl_some, if_neg (by decide)]
  have w12 := wsh_0 (a := 3) (b := 4) (tx := ten g x n) (ty := ten g' x' n') r0 (by omega) (by omega) 12
  refine ⟨1, _, _, e1, w12.1, e2 _ (fun k => ?_), ?_⟩
  · have w1 := wsh_0 (a := 211) (b := 212) (tx := ten g x n) (ty := ten g' x' n') w12 (by omega) (by omega) k
    obtain ⟨f1, f2⟩ := hg0 12
    exact ⟨f1.congr w1 (fun a ha => wsh_E (by omega) (by omega) k), f2.congr w1 (fun a ha => wsh_E (by omega) (by omega) k)⟩
  have wS := wsh_0 (a := 211) (b := 212) (tx := ten g x n) (ty := ten g' x' n') w12 (by omega) (by omega) 12
  have hE : ∀ a, a ≠ 3 → a ≠ 4 → a ≠ 211 → a ≠ 212 → Eqc s (wsh (wsh s 3 4 (ten g x n) (ten g' x' n') 12) 211 212 (ten g x n) (ten g' x' n') 12) a := fun a z1 z2 z3 z4 => (wsh_E z1 z2 12).tr (wsh_E z3 z4 12)
  have h00 := (hE 0 (by omega) (by omega) (by omega) (by omega)).1
  have h07 := (hE 207 (by omega) (by omega) (by omega) (by omega)).1
  refine ⟨wS, r1.congr (fun a h => hE a (by omega) (by omega) (by omega) (by omega)), fun k hk => ?_, r3.congr (fun a h => hE a (by omega) (by omega) (by omega) (by omega)), r4.congr (fun a h => hE a (by omega) (by omega) (by omega) (by omega)) (by rw [h00]) (by rw [h07]), r5.congr (fun a h => hE a (by omega) (by omega) (by omega) (by omega)), r6.congr (fun a h => hE a (by omega) (by omega) (by omega) (by omega)), r7.congr (fun a h => hE a (by omega) (by omega) (by omega) (by omega)) (by rw [h00]) (by rw [h07]) (by rw [h07]), r8.congr (fun a h => hE a (by omega) (by omega) (by omega) (by omega)) (by rw [h07])⟩
  have v3 : sI (wsh (wsh s 3 4 (ten g x n) (ten g' x' n') 12) 211 212 (ten g x n) (ten g' x' n') 12) 3 k = ten g x n k := by rw [wsh_I (by omega), if_neg (by omega), if_neg (by omega), wsh_I (by omega), if_neg (by omega), if_pos (by omega)]
  have v4 : sI (wsh (wsh s 3 4 (ten g x n) (ten g' x' n') 12) 211 212 (ten g x n) (ten g' x' n') 12) 4 k = ten g' x' n' k := by rw [wsh_I (by omega), if_neg (by omega), if_neg (by omega), wsh_I (by omega), if_pos (by omega)]
  have v1 : sI (wsh (wsh s 3 4 (ten g x n) (ten g' x' n') 12) 211 212 (ten g x n) (ten g' x' n') 12) 211 k = ten g x n k := by rw [wsh_I (by omega), if_neg (by omega), if_pos (by omega)]
  have v2 : sI (wsh (wsh s 3 4 (ten g x n) (ten g' x' n') 12) 211 212 (ten g x n) (ten g' x' n') 12) 212 k = ten g' x' n' k := by rw [wsh_I (by omega), if_pos (by omega)]
  rw [v1, v2, v3, v4]
  exact ⟨rfl, rfl, pA k hk, pB k hk⟩
