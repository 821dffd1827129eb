section WS
variable {s s1 : Sg}
theorem pgi_scr (hS : MEq s s1) (l i : Nat) : pgi s1 l i = pgi s l i := by
  unfold pgi
  rw [hS.eq (a := 229) (by omega)]
theorem gsz_scr (hS : MEq s s1) (g : Nat) : gsz s1 g = gsz s g := by
  unfold gsz
  rw [hS.eq (a := 220) (by omega)]
theorem gj_scr (hS : MEq s s1) (g k : Nat) : gj s1 g k = gj s g k := by
  unfold gj
  rw [hS.eq (a := 221) (by omega)]
theorem kN_scr (hS : MEq s s1) (g : Nat) : kN s1 g = kN s g := by
  unfold kN
  rw [hS.eq (a := 216) (by omega)]
theorem rnk_scr (hS : MEq s s1) (g : Nat) : rnk s1 g = rnk s g := by
  unfold rnk
  rw [kN_scr hS, hS.eq (a := 226) (by omega)]
theorem wsum_scr (hS : MEq s s1) (g : Nat) : ∀ k, wsum s1 g k = wsum s g k
  | 0 => rfl
  | k + 1 => by rw [wsum, wsum, wsum_scr hS g k, hS.eq (a := 214) (by omega), hS.eq (a := 221) (by omega)]
theorem lws_scr (hS : MEq s s1) (l : Nat) : ∀ k, lws s1 l k = lws s l k
  | 0 => rfl
  | k + 1 => by rw [lws, lws, lws_scr hS l k, pgi_scr hS, gsz_scr hS, wsum_scr hS]
theorem csum_scr (hS : MEq s s1) (g : Nat) (so : Int32) : ∀ k, csum s1 g so k = csum s g so k
  | 0 => rfl
  | k + 1 => by rw [csum, csum, csum_scr hS g so k, gj_scr hS, hS.eq (a := 213) (by omega)]
theorem jin_scr (hS : MEq s s1) (l i : Nat) : jin s1 l i = jin s l i := jin_congr (hS.eq (a := 220) (by omega)) (hS.eq (a := 229) (by omega)) l i
theorem cE_scr (hS : MEq s s1) (l m : Nat) : cE s1 l m = cE s l m := by
  unfold cE
  simp only [pgi_scr hS, hS.eq (a := 220) (by omega)]
theorem c5_scr (hS : MEq s s1) (l m : Nat) (day : Int32) : cW5 s1 l m day = cW5 s l m day := by
  unfold cW5 c5g
  simp only [pgi_scr hS, gsz_scr hS, gj_scr hS, hS.eq (a := 215) (by omega)]
theorem c6_scr (hS : MEq s s1) (l m : Nat) : cW6 s1 l m = cW6 s l m := by
  unfold cW6 c6g hsj
  simp only [pgi_scr hS, gsz_scr hS, gj_scr hS, hS.eq (a := 221) (by omega)]
theorem c7_scr (hS : MEq s s1) (l m : Nat) : cW7 s1 l m = cW7 s l m := by
  unfold cW7 c7g
  simp only [pgi_scr hS, gsz_scr hS, csum_scr hS, hS.eq (a := 216) (by omega)]
theorem c8_scr (hS : MEq s s1) (l m : Nat) : cW8 s1 l m = cW8 s l m := by
  unfold cW8 wsq
  simp only [pgi_scr hS, kN_scr hS, hS.eq (a := 226) (by omega), hS.eq (a := 211) (by omega), hS.eq (a := 212) (by omega)]
theorem c9_scr (hS : MEq s s1) (l m : Nat) : cW9 s1 l m = cW9 s l m := by
  unfold cW9
  simp only [pgi_scr hS, rnk_scr hS]
end WS
theorem Rel.lq {s : Sg} (hr : Rel s) {n l m : Nat} (hn : n < 13) (e : sI s 207 20 = nI n) (hl : l < n) (hv : LV s l m) : LQ s l m := ⟨hr, hv, fun i hi => hr.lgi hn e hl hv hi⟩
theorem Rel.n {s : Sg} (hr : Rel s) {n l : Nat} (hn : n < 13) (e : sI s 207 20 = nI n) (hl : l < 12) : RL1 s n l := by
  obtain ⟨r0, r1, r2, r3, r4, r5, r6, ⟨en, n', hn', en2, hL⟩, r8⟩ := hr
  have hnn : n' = n := (nI_eq (by omega) (by omega)).mp (en2.symm.trans e)
  subst hnn
  exact hL l hl
section WHY
variable {s : Sg} {n l : Nat} {day : Int32}
/-- one call of why: the class from s, the reference from where the class left it -/
theorem why_core (hr : Rel s) (hn : n < 13) (e : sI s 207 20 = nI n) (hl : l < n) (hday : btw day 0 1000) : ∃ v s1, mX8_why 0 (nI l) day s = some (v, s1) ∧ Scr s s1 ∧ (0 ≤ v.toInt) ∧ (v = 0 → sI s 232 l = 0) ∧ ∀ s1', MEq s s1' → ∃ s2, mX9_barOf 207 (nI l) day s1' = some (v, s2) ∧ Scr s1' s2 ∧ (v = 0 → ∃ p H, p < 3 ∧ sI s 227 l = nI p ∧ sR s (99 + 7 * l) 4 = some (96 + p) ∧ sR s (99 + 7 * l) 5 = some 2 ∧ sI s 225 p = nI H ∧ TD s2 (sI s 224 p) H (sI s 211) (sI s 212)) := by
  have hN := hr.1.1
  have hM := hr.1.m
  have hl12 : l < 12 := by omega
  have hRL := hr.n hn e hl12
  obtain ⟨k1, k2, k3, k4, k5, -⟩ := kdLo l hl12
  obtain ⟨m, hv⟩ := hRL.lv hr.1 hl12
  have hm := hv.2.1
  obtain ⟨a1, a2, a3, hst, ⟨p, hp, hpl, hc⟩, -⟩ := id hRL
  have en : sI s 0 10 = nI n := by
    obtain ⟨r0, r1, r2, r3, r4, r5, r6, ⟨en, n', hn', en2, hL⟩, r8⟩ := hr
    exact en.trans e
  have hQ := hr.lq hn e hl hv
  have eW : ∀ X, (mX8_why 0 (nI l) day s = X) ↔ ((gdI s 5 8 (some (99 + 7 * l)) fun v5 => if v5 = 0 then (cv s 5 (some (99 + 7 * l)) fun a30 => cl (mX5_lacksJumpers a30 s) fun v6 s7 => if v6 = 0 then (cv s7 5 (some (99 + 7 * l)) fun a29 => cl (mX5_jumperCount a29 s7) fun v8 s9 => gdR s9 5 4 (some (99 + 7 * l)) fun v10 => gdI s9 6 1 v10 fun v11 => if v8 ≤ v11 then (cv s9 5 (some (99 + 7 * l)) fun a28 => cl (mX5_weight a28 s9) fun v12 s13 => gdR s13 5 4 (some (99 + 7 * l)) fun v14 => gdI s13 6 2 v14 fun v15 => if v12 ≤ v15 then (cv s13 5 (some (99 + 7 * l)) fun a27 => cl (mX5_isWornOn a27 day s13) fun v16 s17 => if v16 = 0 then (cv s17 5 (some (99 + 7 * l)) fun a26 => cl (mX5_holdsOneTwice a26 s17) fun v18 s19 => if v18 = 0 then (cv s19 5 (some (99 + 7 * l)) fun a25 => cl (mX5_lacksHelp a25 s19) fun v20 s21 => if v20 = 0 then (cv s21 8 (some 0) fun a24 => cl (mX8_whyByFall a24 (some (99 + 7 * l)) s21) fun v22 s23 => some (v22, s23)) else some (7, s21)) else some (6, s19)) else some (5, s17)) else some (4, s13)) else some (3, s9)) else some (2, s7)) else some (1, s)) = X) := by
    intro X
    unfold mX8_why
    rw [c8 hN, loadAt_in hr.1 hn en hl, cl_some, if_neg (by simp), Wy0_1000 hday, cl_some, if_pos (by decide)]
  rcases hc with ⟨z, hc⟩ | ⟨z, -, c1, c2, c3, c4, c5, c6, c7, c8'⟩
  rotate_left
  · -- it has left
    obtain ⟨P, A, ax, ay, V, H, wx, wy, e4, e5, hP, hT⟩ := hr.ld hn e hl
    refine ⟨1, s, (eW _).2 ?_, Scr.rf, by decide, fun h => absurd h (by decide), fun s1 hS1 => ?_⟩
    · rw [gdI_at k1 (by omega), a3, z, if_neg (by decide)]
    · obtain ⟨s2, d1, d2⟩ := hT s1 hS1
      have hS2 := hS1.tr d2.toS
      have hM2 := hS2.1
      refine ⟨s2, ?_, d2.toS, fun h => absurd h (by decide)⟩
      unfold mX9_barOf
      rw [c9 hS1.1.1, d1, cl_some, mR hM2 21 227 rfl (by decide) (by decide), alI_n (show l < ln 227 from hl12) (by decide) (by rw [hM2.1]; decide), mR hM2 26 232 rfl (by decide) (by decide), alZ_n (show l < ln 232 from hl12) (by decide) (by rw [hM2.1]; decide), hS2.eq (a := 232) (by omega), z, if_neg (by decide)]
  -- it has not
  obtain ⟨e4, e5⟩ : sR s (99 + 7 * l) 4 = some (96 + p) ∧ sR s (99 + 7 * l) 5 = some 2 := by
    rcases hc with hc | hc
    · omega
    · exact hc
  obtain ⟨H, hP, hH⟩ := hr.pl hp
  have hs5 : R5 s := hr.2.2.2.2.2.1
  obtain ⟨u1, u2, -⟩ := hs5 p hp
  -- the reference, from any s1
  have mBar : ∀ s1, MEq s s1 → ∃ s2, Scr s1 s2 ∧ TD s2 (sI s 224 p) H (sI s 211) (sI s 212) ∧ ((cE s l m → mX9_barOf 207 (nI l) day s1 = some (2, s2)) ∧ (¬ cE s l m → (¬ jin s l m ≤ sI s 222 p → mX9_barOf 207 (nI l) day s1 = some (3, s2)) ∧ (jin s l m ≤ sI s 222 p → (¬ lws s l m ≤ sI s 223 p → mX9_barOf 207 (nI l) day s1 = some (4, s2)) ∧ (lws s l m ≤ sI s 223 p → (cW5 s l m day → mX9_barOf 207 (nI l) day s1 = some (5, s2)) ∧ (¬ cW5 s l m day → (cW6 s l m → mX9_barOf 207 (nI l) day s1 = some (6, s2)) ∧ (¬ cW6 s l m → (cW7 s l m → mX9_barOf 207 (nI l) day s1 = some (7, s2)) ∧ (¬ cW7 s l m → (cW8 s l m → mX9_barOf 207 (nI l) day s1 = some (8, s2)) ∧ (¬ cW8 s l m → (cW9 s l m → mX9_barOf 207 (nI l) day s1 = some (9, s2)) ∧ (¬ cW9 s l m → mX9_barOf 207 (nI l) day s1 = (cv s2 9 (some 207) fun a32 => cl (mX9_areSomeNear a32 (nI l) s2) fun v27 s28 => if v27 = 0 then (cv s28 9 (some 207) fun a31 => cl (mX9_isSomeOut a31 (nI l) s28) fun v29 s30 => if v29 = 0 then some (0, s30) else some (11, s30)) else some (10, s28))))))))))) := by
    intro s1 hS1
    obtain ⟨s2, d1, d2⟩ := takeLoad_0 (s := s1) (p := p) (H := H) (V := sI s 224 p) hS1.1 hl12 hp (by rw [hS1.eq (a := 227) (by omega)]; exact hpl) (by rw [hS1.eq (a := 224) (by omega)]) (by rw [hS1.eq (a := 225) (by omega)]; exact hH) (by rw [hS1.eq (a := 232) (by omega)]; exact z)
    rw [hS1.eq (a := 211) (by omega), hS1.eq (a := 212) (by omega)] at d2
    have hS2 := hS1.tr d2.toS
    have hM2 := hS2.1
    have hN2 := hM2.1
    have hQ2 := hQ.mv.me hS2
    have b0 := mEmpty hQ2
    rw [cE_scr hS2] at b0
    have b1 : mX9_jumpersIn 207 (nI l) s2 = some (jin s l m, s2) := by
      rw [mJumpersIn hM2 hl12 hm hQ2.2.1.2.2 (fun i hi => ⟨_, (hQ2.2.2 i hi).1, (hQ2.2.2 i hi).2⟩), jin_scr hS2]
    have b2 := mWeightOn hQ2
    rw [lws_scr hS2] at b2
    have b5 := mOldGear (day := day) hQ2
    rw [c5_scr hS2] at b5
    have b6 := mTwice hQ2
    rw [c6_scr hS2] at b6
    have b7 := mAlone hQ2
    rw [c7_scr hS2] at b7
    have b8 := mBlows hQ2
    rw [c8_scr hS2] at b8
    have b9 := mRanks hQ2
    rw [c9_scr hS2] at b9
    refine ⟨s2, d2.toS, d2.td, ?_⟩
    unfold mX9_barOf
    rw [c9 hS1.1.1, d1, cl_some, mR hM2 21 227 rfl (by decide) (by decide), alI_n (show l < ln 227 from hl12) (by decide) (by rw [hN2]; decide), hS2.eq (a := 227) (by omega), hpl, mR hM2 26 232 rfl (by decide) (by decide), alZ_n (show l < ln 232 from hl12) (by decide) (by rw [hN2]; decide), hS2.eq (a := 232) (by omega), z, if_pos rfl, c9 hN2]
    refine ⟨fun h => ?_, fun h => ?_⟩
    · rw [b0.1 h, cl_some, if_neg (by decide)]
    rw [b0.2 h, cl_some, if_pos rfl, c9 hN2, b1, cl_some, mR hM2 15 222 rfl (by decide) (by decide), alI_n (show p < ln 222 from hp) (by decide) (by rw [hN2]; decide), hS2.eq (a := 222) (by omega)]
    refine ⟨fun h => ?_, fun h => ?_⟩
    · rw [if_neg h]
    rw [if_pos h, c9 hN2, b2, cl_some, mR hM2 16 223 rfl (by decide) (by decide), alI_n (show p < ln 223 from hp) (by decide) (by rw [hN2]; decide), hS2.eq (a := 223) (by omega)]
    refine ⟨fun h => ?_, fun h => ?_⟩
    · rw [if_neg h]
    rw [if_pos h, c9 hN2]
    refine ⟨fun h => ?_, fun h => ?_⟩
    · rw [b5.1 h, cl_some, if_neg (by decide)]
    rw [b5.2 h, cl_some, if_pos rfl, c9 hN2]
    refine ⟨fun h => ?_, fun h => ?_⟩
    · rw [b6.1 h, cl_some, if_neg (by decide)]
    rw [b6.2 h, cl_some, if_pos rfl, c9 hN2]
    refine ⟨fun h => ?_, fun h => ?_⟩
    · rw [b7.1 h, cl_some, if_neg (by decide)]
    rw [b7.2 h, cl_some, if_pos rfl, c9 hN2]
    refine ⟨fun h => ?_, fun h => ?_⟩
    · rw [b8.1 h, cl_some, if_neg (by decide)]
    rw [b8.2 h, cl_some, if_pos rfl, c9 hN2]
    refine ⟨fun h => ?_, fun h => ?_⟩
    · rw [b9.1 h, cl_some, if_neg (by decide)]
    rw [b9.2 h, cl_some, if_pos rfl]
  have q0 := cEmpty hQ
  have r4 : R4 s := hr.2.2.2.2.1
  have q1 : mX5_jumperCount (99 + 7 * l) s = some (jin s l m, s) := hv.count r4
  have q2 := cWeight hQ
  have q5 := cWorn (day := day) hQ
  have q6 := cTwice hQ
  have q7 := cLacks hQ
  have q8 := cWindy hQ e5
  have q9 := cRanks hQ
  have kP := kdPl p hp
  have out : ∀ (v : Int32), 0 ≤ v.toInt → v ≠ 0 → mX8_why 0 (nI l) day s = some (v, s) → (∀ s1, MEq s s1 → ∃ s2, mX9_barOf 207 (nI l) day s1 = some (v, s2) ∧ Scr s1 s2) → ∃ v s1, mX8_why 0 (nI l) day s = some (v, s1) ∧ Scr s s1 ∧ (0 ≤ v.toInt) ∧ (v = 0 → sI s 232 l = 0) ∧ ∀ s1', MEq s s1' → ∃ s2, mX9_barOf 207 (nI l) day s1' = some (v, s2) ∧ Scr s1' s2 ∧ (v = 0 → ∃ p H, p < 3 ∧ sI s 227 l = nI p ∧ sR s (99 + 7 * l) 4 = some (96 + p) ∧ sR s (99 + 7 * l) 5 = some 2 ∧ sI s 225 p = nI H ∧ TD s2 (sI s 224 p) H (sI s 211) (sI s 212)) := fun v h0 h1 h2 h3 => ⟨v, s, h2, Scr.rf, h0, fun z => absurd z h1, fun s1 hS1 => by
    obtain ⟨s2, h4, h5⟩ := h3 s1 hS1
    exact ⟨s2, h4, h5, fun z => absurd z h1⟩⟩
  rw [gdI_at k1 (by omega), a3, z, if_pos rfl, cv_at k1 (by omega)] at eW
  by_cases hE : cE s l m
  · refine out 2 (by decide) (by decide) ((eW _).2 ?_) (fun s1 hS1 => by obtain ⟨s2, hS2, hT2, mB⟩ := mBar s1 hS1; exact ⟨s2, mB.1 hE, hS2⟩)
    rw [q0.1 hE, cl_some, if_neg (by decide)]
  rw [q0.2 hE, cl_some, if_pos rfl, cv_at k1 (by omega), q1, cl_some, gdR_at k1 (by omega), e4, gdI_at kP (by omega), u1] at eW
  by_cases h3 : jin s l m ≤ sI s 222 p
  rotate_left
  · refine out 3 (by decide) (by decide) ((eW _).2 ?_) (fun s1 hS1 => by obtain ⟨s2, hS2, hT2, mB⟩ := mBar s1 hS1; exact ⟨s2, (mB.2 hE).1 h3, hS2⟩)
    rw [if_neg h3]
  rw [if_pos h3, cv_at k1 (by omega), q2, cl_some, gdR_at k1 (by omega), e4, gdI_at kP (by omega), u2] at eW
  by_cases h4 : lws s l m ≤ sI s 223 p
  rotate_left
  · refine out 4 (by decide) (by decide) ((eW _).2 ?_) (fun s1 hS1 => by obtain ⟨s2, hS2, hT2, mB⟩ := mBar s1 hS1; exact ⟨s2, ((mB.2 hE).2 h3).1 h4, hS2⟩)
    rw [if_neg h4]
  rw [if_pos h4, cv_at k1 (by omega)] at eW
  by_cases h5 : cW5 s l m day
  · refine out 5 (by decide) (by decide) ((eW _).2 ?_) (fun s1 hS1 => by obtain ⟨s2, hS2, hT2, mB⟩ := mBar s1 hS1; exact ⟨s2, (((mB.2 hE).2 h3).2 h4).1 h5, hS2⟩)
    rw [q5.1 h5, cl_some, if_neg (by decide)]
  rw [q5.2 h5, cl_some, if_pos rfl, cv_at k1 (by omega)] at eW
  by_cases h6 : cW6 s l m
  · refine out 6 (by decide) (by decide) ((eW _).2 ?_) (fun s1 hS1 => by obtain ⟨s2, hS2, hT2, mB⟩ := mBar s1 hS1; exact ⟨s2, ((((mB.2 hE).2 h3).2 h4).2 h5).1 h6, hS2⟩)
    rw [q6.1 h6, cl_some, if_neg (by decide)]
  rw [q6.2 h6, cl_some, if_pos rfl, cv_at k1 (by omega)] at eW
  by_cases h7 : cW7 s l m
  · refine out 7 (by decide) (by decide) ((eW _).2 ?_) (fun s1 hS1 => by obtain ⟨s2, hS2, hT2, mB⟩ := mBar s1 hS1; exact ⟨s2, (((((mB.2 hE).2 h3).2 h4).2 h5).2 h6).1 h7, hS2⟩)
    rw [q7.1 h7, cl_some, if_neg (by decide)]
  rw [q7.2 h7, cl_some, if_pos rfl, c8 hN] at eW
  unfold mX8_whyByFall at eW
  rw [c8 hN] at eW
  by_cases h8 : cW8 s l m
  · refine out 8 (by decide) (by decide) ((eW _).2 ?_) (fun s1 hS1 => by obtain ⟨s2, hS2, hT2, mB⟩ := mBar s1 hS1; exact ⟨s2, ((((((mB.2 hE).2 h3).2 h4).2 h5).2 h6).2 h7).1 h8, hS2⟩)
    rw [q8.1 h8, cl_some, if_neg (by decide), cl_some]
  rw [q8.2 h8, cl_some, if_pos rfl, c8 hN] at eW
  by_cases h9 : cW9 s l m
  · refine out 9 (by decide) (by decide) ((eW _).2 ?_) (fun s1 hS1 => by obtain ⟨s2, hS2, hT2, mB⟩ := mBar s1 hS1; exact ⟨s2, (((((((mB.2 hE).2 h3).2 h4).2 h5).2 h6).2 h7).2 h8).1 h9, hS2⟩)
    rw [q9.1 h9, cl_some, if_neg (by decide), cl_some]
  clear out
  rw [q9.2 h9, cl_some, if_pos (by decide), c8 hN] at eW
  obtain ⟨sa, f1, f2, f3⟩ := followAll_ok hr hn e hl hv hP e4 e5
  have hNa : sN sa = 249 := f2.1.trans hN
  have q10 := cFree hr f2 hn e hl hv hP e4 f3
  have q11 := cHome hr f2 hn e hl hv hP e4 hst f3
  rw [f1, cl_some, c8 hNa] at eW
  have mTail : ∀ s1, MEq s s1 → ∃ v10 v11 s2, ((v10 = (1 : Int32) ∧ cW10 s l m (sI s 224 p) H (sI s 211) (sI s 212)) ∨ (v10 = 0 ∧ ¬ cW10 s l m (sI s 224 p) H (sI s 211) (sI s 212))) ∧ ((v11 = (1 : Int32) ∧ cW11 s l m (sI s 224 p) H (sI s 211) (sI s 212)) ∨ (v11 = 0 ∧ ¬ cW11 s l m (sI s 224 p) H (sI s 211) (sI s 212))) ∧ Scr s1 s2 ∧ TD s2 (sI s 224 p) H (sI s 211) (sI s 212) ∧ (v10 = 0 → mX9_barOf 207 (nI l) day s1 = if v11 = 0 then some (0, s2) else some (11, s2)) ∧ (v10 = 1 → ∃ s3, mX9_barOf 207 (nI l) day s1 = some (10, s3) ∧ Scr s1 s3) := by
    intro s1 hS1
    obtain ⟨s2, hS2, hT2, mB⟩ := mBar s1 hS1
    replace mB := (((((((mB.2 hE).2 h3).2 h4).2 h5).2 h6).2 h7).2 h8).2 h9
    have hX2 := hS1.tr hS2
    obtain ⟨v10, sb, g1, g2, g3, g4⟩ := mSomeNear hr hX2 hT2 hn e hl hv hP
    have hXb := hX2.tr g2
    obtain ⟨v11, sc, i1, i2, i3, i4⟩ := mSomeOut hr hXb g3 hn e hl hv hP hst
    rw [c9 hX2.1.1, g1, cl_some] at mB
    refine ⟨v10, v11, sc, g4, i4, (hS2.tr g2).tr i2, i3, fun h => ?_, fun h => ?_⟩
    · subst h
      rw [mB, if_pos rfl, c9 hXb.1.1, i1, cl_some]
    · subst h
      rw [if_neg (by decide)] at mB
      exact ⟨sb, mB, hS2.tr g2⟩
  by_cases h10 : cW10 s l m (sI s 224 p) H (sI s 211) (sI s 212)
  · refine ⟨10, sa, (eW _).2 ?_, f2, by decide, fun z => absurd z (by decide), fun s1 hS1 => ?_⟩
    · rw [q10.1 h10, cl_some, if_neg (by decide), cl_some]
    · obtain ⟨v10, v11, s2, t1, t2, t3, t4, t5, t6⟩ := mTail s1 hS1
      rcases t1 with ⟨t1, -⟩ | ⟨-, t1⟩
      · obtain ⟨s3, t7, t8⟩ := t6 t1
        exact ⟨s3, t7, t8, fun z => absurd z (by decide)⟩
      · exact absurd h10 t1
  rw [q10.2 h10, cl_some, if_pos (by decide), c8 hNa] at eW
  by_cases h11 : cW11 s l m (sI s 224 p) H (sI s 211) (sI s 212)
  · refine ⟨11, sa, (eW _).2 ?_, f2, by decide, fun z => absurd z (by decide), fun s1 hS1 => ?_⟩
    · rw [q11.1 h11, cl_some, if_pos rfl, cl_some]
    · obtain ⟨v10, v11, s2, t1, t2, t3, t4, t5, t6⟩ := mTail s1 hS1
      rcases t1 with ⟨-, t1⟩ | ⟨t1, -⟩
      · exact absurd t1 h10
      · rcases t2 with ⟨t2, -⟩ | ⟨-, t2⟩
        · have t7 := t5 t1
          rw [t2, if_neg (by decide)] at t7
          exact ⟨s2, t7, t3, fun z => absurd z (by decide)⟩
        · exact absurd h11 t2
  · refine ⟨0, sa, (eW _).2 ?_, f2, by decide, fun _ => z, fun s1 hS1 => ?_⟩
    · rw [q11.2 h11, cl_some, if_neg (by decide), cl_some]
    · obtain ⟨v10, v11, s2, t1, t2, t3, t4, t5, t6⟩ := mTail s1 hS1
      rcases t1 with ⟨-, t1⟩ | ⟨t1, -⟩
      · exact absurd t1 h10
      · rcases t2 with ⟨-, t2⟩ | ⟨t2, -⟩
        · exact absurd t2 h11
        · have t7 := t5 t1
          rw [t2, if_pos rfl] at t7
          exact ⟨s2, t7, t3, fun _ => ⟨p, H, hp, hpl, e4, e5, hH, t4⟩⟩
end WHY
theorem op_why : Op2 mX8_why mX9_why := by
  intro s hr p1 p2
  have hN := hr.1.1
  have hM := hr.1.m
  obtain ⟨r0, r1, r2, r3, r4, r5, r6, r7, r8⟩ := id hr
  obtain ⟨en, n, hn, en2, hL⟩ := id r7
  rcases plc n (by omega) p1 with hp | ⟨l, hln, rfl⟩
  · exact ⟨-1, s, s, by simp only [mX8_why, c8 hN, loadAt_out r0 (en.trans en2) hp, cl_some, nn, if_true], hN, by simp only [mX9_why, c9 hN, isLoad_n hM hn en2 hp, cl_some, i00, if_true], hr⟩
  by_cases h2 : btw p2 0 1000
  rotate_left
  · exact ⟨-1, s, s, by simp only [mX8_why, c8 hN, loadAt_in r0 hn (en.trans en2) hln, Wn0_1000 h2, cl_some, sn, i00, if_false, not_true], hN, by simp only [mX9_why, c9 hN, isLoad_y hM hn en2 hln, Mn0_1000 h2, cl_some, i00, i10, if_true, if_false], hr⟩
  obtain ⟨v, s1, a1, a2, -, -, a5⟩ := why_core hr hn en2 hln h2
  obtain ⟨s2, a3, a4, -⟩ := a5 s1 (a2.me hM)
  have hM1 := a2.m hM
  have hN1 := hM1.1
  refine ⟨v, s1, s2, a1, hN1, ?_, hr.scr (a2.tr a4)⟩
  unfold mX9_why
  rw [c9 hN1, isLoad_y hM1 hn (by rw [a2.e7 (by decide)]; exact en2) hln, cl_some, if_neg (by decide), My0_1000 h2, cl_some, if_neg (by decide), c9 hN1, a3, cl_some]
