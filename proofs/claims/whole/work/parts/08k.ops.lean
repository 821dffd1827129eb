theorem jn_eq {A X : Type} {f : A → Sg → Option X} {g : (A → Sg → Option X) → Option X} : jn f g = g f := rfl
section GD
variable {β : Type} {a b c e f g d : β} {xs : List β}
theorem gd0 : (a :: xs).getD 0 d = a := rfl
theorem gd1 : (a :: b :: xs).getD 1 d = b := rfl
theorem gd2 : (a :: b :: c :: xs).getD 2 d = c := rfl
theorem gd3 : (a :: b :: c :: e :: xs).getD 3 d = e := rfl
theorem gd4 : (a :: b :: c :: e :: f :: xs).getD 4 d = f := rfl
theorem gd5 : (a :: b :: c :: e :: f :: g :: xs).getD 5 d = g := rfl
end GD
/-! sums -/
def wsum (s : Sg) (g : Nat) : Nat → Int32
  | 0 => 0
  | k + 1 => wsum s g k + sI s 214 (sI s 221 (4 * g + k)).toNatClampNeg
def psum (s : Sg) (l : Nat) : Nat → Int32
  | 0 => 0
  | i + 1 => psum s l i + sI s 230 (6 * l + (i + 1))
theorem GV.weight {s : Sg} (r3 : R3 s) {g m : Nat} (h : GV s g m) : mX2_weight (56 + 2 * g) s = some (wsum s g m, s) := by
  obtain ⟨hg, hm, z1, z2, z3, ⟨hN, -⟩, z4⟩ := h
  obtain ⟨k1, k2, k3⟩ := kdGr g hg
  refine lp_run (F := mX2_weight_b4 (56 + 2 * g)) (n := m) (q := fun k => (wsum s g k, nI k)) (S := fun _ => s) (fun r => ?_) (fun k hk r => ?_) FU 0 (Nat.zero_le _) (show m - 0 < 4000 by omega)
  · unfold mX2_weight_b4
    rw [gdI_at k1 (by omega), z2, if_pos (Int32.le_refl _)]
  · obtain ⟨j, t1, t2, t3⟩ := z4 k hk
    unfold mX2_weight_b4
    rw [gdI_at k1 (by omega), z2]
    dsimp only
    rw [if_neg (nI_ge hk (by omega)), gdR_at k1 (by omega), z3, alR_n (by omega) k2 (by omega), t3, gdI_at (kdJu j t1) (by omega), (r3 j t1).2.1, nI_1]
    show r (wsum s g k + sI s 214 j, nI (k + 1)) s = r (wsum s g k + sI s 214 (sI s 221 (4 * g + k)).toNatClampNeg, nI (k + 1)) s
    rw [t2, nI_clamp (by omega)]
theorem mWeight {s : Sg} (hM : M0 s) {g m : Nat} (hg : g < 20) (hm : m < 5) (z1 : sI s 220 g = nI m) (z4 : ∀ k, k < m → ∃ j, j < 32 ∧ sI s 221 (4 * g + k) = nI j) : mX9_weightIn 207 (nI g) s = some (wsum s g m, s) := by
  have hN := hM.1
  refine lp_run (F := mX9_weightIn_b4 207 (nI g)) (n := m) (q := fun k => (wsum s g k, nI k)) (S := fun _ => s) (fun r => ?_) (fun k hk r => ?_) FU 0 (Nat.zero_le _) (show m - 0 < 4000 by omega)
  · unfold mX9_weightIn_b4
    rw [mR hM 13 220 rfl (by decide) (by decide), alI_n (show g < ln 220 from hg) (by decide) (by omega), z1, if_pos (Int32.le_refl _)]
  · obtain ⟨j, t1, t2⟩ := z4 k hk
    unfold mX9_weightIn_b4
    rw [mR hM 13 220 rfl (by decide) (by decide), alI_n (show g < ln 220 from hg) (by decide) (by omega), z1]
    dsimp only
    rw [if_neg (nI_ge hk (by omega)), mR hM 6 214 rfl (by decide) (by decide), mR hM 14 221 rfl (by decide) (by decide), i4, alI_n (show _ < ln 221 from show _ < 80 by omega) (by decide) (by omega), t2, alI_n (show j < ln 214 from t1) (by decide) (by omega), nI_1]
    show r (wsum s g k + sI s 214 j, nI (k + 1)) s = r (wsum s g k + sI s 214 (sI s 221 (4 * g + k)).toNatClampNeg, nI (k + 1)) s
    rw [t2, nI_clamp (by omega)]
theorem LV.sec {s : Sg} {l m i : Nat} (h : LV s l m) (hi : i < m) : mX5_secondOf (99 + 7 * l) (nI i) s = some (psum s l i, s) := by
  obtain ⟨hl, hm, z1, z2, z3, z9, ⟨hN, -⟩, z4⟩ := h
  obtain ⟨k1, k2, k3, k4, k5, -⟩ := kdLo l hl
  refine lp_run (F := mX5_secondOf_b4 (nI i) (99 + 7 * l)) (n := i) (q := fun k => (psum s l k, nI (k + 1))) (S := fun _ => s) (fun r => ?_) (fun k hk r => ?_) FU 0 (Nat.zero_le _) (show i - 0 < 4000 by omega)
  · unfold mX5_secondOf_b4
    dsimp only
    rw [if_pos (nI_lt (by omega) (by omega))]
  · obtain ⟨g, t1, t2, t3, t4, -⟩ := z4 (k + 1) (by omega)
    unfold mX5_secondOf_b4
    dsimp only
    rw [if_neg (nI_nlt (by omega) (by omega)), gdI_at k1 (by omega), z2, if_neg (nI_ge (by omega) (by omega)), gdR_at k1 (by omega), z9, alI_n (by omega) k4 (by omega), t4, nI_1]
    rfl
theorem mLeavesAt {s : Sg} (hM : M0 s) {l i : Nat} (hl : l < 12) (hi : i < 6) : mX9_leavesAt 207 (nI l) (nI i) s = some (psum s l i, s) := by
  have hN := hM.1
  refine lp_run (F := mX9_leavesAt_b5 (nI i) 207 (nI l)) (n := i) (q := fun k => (psum s l k, nI (k + 1))) (S := fun _ => s) (fun r => ?_) (fun k hk r => ?_) FU 0 (Nat.zero_le _) (show i - 0 < 4000 by omega)
  · unfold mX9_leavesAt_b5
    dsimp only
    rw [if_pos (nI_lt (by omega) (by omega))]
  · unfold mX9_leavesAt_b5
    dsimp only
    rw [if_neg (nI_nlt (by omega) (by omega)), mR hM 24 230 rfl (by decide) (by decide), i6, alI_n (show _ < ln 230 from show _ < 72 by omega) (by decide) (by omega), nI_1]
    rfl
theorem lt10 {j : Nat} (h : j < 10) : nI j < 10 := nI_lt (b := 10) h (by decide)
theorem noP_big {N : Nat} {p : Int32} (h : ¬ p < 10) : ∃ q : Nat, 10 ≤ q ∧ q < 2 ^ 31 ∧ p = nI q := by
  obtain ⟨q, h1, rfl⟩ := nI_of (x := p) (fun z => h (by
    rw [Int32.lt_iff_toInt_lt] at z ⊢
    have : (10 : Int32).toInt = 10 := rfl
    have : (0 : Int32).toInt = 0 := rfl
    omega))
  refine ⟨q, ?_, h1, rfl⟩
  have h2 : ¬ nI q < nI 10 := h
  rw [nI_ltI h1 (by decide)] at h2
  omega
theorem op_of : Op2 mX8_of mX9_of := by
  intro s hr p1 p2
  have hN := hr.1.1
  have hM := hr.1.m
  obtain ⟨r0, r1, r2, r3, r4, r5, r6, r7, r8⟩ := id hr
  obtain ⟨en, n, hn, en2, hg⟩ := id r4
  rcases plc n (by omega) p1 with hp | ⟨g, hgn, rfl⟩
  · exact ⟨-1, s, s, by simp only [mX8_of, c8 hN, groupAt_out r0 (en.trans en2) hp, cl_some, nn, if_true], hN, by simp only [mX9_of, c9 hN, isGroup_n hM hn en2 hp, cl_some, i00, if_false, not_true], hr⟩
  have hg20 : g < 20 := by omega
  obtain ⟨k1, k2, k3⟩ := kdGr g hg20
  obtain ⟨m, hv⟩ := r4.gv r0 hg20
  have hw := hv.weight r3
  obtain ⟨-, hm, z1, z2, z3, -, z4⟩ := id hv
  obtain ⟨y1, y2, y3, y4, y5, -⟩ := hg g hg20
  have hw2 := mWeight hM hg20 hm z1 (fun k hk => by obtain ⟨j, a, b, -⟩ := z4 k hk; exact ⟨j, a, b⟩)
  have eg : 56 + 2 * g < sN s := by omega
  obtain ⟨v, hA, hB⟩ : ∃ v, mX8_of 0 (nI g) p2 s = some (v, s) ∧ mX9_of 207 (nI g) p2 s = some (v, s) := by
    unfold mX8_of mX9_of
    rw [c8 hN, c9 hN, groupAt_in r0 hn (en.trans en2) hgn, isGroup_y hM hn en2 hgn, cl_some, cl_some, if_neg (by simp), if_pos (by decide), cv_at k1 eg]
    unfold mX2_tell
    rcases plc 6 (by decide) p2 with hp | ⟨j, hj, rfl⟩
    · rw [swc_out (by exact hp)]
      by_cases h10 : p2 < 10
      · refine ⟨-1, ?_, ?_⟩
        · rw [if_pos h10, cl_some]
        · rw [if_pos h10, swc_out (by exact hp)]
      · obtain ⟨q, hq, hq2, rfl⟩ := noP_big (N := 0) h10
        rw [if_neg h10, if_neg h10, gdI_at k1 eg, z2, show (10 : Int32) + nI m = nI (10 + m) from nI_add 10 m, mR hM 13 220 rfl (by decide) (by decide), alI_n (show g < ln 220 from hg20) (by decide) (by omega), z1, show nI q - 10 = nI (q - 10) from pk_sub (b := 10) hq]
        by_cases hqm : 10 + m ≤ q
        · exact ⟨-1, by rw [if_pos (nI_le hqm hq2), cl_some], by rw [if_pos (nI_le (by omega) (by omega))]⟩
        · obtain ⟨j, t1, t2, t3⟩ := z4 (q - 10) (by omega)
          refine ⟨nI j, ?_, ?_⟩
          · obtain ⟨h0, q0, q1, q2, q3, q4, q5, q6, q7, q8, q9, q10, q11, q12, q13, b1, b2, -⟩ := r0
            rw [if_neg (nI_ge (by omega) (by omega)), gdR_at k1 eg, z3, alR_n (by omega) k2 (by omega), t3, gdI_at (kdJu j t1) (by omega), (b2 j t1).2, cl_some]
          · rw [if_neg (nI_ge (by omega) (by omega)), mR hM 14 221 rfl (by decide) (by decide), i4, show nI (4 * g + q) - 10 = nI (4 * g + q - 10) from pk_sub (b := 10) (by omega), show 4 * g + q - 10 = 4 * g + (q - 10) by omega, alI_n (show _ < ln 221 from show _ < 80 by omega) (by decide) (by omega), t2]
    · rw [swc_at (by omega), if_pos (lt10 (by omega)), if_pos (lt10 (by omega)), swc_at (by omega)]
      rcases (show j = 0 ∨ j = 1 ∨ j = 2 ∨ j = 3 ∨ j = 4 ∨ j = 5 by omega) with rfl | rfl | rfl | rfl | rfl | rfl
      · refine ⟨sI s 216 g, ?_, ?_⟩
        · rw [gd0]
          rw [gdI_at k1 eg, y1, cl_some]
        · rw [gd0]
          rw [mR hM 9 216 rfl (by decide) (by decide), alI_n (show g < ln 216 from hg20) (by decide) (by omega)]
      · refine ⟨sI s 217 g, ?_, ?_⟩
        · rw [gd1]
          rw [gdI_at k1 eg, y2, cl_some]
        · rw [gd1]
          rw [mR hM 10 217 rfl (by decide) (by decide), alI_n (show g < ln 217 from hg20) (by decide) (by omega)]
      · refine ⟨sI s 218 g, ?_, ?_⟩
        · rw [gd2]
          rw [gdI_at k1 eg, y3, cl_some]
        · rw [gd2]
          rw [mR hM 11 218 rfl (by decide) (by decide), alI_n (show g < ln 218 from hg20) (by decide) (by omega)]
      · refine ⟨sI s 219 g, ?_, ?_⟩
        · rw [gd3]
          rw [gdI_at k1 eg, y4, cl_some]
        · rw [gd3]
          rw [mR hM 12 219 rfl (by decide) (by decide), alI_n (show g < ln 219 from hg20) (by decide) (by omega)]
      · refine ⟨sI s 220 g, ?_, ?_⟩
        · rw [gd4]
          rw [gdI_at k1 eg, y5, cl_some]
        · rw [gd4]
          rw [mR hM 13 220 rfl (by decide) (by decide), alI_n (show g < ln 220 from hg20) (by decide) (by omega)]
      · refine ⟨wsum s g m, ?_, ?_⟩
        · rw [gd5]
          rw [cv_at k1 eg, hw, cl_some, cl_some]
        · rw [gd5]
          rw [c9 hN, hw2, cl_some]
  exact ⟨v, s, s, hA, hN, hB, hr⟩
theorem op_in : Op2 mX8_in mX9_in_ := by
  intro s hr p1 p2
  have hN := hr.1.1
  have hM := hr.1.m
  obtain ⟨r0, r1, r2, r3, r4, r5, r6, r7, r8⟩ := id hr
  obtain ⟨en, n, hn, en2, hL⟩ := id r7
  rcases plc n (by omega) p1 with hp | ⟨l, hln, rfl⟩
  · exact ⟨-1, s, s, by simp only [mX8_in, c8 hN, loadAt_out r0 (en.trans en2) hp, cl_some, nn, if_true], hN, by simp only [mX9_in_, c9 hN, isLoad_n hM hn en2 hp, cl_some, i00, if_false, not_true], hr⟩
  have hl12 : l < 12 := by omega
  obtain ⟨k1, k2, k3, k4, k5, k6, -⟩ := kdLo l hl12
  obtain ⟨m, hv⟩ := (hL l hl12).lv r0 hl12
  obtain ⟨a1, a2, a3, -, ⟨p, hp3, hpl, hc⟩, -⟩ := hL l hl12
  obtain ⟨-, hm, z1, z2, z3, z9, -, z4⟩ := id hv
  have el : 99 + 7 * l < sN s := by omega
  have q := r0
  obtain ⟨h0, q0, q1, q2, q3, q4, q5, q6, q7, q8, q9, q10, q11, q12, q13, b1, b2, b3, b4, b5, -⟩ := q
  have hpl2 : ∃ x, sR s (99 + 7 * l) 4 = some x ∧ kd x = 6 ∧ x < sN s ∧ sI s x 0 = nI p := by
    rcases hc with ⟨c1, c2⟩ | ⟨c1, c2, c3, c4, c5, -⟩
    · rcases c2 with c2 | c2
      · omega
      · exact ⟨_, c2.1, kdPl p hp3, by omega, (b4 p hp3).2⟩
    · exact ⟨_, c3, k6, by omega, c5⟩
  obtain ⟨x, x1, x2, x3, x4⟩ := hpl2
  obtain ⟨v, hA, hB⟩ : ∃ v, mX8_in 0 (nI l) p2 s = some (v, s) ∧ mX9_in_ 207 (nI l) p2 s = some (v, s) := by
    unfold mX8_in mX9_in_
    rw [c8 hN, c9 hN, loadAt_in r0 hn (en.trans en2) hln, isLoad_y hM hn en2 hln, cl_some, cl_some, if_neg (by simp), if_pos (by decide), cv_at k1 el]
    unfold mX5_tell
    rw [jn_eq]
    dsimp only
    rcases plc 4 (by decide) p2 with hp | ⟨j, hj, rfl⟩
    · rw [swc_out (by exact hp), cv_at k1 el]
      unfold mX5_tellOfPlace
      by_cases h10 : p2 < 10
      · refine ⟨-1, ?_, ?_⟩
        · rw [if_pos h10, cl_some, cl_some]
        · rw [if_pos h10]
          exact swc_out (by exact hp)
      obtain ⟨q, hq, hq2, rfl⟩ := noP_big (N := 0) h10
      rw [if_neg h10, if_neg h10]
      by_cases h40 : 40 ≤ q
      · have h41 : (40 : Int32) ≤ nI q := nI_le (a := 40) h40 hq2
        refine ⟨-1, ?_, ?_⟩
        · rw [if_pos h41, cl_some, cl_some]
        · rw [if_pos h41]
          exact swc_out (by exact hp)
      have h41 : ¬ (40 : Int32) ≤ nI q := nI_ge (b := 40) (by omega) (by decide)
      have hq10 : nI q - nI q / 10 * 10 = nI (q % 10) := pk_rem (d := 10) hq2 (by decide) (by decide)
      have hz : ∀ {β : Type} (x : Option β), ckZ 10 x = x := fun x => rfl
      rw [if_neg h41, if_neg h41, hz, hz, hq10, cv_at k1 el, mR hM 22 228 rfl (by decide) (by decide), alI_n (show l < ln 228 from hl12) (by decide) (by omega), z1]
      by_cases hi : q % 10 < m
      · obtain ⟨g, t1, t2, t3, t4, t5⟩ := z4 (q % 10) hi
        obtain ⟨kg1, -⟩ := kdGr g t1
        rw [hv.has_in hi, cl_some, if_pos (by decide), hz, if_pos (nI_lt hi (by omega))]
        by_cases h20 : 20 ≤ q
        · have h21 : (20 : Int32) ≤ nI q := nI_le (a := 20) h20 hq2
          rw [if_pos h21, if_pos h21]
          by_cases h30 : 30 ≤ q
          · have h31 : (30 : Int32) ≤ nI q := nI_le (a := 30) h30 hq2
            rw [if_pos h31, if_pos h31, cv_at k1 el, hv.sec hi, c9 hN, mLeavesAt hM hl12 (by omega)]
            exact ⟨_, rfl, rfl⟩
          · have h31 : ¬ (30 : Int32) ≤ nI q := nI_ge (b := 30) (by omega) (by decide)
            rw [if_neg h31, if_neg h31, gdR_at k1 el, z9, alI_n (by omega) k4 (by omega), t4, mR hM 24 230 rfl (by decide) (by decide), i6, alI_n (show _ < ln 230 from show _ < 72 by omega) (by decide) (by omega)]
            exact ⟨_, rfl, rfl⟩
        · have h21 : ¬ (20 : Int32) ≤ nI q := nI_ge (b := 20) (by omega) (by decide)
          rw [if_neg h21, if_neg h21, gdR_at k1 el, z3, alR_n (by omega) k2 (by omega), t3, gdI_at kg1 (by omega), (b3 g t1).2.1, mR hM 23 229 rfl (by decide) (by decide), i6, alI_n (show _ < ln 229 from show _ < 72 by omega) (by decide) (by omega), t2]
          exact ⟨_, rfl, rfl⟩
      · have hno : noP m (nI (q % 10)) := by
          rcases plc m (by omega) (nI (q % 10)) with h | ⟨j, hj, h⟩
          · exact h
          · exact absurd ((nI_eq (by omega) (by omega)).mp h) (by omega)
        rw [hv.has_out hno, cl_some, if_neg (by decide), if_neg (nI_nlt (by omega) (by omega))]
        exact ⟨_, rfl, rfl⟩
    · rw [swc_at (by omega), if_pos (lt10 (by omega)), swc_at (by omega)]
      rcases (show j = 0 ∨ j = 1 ∨ j = 2 ∨ j = 3 by omega) with rfl | rfl | rfl | rfl
      · refine ⟨nI p, ?_, ?_⟩
        · rw [gd0]
          rw [gdR_at k1 el, x1, gdI_at x2 x3, x4, cl_some]
        · rw [gd0]
          rw [mR hM 21 227 rfl (by decide) (by decide), alI_n (show l < ln 227 from hl12) (by decide) (by omega), hpl]
      · refine ⟨nI m, ?_, ?_⟩
        · rw [gd1]
          rw [gdI_at k1 el, z2, cl_some]
        · rw [gd1]
          rw [mR hM 22 228 rfl (by decide) (by decide), alI_n (show l < ln 228 from hl12) (by decide) (by omega), z1]
      · refine ⟨sI s 231 l, ?_, ?_⟩
        · rw [gd2]
          rw [gdI_at k1 el, a2, cl_some]
        · rw [gd2]
          rw [mR hM 25 231 rfl (by decide) (by decide), alI_n (show l < ln 231 from hl12) (by decide) (by omega)]
      · refine ⟨if sI s 232 l = 0 then 0 else 1, ?_, ?_⟩
        · rw [gd3]
          rw [gdI_at k1 el, a3]
          by_cases hz : sI s 232 l = 0
          · rw [if_pos hz, if_pos hz, cl_some]
          · rw [if_neg hz, if_neg hz, cl_some]
        · rw [gd3]
          rw [mR hM 26 232 rfl (by decide) (by decide), alZ_n (show l < ln 232 from hl12) (by decide) (by omega)]
          by_cases hz : sI s 232 l = 0
          · rw [if_pos hz, if_pos hz]
          · rw [if_neg hz, if_neg hz]
  exact ⟨v, s, s, hA, hN, hB, hr⟩
