/-! LEAVE -/
def wsl (s : Sg) (l : Nat) : Nat → Sg
  | 0 => s
  | k + 1 => uI (uI (wsl s l k) 233 (12 * l + k) (sI s 211 k)) 234 (12 * l + k) (sI s 212 k)
section WSL
variable {s : Sg} {l : Nat}
theorem wsl_I (c q : Nat) : ∀ k, sI (wsl s l k) c q = if c = 234 ∧ 12 * l ≤ q ∧ q < 12 * l + k then sI s 212 (q - 12 * l) else if c = 233 ∧ 12 * l ≤ q ∧ q < 12 * l + k then sI s 211 (q - 12 * l) else sI s c q
  | 0 => by
    rw [if_neg (by omega), if_neg (by omega)]
    rfl
  | k + 1 => by
    show sI (uI (uI (wsl s l k) 233 (12 * l + k) (sI s 211 k)) 234 (12 * l + k) (sI s 212 k)) c q = _
    rw [sI_if, sI_if, wsl_I c q k]
    by_cases h4 : c = 234 ∧ q = 12 * l + k
    · rw [if_pos h4, if_pos (by omega), show q - 12 * l = k by omega]
    · rw [if_neg h4]
      by_cases h3 : c = 233 ∧ q = 12 * l + k
      · rw [if_pos h3, if_neg (by omega), if_pos (by omega), show q - 12 * l = k by omega]
      · rw [if_neg h3]
        by_cases e4 : c = 234 ∧ 12 * l ≤ q ∧ q < 12 * l + k
        · rw [if_pos e4, if_pos (by omega)]
        · rw [if_neg e4, if_neg (show ¬ (c = 234 ∧ 12 * l ≤ q ∧ q < 12 * l + (k + 1)) by omega)]
          by_cases e3 : c = 233 ∧ 12 * l ≤ q ∧ q < 12 * l + k
          · rw [if_pos e3, if_pos (by omega)]
          · rw [if_neg e3, if_neg (by omega)]
theorem wsl_o {c q k : Nat} (h : (c ≠ 233 ∧ c ≠ 234) ∨ q < 12 * l ∨ 12 * l + k ≤ q) : sI (wsl s l k) c q = sI s c q := by
  rw [wsl_I, if_neg (by omega), if_neg (by omega)]
theorem wsl_R : ∀ k, sR (wsl s l k) = sR s ∧ sF (wsl s l k) = sF s ∧ sN (wsl s l k) = sN s
  | 0 => ⟨rfl, rfl, rfl⟩
  | k + 1 => wsl_R k
theorem wsl_M (h : M0 s) (k : Nat) : M0 (wsl s l k) := by
  obtain ⟨h1, h2, h3⟩ := wsl_R (s := s) (l := l) k
  exact ⟨h3.trans h.1, by rw [h1]; exact h.2⟩
end WSL
/-- the class's load goes up: what is written -/
def gup (s : Sg) (l p : Nat) : Sg := uI (uI (uI (uI (uI s (102 + 7 * l) 0 (sI s (96 + p) 0)) (102 + 7 * l) 1 (sI s (96 + p) 1)) (102 + 7 * l) 2 (sI s (96 + p) 2)) (102 + 7 * l) 3 (sI s (96 + p) 3)) (102 + 7 * l) 4 (sI s (96 + p) 4)
def gV (X : Sg) (l : Nat) : Sg := uI (uR (uR X (99 + 7 * l) 4 (some (102 + 7 * l))) (99 + 7 * l) 5 (some (103 + 7 * l))) (99 + 7 * l) 8 1
def gU (s : Sg) (l p : Nat) : Sg := gV (wsh (gup s l p) (104 + 7 * l) (105 + 7 * l) (sI s 3) (sI s 4) 12) l
section GU
variable {s X : Sg} {l p : Nat}
theorem gV_o {a q : Nat} (h4 : ¬ (a = 99 + 7 * l ∧ q = 8)) : sI (gV X l) a q = sI X a q := by
  unfold gV
  rw [sI_if, if_neg h4]
  rfl
theorem gV_8 : sI (gV X l) (99 + 7 * l) 8 = 1 := by
  unfold gV
  rw [sI_s]
theorem gV_R {a k : Nat} (h : ¬ (a = 99 + 7 * l ∧ (k = 4 ∨ k = 5))) : sR (gV X l) a k = sR X a k := by
  unfold gV
  rw [sR_uI, sR_if, if_neg (by omega), sR_if, if_neg (by omega)]
theorem gV_R4 : sR (gV X l) (99 + 7 * l) 4 = some (102 + 7 * l) := by
  unfold gV
  rw [sR_uI, sR_if, if_neg (by omega), sR_if, if_pos ⟨rfl, rfl⟩]
theorem gV_R5 : sR (gV X l) (99 + 7 * l) 5 = some (103 + 7 * l) := by
  unfold gV
  rw [sR_uI, sR_if, if_pos ⟨rfl, rfl⟩]
theorem gV_NF : sN (gV X l) = sN X ∧ sF (gV X l) = sF X := ⟨rfl, rfl⟩
theorem gup_o {a q : Nat} (h : a ≠ 102 + 7 * l) : sI (gup s l p) a q = sI s a q := by
  unfold gup
  rw [sI_ne h, sI_ne h, sI_ne h, sI_ne h, sI_ne h]
theorem gup_R : sR (gup s l p) = sR s ∧ sF (gup s l p) = sF s ∧ sN (gup s l p) = sN s := ⟨rfl, rfl, rfl⟩
theorem gU_o {a q : Nat} (h1 : a ≠ 102 + 7 * l) (h2 : a ≠ 104 + 7 * l) (h3 : a ≠ 105 + 7 * l) (h4 : ¬ (a = 99 + 7 * l ∧ q = 8)) : sI (gU s l p) a q = sI s a q := by
  unfold gU
  rw [gV_o h4, wsh_Ic h2 h3, gup_o h1]
theorem gU_8 : sI (gU s l p) (99 + 7 * l) 8 = 1 := by
  unfold gU
  rw [gV_8]
theorem gU_p {q : Nat} (hq : q ≤ 4) : sI (gU s l p) (102 + 7 * l) q = sI s (96 + p) q := by
  unfold gU
  rw [gV_o (by omega), wsh_Ic (by omega) (by omega)]
  unfold gup
  rcases (by omega : q = 0 ∨ q = 1 ∨ q = 2 ∨ q = 3 ∨ q = 4) with rfl | rfl | rfl | rfl | rfl
  · rw [sI_nk (by decide), sI_nk (by decide), sI_nk (by decide), sI_nk (by decide), sI_s]
  · rw [sI_nk (by decide), sI_nk (by decide), sI_nk (by decide), sI_s]
  · rw [sI_nk (by decide), sI_nk (by decide), sI_s]
  · rw [sI_nk (by decide), sI_s]
  · rw [sI_s]
theorem gU_x {q : Nat} (hq : q < 12) : sI (gU s l p) (104 + 7 * l) q = sI s 3 q := by
  unfold gU
  rw [gV_o (by omega), wsh_I (by omega), if_neg (by omega), if_pos ⟨rfl, hq⟩]
theorem gU_y {q : Nat} (hq : q < 12) : sI (gU s l p) (105 + 7 * l) q = sI s 4 q := by
  unfold gU
  rw [gV_o (by omega), wsh_I (by omega), if_pos ⟨rfl, hq⟩]
theorem gU_Ro {a k : Nat} (h : ¬ (a = 99 + 7 * l ∧ (k = 4 ∨ k = 5))) : sR (gU s l p) a k = sR s a k := by
  obtain ⟨w1, w2, w3⟩ := wsh_R (s := gup s l p) (a := 104 + 7 * l) (b := 105 + 7 * l) (tx := sI s 3) (ty := sI s 4) 12
  unfold gU
  rw [gV_R h, w1, gup_R.1]
theorem gU_R4 : sR (gU s l p) (99 + 7 * l) 4 = some (102 + 7 * l) := by
  unfold gU
  rw [gV_R4]
theorem gU_R5 : sR (gU s l p) (99 + 7 * l) 5 = some (103 + 7 * l) := by
  unfold gU
  rw [gV_R5]
theorem gU_NF : sN (gU s l p) = sN s ∧ sF (gU s l p) = sF s := by
  obtain ⟨w1, w2, w3⟩ := wsh_R (s := gup s l p) (a := 104 + 7 * l) (b := 105 + 7 * l) (tx := sI s 3) (ty := sI s 4) 12
  unfold gU
  rw [gV_NF.1, gV_NF.2, w3, w2, gup_R.2.1, gup_R.2.2]
  exact ⟨rfl, rfl⟩
theorem goUp_ok (r0 : R0 s) (hl : l < 12) (hp : p < 3) (e4 : sR s (99 + 7 * l) 4 = some (96 + p)) (e5 : sR s (99 + 7 * l) 5 = some 2) : mX5_goUp (99 + 7 * l) s = some ((), gU s l p) := by
  have hN := r0.1
  obtain ⟨k1, k2, k3, k4, k5, k6, k7, k8, k9, k10, k11⟩ := kdLo l hl
  obtain ⟨h0, q0, q1, q2, q3, q4, q5, q6, q7, q8, q9, q10, q11, q12, q13, b1, b2, b3, b4, b5, b6, b7⟩ := r0
  obtain ⟨y1, y2, y3, y4, y5, y6, y7⟩ := b5 l hl
  have kP := kdPl p hp
  have hb : mX6_becomeAs (102 + 7 * l) (some (96 + p)) s = some ((), gup s l p) := by
    unfold mX6_becomeAs
    rw [gdI_at kP (by omega), ptI_at k6 (by omega), gdI_at kP (by rw [sN_uI]; omega), sI_ne (by omega), gdI_at kP (by rw [sN_uI]; omega), sI_ne (by omega), gdI_at kP (by rw [sN_uI]; omega), sI_ne (by omega), gdI_at kP (by rw [sN_uI]; omega), sI_ne (by omega), cv_at k6 (by rw [sN_uI]; omega)]
    unfold mX6_become
    rw [ptI_at k6 (by rw [sN_uI]; omega), ptI_at k6 (by rw [sN_uI, sN_uI]; omega), ptI_at k6 (by rw [sN_uI, sN_uI, sN_uI]; omega), ptI_at k6 (by rw [sN_uI, sN_uI, sN_uI, sN_uI]; omega), cl_some]
    rfl
  have hNg : sN (gup s l p) = 249 := hN
  have hRg : sR (gup s l p) = sR s := rfl
  have hbl : mX0_blowAs (103 + 7 * l) (some 2) (gup s l p) = some ((), wsh (gup s l p) (104 + 7 * l) (105 + 7 * l) (sI s 3) (sI s 4) 12) := by
    refine lp_run (F := mX0_blowAs_b2 (103 + 7 * l) (some 2)) (n := 12) (q := nI) (S := wsh (gup s l p) (104 + 7 * l) (105 + 7 * l) (sI s 3) (sI s 4)) (fun r => ?_) (fun k hk r => ?_) FU 0 (Nat.zero_le _) (by decide)
    · unfold mX0_blowAs_b2
      rw [if_pos (by decide)]
    · obtain ⟨w1, w2, w3⟩ := wsh_R (s := gup s l p) (a := 104 + 7 * l) (b := 105 + 7 * l) (tx := sI s 3) (ty := sI s 4) k
      have wN : sN (wsh (gup s l p) (104 + 7 * l) (105 + 7 * l) (sI s 3) (sI s 4) k) = 249 := w3.trans hNg
      have wR : sR (wsh (gup s l p) (104 + 7 * l) (105 + 7 * l) (sI s 3) (sI s 4) k) = sR s := w1.trans hRg
      unfold mX0_blowAs_b2
      rw [if_neg (lt12n hk), gdR_at k7 (by omega), wR, y6, gdR_at (by decide) (by rw [wN]; decide), wR, q9, alI_n (show k < ln 3 from hk) (by decide) (by rw [wN]; decide), wsh_Ic (by omega) (by omega), gup_o (by omega), asI_n (by omega) k8 (by omega), gdR_at k7 (by rw [sN_uI]; omega), sR_uI, wR, y7, gdR_at (by decide) (by rw [sN_uI, wN]; decide), sR_uI, wR, q10, alI_n (show k < ln 4 from hk) (by decide) (by rw [sN_uI, wN]; decide), sI_ne (by omega), wsh_Ic (by omega) (by omega), gup_o (by omega), asI_n (by omega) k10 (by rw [sN_uI]; omega), nI_1]
      rfl
  obtain ⟨w1, w2, w3⟩ := wsh_R (s := gup s l p) (a := 104 + 7 * l) (b := 105 + 7 * l) (tx := sI s 3) (ty := sI s 4) 12
  have wN : sN (wsh (gup s l p) (104 + 7 * l) (105 + 7 * l) (sI s 3) (sI s 4) 12) = 249 := w3.trans hNg
  have wR : sR (wsh (gup s l p) (104 + 7 * l) (105 + 7 * l) (sI s 3) (sI s 4) 12) = sR s := w1.trans hRg
  unfold mX5_goUp
  rw [gdR_at k1 (by omega), y4, gdR_at k1 (by omega), e4, cv_at k6 (by omega), hb, cl_some, gdR_at k1 (by omega), hRg, y5, gdR_at k1 (by omega), hRg, e5, cv_at k7 (by omega), hbl, cl_some, gdR_at k1 (by omega), wR, y4, ptR_at k1 (by omega), gdR_at k1 (by rw [sN_uR]; omega), sR_if, if_neg (by omega), wR, y5, ptR_at k1 (by rw [sN_uR]; omega), ptZ_at (Or.inr rfl) k1 (by rw [sN_uR, sN_uR]; omega)]
  rfl
end GU
theorem jup_go {s T : Sg} {l m : Nat} (h0 : sI s 232 l = 0) (h1 : ¬ sI T 232 l = 0) (hm : (sI s 228 l).toNatClampNeg = m) (h228 : sI T 228 = sI s 228) (h220 : sI T 220 = sI s 220) (h229 : sI T 229 = sI s 229) (ho : ∀ l', l' ≠ l → sI T 232 l' = sI s 232 l') : ∀ L, jup T L = if l < L then jup s L + jin s l m else jup s L
  | 0 => rfl
  | L + 1 => by
    have ih := jup_go h0 h1 hm h228 h220 h229 ho L
    have ej : ∀ a b, jin T a b = jin s a b := fun a b => jin_congr h220 h229 a b
    rw [jup, jup, h228, ej, ih]
    by_cases hL : L = l
    · subst hL
      rw [if_neg h1, if_neg (Nat.lt_irrefl _), if_pos (Nat.lt_succ_self _), if_pos h0, hm]
    · rw [ho L hL]
      by_cases hl : l < L
      · rw [if_pos hl, if_pos (show l < L + 1 by omega)]
        by_cases hz : sI s 232 L = 0
        · rw [if_pos hz, if_pos hz]
        · rw [if_neg hz, if_neg hz]
          generalize jup s L = a
          generalize jin s l m = b
          generalize jin s L (sI s 228 L).toNatClampNeg = c
          grind
      · rw [if_neg hl, if_neg (show ¬ l < L + 1 by omega)]
set_option maxHeartbeats 2000000 in
theorem op_leave : Op2 mX8_leave mX9_leave := by
  intro s hr p1 p2
  have hN := hr.1.1
  have hM := hr.1.m
  obtain ⟨r0, r1, r2, r3, r4, r5, r6, r7, r8⟩ := id hr
  obtain ⟨en, n, hn, en2, hL⟩ := id r7
  rcases plc n (by omega) p1 with hp | ⟨l, hln, rfl⟩
  · refine ⟨-1, s, s, ?_, hN, by simp only [mX9_leave, c9 hN, isLoad_n hM hn en2 hp, cl_some, i00, if_true], hr⟩
    unfold mX8_leave
    rw [c8 hN]
    unfold mX8_why
    rw [c8 hN, loadAt_out r0 (en.trans en2) hp, cl_some, if_pos rfl, cl_some, if_neg (by decide)]
  by_cases h2 : btw p2 0 1000
  rotate_left
  · refine ⟨-1, s, s, ?_, hN, by simp only [mX9_leave, c9 hN, isLoad_y hM hn en2 hln, Mn0_1000 h2, cl_some, i00, i10, if_false, not_true], hr⟩
    unfold mX8_leave
    rw [c8 hN]
    unfold mX8_why
    rw [c8 hN, loadAt_in r0 hn (en.trans en2) hln, cl_some, if_neg (by simp), Wn0_1000 h2, cl_some, if_neg (by decide), cl_some, if_neg (by decide)]
  have hl12 : l < 12 := by omega
  obtain ⟨k1, k2, k3, k4, k5, k6, k7, k8, k9, k10, k11⟩ := kdLo l hl12
  obtain ⟨v, s1, a1, a2, a0, az, a5⟩ := why_core hr hn en2 hln h2
  have hM1 := a2.m hM
  have hN1 := hM1.1
  have hr1 := hr.scr a2
  have hl1 : mX8_loadAt 0 (nI l) s1 = some (some (99 + 7 * l), s1) := loadAt_in hr1.1 hn (by rw [a2.eq (a := 0) (by omega)]; exact en.trans en2) hln
  have hv1 : ¬ v = -1 := fun z => by
    rw [z] at a0
    exact absurd a0 (by decide)
  by_cases hv0 : v = 0
  rotate_left
  · obtain ⟨s2, a3, a4, -⟩ := a5 s1 (a2.me hM)
    refine ⟨-6, s1, s2, ?_, hN1, ?_, hr.scr (a2.tr a4)⟩
    · unfold mX8_leave
      rw [c8 hN, a1, cl_some, if_pos hv1, c8 hN1, hl1, cl_some, if_pos hv0]
    · have hvp : ¬ v ≤ 0 := fun z => by
        rw [Int32.le_iff_toInt_le] at z
        have h0 : (0 : Int32).toInt = 0 := rfl
        exact hv0 (Int32.toInt_inj.mp (by omega))
      unfold mX9_leave
      rw [c9 hN1, isLoad_y hM1 hn (by rw [a2.e7 (by decide)]; exact en2) hln, cl_some, if_neg (by decide), My0_1000 h2, cl_some, if_pos (by decide), c9 hN1, a3, cl_some, if_neg hvp]
  subst hv0
  have z := az rfl
  obtain ⟨m, hvL⟩ := (hL l hl12).lv r0 hl12
  have hm := hvL.2.1
  have hQ := hr.lq hn en2 hln hvL
  have hRL := hL l hl12
  obtain ⟨p, hp3, hpl, e4, e5⟩ : ∃ p, p < 3 ∧ sI s 227 l = nI p ∧ sR s (99 + 7 * l) 4 = some (96 + p) ∧ sR s (99 + 7 * l) 5 = some 2 := by
    obtain ⟨s2, -, -, h⟩ := a5 s (Scr.rf.me hM)
    obtain ⟨p, H, h1, h2, h3, h4, -⟩ := h rfl
    exact ⟨p, h1, h2, h3, h4⟩
  have hgo := goUp_ok (s := s1) (p := p) hr1.1 hl12 hp3 (by rw [a2.2.1]; exact e4) (by rw [a2.2.1]; exact e5)
  obtain ⟨gN, gF⟩ := gU_NF (s := s1) (l := l) (p := p)
  have hUo : ∀ a q, a ≠ 102 + 7 * l → a ≠ 104 + 7 * l → a ≠ 105 + 7 * l → ¬ (a = 99 + 7 * l ∧ q = 8) → sI (gU s1 l p) a q = sI s1 a q := fun a q h1 h2 h3 h4 => gU_o h1 h2 h3 h4
  have hU8 := gU_8 (s := s1) (l := l) (p := p)
  have hUp : ∀ q, q ≤ 4 → sI (gU s1 l p) (102 + 7 * l) q = sI s1 (96 + p) q := fun q h => gU_p h
  have hUx : ∀ q, q < 12 → sI (gU s1 l p) (104 + 7 * l) q = sI s1 3 q := fun q h => gU_x h
  have hUy : ∀ q, q < 12 → sI (gU s1 l p) (105 + 7 * l) q = sI s1 4 q := fun q h => gU_y h
  have hURo : ∀ a k, ¬ (a = 99 + 7 * l ∧ (k = 4 ∨ k = 5)) → sR (gU s1 l p) a k = sR s1 a k := fun a k h => gU_Ro h
  have hUR4 := gU_R4 (s := s1) (l := l) (p := p)
  have hUR5 := gU_R5 (s := s1) (l := l) (p := p)
  generalize gU s1 l p = U at hgo gN gF hUo hU8 hUp hUx hUy hURo hUR4 hUR5
  have hNU : sN U = 249 := gN.trans hN1
  have hMU : M0 U := ⟨hNU, fun k hk => by rw [hURo _ _ (by omega)]; exact hM1.2 k hk⟩
  have hEU : MEq s U := ⟨hMU, fun a q h1 h2 => by rw [hUo a q (by omega) (by omega) (by omega) (by omega)]; exact a2.2.2.2 a q h2⟩
  -- the class counts
  have hQm := hQ.mv
  have cnt : mX5_jumperCount (99 + 7 * l) U = some (jin s l m, U) := by
    have hUI : ∀ a q, a < 99 → ¬ (11 ≤ a ∧ a ≤ 14) → sI U a q = sI s a q := fun a q h1 h2 => by
      rw [hUo a q (by omega) (by omega) (by omega) (by omega), a2.eq (a := a) (by omega)]
    have hUM : ∀ a, 208 ≤ a → a < 237 → sI U a = sI s a := fun a h1 h2 => hEU.eq ⟨h1, h2⟩
    have hR4U : R4 U := r4.congr (fun a h => ⟨?_, ?_, ?_⟩) ?_ ?_
    · refine LV.count hR4U (l := l) (m := m) ?_ |>.trans (by rw [jin_congr (hUM 220 (by omega) (by omega)) (hUM 229 (by omega) (by omega))])
      obtain ⟨x1, x2, x3, x4, x5, x6, x7, x8⟩ := hvL
      unfold LV
      rw [hUM 228 (by omega) (by omega), hUM 229 (by omega) (by omega), hUM 230 (by omega) (by omega), hUo (99 + 7 * l) 6 (by omega) (by omega) (by omega) (by omega), a2.eq (a := 99 + 7 * l) (by omega), hURo _ _ (by omega), hURo _ _ (by omega), a2.2.1]
      refine ⟨x1, x2, x3, x4, x5, x6, hMU, fun i hi => ?_⟩
      obtain ⟨g, y1, y2, y3, y4, y5⟩ := x8 i hi
      exact ⟨g, y1, y2, by rw [hURo _ _ (by omega), a2.2.1]; exact y3, by rw [hUo _ _ (by omega) (by omega) (by omega) (by omega), a2.eq (a := 101 + 7 * l) (by omega)]; exact y4, y5⟩
    · rcases h with h | h
      · exact funext fun q => hUI a q (by omega) (by omega)
      · exact hUM a (by omega) (by omega)
    · funext k
      rw [hURo _ _ (by omega), a2.2.1]
    · rw [gF, a2.2.2.1]
    · exact hUI 0 9 (by omega) (by omega)
    · exact hEU.e7 (by omega)
  obtain ⟨s2, b1, b2, b3⟩ := a5 U hEU
  obtain ⟨p', H, hp3', hpl', -, -, hH, hTD⟩ := b3 rfl
  have hpp : p' = p := (nI_eq (by omega) (by omega)).mp (hpl'.symm.trans hpl)
  subst hpp
  have hE2 := hEU.tr b2
  have hM2 := hE2.1
  have hN2 := hM2.1
  -- what the reference writes
  have hWo : ∀ a q, ¬ (a = 232 ∧ q = l) → ¬ (a = 235 ∧ q = l) → ¬ (a = 236 ∧ q = l) → sI (uI (uI (uI s2 232 l 1) 235 l (sI s 224 p')) 236 l (nI H)) a q = sI s2 a q := fun a q h1 h2 h3 => by rw [sI_if, if_neg h3, sI_if, if_neg h2, sI_if, if_neg h1]
  have hW2 : sI (uI (uI (uI s2 232 l 1) 235 l (sI s 224 p')) 236 l (nI H)) 232 l = 1 := by rw [sI_ne (by omega), sI_ne (by omega), sI_s]
  have hW5 : sI (uI (uI (uI s2 232 l 1) 235 l (sI s 224 p')) 236 l (nI H)) 235 l = sI s 224 p' := by rw [sI_ne (by omega), sI_s]
  have hW6 : sI (uI (uI (uI s2 232 l 1) 235 l (sI s 224 p')) 236 l (nI H)) 236 l = nI H := by rw [sI_s]
  have hMW : M0 (uI (uI (uI s2 232 l 1) 235 l (sI s 224 p')) 236 l (nI H)) := hM2.uI.uI.uI
  have hWR : sR (uI (uI (uI s2 232 l 1) 235 l (sI s 224 p')) 236 l (nI H)) = sR s2 := rfl
  have hWF : sF (uI (uI (uI s2 232 l 1) 235 l (sI s 224 p')) 236 l (nI H)) = sF s2 := rfl
  have hWN : sN (uI (uI (uI s2 232 l 1) 235 l (sI s 224 p')) 236 l (nI H)) = sN s2 := rfl
  have e2 : mX9_leave 207 (nI l) p2 U = lp (mX9_leave_b63 207 (nI l)) FU 0 (uI (uI (uI s2 232 l 1) 235 l (sI s 224 p')) 236 l (nI H)) := by
    unfold mX9_leave
    rw [c9 hNU, isLoad_y hMU hn (by rw [hEU.e7 (by decide)]; exact en2) hln, cl_some, if_neg (by decide), My0_1000 h2, cl_some, if_pos (by decide), c9 hNU, b1, cl_some, if_pos (by decide), mR hM2 26 232 rfl (by decide) (by decide), asZ_n (Or.inr rfl) (show l < ln 232 from hl12) (by decide) (by omega), mR hM2.uI 29 235 rfl (by decide) (by decide), mI (show sN (uI s2 232 l 1) = 249 from hN2), sI_ne (by omega), hTD.1, asI_n (show l < ln 235 from hl12) (by decide) (by rw [sN_uI]; omega), mR hM2.uI.uI 30 236 rfl (by decide) (by decide), mI (show sN (uI (uI s2 232 l 1) 235 l (sI s 224 p')) = 249 from hN2), sI_ne (by omega), sI_ne (by omega), hTD.2.1, asI_n (show l < ln 236 from hl12) (by decide) (by rw [sN_uI, sN_uI]; omega)]
  generalize uI (uI (uI s2 232 l 1) 235 l (sI s 224 p')) 236 l (nI H) = W at hWo hW2 hW5 hW6 hMW hWR hWF hWN e2
  have hWM : ∀ a q, 208 ≤ a → a < 235 → ¬ (a = 232 ∧ q = l) → sI W a q = sI s a q := fun a q h1 h2 h3 => by
    rw [hWo a q h3 (by omega) (by omega)]
    exact hE2.2 a q (by omega) (nscr (by omega))
  have e3 : lp (mX9_leave_b63 207 (nI l)) FU 0 W = some (jin s l m, uI (wsl W l 12) 207 31 (sI s 207 31 + jin s l m)) := by
    refine lp_run (F := mX9_leave_b63 207 (nI l)) (n := 12) (q := nI) (S := wsl W l) (fun r => ?_) (fun k hk r => ?_) FU 0 (Nat.zero_le _) (by decide)
    · have mk := wsl_M (l := l) hMW 12
      have mN := mk.1
      have h31 : sI (wsl W l 12) 207 31 = sI s 207 31 := by
        rw [wsl_o (by omega), hWo _ _ (by omega) (by omega) (by omega)]
        exact hE2.e7 (by omega)
      have hji : jin (wsl W l 12) l m = jin s l m := jin_congr (funext fun q => by rw [wsl_o (by omega), hWM _ _ (by omega) (by omega) (by omega)]) (funext fun q => by rw [wsl_o (by omega), hWM _ _ (by omega) (by omega) (by omega)]) l m
      unfold mX9_leave_b63
      rw [if_pos (by decide), c9 mN, mJumpersIn mk hl12 hm (by rw [wsl_o (by omega), hWM _ _ (by omega) (by omega) (by omega)]; exact hQm.2.1.2.2) (fun i hi => ⟨pgi s l i, (hQm.2.2 i hi).1, by rw [wsl_o (by omega), hWM _ _ (by omega) (by omega) (by omega)]; exact (hQm.2.2 i hi).2⟩), cl_some, hji, mI mN, h31, ptI_at (by decide) (by rw [mN]; decide)]
    · have mk := wsl_M (l := l) hMW k
      have mN := mk.1
      have hlk : 12 * l + k < 144 := by omega
      unfold mX9_leave_b63
      rw [if_neg (lt12n hk), mR mk 27 233 rfl (by decide) (by decide), mR mk 3 211 rfl (by decide) (by decide), alI_n (show k < ln 211 from hk) (by decide) (by omega), wsl_o (by omega), i12, asI_n (show _ < ln 233 from hlk) (by decide) (by omega), mR mk.uI 28 234 rfl (by decide) (by decide), mR mk.uI 4 212 rfl (by decide) (by decide), alI_n (show k < ln 212 from hk) (by decide) (by rw [sN_uI]; omega), sI_ne (by omega), wsl_o (by omega), asI_n (show _ < ln 234 from hlk) (by decide) (by rw [sN_uI]; omega), nI_1]
      rfl
  refine ⟨jin s l m, U, _, ?_, hNU, e2.trans e3, ?_⟩
  · unfold mX8_leave
    rw [c8 hN, a1, cl_some, if_pos hv1, c8 hN1, hl1, cl_some, if_neg (by decide), if_neg (by simp), cv_at k1 (by omega), hgo, cl_some, cv_at k1 (by omega), cnt, cl_some]
  -- the relation again
  obtain ⟨x1, x2, x3⟩ := wsl_R (s := W) (l := l) 12
  generalize hT : uI (wsl W l 12) 207 31 (sI s 207 31 + jin s l m) = T
  have tN : sN T = 249 := by rw [← hT, sN_uI, x3, hWN]; exact hN2
  have tR : sR T = sR U := by rw [← hT, sR_uI, x1, hWR]; exact b2.2.1
  have tF : sF T = sF s := by rw [← hT, sF_uI, x2, hWF, b2.2.2.1, gF, a2.2.2.1]
  have tW : ∀ a q, ¬ (a = 207 ∧ q = 31) → sI T a q = sI (wsl W l 12) a q := fun a q h => by rw [← hT, sI_if, if_neg h]
  have t31 : sI T 207 31 = sI s 207 31 + jin s l m := by rw [← hT, sI_s]
  -- class cells
  have tC : ∀ a q, a < 183 → (a < 11 ∨ 14 < a) → a ≠ 102 + 7 * l → a ≠ 104 + 7 * l → a ≠ 105 + 7 * l → ¬ (a = 99 + 7 * l ∧ q = 8) → sI T a q = sI s a q := fun a q h1 h2 h3 h4 h5 h6 => by
    rw [tW a q (by omega), wsl_o (by omega), hWo a q (by omega) (by omega) (by omega), b2.eq (a := a) (by omega), hUo a q h3 h4 h5 h6, a2.eq (a := a) (by omega)]
  have tCU : ∀ a q, 14 < a → a < 183 → sI T a q = sI U a q := fun a q h1 h2 => by
    rw [tW a q (by omega), wsl_o (by omega), hWo a q (by omega) (by omega) (by omega), b2.eq (a := a) (by omega)]
  -- the reference's cells
  have tM : ∀ a q, 208 ≤ a → a < 237 → ¬ ((a = 232 ∨ a = 235 ∨ a = 236) ∧ q = l) → ¬ ((a = 233 ∨ a = 234) ∧ 12 * l ≤ q ∧ q < 12 * l + 12) → sI T a q = sI s a q := fun a q h1 h2 h3 h4 => by
    rw [tW a q (by omega), wsl_o (by omega), hWo a q (by omega) (by omega) (by omega)]
    exact hE2.2 a q (by omega) (nscr (by omega))
  have t7 : ∀ q, q ≠ 31 → q ≠ 34 → q ≠ 35 → sI T 207 q = sI s 207 q := fun q h1 h2 h3 => by
    rw [tW 207 q (by omega), wsl_o (by omega), hWo 207 q (by omega) (by omega) (by omega)]
    exact hE2.e7 ⟨h2, h3⟩
  have t232 : sI T 232 l = 1 := by rw [tW _ _ (by omega), wsl_o (by omega), hW2]
  have t235 : sI T 235 l = sI s 224 p' := by rw [tW _ _ (by omega), wsl_o (by omega), hW5]
  have t236 : sI T 236 l = nI H := by rw [tW _ _ (by omega), wsl_o (by omega), hW6]
  have t233 : ∀ k, k < 12 → sI T 233 (12 * l + k) = sI s 211 k := fun k hk => by
    rw [tW _ _ (by omega), wsl_I, if_neg (by omega), if_pos (by omega), show 12 * l + k - 12 * l = k by omega, hWM _ _ (by omega) (by omega) (by omega)]
  have t234 : ∀ k, k < 12 → sI T 234 (12 * l + k) = sI s 212 k := fun k hk => by
    rw [tW _ _ (by omega), wsl_I, if_pos (by omega), show 12 * l + k - 12 * l = k by omega, hWM _ _ (by omega) (by omega) (by omega)]
  have tRo : ∀ a k, ¬ (a = 99 + 7 * l ∧ (k = 4 ∨ k = 5)) → sR T a k = sR s a k := fun a k h => by rw [tR, hURo a k h, a2.2.1]
  have hE : ∀ a, ((a < 183 ∧ (a < 11 ∨ 14 < a) ∧ a ≠ 99 + 7 * l ∧ a ≠ 102 + 7 * l ∧ a ≠ 104 + 7 * l ∧ a ≠ 105 + 7 * l) ∨ (208 ≤ a ∧ a < 232)) → Eqc s T a := fun a h => ⟨funext fun q => by
    rcases h with h | h
    · exact tC a q (by omega) (by omega) (by omega) (by omega) (by omega) (by omega)
    · exact tM a q (by omega) (by omega) (by omega) (by omega), funext fun k => tRo a k (by omega), by rw [tF]⟩
  have h0 : ∀ q, sI T 0 q = sI s 0 q := fun q => tC 0 q (by omega) (by omega) (by omega) (by omega) (by omega) (by omega)
  refine ⟨r0.congr (tN.trans hN.symm) (fun a k _ _ h3 => tRo a k (by omega)) (fun a h1 h2 => tC a 0 (by omega) (by omega) (by omega) (by omega) (by omega) (by omega)), r1.congr (fun a h => hE a (by omega)), r2.congr (fun a h => hE a (by omega)), r3.congr (fun a h => hE a (by omega)), r4.congr (fun a h => hE a (by omega)) (h0 _) (t7 _ (by omega) (by omega) (by omega)), r5.congr (fun a h => hE a (by omega)), r6.congr (fun a h => hE a (by omega)), ⟨by rw [h0, t7 _ (by omega) (by omega) (by omega)]; exact en, n, hn, by rw [t7 _ (by omega) (by omega) (by omega)]; exact en2, fun l' hl' => ?_⟩, ?_⟩
  · by_cases hll : l' = l
    · subst hll
      obtain ⟨c1, c2, c3, c4, -, m', hm', hm2', hm3', hi'⟩ := hRL
      obtain ⟨u1, u2, u3, u4, u5, u6, u7, u8⟩ := r5 p' hp3'
      have q9 : ∀ q, q ≠ 8 → sI T (99 + 7 * l') q = sI s (99 + 7 * l') q := fun q hq => tC _ q (by omega) (by omega) (by omega) (by omega) (by omega) (by omega)
      have q2 : ∀ q, q ≤ 4 → sI T (102 + 7 * l') q = sI s (96 + p') q := fun q hq => by
        rw [tCU _ _ (by omega) (by omega), hUp q hq, a2.eq (a := 96 + p') (by omega)]
      obtain ⟨-, -, -, -, -, -, -, -, -, -, -, -, -, -, -, -, -, -, b4, -⟩ := id r0
      refine ⟨by rw [q9 _ (by omega), tM 228 _ (by omega) (by omega) (by omega) (by omega)]; exact c1, by rw [q9 _ (by omega), tM 231 _ (by omega) (by omega) (by omega) (by omega)]; exact c2, by rw [tCU _ _ (by omega) (by omega), hU8, t232], by rw [tM 231 _ (by omega) (by omega) (by omega) (by omega)]; exact c4, ⟨p', hp3', by rw [tM 227 _ (by omega) (by omega) (by omega) (by omega)]; exact hpl, Or.inr ⟨t232, hln, by rw [tR]; exact hUR4, by rw [tR]; exact hUR5, by rw [q2 0 (by omega)]; exact (b4 p' hp3').2, by rw [q2 3 (by omega), t235]; exact u3, by rw [q2 4 (by omega), t236, u4]; exact hH, by rw [t235]; exact u7, by rw [t236, ← hH]; exact u8, fun k hk => ?_⟩⟩, m', hm', by rw [tM 228 _ (by omega) (by omega) (by omega) (by omega)]; exact hm2', hm3', fun i hi1 => ?_⟩
      · rw [t233 k hk, t234 k hk, tCU _ _ (by omega) (by omega), tCU _ _ (by omega) (by omega), hUx k hk, hUy k hk, a2.eq (a := 3) (by omega), a2.eq (a := 4) (by omega)]
        exact r2 k hk
      · obtain ⟨⟨d1, d2, g, d3, d4, d5, d6⟩, d7⟩ := hi' i hi1
        refine ⟨⟨by rw [tC (101 + 7 * l') _ (by omega) (by omega) (by omega) (by omega) (by omega) (by omega), tM 230 _ (by omega) (by omega) (by omega) (by omega)]; exact d1, by rw [tM 230 _ (by omega) (by omega) (by omega) (by omega)]; exact d2, g, d3, by rw [t7 _ (by omega) (by omega) (by omega)]; exact d4, by rw [tM 229 _ (by omega) (by omega) (by omega) (by omega)]; exact d5, by rw [tRo _ _ (by omega)]; exact d6⟩, fun j hj => ?_⟩
        rw [tM 229 _ (by omega) (by omega) (by omega) (by omega), tM 229 _ (by omega) (by omega) (by omega) (by omega)]
        exact d7 j hj
    · exact (hL l' hl').fr hl' (fun a h3 h4 => hE a (by omega)) (t7 _ (by omega) (by omega) (by omega)) (fun b h3 h4 h5 h6 h7 h8 => tM b l' (by omega) (by omega) (by omega) (by omega)) (fun i hi => tM 229 _ (by omega) (by omega) (by omega) (by omega)) (fun i hi => tM 230 _ (by omega) (by omega) (by omega) (by omega)) (fun i hi => tM 233 _ (by omega) (by omega) (by omega) (by omega)) (fun i hi => tM 234 _ (by omega) (by omega) (by omega) (by omega))
  · show sI T 207 31 = jup T 12
    rw [t31, jup_go (l := l) (m := m) z (by rw [t232]; decide) (by rw [hQm.2.1.2.2, nI_clamp (by omega)]) (funext fun q => tM 228 q (by omega) (by omega) (by omega) (by omega)) (funext fun q => tM 220 q (by omega) (by omega) (by omega) (by omega)) (funext fun q => tM 229 q (by omega) (by omega) (by omega) (by omega)) (fun l' hl' => tM 232 l' (by omega) (by omega) (by omega) (by omega)) 12, if_pos hl12]
    exact congrArg (· + jin s l m) r8
