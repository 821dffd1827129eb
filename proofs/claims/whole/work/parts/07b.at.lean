/-! reading and writing where all is as it should be -/
theorem ln_le (a : Nat) : ln a ≤ 2002 := by
  unfold ln
  rw [List.getD_eq_getElem?_getD]
  cases h : lnL[a]? with
  | none => exact Nat.zero_le _
  | some x => exact (by decide +kernel : ∀ x ∈ lnL, x ≤ 2002) x (List.mem_of_getElem? h)
section AT
variable {β : Type} {s : Sg} {c k a n : Nat} {i v : Int32}
theorem gdI_at {f : Int32 → Option β} (h : kd a = c) (hn : a < sN s) : gdI s c k (some a) f = f (sI s a k) := by
  simp only [gdI]; rw [if_pos ⟨h, hn⟩]
theorem gdR_at {f : Option Nat → Option β} (h : kd a = c) (hn : a < sN s) : gdR s c k (some a) f = f (sR s a k) := by
  simp only [gdR]; rw [if_pos ⟨h, hn⟩]
theorem gdL_at {f : Int64 → Option β} (h : kd a = c) (hn : a < sN s) : gdL s c k (some a) f = f (sL s a k) := by
  simp only [gdL]; rw [if_pos ⟨h, hn⟩]
theorem ptI_at {f : Sg → Option β} (h : kd a = c) (hn : a < sN s) : ptI s c k (some a) v f = f (uI s a k v) := by
  simp only [ptI]; rw [if_pos ⟨h, hn⟩]
theorem ptZ_at {f : Sg → Option β} (hv : v = 0 ∨ v = 1) (h : kd a = c) (hn : a < sN s) : ptZ s c k (some a) v f = f (uI s a k v) := by
  simp only [ptZ]; rw [if_pos ⟨hv, h, hn⟩]
theorem ptR_at {f : Sg → Option β} {x : Option Nat} (h : kd a = c) (hn : a < sN s) : ptR s c k (some a) x f = f (uR s a k x) := by
  simp only [ptR]; rw [if_pos ⟨h, hn⟩]
theorem ptL_at {f : Sg → Option β} {x : Int64} (h : kd a = c) (hn : a < sN s) : ptL s c k (some a) x f = f (uL s a k x) := by
  simp only [ptL]; rw [if_pos ⟨h, hn⟩]
theorem inb {k a : Nat} (hk : k < ln a) : ¬ (nI k < 0 ∨ ln a ≤ (nI k).toNatClampNeg) := by
  have h1 := ln_le a
  rw [nI_clamp (by omega)]
  intro h
  rcases h with h | h
  · exact nI_pos (by omega) h
  · omega
theorem clampL {k a : Nat} (hk : k < ln a) : (nI k).toNatClampNeg = k := by
  have h1 := ln_le a
  exact nI_clamp (by omega)
theorem alI_at {f : Int32 → Option β} (hi : i = nI n) (hl : n < ln a) (h : kd a = 21) (hn : a < sN s) : alI s (some a) i f = f (sI s a n) := by
  subst hi; simp only [alI]; rw [if_pos ⟨h, hn, inb hl⟩, clampL hl]
theorem alZ_at {f : Int32 → Option β} (hi : i = nI n) (hl : n < ln a) (h : kd a = 22) (hn : a < sN s) : alZ s (some a) i f = f (sI s a n) := by
  subst hi; simp only [alZ]; rw [if_pos ⟨h, hn, inb hl⟩, clampL hl]
theorem alF_at {f : UInt32 → Option β} (hi : i = nI n) (hl : n < ln a) (h : kd a = 20) (hn : a < sN s) : alF s (some a) i f = f (sF s a n) := by
  subst hi; simp only [alF]; rw [if_pos ⟨h, hn, inb hl⟩, clampL hl]
theorem alR_at {f : Option Nat → Option β} (hi : i = nI n) (hl : n < ln a) (h : kd a = 30 + c) (hn : a < sN s) : alR s c (some a) i f = f (sR s a n) := by
  subst hi; simp only [alR]; rw [if_pos ⟨h, hn, inb hl⟩, clampL hl]
theorem asI_at {f : Sg → Option β} (hi : i = nI n) (hl : n < ln a) (h : kd a = 21) (hn : a < sN s) : asI s (some a) i v f = f (uI s a n v) := by
  subst hi; simp only [asI]; rw [if_pos ⟨h, hn, inb hl⟩, clampL hl]
theorem asZ_at {f : Sg → Option β} (hv : v = 0 ∨ v = 1) (hi : i = nI n) (hl : n < ln a) (h : kd a = 22) (hn : a < sN s) : asZ s (some a) i v f = f (uI s a n v) := by
  subst hi; simp only [asZ]; rw [if_pos ⟨hv, h, hn, inb hl⟩, clampL hl]
theorem asF_at {f : Sg → Option β} {x : UInt32} (hi : i = nI n) (hl : n < ln a) (h : kd a = 20) (hn : a < sN s) : asF s (some a) i x f = f (uF s a n x) := by
  subst hi; simp only [asF]; rw [if_pos ⟨h, hn, inb hl⟩, clampL hl]
theorem asR_at {f : Sg → Option β} {x : Option Nat} (hx : isAb s c x = true) (hi : i = nI n) (hl : n < ln a) (h : kd a = 30 + c) (hn : a < sN s) : asR s c (some a) i x f = f (uR s a n x) := by
  subst hi; simp only [asR]; rw [if_pos ⟨hx, h, hn, inb hl⟩, clampL hl]
theorem aln_at {f : Int32 → Option β} (h : (kd a = 20 ∨ kd a = 21 ∨ kd a = 22 ∨ (30 ≤ kd a ∧ aok (kd a - 27) = true))) (hn : a < sN s) : aln s (some a) f = f (nI (ln a)) := by
  simp only [aln]; rw [if_pos ⟨h, hn⟩]; rfl
theorem gS_at {f : Int32 → Option β} (hi : i = nI n) (hl : n < (stV k).length) (h2 : n < 2 ^ 31) : gS k i f = f (stv k n) := by
  subst hi
  unfold gS
  rw [nI_clamp h2, if_pos]
  intro h
  rcases h with h | h
  · exact nI_pos h2 h
  · omega
theorem cv_at {f : Nat → Option β} (h : kd a = c) (hn : a < sN s) : cv s c (some a) f = f a := by
  simp only [cv]; rw [if_pos ⟨h, hn⟩]
theorem cl_some {α : Type} {x : α} {s1 : Sg} {f : α → Sg → Option β} : cl (some (x, s1)) f = f x s1 := rfl
theorem ckB_0 {x : Option β} : ckB 0 x = x := rfl
theorem ckB_1 {x : Option β} : ckB 1 x = x := rfl
end AT
/-! what the cells are -/
theorem kdSh : ∀ r, r < 3 → kd (15 + 3 * r) = 7 ∧ kd (16 + 3 * r) = 20 ∧ kd (17 + 3 * r) = 22 ∧ ln (16 + 3 * r) = 20 ∧ ln (17 + 3 * r) = 20 := by decide +kernel
theorem kdJu : ∀ j, j < 32 → kd (24 + j) = 3 := by decide +kernel
theorem kdGr : ∀ g, g < 20 → kd (56 + 2 * g) = 2 ∧ kd (57 + 2 * g) = 33 ∧ ln (57 + 2 * g) = 4 := by decide +kernel
theorem kdPl : ∀ p, p < 3 → kd (96 + p) = 6 := by decide +kernel
theorem kdLo : ∀ l, l < 12 → kd (99 + 7 * l) = 5 ∧ kd (100 + 7 * l) = 32 ∧ ln (100 + 7 * l) = 6 ∧ kd (101 + 7 * l) = 21 ∧ ln (101 + 7 * l) = 6 ∧ kd (102 + 7 * l) = 6 ∧ kd (103 + 7 * l) = 0 ∧ kd (104 + 7 * l) = 21 ∧ ln (104 + 7 * l) = 12 ∧ kd (105 + 7 * l) = 21 ∧ ln (105 + 7 * l) = 12 := by decide +kernel
theorem kdFa : ∀ i, i < 6 → kd (183 + 4 * i) = 1 ∧ kd (184 + 4 * i) = 21 ∧ ln (184 + 4 * i) = 1001 ∧ kd (185 + 4 * i) = 21 ∧ ln (185 + 4 * i) = 1001 ∧ kd (186 + 4 * i) = 21 ∧ ln (186 + 4 * i) = 1001 := by decide +kernel
/-! numbers of the call: below, above, or a place -/
theorem ixI (n : Nat) (hn : n < 2 ^ 31) (x : Int32) : (x.toInt < 0 ∧ x < 0) ∨ ((n : Int) ≤ x.toInt ∧ nI n ≤ x ∧ ¬ x < 0) ∨ ∃ j : Nat, j < n ∧ x = nI j := by
  rcases pk_ix x hn with h | h | h
  · left
    refine ⟨?_, h⟩
    rw [Int32.lt_iff_toInt_lt] at h
    exact h
  · right; left
    have h2 := h
    rw [Int32.le_iff_toInt_le, nI_toInt hn] at h2
    refine ⟨h2, h, fun h3 => ?_⟩
    rw [Int32.lt_iff_toInt_lt] at h3
    have : (0 : Int32).toInt = 0 := rfl
    omega
  · exact Or.inr (Or.inr h)
theorem nIn {n j : Nat} (hj : j < n) (hn : n < 2 ^ 31) : ¬ nI n ≤ nI j := fun h => by
  rw [Int32.le_iff_toInt_le, nI_toInt hn, nI_toInt (by omega)] at h
  omega
theorem nI0 {j : Nat} (hj : j < 2 ^ 31) : ¬ nI j < 0 := nI_pos hj
/-- the reference's look at a number -/
theorem lgc_lt {a b : Int64} : lg_cmp a b < 0 ↔ a.toInt < b.toInt := (lg_cmp_lt a b).trans Int64.lt_iff_toInt_lt
theorem lgc_gt {a b : Int64} : 0 < lg_cmp a b ↔ b.toInt < a.toInt := (lg_cmp_gt a b).trans Int64.lt_iff_toInt_lt
theorem in_yes {x a b : Int64} {s : Sg} (h1 : a.toInt ≤ x.toInt) (h2 : x.toInt ≤ b.toInt) : mX9_in x a b s = some (1, s) := by
  unfold mX9_in
  rw [if_neg (by rw [lgc_lt]; omega), if_neg (by rw [lgc_gt]; omega)]
  rfl
theorem in_no {x a b : Int64} {s : Sg} (h : x.toInt < a.toInt ∨ b.toInt < x.toInt) : mX9_in x a b s = some (0, s) := by
  unfold mX9_in
  by_cases h1 : x.toInt < a.toInt
  · rw [if_pos (by rw [lgc_lt]; exact h1)]
    rfl
  · rw [if_neg (by rw [lgc_lt]; exact h1), if_pos (by rw [lgc_gt]; omega)]
    rfl
theorem in_if {x a b : Int64} {s : Sg} : mX9_in x a b s = some ((if a.toInt ≤ x.toInt ∧ x.toInt ≤ b.toInt then 1 else 0), s) := by
  by_cases h : a.toInt ≤ x.toInt ∧ x.toInt ≤ b.toInt
  · rw [if_pos h]; exact in_yes h.1 h.2
  · rw [if_neg h]; exact in_no (by omega)
theorem within_if {x a b : Int32} {s : Sg} : mX8_within x a b s = some ((if a.toInt ≤ x.toInt ∧ x.toInt ≤ b.toInt then 1 else 0), s) := by
  unfold mX8_within
  by_cases h1 : x < a
  · rw [if_pos h1, if_neg]
    · rfl
    · rw [Int32.lt_iff_toInt_lt] at h1; omega
  · rw [if_neg h1]
    by_cases h2 : b < x
    · rw [if_pos h2, if_neg]
      · rfl
      · rw [Int32.lt_iff_toInt_lt] at h2; omega
    · rw [if_neg h2, if_pos]
      · rfl
      · rw [Int32.lt_iff_toInt_lt] at h1 h2; omega
/-! frames -/
def Eqc (s s' : Sg) (a : Nat) : Prop := sI s' a = sI s a ∧ sR s' a = sR s a ∧ sF s' a = sF s a
theorem Eqc.rf {s : Sg} {a : Nat} : Eqc s s a := ⟨rfl, rfl, rfl⟩
theorem Eqc.tr {s s1 s2 : Sg} {a : Nat} (h : Eqc s s1 a) (h2 : Eqc s1 s2 a) : Eqc s s2 a := ⟨h2.1.trans h.1, h2.2.1.trans h.2.1, h2.2.2.trans h.2.2⟩
theorem Eqc.uI {s s1 : Sg} {a b k : Nat} {v : Int32} (h : Eqc s s1 a) (hb : a ≠ b) : Eqc s (uI s1 b k v) a := ⟨(u2_fa _ _ _ hb).trans h.1, h.2.1, h.2.2⟩
theorem Eqc.uR {s s1 : Sg} {a b k : Nat} {v : Option Nat} (h : Eqc s s1 a) (hb : a ≠ b) : Eqc s (uR s1 b k v) a := ⟨h.1, (u2_fa _ _ _ hb).trans h.2.1, h.2.2⟩
theorem Eqc.uF {s s1 : Sg} {a b k : Nat} {v : UInt32} (h : Eqc s s1 a) (hb : a ≠ b) : Eqc s (uF s1 b k v) a := ⟨h.1, h.2.1, (u2_fa _ _ _ hb).trans h.2.2⟩
theorem Eqc.uL {s s1 : Sg} {a b k : Nat} {v : Int64} (h : Eqc s s1 a) : Eqc s (uL s1 b k v) a := h
theorem R0.congr {s s' : Sg} (h : R0 s) (hN : sN s' = sN s) (hR : ∀ a k, ¬ (57 ≤ a ∧ a < 96 ∧ a % 2 = 1) → ¬ (99 ≤ a ∧ a < 183 ∧ a % 7 = 2) → ¬ (99 ≤ a ∧ a < 183 ∧ a % 7 = 1 ∧ (k = 4 ∨ k = 5)) → sR s' a k = sR s a k) (hI : ∀ a, 24 ≤ a → a < 99 → sI s' a 0 = sI s a 0) : R0 s' := by
  obtain ⟨h0, h1, h2, h3, h4, h5, h6, h7, h8, h9, h10, h11, h12, h13, h14, b1, b2, b3, b4, b5, b6, b7⟩ := h
  refine ⟨hN.trans h0, ?_, ?_, ?_, ?_, ?_, ?_, ?_, ?_, ?_, ?_, ?_, ?_, ?_, ?_, fun r hr => ?_, fun j hj => ?_, fun g hg => ?_, fun p hp => ?_, fun l hl => ?_, fun i hi => ?_, fun k hk => ?_⟩
  · exact (hR _ _ (by omega) (by omega) (by omega)).trans h1
  · exact (hR _ _ (by omega) (by omega) (by omega)).trans h2
  · exact (hR _ _ (by omega) (by omega) (by omega)).trans h3
  · exact (hR _ _ (by omega) (by omega) (by omega)).trans h4
  · exact (hR _ _ (by omega) (by omega) (by omega)).trans h5
  · exact (hR _ _ (by omega) (by omega) (by omega)).trans h6
  · exact (hR _ _ (by omega) (by omega) (by omega)).trans h7
  · exact (hR _ _ (by omega) (by omega) (by omega)).trans h8
  · exact (hR _ _ (by omega) (by omega) (by omega)).trans h9
  · exact (hR _ _ (by omega) (by omega) (by omega)).trans h10
  · exact (hR _ _ (by omega) (by omega) (by omega)).trans h11
  · exact (hR _ _ (by omega) (by omega) (by omega)).trans h12
  · exact (hR _ _ (by omega) (by omega) (by omega)).trans h13
  · exact (hR _ _ (by omega) (by omega) (by omega)).trans h14
  · obtain ⟨c1, c2, c3⟩ := b1 r hr
    exact ⟨(hR _ _ (by omega) (by omega) (by omega)).trans c1, (hR _ _ (by omega) (by omega) (by omega)).trans c2, (hR _ _ (by omega) (by omega) (by omega)).trans c3⟩
  · obtain ⟨c1, c2⟩ := b2 j hj
    exact ⟨(hR _ _ (by omega) (by omega) (by omega)).trans c1, (hI _ (by omega) (by omega)).trans c2⟩
  · obtain ⟨c1, c2, c3⟩ := b3 g hg
    exact ⟨(hR _ _ (by omega) (by omega) (by omega)).trans c1, (hI _ (by omega) (by omega)).trans c2, (hR _ _ (by omega) (by omega) (by omega)).trans c3⟩
  · obtain ⟨c1, c2⟩ := b4 p hp
    exact ⟨(hR _ _ (by omega) (by omega) (by omega)).trans c1, (hI _ (by omega) (by omega)).trans c2⟩
  · obtain ⟨c1, c2, c3, c4, c5, c6, c7⟩ := b5 l hl
    exact ⟨(hR _ _ (by omega) (by omega) (by omega)).trans c1, (hR _ _ (by omega) (by omega) (by omega)).trans c2, (hR _ _ (by omega) (by omega) (by omega)).trans c3, (hR _ _ (by omega) (by omega) (by omega)).trans c4, (hR _ _ (by omega) (by omega) (by omega)).trans c5, (hR _ _ (by omega) (by omega) (by omega)).trans c6, (hR _ _ (by omega) (by omega) (by omega)).trans c7⟩
  · obtain ⟨c1, c2, c3, c4⟩ := b6 i hi
    exact ⟨(hR _ _ (by omega) (by omega) (by omega)).trans c1, (hR _ _ (by omega) (by omega) (by omega)).trans c2, (hR _ _ (by omega) (by omega) (by omega)).trans c3, (hR _ _ (by omega) (by omega) (by omega)).trans c4⟩
  · rcases b7 k hk with c | c
    · exact Or.inl c
    · exact Or.inr ((hR _ _ (by omega) (by omega) (by omega)).trans c)
theorem R1.congr {s s' : Sg} (h : R1 s) (hE : ∀ a, (15 ≤ a ∧ a < 24) ∨ (208 ≤ a ∧ a ≤ 210) → Eqc s s' a) : R1 s' := by
  intro r hr
  have h9 := h r hr
  rw [(hE (15 + 3 * r) (by omega)).1, (hE (17 + 3 * r) (by omega)).1, (hE (16 + 3 * r) (by omega)).2.2, (hE 208 (by omega)).1, (hE 210 (by omega)).1, (hE 209 (by omega)).2.2]
  exact h9
theorem R2.congr {s s' : Sg} (h : R2 s) (hE : ∀ a, a = 3 ∨ a = 4 ∨ a = 211 ∨ a = 212 → Eqc s s' a) : R2 s' := by
  intro k hk
  have h9 := h k hk
  rw [(hE 3 (by omega)).1, (hE 4 (by omega)).1, (hE 211 (by omega)).1, (hE 212 (by omega)).1]
  exact h9
theorem R3.congr {s s' : Sg} (h : R3 s) (hE : ∀ a, (24 ≤ a ∧ a < 56) ∨ (213 ≤ a ∧ a ≤ 215) → Eqc s s' a) : R3 s' := by
  intro j hj
  have h9 := h j hj
  rw [(hE (24 + j) (by omega)).1, (hE 213 (by omega)).1, (hE 214 (by omega)).1, (hE 215 (by omega)).1]
  exact h9
theorem R4.congr {s s' : Sg} (h : R4 s) (hE : ∀ a, (56 ≤ a ∧ a < 96) ∨ (216 ≤ a ∧ a ≤ 221) → Eqc s s' a) (h0 : sI s' 0 9 = sI s 0 9) (h1 : sI s' 207 8 = sI s 207 8) : R4 s' := by
  obtain ⟨a1, n, a2, a3, a4⟩ := h
  refine ⟨h0.trans (a1.trans h1.symm), n, a2, h1.trans a3, fun g hg => ?_⟩
  have h9 := a4 g hg
  rw [(hE (56 + 2 * g) (by omega)).1, (hE (57 + 2 * g) (by omega)).2.1, (hE 216 (by omega)).1, (hE 217 (by omega)).1, (hE 218 (by omega)).1, (hE 219 (by omega)).1, (hE 220 (by omega)).1, (hE 221 (by omega)).1]
  exact h9
theorem R5.congr {s s' : Sg} (h : R5 s) (hE : ∀ a, (96 ≤ a ∧ a < 99) ∨ (222 ≤ a ∧ a ≤ 225) → Eqc s s' a) : R5 s' := by
  intro p hp
  have h9 := h p hp
  rw [(hE (96 + p) (by omega)).1, (hE 222 (by omega)).1, (hE 223 (by omega)).1, (hE 224 (by omega)).1, (hE 225 (by omega)).1]
  exact h9
theorem R6.congr {s s' : Sg} (h : R6 s) (hE : ∀ a, a = 9 ∨ a = 226 → Eqc s s' a) : R6 s' := by
  intro k hk
  have h9 := h k hk
  rw [(hE 9 (by omega)).1, (hE 226 (by omega)).1]
  exact h9
theorem RL1.congr {s s' : Sg} {n l : Nat} (hl : l < 12) (h : RL1 s n l) (hE : ∀ a, (99 ≤ a ∧ a < 183) ∨ (227 ≤ a ∧ a ≤ 236) → Eqc s s' a) (h1 : sI s' 207 8 = sI s 207 8) : RL1 s' n l := by
  unfold RL1 at h ⊢
  rw [(hE (99 + 7 * l) (by omega)).1, (hE (99 + 7 * l) (by omega)).2.1, (hE (100 + 7 * l) (by omega)).2.1, (hE (101 + 7 * l) (by omega)).1, (hE (102 + 7 * l) (by omega)).1, (hE (104 + 7 * l) (by omega)).1, (hE (105 + 7 * l) (by omega)).1, (hE 227 (by omega)).1, (hE 228 (by omega)).1, (hE 229 (by omega)).1, (hE 230 (by omega)).1, (hE 231 (by omega)).1, (hE 232 (by omega)).1, (hE 233 (by omega)).1, (hE 234 (by omega)).1, (hE 235 (by omega)).1, (hE 236 (by omega)).1, h1]
  exact h
theorem R7.congr {s s' : Sg} (h : R7 s) (hE : ∀ a, (99 ≤ a ∧ a < 183) ∨ (227 ≤ a ∧ a ≤ 236) → Eqc s s' a) (h0 : sI s' 0 10 = sI s 0 10) (h1 : sI s' 207 8 = sI s 207 8) (h2 : sI s' 207 20 = sI s 207 20) : R7 s' := by
  obtain ⟨a1, n, a2, a3, a4⟩ := h
  exact ⟨h0.trans (a1.trans h2.symm), n, a2, h2.trans a3, fun l hl => (a4 l hl).congr hl hE h1⟩
theorem jin_congr {s s' : Sg} (h1 : sI s' 220 = sI s 220) (h2 : sI s' 229 = sI s 229) (l : Nat) : ∀ i, jin s' l i = jin s l i
  | 0 => rfl
  | i + 1 => by rw [jin, jin, jin_congr h1 h2 l i, h1, h2]
theorem jup_congr {s s' : Sg} (h1 : sI s' 220 = sI s 220) (h2 : sI s' 229 = sI s 229) (h3 : sI s' 228 = sI s 228) (h4 : sI s' 232 = sI s 232) : ∀ l, jup s' l = jup s l
  | 0 => rfl
  | l + 1 => by rw [jup, jup, jup_congr h1 h2 h3 h4 l, h3, h4, jin_congr h1 h2]
theorem R8.congr {s s' : Sg} (h : R8 s) (hE : ∀ a, a = 220 ∨ a = 228 ∨ a = 229 ∨ a = 232 → Eqc s s' a) (h1 : sI s' 207 31 = sI s 207 31) : R8 s' := by
  unfold R8 at h ⊢
  rw [jup_congr (hE 220 (by omega)).1 (hE 229 (by omega)).1 (hE 228 (by omega)).1 (hE 232 (by omega)).1, h1]
  exact h
