theorem TD.on {s s1 : Sg} {c H : Nat} {V : Int32} {wx wy : Nat → Int32} (h : TD s V H wx wy) (ho : On s s1 c) (hc : c ≠ 207 ∧ c ≠ 237 ∧ c ≠ 238) : TD s1 V H wx wy := by
  refine ⟨by rw [ho.2.2.2 _ _ (fun z => hc.1 z.symm)]; exact h.1, by rw [ho.2.2.2 _ _ (fun z => hc.1 z.symm)]; exact h.2.1, fun j hj => ?_⟩
  rw [ho.2.2.2 _ _ (fun z => hc.2.1 z.symm), ho.2.2.2 _ _ (fun z => hc.2.2 z.symm)]
  exact h.2.2 j hj
theorem RW.w {s s1 : Sg} {c n : Nat} {F : Nat → Nat} (h : RW s c F n) (e : ∀ q, sI s1 c q = sI s c q) : RW s1 c F n := fun k hk => by rw [e]; exact h k hk
theorem PWm.w {s s1 : Sg} {n : Nat} {T : Nat → Nat → Nat} {f : Nat → Nat} (h : PWm s T f n) (e : ∀ q, sI s1 246 q = sI s 246 q) : PWm s1 T f n := fun x y hx hy hxy => by rw [e]; exact h x y hx hy hxy
section MORD
variable {s s1 : Sg} {P A ax ay H n l : Nat} {V : Int32} {wx wy : Nat → Int32} {f : Nat → Nat}
/-- the reference measures the pauses between the sorted -/
theorem mPauses (hr : Rel s) (hS : MEq s s1) (hT : TD s1 V H wx wy) (hP : PA s P A ax ay V H wx wy) (hn : n < 7) (hf : ∀ k, k < n → GN s (f k)) (hR : RW s1 245 f n) : ∃ s2, lp (mX9_order_b48 (nI n) 207 (nI l)) FU 0 s1 = lp (mX9_order_b126 (nI n) 207 (nI l)) FU (-1, 1) s2 ∧ Scr s1 s2 ∧ RW s2 245 f n ∧ PWm s2 (btN s V H wx wy) f n ∧ RW s2 247 (fun k => k) n := by
  refine lp_inv (F := mX9_order_b48 (nI n) 207 (nI l)) (n := n) (I := fun a q s' => q = nI a ∧ Scr s1 s' ∧ TD s' V H wx wy ∧ RW s' 245 f n ∧ (∀ x y, x < a → y < n → x ≠ y → sI s' 246 (6 * x + y) = if btN s V H wx wy (f x) (f y) ≤ 60 then nI (btN s V H wx wy (f x) (f y)) else -7) ∧ RW s' 247 (fun k => k) a) (Q := fun z => ∃ s2, z = lp (mX9_order_b126 (nI n) 207 (nI l)) FU (-1, 1) s2 ∧ Scr s1 s2 ∧ RW s2 245 f n ∧ PWm s2 (btN s V H wx wy) f n ∧ RW s2 247 (fun k => k) n) (fun q s' r h => ?_) (fun a q s' r ha h hr' => ?_) FU 0 (Nat.zero_le _) (show n - 0 < 4000 by omega) _ _ ⟨rfl, Scr.rf, hT, hR, fun x y hx => absurd hx (Nat.not_lt_zero x), fun k hk => absurd hk (Nat.not_lt_zero k)⟩
  · obtain ⟨rfl, c1, c2, c3, c4, c5⟩ := h
    refine ⟨s', ?_, c1, c3, c4, c5⟩
    unfold mX9_order_b48
    rw [if_pos (Int32.le_refl _)]
  · obtain ⟨rfl, c1, c2, c3, c4, c5⟩ := h
    unfold mX9_order_b48
    rw [if_neg (nI_ge ha (by omega))]
    refine lp_inv (F := mX9_order_b56 (nI n) 207 (nI a) r) (n := n) (I := fun b q s' => q = nI b ∧ Scr s1 s' ∧ TD s' V H wx wy ∧ RW s' 245 f n ∧ (∀ x y, x < n → y < n → x ≠ y → (x < a ∨ (x = a ∧ y < b)) → sI s' 246 (6 * x + y) = if btN s V H wx wy (f x) (f y) ≤ 60 then nI (btN s V H wx wy (f x) (f y)) else -7) ∧ RW s' 247 (fun k => k) a) (Q := fun z => ∃ s2, z = lp (mX9_order_b126 (nI n) 207 (nI l)) FU (-1, 1) s2 ∧ Scr s1 s2 ∧ RW s2 245 f n ∧ PWm s2 (btN s V H wx wy) f n ∧ RW s2 247 (fun k => k) n) (fun q s' r2 h => ?_) (fun b q s' r2 hb h hr2 => ?_) FU 0 (Nat.zero_le _) (show n - 0 < 4000 by omega) _ _ ⟨rfl, c1, c2, c3, fun x y hx hy hxy h => c4 x y (by omega) hy hxy, c5⟩
    · obtain ⟨rfl, d1, d2, d3, d4, d5⟩ := h
      have hM' := (hS.tr d1).1
      have ho : On s' (uI s' 247 a (nI a)) 247 := On.u
      unfold mX9_order_b56
      rw [if_pos (Int32.le_refl _), mR hM' 44 247 rfl (by decide) (by decide), asI_n (show a < ln 247 from show a < 6 by omega) (by decide) (by rw [hM'.1]; decide), nI_1]
      refine hr' _ _ ⟨rfl, d1.tr (ho.sc (by omega)), d2.on ho (by omega), d3.on ho (by omega), fun x y hx hy hxy => ?_, fun k hk => ?_⟩
      · rw [ho.2.2.2 _ _ (by omega)]
        exact d4 x y (by omega) hy hxy (by omega)
      · rw [sI_if]
        by_cases hka : k = a
        · subst hka; rw [if_pos ⟨rfl, rfl⟩]
        · rw [if_neg (fun z => hka z.2)]; exact d5 k (by omega)
    · obtain ⟨rfl, d1, d2, d3, d4, d5⟩ := h
      have hE' := hS.tr d1
      have hM' := hE'.1
      have hN' := hM'.1
      have hab : 6 * a + b < 36 := by omega
      -- one place written
      have wr : ∀ (s3 : Sg) (w : Int32), Scr s1 s3 → TD s3 V H wx wy → (∀ q, sI s3 245 q = sI s' 245 q) → (∀ q, sI s3 246 q = sI s' 246 q) → (∀ q, sI s3 247 q = sI s' 247 q) → (a ≠ b → w = if btN s V H wx wy (f a) (f b) ≤ 60 then nI (btN s V H wx wy (f a) (f b)) else -7) → ∃ s2, r2 (nI (b + 1)) (uI s3 246 (6 * a + b) w) = lp (mX9_order_b126 (nI n) 207 (nI l)) FU (-1, 1) s2 ∧ Scr s1 s2 ∧ RW s2 245 f n ∧ PWm s2 (btN s V H wx wy) f n ∧ RW s2 247 (fun k => k) n := fun s3 w e1 e2 e3 e4 e5 e6 => by
        have ho : On s3 (uI s3 246 (6 * a + b) w) 246 := On.u
        refine hr2 _ _ ⟨rfl, e1.tr (ho.sc (by omega)), e2.on ho (by omega), (d3.w e3).on ho (by omega), fun x y hx hy hxy h => ?_, (d5.w e5).on ho (by omega)⟩
        rw [sI_if]
        by_cases hc : x = a ∧ y = b
        · obtain ⟨rfl, rfl⟩ := hc
          rw [if_pos ⟨rfl, rfl⟩]
          exact e6 hxy
        · rw [if_neg (by omega), e4]
          exact d4 x y hx hy hxy (by omega)
      unfold mX9_order_b56
      rw [if_neg (nI_ge hb (by omega)), mR hM' 43 246 rfl (by decide) (by decide)]
      by_cases hc : a = b
      · subst hc
        rw [if_neg (fun z => z rfl), i6', asI_n (show _ < ln 246 from hab) (by decide) (by omega), nI_1]
        exact wr s' _ d1 d2 (fun _ => rfl) (fun _ => rfl) (fun _ => rfl) (fun z => absurd rfl z)
      · obtain ⟨s3, g1, g2, g3, g4⟩ := betweenOf_ok hr hE' d2 hP (hf a ha) (hf b hb)
        have hM3 := g2.m hM'
        rw [if_pos (fun z => hc ((nI_eq (by omega) (by omega)).mp z)), mR hM' 42 245 rfl (by decide) (by decide), alI_n (show a < ln 245 from show a < 6 by omega) (by decide) (by omega), d3 a ha, mR hM' 42 245 rfl (by decide) (by decide), alI_n (show b < ln 245 from show b < 6 by omega) (by decide) (by omega), d3 b hb, c9 hN', g1, cl_some, i6', asI_n (show _ < ln 246 from hab) (by decide) (by rw [hM3.1]; decide), nI_1]
        exact wr s3 _ (d1.tr g2) g3 (fun q => g4 _ _ (by omega)) (fun q => g4 _ _ (by omega)) (fun q => g4 _ _ (by omega)) (fun _ => rfl)
/-- best, and what is least, hold what bs says -/
def BSm (s : Sg) (n : Nat) (b : Option (Nat × Nat)) (least : Int32) : Prop := match b with
  | none => least = -1
  | some (v, u) => least = nI v ∧ RW s 248 (pa n u) n
theorem copyB {s' : Sg} {t : Nat} {a : Nat → Nat} {K : Int32 → Sg → Option (Int32 × Sg)} {v : Int32} (hM : M0 s') (hn : n < 7) (hR : RW s' 247 a n) : (∃ s2, lp (mX9_order_b159 (nI n) K v 207) FU 0 s' = K v s2 ∧ On s' s2 248 ∧ RW s2 248 a n) ∧ ∃ s2, lp (mX9_order_b159_ (nI n) K v 207) FU 0 s' = K v s2 ∧ On s' s2 248 ∧ RW s2 248 a n := by
  refine ⟨?_, ?_⟩
  · refine lp_inv (F := mX9_order_b159 (nI n) K v 207) (n := n) (I := fun k q s2 => q = nI k ∧ On s' s2 248 ∧ RW s2 248 a k) (Q := fun x => ∃ s2, x = K v s2 ∧ On s' s2 248 ∧ RW s2 248 a n) (fun q s2 r h => ?_) (fun k q s2 r hk h hr => ?_) FU 0 (Nat.zero_le _) (show n - 0 < 4000 by omega) _ _ ⟨rfl, On.rf, fun k hk => absurd hk (Nat.not_lt_zero k)⟩
    · obtain ⟨rfl, c1, c2⟩ := h
      refine ⟨s2, ?_, c1, c2⟩
      unfold mX9_order_b159
      rw [if_pos (Int32.le_refl _)]
    · obtain ⟨rfl, c1, c2⟩ := h
      have hM2 := hM.on c1
      unfold mX9_order_b159
      rw [if_neg (nI_ge hk (by omega)), mR hM2 45 248 rfl (by decide) (by decide), mR hM2 44 247 rfl (by decide) (by decide), alI_n (show k < ln 247 from show k < 6 by omega) (by decide) (by rw [hM2.1]; decide), c1.2.2.2 _ _ (by decide), hR k hk, asI_n (show k < ln 248 from show k < 6 by omega) (by decide) (by rw [hM2.1]; decide), nI_1]
      refine hr _ _ ⟨rfl, c1.tr On.u, fun j hj => ?_⟩
      rw [sI_if]
      by_cases hjk : j = k
      · subst hjk; rw [if_pos ⟨rfl, rfl⟩]
      · rw [if_neg (fun z => hjk z.2)]; exact c2 j (by omega)
  · refine lp_inv (F := mX9_order_b159_ (nI n) K v 207) (n := n) (I := fun k q s2 => q = nI k ∧ On s' s2 248 ∧ RW s2 248 a k) (Q := fun x => ∃ s2, x = K v s2 ∧ On s' s2 248 ∧ RW s2 248 a n) (fun q s2 r h => ?_) (fun k q s2 r hk h hr => ?_) FU 0 (Nat.zero_le _) (show n - 0 < 4000 by omega) _ _ ⟨rfl, On.rf, fun k hk => absurd hk (Nat.not_lt_zero k)⟩
    · obtain ⟨rfl, c1, c2⟩ := h
      refine ⟨s2, ?_, c1, c2⟩
      unfold mX9_order_b159_
      rw [if_pos (Int32.le_refl _)]
    · obtain ⟨rfl, c1, c2⟩ := h
      have hM2 := hM.on c1
      unfold mX9_order_b159_
      rw [if_neg (nI_ge hk (by omega)), mR hM2 45 248 rfl (by decide) (by decide), mR hM2 44 247 rfl (by decide) (by decide), alI_n (show k < ln 247 from show k < 6 by omega) (by decide) (by rw [hM2.1]; decide), c1.2.2.2 _ _ (by decide), hR k hk, asI_n (show k < ln 248 from show k < 6 by omega) (by decide) (by rw [hM2.1]; decide), nI_1]
      refine hr _ _ ⟨rfl, c1.tr On.u, fun j hj => ?_⟩
      rw [sI_if]
      by_cases hjk : j = k
      · subst hjk; rw [if_pos ⟨rfl, rfl⟩]
      · rw [if_neg (fun z => hjk z.2)]; exact c2 j (by omega)
/-- all orders looked through -/
theorem mOrders {m : Nat} {W : Nat → Nat → Nat} (hQ : LQm s l m) (hS : MEq s s1) (h0 : 0 < n) (hn : n < 7) (hf : ∀ k, k < n → f k < 20) (hinj : inc f n) (hR : RW s1 245 f n) (hP : PWm s1 (btN s V H wx wy) f n) (hA : RW s1 247 (fun k => k) n) (hW : ∀ x y, W x y = Wg s V H wx wy x y) : ∃ s3, Scr s1 s3 ∧ RW s3 245 f n ∧ PWm s3 (btN s V H wx wy) f n ∧ ((bsF (sT W f n) (pts n).length = none ∧ lp (mX9_order_b126 (nI n) 207 (nI l)) FU (-1, 1) s1 = some (-7, s3)) ∨ ∃ v u q, bsF (sT W f n) (pts n).length = some (v, u) ∧ q.1 = nI v ∧ RW s3 248 (pa n u) n ∧ lp (mX9_order_b126 (nI n) 207 (nI l)) FU (-1, 1) s1 = lp (mX9_order_b205 (nI n) q 207 (nI l)) FU 0 s3) := by
  obtain ⟨l1, l2⟩ := len_all h0 hn
  have hWb : ∀ x y, W x y ≤ 60 := fun x y => by rw [hW]; exact Wg_b _ _ _ _ _ _ _
  have hTb : ∀ x y, 1 ≤ btN s V H wx wy x y ∧ btN s V H wx wy x y ≤ 61 := fun x y => ⟨(btN_sp s V H wx wy x y).1, (btN_sp s V H wx wy x y).2.1⟩
  refine lp_inv (F := mX9_order_b126 (nI n) 207 (nI l)) (n := (pts n).length) (I := fun t q s' => Scr s1 s' ∧ RW s' 245 f n ∧ PWm s' (btN s V H wx wy) f n ∧ ((t < (pts n).length ∧ q.2 = 1 ∧ RW s' 247 (pa n t) n) ∨ (t = (pts n).length ∧ q.2 = 0)) ∧ BSm s' n (bsF (sT W f n) t) q.1) (Q := fun x => ∃ s3, Scr s1 s3 ∧ RW s3 245 f n ∧ PWm s3 (btN s V H wx wy) f n ∧ ((bsF (sT W f n) (pts n).length = none ∧ x = some (-7, s3)) ∨ ∃ v u q, bsF (sT W f n) (pts n).length = some (v, u) ∧ q.1 = nI v ∧ RW s3 248 (pa n u) n ∧ x = lp (mX9_order_b205 (nI n) q 207 (nI l)) FU 0 s3)) (fun q s' r h => ?_) (fun t q s' r ht h hr' => ?_) FU 0 (Nat.zero_le _) (show (pts n).length - 0 < 4000 by omega) ((-1 : Int32), (1 : Int32)) s1 ⟨Scr.rf, hR, hP, Or.inl ⟨l1, rfl, hA.cg (fun k hk => (pa_0 h0 hn k hk).symm)⟩, rfl⟩
  · obtain ⟨q1, q2⟩ := q
    obtain ⟨c1, c2, c3, c4, c5⟩ := h
    dsimp only at c4 c5
    rcases c4 with ⟨c4, -⟩ | ⟨-, c4⟩
    · exact absurd c4 (Nat.lt_irrefl _)
    subst c4
    refine ⟨s', c1, c2, c3, ?_⟩
    unfold mX9_order_b126
    dsimp only
    rw [if_pos rfl]
    cases hx : bsF (sT W f n) (pts n).length with
    | none =>
      rw [hx] at c5
      have e : q1 = -1 := c5
      subst e
      rw [if_neg (by decide)]
      exact Or.inl ⟨rfl, rfl⟩
    | some b =>
      obtain ⟨v, u⟩ := b
      rw [hx] at c5
      obtain ⟨e, c6⟩ : q1 = nI v ∧ RW s' 248 (pa n u) n := c5
      have hvb := (smF_b hWb (n - 1) v (bsF_sp _ _ v u hx).2).1
      subst e
      rw [if_pos (nI_pos' (by omega))]
      exact Or.inr ⟨v, u, (nI v, 0), rfl, rfl, c6, rfl⟩
  · obtain ⟨q1, q2⟩ := q
    obtain ⟨c1, c2, c3, c4, c5⟩ := h
    dsimp only at c4 c5
    rcases c4 with ⟨-, e, c4⟩ | ⟨c4, -⟩
    rotate_left
    · exact absurd ht (by omega)
    subst e
    have hE' := hS.tr c1
    have hMV := (hQ.me hE').1
    have hM' := hMV.1
    have hN' := hM'.1
    have hperm := pa_perm h0 hn ht
    have hsum := sumOf_ok (s := s') (F := pa n t) (W := W) hMV h0 hn c4 hperm hf hinj c2 c3 hTb (fun x y => by
      rw [hW, rnk_scr hE', rnk_scr hE']
      rfl)
    have hst : sT W f n t = smF W (fun k => f (pa n t k)) (n - 1) := rfl
    have ebs : bsF (sT W f n) (t + 1) = match sT W f n t with
      | none => bsF (sT W f n) t
      | some v => match bsF (sT W f n) t with
        | none => some (v, t)
        | some (w, u) => if v < w then some (v, t) else some (w, u) := rfl
    -- what follows the choice
    have tail : ∀ (least : Int32) (s2 : Sg), On s' s2 248 → BSm s2 n (bsF (sT W f n) (t + 1)) least → ∃ s3, Scr s1 s3 ∧ RW s3 245 f n ∧ PWm s3 (btN s V H wx wy) f n ∧ ((bsF (sT W f n) (pts n).length = none ∧ (cv s2 9 (some 207) fun a43 => cl (mX9_nextOrder a43 (nI n) s2) fun v41 s42 => r (least, v41) s42) = some (-7, s3)) ∨ ∃ v u q, bsF (sT W f n) (pts n).length = some (v, u) ∧ q.1 = nI v ∧ RW s3 248 (pa n u) n ∧ (cv s2 9 (some 207) fun a43 => cl (mX9_nextOrder a43 (nI n) s2) fun v41 s42 => r (least, v41) s42) = lp (mX9_order_b205 (nI n) q 207 (nI l)) FU 0 s3) := by
      intro least s2 d1 d2
      have hM2 := hM'.on d1
      have hS2 := c1.tr (d1.sc (by omega))
      obtain ⟨e1, e2⟩ := nextOrder_ok hM2 h0 hn (c4.on d1 (by omega)) (fun k hk => by have := (hperm k hk).1; omega)
      rw [c9 hM2.1]
      by_cases hlast : t + 1 = (pts n).length
      · rw [e1 (pa_last h0 hn hlast), cl_some]
        exact hr' _ _ ⟨hS2, c2.on d1 (by omega), c3.w (fun q => d1.2.2.2 _ _ (by omega)), Or.inr ⟨hlast, rfl⟩, d2⟩
      · obtain ⟨b, hb, hb2⟩ := pa_next h0 hn (show t + 1 < (pts n).length by omega)
        obtain ⟨s3, g1, g2, g3⟩ := e2 b hb
        rw [g1, cl_some]
        refine hr' _ _ ⟨hS2.tr (g3.sc (by omega)), (c2.on d1 (by omega)).on g3 (by omega), (c3.w (fun q => d1.2.2.2 _ _ (by omega))).w (fun q => g3.2.2.2 _ _ (by omega)), Or.inl ⟨by omega, rfl, g2.cg hb2⟩, ?_⟩
        dsimp only
        unfold BSm at d2 ⊢
        unfold RW at d2 ⊢
        have e8 : sI s3 248 = sI s2 248 := funext fun q => g3.2.2.2 _ _ (by omega)
        rw [e8]
        exact d2
    unfold mX9_order_b126
    dsimp only
    rw [if_neg (by decide), c9 hN', hsum, cl_some, jn_eq]
    cases hx : smF W (fun k => f (pa n t k)) (n - 1) with
    | none =>
      rw [hst, hx] at ebs
      dsimp only at ebs ⊢
      rw [if_pos (by decide)]
      exact tail q1 s' On.rf (by rw [ebs]; exact c5)
    | some v =>
      have hvb := (smF_b hWb (n - 1) v hx).1
      rw [hst, hx] at ebs
      dsimp only at ebs ⊢
      rw [if_neg (nI_pos (by omega))]
      obtain ⟨⟨sa, x1, x2, x3⟩, ⟨sb, y1, y2, y3⟩⟩ := copyB (t := t) (a := pa n t) (v := nI v) (K := fun q38 s39 => cv s39 9 (some 207) fun a43 => cl (mX9_nextOrder a43 (nI n) s39) fun v41 s42 => r (q38, v41) s42) hM' hn c4
      cases hy : bsF (sT W f n) t with
      | none =>
        rw [hy] at ebs c5
        dsimp only at ebs
        have e : q1 = -1 := c5
        subst e
        rw [if_pos (by decide), x1]
        exact tail (nI v) sa x2 (by rw [ebs]; exact ⟨rfl, x3⟩)
      | some b =>
        obtain ⟨w, u⟩ := b
        rw [hy] at ebs c5
        dsimp only at ebs
        obtain ⟨e, c6⟩ : q1 = nI w ∧ RW s' 248 (pa n u) n := c5
        have hwb := (smF_b hWb (n - 1) w (bsF_sp _ t w u hy).2).1
        subst e
        rw [if_neg (nI_pos (by omega))]
        by_cases hc : v < w
        · rw [if_neg (nI_ge hc (by omega)), y1]
          rw [if_pos hc] at ebs
          exact tail (nI v) sb y2 (by rw [ebs]; exact ⟨rfl, y3⟩)
        · rw [if_pos (nI_le (by omega) (by omega))]
          rw [if_neg hc] at ebs
          exact tail (nI w) s' On.rf (by rw [ebs]; exact ⟨rfl, c6⟩)
/-- the reference's load gets the order -/
theorem mGive {s3 : Sg} {W : Nat → Nat → Nat} {T : Nat → Nat → Nat} {a : Nat → Nat} {q : Int32 × Int32} (hM : M0 s3) (hl : l < 12) (hn : n < 7) (hf : ∀ k, k < n → f k < 20) (ha : ∀ k, k < n → a k < n) (hR : RW s3 245 f n) (hP : PWm s3 T f n) (hA : RW s3 248 a n) (hW : ∀ k, k + 1 < n → a k ≠ a (k + 1) ∧ T (f (a k)) (f (a (k + 1))) ≤ 60 ∧ W (f (a k)) (f (a (k + 1))) = T (f (a k)) (f (a (k + 1)))) : ∃ s4, lp (mX9_order_b205 (nI n) q 207 (nI l)) FU 0 s3 = some (q.1, s4) ∧ sN s4 = sN s3 ∧ sR s4 = sR s3 ∧ sF s4 = sF s3 ∧ (∀ c p, ¬ ((c = 229 ∨ c = 230) ∧ 6 * l ≤ p ∧ p < 6 * l + n) → sI s4 c p = sI s3 c p) ∧ ∀ k, k < n → sI s4 229 (6 * l + k) = nI (f (a k)) ∧ sI s4 230 (6 * l + k) = nI (pzF W (fun k => f (a k)) k) := by
  refine lp_inv (F := mX9_order_b205 (nI n) q 207 (nI l)) (n := n) (I := fun i p s' => p = nI i ∧ sN s' = sN s3 ∧ sR s' = sR s3 ∧ sF s' = sF s3 ∧ (∀ c p, ¬ ((c = 229 ∨ c = 230) ∧ 6 * l ≤ p ∧ p < 6 * l + i) → sI s' c p = sI s3 c p) ∧ ∀ k, k < i → sI s' 229 (6 * l + k) = nI (f (a k)) ∧ sI s' 230 (6 * l + k) = nI (pzF W (fun k => f (a k)) k)) (Q := fun x => ∃ s4, x = some (q.1, s4) ∧ sN s4 = sN s3 ∧ sR s4 = sR s3 ∧ sF s4 = sF s3 ∧ (∀ c p, ¬ ((c = 229 ∨ c = 230) ∧ 6 * l ≤ p ∧ p < 6 * l + n) → sI s4 c p = sI s3 c p) ∧ ∀ k, k < n → sI s4 229 (6 * l + k) = nI (f (a k)) ∧ sI s4 230 (6 * l + k) = nI (pzF W (fun k => f (a k)) k)) (fun p s' r h => ?_) (fun i p s' r hi h hr => ?_) FU 0 (Nat.zero_le _) (show n - 0 < 4000 by omega) _ _ ⟨rfl, rfl, rfl, rfl, fun _ _ _ => rfl, fun k hk => absurd hk (Nat.not_lt_zero k)⟩
  · obtain ⟨rfl, c⟩ := h
    refine ⟨s', ?_, c⟩
    unfold mX9_order_b205
    rw [if_pos (Int32.le_refl _)]
  · obtain ⟨rfl, c1, c2, c3, c4, c5⟩ := h
    have hM' : M0 s' := ⟨c1.trans hM.1, by rw [c2]; exact hM.2⟩
    have hN' := hM'.1
    have hai := ha i hi
    have hl6 : 6 * l + i < 72 := by omega
    have fin : ∀ w : Int32, w = nI (pzF W (fun k => f (a k)) i) → ∃ s4, r (nI (i + 1)) (uI (uI s' 229 (6 * l + i) (nI (f (a i)))) 230 (6 * l + i) w) = some (q.1, s4) ∧ sN s4 = sN s3 ∧ sR s4 = sR s3 ∧ sF s4 = sF s3 ∧ (∀ c p, ¬ ((c = 229 ∨ c = 230) ∧ 6 * l ≤ p ∧ p < 6 * l + n) → sI s4 c p = sI s3 c p) ∧ ∀ k, k < n → sI s4 229 (6 * l + k) = nI (f (a k)) ∧ sI s4 230 (6 * l + k) = nI (pzF W (fun k => f (a k)) k) := fun w hw => by
      refine hr _ _ ⟨rfl, c1, c2, c3, fun c p h => ?_, fun k hk => ?_⟩
      · rw [sI_if, if_neg (by omega), sI_if, if_neg (by omega)]
        exact c4 c p (by omega)
      · rw [sI_ne (show (229 : Nat) ≠ 230 by decide), sI_if, sI_if, sI_ne (show (230 : Nat) ≠ 229 by decide)]
        by_cases hki : k = i
        · subst hki
          rw [if_pos ⟨rfl, rfl⟩, if_pos ⟨rfl, rfl⟩, hw]
          exact ⟨rfl, rfl⟩
        · rw [if_neg (by omega), if_neg (by omega)]
          exact c5 k (by omega)
    have hMu : M0 (uI s' 229 (6 * l + i) (nI (f (a i)))) := hM'.uI
    have hNu := hMu.1
    unfold mX9_order_b205
    rw [if_neg (nI_ge hi (by omega)), mR hM' 23 229 rfl (by decide) (by decide), mR hM' 42 245 rfl (by decide) (by decide), mR hM' 45 248 rfl (by decide) (by decide), alI_n (show i < ln 248 from show i < 6 by omega) (by decide) (by omega), c4 _ _ (by omega), hA i hi, alI_n (show a i < ln 245 from show a i < 6 by omega) (by decide) (by omega), c4 _ _ (by omega), hR _ hai, i6', asI_n (show _ < ln 229 from hl6) (by decide) (by omega), mR hMu 24 230 rfl (by decide) (by decide)]
    cases i with
    | zero =>
      rw [if_neg (show ¬ ¬ nI 0 = 0 by decide), asI_n (show _ < ln 230 from hl6) (by decide) (by omega), nI_1]
      exact fin 1 rfl
    | succ i =>
      obtain ⟨w1, w2, w3⟩ := hW i hi
      have hap := ha i (by omega)
      have h36 : 6 * a i + a (i + 1) < 36 := by omega
      rw [if_pos (nI_ne0 (by omega) (by omega)), mR hMu 43 246 rfl (by decide) (by decide), mR hMu 45 248 rfl (by decide) (by decide), nI_pred, alI_n (show i < ln 248 from show i < 6 by omega) (by decide) (by omega), sI_ne (by decide), c4 _ _ (by omega), hA i (by omega), mR hMu 45 248 rfl (by decide) (by decide), alI_n (show i + 1 < ln 248 from show i + 1 < 6 by omega) (by decide) (by omega), sI_ne (by decide), c4 _ _ (by omega), hA (i + 1) hi, i6', alI_n (show _ < ln 246 from h36) (by decide) (by omega), sI_ne (by decide), c4 _ _ (by omega), hP _ _ hap hai w1, if_pos w2, asI_n (show _ < ln 230 from hl6) (by decide) (by omega), nI_1]
      exact fin _ (by
        unfold pzF
        rw [if_neg (by omega), Nat.add_sub_cancel]
        dsimp only
        rw [w3])
end MORD
