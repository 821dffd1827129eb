theorem hgood : wsL_law.all goodWord = true := by decide +kernel
/-- a loop: its body's own going on is handed to it; the count is used up at the latest behind FU rounds -/
def lp {A X : Type} (F : (A → Sg → Option X) → A → Sg → Option X) : Nat → A → Sg → Option X
  | 0, _, _ => none
  | n + 1, q, s => F (lp F n) q s
def FU : Nat := 4000
/-- where two ways meet: what follows is told once -/
def jn {A X : Type} (f : A → Sg → Option X) (g : (A → Sg → Option X) → Option X) : Option X := g f
def mxI (x y : Int32) : Int32 := if x < y then y else x
def mnI (x y : Int32) : Int32 := if y < x then y else x
def mnL (x y : Int64) : Int64 := if y < x then y else x
def acI {β : Type} (σ : Sg) (x : Option Nat) (sp : Int32) (y : Option Nat) (dp n : Int32) (f : Sg → Option β) : Option β := match x, y with
  | some a, some b => if kd a = 21 ∧ kd b = 21 ∧ a < sN σ ∧ b < sN σ ∧ ¬ sp < 0 ∧ ¬ dp < 0 ∧ ¬ n < 0 ∧ sp.toNatClampNeg + n.toNatClampNeg ≤ ln a ∧ dp.toNatClampNeg + n.toNatClampNeg ≤ ln b ∧ a ≠ b then f (sN σ, (fun c j => if c = b then va_cpy (sI σ a) (sI σ b) sp.toNatClampNeg dp.toNatClampNeg n.toNatClampNeg j else sI σ c j), sR σ, sF σ, sL σ) else none
  | _, _ => none
theorem k_sub {α : Type} {E : EE} {cc : ByteArray} {own : String} {nL : Nat} {ret : Option FieldType} {rv : α → Option Value} {mc ms ce sl pc : Nat} {lv : List (Nat × Lv)} {st : List Lv} {σ : Sg} {x : Option (α × Sg)} {lv' : List (Nat × Lv)} (h : Ok E cc own nL ret) (ks : List Nat) (hk : ks.filterMap (fun k => lv[k]?) = lv') (k : Wq E rv nL mc ms ce sl pc lv' st σ x) : Wq E rv nL mc ms ce sl pc lv st σ x := by
  obtain ⟨p, l, e, R, s, m, args, below, meth, c, B, D, cA, sa⟩ := E
  obtain ⟨hx, hb, hml, hr, ho, ht, hK, hA, hn, hst, hlk⟩ := h
  intro r σ' hxx H locs ls hm hS hl
  exact k r σ' hxx H locs ls hm hS (lq_sub hl ks hk)

theorem k_mmax {α : Type} {E : EE} {cc : ByteArray} {own : String} {nL : Nat} {ret : Option FieldType} {rv : α → Option Value} {mc ms ce sl pc : Nat} {lv : List (Nat × Lv)} {st : List Lv} {σ : Sg} {x : Option (α × Sg)} {a b : Int32} {idx : Nat} (h : Ok E cc own nL ret) (hlk' : Cond.methodLink own idx Lib.Math.max.name ∈ wsL_law) (hstat : Cond.static Lib.Math.max.name ∈ wsL_law) (hini : Cond.initialized "java/lang/Math" ∈ wsL_law) (hcode : Cond.code Lib.Math.max.name Lib.Math.max.code 2 (some .int) ∈ wsL_law) (hfr : 1 ≤ E.2.2.2.1.frames) (hlo : (st.map lcat).sum + 13 ≤ E.2.2.2.1.locals) (hcl : ce ≤ E.2.2.2.1.cells) (hsl : sl ≤ E.2.2.2.1.slots) (hd : decode cc pc = .ok (.invokestatic idx, 3)) (k : Wq E rv nL mc ms ce sl (pc + 3) lv (LI (mxI a b) :: st) σ x) : Wq E rv nL mc ms ce sl pc lv (LI b :: LI a :: st) σ x := by
  obtain ⟨p, l, e, R, s, m, args, below, meth, c, B, D, cA, sa⟩ := E
  obtain ⟨hx, hb, hml, hr, ho, ht, hK, hA, hn, hst, hlk⟩ := h
  intro r σ' hxx H locs ls hm hS hl
  have hcat : ((st.map (tvl B sa)).map fun v => v.category).sum = (st.map lcat).sum := by
    rw [List.map_map]
    exact congrArg (fun f => (st.map f).sum) (funext fun v => tvl_cat B sa v)
  exact va_mmax hx hb (hml.trans hl.1.symm) ho (ht _ hlk') (ht _ hstat) (ht _ hini) (ht _ hcode) hfr (by rw [hcat]; exact hlo) hcl hsl hd (k r σ' hxx H locs ls hm hS hl)

theorem k_mmin {α : Type} {E : EE} {cc : ByteArray} {own : String} {nL : Nat} {ret : Option FieldType} {rv : α → Option Value} {mc ms ce sl pc : Nat} {lv : List (Nat × Lv)} {st : List Lv} {σ : Sg} {x : Option (α × Sg)} {a b : Int32} {idx : Nat} (h : Ok E cc own nL ret) (hlk' : Cond.methodLink own idx Lib.Math.min.name ∈ wsL_law) (hstat : Cond.static Lib.Math.min.name ∈ wsL_law) (hini : Cond.initialized "java/lang/Math" ∈ wsL_law) (hcode : Cond.code Lib.Math.min.name Lib.Math.min.code 2 (some .int) ∈ wsL_law) (hfr : 1 ≤ E.2.2.2.1.frames) (hlo : (st.map lcat).sum + 13 ≤ E.2.2.2.1.locals) (hcl : ce ≤ E.2.2.2.1.cells) (hsl : sl ≤ E.2.2.2.1.slots) (hd : decode cc pc = .ok (.invokestatic idx, 3)) (k : Wq E rv nL mc ms ce sl (pc + 3) lv (LI (mnI a b) :: st) σ x) : Wq E rv nL mc ms ce sl pc lv (LI b :: LI a :: st) σ x := by
  obtain ⟨p, l, e, R, s, m, args, below, meth, c, B, D, cA, sa⟩ := E
  obtain ⟨hx, hb, hml, hr, ho, ht, hK, hA, hn, hst, hlk⟩ := h
  intro r σ' hxx H locs ls hm hS hl
  have hcat : ((st.map (tvl B sa)).map fun v => v.category).sum = (st.map lcat).sum := by
    rw [List.map_map]
    exact congrArg (fun f => (st.map f).sum) (funext fun v => tvl_cat B sa v)
  exact va_mmin hx hb (hml.trans hl.1.symm) ho (ht _ hlk') (ht _ hstat) (ht _ hini) (ht _ hcode) hfr (by rw [hcat]; exact hlo) hcl hsl hd (k r σ' hxx H locs ls hm hS hl)

theorem k_mminl {α : Type} {E : EE} {cc : ByteArray} {own : String} {nL : Nat} {ret : Option FieldType} {rv : α → Option Value} {mc ms ce sl pc : Nat} {lv : List (Nat × Lv)} {st : List Lv} {σ : Sg} {x : Option (α × Sg)} {a b : Int64} {idx : Nat} (h : Ok E cc own nL ret) (hlk' : Cond.methodLink own idx Lib.MathLoose.min_long.x ∈ wsL_law) (hstat : Cond.static Lib.MathLoose.min_long.x ∈ wsL_law) (hini : Cond.initialized "java/lang/Math" ∈ wsL_law) (hcode : Cond.code Lib.MathLoose.min_long.x Lib.MathLoose.min_long.code 4 (some .long) ∈ wsL_law) (hfr : 1 ≤ E.2.2.2.1.frames) (hlo : (st.map lcat).sum + 15 ≤ E.2.2.2.1.locals) (hcl : ce ≤ E.2.2.2.1.cells) (hsl : sl ≤ E.2.2.2.1.slots) (hd : decode cc pc = .ok (.invokestatic idx, 3)) (k : Wq E rv nL mc ms ce sl (pc + 3) lv (LL (mnL a b) :: st) σ x) : Wq E rv nL mc ms ce sl pc lv (LL b :: LL a :: st) σ x := by
  obtain ⟨p, l, e, R, s, m, args, below, meth, c, B, D, cA, sa⟩ := E
  obtain ⟨hx, hb, hml, hr, ho, ht, hK, hA, hn, hst, hlk⟩ := h
  intro r σ' hxx H locs ls hm hS hl
  have hcat : ((st.map (tvl B sa)).map fun v => v.category).sum = (st.map lcat).sum := by
    rw [List.map_map]
    exact congrArg (fun f => (st.map f).sum) (funext fun v => tvl_cat B sa v)
  exact va_mmin_long hx hb (hml.trans hl.1.symm) ho (ht _ hlk') (ht _ hstat) (ht _ hini) (ht _ hcode) hfr (by rw [hcat]; exact hlo) hcl hsl hd (k r σ' hxx H locs ls hm hS hl)

theorem acpyW {p : Program} {l : Launch} {e : Env} {R : Room} {s : State} {m : MethodId} {args : Array Value} {below : List Frame} {meth : Method} {c : Code} {H : Heap} {locs : List Loc} {ce sl : Nat} {Q : State → Prop} {cc : ByteArray} {pc : Nat} {ls : Array Slot} {rest : List Value} {B : Nat} {D : va_G} {cA : Nat → ClassId} {σ : Sg} {own : String} {idx : Nat} (hx : p.tables.exec = Jvm.exec) (hb : c.code = cc) (hml : c.maxLocals = ls.size) (ho : s.vm.findClass own = some m.cls) (hlk : (Cond.methodLink own idx arraycopyName).before args s = true) (hnat : (Cond.native arraycopyName).before args s = true) (hstat : (Cond.static arraycopyName).before args s = true) (hini : (Cond.initialized "java/lang/System").before args s = true) (hA : arK cA s) (hm : Hm B D cA σ H) (hS : va_S (fun q => B ≤ q) s.heap H locs) {a b : Nat} (z1 : kd a = 21) (z2 : kd b = 21) (z3 : a < sN σ) (z4 : b < sN σ) {sp dp n : Int32} (z5 : ¬ sp < 0) (z6 : ¬ dp < 0) (z7 : ¬ n < 0) (z8 : sp.toNatClampNeg + n.toNatClampNeg ≤ ln a) (z9 : dp.toNatClampNeg + n.toNatClampNeg ≤ ln b) (z10 : a ≠ b) (hfr : 1 ≤ R.frames) (hlo : (rest.map fun v => v.category).sum + (nativeFrameWords "java/lang/System" "arraycopy" 5 + 11) ≤ R.locals) (hd : decode cc pc = .ok (.invokestatic idx, 3))
    (kk : ∀ (H1 : Heap) (locs1 : List Loc), Hm B D cA (sN σ, (fun c j => if c = b then va_cpy (sI σ a) (sI σ b) sp.toNatClampNeg dp.toNatClampNeg n.toNatClampNeg j else sI σ c j), sR σ, sF σ, sL σ) H1 → va_S (fun q => B ≤ q) s.heap H1 locs1 → W p l e R s m args below meth c H1 locs1 ce sl Q (F0 m (pc + 3) ls rest)) : W p l e R s m args below meth c H locs ce sl Q (F0 m pc ls (.int n :: .int dp :: .ref (B + b) :: .int sp :: .ref (B + a) :: rest)) := by
  have nn : ∀ z : Int32, ¬ z < 0 → z.toInt = (z.toNatClampNeg : Int) := by
    intro z hz
    have hz0 : (0 : Int) ≤ z.toInt := by
      have := Int32.not_lt.mp hz
      simpa using Int32.le_iff_toInt_le.mp this
    show z.toInt = ((z.toInt.toNat : Nat) : Int)
    omega
  intro T hT X
  have ha := hm.2 a z3
  have hbb := hm.2 b z4
  rw [cel_i z1] at ha
  rw [cel_i z2] at hbb
  have hc0 : H[B + a]? = some (vp_cell (cA 1) (ln a, .inl (sI σ a))) := ha
  have hc1 : H[B + b]? = some (vp_cell (cA 1) (ln b, .inl (sI σ b))) := hbb
  obtain ⟨-, k0, hk0, cm0, hkk0⟩ := (hA 1 rfl).1 (ln a) (fun j => .int (sI σ a j))
  obtain ⟨-, k1, hk1, cm1, hkk1⟩ := (hA 1 rfl).1 (ln b) (fun j => .int (sI σ b j))
  obtain ⟨vm', X', step⟩ := X.arraycopy hx ho hlk hnat hstat hini (src := B + a) (dst := B + b) (cs := vp_cell (cA 1) (ln a, .inl (sI σ a))) (cd := vp_cell (cA 1) (ln b, .inl (sI σ b))) (srcPos := sp) (destPos := dp) (n := n) (by rw [hT]; exact hc0) (by rw [hT]; exact hc1)
    (fun _ h => by cases h) (fun _ h => by cases h) (fun h => by cases h) (fun h => by cases h) hk0 hk1 hkk0 hkk1 (by simp [aty, refKind]) z5 z6 z7
    (by rw [nn sp z5, nn n z7]; show ¬ _ > ((arrV (cA 1) (ln a) (fun j => .int (sI σ a j))).slots.size : Int); rw [arrV_size]; omega)
    (by rw [nn dp z6, nn n z7]; show ¬ _ > ((arrV (cA 1) (ln b) (fun j => .int (sI σ b j))).slots.size : Int); rw [arrV_size]; omega)
    (fun vm₁ _ i hi => by
      have e : (vp_cell (cA 1) (ln a, .inl (sI σ a))).slots.getD (sp.toNatClampNeg + i) .null = .int (sI σ a (sp.toNatClampNeg + i)) := by
        show (arrV (cA 1) (ln a) (fun j => .int (sI σ a j))).slots.getD _ _ = _
        rw [Array.getD_eq_getD_getElem?, arrV_read _ _ (by omega)]
        rfl
      refine ⟨?_, ?_⟩
      · rw [e]
        rfl
      · rw [e]
        exact trivial)
    (g := F0 m pc ls (.int n :: .int dp :: .ref (B + b) :: .int sp :: .ref (B + a) :: rest)) rfl (by rw [hml]) (rest := rest) rfl (by rw [hb]; exact hd) hfr (by show 2 * 0 + _ + _ ≤ _; omega)
  have e1 : copied (vp_cell (cA 1) (ln a, .inl (sI σ a))) (vp_cell (cA 1) (ln b, .inl (sI σ b))) sp dp n = vp_cell (cA 1) (ln b, .inl (va_cpy (sI σ a) (sI σ b) sp.toNatClampNeg dp.toNatClampNeg n.toNatClampNeg)) := va_copied (fun z => .int z) (cA 1) (cA 1) (sI σ a) (sI σ b) z8
  rw [e1] at X' step
  have hl : B + b < H.size := (Array.getElem?_eq_some_iff.mp hc1).1
  have hheap : ((T.setVm vm').setCell (B + b) (vp_cell (cA 1) (ln b, .inl (va_cpy (sI σ a) (sI σ b) sp.toNatClampNeg dp.toNatClampNeg n.toNatClampNeg)))).heap = H.setIfInBounds (B + b) (vp_cell (cA 1) (ln b, .inl (va_cpy (sI σ a) (sI σ b) sp.toNatClampNeg dp.toNatClampNeg n.toNatClampNeg))) := by rw [← hT]; rfl
  have oq : ∀ q : Nat, q ≠ B + b → (H.setIfInBounds (B + b) (vp_cell (cA 1) (ln b, .inl (va_cpy (sI σ a) (sI σ b) sp.toNatClampNeg dp.toNatClampNeg n.toNatClampNeg))))[q]? = H[q]? := fun q hq => by simp [Array.getElem?_setIfInBounds, Ne.symm hq]
  have hm1 : Hm B D cA (sN σ, (fun c j => if c = b then va_cpy (sI σ a) (sI σ b) sp.toNatClampNeg dp.toNatClampNeg n.toNatClampNeg j else sI σ c j), sR σ, sF σ, sL σ) (H.setIfInBounds (B + b) (vp_cell (cA 1) (ln b, .inl (va_cpy (sI σ a) (sI σ b) sp.toNatClampNeg dp.toNatClampNeg n.toNatClampNeg)))) := by
    refine hm.set (a := b) rfl ?_ (fun d hd => ?_) (by simp) oq
    · rw [cel_i z2]
      show (H.setIfInBounds (B + b) _)[B + b]? = some _
      simp [Array.getElem?_setIfInBounds, hl, sI]
    · have e2 : (fun j => if d = b then va_cpy (sI σ a) (sI σ b) sp.toNatClampNeg dp.toNatClampNeg n.toNatClampNeg j else sI σ d j) = sI σ d := by funext j; rw [if_neg hd]
      simp only [cel, tv, sI, sR, sF, sL, hd, if_false]
  obtain ⟨t, a1, b1⟩ := kk _ _ hm1 ⟨by simp; exact hS.1, fun q g1 g2 => by
      rw [oq q (fun e => g2 (by rw [e]; show B ≤ B + b; omega))]
      exact hS.2.1 q g1 g2, fun q hq => by
      rcases List.mem_append.mp hq with h | h
      · exact hS.2.2 q h
      · obtain ⟨z, -, hz⟩ := List.mem_map.mp h
        rw [← hz]
        show B ≤ B + b
        omega⟩ _ hheap X'
  exact ⟨t, step t a1, b1⟩
theorem k_acpy {α : Type} {E : EE} {cc : ByteArray} {own : String} {nL : Nat} {ret : Option FieldType} {rv : α → Option Value} {mc ms ce sl pc : Nat} {lv : List (Nat × Lv)} {st : List Lv} {σ : Sg} {x y : Option Nat} {sp dp n : Int32} {idx : Nat} {f : Sg → Option (α × Sg)} (h : Ok E cc own nL ret) (hlk' : Cond.methodLink own idx arraycopyName ∈ wsL_law) (hnat : Cond.native arraycopyName ∈ wsL_law) (hstat : Cond.static arraycopyName ∈ wsL_law) (hini : Cond.initialized "java/lang/System" ∈ wsL_law) (hfr : 1 ≤ E.2.2.2.1.frames) (hlo : (st.map lcat).sum + (nativeFrameWords "java/lang/System" "arraycopy" 5 + 11) ≤ E.2.2.2.1.locals) (hd : decode cc pc = .ok (.invokestatic idx, 3)) (k : ∀ σ1, Wq E rv nL mc ms ce sl (pc + 3) lv st σ1 (f σ1)) : Wq E rv nL mc ms ce sl pc lv (LI n :: LI dp :: LR y :: LI sp :: LR x :: st) σ (acI σ x sp y dp n f) := by
  obtain ⟨p, l, e, R, s, m, args, below, meth, c, B, D, cA, sa⟩ := E
  obtain ⟨hx, hb, hml, hr, ho, ht, hK, hA, hn, hst, hlk⟩ := h
  intro r σ' hxx H locs ls hm hS hl
  cases x with
  | none => simp [acI] at hxx
  | some a =>
    cases y with
    | none => simp [acI] at hxx
    | some b =>
      simp only [acI] at hxx
      by_cases hz : kd a = 21 ∧ kd b = 21 ∧ a < sN σ ∧ b < sN σ ∧ ¬ sp < 0 ∧ ¬ dp < 0 ∧ ¬ n < 0 ∧ sp.toNatClampNeg + n.toNatClampNeg ≤ ln a ∧ dp.toNatClampNeg + n.toNatClampNeg ≤ ln b ∧ a ≠ b
      · rw [if_pos hz] at hxx
        obtain ⟨z1, z2, z3, z4, z5, z6, z7, z8, z9, z10⟩ := hz
        have hcat : ((st.map (tvl B sa)).map fun v => v.category).sum = (st.map lcat).sum := by
          rw [List.map_map]
          exact congrArg (fun f => (st.map f).sum) (funext fun v => tvl_cat B sa v)
        have ha := hm.2 a z3
        have hbb := hm.2 b z4
        rw [cel_i z1] at ha
        rw [cel_i z2] at hbb
        exact acpyW hx hb (hml.trans hl.1.symm) ho (ht _ hlk') (ht _ hnat) (ht _ hstat) (ht _ hini) hA hm hS z1 z2 z3 z4 z5 z6 z7 z8 z9 z10 hfr (by rw [hcat]; exact hlo) hd (fun H1 locs1 hm1 hS1 => k _ r σ' hxx H1 locs1 ls hm1 hS1 hl)
      · rw [if_neg hz] at hxx; cases hxx

theorem k_lp {α : Type} {A : Type} {E : EE} {rv : α → Option Value} {nL mc ms ce sl pc : Nat} {F : (A → Sg → Option (α × Sg)) → A → Sg → Option (α × Sg)} (lv : A → List (Nat × Lv)) (st : A → List Lv) (hF : ∀ rec, (∀ q s, Wq E rv nL mc ms ce sl pc (lv q) (st q) s (rec q s)) → ∀ q s, Wq E rv nL mc ms ce sl pc (lv q) (st q) s (F rec q s)) : ∀ n q s, Wq E rv nL mc ms ce sl pc (lv q) (st q) s (lp F n q s) := by
  intro n
  induction n with
  | zero =>
    intro q s
    obtain ⟨p, l, e, R, s0, m, args, below, meth, c, B, D, cA, sa⟩ := E
    intro r σ' hxx
    cases hxx
  | succ n ih =>
    intro q s
    exact hF (lp F n) ih q s
theorem k_jn {α : Type} {A : Type} {E : EE} {rv : α → Option Value} {nL mc ms ce sl pc J : Nat} {lv0 : List (Nat × Lv)} {st0 : List Lv} {σ : Sg} {f : A → Sg → Option (α × Sg)} {g : (A → Sg → Option (α × Sg)) → Option (α × Sg)} (lv : A → List (Nat × Lv)) (st : A → List Lv) (hf : ∀ q s, Wq E rv nL mc ms ce sl J (lv q) (st q) s (f q s)) (hg : ∀ j, (∀ q s, Wq E rv nL mc ms ce sl J (lv q) (st q) s (j q s)) → Wq E rv nL mc ms ce sl pc lv0 st0 σ (g j)) : Wq E rv nL mc ms ce sl pc lv0 st0 σ (jn f g) := hg f hf
section WRAP
variable {α : Type} {p : Program} {l : Launch} {e : Env} {R : Room} {s : State} {m : MethodId} {args : Array Value} {below : List Frame} {meth : Method} {c : Code} {B : Nat} {D : va_G} {cA : Nat → ClassId} {sa : Nat → Nat} {cc : ByteArray} {own : String} {nL : Nat} {ret : Option FieldType} {rv : α → Option Value} {mc ms ce sl pc : Nat} {lv : List (Nat × Lv)} {σ : Sg}
theorem k_callVI {y : MethodName} {cy : ByteArray} {ny : Nat} {ry : Option FieldType} {rm : Room} {As st stk : List Lv} {x0 : Option Nat} {c0 N0 : Nat} {C0 : String} {T0 : u_T} {idx mc1 ms1 : Nat} {xg : Nat → Option (Int32 × Sg)} {f : Int32 → Sg → Option (α × Sg)} (h : Ok (p, l, e, R, s, m, args, below, meth, c, B, D, cA, sa) cc own nL ret) (hC : ∀ a, Ct l B D cA sa y cy ny ry rm rI (LR (some a) :: As) σ mc1 ms1 (xg a)) (hcal : Cal y cy ny ry As.length) (hcl : vwCl[c0]? = some (C0, T0, N0)) (hc20 : c0 < 20) (hinst : Cond.instanceMethod y ∈ wsL_law) (hsel : Cond.selects C0 y y ∈ wsL_law) (hlk : LkM own idx y) (hg : wsL_law.all goodWord = true) (hrm : rm.cells = mc1 ∧ rm.slots = ms1 ∧ rm.frames + 1 ≤ R.frames ∧ 8 + (ny + 11) + rm.locals ≤ R.locals) (hR : ce + mc1 ≤ R.cells ∧ sl + ms1 ≤ R.slots) (hstk : As.reverse ++ LR x0 :: st = stk) (hcat : (st.map lcat).sum ≤ 8) (hd : decode cc pc = .ok (.invokevirtual idx, 3))
    (k : ∀ v σ1, Wq (p, l, e, R, s, m, args, below, meth, c, B, D, cA, sa) rv nL mc ms (ce + mc1) (sl + ms1) (pc + 3) lv (LI v :: st) σ1 (f v σ1)) : Wq (p, l, e, R, s, m, args, below, meth, c, B, D, cA, sa) rv nL mc ms ce sl pc lv stk σ (cv σ c0 x0 (fun a => cl (xg a) f)) := k_callV (toL := fun v => [LI v]) h hC (fun v => rfl) hcal hcl hc20 hinst hsel hlk hg hrm hR hstk hcat hd k
theorem k_callVR {y : MethodName} {cy : ByteArray} {ny : Nat} {ry : Option FieldType} {rm : Room} {As st stk : List Lv} {x0 : Option Nat} {c0 N0 : Nat} {C0 : String} {T0 : u_T} {idx mc1 ms1 : Nat} {xg : Nat → Option (Option Nat × Sg)} {f : Option Nat → Sg → Option (α × Sg)} (h : Ok (p, l, e, R, s, m, args, below, meth, c, B, D, cA, sa) cc own nL ret) (hC : ∀ a, Ct l B D cA sa y cy ny ry rm (rR B) (LR (some a) :: As) σ mc1 ms1 (xg a)) (hcal : Cal y cy ny ry As.length) (hcl : vwCl[c0]? = some (C0, T0, N0)) (hc20 : c0 < 20) (hinst : Cond.instanceMethod y ∈ wsL_law) (hsel : Cond.selects C0 y y ∈ wsL_law) (hlk : LkM own idx y) (hg : wsL_law.all goodWord = true) (hrm : rm.cells = mc1 ∧ rm.slots = ms1 ∧ rm.frames + 1 ≤ R.frames ∧ 8 + (ny + 11) + rm.locals ≤ R.locals) (hR : ce + mc1 ≤ R.cells ∧ sl + ms1 ≤ R.slots) (hstk : As.reverse ++ LR x0 :: st = stk) (hcat : (st.map lcat).sum ≤ 8) (hd : decode cc pc = .ok (.invokevirtual idx, 3))
    (k : ∀ v σ1, Wq (p, l, e, R, s, m, args, below, meth, c, B, D, cA, sa) rv nL mc ms (ce + mc1) (sl + ms1) (pc + 3) lv (LR v :: st) σ1 (f v σ1)) : Wq (p, l, e, R, s, m, args, below, meth, c, B, D, cA, sa) rv nL mc ms ce sl pc lv stk σ (cv σ c0 x0 (fun a => cl (xg a) f)) := k_callV (toL := fun v => [LR v]) h hC (fun v => rfl) hcal hcl hc20 hinst hsel hlk hg hrm hR hstk hcat hd k
theorem k_callVL {y : MethodName} {cy : ByteArray} {ny : Nat} {ry : Option FieldType} {rm : Room} {As st stk : List Lv} {x0 : Option Nat} {c0 N0 : Nat} {C0 : String} {T0 : u_T} {idx mc1 ms1 : Nat} {xg : Nat → Option (Int64 × Sg)} {f : Int64 → Sg → Option (α × Sg)} (h : Ok (p, l, e, R, s, m, args, below, meth, c, B, D, cA, sa) cc own nL ret) (hC : ∀ a, Ct l B D cA sa y cy ny ry rm rL (LR (some a) :: As) σ mc1 ms1 (xg a)) (hcal : Cal y cy ny ry As.length) (hcl : vwCl[c0]? = some (C0, T0, N0)) (hc20 : c0 < 20) (hinst : Cond.instanceMethod y ∈ wsL_law) (hsel : Cond.selects C0 y y ∈ wsL_law) (hlk : LkM own idx y) (hg : wsL_law.all goodWord = true) (hrm : rm.cells = mc1 ∧ rm.slots = ms1 ∧ rm.frames + 1 ≤ R.frames ∧ 8 + (ny + 11) + rm.locals ≤ R.locals) (hR : ce + mc1 ≤ R.cells ∧ sl + ms1 ≤ R.slots) (hstk : As.reverse ++ LR x0 :: st = stk) (hcat : (st.map lcat).sum ≤ 8) (hd : decode cc pc = .ok (.invokevirtual idx, 3))
    (k : ∀ v σ1, Wq (p, l, e, R, s, m, args, below, meth, c, B, D, cA, sa) rv nL mc ms (ce + mc1) (sl + ms1) (pc + 3) lv (LL v :: st) σ1 (f v σ1)) : Wq (p, l, e, R, s, m, args, below, meth, c, B, D, cA, sa) rv nL mc ms ce sl pc lv stk σ (cv σ c0 x0 (fun a => cl (xg a) f)) := k_callV (toL := fun v => [LL v]) h hC (fun v => rfl) hcal hcl hc20 hinst hsel hlk hg hrm hR hstk hcat hd k
theorem k_callVF {y : MethodName} {cy : ByteArray} {ny : Nat} {ry : Option FieldType} {rm : Room} {As st stk : List Lv} {x0 : Option Nat} {c0 N0 : Nat} {C0 : String} {T0 : u_T} {idx mc1 ms1 : Nat} {xg : Nat → Option (UInt32 × Sg)} {f : UInt32 → Sg → Option (α × Sg)} (h : Ok (p, l, e, R, s, m, args, below, meth, c, B, D, cA, sa) cc own nL ret) (hC : ∀ a, Ct l B D cA sa y cy ny ry rm rF (LR (some a) :: As) σ mc1 ms1 (xg a)) (hcal : Cal y cy ny ry As.length) (hcl : vwCl[c0]? = some (C0, T0, N0)) (hc20 : c0 < 20) (hinst : Cond.instanceMethod y ∈ wsL_law) (hsel : Cond.selects C0 y y ∈ wsL_law) (hlk : LkM own idx y) (hg : wsL_law.all goodWord = true) (hrm : rm.cells = mc1 ∧ rm.slots = ms1 ∧ rm.frames + 1 ≤ R.frames ∧ 8 + (ny + 11) + rm.locals ≤ R.locals) (hR : ce + mc1 ≤ R.cells ∧ sl + ms1 ≤ R.slots) (hstk : As.reverse ++ LR x0 :: st = stk) (hcat : (st.map lcat).sum ≤ 8) (hd : decode cc pc = .ok (.invokevirtual idx, 3))
    (k : ∀ v σ1, Wq (p, l, e, R, s, m, args, below, meth, c, B, D, cA, sa) rv nL mc ms (ce + mc1) (sl + ms1) (pc + 3) lv (LF v :: st) σ1 (f v σ1)) : Wq (p, l, e, R, s, m, args, below, meth, c, B, D, cA, sa) rv nL mc ms ce sl pc lv stk σ (cv σ c0 x0 (fun a => cl (xg a) f)) := k_callV (toL := fun v => [LF v]) h hC (fun v => rfl) hcal hcl hc20 hinst hsel hlk hg hrm hR hstk hcat hd k
theorem k_callVU {y : MethodName} {cy : ByteArray} {ny : Nat} {ry : Option FieldType} {rm : Room} {As st stk : List Lv} {x0 : Option Nat} {c0 N0 : Nat} {C0 : String} {T0 : u_T} {idx mc1 ms1 : Nat} {xg : Nat → Option (Unit × Sg)} {f : Unit → Sg → Option (α × Sg)} (h : Ok (p, l, e, R, s, m, args, below, meth, c, B, D, cA, sa) cc own nL ret) (hC : ∀ a, Ct l B D cA sa y cy ny ry rm rU (LR (some a) :: As) σ mc1 ms1 (xg a)) (hcal : Cal y cy ny ry As.length) (hcl : vwCl[c0]? = some (C0, T0, N0)) (hc20 : c0 < 20) (hinst : Cond.instanceMethod y ∈ wsL_law) (hsel : Cond.selects C0 y y ∈ wsL_law) (hlk : LkM own idx y) (hg : wsL_law.all goodWord = true) (hrm : rm.cells = mc1 ∧ rm.slots = ms1 ∧ rm.frames + 1 ≤ R.frames ∧ 8 + (ny + 11) + rm.locals ≤ R.locals) (hR : ce + mc1 ≤ R.cells ∧ sl + ms1 ≤ R.slots) (hstk : As.reverse ++ LR x0 :: st = stk) (hcat : (st.map lcat).sum ≤ 8) (hd : decode cc pc = .ok (.invokevirtual idx, 3))
    (k : ∀ v σ1, Wq (p, l, e, R, s, m, args, below, meth, c, B, D, cA, sa) rv nL mc ms (ce + mc1) (sl + ms1) (pc + 3) lv st σ1 (f v σ1)) : Wq (p, l, e, R, s, m, args, below, meth, c, B, D, cA, sa) rv nL mc ms ce sl pc lv stk σ (cv σ c0 x0 (fun a => cl (xg a) f)) := k_callV (toL := fun _ => []) h hC (fun v => rfl) hcal hcl hc20 hinst hsel hlk hg hrm hR hstk hcat hd k
theorem k_callSI {y : MethodName} {cy : ByteArray} {ny : Nat} {ry : Option FieldType} {rm : Room} {As st stk : List Lv} {idx mc1 ms1 : Nat} {xg : Option (Int32 × Sg)} {f : Int32 → Sg → Option (α × Sg)} (h : Ok (p, l, e, R, s, m, args, below, meth, c, B, D, cA, sa) cc own nL ret) (hC : Ct l B D cA sa y cy ny ry rm rI As σ mc1 ms1 xg) (hcal : Cal y cy ny ry As.length) (hstat : Cond.static y ∈ wsL_law) (hlk : LkM own idx y) (hg : wsL_law.all goodWord = true) (hrm : rm.cells = mc1 ∧ rm.slots = ms1 ∧ rm.frames + 1 ≤ R.frames ∧ 8 + (ny + 11) + rm.locals ≤ R.locals) (hR : ce + mc1 ≤ R.cells ∧ sl + ms1 ≤ R.slots) (hstk : As.reverse ++ st = stk) (hcat : (st.map lcat).sum ≤ 8) (hd : decode cc pc = .ok (.invokestatic idx, 3))
    (k : ∀ v σ1, Wq (p, l, e, R, s, m, args, below, meth, c, B, D, cA, sa) rv nL mc ms (ce + mc1) (sl + ms1) (pc + 3) lv (LI v :: st) σ1 (f v σ1)) : Wq (p, l, e, R, s, m, args, below, meth, c, B, D, cA, sa) rv nL mc ms ce sl pc lv stk σ (cl xg f) := k_callS (toL := fun v => [LI v]) h hC (fun v => rfl) hcal hstat hlk hg hrm hR hstk hcat hd k
theorem k_callSR {y : MethodName} {cy : ByteArray} {ny : Nat} {ry : Option FieldType} {rm : Room} {As st stk : List Lv} {idx mc1 ms1 : Nat} {xg : Option (Option Nat × Sg)} {f : Option Nat → Sg → Option (α × Sg)} (h : Ok (p, l, e, R, s, m, args, below, meth, c, B, D, cA, sa) cc own nL ret) (hC : Ct l B D cA sa y cy ny ry rm (rR B) As σ mc1 ms1 xg) (hcal : Cal y cy ny ry As.length) (hstat : Cond.static y ∈ wsL_law) (hlk : LkM own idx y) (hg : wsL_law.all goodWord = true) (hrm : rm.cells = mc1 ∧ rm.slots = ms1 ∧ rm.frames + 1 ≤ R.frames ∧ 8 + (ny + 11) + rm.locals ≤ R.locals) (hR : ce + mc1 ≤ R.cells ∧ sl + ms1 ≤ R.slots) (hstk : As.reverse ++ st = stk) (hcat : (st.map lcat).sum ≤ 8) (hd : decode cc pc = .ok (.invokestatic idx, 3))
    (k : ∀ v σ1, Wq (p, l, e, R, s, m, args, below, meth, c, B, D, cA, sa) rv nL mc ms (ce + mc1) (sl + ms1) (pc + 3) lv (LR v :: st) σ1 (f v σ1)) : Wq (p, l, e, R, s, m, args, below, meth, c, B, D, cA, sa) rv nL mc ms ce sl pc lv stk σ (cl xg f) := k_callS (toL := fun v => [LR v]) h hC (fun v => rfl) hcal hstat hlk hg hrm hR hstk hcat hd k
theorem k_callSL {y : MethodName} {cy : ByteArray} {ny : Nat} {ry : Option FieldType} {rm : Room} {As st stk : List Lv} {idx mc1 ms1 : Nat} {xg : Option (Int64 × Sg)} {f : Int64 → Sg → Option (α × Sg)} (h : Ok (p, l, e, R, s, m, args, below, meth, c, B, D, cA, sa) cc own nL ret) (hC : Ct l B D cA sa y cy ny ry rm rL As σ mc1 ms1 xg) (hcal : Cal y cy ny ry As.length) (hstat : Cond.static y ∈ wsL_law) (hlk : LkM own idx y) (hg : wsL_law.all goodWord = true) (hrm : rm.cells = mc1 ∧ rm.slots = ms1 ∧ rm.frames + 1 ≤ R.frames ∧ 8 + (ny + 11) + rm.locals ≤ R.locals) (hR : ce + mc1 ≤ R.cells ∧ sl + ms1 ≤ R.slots) (hstk : As.reverse ++ st = stk) (hcat : (st.map lcat).sum ≤ 8) (hd : decode cc pc = .ok (.invokestatic idx, 3))
    (k : ∀ v σ1, Wq (p, l, e, R, s, m, args, below, meth, c, B, D, cA, sa) rv nL mc ms (ce + mc1) (sl + ms1) (pc + 3) lv (LL v :: st) σ1 (f v σ1)) : Wq (p, l, e, R, s, m, args, below, meth, c, B, D, cA, sa) rv nL mc ms ce sl pc lv stk σ (cl xg f) := k_callS (toL := fun v => [LL v]) h hC (fun v => rfl) hcal hstat hlk hg hrm hR hstk hcat hd k
theorem k_callSF {y : MethodName} {cy : ByteArray} {ny : Nat} {ry : Option FieldType} {rm : Room} {As st stk : List Lv} {idx mc1 ms1 : Nat} {xg : Option (UInt32 × Sg)} {f : UInt32 → Sg → Option (α × Sg)} (h : Ok (p, l, e, R, s, m, args, below, meth, c, B, D, cA, sa) cc own nL ret) (hC : Ct l B D cA sa y cy ny ry rm rF As σ mc1 ms1 xg) (hcal : Cal y cy ny ry As.length) (hstat : Cond.static y ∈ wsL_law) (hlk : LkM own idx y) (hg : wsL_law.all goodWord = true) (hrm : rm.cells = mc1 ∧ rm.slots = ms1 ∧ rm.frames + 1 ≤ R.frames ∧ 8 + (ny + 11) + rm.locals ≤ R.locals) (hR : ce + mc1 ≤ R.cells ∧ sl + ms1 ≤ R.slots) (hstk : As.reverse ++ st = stk) (hcat : (st.map lcat).sum ≤ 8) (hd : decode cc pc = .ok (.invokestatic idx, 3))
    (k : ∀ v σ1, Wq (p, l, e, R, s, m, args, below, meth, c, B, D, cA, sa) rv nL mc ms (ce + mc1) (sl + ms1) (pc + 3) lv (LF v :: st) σ1 (f v σ1)) : Wq (p, l, e, R, s, m, args, below, meth, c, B, D, cA, sa) rv nL mc ms ce sl pc lv stk σ (cl xg f) := k_callS (toL := fun v => [LF v]) h hC (fun v => rfl) hcal hstat hlk hg hrm hR hstk hcat hd k
theorem k_callSU {y : MethodName} {cy : ByteArray} {ny : Nat} {ry : Option FieldType} {rm : Room} {As st stk : List Lv} {idx mc1 ms1 : Nat} {xg : Option (Unit × Sg)} {f : Unit → Sg → Option (α × Sg)} (h : Ok (p, l, e, R, s, m, args, below, meth, c, B, D, cA, sa) cc own nL ret) (hC : Ct l B D cA sa y cy ny ry rm rU As σ mc1 ms1 xg) (hcal : Cal y cy ny ry As.length) (hstat : Cond.static y ∈ wsL_law) (hlk : LkM own idx y) (hg : wsL_law.all goodWord = true) (hrm : rm.cells = mc1 ∧ rm.slots = ms1 ∧ rm.frames + 1 ≤ R.frames ∧ 8 + (ny + 11) + rm.locals ≤ R.locals) (hR : ce + mc1 ≤ R.cells ∧ sl + ms1 ≤ R.slots) (hstk : As.reverse ++ st = stk) (hcat : (st.map lcat).sum ≤ 8) (hd : decode cc pc = .ok (.invokestatic idx, 3))
    (k : ∀ v σ1, Wq (p, l, e, R, s, m, args, below, meth, c, B, D, cA, sa) rv nL mc ms (ce + mc1) (sl + ms1) (pc + 3) lv st σ1 (f v σ1)) : Wq (p, l, e, R, s, m, args, below, meth, c, B, D, cA, sa) rv nL mc ms ce sl pc lv stk σ (cl xg f) := k_callS (toL := fun _ => []) h hC (fun v => rfl) hcal hstat hlk hg hrm hR hstk hcat hd k
end WRAP
