/-! THE LAYER: one memory by identities (the i-th cell made since the law's entry lies at B + i); a method's meaning is a function on it that answers an option (none: the machine would throw, or a loop's count is used up) -/
abbrev Sg : Type := Nat × (Nat → Nat → Int32) × (Nat → Nat → Option Nat) × (Nat → Nat → UInt32) × (Nat → Nat → Int64)
def sN (σ : Sg) : Nat := σ.1
def sI (σ : Sg) : Nat → Nat → Int32 := σ.2.1
def sR (σ : Sg) : Nat → Nat → Option Nat := σ.2.2.1
def sF (σ : Sg) : Nat → Nat → UInt32 := σ.2.2.2.1
def sL (σ : Sg) : Nat → Nat → Int64 := σ.2.2.2.2
def u2 {α : Type} (f : Nat → Nat → α) (a k : Nat) (v : α) : Nat → Nat → α := fun b j => if b = a ∧ j = k then v else f b j
def uI (σ : Sg) (a k : Nat) (v : Int32) : Sg := (sN σ, u2 (sI σ) a k v, sR σ, sF σ, sL σ)
def uR (σ : Sg) (a k : Nat) (v : Option Nat) : Sg := (sN σ, sI σ, u2 (sR σ) a k v, sF σ, sL σ)
def uF (σ : Sg) (a k : Nat) (v : UInt32) : Sg := (sN σ, sI σ, sR σ, u2 (sF σ) a k v, sL σ)
def uL (σ : Sg) (a k : Nat) (v : Int64) : Sg := (sN σ, sI σ, sR σ, sF σ, u2 (sL σ) a k v)
/-- what a cell is: 0 to 9 an object of vwCl, 20 float[], 21 int[], 22 boolean[], 30 + c an array of class c; 99 none -/
def kd (a : Nat) : Nat := kdL.getD a 99
def ln (a : Nat) : Nat := lnL.getD a 0
/-- a class's fields: 0 int or boolean, 1 reference, 2 long -/
def fty (c : Nat) : List Nat := ftyL.getD c []
/-- values as the walks see them: int, reference, long, float, a static array -/
abbrev Lv : Type := Int32 ⊕ Option Nat ⊕ Int64 ⊕ UInt32 ⊕ Nat
abbrev LI (x : Int32) : Lv := .inl x
abbrev LR (x : Option Nat) : Lv := .inr (.inl x)
abbrev LL (x : Int64) : Lv := .inr (.inr (.inl x))
abbrev LF (x : UInt32) : Lv := .inr (.inr (.inr (.inl x)))
abbrev LT (x : Nat) : Lv := .inr (.inr (.inr (.inr x)))
def tvl (B : Nat) (sa : Nat → Nat) : Lv → Value
  | .inl x => .int x
  | .inr (.inl x) => va_rf (x.map (fun a => B + a))
  | .inr (.inr (.inl x)) => .long x
  | .inr (.inr (.inr (.inl x))) => .float x
  | .inr (.inr (.inr (.inr k))) => .ref (sa k)
def lcat : Lv → Nat
  | .inl _ => 1
  | .inr (.inl _) => 1
  | .inr (.inr (.inl _)) => 2
  | .inr (.inr (.inr (.inl _))) => 1
  | .inr (.inr (.inr (.inr _))) => 1
theorem tvl_cat (B : Nat) (sa : Nat → Nat) (v : Lv) : (tvl B sa v).category = lcat v := by
  rcases v with x | x | x | x | x
  · rfl
  · cases x <;> rfl
  · rfl
  · rfl
  · rfl
def tv (B : Nat) (σ : Sg) (a t k : Nat) : Value := if t = 0 then .int (sI σ a k) else if t = 1 then va_rf ((sR σ a k).map (fun b => B + b)) else .long (sL σ a k)
def cel (B : Nat) (cA : Nat → ClassId) (σ : Sg) (a : Nat) : va_E :=
  if kd a < 20 then .inr (kd a, (fty (kd a)).mapIdx (fun k t => tv B σ a t k))
  else if kd a = 20 then .inl (cA 0, ln a, .inr (.inr (.inl (sF σ a))))
  else if kd a = 21 then .inl (cA 1, ln a, .inl (sI σ a))
  else if kd a = 22 then .inl (cA 2, ln a, .inl (sI σ a))
  else .inl (cA (kd a - 27), ln a, .inr (.inr (.inr (.inr (fun j => (sR σ a j).map (fun b => B + b))))))
def Hm (B : Nat) (D : va_G) (cA : Nat → ClassId) (σ : Sg) (H : Heap) : Prop := H.size = B + sN σ ∧ ∀ a, a < sN σ → va_at D vwCl (B + a, cel B cA σ a) H
/-- the array classes: 0 float, 1 int, 2 boolean, 3 + c those of class c -/
def aty : Nat → FieldType
  | 0 => .float
  | 1 => .int
  | 2 => .boolean
  | 4 => .object RX1
  | 5 => .object RX2
  | 6 => .object RX3
  | 8 => .object RX5
  | 9 => .object RX6
  | 10 => .object RX7
  | _ => .int
def aok (k : Nat) : Bool := [0, 1, 2, 4, 5, 6, 8, 9, 10].contains k
def tyF (cA : Nat → ClassId) (k : Nat) : ClassId × FieldType := (cA k, aty k)
def arK (cA : Nat → ClassId) (U : State) : Prop := ∀ k, aok k = true → ArrOfT U (cA k) (aty k) ∧ va_RA U (cA k) (aty k)
theorem arK.moved {cA : Nat → ClassId} {u U : State} (hvm : u.vm.Alike U.vm) (h : arK cA u) : arK cA U := fun k hk => ⟨arrOfT_moved hvm (h k hk).1, (h k hk).2.moved hvm⟩
theorem arK.one {D : va_G} {cA : Nat → ClassId} {U : State} (h : arK cA U) (hK : va_K D vwCl [] U) (k : Nat) (hk : aok k = true) : va_K D vwCl [(cA k, aty k)] U := by
  refine ⟨hK.1, fun j q hj => ?_⟩
  match j with
  | 0 => cases hj; exact h k hk
  | j + 1 => simp at hj
/-- the three static arrays: 0 FASTEST, 1 MOST_RULES, 2 FIRST_RULES -/
def stN : Nat → String
  | 0 => "FASTEST"
  | 1 => "MOST_RULES"
  | _ => "FIRST_RULES"
def stV : Nat → List Int32
  | 0 => [50, 60, 45, 50]
  | 1 => [5000, 20000, 180000, 180000, 180000, 180000, 3, 3, 3, 3]
  | _ => [1000, 3000, 20000, 20000, 20000, 20000, 0, 1, 2, 3]
def stv (k j : Nat) : Int32 := (stV k).getD j 0
/-- the whole cell of a static array -/
def StX (B : Nat) (t k : Nat) (U : State) (H : Heap) : Prop := ∃ cell : Cell, H[t]? = some cell ∧ cell.vm ≠ .unknown ∧ (∀ q, cell.vm ≠ .statics q) ∧ U.vm.findClass "[I" = some cell.cls ∧ cell.slots = Array.ofFn (n := (stV k).length) (fun j => Value.int (stv k j.val)) ∧ ¬ B ≤ t
theorem StX.moved {B t k : Nat} {u U : State} {H : Heap} (hvm : u.vm.Alike U.vm) (h : StX B t k u H) : StX B t k U H := by
  obtain ⟨cell, h1, h2, h3, h4, h5⟩ := h
  exact ⟨cell, h1, h2, h3, by rw [hvm.findClass]; exact h4, h5⟩
theorem StX.kept {B t k : Nat} {U : State} {H H1 : Heap} (h : StX B t k U H) (hq : ∀ a : Nat, a < H.size → ¬ B ≤ a → H1[a]? = H[a]?) : StX B t k U H1 := by
  obtain ⟨cell, h1, h2, h3, h4, h5, h6⟩ := h
  exact ⟨cell, by rw [hq t (Array.getElem?_eq_some_iff.mp h1).1 h6]; exact h1, h2, h3, h4, h5, h6⟩
def Sta (B : Nat) (sa : Nat → Nat) (U : State) (H : Heap) : Prop := ∀ k, k < 3 → va_Z RX8 (stN k) "[I" (.ref (sa k)) (fun q => B ≤ q) U H ∧ va_T .int (sa k) (stV k).length (fun j => .int (stv k j)) (fun q => B ≤ q) U H ∧ StX B (sa k) k U H
/-- the links between nest mates that the tables tell -/
theorem nwarm {w : Cond} (hw : w ∈ nwL) {s U : State} (hW : s.WarmedH U.vm) (h : va_Nw w s) : va_Nw w U := by
  rcases List.mem_append.mp hw with h1 | h1
  · obtain ⟨⟨a, i, b, n, d, x⟩, -, rfl⟩ := List.mem_map.mp h1
    exact va_Nw.warmF hW h
  · rcases List.mem_append.mp h1 with h1 | h1
    · obtain ⟨⟨a, i, y, x⟩, -, rfl⟩ := List.mem_map.mp h1
      exact va_Nw.warmM hW h
    · rcases List.mem_cons.mp h1 with rfl | h1
      · exact va_Nw.warmC hW h
      · obtain ⟨C, -, rfl⟩ := List.mem_map.mp h1
        exact va_AO.moved hW.alike h
/-- the machine, the code, the tables, as a walk finds them: p l e R s m args below meth c, B, D, cA, sa -/
abbrev EE : Type := Program × Launch × Env × Room × State × MethodId × Array Value × List Frame × Method × Code × Nat × va_G × (Nat → ClassId) × (Nat → Nat)
def eW (E : EE) (H : Heap) (locs : List Loc) (ce sl : Nat) (Q : State → Prop) (g : JFrame) : Prop := match E with
  | (p, l, e, R, s, m, args, below, meth, c, _) => W p l e R s m args below meth c H locs ce sl Q g
def eB (E : EE) : Nat := E.2.2.2.2.2.2.2.2.2.2.1
def eD (E : EE) : va_G := E.2.2.2.2.2.2.2.2.2.2.2.1
def eC (E : EE) : Nat → ClassId := E.2.2.2.2.2.2.2.2.2.2.2.2.1
def eS (E : EE) : Nat → Nat := E.2.2.2.2.2.2.2.2.2.2.2.2.2
def Qr {α : Type} (B : Nat) (D : va_G) (cA : Nat → ClassId) (rv : α → Option Value) (r : α) (σ : Sg) : Array Value → State → Outcome → State → Prop := fun _ st o t => o = .returned (rv r) ∧ Hm B D cA σ t.heap ∧ va_F (fun q => B ≤ q) st t
def lq (B : Nat) (sa : Nat → Nat) (ls : Array Slot) (nL : Nat) (lv : List (Nat × Lv)) : Prop := lv_has ls nL (lv.map (fun q => (q.1, tvl B sa q.2)))
/-- what a walk needs of its method: bytes, own class, size of locals, what it returns -/
def Ok (E : EE) (cc : ByteArray) (own : String) (nL : Nat) (ret : Option FieldType) : Prop := match E with
  | (p, _, _, _, s, m, args, _, meth, c, B, D, cA, sa) => p.tables.exec = Jvm.exec ∧ c.code = cc ∧ c.maxLocals = nL ∧ meth.sig.returnType = ret ∧ s.vm.findClass own = some m.cls ∧ (∀ w ∈ wsL_law, w.before args s = true) ∧ va_K D vwCl [] s ∧ arK cA s ∧ (∀ w ∈ nwL, va_Nw w s) ∧ Sta B sa s s.heap ∧ meth.locks = false
def Wq {α : Type} (E : EE) (rv : α → Option Value) (nL mc ms ce sl pc : Nat) (lv : List (Nat × Lv)) (st : List Lv) (σ : Sg) (x : Option (α × Sg)) : Prop := match E with
  | (p, l, e, R, s, m, args, below, meth, c, B, D, cA, sa) => ∀ (r : α) (σ' : Sg), x = some (r, σ') → ∀ (H : Heap) (locs : List Loc) (ls : Array Slot), Hm B D cA σ H → va_S (fun q => B ≤ q) s.heap H locs → lq B sa ls nL lv → W p l e R s m args below meth c H locs ce sl (MQ below (Qr B D cA rv r σ') args s mc ms (fun q => B ≤ q)) (F0 m pc ls (st.map (tvl B sa)))
theorem lq_at {B : Nat} {sa : Nat → Nat} {ls : Array Slot} {nL : Nat} {lv : List (Nat × Lv)} (h : lq B sa ls nL lv) (k : Nat) {i : Nat} {v : Lv} (hk : lv[k]? = some (i, v)) : ls[i]? = some (.val (tvl B sa v)) := lv_at h k (by rw [List.getElem?_map, hk]; rfl)
theorem lq_sub {B : Nat} {sa : Nat → Nat} {ls : Array Slot} {nL : Nat} {lv lv' : List (Nat × Lv)} (h : lq B sa ls nL lv) (ks : List Nat) (hk : ks.filterMap (fun k => lv[k]?) = lv') : lq B sa ls nL lv' := by
  refine lv_sub h ks ?_
  subst hk
  simp only [lv_pick, List.map_filterMap, List.getElem?_map]
theorem lq_f1 (B : Nat) (sa : Nat → Nat) (i : Nat) (lv : List (Nat × Lv)) : (lv.map (fun q => (q.1, tvl B sa q.2))).filter (fun q => !(q.1 == i) && !(q.1 + 1 == i && q.2.category == 2)) = (lv.filter (fun q => !(q.1 == i) && !(q.1 + 1 == i && lcat q.2 == 2))).map (fun q => (q.1, tvl B sa q.2)) := by
  rw [List.filter_map]
  congr 1
  apply List.filter_congr
  intro q _
  simp only [Function.comp, tvl_cat]
theorem lq_f2 (B : Nat) (sa : Nat → Nat) (i : Nat) (lv : List (Nat × Lv)) : (lv.map (fun q => (q.1, tvl B sa q.2))).filter (fun q => !(q.1 == i) && (!(q.1 == i + 1) && !(q.1 + 1 == i && q.2.category == 2))) = (lv.filter (fun q => !(q.1 == i) && (!(q.1 == i + 1) && !(q.1 + 1 == i && lcat q.2 == 2)))).map (fun q => (q.1, tvl B sa q.2)) := by
  rw [List.filter_map]
  congr 1
  apply List.filter_congr
  intro q _
  simp only [Function.comp, tvl_cat]
def largs : Nat → List Lv → List (Nat × Lv)
  | _, [] => []
  | i, v :: vs => (i, v) :: largs (if lcat v = 2 then i + 2 else i + 1) vs
theorem k_iconst {α : Type} {E : EE} {cc : ByteArray} {own : String} {nL : Nat} {ret : Option FieldType} {rv : α → Option Value} {mc ms ce sl pc : Nat} {lv : List (Nat × Lv)} {st : List Lv} {σ : Sg} {x : Option (α × Sg)} {n : Int} {v : Int32} (h : Ok E cc own nL ret) (hd : decode cc pc = .ok (.iconst n, 1)) (hv : Int32.ofInt n = v) (k : Wq E rv nL mc ms ce sl (pc + 1) lv (LI v :: st) σ x) : Wq E rv nL mc ms ce sl pc lv st σ x := by
  obtain ⟨p, l, e, R, s, m, args, below, meth, c, B, D, cA, sa⟩ := E
  obtain ⟨hx, hb, hml, hr, ho, ht, hK, hA, hn, hst, hlk⟩ := h
  intro r σ' hxx H locs ls hm hS hl
  exact lv_iconst hx hb hd hv (k r σ' hxx H locs ls hm hS hl)

theorem k_bipush {α : Type} {E : EE} {cc : ByteArray} {own : String} {nL : Nat} {ret : Option FieldType} {rv : α → Option Value} {mc ms ce sl pc : Nat} {lv : List (Nat × Lv)} {st : List Lv} {σ : Sg} {x : Option (α × Sg)} {n : Int} {v : Int32} (h : Ok E cc own nL ret) (hd : decode cc pc = .ok (.bipush n, 2)) (hv : (Int8.ofInt n).toInt32 = v) (k : Wq E rv nL mc ms ce sl (pc + 2) lv (LI v :: st) σ x) : Wq E rv nL mc ms ce sl pc lv st σ x := by
  obtain ⟨p, l, e, R, s, m, args, below, meth, c, B, D, cA, sa⟩ := E
  obtain ⟨hx, hb, hml, hr, ho, ht, hK, hA, hn, hst, hlk⟩ := h
  intro r σ' hxx H locs ls hm hS hl
  exact lv_bipush hx hb hd hv (k r σ' hxx H locs ls hm hS hl)

theorem k_sipush {α : Type} {E : EE} {cc : ByteArray} {own : String} {nL : Nat} {ret : Option FieldType} {rv : α → Option Value} {mc ms ce sl pc : Nat} {lv : List (Nat × Lv)} {st : List Lv} {σ : Sg} {x : Option (α × Sg)} {n : Int} {v : Int32} (h : Ok E cc own nL ret) (hd : decode cc pc = .ok (.sipush n, 3)) (hv : (Int16.ofInt n).toInt32 = v) (k : Wq E rv nL mc ms ce sl (pc + 3) lv (LI v :: st) σ x) : Wq E rv nL mc ms ce sl pc lv st σ x := by
  obtain ⟨p, l, e, R, s, m, args, below, meth, c, B, D, cA, sa⟩ := E
  obtain ⟨hx, hb, hml, hr, ho, ht, hK, hA, hn, hst, hlk⟩ := h
  intro r σ' hxx H locs ls hm hS hl
  exact lv_sipush hx hb hd hv (k r σ' hxx H locs ls hm hS hl)

theorem k_lconst {α : Type} {E : EE} {cc : ByteArray} {own : String} {nL : Nat} {ret : Option FieldType} {rv : α → Option Value} {mc ms ce sl pc : Nat} {lv : List (Nat × Lv)} {st : List Lv} {σ : Sg} {x : Option (α × Sg)} {n : Fin 2} {v : Int64} (h : Ok E cc own nL ret) (hd : decode cc pc = .ok (.lconst n, 1)) (hv : Int64.ofNat (n : Nat) = v) (k : Wq E rv nL mc ms ce sl (pc + 1) lv (LL v :: st) σ x) : Wq E rv nL mc ms ce sl pc lv st σ x := by
  obtain ⟨p, l, e, R, s, m, args, below, meth, c, B, D, cA, sa⟩ := E
  obtain ⟨hx, hb, hml, hr, ho, ht, hK, hA, hn, hst, hlk⟩ := h
  intro r σ' hxx H locs ls hm hS hl
  exact lv_lconst hx hb hd hv (k r σ' hxx H locs ls hm hS hl)

theorem k_fconst0 {α : Type} {E : EE} {cc : ByteArray} {own : String} {nL : Nat} {ret : Option FieldType} {rv : α → Option Value} {mc ms ce sl pc : Nat} {lv : List (Nat × Lv)} {st : List Lv} {σ : Sg} {x : Option (α × Sg)} (h : Ok E cc own nL ret) (hd : decode cc pc = .ok (.fconst 0, 1)) (k : Wq E rv nL mc ms ce sl (pc + 1) lv (LF 0 :: st) σ x) : Wq E rv nL mc ms ce sl pc lv st σ x := by
  obtain ⟨p, l, e, R, s, m, args, below, meth, c, B, D, cA, sa⟩ := E
  obtain ⟨hx, hb, hml, hr, ho, ht, hK, hA, hn, hst, hlk⟩ := h
  intro r σ' hxx H locs ls hm hS hl
  exact lv_fconst0 hx hb hd (k r σ' hxx H locs ls hm hS hl)

theorem k_fconst1 {α : Type} {E : EE} {cc : ByteArray} {own : String} {nL : Nat} {ret : Option FieldType} {rv : α → Option Value} {mc ms ce sl pc : Nat} {lv : List (Nat × Lv)} {st : List Lv} {σ : Sg} {x : Option (α × Sg)} (h : Ok E cc own nL ret) (hd : decode cc pc = .ok (.fconst 1, 1)) (k : Wq E rv nL mc ms ce sl (pc + 1) lv (LF 0x3f800000 :: st) σ x) : Wq E rv nL mc ms ce sl pc lv st σ x := by
  obtain ⟨p, l, e, R, s, m, args, below, meth, c, B, D, cA, sa⟩ := E
  obtain ⟨hx, hb, hml, hr, ho, ht, hK, hA, hn, hst, hlk⟩ := h
  intro r σ' hxx H locs ls hm hS hl
  exact lv_fconst1 hx hb hd (k r σ' hxx H locs ls hm hS hl)

theorem k_fconst2 {α : Type} {E : EE} {cc : ByteArray} {own : String} {nL : Nat} {ret : Option FieldType} {rv : α → Option Value} {mc ms ce sl pc : Nat} {lv : List (Nat × Lv)} {st : List Lv} {σ : Sg} {x : Option (α × Sg)} (h : Ok E cc own nL ret) (hd : decode cc pc = .ok (.fconst 2, 1)) (k : Wq E rv nL mc ms ce sl (pc + 1) lv (LF 0x40000000 :: st) σ x) : Wq E rv nL mc ms ce sl pc lv st σ x := by
  obtain ⟨p, l, e, R, s, m, args, below, meth, c, B, D, cA, sa⟩ := E
  obtain ⟨hx, hb, hml, hr, ho, ht, hK, hA, hn, hst, hlk⟩ := h
  intro r σ' hxx H locs ls hm hS hl
  exact lv_fconst2 hx hb hd (k r σ' hxx H locs ls hm hS hl)

theorem k_null {α : Type} {E : EE} {cc : ByteArray} {own : String} {nL : Nat} {ret : Option FieldType} {rv : α → Option Value} {mc ms ce sl pc : Nat} {lv : List (Nat × Lv)} {st : List Lv} {σ : Sg} {x : Option (α × Sg)} (h : Ok E cc own nL ret) (hd : decode cc pc = .ok (.aconst_null, 1)) (k : Wq E rv nL mc ms ce sl (pc + 1) lv (LR none :: st) σ x) : Wq E rv nL mc ms ce sl pc lv st σ x := by
  obtain ⟨p, l, e, R, s, m, args, below, meth, c, B, D, cA, sa⟩ := E
  obtain ⟨hx, hb, hml, hr, ho, ht, hK, hA, hn, hst, hlk⟩ := h
  intro r σ' hxx H locs ls hm hS hl
  exact lv_null hx hb hd (k r σ' hxx H locs ls hm hS hl)

theorem k_ldc {α : Type} {E : EE} {cc : ByteArray} {own : String} {nL : Nat} {ret : Option FieldType} {rv : α → Option Value} {mc ms ce sl pc : Nat} {lv : List (Nat × Lv)} {st : List Lv} {σ : Sg} {x : Option (α × Sg)} {n : Nat} {v : Int32} (h : Ok E cc own nL ret) (hd : decode cc pc = .ok (.ldc n, 2)) (hw : Cond.constant own n v ∈ wsL_law) (k : Wq E rv nL mc ms ce sl (pc + 2) lv (LI v :: st) σ x) : Wq E rv nL mc ms ce sl pc lv st σ x := by
  obtain ⟨p, l, e, R, s, m, args, below, meth, c, B, D, cA, sa⟩ := E
  obtain ⟨hx, hb, hml, hr, ho, ht, hK, hA, hn, hst, hlk⟩ := h
  intro r σ' hxx H locs ls hm hS hl
  exact lv_ldc hx hb ho (ht _ hw) hd (k r σ' hxx H locs ls hm hS hl)

theorem k_ldc_w {α : Type} {E : EE} {cc : ByteArray} {own : String} {nL : Nat} {ret : Option FieldType} {rv : α → Option Value} {mc ms ce sl pc : Nat} {lv : List (Nat × Lv)} {st : List Lv} {σ : Sg} {x : Option (α × Sg)} {n : Nat} {v : Int32} (h : Ok E cc own nL ret) (hd : decode cc pc = .ok (.ldc_w n, 3)) (hw : Cond.constant own n v ∈ wsL_law) (k : Wq E rv nL mc ms ce sl (pc + 3) lv (LI v :: st) σ x) : Wq E rv nL mc ms ce sl pc lv st σ x := by
  obtain ⟨p, l, e, R, s, m, args, below, meth, c, B, D, cA, sa⟩ := E
  obtain ⟨hx, hb, hml, hr, ho, ht, hK, hA, hn, hst, hlk⟩ := h
  intro r σ' hxx H locs ls hm hS hl
  exact lv_ldcw hx hb ho (ht _ hw) hd (k r σ' hxx H locs ls hm hS hl)

theorem k_ldc2_w {α : Type} {E : EE} {cc : ByteArray} {own : String} {nL : Nat} {ret : Option FieldType} {rv : α → Option Value} {mc ms ce sl pc : Nat} {lv : List (Nat × Lv)} {st : List Lv} {σ : Sg} {x : Option (α × Sg)} {n : Nat} {v : Int64} (h : Ok E cc own nL ret) (hd : decode cc pc = .ok (.ldc2_w n, 3)) (hw : Cond.constantLong own n v ∈ wsL_law) (k : Wq E rv nL mc ms ce sl (pc + 3) lv (LL v :: st) σ x) : Wq E rv nL mc ms ce sl pc lv st σ x := by
  obtain ⟨p, l, e, R, s, m, args, below, meth, c, B, D, cA, sa⟩ := E
  obtain ⟨hx, hb, hml, hr, ho, ht, hK, hA, hn, hst, hlk⟩ := h
  intro r σ' hxx H locs ls hm hS hl
  exact lv_ldc2 hx hb ho (ht _ hw) hd (k r σ' hxx H locs ls hm hS hl)

theorem k_ldcf {α : Type} {E : EE} {cc : ByteArray} {own : String} {nL : Nat} {ret : Option FieldType} {rv : α → Option Value} {mc ms ce sl pc : Nat} {lv : List (Nat × Lv)} {st : List Lv} {σ : Sg} {x : Option (α × Sg)} {n : Nat} {v : UInt32} (h : Ok E cc own nL ret) (hd : decode cc pc = .ok (.ldc n, 2)) (hw : Cond.constantFloat own n v ∈ wsL_law) (k : Wq E rv nL mc ms ce sl (pc + 2) lv (LF v :: st) σ x) : Wq E rv nL mc ms ce sl pc lv st σ x := by
  obtain ⟨p, l, e, R, s, m, args, below, meth, c, B, D, cA, sa⟩ := E
  obtain ⟨hx, hb, hml, hr, ho, ht, hK, hA, hn, hst, hlk⟩ := h
  intro r σ' hxx H locs ls hm hS hl
  exact lv_ldcf hx hb ho (ht _ hw) hd (k r σ' hxx H locs ls hm hS hl)

theorem k_iload_n {α : Type} {E : EE} {cc : ByteArray} {own : String} {nL : Nat} {ret : Option FieldType} {rv : α → Option Value} {mc ms ce sl pc : Nat} {lv : List (Nat × Lv)} {st : List Lv} {σ : Sg} {x : Option (α × Sg)} {j : Fin 4} {i : Nat} {v : Int32} (h : Ok E cc own nL ret) (q : Nat) (hd : decode cc pc = .ok (.iload_n j, 1)) (hj : (j : Nat) = i) (hq : lv[q]? = some (i, LI v)) (k : Wq E rv nL mc ms ce sl (pc + 1) lv (LI v :: st) σ x) : Wq E rv nL mc ms ce sl pc lv st σ x := by
  obtain ⟨p, l, e, R, s, m, args, below, meth, c, B, D, cA, sa⟩ := E
  obtain ⟨hx, hb, hml, hr, ho, ht, hK, hA, hn, hst, hlk⟩ := h
  intro r σ' hxx H locs ls hm hS hl
  exact lv_iload_n hx hb hd hj (lq_at hl q hq) (k r σ' hxx H locs ls hm hS hl)

theorem k_iload {α : Type} {E : EE} {cc : ByteArray} {own : String} {nL : Nat} {ret : Option FieldType} {rv : α → Option Value} {mc ms ce sl pc : Nat} {lv : List (Nat × Lv)} {st : List Lv} {σ : Sg} {x : Option (α × Sg)} {i : Nat} {v : Int32} (h : Ok E cc own nL ret) (q : Nat) (hd : decode cc pc = .ok (.iload i, 2)) (hq : lv[q]? = some (i, LI v)) (k : Wq E rv nL mc ms ce sl (pc + 2) lv (LI v :: st) σ x) : Wq E rv nL mc ms ce sl pc lv st σ x := by
  obtain ⟨p, l, e, R, s, m, args, below, meth, c, B, D, cA, sa⟩ := E
  obtain ⟨hx, hb, hml, hr, ho, ht, hK, hA, hn, hst, hlk⟩ := h
  intro r σ' hxx H locs ls hm hS hl
  exact lv_iload hx hb hd (lq_at hl q hq) (k r σ' hxx H locs ls hm hS hl)

theorem k_lload_n {α : Type} {E : EE} {cc : ByteArray} {own : String} {nL : Nat} {ret : Option FieldType} {rv : α → Option Value} {mc ms ce sl pc : Nat} {lv : List (Nat × Lv)} {st : List Lv} {σ : Sg} {x : Option (α × Sg)} {j : Fin 4} {i : Nat} {v : Int64} (h : Ok E cc own nL ret) (q : Nat) (hd : decode cc pc = .ok (.lload_n j, 1)) (hj : (j : Nat) = i) (hq : lv[q]? = some (i, LL v)) (k : Wq E rv nL mc ms ce sl (pc + 1) lv (LL v :: st) σ x) : Wq E rv nL mc ms ce sl pc lv st σ x := by
  obtain ⟨p, l, e, R, s, m, args, below, meth, c, B, D, cA, sa⟩ := E
  obtain ⟨hx, hb, hml, hr, ho, ht, hK, hA, hn, hst, hlk⟩ := h
  intro r σ' hxx H locs ls hm hS hl
  exact lv_lload_n hx hb hd hj (lq_at hl q hq) (k r σ' hxx H locs ls hm hS hl)

theorem k_lload {α : Type} {E : EE} {cc : ByteArray} {own : String} {nL : Nat} {ret : Option FieldType} {rv : α → Option Value} {mc ms ce sl pc : Nat} {lv : List (Nat × Lv)} {st : List Lv} {σ : Sg} {x : Option (α × Sg)} {i : Nat} {v : Int64} (h : Ok E cc own nL ret) (q : Nat) (hd : decode cc pc = .ok (.lload i, 2)) (hq : lv[q]? = some (i, LL v)) (k : Wq E rv nL mc ms ce sl (pc + 2) lv (LL v :: st) σ x) : Wq E rv nL mc ms ce sl pc lv st σ x := by
  obtain ⟨p, l, e, R, s, m, args, below, meth, c, B, D, cA, sa⟩ := E
  obtain ⟨hx, hb, hml, hr, ho, ht, hK, hA, hn, hst, hlk⟩ := h
  intro r σ' hxx H locs ls hm hS hl
  exact lv_lload hx hb hd (lq_at hl q hq) (k r σ' hxx H locs ls hm hS hl)

theorem k_fload_n {α : Type} {E : EE} {cc : ByteArray} {own : String} {nL : Nat} {ret : Option FieldType} {rv : α → Option Value} {mc ms ce sl pc : Nat} {lv : List (Nat × Lv)} {st : List Lv} {σ : Sg} {x : Option (α × Sg)} {j : Fin 4} {i : Nat} {v : UInt32} (h : Ok E cc own nL ret) (q : Nat) (hd : decode cc pc = .ok (.fload_n j, 1)) (hj : (j : Nat) = i) (hq : lv[q]? = some (i, LF v)) (k : Wq E rv nL mc ms ce sl (pc + 1) lv (LF v :: st) σ x) : Wq E rv nL mc ms ce sl pc lv st σ x := by
  obtain ⟨p, l, e, R, s, m, args, below, meth, c, B, D, cA, sa⟩ := E
  obtain ⟨hx, hb, hml, hr, ho, ht, hK, hA, hn, hst, hlk⟩ := h
  intro r σ' hxx H locs ls hm hS hl
  exact lv_fload_n hx hb hd hj (lq_at hl q hq) (k r σ' hxx H locs ls hm hS hl)

theorem k_fload {α : Type} {E : EE} {cc : ByteArray} {own : String} {nL : Nat} {ret : Option FieldType} {rv : α → Option Value} {mc ms ce sl pc : Nat} {lv : List (Nat × Lv)} {st : List Lv} {σ : Sg} {x : Option (α × Sg)} {i : Nat} {v : UInt32} (h : Ok E cc own nL ret) (q : Nat) (hd : decode cc pc = .ok (.fload i, 2)) (hq : lv[q]? = some (i, LF v)) (k : Wq E rv nL mc ms ce sl (pc + 2) lv (LF v :: st) σ x) : Wq E rv nL mc ms ce sl pc lv st σ x := by
  obtain ⟨p, l, e, R, s, m, args, below, meth, c, B, D, cA, sa⟩ := E
  obtain ⟨hx, hb, hml, hr, ho, ht, hK, hA, hn, hst, hlk⟩ := h
  intro r σ' hxx H locs ls hm hS hl
  exact lv_fload hx hb hd (lq_at hl q hq) (k r σ' hxx H locs ls hm hS hl)

theorem k_aload_n {α : Type} {E : EE} {cc : ByteArray} {own : String} {nL : Nat} {ret : Option FieldType} {rv : α → Option Value} {mc ms ce sl pc : Nat} {lv : List (Nat × Lv)} {st : List Lv} {σ : Sg} {x : Option (α × Sg)} {j : Fin 4} {i : Nat} {v : Option Nat} (h : Ok E cc own nL ret) (q : Nat) (hd : decode cc pc = .ok (.aload_n j, 1)) (hj : (j : Nat) = i) (hq : lv[q]? = some (i, LR v)) (k : Wq E rv nL mc ms ce sl (pc + 1) lv (LR v :: st) σ x) : Wq E rv nL mc ms ce sl pc lv st σ x := by
  obtain ⟨p, l, e, R, s, m, args, below, meth, c, B, D, cA, sa⟩ := E
  obtain ⟨hx, hb, hml, hr, ho, ht, hK, hA, hn, hst, hlk⟩ := h
  intro r σ' hxx H locs ls hm hS hl
  have h9 := lq_at hl q hq
  have k9 := k r σ' hxx H locs ls hm hS hl
  cases v with
  | none => exact lv_aload_nN hx hb hd hj h9 k9
  | some a => exact lv_aload_n hx hb hd hj h9 k9

theorem k_aload {α : Type} {E : EE} {cc : ByteArray} {own : String} {nL : Nat} {ret : Option FieldType} {rv : α → Option Value} {mc ms ce sl pc : Nat} {lv : List (Nat × Lv)} {st : List Lv} {σ : Sg} {x : Option (α × Sg)} {i : Nat} {v : Option Nat} (h : Ok E cc own nL ret) (q : Nat) (hd : decode cc pc = .ok (.aload i, 2)) (hq : lv[q]? = some (i, LR v)) (k : Wq E rv nL mc ms ce sl (pc + 2) lv (LR v :: st) σ x) : Wq E rv nL mc ms ce sl pc lv st σ x := by
  obtain ⟨p, l, e, R, s, m, args, below, meth, c, B, D, cA, sa⟩ := E
  obtain ⟨hx, hb, hml, hr, ho, ht, hK, hA, hn, hst, hlk⟩ := h
  intro r σ' hxx H locs ls hm hS hl
  have h9 := lq_at hl q hq
  have k9 := k r σ' hxx H locs ls hm hS hl
  cases v with
  | none => exact lv_aloadN hx hb hd h9 k9
  | some a => exact lv_aload hx hb hd h9 k9

theorem k_istore_n {α : Type} {E : EE} {cc : ByteArray} {own : String} {nL : Nat} {ret : Option FieldType} {rv : α → Option Value} {mc ms ce sl pc : Nat} {lv : List (Nat × Lv)} {st : List Lv} {σ : Sg} {x : Option (α × Sg)} {j : Fin 4} {i : Nat} {v : Int32} {lv' : List (Nat × Lv)} (h : Ok E cc own nL ret) (hd : decode cc pc = .ok (.istore_n j, 1)) (hj : (j : Nat) = i) (hnl : i < nL) (hf : (i, LI v) :: lv.filter (fun q => !(q.1 == i) && !(q.1 + 1 == i && lcat q.2 == 2)) = lv') (k : Wq E rv nL mc ms ce sl (pc + 1) lv' st σ x) : Wq E rv nL mc ms ce sl pc lv (LI v :: st) σ x := by
  obtain ⟨p, l, e, R, s, m, args, below, meth, c, B, D, cA, sa⟩ := E
  obtain ⟨hx, hb, hml, hr, ho, ht, hK, hA, hn, hst, hlk⟩ := h
  intro r σ' hxx H locs ls hm hS hl
  exact lv_istore_n (lv' := lv'.map (fun q : Nat × Lv => (q.1, tvl B sa q.2))) hx hb hd hj hl hnl (by rw [lq_f1, ← hf]; rfl) (fun ls' hl' => k r σ' hxx H locs ls' hm hS hl')

theorem k_istore {α : Type} {E : EE} {cc : ByteArray} {own : String} {nL : Nat} {ret : Option FieldType} {rv : α → Option Value} {mc ms ce sl pc : Nat} {lv : List (Nat × Lv)} {st : List Lv} {σ : Sg} {x : Option (α × Sg)} {i : Nat} {v : Int32} {lv' : List (Nat × Lv)} (h : Ok E cc own nL ret) (hd : decode cc pc = .ok (.istore i, 2)) (hnl : i < nL) (hf : (i, LI v) :: lv.filter (fun q => !(q.1 == i) && !(q.1 + 1 == i && lcat q.2 == 2)) = lv') (k : Wq E rv nL mc ms ce sl (pc + 2) lv' st σ x) : Wq E rv nL mc ms ce sl pc lv (LI v :: st) σ x := by
  obtain ⟨p, l, e, R, s, m, args, below, meth, c, B, D, cA, sa⟩ := E
  obtain ⟨hx, hb, hml, hr, ho, ht, hK, hA, hn, hst, hlk⟩ := h
  intro r σ' hxx H locs ls hm hS hl
  exact lv_istore (lv' := lv'.map (fun q : Nat × Lv => (q.1, tvl B sa q.2))) hx hb hd hl hnl (by rw [lq_f1, ← hf]; rfl) (fun ls' hl' => k r σ' hxx H locs ls' hm hS hl')

theorem k_lstore_n {α : Type} {E : EE} {cc : ByteArray} {own : String} {nL : Nat} {ret : Option FieldType} {rv : α → Option Value} {mc ms ce sl pc : Nat} {lv : List (Nat × Lv)} {st : List Lv} {σ : Sg} {x : Option (α × Sg)} {j : Fin 4} {i : Nat} {v : Int64} {lv' : List (Nat × Lv)} (h : Ok E cc own nL ret) (hd : decode cc pc = .ok (.lstore_n j, 1)) (hj : (j : Nat) = i) (hnl : i + 1 < nL) (hf : (i, LL v) :: lv.filter (fun q => !(q.1 == i) && (!(q.1 == i + 1) && !(q.1 + 1 == i && lcat q.2 == 2))) = lv') (k : Wq E rv nL mc ms ce sl (pc + 1) lv' st σ x) : Wq E rv nL mc ms ce sl pc lv (LL v :: st) σ x := by
  obtain ⟨p, l, e, R, s, m, args, below, meth, c, B, D, cA, sa⟩ := E
  obtain ⟨hx, hb, hml, hr, ho, ht, hK, hA, hn, hst, hlk⟩ := h
  intro r σ' hxx H locs ls hm hS hl
  exact lv_lstore_n (lv' := lv'.map (fun q : Nat × Lv => (q.1, tvl B sa q.2))) hx hb hd hj hl hnl (by rw [lq_f2, ← hf]; rfl) (fun ls' hl' => k r σ' hxx H locs ls' hm hS hl')

theorem k_lstore {α : Type} {E : EE} {cc : ByteArray} {own : String} {nL : Nat} {ret : Option FieldType} {rv : α → Option Value} {mc ms ce sl pc : Nat} {lv : List (Nat × Lv)} {st : List Lv} {σ : Sg} {x : Option (α × Sg)} {i : Nat} {v : Int64} {lv' : List (Nat × Lv)} (h : Ok E cc own nL ret) (hd : decode cc pc = .ok (.lstore i, 2)) (hnl : i + 1 < nL) (hf : (i, LL v) :: lv.filter (fun q => !(q.1 == i) && (!(q.1 == i + 1) && !(q.1 + 1 == i && lcat q.2 == 2))) = lv') (k : Wq E rv nL mc ms ce sl (pc + 2) lv' st σ x) : Wq E rv nL mc ms ce sl pc lv (LL v :: st) σ x := by
  obtain ⟨p, l, e, R, s, m, args, below, meth, c, B, D, cA, sa⟩ := E
  obtain ⟨hx, hb, hml, hr, ho, ht, hK, hA, hn, hst, hlk⟩ := h
  intro r σ' hxx H locs ls hm hS hl
  exact lv_lstore (lv' := lv'.map (fun q : Nat × Lv => (q.1, tvl B sa q.2))) hx hb hd hl hnl (by rw [lq_f2, ← hf]; rfl) (fun ls' hl' => k r σ' hxx H locs ls' hm hS hl')

theorem k_astore_n {α : Type} {E : EE} {cc : ByteArray} {own : String} {nL : Nat} {ret : Option FieldType} {rv : α → Option Value} {mc ms ce sl pc : Nat} {lv : List (Nat × Lv)} {st : List Lv} {σ : Sg} {x : Option (α × Sg)} {j : Fin 4} {i : Nat} {v : Option Nat} {lv' : List (Nat × Lv)} (h : Ok E cc own nL ret) (hd : decode cc pc = .ok (.astore_n j, 1)) (hj : (j : Nat) = i) (hnl : i < nL) (hf : (i, LR v) :: lv.filter (fun q => !(q.1 == i) && !(q.1 + 1 == i && lcat q.2 == 2)) = lv') (k : Wq E rv nL mc ms ce sl (pc + 1) lv' st σ x) : Wq E rv nL mc ms ce sl pc lv (LR v :: st) σ x := by
  obtain ⟨p, l, e, R, s, m, args, below, meth, c, B, D, cA, sa⟩ := E
  obtain ⟨hx, hb, hml, hr, ho, ht, hK, hA, hn, hst, hlk⟩ := h
  intro r σ' hxx H locs ls hm hS hl
  have k9 := fun ls' hl' => k r σ' hxx H locs ls' hm hS hl'
  cases v with
  | none => exact lv_astore_nN (lv' := lv'.map (fun q : Nat × Lv => (q.1, tvl B sa q.2))) hx hb hd hj hl hnl (by rw [lq_f1, ← hf]; rfl) k9
  | some a => exact lv_astore_n (lv' := lv'.map (fun q : Nat × Lv => (q.1, tvl B sa q.2))) hx hb hd hj hl hnl (by rw [lq_f1, ← hf]; rfl) k9

theorem k_astore {α : Type} {E : EE} {cc : ByteArray} {own : String} {nL : Nat} {ret : Option FieldType} {rv : α → Option Value} {mc ms ce sl pc : Nat} {lv : List (Nat × Lv)} {st : List Lv} {σ : Sg} {x : Option (α × Sg)} {i : Nat} {v : Option Nat} {lv' : List (Nat × Lv)} (h : Ok E cc own nL ret) (hd : decode cc pc = .ok (.astore i, 2)) (hnl : i < nL) (hf : (i, LR v) :: lv.filter (fun q => !(q.1 == i) && !(q.1 + 1 == i && lcat q.2 == 2)) = lv') (k : Wq E rv nL mc ms ce sl (pc + 2) lv' st σ x) : Wq E rv nL mc ms ce sl pc lv (LR v :: st) σ x := by
  obtain ⟨p, l, e, R, s, m, args, below, meth, c, B, D, cA, sa⟩ := E
  obtain ⟨hx, hb, hml, hr, ho, ht, hK, hA, hn, hst, hlk⟩ := h
  intro r σ' hxx H locs ls hm hS hl
  have k9 := fun ls' hl' => k r σ' hxx H locs ls' hm hS hl'
  cases v with
  | none => exact lv_astoreN (lv' := lv'.map (fun q : Nat × Lv => (q.1, tvl B sa q.2))) hx hb hd hl hnl (by rw [lq_f1, ← hf]; rfl) k9
  | some a => exact lv_astore (lv' := lv'.map (fun q : Nat × Lv => (q.1, tvl B sa q.2))) hx hb hd hl hnl (by rw [lq_f1, ← hf]; rfl) k9

theorem k_iinc {α : Type} {E : EE} {cc : ByteArray} {own : String} {nL : Nat} {ret : Option FieldType} {rv : α → Option Value} {mc ms ce sl pc : Nat} {lv : List (Nat × Lv)} {st : List Lv} {σ : Sg} {x : Option (α × Sg)} {i : Nat} {n : Int} {v w : Int32} {lv' : List (Nat × Lv)} (h : Ok E cc own nL ret) (q : Nat) (hd : decode cc pc = .ok (.iinc i n, 3)) (hq : lv[q]? = some (i, LI v)) (hv : v + Int32.ofInt n = w) (hnl : i < nL) (hf : (i, LI w) :: lv.filter (fun q => !(q.1 == i) && !(q.1 + 1 == i && lcat q.2 == 2)) = lv') (k : Wq E rv nL mc ms ce sl (pc + 3) lv' st σ x) : Wq E rv nL mc ms ce sl pc lv st σ x := by
  obtain ⟨p, l, e, R, s, m, args, below, meth, c, B, D, cA, sa⟩ := E
  obtain ⟨hx, hb, hml, hr, ho, ht, hK, hA, hn, hst, hlk⟩ := h
  intro r σ' hxx H locs ls hm hS hl
  exact lv_iinc (k := q) (lv' := lv'.map (fun q : Nat × Lv => (q.1, tvl B sa q.2))) hx hb hd hl (by rw [List.getElem?_map, hq]; rfl) hv hnl (by rw [lq_f1, ← hf]; rfl) (fun ls' hl' => k r σ' hxx H locs ls' hm hS hl')

theorem k_iadd {α : Type} {E : EE} {cc : ByteArray} {own : String} {nL : Nat} {ret : Option FieldType} {rv : α → Option Value} {mc ms ce sl pc : Nat} {lv : List (Nat × Lv)} {st : List Lv} {σ : Sg} {x : Option (α × Sg)} {a b : Int32} (h : Ok E cc own nL ret) (hd : decode cc pc = .ok (.iadd, 1)) (k : Wq E rv nL mc ms ce sl (pc + 1) lv (LI (a + b) :: st) σ x) : Wq E rv nL mc ms ce sl pc lv (LI b :: LI a :: st) σ x := by
  obtain ⟨p, l, e, R, s, m, args, below, meth, c, B, D, cA, sa⟩ := E
  obtain ⟨hx, hb, hml, hr, ho, ht, hK, hA, hn, hst, hlk⟩ := h
  intro r σ' hxx H locs ls hm hS hl
  exact lv_iadd hx hb hd (k r σ' hxx H locs ls hm hS hl)

theorem k_isub {α : Type} {E : EE} {cc : ByteArray} {own : String} {nL : Nat} {ret : Option FieldType} {rv : α → Option Value} {mc ms ce sl pc : Nat} {lv : List (Nat × Lv)} {st : List Lv} {σ : Sg} {x : Option (α × Sg)} {a b : Int32} (h : Ok E cc own nL ret) (hd : decode cc pc = .ok (.isub, 1)) (k : Wq E rv nL mc ms ce sl (pc + 1) lv (LI (a - b) :: st) σ x) : Wq E rv nL mc ms ce sl pc lv (LI b :: LI a :: st) σ x := by
  obtain ⟨p, l, e, R, s, m, args, below, meth, c, B, D, cA, sa⟩ := E
  obtain ⟨hx, hb, hml, hr, ho, ht, hK, hA, hn, hst, hlk⟩ := h
  intro r σ' hxx H locs ls hm hS hl
  exact lv_isub hx hb hd (k r σ' hxx H locs ls hm hS hl)

theorem k_imul {α : Type} {E : EE} {cc : ByteArray} {own : String} {nL : Nat} {ret : Option FieldType} {rv : α → Option Value} {mc ms ce sl pc : Nat} {lv : List (Nat × Lv)} {st : List Lv} {σ : Sg} {x : Option (α × Sg)} {a b : Int32} (h : Ok E cc own nL ret) (hd : decode cc pc = .ok (.imul, 1)) (k : Wq E rv nL mc ms ce sl (pc + 1) lv (LI (a * b) :: st) σ x) : Wq E rv nL mc ms ce sl pc lv (LI b :: LI a :: st) σ x := by
  obtain ⟨p, l, e, R, s, m, args, below, meth, c, B, D, cA, sa⟩ := E
  obtain ⟨hx, hb, hml, hr, ho, ht, hK, hA, hn, hst, hlk⟩ := h
  intro r σ' hxx H locs ls hm hS hl
  exact lv_imul hx hb hd (k r σ' hxx H locs ls hm hS hl)

theorem k_iand {α : Type} {E : EE} {cc : ByteArray} {own : String} {nL : Nat} {ret : Option FieldType} {rv : α → Option Value} {mc ms ce sl pc : Nat} {lv : List (Nat × Lv)} {st : List Lv} {σ : Sg} {x : Option (α × Sg)} {a b : Int32} (h : Ok E cc own nL ret) (hd : decode cc pc = .ok (.iand, 1)) (k : Wq E rv nL mc ms ce sl (pc + 1) lv (LI (a &&& b) :: st) σ x) : Wq E rv nL mc ms ce sl pc lv (LI b :: LI a :: st) σ x := by
  obtain ⟨p, l, e, R, s, m, args, below, meth, c, B, D, cA, sa⟩ := E
  obtain ⟨hx, hb, hml, hr, ho, ht, hK, hA, hn, hst, hlk⟩ := h
  intro r σ' hxx H locs ls hm hS hl
  exact lv_iand hx hb hd (k r σ' hxx H locs ls hm hS hl)

theorem k_ishl {α : Type} {E : EE} {cc : ByteArray} {own : String} {nL : Nat} {ret : Option FieldType} {rv : α → Option Value} {mc ms ce sl pc : Nat} {lv : List (Nat × Lv)} {st : List Lv} {σ : Sg} {x : Option (α × Sg)} {a b : Int32} (h : Ok E cc own nL ret) (hd : decode cc pc = .ok (.ishl, 1)) (k : Wq E rv nL mc ms ce sl (pc + 1) lv (LI (a <<< (b &&& 31)) :: st) σ x) : Wq E rv nL mc ms ce sl pc lv (LI b :: LI a :: st) σ x := by
  obtain ⟨p, l, e, R, s, m, args, below, meth, c, B, D, cA, sa⟩ := E
  obtain ⟨hx, hb, hml, hr, ho, ht, hK, hA, hn, hst, hlk⟩ := h
  intro r σ' hxx H locs ls hm hS hl
  exact lv_ishl hx hb hd (k r σ' hxx H locs ls hm hS hl)

theorem k_ishr {α : Type} {E : EE} {cc : ByteArray} {own : String} {nL : Nat} {ret : Option FieldType} {rv : α → Option Value} {mc ms ce sl pc : Nat} {lv : List (Nat × Lv)} {st : List Lv} {σ : Sg} {x : Option (α × Sg)} {a b : Int32} (h : Ok E cc own nL ret) (hd : decode cc pc = .ok (.ishr, 1)) (k : Wq E rv nL mc ms ce sl (pc + 1) lv (LI (a >>> (b &&& 31)) :: st) σ x) : Wq E rv nL mc ms ce sl pc lv (LI b :: LI a :: st) σ x := by
  obtain ⟨p, l, e, R, s, m, args, below, meth, c, B, D, cA, sa⟩ := E
  obtain ⟨hx, hb, hml, hr, ho, ht, hK, hA, hn, hst, hlk⟩ := h
  intro r σ' hxx H locs ls hm hS hl
  exact lv_ishr hx hb hd (k r σ' hxx H locs ls hm hS hl)

theorem k_ladd {α : Type} {E : EE} {cc : ByteArray} {own : String} {nL : Nat} {ret : Option FieldType} {rv : α → Option Value} {mc ms ce sl pc : Nat} {lv : List (Nat × Lv)} {st : List Lv} {σ : Sg} {x : Option (α × Sg)} {a b : Int64} (h : Ok E cc own nL ret) (hd : decode cc pc = .ok (.ladd, 1)) (k : Wq E rv nL mc ms ce sl (pc + 1) lv (LL (a + b) :: st) σ x) : Wq E rv nL mc ms ce sl pc lv (LL b :: LL a :: st) σ x := by
  obtain ⟨p, l, e, R, s, m, args, below, meth, c, B, D, cA, sa⟩ := E
  obtain ⟨hx, hb, hml, hr, ho, ht, hK, hA, hn, hst, hlk⟩ := h
  intro r σ' hxx H locs ls hm hS hl
  exact lv_ladd hx hb hd (k r σ' hxx H locs ls hm hS hl)

theorem k_lsub {α : Type} {E : EE} {cc : ByteArray} {own : String} {nL : Nat} {ret : Option FieldType} {rv : α → Option Value} {mc ms ce sl pc : Nat} {lv : List (Nat × Lv)} {st : List Lv} {σ : Sg} {x : Option (α × Sg)} {a b : Int64} (h : Ok E cc own nL ret) (hd : decode cc pc = .ok (.lsub, 1)) (k : Wq E rv nL mc ms ce sl (pc + 1) lv (LL (a - b) :: st) σ x) : Wq E rv nL mc ms ce sl pc lv (LL b :: LL a :: st) σ x := by
  obtain ⟨p, l, e, R, s, m, args, below, meth, c, B, D, cA, sa⟩ := E
  obtain ⟨hx, hb, hml, hr, ho, ht, hK, hA, hn, hst, hlk⟩ := h
  intro r σ' hxx H locs ls hm hS hl
  exact lv_lsub hx hb hd (k r σ' hxx H locs ls hm hS hl)

theorem k_lmul {α : Type} {E : EE} {cc : ByteArray} {own : String} {nL : Nat} {ret : Option FieldType} {rv : α → Option Value} {mc ms ce sl pc : Nat} {lv : List (Nat × Lv)} {st : List Lv} {σ : Sg} {x : Option (α × Sg)} {a b : Int64} (h : Ok E cc own nL ret) (hd : decode cc pc = .ok (.lmul, 1)) (k : Wq E rv nL mc ms ce sl (pc + 1) lv (LL (a * b) :: st) σ x) : Wq E rv nL mc ms ce sl pc lv (LL b :: LL a :: st) σ x := by
  obtain ⟨p, l, e, R, s, m, args, below, meth, c, B, D, cA, sa⟩ := E
  obtain ⟨hx, hb, hml, hr, ho, ht, hK, hA, hn, hst, hlk⟩ := h
  intro r σ' hxx H locs ls hm hS hl
  exact lv_lmul hx hb hd (k r σ' hxx H locs ls hm hS hl)

theorem k_lshr {α : Type} {E : EE} {cc : ByteArray} {own : String} {nL : Nat} {ret : Option FieldType} {rv : α → Option Value} {mc ms ce sl pc : Nat} {lv : List (Nat × Lv)} {st : List Lv} {σ : Sg} {x : Option (α × Sg)} {a : Int64} {b : Int32} (h : Ok E cc own nL ret) (hd : decode cc pc = .ok (.lshr, 1)) (k : Wq E rv nL mc ms ce sl (pc + 1) lv (LL (a >>> (b.toInt64 &&& 63)) :: st) σ x) : Wq E rv nL mc ms ce sl pc lv (LI b :: LL a :: st) σ x := by
  obtain ⟨p, l, e, R, s, m, args, below, meth, c, B, D, cA, sa⟩ := E
  obtain ⟨hx, hb, hml, hr, ho, ht, hK, hA, hn, hst, hlk⟩ := h
  intro r σ' hxx H locs ls hm hS hl
  exact lv_lshr hx hb hd rfl (k r σ' hxx H locs ls hm hS hl)

theorem k_ineg {α : Type} {E : EE} {cc : ByteArray} {own : String} {nL : Nat} {ret : Option FieldType} {rv : α → Option Value} {mc ms ce sl pc : Nat} {lv : List (Nat × Lv)} {st : List Lv} {σ : Sg} {x : Option (α × Sg)} {a : Int32} (h : Ok E cc own nL ret) (hd : decode cc pc = .ok (.ineg, 1)) (k : Wq E rv nL mc ms ce sl (pc + 1) lv (LI (-a) :: st) σ x) : Wq E rv nL mc ms ce sl pc lv (LI a :: st) σ x := by
  obtain ⟨p, l, e, R, s, m, args, below, meth, c, B, D, cA, sa⟩ := E
  obtain ⟨hx, hb, hml, hr, ho, ht, hK, hA, hn, hst, hlk⟩ := h
  intro r σ' hxx H locs ls hm hS hl
  exact lv_ineg hx hb hd (k r σ' hxx H locs ls hm hS hl)

theorem k_lneg {α : Type} {E : EE} {cc : ByteArray} {own : String} {nL : Nat} {ret : Option FieldType} {rv : α → Option Value} {mc ms ce sl pc : Nat} {lv : List (Nat × Lv)} {st : List Lv} {σ : Sg} {x : Option (α × Sg)} {a : Int64} (h : Ok E cc own nL ret) (hd : decode cc pc = .ok (.lneg, 1)) (k : Wq E rv nL mc ms ce sl (pc + 1) lv (LL (-a) :: st) σ x) : Wq E rv nL mc ms ce sl pc lv (LL a :: st) σ x := by
  obtain ⟨p, l, e, R, s, m, args, below, meth, c, B, D, cA, sa⟩ := E
  obtain ⟨hx, hb, hml, hr, ho, ht, hK, hA, hn, hst, hlk⟩ := h
  intro r σ' hxx H locs ls hm hS hl
  exact lv_lneg hx hb hd (k r σ' hxx H locs ls hm hS hl)

theorem k_i2l {α : Type} {E : EE} {cc : ByteArray} {own : String} {nL : Nat} {ret : Option FieldType} {rv : α → Option Value} {mc ms ce sl pc : Nat} {lv : List (Nat × Lv)} {st : List Lv} {σ : Sg} {x : Option (α × Sg)} {a : Int32} (h : Ok E cc own nL ret) (hd : decode cc pc = .ok (.i2l, 1)) (k : Wq E rv nL mc ms ce sl (pc + 1) lv (LL a.toInt64 :: st) σ x) : Wq E rv nL mc ms ce sl pc lv (LI a :: st) σ x := by
  obtain ⟨p, l, e, R, s, m, args, below, meth, c, B, D, cA, sa⟩ := E
  obtain ⟨hx, hb, hml, hr, ho, ht, hK, hA, hn, hst, hlk⟩ := h
  intro r σ' hxx H locs ls hm hS hl
  exact lv_i2l hx hb hd rfl (k r σ' hxx H locs ls hm hS hl)

theorem k_l2i {α : Type} {E : EE} {cc : ByteArray} {own : String} {nL : Nat} {ret : Option FieldType} {rv : α → Option Value} {mc ms ce sl pc : Nat} {lv : List (Nat × Lv)} {st : List Lv} {σ : Sg} {x : Option (α × Sg)} {a : Int64} (h : Ok E cc own nL ret) (hd : decode cc pc = .ok (.l2i, 1)) (k : Wq E rv nL mc ms ce sl (pc + 1) lv (LI a.toInt32 :: st) σ x) : Wq E rv nL mc ms ce sl pc lv (LL a :: st) σ x := by
  obtain ⟨p, l, e, R, s, m, args, below, meth, c, B, D, cA, sa⟩ := E
  obtain ⟨hx, hb, hml, hr, ho, ht, hK, hA, hn, hst, hlk⟩ := h
  intro r σ' hxx H locs ls hm hS hl
  exact lv_l2i hx hb hd rfl (k r σ' hxx H locs ls hm hS hl)

theorem k_i2f {α : Type} {E : EE} {cc : ByteArray} {own : String} {nL : Nat} {ret : Option FieldType} {rv : α → Option Value} {mc ms ce sl pc : Nat} {lv : List (Nat × Lv)} {st : List Lv} {σ : Sg} {x : Option (α × Sg)} {a : Int32} (h : Ok E cc own nL ret) (hd : decode cc pc = .ok (.i2f, 1)) (k : Wq E rv nL mc ms ce sl (pc + 1) lv (LF (FP.i2f a) :: st) σ x) : Wq E rv nL mc ms ce sl pc lv (LI a :: st) σ x := by
  obtain ⟨p, l, e, R, s, m, args, below, meth, c, B, D, cA, sa⟩ := E
  obtain ⟨hx, hb, hml, hr, ho, ht, hK, hA, hn, hst, hlk⟩ := h
  intro r σ' hxx H locs ls hm hS hl
  exact lv_i2f hx hb hd (k r σ' hxx H locs ls hm hS hl)

theorem k_f2i {α : Type} {E : EE} {cc : ByteArray} {own : String} {nL : Nat} {ret : Option FieldType} {rv : α → Option Value} {mc ms ce sl pc : Nat} {lv : List (Nat × Lv)} {st : List Lv} {σ : Sg} {x : Option (α × Sg)} {a : UInt32} (h : Ok E cc own nL ret) (hd : decode cc pc = .ok (.f2i, 1)) (k : Wq E rv nL mc ms ce sl (pc + 1) lv (LI (FP.f2i a) :: st) σ x) : Wq E rv nL mc ms ce sl pc lv (LF a :: st) σ x := by
  obtain ⟨p, l, e, R, s, m, args, below, meth, c, B, D, cA, sa⟩ := E
  obtain ⟨hx, hb, hml, hr, ho, ht, hK, hA, hn, hst, hlk⟩ := h
  intro r σ' hxx H locs ls hm hS hl
  exact lv_f2i hx hb hd (k r σ' hxx H locs ls hm hS hl)

theorem k_lcmp {α : Type} {E : EE} {cc : ByteArray} {own : String} {nL : Nat} {ret : Option FieldType} {rv : α → Option Value} {mc ms ce sl pc : Nat} {lv : List (Nat × Lv)} {st : List Lv} {σ : Sg} {x : Option (α × Sg)} {a b : Int64} (h : Ok E cc own nL ret) (hd : decode cc pc = .ok (.lcmp, 1)) (k : Wq E rv nL mc ms ce sl (pc + 1) lv (LI (lg_cmp a b) :: st) σ x) : Wq E rv nL mc ms ce sl pc lv (LL b :: LL a :: st) σ x := by
  obtain ⟨p, l, e, R, s, m, args, below, meth, c, B, D, cA, sa⟩ := E
  obtain ⟨hx, hb, hml, hr, ho, ht, hK, hA, hn, hst, hlk⟩ := h
  intro r σ' hxx H locs ls hm hS hl
  exact W.lcmp hx hb hd (k r σ' hxx H locs ls hm hS hl)

def ckZ {β : Type} (b : Int32) (x : Option β) : Option β := if b = 0 then none else x
def ckN {β : Type} (v : UInt32) (f : UInt32 → Option β) : Option β := if v &&& 0x7fffffff ≤ 0x7f800000 then f v else none
theorem k_idiv {α : Type} {E : EE} {cc : ByteArray} {own : String} {nL : Nat} {ret : Option FieldType} {rv : α → Option Value} {mc ms ce sl pc : Nat} {lv : List (Nat × Lv)} {st : List Lv} {σ : Sg} {x : Option (α × Sg)} {a b : Int32} (h : Ok E cc own nL ret) (hd : decode cc pc = .ok (.idiv, 1)) (k : Wq E rv nL mc ms ce sl (pc + 1) lv (LI (a / b) :: st) σ x) : Wq E rv nL mc ms ce sl pc lv (LI b :: LI a :: st) σ (ckZ b x) := by
  obtain ⟨p, l, e, R, s, m, args, below, meth, c, B, D, cA, sa⟩ := E
  obtain ⟨hx, hb, hml, hr, ho, ht, hK, hA, hn, hst, hlk⟩ := h
  intro r σ' hxx H locs ls hm hS hl
  unfold ckZ at hxx
  by_cases hz : b = 0
  · rw [if_pos hz] at hxx; cases hxx
  · rw [if_neg hz] at hxx
    exact lv_idiv hx hb hd hz (k r σ' hxx H locs ls hm hS hl)

theorem k_irem {α : Type} {E : EE} {cc : ByteArray} {own : String} {nL : Nat} {ret : Option FieldType} {rv : α → Option Value} {mc ms ce sl pc : Nat} {lv : List (Nat × Lv)} {st : List Lv} {σ : Sg} {x : Option (α × Sg)} {a b : Int32} (h : Ok E cc own nL ret) (hd : decode cc pc = .ok (.irem, 1)) (k : Wq E rv nL mc ms ce sl (pc + 1) lv (LI (a - a / b * b) :: st) σ x) : Wq E rv nL mc ms ce sl pc lv (LI b :: LI a :: st) σ (ckZ b x) := by
  obtain ⟨p, l, e, R, s, m, args, below, meth, c, B, D, cA, sa⟩ := E
  obtain ⟨hx, hb, hml, hr, ho, ht, hK, hA, hn, hst, hlk⟩ := h
  intro r σ' hxx H locs ls hm hS hl
  unfold ckZ at hxx
  by_cases hz : b = 0
  · rw [if_pos hz] at hxx; cases hxx
  · rw [if_neg hz] at hxx
    exact lv_irem hx hb hd hz (k r σ' hxx H locs ls hm hS hl)

theorem k_fadd {α : Type} {E : EE} {cc : ByteArray} {own : String} {nL : Nat} {ret : Option FieldType} {rv : α → Option Value} {mc ms ce sl pc : Nat} {lv : List (Nat × Lv)} {st : List Lv} {σ : Sg} {a b : UInt32} {f : UInt32 → Option (α × Sg)} (h : Ok E cc own nL ret) (hd : decode cc pc = .ok (.fadd, 1)) (k : ∀ v, Wq E rv nL mc ms ce sl (pc + 1) lv (LF v :: st) σ (f v)) : Wq E rv nL mc ms ce sl pc lv (LF b :: LF a :: st) σ (ckN (FP.fadd a b) f) := by
  obtain ⟨p, l, e, R, s, m, args, below, meth, c, B, D, cA, sa⟩ := E
  obtain ⟨hx, hb, hml, hr, ho, ht, hK, hA, hn, hst, hlk⟩ := h
  intro r σ' hxx H locs ls hm hS hl
  unfold ckN at hxx
  by_cases hz : FP.fadd a b &&& 0x7fffffff ≤ 0x7f800000
  · rw [if_pos hz] at hxx
    exact lv_fadd hx hb hd hz (k _ r σ' hxx H locs ls hm hS hl)
  · rw [if_neg hz] at hxx; cases hxx

theorem k_fmul {α : Type} {E : EE} {cc : ByteArray} {own : String} {nL : Nat} {ret : Option FieldType} {rv : α → Option Value} {mc ms ce sl pc : Nat} {lv : List (Nat × Lv)} {st : List Lv} {σ : Sg} {a b : UInt32} {f : UInt32 → Option (α × Sg)} (h : Ok E cc own nL ret) (hd : decode cc pc = .ok (.fmul, 1)) (k : ∀ v, Wq E rv nL mc ms ce sl (pc + 1) lv (LF v :: st) σ (f v)) : Wq E rv nL mc ms ce sl pc lv (LF b :: LF a :: st) σ (ckN (FP.fmul a b) f) := by
  obtain ⟨p, l, e, R, s, m, args, below, meth, c, B, D, cA, sa⟩ := E
  obtain ⟨hx, hb, hml, hr, ho, ht, hK, hA, hn, hst, hlk⟩ := h
  intro r σ' hxx H locs ls hm hS hl
  unfold ckN at hxx
  by_cases hz : FP.fmul a b &&& 0x7fffffff ≤ 0x7f800000
  · rw [if_pos hz] at hxx
    exact lv_fmul hx hb hd hz (k _ r σ' hxx H locs ls hm hS hl)
  · rw [if_neg hz] at hxx; cases hxx

theorem k_fdiv {α : Type} {E : EE} {cc : ByteArray} {own : String} {nL : Nat} {ret : Option FieldType} {rv : α → Option Value} {mc ms ce sl pc : Nat} {lv : List (Nat × Lv)} {st : List Lv} {σ : Sg} {a b : UInt32} {f : UInt32 → Option (α × Sg)} (h : Ok E cc own nL ret) (hd : decode cc pc = .ok (.fdiv, 1)) (k : ∀ v, Wq E rv nL mc ms ce sl (pc + 1) lv (LF v :: st) σ (f v)) : Wq E rv nL mc ms ce sl pc lv (LF b :: LF a :: st) σ (ckN (FP.fdiv a b) f) := by
  obtain ⟨p, l, e, R, s, m, args, below, meth, c, B, D, cA, sa⟩ := E
  obtain ⟨hx, hb, hml, hr, ho, ht, hK, hA, hn, hst, hlk⟩ := h
  intro r σ' hxx H locs ls hm hS hl
  unfold ckN at hxx
  by_cases hz : FP.fdiv a b &&& 0x7fffffff ≤ 0x7f800000
  · rw [if_pos hz] at hxx
    exact lv_fdiv hx hb hd hz (k _ r σ' hxx H locs ls hm hS hl)
  · rw [if_neg hz] at hxx; cases hxx

theorem k_dup {α : Type} {E : EE} {cc : ByteArray} {own : String} {nL : Nat} {ret : Option FieldType} {rv : α → Option Value} {mc ms ce sl pc : Nat} {lv : List (Nat × Lv)} {st : List Lv} {σ : Sg} {x : Option (α × Sg)} {v : Lv} (h : Ok E cc own nL ret) (hd : decode cc pc = .ok (.dup, 1)) (hc : lcat v = 1) (k : Wq E rv nL mc ms ce sl (pc + 1) lv (v :: v :: st) σ x) : Wq E rv nL mc ms ce sl pc lv (v :: st) σ x := by
  obtain ⟨p, l, e, R, s, m, args, below, meth, c, B, D, cA, sa⟩ := E
  obtain ⟨hx, hb, hml, hr, ho, ht, hK, hA, hn, hst, hlk⟩ := h
  intro r σ' hxx H locs ls hm hS hl
  exact lv_dup hx hb hd (by rw [tvl_cat]; exact hc) (k r σ' hxx H locs ls hm hS hl)

theorem k_dup2 {α : Type} {E : EE} {cc : ByteArray} {own : String} {nL : Nat} {ret : Option FieldType} {rv : α → Option Value} {mc ms ce sl pc : Nat} {lv : List (Nat × Lv)} {st : List Lv} {σ : Sg} {x : Option (α × Sg)} {v w : Lv} (h : Ok E cc own nL ret) (hd : decode cc pc = .ok (.dup2, 1)) (hc : lcat v = 1) (hc2 : lcat w = 1) (k : Wq E rv nL mc ms ce sl (pc + 1) lv (v :: w :: v :: w :: st) σ x) : Wq E rv nL mc ms ce sl pc lv (v :: w :: st) σ x := by
  obtain ⟨p, l, e, R, s, m, args, below, meth, c, B, D, cA, sa⟩ := E
  obtain ⟨hx, hb, hml, hr, ho, ht, hK, hA, hn, hst, hlk⟩ := h
  intro r σ' hxx H locs ls hm hS hl
  exact lv_dup2_11 hx hb hd (by rw [tvl_cat]; exact hc) (by rw [tvl_cat]; exact hc2) (k r σ' hxx H locs ls hm hS hl)

theorem k_if_eq {α : Type} {E : EE} {cc : ByteArray} {own : String} {nL : Nat} {ret : Option FieldType} {rv : α → Option Value} {mc ms ce sl pc : Nat} {lv : List (Nat × Lv)} {st : List Lv} {σ : Sg} {x y : Option (α × Sg)} {a : Int32} {off : Int} {tgt : Nat} (h : Ok E cc own nL ret) (hd : decode cc pc = .ok (.ifCond .eq off, 3)) (hz : (pc : Int) + off = (tgt : Int)) (k1 : Wq E rv nL mc ms ce sl tgt lv st σ y) (k2 : Wq E rv nL mc ms ce sl (pc + 3) lv st σ x) : Wq E rv nL mc ms ce sl pc lv (LI a :: st) σ (if a = 0 then y else x) := by
  obtain ⟨p, l, e, R, s, m, args, below, meth, c, B, D, cA, sa⟩ := E
  obtain ⟨hx, hb, hml, hr, ho, ht, hK, hA, hn, hst, hlk⟩ := h
  intro r σ' hxx H locs ls hm hS hl
  refine lv_if_eq hx hb hd hz (fun hc => ?_) (fun hc => ?_)
  · rw [if_pos hc] at hxx
    exact k1 r σ' hxx H locs ls hm hS hl
  · rw [if_neg hc] at hxx
    exact k2 r σ' hxx H locs ls hm hS hl

theorem k_icmp_eq {α : Type} {E : EE} {cc : ByteArray} {own : String} {nL : Nat} {ret : Option FieldType} {rv : α → Option Value} {mc ms ce sl pc : Nat} {lv : List (Nat × Lv)} {st : List Lv} {σ : Sg} {x y : Option (α × Sg)} {a b : Int32} {off : Int} {tgt : Nat} (h : Ok E cc own nL ret) (hd : decode cc pc = .ok (.if_icmp .eq off, 3)) (hz : (pc : Int) + off = (tgt : Int)) (k1 : Wq E rv nL mc ms ce sl tgt lv st σ y) (k2 : Wq E rv nL mc ms ce sl (pc + 3) lv st σ x) : Wq E rv nL mc ms ce sl pc lv (LI b :: LI a :: st) σ (if a = b then y else x) := by
  obtain ⟨p, l, e, R, s, m, args, below, meth, c, B, D, cA, sa⟩ := E
  obtain ⟨hx, hb, hml, hr, ho, ht, hK, hA, hn, hst, hlk⟩ := h
  intro r σ' hxx H locs ls hm hS hl
  refine lv_icmp_eq hx hb hd hz (fun hc => ?_) (fun hc => ?_)
  · rw [if_pos hc] at hxx
    exact k1 r σ' hxx H locs ls hm hS hl
  · rw [if_neg hc] at hxx
    exact k2 r σ' hxx H locs ls hm hS hl

theorem k_if_ne {α : Type} {E : EE} {cc : ByteArray} {own : String} {nL : Nat} {ret : Option FieldType} {rv : α → Option Value} {mc ms ce sl pc : Nat} {lv : List (Nat × Lv)} {st : List Lv} {σ : Sg} {x y : Option (α × Sg)} {a : Int32} {off : Int} {tgt : Nat} (h : Ok E cc own nL ret) (hd : decode cc pc = .ok (.ifCond .ne off, 3)) (hz : (pc : Int) + off = (tgt : Int)) (k1 : Wq E rv nL mc ms ce sl tgt lv st σ y) (k2 : Wq E rv nL mc ms ce sl (pc + 3) lv st σ x) : Wq E rv nL mc ms ce sl pc lv (LI a :: st) σ (if ¬ a = 0 then y else x) := by
  obtain ⟨p, l, e, R, s, m, args, below, meth, c, B, D, cA, sa⟩ := E
  obtain ⟨hx, hb, hml, hr, ho, ht, hK, hA, hn, hst, hlk⟩ := h
  intro r σ' hxx H locs ls hm hS hl
  refine lv_if_ne hx hb hd hz (fun hc => ?_) (fun hc => ?_)
  · rw [if_pos hc] at hxx
    exact k1 r σ' hxx H locs ls hm hS hl
  · rw [if_neg (fun z => z hc)] at hxx
    exact k2 r σ' hxx H locs ls hm hS hl

theorem k_icmp_ne {α : Type} {E : EE} {cc : ByteArray} {own : String} {nL : Nat} {ret : Option FieldType} {rv : α → Option Value} {mc ms ce sl pc : Nat} {lv : List (Nat × Lv)} {st : List Lv} {σ : Sg} {x y : Option (α × Sg)} {a b : Int32} {off : Int} {tgt : Nat} (h : Ok E cc own nL ret) (hd : decode cc pc = .ok (.if_icmp .ne off, 3)) (hz : (pc : Int) + off = (tgt : Int)) (k1 : Wq E rv nL mc ms ce sl tgt lv st σ y) (k2 : Wq E rv nL mc ms ce sl (pc + 3) lv st σ x) : Wq E rv nL mc ms ce sl pc lv (LI b :: LI a :: st) σ (if ¬ a = b then y else x) := by
  obtain ⟨p, l, e, R, s, m, args, below, meth, c, B, D, cA, sa⟩ := E
  obtain ⟨hx, hb, hml, hr, ho, ht, hK, hA, hn, hst, hlk⟩ := h
  intro r σ' hxx H locs ls hm hS hl
  refine lv_icmp_ne hx hb hd hz (fun hc => ?_) (fun hc => ?_)
  · rw [if_pos hc] at hxx
    exact k1 r σ' hxx H locs ls hm hS hl
  · rw [if_neg (fun z => z hc)] at hxx
    exact k2 r σ' hxx H locs ls hm hS hl

theorem k_if_lt {α : Type} {E : EE} {cc : ByteArray} {own : String} {nL : Nat} {ret : Option FieldType} {rv : α → Option Value} {mc ms ce sl pc : Nat} {lv : List (Nat × Lv)} {st : List Lv} {σ : Sg} {x y : Option (α × Sg)} {a : Int32} {off : Int} {tgt : Nat} (h : Ok E cc own nL ret) (hd : decode cc pc = .ok (.ifCond .lt off, 3)) (hz : (pc : Int) + off = (tgt : Int)) (k1 : Wq E rv nL mc ms ce sl tgt lv st σ y) (k2 : Wq E rv nL mc ms ce sl (pc + 3) lv st σ x) : Wq E rv nL mc ms ce sl pc lv (LI a :: st) σ (if a < 0 then y else x) := by
  obtain ⟨p, l, e, R, s, m, args, below, meth, c, B, D, cA, sa⟩ := E
  obtain ⟨hx, hb, hml, hr, ho, ht, hK, hA, hn, hst, hlk⟩ := h
  intro r σ' hxx H locs ls hm hS hl
  refine lv_if_lt hx hb hd hz (fun hc => ?_) (fun hc => ?_)
  · rw [if_pos hc] at hxx
    exact k1 r σ' hxx H locs ls hm hS hl
  · rw [if_neg hc] at hxx
    exact k2 r σ' hxx H locs ls hm hS hl

theorem k_icmp_lt {α : Type} {E : EE} {cc : ByteArray} {own : String} {nL : Nat} {ret : Option FieldType} {rv : α → Option Value} {mc ms ce sl pc : Nat} {lv : List (Nat × Lv)} {st : List Lv} {σ : Sg} {x y : Option (α × Sg)} {a b : Int32} {off : Int} {tgt : Nat} (h : Ok E cc own nL ret) (hd : decode cc pc = .ok (.if_icmp .lt off, 3)) (hz : (pc : Int) + off = (tgt : Int)) (k1 : Wq E rv nL mc ms ce sl tgt lv st σ y) (k2 : Wq E rv nL mc ms ce sl (pc + 3) lv st σ x) : Wq E rv nL mc ms ce sl pc lv (LI b :: LI a :: st) σ (if a < b then y else x) := by
  obtain ⟨p, l, e, R, s, m, args, below, meth, c, B, D, cA, sa⟩ := E
  obtain ⟨hx, hb, hml, hr, ho, ht, hK, hA, hn, hst, hlk⟩ := h
  intro r σ' hxx H locs ls hm hS hl
  refine lv_icmp_lt hx hb hd hz (fun hc => ?_) (fun hc => ?_)
  · rw [if_pos hc] at hxx
    exact k1 r σ' hxx H locs ls hm hS hl
  · rw [if_neg hc] at hxx
    exact k2 r σ' hxx H locs ls hm hS hl

theorem k_if_ge {α : Type} {E : EE} {cc : ByteArray} {own : String} {nL : Nat} {ret : Option FieldType} {rv : α → Option Value} {mc ms ce sl pc : Nat} {lv : List (Nat × Lv)} {st : List Lv} {σ : Sg} {x y : Option (α × Sg)} {a : Int32} {off : Int} {tgt : Nat} (h : Ok E cc own nL ret) (hd : decode cc pc = .ok (.ifCond .ge off, 3)) (hz : (pc : Int) + off = (tgt : Int)) (k1 : Wq E rv nL mc ms ce sl tgt lv st σ y) (k2 : Wq E rv nL mc ms ce sl (pc + 3) lv st σ x) : Wq E rv nL mc ms ce sl pc lv (LI a :: st) σ (if 0 ≤ a then y else x) := by
  obtain ⟨p, l, e, R, s, m, args, below, meth, c, B, D, cA, sa⟩ := E
  obtain ⟨hx, hb, hml, hr, ho, ht, hK, hA, hn, hst, hlk⟩ := h
  intro r σ' hxx H locs ls hm hS hl
  refine lv_if_ge hx hb hd hz (fun hc => ?_) (fun hc => ?_)
  · rw [if_pos hc] at hxx
    exact k1 r σ' hxx H locs ls hm hS hl
  · rw [if_neg hc] at hxx
    exact k2 r σ' hxx H locs ls hm hS hl

theorem k_icmp_ge {α : Type} {E : EE} {cc : ByteArray} {own : String} {nL : Nat} {ret : Option FieldType} {rv : α → Option Value} {mc ms ce sl pc : Nat} {lv : List (Nat × Lv)} {st : List Lv} {σ : Sg} {x y : Option (α × Sg)} {a b : Int32} {off : Int} {tgt : Nat} (h : Ok E cc own nL ret) (hd : decode cc pc = .ok (.if_icmp .ge off, 3)) (hz : (pc : Int) + off = (tgt : Int)) (k1 : Wq E rv nL mc ms ce sl tgt lv st σ y) (k2 : Wq E rv nL mc ms ce sl (pc + 3) lv st σ x) : Wq E rv nL mc ms ce sl pc lv (LI b :: LI a :: st) σ (if b ≤ a then y else x) := by
  obtain ⟨p, l, e, R, s, m, args, below, meth, c, B, D, cA, sa⟩ := E
  obtain ⟨hx, hb, hml, hr, ho, ht, hK, hA, hn, hst, hlk⟩ := h
  intro r σ' hxx H locs ls hm hS hl
  refine lv_icmp_ge hx hb hd hz (fun hc => ?_) (fun hc => ?_)
  · rw [if_pos hc] at hxx
    exact k1 r σ' hxx H locs ls hm hS hl
  · rw [if_neg hc] at hxx
    exact k2 r σ' hxx H locs ls hm hS hl

theorem k_if_gt {α : Type} {E : EE} {cc : ByteArray} {own : String} {nL : Nat} {ret : Option FieldType} {rv : α → Option Value} {mc ms ce sl pc : Nat} {lv : List (Nat × Lv)} {st : List Lv} {σ : Sg} {x y : Option (α × Sg)} {a : Int32} {off : Int} {tgt : Nat} (h : Ok E cc own nL ret) (hd : decode cc pc = .ok (.ifCond .gt off, 3)) (hz : (pc : Int) + off = (tgt : Int)) (k1 : Wq E rv nL mc ms ce sl tgt lv st σ y) (k2 : Wq E rv nL mc ms ce sl (pc + 3) lv st σ x) : Wq E rv nL mc ms ce sl pc lv (LI a :: st) σ (if 0 < a then y else x) := by
  obtain ⟨p, l, e, R, s, m, args, below, meth, c, B, D, cA, sa⟩ := E
  obtain ⟨hx, hb, hml, hr, ho, ht, hK, hA, hn, hst, hlk⟩ := h
  intro r σ' hxx H locs ls hm hS hl
  refine lv_if_gt hx hb hd hz (fun hc => ?_) (fun hc => ?_)
  · rw [if_pos hc] at hxx
    exact k1 r σ' hxx H locs ls hm hS hl
  · rw [if_neg hc] at hxx
    exact k2 r σ' hxx H locs ls hm hS hl

theorem k_icmp_gt {α : Type} {E : EE} {cc : ByteArray} {own : String} {nL : Nat} {ret : Option FieldType} {rv : α → Option Value} {mc ms ce sl pc : Nat} {lv : List (Nat × Lv)} {st : List Lv} {σ : Sg} {x y : Option (α × Sg)} {a b : Int32} {off : Int} {tgt : Nat} (h : Ok E cc own nL ret) (hd : decode cc pc = .ok (.if_icmp .gt off, 3)) (hz : (pc : Int) + off = (tgt : Int)) (k1 : Wq E rv nL mc ms ce sl tgt lv st σ y) (k2 : Wq E rv nL mc ms ce sl (pc + 3) lv st σ x) : Wq E rv nL mc ms ce sl pc lv (LI b :: LI a :: st) σ (if b < a then y else x) := by
  obtain ⟨p, l, e, R, s, m, args, below, meth, c, B, D, cA, sa⟩ := E
  obtain ⟨hx, hb, hml, hr, ho, ht, hK, hA, hn, hst, hlk⟩ := h
  intro r σ' hxx H locs ls hm hS hl
  refine lv_icmp_gt hx hb hd hz (fun hc => ?_) (fun hc => ?_)
  · rw [if_pos hc] at hxx
    exact k1 r σ' hxx H locs ls hm hS hl
  · rw [if_neg hc] at hxx
    exact k2 r σ' hxx H locs ls hm hS hl

theorem k_if_le {α : Type} {E : EE} {cc : ByteArray} {own : String} {nL : Nat} {ret : Option FieldType} {rv : α → Option Value} {mc ms ce sl pc : Nat} {lv : List (Nat × Lv)} {st : List Lv} {σ : Sg} {x y : Option (α × Sg)} {a : Int32} {off : Int} {tgt : Nat} (h : Ok E cc own nL ret) (hd : decode cc pc = .ok (.ifCond .le off, 3)) (hz : (pc : Int) + off = (tgt : Int)) (k1 : Wq E rv nL mc ms ce sl tgt lv st σ y) (k2 : Wq E rv nL mc ms ce sl (pc + 3) lv st σ x) : Wq E rv nL mc ms ce sl pc lv (LI a :: st) σ (if a ≤ 0 then y else x) := by
  obtain ⟨p, l, e, R, s, m, args, below, meth, c, B, D, cA, sa⟩ := E
  obtain ⟨hx, hb, hml, hr, ho, ht, hK, hA, hn, hst, hlk⟩ := h
  intro r σ' hxx H locs ls hm hS hl
  refine lv_if_le hx hb hd hz (fun hc => ?_) (fun hc => ?_)
  · rw [if_pos hc] at hxx
    exact k1 r σ' hxx H locs ls hm hS hl
  · rw [if_neg hc] at hxx
    exact k2 r σ' hxx H locs ls hm hS hl

theorem k_icmp_le {α : Type} {E : EE} {cc : ByteArray} {own : String} {nL : Nat} {ret : Option FieldType} {rv : α → Option Value} {mc ms ce sl pc : Nat} {lv : List (Nat × Lv)} {st : List Lv} {σ : Sg} {x y : Option (α × Sg)} {a b : Int32} {off : Int} {tgt : Nat} (h : Ok E cc own nL ret) (hd : decode cc pc = .ok (.if_icmp .le off, 3)) (hz : (pc : Int) + off = (tgt : Int)) (k1 : Wq E rv nL mc ms ce sl tgt lv st σ y) (k2 : Wq E rv nL mc ms ce sl (pc + 3) lv st σ x) : Wq E rv nL mc ms ce sl pc lv (LI b :: LI a :: st) σ (if a ≤ b then y else x) := by
  obtain ⟨p, l, e, R, s, m, args, below, meth, c, B, D, cA, sa⟩ := E
  obtain ⟨hx, hb, hml, hr, ho, ht, hK, hA, hn, hst, hlk⟩ := h
  intro r σ' hxx H locs ls hm hS hl
  refine lv_icmp_le hx hb hd hz (fun hc => ?_) (fun hc => ?_)
  · rw [if_pos hc] at hxx
    exact k1 r σ' hxx H locs ls hm hS hl
  · rw [if_neg hc] at hxx
    exact k2 r σ' hxx H locs ls hm hS hl

theorem k_acmp_ne {α : Type} {E : EE} {cc : ByteArray} {own : String} {nL : Nat} {ret : Option FieldType} {rv : α → Option Value} {mc ms ce sl pc : Nat} {lv : List (Nat × Lv)} {st : List Lv} {σ : Sg} {x y : Option (α × Sg)} {a b : Option Nat} {off : Int} {tgt : Nat} (h : Ok E cc own nL ret) (hd : decode cc pc = .ok (.if_acmp .ne off, 3)) (hz : (pc : Int) + off = (tgt : Int)) (k1 : Wq E rv nL mc ms ce sl tgt lv st σ y) (k2 : Wq E rv nL mc ms ce sl (pc + 3) lv st σ x) : Wq E rv nL mc ms ce sl pc lv (LR b :: LR a :: st) σ (if ¬ a = b then y else x) := by
  obtain ⟨p, l, e, R, s, m, args, below, meth, c, B, D, cA, sa⟩ := E
  obtain ⟨hx, hb, hml, hr, ho, ht, hK, hA, hn, hst, hlk⟩ := h
  intro r σ' hxx H locs ls hm hS hl
  refine lv_acmp_ne hx hb hd hz (fun hc => ?_) (fun hc => ?_)
  · rw [if_pos (by intro z; subst z; exact hc rfl)] at hxx
    exact k1 r σ' hxx H locs ls hm hS hl
  · rw [if_neg (by intro z; apply z; cases a <;> cases b <;> simp_all <;> omega)] at hxx
    exact k2 r σ' hxx H locs ls hm hS hl

theorem k_ifnull {α : Type} {E : EE} {cc : ByteArray} {own : String} {nL : Nat} {ret : Option FieldType} {rv : α → Option Value} {mc ms ce sl pc : Nat} {lv : List (Nat × Lv)} {st : List Lv} {σ : Sg} {x y : Option (α × Sg)} {a : Option Nat} {off : Int} {tgt : Nat} (h : Ok E cc own nL ret) (hd : decode cc pc = .ok (.ifnull off, 3)) (hz : (pc : Int) + off = (tgt : Int)) (k1 : Wq E rv nL mc ms ce sl tgt lv st σ y) (k2 : Wq E rv nL mc ms ce sl (pc + 3) lv st σ x) : Wq E rv nL mc ms ce sl pc lv (LR a :: st) σ (if a = none then y else x) := by
  obtain ⟨p, l, e, R, s, m, args, below, meth, c, B, D, cA, sa⟩ := E
  obtain ⟨hx, hb, hml, hr, ho, ht, hK, hA, hn, hst, hlk⟩ := h
  intro r σ' hxx H locs ls hm hS hl
  cases a with
  | none => exact lv_ifnullN hx hb hd hz (k1 r σ' (by simpa using hxx) H locs ls hm hS hl)
  | some a => exact lv_ifnull hx hb hd (k2 r σ' (by simpa using hxx) H locs ls hm hS hl)

theorem k_ifnonnull {α : Type} {E : EE} {cc : ByteArray} {own : String} {nL : Nat} {ret : Option FieldType} {rv : α → Option Value} {mc ms ce sl pc : Nat} {lv : List (Nat × Lv)} {st : List Lv} {σ : Sg} {x y : Option (α × Sg)} {a : Option Nat} {off : Int} {tgt : Nat} (h : Ok E cc own nL ret) (hd : decode cc pc = .ok (.ifnonnull off, 3)) (hz : (pc : Int) + off = (tgt : Int)) (k1 : Wq E rv nL mc ms ce sl tgt lv st σ y) (k2 : Wq E rv nL mc ms ce sl (pc + 3) lv st σ x) : Wq E rv nL mc ms ce sl pc lv (LR a :: st) σ (if a = none then x else y) := by
  obtain ⟨p, l, e, R, s, m, args, below, meth, c, B, D, cA, sa⟩ := E
  obtain ⟨hx, hb, hml, hr, ho, ht, hK, hA, hn, hst, hlk⟩ := h
  intro r σ' hxx H locs ls hm hS hl
  cases a with
  | none => exact lv_ifnonnullN hx hb hd (k2 r σ' (by simpa using hxx) H locs ls hm hS hl)
  | some a => exact lv_ifnonnull hx hb hd hz (k1 r σ' (by simpa using hxx) H locs ls hm hS hl)

theorem k_goto {α : Type} {E : EE} {cc : ByteArray} {own : String} {nL : Nat} {ret : Option FieldType} {rv : α → Option Value} {mc ms ce sl pc : Nat} {lv : List (Nat × Lv)} {st : List Lv} {σ : Sg} {x : Option (α × Sg)} {off : Int} {tgt : Nat} (h : Ok E cc own nL ret) (hd : decode cc pc = .ok (.goto off, 3)) (hz : (pc : Int) + off = (tgt : Int)) (k : Wq E rv nL mc ms ce sl tgt lv st σ x) : Wq E rv nL mc ms ce sl pc lv st σ x := by
  obtain ⟨p, l, e, R, s, m, args, below, meth, c, B, D, cA, sa⟩ := E
  obtain ⟨hx, hb, hml, hr, ho, ht, hK, hA, hn, hst, hlk⟩ := h
  intro r σ' hxx H locs ls hm hS hl
  exact lv_goto hx hb hd hz (k r σ' hxx H locs ls hm hS hl)

def swc {β : Type} (v : Int32) (lo : Int) (xs : List (Option β)) (d : Option β) : Option β := if v.toInt < lo then d else xs.getD (v.toInt - lo).toNat d
theorem k_table {α : Type} {E : EE} {cc : ByteArray} {own : String} {nL : Nat} {ret : Option FieldType} {rv : α → Option Value} {mc ms ce sl pc : Nat} {lv : List (Nat × Lv)} {st : List Lv} {σ : Sg} {xs : List (Option (α × Sg))} {d : Option (α × Sg)} {a : Int32} {dflt lo hi : Int} {offs : Array Int} {len tg : Nat} {tgs : List Nat} (h : Ok E cc own nL ret) (hd : decode cc pc = .ok (.tableswitch dflt lo hi offs, len)) (h1 : (pc : Int) + dflt = (tg : Int)) (h2 : offs.toList.map (fun o => (pc : Int) + o) = tgs.map (fun t : Nat => (t : Int))) (h3 : xs.length = tgs.length) (h4 : (hi : Int) + 1 = lo + (tgs.length : Int)) (k1 : Wq E rv nL mc ms ce sl tg lv st σ d) (k2 : ∀ q ∈ tgs.zip xs, Wq E rv nL mc ms ce sl q.1 lv st σ q.2) : Wq E rv nL mc ms ce sl pc lv (LI a :: st) σ (swc a lo xs d) := by
  obtain ⟨p, l, e, R, s, m, args, below, meth, c, B, D, cA, sa⟩ := E
  obtain ⟨hx, hb, hml, hr, ho, ht, hK, hA, hn, hst, hlk⟩ := h
  intro r σ' hxx H locs ls hm hS hl
  unfold swc at hxx
  by_cases ha : a.toInt < lo
  · rw [if_pos ha] at hxx
    exact lv_tableOut hx hb hd (Or.inl ha) h1 (k1 r σ' hxx H locs ls hm hS hl)
  · rw [if_neg ha] at hxx
    have hlen : offs.toList.length = tgs.length := by simpa using congrArg List.length h2
    by_cases hc : hi < a.toInt
    · have hge : xs.length ≤ (a.toInt - lo).toNat := by omega
      rw [List.getD_eq_getElem?_getD, List.getElem?_eq_none hge] at hxx
      exact lv_tableOut hx hb hd (Or.inr hc) h1 (k1 r σ' hxx H locs ls hm hS hl)
    · have hlt : (a.toInt - lo).toNat < xs.length := by omega
      generalize hj : (a.toInt - lo).toNat = j at hxx hlt
      have hjt : j < tgs.length := by omega
      have hjo : j < offs.toList.length := by omega
      rw [List.getD_eq_getElem?_getD, List.getElem?_eq_getElem hlt] at hxx
      have ho1 : (pc : Int) + offs.toList[j] = ((tgs[j] : Nat) : Int) := by
        have := congrArg (fun l => l[j]?) h2
        rw [List.getElem?_map, List.getElem?_map, List.getElem?_eq_getElem hjo, List.getElem?_eq_getElem hjt] at this
        exact Option.some.inj this
      have ho2 : offs[(a.toInt - lo).toNat]? = some offs.toList[j] := by
        rw [hj, ← Array.getElem?_toList, List.getElem?_eq_getElem hjo]
      refine lv_tableIn hx hb hd ha hc ho2 ho1 (k2 (tgs[j], xs[j]) ?_ r σ' hxx H locs ls hm hS hl)
      apply List.mem_of_getElem? (i := j)
      simp [List.getElem?_zip_eq_some, hjt, hlt]

