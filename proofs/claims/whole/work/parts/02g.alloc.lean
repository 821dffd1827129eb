/-! cells that are made -/
def gr (σ : Sg) : Sg := (sN σ + 1, (fun a k => if a = sN σ then 0 else sI σ a k), (fun a k => if a = sN σ then none else sR σ a k), (fun a k => if a = sN σ then 0 else sF σ a k), (fun a k => if a = sN σ then 0 else sL σ a k))
def nwO {β : Type} (σ : Sg) (c : Nat) (f : Option Nat → Sg → Option β) : Option β := if kd (sN σ) = c then f (some (sN σ)) (gr σ) else none
def nwA {β : Type} (σ : Sg) (k : Nat) (n : Int32) (f : Option Nat → Sg → Option β) : Option β := if kd (sN σ) = k ∧ ¬ n < 0 ∧ ln (sN σ) = n.toNatClampNeg then f (some (sN σ)) (gr σ) else none
/-- a copy of a static array -/
def nwC {β : Type} (σ : Sg) (k : Nat) (f : Option Nat → Sg → Option β) : Option β := if kd (sN σ) = 21 ∧ ln (sN σ) = (stV k).length then f (some (sN σ)) (sN σ + 1, (fun a j => if a = sN σ then stv k j else sI σ a j), sR σ, sF σ, sL σ) else none
def cx {β : Type} (x : Option Nat) (f : Nat → Option β) : Option β := match x with
  | none => none
  | some a => f a
def dv (t : Nat) : Value := if t = 0 then .int 0 else if t = 1 then .null else .long 0
def Cls (c : Nat) (C0 : String) (N : Nat) : Prop := ∃ (T : u_T) (ty0 : Nat → FieldType), vwCl[c]? = some (C0, T, N) ∧ (∀ w ∈ u_ws C0 T N, w ∈ wsL_law) ∧ N = (fty c).length ∧ c < 20 ∧ (∀ k, k < N → parseFieldDescriptor (T k).2.2.1 = some (ty0 k)) ∧ ∀ j, j < N → defaultValue (ty0 j) = dv ((fty c).getD j 0)
theorem cel_gr {B : Nat} {cA : Nat → ClassId} {σ : Sg} {b : Nat} (h : b ≠ sN σ) : cel B cA (gr σ) b = cel B cA σ b := by
  have e1 : sI (gr σ) b = sI σ b := funext fun k => if_neg h
  have e2 : sR (gr σ) b = sR σ b := funext fun k => if_neg h
  have e3 : sF (gr σ) b = sF σ b := funext fun k => if_neg h
  have e4 : sL (gr σ) b = sL σ b := funext fun k => if_neg h
  simp only [cel, tv, e1, e2, e3, e4]
theorem Hm.push {B : Nat} {D : va_G} {cA : Nat → ClassId} {σ σ' : Sg} {H H1 : Heap} (hm : Hm B D cA σ H) (hn : sN σ' = sN σ + 1) (hnew : va_at D vwCl (B + sN σ, cel B cA σ' (sN σ)) H1) (hoth : ∀ b, b < sN σ → cel B cA σ' b = cel B cA σ b) (z : H1.size = H.size + 1) (oq : ∀ q, q < H.size → H1[q]? = H[q]?) : Hm B D cA σ' H1 := by
  refine ⟨by rw [z, hn, hm.1]; omega, fun b hb => ?_⟩
  by_cases hba : b = sN σ
  · subst hba; exact hnew
  · have hlt : b < sN σ := by omega
    rw [hoth b hlt]
    exact (hm.2 b hlt).kept (oq _ (by show B + b < H.size; rw [hm.1]; omega))
theorem va_S.push {B : Nat} {H0 H H1 : Heap} {locs : List Loc} (hS : va_S (fun q => B ≤ q) H0 H locs) (z : H1.size = H.size + 1) (oq : ∀ q, q < H.size → H1[q]? = H[q]?) : va_S (fun q => B ≤ q) H0 H1 locs := ⟨Nat.le_trans hS.1 (by omega), fun x h1 h2 => (oq x (Nat.lt_of_lt_of_le h1 hS.1)).trans (hS.2.1 x h1 h2), hS.2.2⟩
theorem k_new {α : Type} {E : EE} {cc : ByteArray} {own : String} {nL : Nat} {ret : Option FieldType} {rv : α → Option Value} {mc ms ce sl pc : Nat} {lv : List (Nat × Lv)} {st : List Lv} {σ : Sg} {c0 N0 idx : Nat} {C0 : String} {f : Option Nat → Sg → Option (α × Sg)} (h : Ok E cc own nL ret) (hC : Cls c0 C0 N0) (hw1 : Cond.classLink own idx C0 ∈ wsL_law) (hw2 : Cond.instantiable C0 N0 ∈ wsL_law) (hw3 : Cond.initialized C0 ∈ wsL_law) (hc : ce + 1 ≤ E.2.2.2.1.cells) (hs : sl + N0 ≤ E.2.2.2.1.slots) (hd : decode cc pc = .ok (.new idx, 3)) (k : ∀ v σ1, Wq E rv nL mc ms (ce + 1) (sl + N0) (pc + 3) lv (LR v :: st) σ1 (f v σ1)) : Wq E rv nL mc ms ce sl pc lv st σ (nwO σ c0 f) := by
  obtain ⟨p, l, e, R, s, m, args, below, meth, c, B, D, cA, sa⟩ := E
  obtain ⟨hx, hb, hml, hr, ho, ht, hK, hA, hn, hst, hlk⟩ := h
  intro r σ' hxx H locs ls hm hS hl
  unfold nwO at hxx
  by_cases hz : kd (sN σ) = c0
  · rw [if_pos hz] at hxx
    obtain ⟨T, ty0, f1, f2, f3, f4, f5, f6⟩ := hC
    have hKn := hK.1 c0 _ f1
    refine W.newcK hx hb ho (ht _ hw1) (ht _ hw2) (ht _ hw3) rfl hd hc hs hKn.2.1 hm.1 fun H1 kC hkC e1 z1 o1 => ?_
    have z2 : H1.size = H.size + 1 := by rw [z1, hm.1]
    have o2 : ∀ q, q < H.size → H1[q]? = H[q]? := fun q hq => o1 q (by rw [hm.1] at hq; exact hq)
    refine k (some (sN σ)) (gr σ) r σ' hxx H1 locs ls (hm.push rfl ?_ (fun b hb => cel_gr (by omega)) z2 o2) (hS.push z2 o2) hl
    rw [cel_obj hz f4]
    refine ⟨_, f1, (u_born ty0 ht f2 hKn hkC e1 f5).to (fun j hj => ?_)⟩
    have hj2 : j < (fty c0).length := by rw [← f3]; exact hj
    show defaultValue (ty0 j) = _
    rw [f6 j hj]
    show dv ((fty c0).getD j 0) = ((fty c0).mapIdx (fun k t => tv B (gr σ) (sN σ) t k)).getD j Value.null
    simp only [List.getD_eq_getElem?_getD, List.getElem?_mapIdx, List.getElem?_eq_getElem hj2, Option.map_some, Option.getD_some, dv, tv, gr, sI, sR, sL, sN, if_true]
    rfl
  · rw [if_neg hz] at hxx; cases hxx

theorem k_newaI {α : Type} {E : EE} {cc : ByteArray} {own : String} {nL : Nat} {ret : Option FieldType} {rv : α → Option Value} {mc ms ce sl pc : Nat} {lv : List (Nat × Lv)} {st : List Lv} {σ : Sg} {n : Int32} {N0 : Nat} {f : Option Nat → Sg → Option (α × Sg)} (h : Ok E cc own nL ret) (hw : Cond.arrayClass .int ∈ wsL_law) (hN : n.toNatClampNeg = N0) (hby : N0 * 4 ≤ 536870912) (hc : ce + 1 ≤ E.2.2.2.1.cells) (hs : sl + N0 ≤ E.2.2.2.1.slots) (hd : decode cc pc = .ok (.newarray .int, 2)) (k : ∀ v σ1, Wq E rv nL mc ms (ce + 1) (sl + N0) (pc + 2) lv (LR v :: st) σ1 (f v σ1)) : Wq E rv nL mc ms ce sl pc lv (LI n :: st) σ (nwA σ 21 n f) := by
  obtain ⟨p, l, e, R, s, m, args, below, meth, c, B, D, cA, sa⟩ := E
  obtain ⟨hx, hb, hml, hr, ho, ht, hK, hA, hn, hst, hlk⟩ := h
  intro r σ' hxx H locs ls hm hS hl
  unfold nwA at hxx
  by_cases hz : kd (sN σ) = 21 ∧ ¬ n < 0 ∧ ln (sN σ) = n.toNatClampNeg
  · rw [if_pos hz] at hxx
    refine va_newaK (atype := .int) hx hb (ht _ hw) rfl hd rfl hz.2.1 hN (by show N0 * 4 ≤ 536870912; omega) hc hs hm.1 fun H1 cB e1 z1 o1 hAr hNm => ?_
    have hcB : cB = cA 1 := Option.some.inj (hNm.symm.trans (hA 1 rfl).2)
    subst hcB
    have z2 : H1.size = H.size + 1 := by rw [z1, hm.1]
    have o2 : ∀ q, q < H.size → H1[q]? = H[q]? := fun q hq => o1 q (by rw [hm.1] at hq; exact hq)
    refine k (some (sN σ)) (gr σ) r σ' hxx H1 locs ls (hm.push rfl ?_ (fun b hb => cel_gr (by omega)) z2 o2) (hS.push z2 o2) hl
    rw [cel_i hz.1, hz.2.2, hN]
    show H1[B + sN σ]? = some (vp_cell _ _)
    rw [e1, vp_cell_i]
    congr 2
    funext j
    simp [gr, sI, sF, sN, defaultValue, newarray.typeOf]
  · rw [if_neg hz] at hxx; cases hxx

theorem k_newaF {α : Type} {E : EE} {cc : ByteArray} {own : String} {nL : Nat} {ret : Option FieldType} {rv : α → Option Value} {mc ms ce sl pc : Nat} {lv : List (Nat × Lv)} {st : List Lv} {σ : Sg} {n : Int32} {N0 : Nat} {f : Option Nat → Sg → Option (α × Sg)} (h : Ok E cc own nL ret) (hw : Cond.arrayClass .float ∈ wsL_law) (hN : n.toNatClampNeg = N0) (hby : N0 * 4 ≤ 536870912) (hc : ce + 1 ≤ E.2.2.2.1.cells) (hs : sl + N0 ≤ E.2.2.2.1.slots) (hd : decode cc pc = .ok (.newarray .float, 2)) (k : ∀ v σ1, Wq E rv nL mc ms (ce + 1) (sl + N0) (pc + 2) lv (LR v :: st) σ1 (f v σ1)) : Wq E rv nL mc ms ce sl pc lv (LI n :: st) σ (nwA σ 20 n f) := by
  obtain ⟨p, l, e, R, s, m, args, below, meth, c, B, D, cA, sa⟩ := E
  obtain ⟨hx, hb, hml, hr, ho, ht, hK, hA, hn, hst, hlk⟩ := h
  intro r σ' hxx H locs ls hm hS hl
  unfold nwA at hxx
  by_cases hz : kd (sN σ) = 20 ∧ ¬ n < 0 ∧ ln (sN σ) = n.toNatClampNeg
  · rw [if_pos hz] at hxx
    refine va_newaK (atype := .float) hx hb (ht _ hw) rfl hd rfl hz.2.1 hN (by show N0 * 4 ≤ 536870912; omega) hc hs hm.1 fun H1 cB e1 z1 o1 hAr hNm => ?_
    have hcB : cB = cA 0 := Option.some.inj (hNm.symm.trans (hA 0 rfl).2)
    subst hcB
    have z2 : H1.size = H.size + 1 := by rw [z1, hm.1]
    have o2 : ∀ q, q < H.size → H1[q]? = H[q]? := fun q hq => o1 q (by rw [hm.1] at hq; exact hq)
    refine k (some (sN σ)) (gr σ) r σ' hxx H1 locs ls (hm.push rfl ?_ (fun b hb => cel_gr (by omega)) z2 o2) (hS.push z2 o2) hl
    rw [cel_f hz.1, hz.2.2, hN]
    show H1[B + sN σ]? = some (vp_cell _ _)
    rw [e1, vp_cell_f]
    congr 2
    funext j
    simp [gr, sI, sF, sN, defaultValue, newarray.typeOf]
  · rw [if_neg hz] at hxx; cases hxx

theorem k_newaZ {α : Type} {E : EE} {cc : ByteArray} {own : String} {nL : Nat} {ret : Option FieldType} {rv : α → Option Value} {mc ms ce sl pc : Nat} {lv : List (Nat × Lv)} {st : List Lv} {σ : Sg} {n : Int32} {N0 : Nat} {f : Option Nat → Sg → Option (α × Sg)} (h : Ok E cc own nL ret) (hw : Cond.arrayClass .boolean ∈ wsL_law) (hN : n.toNatClampNeg = N0) (hby : N0 * 4 ≤ 536870912) (hc : ce + 1 ≤ E.2.2.2.1.cells) (hs : sl + N0 ≤ E.2.2.2.1.slots) (hd : decode cc pc = .ok (.newarray .boolean, 2)) (k : ∀ v σ1, Wq E rv nL mc ms (ce + 1) (sl + N0) (pc + 2) lv (LR v :: st) σ1 (f v σ1)) : Wq E rv nL mc ms ce sl pc lv (LI n :: st) σ (nwA σ 22 n f) := by
  obtain ⟨p, l, e, R, s, m, args, below, meth, c, B, D, cA, sa⟩ := E
  obtain ⟨hx, hb, hml, hr, ho, ht, hK, hA, hn, hst, hlk⟩ := h
  intro r σ' hxx H locs ls hm hS hl
  unfold nwA at hxx
  by_cases hz : kd (sN σ) = 22 ∧ ¬ n < 0 ∧ ln (sN σ) = n.toNatClampNeg
  · rw [if_pos hz] at hxx
    refine va_newaK (atype := .boolean) hx hb (ht _ hw) rfl hd rfl hz.2.1 hN (by show N0 * 1 ≤ 536870912; omega) hc hs hm.1 fun H1 cB e1 z1 o1 hAr hNm => ?_
    have hcB : cB = cA 2 := Option.some.inj (hNm.symm.trans (hA 2 rfl).2)
    subst hcB
    have z2 : H1.size = H.size + 1 := by rw [z1, hm.1]
    have o2 : ∀ q, q < H.size → H1[q]? = H[q]? := fun q hq => o1 q (by rw [hm.1] at hq; exact hq)
    refine k (some (sN σ)) (gr σ) r σ' hxx H1 locs ls (hm.push rfl ?_ (fun b hb => cel_gr (by omega)) z2 o2) (hS.push z2 o2) hl
    rw [cel_z hz.1, hz.2.2, hN]
    show H1[B + sN σ]? = some (vp_cell _ _)
    rw [e1, vp_cell_i]
    congr 2
    funext j
    simp [gr, sI, sF, sN, defaultValue, newarray.typeOf]
  · rw [if_neg hz] at hxx; cases hxx

theorem k_newq {α : Type} {E : EE} {cc : ByteArray} {own : String} {nL : Nat} {ret : Option FieldType} {rv : α → Option Value} {mc ms ce sl pc : Nat} {lv : List (Nat × Lv)} {st : List Lv} {σ : Sg} {n : Int32} {N0 c0 idx : Nat} {C0 : String} {f : Option Nat → Sg → Option (α × Sg)} (h : Ok E cc own nL ret) (hok : aok (3 + c0) = true) (hty : aty (3 + c0) = .object C0) (hw : Cond.classLink own idx C0 ∈ wsL_law) (hao : Cond.arrayOver (.object C0) ∈ nwL) (hN : n.toNatClampNeg = N0) (hby : N0 * 4 ≤ 536870912) (hc : ce + 1 ≤ E.2.2.2.1.cells) (hs : sl + N0 ≤ E.2.2.2.1.slots) (hd : decode cc pc = .ok (.anewarray idx, 3)) (k : ∀ v σ1, Wq E rv nL mc ms (ce + 1) (sl + N0) (pc + 3) lv (LR v :: st) σ1 (f v σ1)) : Wq E rv nL mc ms ce sl pc lv (LI n :: st) σ (nwA σ (30 + c0) n f) := by
  obtain ⟨p, l, e, R, s, m, args, below, meth, c, B, D, cA, sa⟩ := E
  obtain ⟨hx, hb, hml, hr, ho, ht, hK, hA, hn, hst, hlk⟩ := h
  intro r σ' hxx H locs ls hm hS hl
  unfold nwA at hxx
  by_cases hz : kd (sN σ) = 30 + c0 ∧ ¬ n < 0 ∧ ln (sN σ) = n.toNatClampNeg
  · rw [if_pos hz] at hxx
    subst hN
    refine W.anew hx hb ho (ht _ hw) (va_AO.use (hn _ hao)) rfl hd rfl hz.2.1 hby hc hs fun cB kA comp f1 f2 f3 f4 => ?_
    have hAr := (hA (3 + c0) hok).2
    rw [hty] at hAr
    obtain ⟨kA2, comp2, g1, g2, g3, g4⟩ := hAr
    have hcB : cB = cA (3 + c0) := Option.some.inj (by first | exact f1.symm.trans g4 | exact f4.symm.trans g4 | exact f3.symm.trans g4)
    generalize hH1 : H.push ({ cls := cB, slots := Array.replicate n.toNatClampNeg .null, vm := .none } : Cell) = H1
    have z2 : H1.size = H.size + 1 := by rw [← hH1, Array.size_push]
    have e1 : H1[H.size]? = some (arrV cB n.toNatClampNeg (fun _ => .null)) := by rw [← hH1, Array.getElem?_push_size, ← arrV_new]
    have o2 : ∀ q : Nat, q < H.size → H1[q]? = H[q]? := fun q hq => by rw [← hH1, Array.getElem?_push, if_neg (Nat.ne_of_lt hq)]
    have k9 := k (some (sN σ)) (gr σ) r σ' hxx H1 locs ls (hm.push rfl (by
      rw [cel_r hz.1, hz.2.2]
      show H1[B + sN σ]? = some (vp_cell _ _)
      rw [← hm.1, e1, hcB, vp_cell_q]
      congr 2
      funext j
      simp [gr, sR, sN, va_rf]) (fun b hb => cel_gr (by omega)) z2 o2) (hS.push z2 o2) hl
    rw [hm.1]
    exact k9
  · rw [if_neg hz] at hxx; cases hxx

theorem cloneW {p : Program} {l : Launch} {e : Env} {R : Room} {s : State} {m : MethodId} {args : Array Value} {below : List Frame} {meth : Method} {c : Code} {H : Heap} {locs : List Loc} {ce sl : Nat} {Q : State → Prop} {cc : ByteArray} {pc : Nat} {ls : Array Slot} {rest : List Value} {B : Nat} {D : va_G} {cA : Nat → ClassId} {sa : Nat → Nat} {σ : Sg} {own : String} {idx : Nat} (hx : p.tables.exec = Jvm.exec) (hb : c.code = cc) (hml : c.maxLocals = ls.size) (ho : s.vm.findClass own = some m.cls) {ad : String} (hlink : (Cond.methodLink own idx ⟨ad, "clone", "()Ljava/lang/Object;"⟩).before args s = true) (hsame : (Cond.sameMethod ad "java/lang/Object" "clone" "()Ljava/lang/Object;").before args s = true)
    (hnat : (Cond.native ⟨"java/lang/Object", "clone", "()Ljava/lang/Object;"⟩).before args s = true) (hinst : (Cond.instanceMethod ⟨"java/lang/Object", "clone", "()Ljava/lang/Object;"⟩).before args s = true)
    (hsel : (Cond.selects ad ⟨ad, "clone", "()Ljava/lang/Object;"⟩ ⟨"java/lang/Object", "clone", "()Ljava/lang/Object;"⟩).before args s = true) (hcl : va_Nw (.castable ad "java/lang/Cloneable") s) (had : ad = "[I") (hA : arK cA s) (hst : Sta B sa s s.heap) {k0 : Nat} (hk0 : k0 < 3) (hm : Hm B D cA σ H) (hS : va_S (fun q => B ≤ q) s.heap H locs) (z1 : kd (sN σ) = 21) (z2 : ln (sN σ) = (stV k0).length)
    (hframes : 1 ≤ R.frames) (hlocals : (rest.map fun v => v.category).sum + 14 ≤ R.locals) (hcells : ce + 1 ≤ R.cells) (hslots : sl + (stV k0).length ≤ R.slots) (hdg : decode cc pc = .ok (.invokevirtual idx, 3))
    (kk : ∀ (H1 : Heap), Hm B D cA (sN σ + 1, (fun a j => if a = sN σ then stv k0 j else sI σ a j), sR σ, sF σ, sL σ) H1 → va_S (fun q => B ≤ q) s.heap H1 locs → W p l e R s m args below meth c H1 locs (ce + 1) (sl + (stV k0).length) Q (F0 m (pc + 3) ls (.ref (B + sN σ) :: rest))) : W p l e R s m args below meth c H locs ce sl Q (F0 m pc ls (.ref (sa k0) :: rest)) := by
  subst had
  obtain ⟨cell, g1, g2, g3, g4, g5, g6⟩ := (hst k0 hk0).2.2
  have hsz : cell.slots.size = (stV k0).length := by rw [g5]; simp
  have hcA : cell.cls = cA 1 := Option.some.inj (g4.symm.trans (hA 1 rfl).2)
  have hHc : H[sa k0]? = some cell := by rw [hS.2.1 _ (Array.getElem?_eq_some_iff.mp g1).1 g6]; exact g1
  obtain ⟨c0, t0', f1, f2, f3⟩ := Cond.castable_spec (va_Nw.use (A := args) rfl hcl)
  cases g4.symm.trans f1
  intro T hT X
  have hcellT : T.heap[sa k0]? = some cell := by rw [hT]; exact hHc
  obtain ⟨-, kA, hkA, comp, hkind⟩ := State.isArrayOf_alike X.warmed.alike ((hA 1 rfl).1 0 (fun _ => .null))
  obtain ⟨-, kS, hkS, compS, hkindS⟩ := (hA 1 rfl).1 0 (fun _ => .null)
  obtain ⟨vm', X', st⟩ := X.cloneArray hx ho hlink hsame hnat hinst hsel (a := sa k0) (cell := cell) hcellT g3 g2 g4 f2 f3
    (fun i v hv => by
      rw [hcA]
      have hk' : T.vm.classes[cA 1]? = some kA := hkA
      have hv2 : fits .int v = true := by
        rw [g5] at hv
        simp only [Array.getElem?_ofFn] at hv
        split at hv
        · cases hv; rfl
        · cases hv
      simpa [State.fitsSlot, State.slotType?, hk', hkind, aty] using hv2)
    (g := F0 m pc ls (.ref (sa k0) :: rest)) rfl (by rw [hml]) rfl (by rw [hb]; exact hdg) hframes (by show 2 * 0 + _ + 14 ≤ _; omega) hcells (by rw [hsz]; exact hslots) (hloader := by rw [hcA]; exact Vm.clonesLoader_of_array hkS hkindS)
  rw [hsz] at X'
  have hcellE : ({ cls := cell.cls, slots := cell.slots } : Cell) = vp_cell (cA 1) ((stV k0).length, .inl (fun j => stv k0 j)) := by
    rw [vp_cell_i, hcA, g5]
    rfl
  rw [hcellE] at X' st
  generalize hH1 : H.push (vp_cell (cA 1) ((stV k0).length, .inl (fun j => stv k0 j))) = H1
  have z1' : H1.size = H.size + 1 := by rw [← hH1, Array.size_push]
  have e1 : H1[H.size]? = some (vp_cell (cA 1) ((stV k0).length, .inl (fun j => stv k0 j))) := by rw [← hH1, Array.getElem?_push_size]
  have o1 : ∀ q : Nat, q < H.size → H1[q]? = H[q]? := fun q hq => by rw [← hH1, Array.getElem?_push, if_neg (Nat.ne_of_lt hq)]
  obtain ⟨t, b1, b2⟩ := kk H1 (hm.push rfl (by
      rw [cel_i z1, z2]
      show H1[B + sN σ]? = some _
      rw [← hm.1, e1]
      rw [vp_cell_i, vp_cell_i]
      congr 2
      funext j
      simp [sI, sN]) (fun b hb => by
      have e2 : ∀ a j, a = b → (if a = sN σ then stv k0 j else sI σ a j) = sI σ a j := fun a j h => if_neg (by omega)
      have e3 : sI (sN σ + 1, (fun a j => if a = sN σ then stv k0 j else sI σ a j), sR σ, sF σ, sL σ) b = sI σ b := funext fun j => e2 b j rfl
      have e4 : sR (sN σ + 1, (fun a j => if a = sN σ then stv k0 j else sI σ a j), sR σ, sF σ, sL σ) b = sR σ b := rfl
      have e5 : sF (sN σ + 1, (fun a j => if a = sN σ then stv k0 j else sI σ a j), sR σ, sF σ, sL σ) b = sF σ b := rfl
      have e6 : sL (sN σ + 1, (fun a j => if a = sN σ then stv k0 j else sI σ a j), sR σ, sF σ, sL σ) b = sL σ b := rfl
      simp only [cel, tv, e3, e4, e5, e6]) z1' o1) (hS.push z1' o1)
    ((T.setVm vm').pushCell (vp_cell (cA 1) ((stV k0).length, .inl (fun j => stv k0 j)))) (by rw [← hH1, ← hT]; rfl) X'
  refine ⟨t, st t ?_, b2⟩
  rw [hT, hm.1]
  exact b1
theorem k_clone {α : Type} {E : EE} {cc : ByteArray} {own : String} {nL : Nat} {ret : Option FieldType} {rv : α → Option Value} {mc ms ce sl pc : Nat} {lv : List (Nat × Lv)} {st : List Lv} {σ : Sg} {k0 idx : Nat} {f : Option Nat → Sg → Option (α × Sg)} (h : Ok E cc own nL ret) (hk0 : k0 < 3) (hlk' : Cond.methodLink own idx ⟨"[I", "clone", "()Ljava/lang/Object;"⟩ ∈ wsL_law) (hsame : Cond.sameMethod "[I" "java/lang/Object" "clone" "()Ljava/lang/Object;" ∈ wsL_law) (hnat : Cond.native ⟨"java/lang/Object", "clone", "()Ljava/lang/Object;"⟩ ∈ wsL_law) (hinst : Cond.instanceMethod ⟨"java/lang/Object", "clone", "()Ljava/lang/Object;"⟩ ∈ wsL_law) (hsel : Cond.selects "[I" ⟨"[I", "clone", "()Ljava/lang/Object;"⟩ ⟨"java/lang/Object", "clone", "()Ljava/lang/Object;"⟩ ∈ wsL_law) (hcas : Cond.castable "[I" "java/lang/Cloneable" ∈ nwL) (hfr : 1 ≤ E.2.2.2.1.frames) (hlo : (st.map lcat).sum + 14 ≤ E.2.2.2.1.locals) (hc : ce + 1 ≤ E.2.2.2.1.cells) (hs : sl + (stV k0).length ≤ E.2.2.2.1.slots) (hd : decode cc pc = .ok (.invokevirtual idx, 3)) (k : ∀ v σ1, Wq E rv nL mc ms (ce + 1) (sl + (stV k0).length) (pc + 3) lv (LR v :: st) σ1 (f v σ1)) : Wq E rv nL mc ms ce sl pc lv (LT k0 :: st) σ (nwC σ k0 f) := by
  obtain ⟨p, l, e, R, s, m, args, below, meth, c, B, D, cA, sa⟩ := E
  obtain ⟨hx, hb, hml, hr, ho, ht, hK, hA, hn, hst, hlk⟩ := h
  intro r σ' hxx H locs ls hm hS hl
  unfold nwC at hxx
  by_cases hz : kd (sN σ) = 21 ∧ ln (sN σ) = (stV k0).length
  · rw [if_pos hz] at hxx
    exact cloneW hx hb (hml.trans hl.1.symm) ho (ht _ hlk') (ht _ hsame) (ht _ hnat) (ht _ hinst) (ht _ hsel) (hn _ hcas) (by decide) hA hst hk0 hm hS hz.1 hz.2 hfr (by
      have hcat : ((st.map (tvl B sa)).map fun v => v.category).sum = (st.map lcat).sum := by
        rw [List.map_map]
        exact congrArg (fun f => (st.map f).sum) (funext fun v => tvl_cat B sa v)
      rw [hcat]; exact hlo) hc hs hd (fun H1 hm1 hS1 => k _ _ r σ' hxx H1 locs ls hm1 hS1 hl)
  · rw [if_neg hz] at hxx; cases hxx

def ckA {β : Type} (σ : Sg) (v : Option Nat) (x : Option β) : Option β := match v with
  | none => none
  | some a => if kd a = 21 ∧ a < sN σ then x else none
theorem k_cast {α : Type} {E : EE} {cc : ByteArray} {own : String} {nL : Nat} {ret : Option FieldType} {rv : α → Option Value} {mc ms ce sl pc : Nat} {lv : List (Nat × Lv)} {st : List Lv} {σ : Sg} {x : Option (α × Sg)} {v : Option Nat} {idx : Nat} (h : Ok E cc own nL ret) (hw : Cond.classLink own idx "[I" ∈ wsL_law) (hd : decode cc pc = .ok (.checkcast idx, 3)) (k : Wq E rv nL mc ms ce sl (pc + 3) lv (LR v :: st) σ x) : Wq E rv nL mc ms ce sl pc lv (LR v :: st) σ (ckA σ v x) := by
  obtain ⟨p, l, e, R, s, m, args, below, meth, c, B, D, cA, sa⟩ := E
  obtain ⟨hx, hb, hml, hr, ho, ht, hK, hA, hn, hst, hlk⟩ := h
  intro r σ' hxx H locs ls hm hS hl
  cases v with
  | none => simp [ckA] at hxx
  | some a =>
    simp only [ckA] at hxx
    by_cases hz : kd a = 21 ∧ a < sN σ
    · rw [if_pos hz] at hxx
      have hat := hm.2 a hz.2
      rw [cel_i hz.1] at hat
      exact va_castA hx hb ho (ht _ hw) (va_P1 hat) 0 rfl (hA 1 rfl).2 hd (k r σ' hxx H locs ls hm hS hl)
    · rw [if_neg hz] at hxx; cases hxx

theorem k_objInit {α : Type} {E : EE} {cc : ByteArray} {own : String} {nL : Nat} {ret : Option FieldType} {rv : α → Option Value} {mc ms ce sl pc : Nat} {lv : List (Nat × Lv)} {st : List Lv} {σ : Sg} {x : Option (α × Sg)} {a : Nat} {idx : Nat} (h : Ok E cc own nL ret) (hlk' : Cond.methodLink own idx objectInit ∈ wsL_law) (hinst : Cond.instanceMethod objectInit ∈ wsL_law) (hcode : Cond.code objectInit ⟨#[0xb1]⟩ 1 none ∈ wsL_law) (hfr : 1 ≤ E.2.2.2.1.frames) (hlo : (st.map lcat).sum + 12 ≤ E.2.2.2.1.locals) (hd : decode cc pc = .ok (.invokespecial idx, 3)) (k : Wq E rv nL mc ms ce sl (pc + 3) lv st σ x) : Wq E rv nL mc ms ce sl pc lv (LR (some a) :: st) σ x := by
  obtain ⟨p, l, e, R, s, m, args, below, meth, c, B, D, cA, sa⟩ := E
  obtain ⟨hx, hb, hml, hr, ho, ht, hK, hA, hn, hst, hlk⟩ := h
  intro r σ' hxx H locs ls hm hS hl
  have hcat : ((st.map (tvl B sa)).map fun v => v.category).sum = (st.map lcat).sum := by
    rw [List.map_map]
    exact congrArg (fun f => (st.map f).sum) (funext fun v => tvl_cat B sa v)
  refine W.objInit (a := B + a) hx hb ho (ht _ hlk') (ht _ hinst) (ht _ hcode) rfl (by rw [hml]; exact hl.1) rfl hd hfr (by rw [hcat]; show 2 * 0 + _ + 12 ≤ _; simpa using hlo) ?_
  exact W.eq (g2 := F0 m (pc + 3) ls (st.map (tvl B sa))) rfl (k r σ' hxx H locs ls hm hS hl)

theorem k_putFI {α : Type} {E : EE} {cc : ByteArray} {own : String} {nL : Nat} {ret : Option FieldType} {rv : α → Option Value} {mc ms ce sl pc : Nat} {lv : List (Nat × Lv)} {st : List Lv} {σ : Sg} {x : Option Nat} {c0 k0 : Nat} {C n d : String} {fin : Bool} {idx : Nat} {v : Int32} {f : Sg → Option (α × Sg)} (h : Ok E cc own nL ret) (hF : Fld c0 k0 0 C n d fin .int) (hin : E.2.2.2.2.2.2.2.2.1.name = "<init>") (hoC : own = C) (hlk' : Cond.fieldLink own idx C n d ∈ wsL_law) (hd : decode cc pc = .ok (.putfield idx, 3)) (k : ∀ σ1, Wq E rv nL mc ms ce sl (pc + 3) lv st σ1 (f σ1)) : Wq E rv nL mc ms ce sl pc lv (LI v :: LR x :: st) σ (ptI σ c0 k0 x v f) := by
  obtain ⟨p, l, e, R, s, m, args, below, meth, c, B, D, cA, sa⟩ := E
  obtain ⟨hx, hb, hml, hr, ho, ht, hK, hA, hn, hst, hlk⟩ := h
  intro r σ' hxx H locs ls hm hS hl
  cases x with
  | none => simp [ptI] at hxx
  | some a =>
    simp only [ptI] at hxx
    by_cases hz : kd a = c0 ∧ a < sN σ
    · rw [if_pos hz] at hxx
      exact putW (σ' := uI σ a k0 v) hx hb ho ht hn hK hm hS hF (Or.inl hlk') hz.2 hz.1 (Or.inr ⟨hin, hoC, hlk'⟩) rfl rfl rfl tv_uI (fun b hb => cel_uI hb) hd (fun H1 locs1 hm1 hS1 => k _ r σ' hxx H1 locs1 ls hm1 hS1 hl)
    · rw [if_neg hz] at hxx; cases hxx

theorem k_putFR {α : Type} {E : EE} {cc : ByteArray} {own : String} {nL : Nat} {ret : Option FieldType} {rv : α → Option Value} {mc ms ce sl pc : Nat} {lv : List (Nat × Lv)} {st : List Lv} {σ : Sg} {x : Option Nat} {c0 k0 : Nat} {C n d : String} {fin : Bool} {ty : FieldType} {idx : Nat} {v : Option Nat} {f : Sg → Option (α × Sg)} (h : Ok E cc own nL ret) (hF : Fld c0 k0 1 C n d fin ty) (hty : (∃ o, ty = .object o) ∨ ∃ o, ty = .array o) (hin : E.2.2.2.2.2.2.2.2.1.name = "<init>") (hoC : own = C) (hlk' : Cond.fieldLink own idx C n d ∈ wsL_law) (hd : decode cc pc = .ok (.putfield idx, 3)) (k : ∀ σ1, Wq E rv nL mc ms ce sl (pc + 3) lv st σ1 (f σ1)) : Wq E rv nL mc ms ce sl pc lv (LR v :: LR x :: st) σ (ptR σ c0 k0 x v f) := by
  obtain ⟨p, l, e, R, s, m, args, below, meth, c, B, D, cA, sa⟩ := E
  obtain ⟨hx, hb, hml, hr, ho, ht, hK, hA, hn, hst, hlk⟩ := h
  intro r σ' hxx H locs ls hm hS hl
  cases x with
  | none => simp [ptR] at hxx
  | some a =>
    simp only [ptR] at hxx
    by_cases hz : kd a = c0 ∧ a < sN σ
    · rw [if_pos hz] at hxx
      exact putW (σ' := uR σ a k0 v) hx hb ho ht hn hK hm hS hF (Or.inl hlk') hz.2 hz.1 (Or.inr ⟨hin, hoC, hlk'⟩) (by rcases hty with ⟨o, rfl⟩ | ⟨o, rfl⟩ <;> cases v <;> rfl) (by rcases hty with ⟨o, rfl⟩ | ⟨o, rfl⟩ <;> cases v <;> rfl) rfl tv_uR (fun b hb => cel_uR hb) hd (fun H1 locs1 hm1 hS1 => k _ r σ' hxx H1 locs1 ls hm1 hS1 hl)
    · rw [if_neg hz] at hxx; cases hxx

theorem k_none {α : Type} {E : EE} {rv : α → Option Value} {nL mc ms ce sl pc : Nat} {lv : List (Nat × Lv)} {st : List Lv} {σ : Sg} : Wq E rv nL mc ms ce sl pc lv st σ none := by
  obtain ⟨p, l, e, R, s0, m, args, below, meth, c, B, D, cA, sa⟩ := E
  intro r σ' hxx
  cases hxx
def gX {β : Type} (xs : Nat → Int32) (L : Nat) (i : Int32) (f : Int32 → Option β) : Option β := if ¬ (i < 0 ∨ L ≤ i.toNatClampNeg) then f (xs i.toNatClampNeg) else none
def lnX {β : Type} (L : Nat) (f : Int32 → Option β) : Option β := f (nI L)
section SCRIPT
variable {α : Type} {p : Program} {l : Launch} {e : Env} {R : Room} {s : State} {m : MethodId} {args : Array Value} {below : List Frame} {meth : Method} {c : Code} {B : Nat} {D : va_G} {cA : Nat → ClassId} {sa : Nat → Nat} {cc : ByteArray} {own : String} {nL : Nat} {ret : Option FieldType} {rv : α → Option Value} {mc ms ce sl pc : Nat} {lv : List (Nat × Lv)} {st : List Lv} {σ : Sg} {xs : Nat → Int32} {L : Nat}
theorem k_alX {i : Int32} {f : Int32 → Option (α × Sg)} (h : Ok (p, l, e, R, s, m, args, below, meth, c, B, D, cA, sa) cc own nL ret) (hX : va_X (sa 3) L xs s s.heap) (hbl : sa 3 < s.heap.size) (hbA : ¬ B ≤ sa 3) (hd : decode cc pc = .ok (.iaload, 1)) (k : ∀ v, Wq (p, l, e, R, s, m, args, below, meth, c, B, D, cA, sa) rv nL mc ms ce sl (pc + 1) lv (LI v :: st) σ (f v)) : Wq (p, l, e, R, s, m, args, below, meth, c, B, D, cA, sa) rv nL mc ms ce sl pc lv (LI i :: LT 3 :: st) σ (gX xs L i f) := by
  obtain ⟨hx, hb, hml, hr, ho, ht, hK, hA, hn, hst, hlk⟩ := h
  intro r σ' hxx H locs ls hm hS hl
  unfold gX at hxx
  by_cases hz : ¬ (i < 0 ∨ L ≤ i.toNatClampNeg)
  · rw [if_pos hz] at hxx
    exact va_sld (A := fun q => B ≤ q) hx hb hX hbl hbA hS hz hd (k _ r σ' hxx H locs ls hm hS hl)
  · rw [if_neg hz] at hxx; cases hxx
theorem k_lnX {f : Int32 → Option (α × Sg)} (h : Ok (p, l, e, R, s, m, args, below, meth, c, B, D, cA, sa) cc own nL ret) (hX : va_X (sa 3) L xs s s.heap) (hbl : sa 3 < s.heap.size) (hbA : ¬ B ≤ sa 3) (hd : decode cc pc = .ok (.arraylength, 1)) (k : ∀ v, Wq (p, l, e, R, s, m, args, below, meth, c, B, D, cA, sa) rv nL mc ms ce sl (pc + 1) lv (LI v :: st) σ (f v)) : Wq (p, l, e, R, s, m, args, below, meth, c, B, D, cA, sa) rv nL mc ms ce sl pc lv (LT 3 :: st) σ (lnX L f) := by
  obtain ⟨hx, hb, hml, hr, ho, ht, hK, hA, hn, hst, hlk⟩ := h
  intro r σ' hxx H locs ls hm hS hl
  exact va_slen (A := fun q => B ≤ q) hx hb hX hbl hbA hS hd (k _ r σ' hxx H locs ls hm hS hl)
end SCRIPT
section CALLI
variable {α : Type} {p : Program} {l : Launch} {e : Env} {R : Room} {s : State} {m : MethodId} {args : Array Value} {below : List Frame} {meth : Method} {c : Code} {B : Nat} {D : va_G} {cA : Nat → ClassId} {sa : Nat → Nat} {cc : ByteArray} {own : String} {nL : Nat} {ret : Option FieldType} {rv : α → Option Value} {mc ms ce sl pc : Nat} {lv : List (Nat × Lv)} {σ : Sg}
theorem k_callI {γ : Type} {rvy : γ → Option Value} {toL : γ → List Lv} {y : MethodName} {cy : ByteArray} {ny : Nat} {rm : Room} {As st stk : List Lv} {idx mc1 ms1 : Nat} {xg : Nat → Option (γ × Sg)} {x0 : Option Nat} {f : γ → Sg → Option (α × Sg)} (h : Ok (p, l, e, R, s, m, args, below, meth, c, B, D, cA, sa) cc own nL ret) (hC : ∀ a, Ct l B D cA sa y cy ny none rm rvy (LR (some a) :: As) σ mc1 ms1 (xg a)) (hto : ∀ v, (rvy v).toList = (toL v).map (tvl B sa)) (hcal : Cal y cy ny none As.length) (hyn : y.name = "<init>") (hstat : Cond.instanceMethod y ∈ wsL_law) (hlk : LkM own idx y) (hg : wsL_law.all goodWord = true) (hrm : rm.cells = mc1 ∧ rm.slots = ms1 ∧ rm.frames + 1 ≤ R.frames ∧ 8 + (ny + 11) + rm.locals ≤ R.locals) (hR : ce + mc1 ≤ R.cells ∧ sl + ms1 ≤ R.slots) (hstk : As.reverse ++ LR x0 :: st = stk) (hcat : (st.map lcat).sum ≤ 8) (hd : decode cc pc = .ok (.invokespecial idx, 3))
    (k : ∀ v σ1, Wq (p, l, e, R, s, m, args, below, meth, c, B, D, cA, sa) rv nL mc ms (ce + mc1) (sl + ms1) (pc + 3) lv (toL v ++ st) σ1 (f v σ1)) : Wq (p, l, e, R, s, m, args, below, meth, c, B, D, cA, sa) rv nL mc ms ce sl pc lv stk σ (cx x0 (fun a => cl (xg a) f)) := by
  subst hstk
  have h' := h
  obtain ⟨hx, hb, hml, hr, ho, ht, hK, hA, hn, hst, hlck⟩ := h
  obtain ⟨c1, c2, c3, c4, c5⟩ := hcal
  intro r σ' hxx H locs ls hm hS hl
  cases x0 with
  | none => simp [cx] at hxx
  | some a =>
  simp only [cx] at hxx
  cases hq : xg a with
  | none => rw [hq] at hxx; simp [cl] at hxx
  | some q =>
    rw [hq] at hxx
    obtain ⟨v0, σ1⟩ := q
    have hM := hC a v0 σ1 hq
    have hG : GoodIn wsL_law (Cond.code y cy ny none :: wsL_law) := all_good y hg (fun _ h => h) c1
    have hp : PreS s H (va_Pc ((LR (some a) :: As).map (tvl B sa)) (Bw B D cA sa σ)) (.ref (B + a) :: As.map (tvl B sa)) := ⟨Bw.blind _, fun U hU hW => ⟨rfl, Bw.at h' hm hS hU hW⟩⟩
    have hlen : (As.map (tvl B sa)).length = As.length := List.length_map ..
    have hstv : (F0 m pc ls ((As.reverse ++ LR (some a) :: st).map (tvl B sa))).stack = (As.map (tvl B sa)).reverse ++ .ref (B + a) :: st.map (tvl B sa) := by
      show (As.reverse ++ LR (some a) :: st).map (tvl B sa) = _
      rw [List.map_append, List.map_reverse]
      rfl
    have hfin : ∀ (H1 : Heap) (locs1 : List Loc), Hm B D cA σ1 H1 → va_S (fun q => B ≤ q) s.heap H1 locs1 → W p l e R s m args below meth c H1 locs1 (ce + mc1) (sl + ms1) (MQ below (Qr B D cA rv r σ') args s mc ms (fun q => B ≤ q)) (F0 m (pc + 3) ls ((rvy v0).toList ++ st.map (tvl B sa))) := by
      intro H1 locs1 hm1 hS1
      have := k v0 σ1 r σ' hxx H1 locs1 ls hm1 hS1 hl
      rw [List.map_append, ← hto] at this
      exact this
    rcases hlk with hl1 | ⟨host, hl1⟩
    · exact runQ (va_runI ⟨hx, hb, hml, ho, ht⟩ hM ⟨callB_of As.length ht hG rfl hrm.1 hrm.2.1 (ht _ c2) (ht _ hl1) ⟨c3, c4, c5⟩ hrm.2.2, hyn, ht _ hstat⟩ hp rfl hlen hl.1 hstv (roomS hcat) hd hR) hS hfin
    · exact runQ (va_runIN (host := host) ⟨hx, hb, hml, ho, ht⟩ hM ⟨va_cnB As.length ht hG rfl hrm.1 hrm.2.1 (hn _ hl1) (ht _ c2) ⟨c3, c4, c5⟩ hrm.2.2, hyn, ht _ hstat⟩ hp rfl hlen hl.1 hstv (roomS hcat) hd hR) hS hfin

theorem k_callIU {y : MethodName} {cy : ByteArray} {ny : Nat} {rm : Room} {As st stk : List Lv} {idx mc1 ms1 : Nat} {xg : Nat → Option (Unit × Sg)} {x0 : Option Nat} {f : Unit → Sg → Option (α × Sg)} (h : Ok (p, l, e, R, s, m, args, below, meth, c, B, D, cA, sa) cc own nL ret) (hC : ∀ a, Ct l B D cA sa y cy ny none rm rU (LR (some a) :: As) σ mc1 ms1 (xg a)) (hcal : Cal y cy ny none As.length) (hyn : y.name = "<init>") (hstat : Cond.instanceMethod y ∈ wsL_law) (hlk : LkM own idx y) (hg : wsL_law.all goodWord = true) (hrm : rm.cells = mc1 ∧ rm.slots = ms1 ∧ rm.frames + 1 ≤ R.frames ∧ 8 + (ny + 11) + rm.locals ≤ R.locals) (hR : ce + mc1 ≤ R.cells ∧ sl + ms1 ≤ R.slots) (hstk : As.reverse ++ LR x0 :: st = stk) (hcat : (st.map lcat).sum ≤ 8) (hd : decode cc pc = .ok (.invokespecial idx, 3))
    (k : ∀ v σ1, Wq (p, l, e, R, s, m, args, below, meth, c, B, D, cA, sa) rv nL mc ms (ce + mc1) (sl + ms1) (pc + 3) lv st σ1 (f v σ1)) : Wq (p, l, e, R, s, m, args, below, meth, c, B, D, cA, sa) rv nL mc ms ce sl pc lv stk σ (cx x0 (fun a => cl (xg a) f)) := k_callI (toL := fun _ => []) h hC (fun v => rfl) hcal hyn hstat hlk hg hrm hR hstk hcat hd k
end CALLI
theorem cls0 : Cls 0 RX0 2 := ⟨TX0, tyX0, rfl, inlX0, rfl, by decide, tyX0_ok, fun j hj => by
  rcases (show j = 0 ∨ j = 1 by omega) with rfl | rfl <;> rfl⟩
theorem cls1 : Cls 1 RX1 5 := ⟨TX1, tyX1, rfl, inlX1, rfl, by decide, tyX1_ok, fun j hj => by
  rcases (show j = 0 ∨ j = 1 ∨ j = 2 ∨ j = 3 ∨ j = 4 by omega) with rfl | rfl | rfl | rfl | rfl <;> rfl⟩
theorem cls2 : Cls 2 RX2 7 := ⟨TX2, tyX2, rfl, inlX2, rfl, by decide, tyX2_ok, fun j hj => by
  rcases (show j = 0 ∨ j = 1 ∨ j = 2 ∨ j = 3 ∨ j = 4 ∨ j = 5 ∨ j = 6 by omega) with rfl | rfl | rfl | rfl | rfl | rfl | rfl <;> rfl⟩
theorem cls3 : Cls 3 RX3 4 := ⟨TX3, tyX3, rfl, inlX3, rfl, by decide, tyX3_ok, fun j hj => by
  rcases (show j = 0 ∨ j = 1 ∨ j = 2 ∨ j = 3 by omega) with rfl | rfl | rfl | rfl <;> rfl⟩
theorem cls4 : Cls 4 RX4 5 := ⟨TX4, tyX4, rfl, inlX4, rfl, by decide, tyX4_ok, fun j hj => by
  rcases (show j = 0 ∨ j = 1 ∨ j = 2 ∨ j = 3 ∨ j = 4 by omega) with rfl | rfl | rfl | rfl | rfl <;> rfl⟩
theorem cls5 : Cls 5 RX5 9 := ⟨TX5, tyX5, rfl, inlX5, rfl, by decide, tyX5_ok, fun j hj => by
  rcases (show j = 0 ∨ j = 1 ∨ j = 2 ∨ j = 3 ∨ j = 4 ∨ j = 5 ∨ j = 6 ∨ j = 7 ∨ j = 8 by omega) with rfl | rfl | rfl | rfl | rfl | rfl | rfl | rfl | rfl <;> rfl⟩
theorem cls6 : Cls 6 RX6 5 := ⟨TX6, tyX6, rfl, inlX6, rfl, by decide, tyX6_ok, fun j hj => by
  rcases (show j = 0 ∨ j = 1 ∨ j = 2 ∨ j = 3 ∨ j = 4 by omega) with rfl | rfl | rfl | rfl | rfl <;> rfl⟩
theorem cls7 : Cls 7 RX7 4 := ⟨TX7, tyX7, rfl, inlX7, rfl, by decide, tyX7_ok, fun j hj => by
  rcases (show j = 0 ∨ j = 1 ∨ j = 2 ∨ j = 3 by omega) with rfl | rfl | rfl | rfl <;> rfl⟩
theorem cls8 : Cls 8 RX8 11 := ⟨TX8, tyX8, rfl, inlX8, rfl, by decide, tyX8_ok, fun j hj => by
  rcases (show j = 0 ∨ j = 1 ∨ j = 2 ∨ j = 3 ∨ j = 4 ∨ j = 5 ∨ j = 6 ∨ j = 7 ∨ j = 8 ∨ j = 9 ∨ j = 10 by omega) with rfl | rfl | rfl | rfl | rfl | rfl | rfl | rfl | rfl | rfl | rfl <;> rfl⟩
theorem cls9 : Cls 9 RX9 48 := ⟨TX9, tyX9, rfl, inlX9, rfl, by decide, tyX9_ok, fun j hj => by
  rcases (show j = 0 ∨ j = 1 ∨ j = 2 ∨ j = 3 ∨ j = 4 ∨ j = 5 ∨ j = 6 ∨ j = 7 ∨ j = 8 ∨ j = 9 ∨ j = 10 ∨ j = 11 ∨ j = 12 ∨ j = 13 ∨ j = 14 ∨ j = 15 ∨ j = 16 ∨ j = 17 ∨ j = 18 ∨ j = 19 ∨ j = 20 ∨ j = 21 ∨ j = 22 ∨ j = 23 ∨ j = 24 ∨ j = 25 ∨ j = 26 ∨ j = 27 ∨ j = 28 ∨ j = 29 ∨ j = 30 ∨ j = 31 ∨ j = 32 ∨ j = 33 ∨ j = 34 ∨ j = 35 ∨ j = 36 ∨ j = 37 ∨ j = 38 ∨ j = 39 ∨ j = 40 ∨ j = 41 ∨ j = 42 ∨ j = 43 ∨ j = 44 ∨ j = 45 ∨ j = 46 ∨ j = 47 by omega) with rfl | rfl | rfl | rfl | rfl | rfl | rfl | rfl | rfl | rfl | rfl | rfl | rfl | rfl | rfl | rfl | rfl | rfl | rfl | rfl | rfl | rfl | rfl | rfl | rfl | rfl | rfl | rfl | rfl | rfl | rfl | rfl | rfl | rfl | rfl | rfl | rfl | rfl | rfl | rfl | rfl | rfl | rfl | rfl | rfl | rfl | rfl | rfl <;> rfl⟩
