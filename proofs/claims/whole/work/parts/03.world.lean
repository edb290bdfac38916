/-! The world: memory as numbers by pool, place and slot; the layout of the cells; rows that read and write them. -/
abbrev Mem : Type := Nat → Nat → Nat → Int32
abbrev Lay : Type := va_G × (Nat → ClassId) × Nat × (Nat → Nat)
def mp (M : Mem) (c i k : Nat) (v : Int32) : Mem := fun c' i' k' => if c' = c ∧ i' = i ∧ k' = k then v else M c' i' k'
theorem mp_eq (M : Mem) (c i k : Nat) (v : Int32) : mp M c i k v c i k = v := by simp [mp]
theorem mp_row (M : Mem) {c i : Nat} (k : Nat) (v : Int32) {c' i' : Nat} (h : ¬ (c' = c ∧ i' = i)) : mp M c i k v c' i' = M c' i' := by
  funext j
  simp only [mp]
  rw [if_neg]
  exact fun q => h ⟨q.1, q.2.1⟩
theorem mp_upd (M : Mem) (c i k : Nat) (v : Int32) : mp M c i k v c i = upd (M c i) k v := by
  funext j
  simp [mp, upd]
theorem mp_ne (M : Mem) {c i k : Nat} (v : Int32) {c' i' k' : Nat} (h : ¬ (c' = c ∧ i' = i ∧ k' = k)) : mp M c i k v c' i' k' = M c' i' k' := by
  simp only [mp]
  rw [if_neg h]
/-! partial runs -/
def gd {α : Type} (p : Prop) [Decidable p] (o : Option α) : Option α := if p then o else none
theorem gd_some {α : Type} {p : Prop} [Decidable p] {o : Option α} {y : α} (h : gd p o = some y) : p ∧ o = some y := by
  unfold gd at h
  by_cases hp : p
  · rw [if_pos hp] at h; exact ⟨hp, h⟩
  · rw [if_neg hp] at h; cases h
theorem gd_pos {α : Type} {p : Prop} [Decidable p] (o : Option α) (h : p) : gd p o = o := if_pos h
def ob1 {α β : Type} (o : Option α) (f : α → Option β) : Option β := match o with | none => none | some a => f a
theorem ob1_some {α β : Type} {o : Option α} {f : α → Option β} {y : β} (h : ob1 o f = some y) : ∃ a, o = some a ∧ f a = some y := by
  cases o with
  | none => cases h
  | some a => exact ⟨a, rfl, h⟩
theorem ob1_eq {α β : Type} {o : Option α} {a : α} (f : α → Option β) (h : o = some a) : ob1 o f = f a := by rw [h]; rfl
def ob2 {α γ β : Type} (o : Option (α × γ)) (f : α → γ → Option β) : Option β := match o with | none => none | some a => f a.1 a.2
theorem ob2_some {α γ β : Type} {o : Option (α × γ)} {f : α → γ → Option β} {y : β} (h : ob2 o f = some y) : ∃ a b, o = some (a, b) ∧ f a b = some y := by
  cases o with
  | none => cases h
  | some a => exact ⟨a.1, a.2, rfl, h⟩
theorem ob2_eq {α γ β : Type} {o : Option (α × γ)} {a : α} {b : γ} (f : α → γ → Option β) (h : o = some (a, b)) : ob2 o f = f a b := by rw [h]; rfl
def om {α β : Type} (o : Option α) (n : β) (f : α → β) : β := match o with | none => n | some a => f a
theorem om_n {α β : Type} (n : β) (f : α → β) : om none n f = n := rfl
theorem om_s {α β : Type} (a : α) (n : β) (f : α → β) : om (some a) n f = f a := rfl
def lt1 {α β : Type} (a : α) (f : α → Option β) : Option β := f a
theorem lt1_some {α β : Type} {a : α} {f : α → Option β} {y : β} (h : lt1 a f = some y) : ∃ b, b = a ∧ f b = some y := ⟨a, rfl, h⟩
/-! the layout -/
def me (P : Mem × Mem) (c : Nat) : Mem := match Nat.blt c 20 with | true => P.1 | false => P.2
def pr (ad : Nat → Nat → Nat) (v : Int32) : Option Nat := if v < 0 then none else some (ad 5 v.toNatClampNeg)
def sv (ad : Nat → Nat → Nat) (M : Mem) (c i : Nat) (q : Nat × Nat) : Value := match q.1 with
  | 0 => .int (M c i q.2)
  | 1 => .ref (ad q.2 0)
  | 2 => .ref (ad q.2 i)
  | 3 => .int (nI i)
  | _ => va_rf (pr ad (M c i q.2))
def kd (c : Nat) : Nat × Nat × List (Nat × Nat) := match c with
  | 0 => (0, 8, [(1, 1), (1, 2), (1, 3), (1, 4), (1, 11), (0, 0), (0, 1)])
  | 1 => (0, 4, [(1, 9), (0, 0), (0, 1)])
  | 2 => (0, 1, [(1, 1), (1, 10), (0, 0), (0, 1), (0, 2)])
  | 3 => (0, 0, [(1, 1), (1, 2), (0, 0)])
  | 4 => (0, 6, [(1, 12), (1, 13), (0, 0), (0, 1), (0, 2)])
  | 5 => (0, 3, [(2, 14), (0, 0)])
  | 6 => (0, 5, [(3, 0), (2, 15), (2, 16), (2, 7), (0, 0), (4, 1), (0, 2), (0, 3), (0, 4), (0, 5), (0, 6), (0, 7), (0, 8), (0, 9), (0, 10), (0, 11), (0, 12), (0, 13), (0, 14), (0, 15)])
  | 7 => (0, 2, [(2, 17), (2, 18), (0, 0)])
  | 8 => (0, 7, [(3, 0), (0, 0), (2, 19), (0, 1), (0, 2), (0, 3)])
  | 9 => (6, 0, [])
  | 10 => (4, 0, [])
  | 11 => (5, 0, [])
  | 12 => (1, 12, [])
  | 13 => (1, 180, [])
  | 14 => (1, 160, [])
  | 15 => (1, 6, [])
  | 16 => (1, 6, [])
  | 17 => (1, 8, [])
  | 18 => (1, 8, [])
  | 19 => (3, 0, [])
  | 20 => (0, 9, [(0, 0), (1, 21), (1, 22), (1, 23), (1, 24), (1, 25), (1, 26), (1, 27), (0, 1), (1, 28), (1, 29), (1, 30), (1, 31), (1, 32), (1, 33), (1, 34), (1, 35), (1, 36), (1, 37), (1, 38), (1, 39), (1, 40), (1, 41), (1, 42), (1, 43), (1, 44), (1, 45), (1, 46), (1, 47), (1, 48), (1, 49), (1, 50), (0, 2), (0, 3), (0, 4), (0, 5), (0, 6), (0, 7), (0, 8), (1, 51), (0, 9), (0, 10), (0, 11), (0, 12), (1, 52)])
  | 21 => (1, 32, [])
  | 22 => (1, 32, [])
  | 23 => (1, 32, [])
  | 24 => (1, 384, [])
  | 25 => (1, 32, [])
  | 26 => (1, 32, [])
  | 27 => (1, 40, [])
  | 28 => (1, 1280, [])
  | 29 => (1, 8, [])
  | 30 => (1, 37, [])
  | 31 => (1, 6, [])
  | 32 => (1, 6, [])
  | 33 => (1, 6, [])
  | 34 => (1, 6, [])
  | 35 => (2, 6, [])
  | 36 => (2, 6, [])
  | 37 => (1, 6, [])
  | 38 => (1, 6, [])
  | 39 => (1, 6, [])
  | 40 => (1, 6, [])
  | 41 => (1, 6, [])
  | 42 => (1, 6, [])
  | 43 => (1, 6, [])
  | 44 => (1, 6, [])
  | 45 => (1, 6, [])
  | 46 => (1, 6, [])
  | 47 => (1, 48, [])
  | 48 => (1, 48, [])
  | 49 => (1, 36, [])
  | 50 => (1, 36, [])
  | 51 => (1, 12, [])
  | 52 => (1, 180, [])
  | _ => (1, 0, [])
def cnt (M : Mem) (c : Nat) : Nat := match c with
  | 5 => 8
  | 14 => 8
  | 6 => 6
  | 7 => 6
  | 15 => 6
  | 16 => 6
  | 17 => 6
  | 18 => 6
  | 8 => (M 60 0 1).toNatClampNeg
  | 19 => (M 60 0 1).toNatClampNeg
  | c => if c < 53 then 1 else 0
def ob (ca : Nat → ClassId) (ad : Nat → Nat → Nat) (P : Mem × Mem) (c i : Nat) : va_E := match kd c with
  | (0, ci, sh) => .inr (ci, sh.map (sv ad (me P c) c i))
  | (1, n, _) => .inl (ca 0, n, .inl (me P c c i))
  | (2, n, _) => .inl (ca 1, n, .inl (me P c c i))
  | (3, _, _) => .inl (ca 0, (P.1 8 i 4).toNatClampNeg, .inl (P.1 19 i))
  | (4, _, _) => .inl (ca 3, 6, .inr (.inr (.inr (.inr (fun j => some (ad 6 j))))))
  | (5, _, _) => .inl (ca 2, 8, .inr (.inr (.inr (.inr (fun j => some (ad 5 j))))))
  | _ => .inl (ca 4, 32, .inr (.inr (.inr (.inr (fun j => if j < (P.1 60 0 0).toNatClampNeg then some (ad 8 j) else none)))))
def sl (k : Nat) : Nat := match k with
  | 0 => 1
  | 1 => 3
  | 2 => 4
  | 3 => 5
  | 4 => 1
  | 5 => 111
  | _ => 0
def sc0 : List Int32 := [1]
def sc1 : List Int32 := [2, 6, 8]
def sc2 : List Int32 := [3, 2, 6, 9]
def sc3 : List Int32 := [4, 3, 2, 7, 9]
def sc4 : List Int32 := [5]
def sc5 : List Int32 := [5, (-1), (-1), 5, 5, (-1), 5, 5, (-1), 5, 5, (-1), 5, 5, (-1), 5, 5, 5, 40, (-1), (-1), 40, 5, (-1), 5, 5, (-1), 5, 7, 5, 5, 5, 5, 5, 5, (-1), 5, 5, (-1), 5, 5, (-1), 5, 5, (-1), 5, 5, (-1), 5, 5, (-1), 5, 5, 5, 5, 5, 5, 5, 5, 5, 5, 5, 5, 5, 5, 5, 5, (-1), (-1), 5, (-1), (-1), 5, 5, (-1), 5, (-1), (-1), 5, (-1), (-1), 5, (-1), (-1), 5, (-1), (-1), 5, (-1), (-1), 5, (-1), (-1), 5, (-1), (-1), 5, (-1), (-1), 40, 4095, (-1), (-1), (-1), (-1), 5, 5, (-1), (-1), (-1), (-1)]
def sc (k : Nat) (j : Nat) : Int32 := match k with
  | 0 => sc0.getD j 0
  | 1 => sc1.getD j 0
  | 2 => sc2.getD j 0
  | 3 => sc3.getD j 0
  | 4 => sc4.getD j 0
  | 5 => sc5.getD j 0
  | _ => 0
def zc (k : Nat) : String := match k with
  | 0 => RX4
  | 1 => RX4
  | 2 => RX4
  | 3 => RX4
  | 4 => RX4
  | 5 => RX3
  | _ => ""
def zn (k : Nat) : String := match k with
  | 0 => "PLAIN_BODIES"
  | 1 => "BOX_BODIES"
  | 2 => "CRATE_BODIES"
  | 3 => "CHEST_BODIES"
  | 4 => "ROW_BODIES"
  | 5 => "MOST_NAMED"
  | _ => ""
def ow (E : Lay) : Nat → Prop := fun q => E.2.2.1 ≤ q
def WD (E : Lay) (ad : Nat → Nat → Nat) (P : Mem × Mem) (H : Heap) : Prop :=
  (∀ c i, i < cnt P.1 c → va_at E.1 vwCl (ad c i, ob E.2.1 ad P c i) H ∧ ow E (ad c i)) ∧
  (∀ c i c' i', i < cnt P.1 c → i' < cnt P.1 c' → ad c i = ad c' i' → c = c' ∧ i = i') ∧
  cnt P.1 8 ≤ 32
abbrev tys (E : Lay) : List (ClassId × FieldType) := [(E.2.1 0, .int), (E.2.1 1, .boolean), (E.2.1 2, .object RX3), (E.2.1 3, .object RX5), (E.2.1 4, .object RX7)]
def KK (E : Lay) (U : State) : Prop := va_K E.1 vwCl (tys E) U ∧ va_Nw (Cond.methodLinkNest RX8 9 yX4_init "MonitorTurns") U ∧ va_Nw (Cond.methodLinkNest RX5 20 yX2_init "MonitorTurns") U ∧ va_Nw (Cond.methodLinkNest RX8 36 yX6_init "MonitorTurns") U ∧ va_Nw (Cond.methodLinkNest RX8 47 yX3_init "MonitorTurns") U ∧ va_Nw (Cond.methodLinkNest RX5 92 yX8_isSlot "MonitorTurns") U
def ZZ (E : Lay) (U : State) : Prop := ∀ k, k < 6 → va_Z (zc k) (zn k) "[I" (.ref (E.2.2.2 k)) (ow E) U U.heap ∧ va_T .int (E.2.2.2 k) (sl k) (fun j => .int (sc k j)) (ow E) U U.heap
def PB (E : Lay) (ad : Nat → Nat → Nat) (P : Mem × Mem) (U : State) : Prop := WD E ad P U.heap ∧ KK E U ∧ ZZ E U
theorem KK.warm {E : Lay} {s U : State} (hW : s.WarmedH U.vm) (h : KK E s) : KK E U := ⟨va_K.moved hW.alike h.1, va_Nw.warmM hW h.2.1, va_Nw.warmM hW h.2.2.1, va_Nw.warmM hW h.2.2.2.1, va_Nw.warmM hW h.2.2.2.2.1, va_Nw.warmM hW h.2.2.2.2.2⟩
theorem KK.same {E : Lay} {s U : State} (hv : s.vm = U.vm) (h : KK E s) : KK E U := ⟨va_K.moved (by rw [← hv]; exact Vm.Alike.refl s.vm) h.1, va_Nw.same rfl hv h.2.1, va_Nw.same rfl hv h.2.2.1, va_Nw.same rfl hv h.2.2.2.1, va_Nw.same rfl hv h.2.2.2.2.1, va_Nw.same rfl hv h.2.2.2.2.2⟩
theorem PB.calling {E : Lay} {ad : Nat → Nat → Nat} {P : Mem × Mem} {a : Array Value} {U : State} {g : JFrame} {mk : MethodId} (h : PB E ad P U) : PB E ad P (U.calling g mk a) :=
  ⟨h.1, KK.same rfl h.2.1, fun k hk => ⟨va_Z.moved (Vm.Alike.refl U.vm) (h.2.2 k hk).1, va_T.moved (Vm.Alike.refl U.vm) (h.2.2 k hk).2⟩⟩
theorem PB.at {E : Lay} {ad : Nat → Nat → Nat} {P : Mem × Mem} {s U : State} {H : Heap} {locs : List Loc} (hW : WD E ad P H) (hK : KK E s) (hZ : ZZ E s) (hS : va_S (ow E) s.heap H locs) (hU : U.heap = H) (hw : s.WarmedH U.vm) : PB E ad P U := by
  refine ⟨by rw [hU]; exact hW, hK.warm hw, fun k hk => ?_⟩
  rw [hU]
  exact ⟨((hZ k hk).1.moved hw.alike).kept (fun a h1 h2 => hS.2.1 a h1 h2), ((hZ k hk).2.moved hw.alike).kept (fun a h1 h2 => hS.2.1 a h1 h2)⟩
theorem WD.at {E : Lay} {ad : Nat → Nat → Nat} {P : Mem × Mem} {H : Heap} (h : WD E ad P H) {c i : Nat} (hv : i < cnt P.1 c) {e : va_E} (ho : ob E.2.1 ad P c i = e) : va_P E.1 vwCl [(ad c i, e)] H := by
  intro k q hq
  match k, hq with
  | 0, hq => cases hq; rw [← ho]; exact (h.1 c i hv).1
  | k + 1, hq => simp at hq
theorem WD.put {E : Lay} {ad : Nat → Nat → Nat} {P P' : Mem × Mem} {H H1 : Heap} (h : WD E ad P H) {c i : Nat} (hv : i < cnt P.1 c) (hn : va_at E.1 vwCl (ad c i, ob E.2.1 ad P' c i) H1)
    (ho : ∀ c' i', i' < cnt P.1 c' → ¬ (c' = c ∧ i' = i) → ob E.2.1 ad P' c' i' = ob E.2.1 ad P c' i') (hc : ∀ c', cnt P'.1 c' = cnt P.1 c') (e3 : ∀ q : Nat, q < H.size → q ≠ ad c i → H1[q]? = H[q]?) : WD E ad P' H1 := by
  refine ⟨fun c' i' hv' => ?_, fun c1 i1 c2 i2 h1 h2 he => ?_, by rw [hc]; exact h.2.2⟩
  · rw [hc] at hv'
    by_cases hq : c' = c ∧ i' = i
    · obtain ⟨rfl, rfl⟩ := hq
      exact ⟨hn, (h.1 _ _ hv').2⟩
    · rw [ho c' i' hv' hq]
      exact ⟨(h.1 c' i' hv').1.kept (e3 _ (h.1 c' i' hv').1.lt (fun z => hq (h.2.1 c' i' c i hv' hv z))), (h.1 c' i' hv').2⟩
  · rw [hc] at h1 h2
    exact h.2.1 c1 i1 c2 i2 h1 h2 he
def okp (c k : Nat) : Prop := c ≠ 60 ∧ ¬ (c = 8 ∧ k = 4)
def up (P : Mem × Mem) (c i k : Nat) (v : Int32) : Mem × Mem := match Nat.blt c 20 with | true => (mp P.1 c i k v, P.2) | false => (P.1, mp P.2 c i k v)
theorem up_cnt (P : Mem × Mem) {c i k : Nat} (v : Int32) (hk : okp c k) (c' : Nat) : cnt (up P c i k v).1 c' = cnt P.1 c' := by
  have h : (up P c i k v).1 60 0 1 = P.1 60 0 1 := by
    unfold up
    split
    · show mp P.1 c i k v 60 0 1 = _
      exact mp_ne _ _ (fun q => hk.1 q.1.symm)
    · rfl
  unfold cnt
  split <;> first | rfl | rw [h]
theorem up_me (P : Mem × Mem) {c i : Nat} (k : Nat) (v : Int32) {c' i' : Nat} (h : ¬ (c' = c ∧ i' = i)) : me (up P c i k v) c' c' i' = me P c' c' i' := by
  unfold me up
  cases Nat.blt c' 20 <;> cases Nat.blt c 20 <;> first | exact mp_row _ _ _ h | rfl
theorem up_1 (P : Mem × Mem) {c i k : Nat} (v : Int32) {c' i' k' : Nat} (h : ¬ (c' = c ∧ i' = i ∧ k' = k)) : (up P c i k v).1 c' i' k' = P.1 c' i' k' := by
  unfold up
  split
  · exact mp_ne _ _ h
  · rfl
theorem up_1r (P : Mem × Mem) {c i : Nat} (k : Nat) (v : Int32) {c' i' : Nat} (h : ¬ (c' = c ∧ i' = i)) : (up P c i k v).1 c' i' = P.1 c' i' := by
  unfold up
  split
  · exact mp_row _ _ _ h
  · rfl
theorem sv_row {ad : Nat → Nat → Nat} {M M' : Mem} {c i : Nat} (h : M' c i = M c i) (q : Nat × Nat) : sv ad M' c i q = sv ad M c i q := by
  unfold sv
  rw [h]
theorem kd_19 {c : Nat} {x : Nat × List (Nat × Nat)} (h : kd c = (3, x)) : c = 19 := by
  unfold kd at h
  split at h <;> first | rfl | simp_all
theorem up_ob (ca : Nat → ClassId) (ad : Nat → Nat → Nat) (P : Mem × Mem) {c i k : Nat} (v : Int32) (hk : okp c k) (c' i' : Nat) (h : ¬ (c' = c ∧ i' = i)) : ob ca ad (up P c i k v) c' i' = ob ca ad P c' i' := by
  have h1 : (up P c i k v).1 60 0 0 = P.1 60 0 0 := up_1 P v (fun q => hk.1 q.1.symm)
  have h8 : (up P c i k v).1 8 i' 4 = P.1 8 i' 4 := up_1 P v (fun q => hk.2 ⟨q.1.symm, q.2.2.symm⟩)
  have hm := up_me P k v h
  unfold ob
  split
  · rename_i ci sh _
    congr 3
    exact funext (fun q => sv_row hm q)
  · rw [hm]
  · rw [hm]
  · rename_i e
    have h19 := kd_19 e
    subst h19
    rw [h8, up_1r P k v h]
  · rfl
  · rfl
  · rw [h1]
/-! rows over the world -/
abbrev CX (p : Program) (s : State) (m : MethodId) (args : Array Value) (meth : Method) (c : Code) (cc : ByteArray) (nL : Nat) (ret : Option FieldType) (own : String) : Prop :=
  p.tables.exec = Jvm.exec ∧ c.code = cc ∧ c.maxLocals = nL ∧ s.vm.findClass own = some m.cls ∧ (∀ w ∈ TB, w.before args s = true) ∧ meth.sig.returnType = ret ∧ meth.locks = false
abbrev rmm (f lo : Nat) : Room := { frames := f, cells := 0, slots := 0, locals := lo }
abbrev Qi (E : Lay) (ad : Nat → Nat → Nat) (r : Int32) (P : Mem × Mem) : Array Value → State → Outcome → State → Prop := va_Qi (fun r' (u : Mem × Mem) => r' = r ∧ u = P) (fun u t => WD E ad u t.heap) (ow E)
abbrev Qv (E : Lay) (ad : Nat → Nat → Nat) (P : Mem × Mem) : Array Value → State → Outcome → State → Prop := va_Qv (fun (u : Mem × Mem) => u = P) (fun u t => WD E ad u t.heap) (ow E)
abbrev Qq (E : Lay) (ad : Nat → Nat → Nat) (r : Option Nat) (P : Mem × Mem) : Array Value → State → Outcome → State → Prop := va_Qq (fun r' (u : Mem × Mem) => r' = r ∧ u = P) (fun u t => WD E ad u t.heap) (ow E)
theorem gV {own C : String} {idx n : Nat} {y : MethodName} {b : ByteArray} {r : Option FieldType} (h1 : Cond.methodLink own idx y ∈ TB) (h2 : Cond.instanceMethod y ∈ TB) (h3 : Cond.selects C y y ∈ TB) (h4 : Cond.initialized C ∈ TB) (h5 : Cond.code y b n r ∈ TB) : GoodIn TB (wsV own idx C y (Cond.code y b n r :: TB)) := by
  intro w hw
  have h : w ∈ TB := by
    unfold wsV at hw
    simp only [List.mem_append, List.mem_cons, List.not_mem_nil, or_false] at hw
    rcases hw with (rfl | rfl | rfl | rfl) | rfl | hw <;> assumption
  exact ⟨h, tb_good h⟩
theorem gS {own : String} {idx n : Nat} {y : MethodName} {b : ByteArray} {r : Option FieldType} (h1 : Cond.methodLink own idx y ∈ TB) (h2 : Cond.static y ∈ TB) (h4 : Cond.initialized y.cls ∈ TB) (h5 : Cond.code y b n r ∈ TB) : GoodIn TB (va_wsS own idx y (Cond.code y b n r :: TB)) := by
  intro w hw
  have h : w ∈ TB := by
    unfold va_wsS at hw
    simp only [List.mem_append, List.mem_cons, List.not_mem_nil, or_false] at hw
    rcases hw with (rfl | rfl | rfl) | rfl | hw <;> assumption
  exact ⟨h, tb_good h⟩
theorem gC {n : Nat} {y : MethodName} {b : ByteArray} {r : Option FieldType} (h5 : Cond.code y b n r ∈ TB) : GoodIn TB (Cond.code y b n r :: TB) := by
  intro w hw
  have h : w ∈ TB := by
    rcases List.mem_cons.mp hw with rfl | h
    · exact h5
    · exact h
  exact ⟨h, tb_good h⟩
theorem Met.ofF {l : Launch} {y : MethodName} {ws ws' : List Cond} {rm : Room} {Pc : Array Value → State → Prop} {Qc : Array Value → State → Outcome → State → Prop} {mc ms : Nat} {free : Addr → Prop} {cc : ByteArray} {maxL : Nat} {ret : Option FieldType}
    (hy : plainFor y = true) (hw : ws = Cond.code y cc maxL ret :: ws')
    (body : ∀ p e s m args below meth c s₁, BodyLoose p l y (headSpec ws rm) cc maxL ret e s m args below meth c s₁ → c.maxLocals = maxL → Pc args s →
      W p l e (headSpec ws rm).room s m args below meth c s.heap [] 0 0 (MQ below Qc args s mc ms free) (entryFrame m args maxL)) : Met l y ws rm Pc Qc mc ms free := by
  refine MetFree.of_bodySF (code := cc) (maxLocals := maxL) (ret := ret) hy ?_ ?_
  · intro args s m h hn
    obtain ⟨meth, c, h1, h2, h3, h4, h5, h6, -, -⟩ := Cond.code_spec hn (atoms_spec (ws := ws) h _ (by rw [hw]; exact List.mem_cons_self))
    exact ⟨meth, c, h1, h2, h3, h4, h5, h6⟩
  · intro p e s m args below meth c s₁ B hml hP _
    have hh0 : s₁.heap = s.heap := by rw [B.state]; rfl
    obtain ⟨t, a1, o, b1, b2, b3⟩ := body p e s m args below meth c s₁ B hml hP s₁ hh0 (Stand.of_body B)
    exact ⟨t, o, a1, b1, b2, ⟨b3.1, b3.2⟩⟩
theorem sp1 {α : Type} {a b : α} (h : some a = some b) : a = b := Option.some.inj h
theorem sp2 {α β : Type} {a b : α} {c d : β} (h : some (a, c) = some (b, d)) : a = b ∧ c = d := Prod.mk.inj (Option.some.inj h)
theorem toNCN_lt (x : Int32) : x.toNatClampNeg < 2147483648 := by
  have := Int32.toInt_lt x
  unfold Int32.toNatClampNeg
  omega
/-! comparisons as whole numbers -/
theorem q_eq {x y : Int32} {b : Int} (hk : y.toInt = b) (h : x = y) : x.toInt = b := by rw [h, hk]
theorem q_ne {x y : Int32} {b : Int} (hk : y.toInt = b) (h : ¬ x = y) : ¬ x.toInt = b := fun z => h (Int32.toInt_inj.mp (by rw [z, hk]))
theorem q_lt {x y : Int32} {b : Int} (hk : y.toInt = b) (h : x < y) : x.toInt < b := by
  subst hk
  simp only [Int32.lt_iff_toInt_lt, Int32.le_iff_toInt_le] at h
  omega
theorem q_nlt {x y : Int32} {b : Int} (hk : y.toInt = b) (h : ¬ x < y) : b ≤ x.toInt := by
  subst hk
  simp only [Int32.lt_iff_toInt_lt, Int32.le_iff_toInt_le] at h
  omega
theorem q_le {x y : Int32} {b : Int} (hk : y.toInt = b) (h : x ≤ y) : x.toInt ≤ b := by
  subst hk
  simp only [Int32.lt_iff_toInt_lt, Int32.le_iff_toInt_le] at h
  omega
theorem q_nle {x y : Int32} {b : Int} (hk : y.toInt = b) (h : ¬ x ≤ y) : b < x.toInt := by
  subst hk
  simp only [Int32.lt_iff_toInt_lt, Int32.le_iff_toInt_le] at h
  omega
theorem q_ge {x y : Int32} {b : Int} (hk : y.toInt = b) (h : y ≤ x) : b ≤ x.toInt := by
  subst hk
  simp only [Int32.lt_iff_toInt_lt, Int32.le_iff_toInt_le] at h
  omega
theorem q_nge {x y : Int32} {b : Int} (hk : y.toInt = b) (h : ¬ y ≤ x) : x.toInt < b := by
  subst hk
  simp only [Int32.lt_iff_toInt_lt, Int32.le_iff_toInt_le] at h
  omega
theorem q_gt {x y : Int32} {b : Int} (hk : y.toInt = b) (h : y < x) : b < x.toInt := by
  subst hk
  simp only [Int32.lt_iff_toInt_lt, Int32.le_iff_toInt_le] at h
  omega
theorem q_ngt {x y : Int32} {b : Int} (hk : y.toInt = b) (h : ¬ y < x) : x.toInt ≤ b := by
  subst hk
  simp only [Int32.lt_iff_toInt_lt, Int32.le_iff_toInt_le] at h
  omega
section RW
variable {p : Program} {l : Launch} {e : Env} {R : Room} {s : State} {m : MethodId} {args : Array Value} {below : List Frame} {meth : Method} {c : Code} {H : Heap} {locs : List Loc} {cells slots : Nat} {Q : State → Prop}
variable {cc : ByteArray} {pc : Nat} {ls : Array Slot} {rest : List Value} {E : Lay} {ad : Nat → Nat → Nat} {P : Mem × Mem} {H0 : Heap}
theorem r_get (hx : p.tables.exec = Jvm.exec) (hb : c.code = cc) {own C : String} {T : u_T} {n ci index : Nat} (hT : ∀ w ∈ TB, w.before args s = true) (hin : ∀ w ∈ u_ws C T n, w ∈ TB) (hown : s.vm.findClass own = some m.cls) (hK : KK E s) (hW : WD E ad P H) {cp i : Nat} (hv : i < cnt P.1 cp) {fs : List Value} (ho : ob E.2.1 ad P cp i = .inr (ci, fs)) (hc : vwCl[ci]? = some (C, T, n)) (k : Nat) (hk : k < n) (hlink : Cond.fieldLink own index (T k).1 (T k).2.1 (T k).2.2.1 ∈ TB) {v : Value} (hf : fs[k]? = some v) (hdg : decode cc pc = .ok (.getfield index, 3))
    (kk : W p l e R s m args below meth c H locs cells slots Q (F0 m (pc + 3) ls (v :: rest))) : W p l e R s m args below meth c H locs cells slots Q (F0 m pc ls (.ref (ad cp i) :: rest)) :=
  va_get hx hb hT hin hown hK.1 (hW.at hv ho) 0 rfl hc k hk (hT _ hlink) (fun _ h => h) hf hdg kk
theorem r_put (hx : p.tables.exec = Jvm.exec) (hb : c.code = cc) {own C : String} {T : u_T} {n ci index : Nat} (hT : ∀ w ∈ TB, w.before args s = true) (hin : ∀ w ∈ u_ws C T n, w ∈ TB) (ty0 : Nat → FieldType) (hty : ∀ k, k < n → parseFieldDescriptor (T k).2.2.1 = some (ty0 k)) (hnm : ∀ a, a < n → ∀ b, b < n → a ≠ b → (T a).2.1 ≠ (T b).2.1) (hown : s.vm.findClass own = some m.cls) (hK : KK E s) (hW : WD E ad P H) (hS : va_S (ow E) H0 H locs) {cp i k' : Nat} {x : Int32} (hv : i < cnt P.1 cp) (hok : okp cp k') {fs : List Value} (ho : ob E.2.1 ad P cp i = .inr (ci, fs)) (k : Nat) {v : Value} (ho' : ob E.2.1 ad (up P cp i k' x) cp i = .inr (ci, fs.set k v)) (hc : vwCl[ci]? = some (C, T, n)) (hk : k < n) (hlink : Cond.fieldLink own index (T k).1 (T k).2.1 (T k).2.2.1 ∈ TB) (hfin : (T k).2.2.2 = false) {ty : FieldType} (hd : parseFieldDescriptor (T k).2.2.1 = some ty) (hn : narrow ty v = v) (hfit : fits ty v = true) (hl : k < fs.length) (hdg : decode cc pc = .ok (.putfield index, 3))
    (kk : ∀ (H1 : Heap) (locs1 : List Loc), WD E ad (up P cp i k' x) H1 → va_S (ow E) H0 H1 locs1 → W p l e R s m args below meth c H1 locs1 cells slots Q (F0 m (pc + 3) ls rest)) : W p l e R s m args below meth c H locs cells slots Q (F0 m pc ls (v :: .ref (ad cp i) :: rest)) := by
  have hap := va_apart (own := own) hT hin ty0 hty hnm hK.1 hc
  obtain ⟨hat, hs0⟩ := hW.1 cp i hv
  rw [ho] at hat
  obtain ⟨r, h1, cell, q1, q2, q3, q4⟩ := hat
  have hr : r = (C, T, n) := Option.some.inj (h1.symm.trans hc)
  subst hr
  obtain ⟨hSl, hfc, kC, hkC, hkind⟩ := hK.1.1 ci _ hc
  obtain ⟨cf, kf, fi, f, hi, hsl⟩ := hSl k hk
  have hlay := hT _ (hin _ (u_in_lay hk))
  unfold u_lay at hlay
  rw [if_neg (by rw [hfin]; decide)] at hlay
  have hst := (u_facts hfc hkC (u_lays hT hin hk) hi).1
  have h6 := u_store hfc hkC hkind hlay hi hd hn hfit
  refine W.putK hx hb (f := f) ⟨hown, hT _ hlink, ⟨_, _, _, hi⟩, hst⟩ (by rw [q2]; exact h6) q1 q3 (by rw [hsl]; exact k2_hasslot (q4 k hk)) rfl rfl hdg fun H' e1 e2 e3 => ?_
  rw [hsl] at e1 ⊢
  refine kk H' _ (hW.put hv ?_ (fun c' i' _ h => up_ob E.2.1 ad P x hok c' i' h) (up_cnt P x hok) (fun q _ h => e3 q h)) (hS.put e2 e3 hs0)
  rw [ho']
  exact ⟨_, hc, t_OB.to (V := updV (vp_V fs) k v) ⟨_, e1, q2, q3, t_set q4 hap hk v⟩ (fun j _ => vp_updV_set hl v j)⟩
theorem r_ald (hx : p.tables.exec = Jvm.exec) (hb : c.code = cc) (hK : KK E s) (hW : WD E ad P H) {cp i : Nat} (hv : i < cnt P.1 cp) {n : Nat} {f : Nat → Int32} (ho : ob E.2.1 ad P cp i = .inl (E.2.1 0, n, .inl f)) {j : Int32} (hin : ¬ (j < 0 ∨ n ≤ j.toNatClampNeg)) (hdg : decode cc pc = .ok (.iaload, 1))
    (kk : W p l e R s m args below meth c H locs cells slots Q (F0 m (pc + 1) ls (.int (f j.toNatClampNeg) :: rest))) : W p l e R s m args below meth c H locs cells slots Q (F0 m pc ls (.int j :: .ref (ad cp i) :: rest)) :=
  va_iald hx hb hK.1 (hW.at hv ho) 0 0 rfl rfl hin hdg kk
theorem r_zald (hx : p.tables.exec = Jvm.exec) (hb : c.code = cc) (hK : KK E s) (hW : WD E ad P H) {cp i : Nat} (hv : i < cnt P.1 cp) {n : Nat} {f : Nat → Int32} (ho : ob E.2.1 ad P cp i = .inl (E.2.1 1, n, .inl f)) {j : Int32} (hin : ¬ (j < 0 ∨ n ≤ j.toNatClampNeg)) (hdg : decode cc pc = .ok (.baload, 1))
    (kk : W p l e R s m args below meth c H locs cells slots Q (F0 m (pc + 1) ls (.int (f j.toNatClampNeg) :: rest))) : W p l e R s m args below meth c H locs cells slots Q (F0 m pc ls (.int j :: .ref (ad cp i) :: rest)) :=
  va_zald hx hb hK.1 (hW.at hv ho) 0 1 rfl rfl hin hdg kk
theorem r_alen (hx : p.tables.exec = Jvm.exec) (hb : c.code = cc) (hK : KK E s) (hW : WD E ad P H) {cp i : Nat} (hv : i < cnt P.1 cp) (t0 : Nat) {cA : ClassId} {x : vp_A} (ho : ob E.2.1 ad P cp i = .inl (cA, x)) {ty : FieldType} (ht : (tys E)[t0]? = some (cA, ty)) {v : Int32} (he : nI x.1 = v) (hdg : decode cc pc = .ok (.arraylength, 1))
    (kk : W p l e R s m args below meth c H locs cells slots Q (F0 m (pc + 1) ls (.int v :: rest))) : W p l e R s m args below meth c H locs cells slots Q (F0 m pc ls (.ref (ad cp i) :: rest)) :=
  va_alen hx hb hK.1 (hW.at hv ho) 0 t0 rfl ht he hdg kk
theorem r_aald (hx : p.tables.exec = Jvm.exec) (hb : c.code = cc) (hK : KK E s) (hW : WD E ad P H) {cp i : Nat} (hv : i < cnt P.1 cp) (t0 : Nat) {cA : ClassId} {C : String} {n : Nat} {f : Nat → Option Nat} (ho : ob E.2.1 ad P cp i = .inl (cA, n, .inr (.inr (.inr (.inr f))))) (ht : (tys E)[t0]? = some (cA, .object C)) {j : Int32} (hin : ¬ (j < 0 ∨ n ≤ j.toNatClampNeg)) {v : Value} (he : va_rf (f j.toNatClampNeg) = v) (hdg : decode cc pc = .ok (.aaload, 1))
    (kk : W p l e R s m args below meth c H locs cells slots Q (F0 m (pc + 1) ls (v :: rest))) : W p l e R s m args below meth c H locs cells slots Q (F0 m pc ls (.int j :: .ref (ad cp i) :: rest)) := by
  subst he
  exact va_aldq hx hb hK.1 (hW.at hv ho) 0 t0 rfl ht hin hdg kk
theorem r_ast (hx : p.tables.exec = Jvm.exec) (hb : c.code = cc) (hK : KK E s) (hW : WD E ad P H) (hS : va_S (ow E) H0 H locs) {cp i : Nat} (hv : i < cnt P.1 cp) {n : Nat} {f : Nat → Int32} (ho : ob E.2.1 ad P cp i = .inl (E.2.1 0, n, .inl f)) {j x : Int32} (hok : okp cp j.toNatClampNeg) (ho' : ob E.2.1 ad (up P cp i j.toNatClampNeg x) cp i = .inl (E.2.1 0, n, .inl (upd f j.toNatClampNeg x))) (hin : ¬ (j < 0 ∨ n ≤ j.toNatClampNeg)) (hdg : decode cc pc = .ok (.iastore, 1))
    (kk : ∀ (H1 : Heap) (locs1 : List Loc), WD E ad (up P cp i j.toNatClampNeg x) H1 → va_S (ow E) H0 H1 locs1 → W p l e R s m args below meth c H1 locs1 cells slots Q (F0 m (pc + 1) ls rest)) : W p l e R s m args below meth c H locs cells slots Q (F0 m pc ls (.int x :: .int j :: .ref (ad cp i) :: rest)) := by
  obtain ⟨hat, hs0⟩ := hW.1 cp i hv
  rw [ho] at hat
  refine W.iast hx hb hat ((hK.1.2 0 _ rfl).1 n (fun j => .int (f j))) (fun q => by cases q) (by show ¬ (j < 0 ∨ (arrV _ _ _).slots.size ≤ _); rw [arrV_size]; exact hin) rfl rfl hdg fun H1 e z oq => ?_
  refine kk H1 _ (hW.put hv ?_ (fun c' i' _ h => up_ob E.2.1 ad P x hok c' i' h) (up_cnt P x hok) (fun q _ h => oq q h)) (hS.put z oq hs0)
  rw [ho']
  show H1[_]? = some (vp_cell _ _)
  rw [e]
  rw [vp_cell_i, vp_cell_i, arrV_store]
  congr 2
  funext q
  by_cases hq : q = j.toNatClampNeg
  · subst hq
    simp [updV, upd]
  · simp [updV, upd, hq]
theorem r_zast (hx : p.tables.exec = Jvm.exec) (hb : c.code = cc) (hK : KK E s) (hW : WD E ad P H) (hS : va_S (ow E) H0 H locs) {cp i : Nat} (hv : i < cnt P.1 cp) {n : Nat} {f : Nat → Int32} (ho : ob E.2.1 ad P cp i = .inl (E.2.1 1, n, .inl f)) {j x : Int32} (hx1 : narrow .boolean (.int x) = .int x) (hok : okp cp j.toNatClampNeg) (ho' : ob E.2.1 ad (up P cp i j.toNatClampNeg x) cp i = .inl (E.2.1 1, n, .inl (upd f j.toNatClampNeg x))) (hin : ¬ (j < 0 ∨ n ≤ j.toNatClampNeg)) (hdg : decode cc pc = .ok (.bastore, 1))
    (kk : ∀ (H1 : Heap) (locs1 : List Loc), WD E ad (up P cp i j.toNatClampNeg x) H1 → va_S (ow E) H0 H1 locs1 → W p l e R s m args below meth c H1 locs1 cells slots Q (F0 m (pc + 1) ls rest)) : W p l e R s m args below meth c H locs cells slots Q (F0 m pc ls (.int x :: .int j :: .ref (ad cp i) :: rest)) := by
  obtain ⟨hat, hs0⟩ := hW.1 cp i hv
  rw [ho] at hat
  refine W.zast hx hb hat ((hK.1.2 1 _ rfl).1 n (fun j => .int (f j))) (fun q => by cases q) (by show ¬ (j < 0 ∨ (arrV _ _ _).slots.size ≤ _); rw [arrV_size]; exact hin) rfl rfl hdg fun H1 e z oq => ?_
  refine kk H1 _ (hW.put hv ?_ (fun c' i' _ h => up_ob E.2.1 ad P x hok c' i' h) (up_cnt P x hok) (fun q _ h => oq q h)) (hS.put z oq hs0)
  rw [ho']
  show H1[_]? = some (vp_cell _ _)
  rw [e]
  rw [vp_cell_i, vp_cell_i, arrV_store]
  congr 2
  funext q
  by_cases hq : q = j.toNatClampNeg
  · subst hq
    simp only [updV, upd, if_true]
    exact hx1
  · simp [updV, upd, hq]
theorem zn_ok {x : Int32} (h : x = 0 ∨ x = 1) : narrow .boolean (.int x) = .int x := by
  rcases h with rfl | rfl <;> rfl
theorem al_st {nL : Nat} {ret : Option FieldType} {own : String} (X : CX p s m args meth c cc nL ret own) (hZ : ZZ E s) (hS : va_S (ow E) s.heap H locs) {k : Nat} (hk : k < 6) {j : Int32} (hin : ¬ (j < 0 ∨ sl k ≤ j.toNatClampNeg)) (hdg : decode cc pc = .ok (.iaload, 1)) (kk : W p l e R s m args below meth c H locs cells slots Q (F0 m (pc + 1) ls (.int (sc k j.toNatClampNeg) :: rest))) : W p l e R s m args below meth c H locs cells slots Q (F0 m pc ls (.int j :: .ref (E.2.2.2 k) :: rest)) :=
  va_ti X.1 X.2.1 (hZ k hk).2 hS hin rfl hdg kk
theorem an_st {nL : Nat} {ret : Option FieldType} {own : String} (X : CX p s m args meth c cc nL ret own) (hZ : ZZ E s) (hS : va_S (ow E) s.heap H locs) {k : Nat} (hk : k < 6) {v : Int32} (hv : nI (sl k) = v) (hdg : decode cc pc = .ok (.arraylength, 1)) (kk : W p l e R s m args below meth c H locs cells slots Q (F0 m (pc + 1) ls (.int v :: rest))) : W p l e R s m args below meth c H locs cells slots Q (F0 m pc ls (.ref (E.2.2.2 k) :: rest)) :=
  va_tlen X.1 X.2.1 (hZ k hk).2 hS hv hdg kk
theorem gs_st {nL index : Nat} {ret : Option FieldType} {own : String} (X : CX p s m args meth c cc nL ret own) (hZ : ZZ E s) (hS : va_S (ow E) s.heap H locs) {k : Nat} (hk : k < 6) (hl : Cond.fieldLink own index (zc k) (zn k) "[I" ∈ TB) (hdg : decode cc pc = .ok (.getstatic index, 3)) (kk : W p l e R s m args below meth c H locs cells slots Q (F0 m (pc + 3) ls (.ref (E.2.2.2 k) :: rest))) : W p l e R s m args below meth c H locs cells slots Q (F0 m pc ls rest) :=
  va_gets X.1 X.2.1 (hZ k hk).1 hS X.2.2.2.1 (X.2.2.2.2.1 _ hl) (fun _ h => h) hdg kk
/-! ends -/
theorem e_i (X : p.tables.exec = Jvm.exec ∧ c.code = cc ∧ meth.sig.returnType = some .int ∧ meth.locks = false) {r : Int32} {P : Mem × Mem} (hW : WD E ad P H) (hS : va_S (ow E) s.heap H locs) (hdg : decode cc pc = .ok (.ireturn, 1)) : W p l e R s m args below meth c H locs cells slots (MQ below (Qi E ad r P) args s cells slots (ow E)) (F0 m pc ls [.int r]) :=
  W.iret X.1 X.2.1 X.2.2.1 (fun t ht hw => ⟨⟨r, P, rfl, ⟨rfl, rfl⟩, show WD E ad P t.heap by rw [ht]; exact hW⟩, hS.F ht⟩) hS.2.2 hdg (hlocks := X.2.2.2)
theorem e_z (X : p.tables.exec = Jvm.exec ∧ c.code = cc ∧ meth.sig.returnType = some .boolean ∧ meth.locks = false) {r : Int32} {P : Mem × Mem} (hn : narrow .boolean (.int r) = .int r) (hW : WD E ad P H) (hS : va_S (ow E) s.heap H locs) (hdg : decode cc pc = .ok (.ireturn, 1)) : W p l e R s m args below meth c H locs cells slots (MQ below (Qi E ad r P) args s cells slots (ow E)) (F0 m pc ls [.int r]) :=
  W.zret X.1 X.2.1 X.2.2.1 hn (fun t ht hw => ⟨⟨r, P, rfl, ⟨rfl, rfl⟩, show WD E ad P t.heap by rw [ht]; exact hW⟩, hS.F ht⟩) hS.2.2 hdg (hlocks := X.2.2.2)
theorem e_v (X : p.tables.exec = Jvm.exec ∧ c.code = cc ∧ meth.sig.returnType = none ∧ meth.locks = false) {P : Mem × Mem} (hW : WD E ad P H) (hS : va_S (ow E) s.heap H locs) (hdg : decode cc pc = .ok (.return_, 1)) : W p l e R s m args below meth c H locs cells slots (MQ below (Qv E ad P) args s cells slots (ow E)) (F0 m pc ls []) :=
  W.vret X.1 X.2.1 X.2.2.1 (fun t ht hw => ⟨⟨P, rfl, rfl, show WD E ad P t.heap by rw [ht]; exact hW⟩, hS.F ht⟩) hS.2.2 hdg (hlocks := X.2.2.2)
theorem e_q {rt : FieldType} (X : p.tables.exec = Jvm.exec ∧ c.code = cc ∧ meth.sig.returnType = some rt ∧ meth.locks = false) (hrt : (∃ n, rt = .object n) ∨ ∃ t, rt = .array t) {r : Option Nat} {v : Value} (hv : va_rf r = v) {P : Mem × Mem} (hW : WD E ad P H) (hS : va_S (ow E) s.heap H locs) (hdg : decode cc pc = .ok (.areturn, 1)) : W p l e R s m args below meth c H locs cells slots (MQ below (Qq E ad r P) args s cells slots (ow E)) (F0 m pc ls [v]) := by
  subst hv
  exact W.aret X.1 X.2.1 X.2.2.1 hrt (va_rf_or r) (fun t ht hw => ⟨⟨r, P, rfl, ⟨rfl, rfl⟩, show WD E ad P t.heap by rw [ht]; exact hW⟩, hS.F ht⟩) hS.2.2 hdg (hlocks := X.2.2.2)
end RW
