/-! things come: the layout grows -/
def ext (ad ad1 : Nat → Nat → Nat) : Prop := ∀ c i, c ≠ 8 → c ≠ 19 → ad1 c i = ad c i
theorem ext.rf {ad : Nat → Nat → Nat} : ext ad ad := fun _ _ _ _ => rfl
theorem ext.tr {a b c : Nat → Nat → Nat} (h : ext a b) (k : ext b c) : ext a c := fun x i h1 h2 => (k x i h1 h2).trans (h x i h1 h2)
abbrev rmg (f lo mc ms : Nat) : Room := { frames := f, cells := mc, slots := ms, locals := lo }
abbrev Gi (E : Lay) (ad : Nat → Nat → Nat) (r : Int32) (P : Mem × Mem) : Array Value → State → Outcome → State → Prop := va_Qi (fun r' (u : (Nat → Nat → Nat) × (Mem × Mem)) => r' = r ∧ u.2 = P ∧ ext ad u.1) (fun u t => WD E u.1 u.2 t.heap) (ow E)
theorem eg_i {p : Program} {l : Launch} {e : Env} {R : Room} {s : State} {m : MethodId} {args : Array Value} {below : List Frame} {meth : Method} {c : Code} {H : Heap} {locs : List Loc} {cells slots : Nat} {cc : ByteArray} {pc : Nat} {ls : Array Slot} {E : Lay} {ad ad1 : Nat → Nat → Nat} (X : p.tables.exec = Jvm.exec ∧ c.code = cc ∧ meth.sig.returnType = some .int ∧ meth.locks = false) {r : Int32} {P : Mem × Mem} (hE : ext ad ad1) (hW : WD E ad1 P H) (hS : va_S (ow E) s.heap H locs) (hdg : decode cc pc = .ok (.ireturn, 1)) : W p l e R s m args below meth c H locs cells slots (MQ below (Gi E ad r P) args s cells slots (ow E)) (F0 m pc ls [.int r]) :=
  W.iret X.1 X.2.1 X.2.2.1 (fun t ht hw => ⟨⟨r, (ad1, P), rfl, ⟨rfl, rfl, hE⟩, show WD E ad1 P t.heap by rw [ht]; exact hW⟩, hS.F ht⟩) hS.2.2 hdg (hlocks := X.2.2.2)
theorem WD.low {E : Lay} {ad : Nat → Nat → Nat} {P : Mem × Mem} {H : Heap} (h : WD E ad P H) : E.2.2.1 ≤ H.size := by
  obtain ⟨h1, h2⟩ := h.1 0 0 Nat.zero_lt_one
  have := h1.lt
  exact Nat.le_trans h2 (Nat.le_of_lt this)
theorem WD.keep {E : Lay} {ad : Nat → Nat → Nat} {P : Mem × Mem} {H H1 : Heap} (h : WD E ad P H) (hk : ∀ q : Nat, q < H.size → H1[q]? = H[q]?) : WD E ad P H1 :=
  ⟨fun c i hv => ⟨(h.1 c i hv).1.kept (hk _ (h.1 c i hv).1.lt), (h.1 c i hv).2⟩, h.2.1, h.2.2⟩
theorem dd1 (a : Nat) (x : va_E) : va_D (fun q => q = a) [(a, x)] := by
  refine ⟨fun i j p q h1 h2 _ => ?_, fun k q h => ?_⟩
  · have a1 := (List.getElem?_eq_some_iff.mp h1).1
    have a2 := (List.getElem?_eq_some_iff.mp h2).1
    simp at a1 a2
    omega
  · match k, h with
    | 0, h => cases h; rfl
    | k + 1, h => simp at h
theorem pp1 {D : va_G} {cl : List vw_C} {a : Nat} {x : va_E} {H : Heap} (h : va_at D cl (a, x) H) : va_P D cl [(a, x)] H := by
  intro i q hq
  match i, hq with
  | 0, hq => cases hq; exact h
  | i + 1, hq => simp at hq
set_option maxRecDepth 100000 in
set_option maxHeartbeats 4000000 in
theorem c_Thing_init (l : Launch) (D : va_G) (h0 aP : Nat) (x1 x2 : Int32) : Met l yX7_init (Cond.code yX7_init cX7_init 4 none :: TB) (rmm 1 12) (va_Pc [.ref h0, .int x1, .int x2, .ref aP] (fun U => va_P D vwCl [(h0, .inr (7, [.int 0, .int 0, .null, .int 0, .int 0, .int 0]))] U.heap ∧ va_K D vwCl [] U)) (va_Qv (fun (_ : Unit) => True) (fun _ t => va_P D vwCl [(h0, .inr (7, [.int x1, .int x2, .ref aP, .int 0, .int (-4), .int 0]))] t.heap) (fun q => q = h0)) 0 0 (fun q => q = h0) := by
  refine Met.ofW (cc := cX7_init) (maxL := 4) (ret := none) (by decide) rfl ?_
  intro p e s m args below meth c s₁ B hml hv
  obtain ⟨rfl, hP, hK⟩ := hv
  have hT : ∀ w ∈ TB, w.before _ s = true := fun w h => atoms_spec (ws := Cond.code yX7_init cX7_init 4 none :: TB) B.pre w (List.mem_cons_of_mem _ h)
  have X : CX p s m _ meth c cX7_init 4 none RX7 := ⟨B.exec, B.bytes, hml, findClass_of_methodNamed B.named, hT, B.returns, B.notSynchronized⟩
  obtain ⟨hx, hb, hml, hown, hT, hr, hlk⟩ := id X
  have hin : meth.name = "<init>" := (name_of_methodNamed B.named B.method).1
  have hS : va_S (fun q => q = h0) s.heap s.heap [] := va_S.rf
  have hD := dd1 h0 (.inr (7, [.int 0, .int 0, .null, .int 0, .int 0, .int 0]))
  have hl := lv_entry ([.ref h0, .int x1, .int x2, .ref aP]) (n := 4) (Nat.le_of_ble_eq_true rfl)
  rw [lg_entry_eq]
  generalize (lg_sl ([.ref h0, .int x1, .int x2, .ref aP]) ++ List.replicate (4 - (lg_sl ([.ref h0, .int x1, .int x2, .ref aP])).length) Slot.unset).toArray = ls at hl ⊢
  have hl : lv_has ls 4 [(0, .ref h0), (1, .int x1), (2, .int x2), (3, .ref aP)] := hl
  refine lv_aload_n hx hb dX7_init_0 rfl (lv_at hl 0 rfl) ?_
  refine W.objInit hx hb hown (hT _ mlRX7_3) (hT _ im_objectInit) (hT _ cd_objectInit) rfl (by rw [hml]; exact hl.1) rfl dX7_init_1 (Nat.le_of_ble_eq_true rfl) (Nat.le_of_ble_eq_true rfl) ?_
  refine W.eq (g2 := F0 m 4 ls []) rfl ?_
  refine lv_aload_n hx hb dX7_init_4 rfl (lv_at hl 0 rfl) ?_
  refine lv_bipush (v := -4) hx hb dX7_init_5 (by decide) ?_
  refine va_put (D := D) (ci := 7) (v := .int (-4)) (ty := .int) (C := RX7) (T := TX7) (N := 6) hx hb hT inX7 tyX7 tyX7_ok nmX7 hown hK hP hD hS 0 rfl rfl 4 (by decide) (hT _ flRX7_9) (fun _ h9 => h9) rfl (by decide +kernel) rfl rfl (Nat.le_of_ble_eq_true rfl) dX7_init_7 (fun H locs hP hD hS => ?_)
  refine lv_aload_n hx hb dX7_init_10 rfl (lv_at hl 0 rfl) ?_
  refine lv_iload_n hx hb dX7_init_11 rfl (lv_at hl 1 rfl) ?_
  refine va_putF (D := D) (ci := 7) (v := .int x1) (ty := .int) (C := RX7) (T := TX7) (N := 6) hx hb hT inX7 tyX7 tyX7_ok nmX7 hown hK hP hD hS 0 rfl rfl 0 (by decide) (hT _ flRX7_15) (fun _ h9 => h9) rfl hin rfl (by decide +kernel) rfl rfl (Nat.le_of_ble_eq_true rfl) dX7_init_12 (fun H locs hP hD hS => ?_)
  refine lv_aload_n hx hb dX7_init_15 rfl (lv_at hl 0 rfl) ?_
  refine lv_iload_n hx hb dX7_init_16 rfl (lv_at hl 2 rfl) ?_
  refine va_putF (D := D) (ci := 7) (v := .int x2) (ty := .int) (C := RX7) (T := TX7) (N := 6) hx hb hT inX7 tyX7 tyX7_ok nmX7 hown hK hP hD hS 0 rfl rfl 1 (by decide) (hT _ flRX7_18) (fun _ h9 => h9) rfl hin rfl (by decide +kernel) rfl rfl (Nat.le_of_ble_eq_true rfl) dX7_init_17 (fun H locs hP hD hS => ?_)
  refine lv_aload_n hx hb dX7_init_20 rfl (lv_at hl 0 rfl) ?_
  refine lv_aload_n hx hb dX7_init_21 rfl (lv_at hl 3 rfl) ?_
  refine va_putF (D := D) (ci := 7) (v := .ref aP) (ty := .array .int) (C := RX7) (T := TX7) (N := 6) hx hb hT inX7 tyX7 tyX7_ok nmX7 hown hK hP hD hS 0 rfl rfl 2 (by decide) (hT _ flRX7_21) (fun _ h9 => h9) rfl hin rfl (by decide +kernel) rfl rfl (Nat.le_of_ble_eq_true rfl) dX7_init_22 (fun H locs hP hD hS => ?_)
  exact W.vret hx hb hr (fun t ht hw => ⟨⟨(), rfl, trivial, show va_P D vwCl _ t.heap by rw [ht]; exact hP⟩, hS.F ht⟩) hS.2.2 dX7_init_25 (hlocks := hlk)
def gro (M : Mem) (x1 x2 : Int32) : Mem := fun c i k =>
  if c = 60 ∧ i = 0 ∧ k = 1 then nI ((M 60 0 1).toNatClampNeg + 1) else
  if c = 8 ∧ i = (M 60 0 1).toNatClampNeg then (if k = 0 then x1 else if k = 2 then -4 else if k = 4 then x2 else 0) else
  if c = 19 ∧ i = (M 60 0 1).toNatClampNeg then 0 else M c i k
theorem gro_row (M : Mem) (x1 x2 : Int32) {c i : Nat} (h : c ≠ 60) (h2 : ¬ ((c = 8 ∨ c = 19) ∧ i = (M 60 0 1).toNatClampNeg)) : gro M x1 x2 c i = M c i := by
  funext k
  unfold gro
  rw [if_neg (fun q => h q.1), if_neg (fun q => h2 ⟨Or.inl q.1, q.2⟩), if_neg (fun q => h2 ⟨Or.inr q.1, q.2⟩)]
theorem gro_1 (M : Mem) (x1 x2 : Int32) : gro M x1 x2 60 0 1 = nI ((M 60 0 1).toNatClampNeg + 1) := by simp [gro]
theorem gro_0 (M : Mem) (x1 x2 : Int32) : gro M x1 x2 60 0 0 = M 60 0 0 := by simp [gro]
theorem gro_cnt {M : Mem} (x1 x2 : Int32) (ht : (M 60 0 1).toNatClampNeg < 32) {c : Nat} : cnt (gro M x1 x2) c = if c = 8 ∨ c = 19 then (M 60 0 1).toNatClampNeg + 1 else cnt M c := by
  have e : (gro M x1 x2 60 0 1).toNatClampNeg = (M 60 0 1).toNatClampNeg + 1 := by rw [gro_1, nI_clamp (by omega)]
  by_cases h8 : c = 8
  · subst h8
    rw [if_pos (Or.inl rfl)]
    exact e
  · by_cases h19 : c = 19
    · subst h19
      rw [if_pos (Or.inr rfl)]
      exact e
    · rw [if_neg (by omega)]
      unfold cnt
      split <;> first | rfl | omega
def adg (ad : Nat → Nat → Nat) (t a1 a2 : Nat) : Nat → Nat → Nat := fun c i => if c = 8 ∧ i = t then a1 else if c = 19 ∧ i = t then a2 else ad c i
theorem adg_ne (ad : Nat → Nat → Nat) {t a1 a2 c i : Nat} (h : ¬ ((c = 8 ∨ c = 19) ∧ i = t)) : adg ad t a1 a2 c i = ad c i := by
  unfold adg
  rw [if_neg (fun q => h ⟨Or.inl q.1, q.2⟩), if_neg (fun q => h ⟨Or.inr q.1, q.2⟩)]
theorem kd_refs : ∀ c, c < 61 → ∀ q ∈ (kd c).2.2, (q.1 = 1 → q.2 ≠ 8 ∧ q.2 ≠ 19) ∧ (q.1 = 2 → q.2 ≠ 8) ∧ (q.1 = 2 → q.2 = 19 → c = 8) := by decide +kernel
theorem kd_big {c : Nat} (h : 53 ≤ c) : kd c = (1, 0, []) := by
  unfold kd
  split <;> first | rfl | omega
theorem gro_ob (ca : Nat → ClassId) (ad : Nat → Nat → Nat) (M N : Mem) (x1 x2 : Int32) (a1 a2 : Nat) (hm : (M 60 0 0).toNatClampNeg ≤ (M 60 0 1).toNatClampNeg) {c i : Nat} (hc : c < 53) (h : ¬ ((c = 8 ∨ c = 19) ∧ i = (M 60 0 1).toNatClampNeg)) : ob ca (adg ad (M 60 0 1).toNatClampNeg a1 a2) (gro M x1 x2, N) c i = ob ca ad (M, N) c i := by
  have hme : me (gro M x1 x2, N) c c i = me (M, N) c c i := by
    unfold me
    cases Nat.blt c 20
    · rfl
    · exact gro_row M x1 x2 (by omega) h
  have hk := kd_refs c (by omega)
  unfold ob
  generalize hkd : kd c = K at hk
  split
  · rename_i ci sh
    congr 2
    refine List.map_congr_left (fun q hq => ?_)
    obtain ⟨k1, k2, k3⟩ := hk q hq
    unfold sv
    rw [hme]
    split
    · rfl
    · rename_i e
      have := k1 e
      rw [adg_ne ad (by omega)]
    · rename_i e
      have := k2 e
      rw [adg_ne ad (fun z => ?_)]
      rcases z with ⟨z1 | z1, z2⟩
      · exact this z1
      · exact h ⟨Or.inl (k3 e z1), z2⟩
    · rfl
    · unfold pr
      rw [adg_ne ad (by omega)]
  · rw [hme]
  · rw [hme]
  · have h19 := kd_19 hkd
    subst h19
    have hi : i ≠ (M 60 0 1).toNatClampNeg := fun z => h ⟨Or.inr rfl, z⟩
    show Sum.inl (ca 0, (gro M x1 x2 8 i 4).toNatClampNeg, Sum.inl (gro M x1 x2 19 i)) = Sum.inl (ca 0, (M 8 i 4).toNatClampNeg, Sum.inl (M 19 i))
    rw [gro_row M x1 x2 (by omega) (by omega), gro_row M x1 x2 (by omega) (by omega)]
  · refine congrArg (fun f => (Sum.inl (ca 3, 6, Sum.inr (Sum.inr (Sum.inr (Sum.inr f)))) : va_E)) (funext fun j => ?_)
    rw [adg_ne ad (by omega)]
  · refine congrArg (fun f => (Sum.inl (ca 2, 8, Sum.inr (Sum.inr (Sum.inr (Sum.inr f)))) : va_E)) (funext fun j => ?_)
    rw [adg_ne ad (by omega)]
  · show Sum.inl (ca 4, 32, Sum.inr (Sum.inr (Sum.inr (Sum.inr fun j => if j < (gro M x1 x2 60 0 0).toNatClampNeg then some (adg ad (M 60 0 1).toNatClampNeg a1 a2 8 j) else none)))) = Sum.inl (ca 4, 32, Sum.inr (Sum.inr (Sum.inr (Sum.inr fun j => if j < (M 60 0 0).toNatClampNeg then some (ad 8 j) else none))))
    rw [gro_0]
    refine congrArg (fun f => (Sum.inl (ca 4, 32, Sum.inr (Sum.inr (Sum.inr (Sum.inr f)))) : va_E)) (funext fun j => ?_)
    by_cases hj : j < (M 60 0 0).toNatClampNeg
    · rw [if_pos hj, if_pos hj, adg_ne ad (by omega)]
    · rw [if_neg hj, if_neg hj]
theorem acI : Cond.arrayClass .int ∈ TB := by decide +kernel
theorem cnt_lt {M : Mem} {c i : Nat} (h : i < cnt M c) : c < 53 := by
  by_cases hc : c < 53
  · exact hc
  · unfold cnt at h
    split at h <;> first | omega | (rw [if_neg hc] at h; omega)
theorem WD.grown {E : Lay} {ad : Nat → Nat → Nat} {M N : Mem} {H H3 : Heap} (h : WD E ad (M, N) H) {x1 x2 : Int32} {a1 a2 : Nat} (hm : (M 60 0 0).toNatClampNeg ≤ (M 60 0 1).toNatClampNeg) (ht : (M 60 0 1).toNatClampNeg < 32)
    (ha1 : H.size ≤ a1) (ha2 : H.size ≤ a2) (hne : a1 ≠ a2) (hk : ∀ q : Nat, q < H.size → H3[q]? = H[q]?)
    (c1 : va_at E.1 vwCl (a1, .inr (7, [.int (nI (M 60 0 1).toNatClampNeg), .int x1, .ref a2, .int 0, .int (-4), .int 0])) H3) (c2 : va_at E.1 vwCl (a2, .inl (E.2.1 0, x2.toNatClampNeg, .inl (fun _ => 0))) H3) :
    WD E (adg ad (M 60 0 1).toNatClampNeg a1 a2) (gro M x1 x2, N) H3 := by
  have hlow : E.2.2.1 ≤ H.size := h.low
  have new : ∀ c i, i < cnt (gro M x1 x2) c → ((c = 8 ∨ c = 19) ∧ i = (M 60 0 1).toNatClampNeg) ∨ (¬ ((c = 8 ∨ c = 19) ∧ i = (M 60 0 1).toNatClampNeg) ∧ i < cnt M c ∧ c < 53) := by
    intro c i hv
    rw [gro_cnt x1 x2 ht] at hv
    by_cases hc : c = 8 ∨ c = 19
    · rw [if_pos hc] at hv
      by_cases hi : i = (M 60 0 1).toNatClampNeg
      · exact Or.inl ⟨hc, hi⟩
      · refine Or.inr ⟨fun z => hi z.2, ?_, by omega⟩
        rcases hc with rfl | rfl
        · show i < (M 60 0 1).toNatClampNeg
          omega
        · show i < (M 60 0 1).toNatClampNeg
          omega
    · rw [if_neg hc] at hv
      exact Or.inr ⟨fun z => hc z.1, hv, cnt_lt hv⟩
  have e1 : adg ad (M 60 0 1).toNatClampNeg a1 a2 8 (M 60 0 1).toNatClampNeg = a1 := by simp [adg]
  have e2 : adg ad (M 60 0 1).toNatClampNeg a1 a2 19 (M 60 0 1).toNatClampNeg = a2 := by simp [adg]
  have old : ∀ c i, ¬ ((c = 8 ∨ c = 19) ∧ i = (M 60 0 1).toNatClampNeg) → i < cnt M c → adg ad (M 60 0 1).toNatClampNeg a1 a2 c i < H.size := by
    intro c i hn hv
    rw [adg_ne ad hn]
    exact (h.1 c i hv).1.lt
  refine ⟨fun c i hv => ?_, fun c i c' i' hv hv' he => ?_, ?_⟩
  · rcases new c i hv with ⟨hc, hi⟩ | ⟨hn, hv0, hc⟩
    · subst hi
      rcases hc with rfl | rfl
      · refine ⟨?_, by rw [e1]; exact Nat.le_trans hlow ha1⟩
        have eo : ob E.2.1 (adg ad (M 60 0 1).toNatClampNeg a1 a2) (gro M x1 x2, N) 8 (M 60 0 1).toNatClampNeg = .inr (7, [.int (nI (M 60 0 1).toNatClampNeg), .int x1, .ref a2, .int 0, .int (-4), .int 0]) := by
          show Sum.inr (7, [Value.int (nI (M 60 0 1).toNatClampNeg), .int (gro M x1 x2 8 (M 60 0 1).toNatClampNeg 0), .ref (adg ad (M 60 0 1).toNatClampNeg a1 a2 19 (M 60 0 1).toNatClampNeg), .int (gro M x1 x2 8 (M 60 0 1).toNatClampNeg 1), .int (gro M x1 x2 8 (M 60 0 1).toNatClampNeg 2), .int (gro M x1 x2 8 (M 60 0 1).toNatClampNeg 3)]) = _
          rw [e2]
          simp [gro]
        rw [e1, eo]
        exact c1
      · refine ⟨?_, by rw [e2]; exact Nat.le_trans hlow ha2⟩
        have eo : ob E.2.1 (adg ad (M 60 0 1).toNatClampNeg a1 a2) (gro M x1 x2, N) 19 (M 60 0 1).toNatClampNeg = .inl (E.2.1 0, x2.toNatClampNeg, .inl (fun _ => 0)) := by
          have f1 : gro M x1 x2 8 (M 60 0 1).toNatClampNeg 4 = x2 := by simp [gro]
          have f2 : gro M x1 x2 19 (M 60 0 1).toNatClampNeg = fun _ => 0 := by funext k; simp [gro]
          show Sum.inl (E.2.1 0, (gro M x1 x2 8 (M 60 0 1).toNatClampNeg 4).toNatClampNeg, Sum.inl (gro M x1 x2 19 (M 60 0 1).toNatClampNeg)) = _
          rw [f1, f2]
        rw [e2, eo]
        exact c2
    · rw [adg_ne ad hn, gro_ob E.2.1 ad M N x1 x2 a1 a2 hm hc hn]
      exact ⟨(h.1 c i hv0).1.kept (hk _ (h.1 c i hv0).1.lt), (h.1 c i hv0).2⟩
  · rcases new c i hv with ⟨hc, hi⟩ | ⟨hn, hv0, hc⟩ <;> rcases new c' i' hv' with ⟨hc', hi'⟩ | ⟨hn', hv0', hc'⟩
    · subst hi
      subst hi'
      rcases hc with rfl | rfl <;> rcases hc' with rfl | rfl
      · exact ⟨rfl, rfl⟩
      · rw [e1, e2] at he
        exact absurd he hne
      · rw [e1, e2] at he
        exact absurd he.symm hne
      · exact ⟨rfl, rfl⟩
    · have := old c' i' hn' hv0'
      subst hi
      rcases hc with rfl | rfl
      · rw [e1] at he
        omega
      · rw [e2] at he
        omega
    · have := old c i hn hv0
      subst hi'
      rcases hc' with rfl | rfl
      · rw [e1] at he
        omega
      · rw [e2] at he
        omega
    · rw [adg_ne ad hn, adg_ne ad hn'] at he
      exact h.2.1 c i c' i' hv0 hv0' he
  · show cnt (gro M x1 x2) 8 ≤ 32
    rw [gro_cnt x1 x2 ht, if_pos (Or.inl rfl)]
    omega
section RN
variable {p : Program} {l : Launch} {e : Env} {R : Room} {s : State} {m : MethodId} {args : Array Value} {below : List Frame} {meth : Method} {c : Code} {H : Heap} {locs : List Loc} {cells slots : Nat} {Q : State → Prop}
variable {cc : ByteArray} {pc nL index : Nat} {ret : Option FieldType} {own : String} {ls : Array Slot} {rest : List Value} {E : Lay} {ad : Nat → Nat → Nat} {M N : Mem} {H0 : Heap}
theorem r_new (X : CX p s m args meth c cc nL ret own) {D : va_G} {tys0 : List (ClassId × FieldType)} (hK : va_K D vwCl tys0 s) {C : String} {T : u_T} {n ci : Nat} (hin : ∀ w ∈ u_ws C T n, w ∈ TB) (ty : Nat → FieldType) (hty : ∀ k, k < n → parseFieldDescriptor (T k).2.2.1 = some (ty k)) (hcl : Cond.classLink own index C ∈ TB) (hinst : Cond.instantiable C n ∈ TB) (hini : Cond.initialized C ∈ TB) (hc : vwCl[ci]? = some (C, T, n)) {fs : List Value} (hfs : ∀ j, j < n → defaultValue (ty j) = vp_V fs j) (hcells : cells + 1 ≤ R.cells) (hslots : slots + n ≤ R.slots) (hdg : decode cc pc = .ok (.new index, 3))
    (kk : ∀ H1 : Heap, va_at D vwCl (H.size, .inr (ci, fs)) H1 → H1.size = H.size + 1 → (∀ q : Nat, q < H.size → H1[q]? = H[q]?) → W p l e R s m args below meth c H1 locs (cells + 1) (slots + n) Q (F0 m (pc + 3) ls (.ref H.size :: rest))) : W p l e R s m args below meth c H locs cells slots Q (F0 m pc ls rest) := by
  have hKn := hK.1 ci _ hc
  refine W.newcK X.1 X.2.1 X.2.2.2.1 (X.2.2.2.2.1 _ hcl) (X.2.2.2.2.1 _ hinst) (X.2.2.2.2.1 _ hini) rfl hdg hcells hslots hKn.2.1 rfl fun H1 kC hkC e1 z1 o1 => ?_
  exact kk H1 ⟨_, hc, (u_born ty X.2.2.2.2.1 hin hKn hkC e1 hty).to hfs⟩ z1 o1
theorem r_newi (X : CX p s m args meth c cc nL ret own) (hA : va_RA s (E.2.1 0) .int) {x : Int32} {n : Nat} (h0 : ¬ x < 0) (hn : x.toNatClampNeg = n) (hle : n ≤ 2000) (hcells : cells + 1 ≤ R.cells) (hslots : slots + n ≤ R.slots) (hdg : decode cc pc = .ok (.newarray .int, 2))
    (kk : ∀ H1 : Heap, H1[H.size]? = some (vp_cell (E.2.1 0) (n, .inl (fun _ => 0))) → H1.size = H.size + 1 → (∀ q : Nat, q < H.size → H1[q]? = H[q]?) → W p l e R s m args below meth c H1 locs (cells + 1) (slots + n) Q (F0 m (pc + 2) ls (.ref H.size :: rest))) : W p l e R s m args below meth c H locs cells slots Q (F0 m pc ls (.int x :: rest)) := by
  refine va_newaK (atype := .int) X.1 X.2.1 (X.2.2.2.2.1 _ acI) rfl hdg rfl h0 hn (by show n * 4 ≤ _; omega) hcells hslots rfl fun H1 cA e1 z1 o1 hAr hNm => ?_
  have hcA : cA = E.2.1 0 := Option.some.inj (hNm.symm.trans hA)
  subst hcA
  exact kk H1 e1 z1 o1
set_option maxRecDepth 100000 in
set_option maxHeartbeats 4000000 in
theorem row_mk (X : CX p s m args meth c cX4_make 4 (some .int) RX4) (hK : KK E s) (hW : WD E ad (M, N) H) (hS : va_S (ow E) s.heap H locs) (hs0 : E.2.2.1 ≤ s.heap.size) {x1 x2 : Int32} (hl : lv_has ls 4 [(0, .ref (ad 1 0)), (1, .int x1), (2, .int x2)]) (hq : ¬ x2 < 0 ∧ x2 ≤ 12 ∧ (M 60 0 1).toNatClampNeg < 32 ∧ M 1 0 0 = nI (M 60 0 1).toNatClampNeg ∧ (M 60 0 0).toNatClampNeg ≤ (M 60 0 1).toNatClampNeg) {M1 : Mem} (hM : M1 = gro M x1 x2) (hR : 1 + 1 ≤ R.frames ∧ 8 + (4 + 11) + 12 ≤ R.locals) (hC : cells + 2 ≤ R.cells ∧ slots + 18 ≤ R.slots)
    (kk : ∀ (ad1 : Nat → Nat → Nat) (H1 : Heap) (locs1 : List Loc), ext ad ad1 → WD E ad1 (M1, N) H1 → va_S (ow E) s.heap H1 locs1 → W p l e R s m args below meth c H1 locs1 (cells + 2) (slots + 18) Q (F0 m 35 ls [.ref (ad1 8 (M 60 0 1).toNatClampNeg)])) : W p l e R s m args below meth c H locs cells slots Q (F0 m 20 ls []) := by
  obtain ⟨q1, q2, q3, q4, q5⟩ := hq
  obtain ⟨hx, hb, hml, hown, hT, hr, hlk⟩ := id X
  obtain ⟨n2, hn2, rfl⟩ : ∃ j : Nat, j ≤ 12 ∧ x2 = nI j := nI_of2 (M := 12) (by decide) q1 q2
  refine r_new X hK.1 (C := RX7) (T := TX7) (n := 6) (ci := 7) (fs := [.int 0, .int 0, .null, .int 0, .int 0, .int 0]) inX7 tyX7 tyX7_ok clRX4_9 istRX7 iniRX7 rfl (fun j hj => by rcases (show j = 0 ∨ j = 1 ∨ j = 2 ∨ j = 3 ∨ j = 4 ∨ j = 5 by omega) with rfl | rfl | rfl | rfl | rfl | rfl <;> rfl) (by omega) (by omega) dX4_make_20 (fun H1 v1 z1 o1 => ?_)
  have hW1 := hW.keep o1
  refine lv_dup hx hb dX4_make_23 rfl ?_
  refine lv_aload_n hx hb dX4_make_24 rfl (lv_at hl 0 rfl) ?_
  refine g_4_1 X hK hW1 flRX4_21 dX4_make_25 ?_
  refine lv_iload_n hx hb dX4_make_28 rfl (lv_at hl 1 rfl) ?_
  refine lv_iload_n hx hb dX4_make_29 rfl (lv_at hl 2 rfl) ?_
  refine r_newi (E := E) X (hK.1.2 0 _ rfl).2 (x := nI n2) (n := n2) q1 (nI_clamp (by omega)) (by omega) (by omega) (by omega) dX4_make_30 (fun H2 v2 z2 o2 => ?_)
  have v1' : va_at E.1 vwCl (H.size, .inr (7, [.int 0, .int 0, .null, .int 0, .int 0, .int 0])) H2 := v1.kept (o2 _ (by rw [z1]; exact Nat.lt_succ_self _))
  have hS2 : va_S (ow E) s.heap H2 locs := ⟨Nat.le_trans hS.1 (by omega), fun q h1 h2 => by rw [o2 q (by have := hS.1; omega), o1 q (by have := hS.1; omega)]; exact hS.2.1 q h1 h2, hS.2.2⟩
  refine va_callv (va_runI (As := [.int (M 1 0 0), .int x1, .ref H1.size]) (rest := [.ref H.size]) ⟨hx, hb, hml, hown, hT⟩ (c_Thing_init l E.1 H.size H1.size (M 1 0 0) x1) ⟨callB_of 3 hT (gC cd_yX7_init) rfl rfl rfl (hT _ iniRX7) (hT _ mlRX4_28) (by decide +kernel) hR, rfl, hT _ im_yX7_init⟩ ⟨fun a U g mk q => ⟨q.1, q.2.1, va_K.moved (u := U) (U := U.calling g mk a) (Vm.Alike.refl U.vm) q.2.2⟩, fun U hU hw => ⟨rfl, by rw [hU]; exact pp1 v1', (va_K.moved hw.alike hK.1).sub [] rfl⟩⟩ rfl rfl hl.1 rfl (lv_room (Nat.le_of_ble_eq_true rfl)) dX4_make_32 ⟨by omega, by omega⟩) hS2 (fun q _ h => by rw [h]; exact Nat.le_trans hs0 hS.1) (fun q h => by rw [h]; exact Nat.le_trans hs0 hS.1) (fun u t H3 locs3 ht hvm hw hB hz3 hk3 hS3 => ?_)
  rw [ht] at hB
  subst hM
  have hne : H.size ≠ H1.size := by omega
  have hWg := hW.grown (H3 := H3) (x1 := x1) (x2 := nI n2) (a1 := H.size) (a2 := H1.size) q5 q3 (Nat.le_refl _) (by omega) hne (fun q hq => by rw [hk3 q (by omega) (by omega), o2 q (by omega), o1 q hq]) (by rw [← q4]; exact hB 0 _ rfl) (by
    show H3[H1.size]? = _
    rw [hk3 H1.size (by omega) (by omega), v2, nI_clamp (by omega)])
  have e8 : adg ad (M 60 0 1).toNatClampNeg H.size H1.size 8 (M 60 0 1).toNatClampNeg = H.size := by simp [adg]
  refine W.widen (k := cells + 2) (n := slots + 18) (by omega) (by omega) ?_
  have := kk _ H3 locs3 (fun c i h1 h2 => adg_ne ad (by omega)) hWg hS3
  rw [e8] at this
  exact this
theorem kd_lt6 : ∀ c, c < 53 → c ≠ 9 → (kd c).1 < 6 := by decide +kernel
theorem m60_ob (ca : Nat → ClassId) (ad : Nat → Nat → Nat) (M N : Mem) (v : Int32) {c i : Nat} (hc : c < 53) (h9 : c ≠ 9) : ob ca ad (mp M 60 0 0 v, N) c i = ob ca ad (M, N) c i := by
  have hme : me (mp M 60 0 0 v, N) c c i = me (M, N) c c i := by
    unfold me
    cases Nat.blt c 20
    · rfl
    · exact mp_row M 0 v (by omega)
  have hk := kd_lt6 c hc h9
  unfold ob
  generalize kd c = K at hk
  split
  · congr 3
    exact funext (fun q => sv_row hme q)
  · rw [hme]
  · rw [hme]
  · show Sum.inl (ca 0, (mp M 60 0 0 v 8 i 4).toNatClampNeg, Sum.inl (mp M 60 0 0 v 19 i)) = _
    rw [mp_ne M v (by omega), mp_row M 0 v (by omega)]
  · rfl
  · rfl
  · rename_i n0 n1 n2 n3 n4 n5
    obtain ⟨a, b, d⟩ := K
    exfalso
    simp only at hk
    match a, hk with
    | 0, _ => exact n0 _ _ rfl
    | 1, _ => exact n1 _ _ rfl
    | 2, _ => exact n2 _ _ rfl
    | 3, _ => exact n3 _ _ rfl
    | 4, _ => exact n4 _ _ rfl
    | 5, _ => exact n5 _ _ rfl
theorem r_aast (X : CX p s m args meth c cc nL ret own) (hK : KK E s) {a v n ci t0 : Nat} {cA : ClassId} {q : vw_C} {f : Nat → Option Nat} {fs : List Value} (hat : H[a]? = some (vp_cell cA (n, .inr (.inr (.inr (.inr f)))))) (ht : (tys E)[t0]? = some (cA, .object q.1)) (hv : va_at E.1 vwCl (v, .inr (ci, fs)) H) (hc : vwCl[ci]? = some q) {j : Int32} (hj : ¬ (j < 0 ∨ n ≤ j.toNatClampNeg)) (hdg : decode cc pc = .ok (.aastore, 1))
    (kk : ∀ H1 : Heap, H1[a]? = some (vp_cell cA (n, .inr (.inr (.inr (.inr (va_up f j.toNatClampNeg (some v))))))) → H1.size = H.size → (∀ q : Nat, q ≠ a → H1[q]? = H[q]?) → W p l e R s m args below meth c H1 (locs ++ [⟨a, j.toNatClampNeg⟩]) cells slots Q (F0 m (pc + 1) ls rest)) : W p l e R s m args below meth c H locs cells slots Q (F0 m pc ls (.ref v :: .int j :: .ref a :: rest)) := by
  have hlt : j.toNatClampNeg < n := Nat.not_le.mp fun q => hj (Or.inr q)
  have h0 : ¬ j < 0 := fun q => hj (Or.inl q)
  obtain ⟨r', hr', cellV, g1, g2, g3, -⟩ := hv
  have hcls := (hK.1.1 ci q hc).2
  obtain ⟨kA, comp, k1, k2, k3, -⟩ := (hK.1.2 t0 _ ht).2
  have hcomp : comp = E.1.1 ci := Option.some.inj (k3.symm.trans hcls.1)
  subst hcomp
  obtain ⟨kC, hkC, -⟩ := hcls.2
  refine W.aast X.1 X.2.1 hat (fun q h => by cases h) (fun h => by cases h) k1 k2 rfl hkC ⟨h0, by show _ < (arrV _ _ _).slots.size; rw [arrV_size]; exact hlt⟩ g1 (fun q h => by rw [g3] at h; cases h) (by rw [g2]; exact hkC) (by rw [g2]; exact va_assign hcls) rfl rfl hdg fun H1 e z oq => ?_
  refine kk H1 ?_ z oq
  rw [e, vp_cell_q, vp_cell_q, arrV_store]
  congr 2
  funext q
  by_cases hq : q = j.toNatClampNeg
  · subst hq
    simp [updV, va_up, va_rf]
  · simp [updV, va_up, hq]
theorem as_9 (X : CX p s m args meth c cc nL ret own) (hK : KK E s) (hW : WD E ad (M, N) H) (hS : va_S (ow E) H0 H locs) {j : Int32} {t : Nat} (hq : j.toNatClampNeg = t ∧ ¬ j < 0 ∧ t = (M 60 0 0).toNatClampNeg ∧ t < (M 60 0 1).toNatClampNeg) {M1 : Mem} (hM : M1 = mp M 60 0 0 (nI (t + 1))) (hdg : decode cc pc = .ok (.aastore, 1))
    (kk : ∀ (H1 : Heap) (locs1 : List Loc), WD E ad (M1, N) H1 → va_S (ow E) H0 H1 locs1 → W p l e R s m args below meth c H1 locs1 cells slots Q (F0 m (pc + 1) ls rest)) : W p l e R s m args below meth c H locs cells slots Q (F0 m pc ls (.ref (ad 8 t) :: .int j :: .ref (ad 9 0) :: rest)) := by
  subst hM
  obtain ⟨q1, q2, q3, q4⟩ := hq
  have h32 : t < 32 := Nat.lt_of_lt_of_le q4 hW.2.2
  obtain ⟨hat, hs0⟩ := hW.1 9 0 Nat.zero_lt_one
  refine r_aast X hK (t0 := 4) (ci := 7) hat rfl (hW.1 8 t q4).1 rfl (by rw [q1]; exact fun z => z.elim q2 (fun z => absurd h32 (Nat.not_lt.mpr z))) hdg (fun H1 e z oq => ?_)
  have hc2 : ∀ c', cnt (mp M 60 0 0 (nI (t + 1))) c' = cnt M c' := by
    intro c'
    have e1 : mp M 60 0 0 (nI (t + 1)) 60 0 1 = M 60 0 1 := mp_ne M _ (by omega)
    unfold cnt
    split <;> first | rfl | rw [e1]
  have hf : va_up (fun j => if j < (M 60 0 0).toNatClampNeg then some (ad 8 j) else none) j.toNatClampNeg (some (ad 8 t)) = fun j => if j < (mp M 60 0 0 (nI (t + 1)) 60 0 0).toNatClampNeg then some (ad 8 j) else none := by
    funext q
    rw [mp_eq, nI_clamp (by omega), q1]
    unfold va_up
    by_cases hq : q = t
    · subst hq
      rw [if_pos rfl, if_pos (by omega)]
    · rw [if_neg hq]
      show (if q < (M 60 0 0).toNatClampNeg then some (ad 8 q) else none) = _
      by_cases hl : q < t
      · rw [if_pos (by omega), if_pos (by omega)]
      · rw [if_neg (by omega), if_neg (by omega)]
  refine kk H1 _ (hW.put (c := 9) (i := 0) Nat.zero_lt_one ?_ (fun c' i' hv' hn => ?_) hc2 (fun q _ h => oq q h)) (hS.put z oq hs0)
  · show H1[ad 9 0]? = some (vp_cell (E.2.1 4) (32, .inr (.inr (.inr (.inr (fun j => if j < (mp M 60 0 0 (nI (t + 1)) 60 0 0).toNatClampNeg then some (ad 8 j) else none))))))
    rw [← hf]
    exact e
  · by_cases h9 : c' = 9
    · subst h9
      have : i' < 1 := hv'
      exact absurd ⟨rfl, by omega⟩ hn
    · exact m60_ob E.2.1 ad M N _ (cnt_lt hv') h9
end RN
