/-! blocks of new cells: those from address b on, in order -/
def CS (E : Lay) (b : Nat) (es : List va_E) (H : Heap) : Prop := H.size = b + es.length ∧ ∀ (k : Nat) (x : va_E), es[k]? = some x → va_at E.1 vwCl (b + k, x) H
def KA (E : Lay) (U : State) : Prop := KK E U ∧ va_AO RX3 U ∧ va_AO RX5 U ∧ va_AO RX7 U
theorem KA.warm {E : Lay} {s U : State} (hW : s.WarmedH U.vm) (h : KA E s) : KA E U := ⟨h.1.warm hW, h.2.1.moved hW.alike, h.2.2.1.moved hW.alike, h.2.2.2.moved hW.alike⟩
theorem KA.calling {E : Lay} {U : State} {g : JFrame} {mk : MethodId} {a : Array Value} (h : KA E U) : KA E (U.calling g mk a) := ⟨KK.same rfl h.1, h.2.1.moved (Vm.Alike.refl U.vm), h.2.2.1.moved (Vm.Alike.refl U.vm), h.2.2.2.moved (Vm.Alike.refl U.vm)⟩
theorem CS.push {E : Lay} {b : Nat} {es : List va_E} {H H1 : Heap} {x : va_E} (h : CS E b es H) (hx : va_at E.1 vwCl (H.size, x) H1) (z : H1.size = H.size + 1) (o : ∀ q : Nat, q < H.size → H1[q]? = H[q]?) : CS E b (es ++ [x]) H1 := by
  refine ⟨by rw [z, h.1, List.length_append]; simp; omega, fun k y hy => ?_⟩
  by_cases hl : k < es.length
  · rw [List.getElem?_append_left hl] at hy
    exact (h.2 k y hy).kept (o _ (h.2 k y hy).lt)
  · rw [List.getElem?_append_right (by omega)] at hy
    have hz : k - es.length < 1 := (List.getElem?_eq_some_iff.mp hy).1
    rw [show k - es.length = 0 by omega] at hy
    cases hy
    rw [show b + k = H.size by rw [h.1]; omega]
    exact hx
theorem CS.set {E : Lay} {b k : Nat} {es : List va_E} {H H1 : Heap} {x0 x : va_E} (h : CS E b es H) (hk : es[k]? = some x0) (hx : va_at E.1 vwCl (b + k, x) H1) (z : H1.size = H.size) (o : ∀ q : Nat, q ≠ b + k → H1[q]? = H[q]?) : CS E b (es.set k x) H1 := by
  have hl := (List.getElem?_eq_some_iff.mp hk).1
  refine ⟨by rw [z, h.1, List.length_set], fun j y hy => ?_⟩
  by_cases hj : j = k
  · subst hj
    rw [List.getElem?_set_self hl] at hy
    cases hy
    exact hx
  · rw [List.getElem?_set_ne (Ne.symm hj)] at hy
    exact (h.2 j y hy).kept (o _ (by omega))
abbrev eI (E : Lay) (n : Nat) : va_E := .inl (E.2.1 0, n, .inl (fun _ => 0))
abbrev eZ (E : Lay) (n : Nat) : va_E := .inl (E.2.1 1, n, .inl (fun _ => 0))
abbrev eF (E : Lay) (n : Nat) (f : Nat → Int32) : va_E := .inl (E.2.1 0, n, .inl f)
abbrev eR (E : Lay) (c n : Nat) (f : Nat → Option Nat) : va_E := .inl (E.2.1 c, n, .inr (.inr (.inr (.inr f))))
abbrev fr (b : Nat) : Nat → Prop := fun q => b ≤ q
abbrev Qn (E : Lay) (b : Nat) (es : List va_E) : Array Value → State → Outcome → State → Prop := va_Qv (fun (_ : Unit) => True) (fun _ t => CS E b es t.heap) (fr b)
theorem acZ : Cond.arrayClass .boolean ∈ TB := by decide +kernel
section CN
variable {p : Program} {l : Launch} {e : Env} {R : Room} {s : State} {m : MethodId} {args : Array Value} {below : List Frame} {meth : Method} {c : Code} {H : Heap} {locs : List Loc} {cells slots : Nat} {Q : State → Prop}
variable {cc : ByteArray} {pc nL index : Nat} {ret : Option FieldType} {own : String} {ls : Array Slot} {rest : List Value} {E : Lay} {b : Nat} {es es' : List va_E} {H0 : Heap}
theorem n_new (X : CX p s m args meth c cc nL ret own) (hK : KA E s) (hC : CS E b es H) (hS : va_S (fr b) H0 H locs) {C : String} {T : u_T} {n ci N : Nat} (hin : ∀ w ∈ u_ws C T n, w ∈ TB) (ty : Nat → FieldType) (hty : ∀ k, k < n → parseFieldDescriptor (T k).2.2.1 = some (ty k)) (hcl : Cond.classLink own index C ∈ TB) (hinst : Cond.instantiable C n ∈ TB) (hini : Cond.initialized C ∈ TB) (hc : vwCl[ci]? = some (C, T, n)) {fs : List Value} (hfs : fs = (List.range n).map (fun j => defaultValue (ty j))) (hN : es.length = N) (he : es ++ [.inr (ci, fs)] = es') (hcells : cells + 1 ≤ R.cells) (hslots : slots + n ≤ R.slots) (hdg : decode cc pc = .ok (.new index, 3))
    (kk : ∀ H1 : Heap, CS E b es' H1 → va_S (fr b) H0 H1 locs → W p l e R s m args below meth c H1 locs (cells + 1) (slots + n) Q (F0 m (pc + 3) ls (.ref (b + N) :: rest))) : W p l e R s m args below meth c H locs cells slots Q (F0 m pc ls rest) := by
  have hz := hC.1
  subst hN
  subst he
  refine r_new X hK.1.1 (fs := fs) hin ty hty hcl hinst hini hc (fun j hj => by subst hfs; simp [vp_V, hj]) hcells hslots hdg (fun H1 v1 z1 o1 => ?_)
  rw [hz]
  exact kk H1 (hC.push v1 z1 o1) ⟨Nat.le_trans hS.1 (by omega), fun q h1 h2 => by rw [o1 q (Nat.lt_of_lt_of_le h1 hS.1)]; exact hS.2.1 q h1 h2, hS.2.2⟩
theorem n_newi (X : CX p s m args meth c cc nL ret own) (hK : KA E s) (hC : CS E b es H) (hS : va_S (fr b) H0 H locs) {x : Int32} {n N : Nat} (h0 : ¬ x < 0) (hn : x.toNatClampNeg = n) (hle : n ≤ 2000) (hN : es.length = N) (he : es ++ [eI E n] = es') (hcells : cells + 1 ≤ R.cells) (hslots : slots + n ≤ R.slots) (hdg : decode cc pc = .ok (.newarray .int, 2))
    (kk : ∀ H1 : Heap, CS E b es' H1 → va_S (fr b) H0 H1 locs → W p l e R s m args below meth c H1 locs (cells + 1) (slots + n) Q (F0 m (pc + 2) ls (.ref (b + N) :: rest))) : W p l e R s m args below meth c H locs cells slots Q (F0 m pc ls (.int x :: rest)) := by
  have hz := hC.1
  subst hN
  subst he
  refine r_newi (E := E) X (hK.1.1.2 0 _ rfl).2 h0 hn hle hcells hslots hdg (fun H1 v1 z1 o1 => ?_)
  rw [hz]
  exact kk H1 (hC.push v1 z1 o1) ⟨Nat.le_trans hS.1 (by omega), fun q h1 h2 => by rw [o1 q (Nat.lt_of_lt_of_le h1 hS.1)]; exact hS.2.1 q h1 h2, hS.2.2⟩
theorem n_newz (X : CX p s m args meth c cc nL ret own) (hK : KA E s) (hC : CS E b es H) (hS : va_S (fr b) H0 H locs) {x : Int32} {n N : Nat} (h0 : ¬ x < 0) (hn : x.toNatClampNeg = n) (hle : n ≤ 2000) (hN : es.length = N) (he : es ++ [eZ E n] = es') (hcells : cells + 1 ≤ R.cells) (hslots : slots + n ≤ R.slots) (hdg : decode cc pc = .ok (.newarray .boolean, 2))
    (kk : ∀ H1 : Heap, CS E b es' H1 → va_S (fr b) H0 H1 locs → W p l e R s m args below meth c H1 locs (cells + 1) (slots + n) Q (F0 m (pc + 2) ls (.ref (b + N) :: rest))) : W p l e R s m args below meth c H locs cells slots Q (F0 m pc ls (.int x :: rest)) := by
  have hz := hC.1
  subst hN
  subst he
  refine va_newaK (atype := .boolean) X.1 X.2.1 (X.2.2.2.2.1 _ acZ) rfl hdg rfl h0 hn (by show n * 1 ≤ _; omega) hcells hslots rfl fun H1 cA e1 z1 o1 hAr hNm => ?_
  have hcA : cA = E.2.1 1 := Option.some.inj (hNm.symm.trans (hK.1.1.2 1 _ rfl).2)
  subst hcA
  refine W.eq (g2 := F0 m (pc + 2) ls (.ref (b + es.length) :: rest)) (by rw [← hz]) ?_
  exact kk H1 (hC.push e1 z1 o1) ⟨Nat.le_trans hS.1 (by omega), fun q h1 h2 => by rw [o1 q (Nat.lt_of_lt_of_le h1 hS.1)]; exact hS.2.1 q h1 h2, hS.2.2⟩
theorem n_newq (X : CX p s m args meth c cc nL ret own) (hK : KA E s) (hC : CS E b es H) (hS : va_S (fr b) H0 H locs) {C : String} {t0 : Nat} (hcl : Cond.classLink own index C ∈ TB) (hover : va_AO C s) (ht : (tys E)[t0]? = some (E.2.1 t0, .object C)) {x : Int32} {n N : Nat} (h0 : ¬ x < 0) (hn : x.toNatClampNeg = n) (hle : n ≤ 2000) (hN : es.length = N) (he : es ++ [eR E t0 n (fun _ => none)] = es') (hcells : cells + 1 ≤ R.cells) (hslots : slots + n ≤ R.slots) (hdg : decode cc pc = .ok (.anewarray index, 3))
    (kk : ∀ H1 : Heap, CS E b es' H1 → va_S (fr b) H0 H1 locs → W p l e R s m args below meth c H1 locs (cells + 1) (slots + n) Q (F0 m (pc + 3) ls (.ref (b + N) :: rest))) : W p l e R s m args below meth c H locs cells slots Q (F0 m pc ls (.int x :: rest)) := by
  have hz := hC.1
  subst hN
  subst he
  subst hn
  refine W.anew X.1 X.2.1 X.2.2.2.1 (X.2.2.2.2.1 _ hcl) (va_AO.use hover) rfl hdg rfl h0 (by omega) hcells hslots fun cA kA comp f1 f2 f3 f4 => ?_
  obtain ⟨kA', comp', -, -, -, g4⟩ := (hK.1.1.2 t0 _ ht).2
  have hcA : cA = E.2.1 t0 := Option.some.inj (f1.symm.trans g4)
  subst hcA
  generalize hH1 : H.push ({ cls := E.2.1 t0, slots := Array.replicate x.toNatClampNeg .null, vm := .none } : Cell) = H1
  have z1 : H1.size = H.size + 1 := by rw [← hH1, Array.size_push]
  have e1 : H1[H.size]? = some (arrV (E.2.1 t0) x.toNatClampNeg (fun _ => .null)) := by rw [← hH1, Array.getElem?_push_size, ← arrV_new]
  have o1 : ∀ q : Nat, q < H.size → H1[q]? = H[q]? := fun q hq => by rw [← hH1, Array.getElem?_push, if_neg (Nat.ne_of_lt hq)]
  refine W.eq (g2 := F0 m (pc + 3) ls (.ref (b + es.length) :: rest)) (by rw [← hz]) ?_
  exact kk H1 (hC.push e1 z1 o1) ⟨Nat.le_trans hS.1 (by omega), fun q h1 h2 => by rw [o1 q (Nat.lt_of_lt_of_le h1 hS.1)]; exact hS.2.1 q h1 h2, hS.2.2⟩
theorem n_put (X : CX p s m args meth c cc nL ret own) (hm : meth.name = "<init>") (hK : KA E s) (hC : CS E b es H) (hS : va_S (fr b) H0 H locs) {C : String} {T : u_T} {n ci : Nat} (hin : ∀ w ∈ u_ws C T n, w ∈ TB) (ty0 : Nat → FieldType) (hty : ∀ k, k < n → parseFieldDescriptor (T k).2.2.1 = some (ty0 k)) (hnm : ∀ a, a < n → ∀ b, b < n → a ≠ b → (T a).2.1 ≠ (T b).2.1) (hc : vwCl[ci]? = some (C, T, n)) {q : Nat} {fs : List Value} (hq : es[q]? = some (.inr (ci, fs))) (k : Nat) (hk : k < n) (hlink : Cond.fieldLink own index (T k).1 (T k).2.1 (T k).2.2.1 ∈ TB) (hdecl : (T k).1 = own) {ty : FieldType} {v : Value} (hd : parseFieldDescriptor (T k).2.2.1 = some ty) (hn : narrow ty v = v) (hfit : fits ty v = true) (hl : k < fs.length) (he : es.set q (.inr (ci, fs.set k v)) = es') {a : Nat} (ha : b + q = a) (hdg : decode cc pc = .ok (.putfield index, 3))
    (kk : ∀ (H1 : Heap) (locs1 : List Loc), CS E b es' H1 → va_S (fr b) H0 H1 locs1 → W p l e R s m args below meth c H1 locs1 cells slots Q (F0 m (pc + 3) ls rest)) : W p l e R s m args below meth c H locs cells slots Q (F0 m pc ls (v :: .ref a :: rest)) := by
  obtain ⟨hx, hb, hml, hown, hT, hr, hlk⟩ := id X
  subst he
  subst ha
  have hap := va_apart (own := own) hT hin ty0 hty hnm hK.1.1 hc
  obtain ⟨r, h1, cell, q1, q2, q3, q4⟩ := hC.2 q _ hq
  have hr : r = (C, T, n) := Option.some.inj (h1.symm.trans hc)
  subst hr
  obtain ⟨hSl, hfc, kC, hkC, hkind⟩ := hK.1.1.1 ci _ hc
  obtain ⟨cf, kf, fi, f, hi, hsl⟩ := hSl k hk
  have hlay := hT _ (hin _ (u_in_lay hk))
  have hst := (u_facts hfc hkC (u_lays hT hin hk) hi).1
  have fin : ∀ H' : Heap, H'[b + q]? = some (cell.setSlot f.slot v) → H'.size = H.size → (∀ x : Nat, x ≠ b + q → H'[x]? = H[x]?) → W p l e R s m args below meth c H' (locs ++ [⟨b + q, f.slot⟩]) cells slots Q (F0 m (pc + 3) ls rest) := by
    intro H' e1 e2 e3
    rw [hsl] at e1 ⊢
    exact kk H' _ (hC.set hq ⟨_, hc, t_OB.to (V := updV (vp_V fs) k v) ⟨_, e1, q2, q3, t_set q4 hap hk v⟩ (fun j _ => vp_updV_set hl v j)⟩ e2 e3) (hS.put e2 e3 (Nat.le_add_right b q))
  unfold u_lay at hlay
  by_cases hfin : (T k).2.2.2 = true
  · rw [if_pos hfin] at hlay
    have hcf : m.cls = cf := by
      obtain ⟨_, _, c', _, _, _, -, -, hf', -, -, -, hown2, -⟩ := Cond.laysFinal_spec hlay
      have e1 : c' = cf := by have := hi.symm.trans hf'; simp at this; exact this.1.symm
      rw [hdecl] at hown2
      rw [← e1]; exact Option.some.inj (hown.symm.trans hown2)
    have h6 := u_fits hfc hkC hkind (Or.inr hlay) hi hd hn hfit
    exact W.putFinK hx hb hown (hT _ hlink) hi hst hcf hm (by rw [q2]; exact h6) q1 q3 (by rw [hsl]; exact k2_hasslot (q4 k hk)) rfl rfl hdg fin
  · rw [if_neg hfin] at hlay
    have h6 := u_store hfc hkC hkind hlay hi hd hn hfit
    exact W.putK hx hb (f := f) ⟨hown, hT _ hlink, ⟨_, _, _, hi⟩, hst⟩ (by rw [q2]; exact h6) q1 q3 (by rw [hsl]; exact k2_hasslot (q4 k hk)) rfl rfl hdg fin
theorem n_get (X : CX p s m args meth c cc nL ret own) (hK : KA E s) (hC : CS E b es H) {C : String} {T : u_T} {n ci : Nat} (hin : ∀ w ∈ u_ws C T n, w ∈ TB) (hc : vwCl[ci]? = some (C, T, n)) {q : Nat} {fs : List Value} (hq : es[q]? = some (.inr (ci, fs))) (k : Nat) (hk : k < n) (hlink : Cond.fieldLink own index (T k).1 (T k).2.1 (T k).2.2.1 ∈ TB) {v : Value} (hv : fs[k]? = some v) {a : Nat} (ha : b + q = a) (hdg : decode cc pc = .ok (.getfield index, 3))
    (kk : W p l e R s m args below meth c H locs cells slots Q (F0 m (pc + 3) ls (v :: rest))) : W p l e R s m args below meth c H locs cells slots Q (F0 m pc ls (.ref a :: rest)) := by
  subst ha
  exact va_get X.1 X.2.1 X.2.2.2.2.1 hin X.2.2.2.1 hK.1.1 (pp1 (hC.2 q _ hq)) 0 rfl hc k hk (X.2.2.2.2.1 _ hlink) (fun _ h => h) hv hdg kk
theorem n_aas (X : CX p s m args meth c cc nL ret own) (hK : KA E s) (hC : CS E b es H) (hS : va_S (fr b) H0 H locs) {q qv n ci t0 : Nat} {w : vw_C} {f : Nat → Option Nat} {fs : List Value} (hq : es[q]? = some (eR E t0 n f)) (ht : (tys E)[t0]? = some (E.2.1 t0, .object w.1)) (hv : es[qv]? = some (.inr (ci, fs))) (hc : vwCl[ci]? = some w) {j : Int32} {jn : Nat} (hj : ¬ (j < 0 ∨ n ≤ j.toNatClampNeg)) (hjn : j.toNatClampNeg = jn) {a v : Nat} (ha : b + q = a) (hv2 : b + qv = v) (he : es.set q (eR E t0 n (va_up f jn (some v))) = es') (hdg : decode cc pc = .ok (.aastore, 1))
    (kk : ∀ (H1 : Heap) (locs1 : List Loc), CS E b es' H1 → va_S (fr b) H0 H1 locs1 → W p l e R s m args below meth c H1 locs1 cells slots Q (F0 m (pc + 1) ls rest)) : W p l e R s m args below meth c H locs cells slots Q (F0 m pc ls (.ref v :: .int j :: .ref a :: rest)) := by
  subst ha
  subst hv2
  subst he
  subst hjn
  refine r_aast X hK.1 (t0 := t0) (ci := ci) (hC.2 q _ hq) ht (hC.2 qv _ hv) hc hj hdg (fun H1 e z oq => ?_)
  exact kk H1 _ (hC.set hq e z oq) (hS.put z oq (Nat.le_add_right b q))
theorem n_ias (X : CX p s m args meth c cc nL ret own) (hK : KA E s) (hC : CS E b es H) (hS : va_S (fr b) H0 H locs) {q n : Nat} {f : Nat → Int32} (hq : es[q]? = some (eF E n f)) {j x : Int32} {jn : Nat} (hj : ¬ (j < 0 ∨ n ≤ j.toNatClampNeg)) (hjn : j.toNatClampNeg = jn) {a : Nat} (ha : b + q = a) (he : es.set q (eF E n (upd f jn x)) = es') (hdg : decode cc pc = .ok (.iastore, 1))
    (kk : ∀ (H1 : Heap) (locs1 : List Loc), CS E b es' H1 → va_S (fr b) H0 H1 locs1 → W p l e R s m args below meth c H1 locs1 cells slots Q (F0 m (pc + 1) ls rest)) : W p l e R s m args below meth c H locs cells slots Q (F0 m pc ls (.int x :: .int j :: .ref a :: rest)) := by
  subst ha
  subst he
  subst hjn
  refine W.iast X.1 X.2.1 (hC.2 q _ hq) ((hK.1.1.2 0 _ rfl).1 n (fun j => .int (f j))) (fun q => by cases q) (by show ¬ (j < 0 ∨ (arrV _ _ _).slots.size ≤ _); rw [arrV_size]; exact hj) rfl rfl hdg fun H1 e z oq => ?_
  refine kk H1 _ (hC.set hq ?_ z oq) (hS.put z oq (Nat.le_add_right b q))
  show H1[_]? = some (vp_cell _ _)
  rw [e]
  rw [vp_cell_i, vp_cell_i, arrV_store]
  congr 2
  funext q
  by_cases hq : q = j.toNatClampNeg
  · subst hq
    simp [updV, upd]
  · simp [updV, upd, hq]
theorem n_call (X : CX p s m args meth c cc nL ret own) (hK : KA E s) (hC : CS E b es H) (hS : va_S (fr b) H0 H locs) (hsz : ls.size = nL) {y : MethodName} {by_ : ByteArray} {mL N mc ms na f lo : Nat} {As : List Value} {x0 : va_E} {ec : List va_E} (hM : Met l y (Cond.code y by_ mL none :: TB) (rmg f lo mc ms) (va_Pc (.ref (b + N) :: As) (fun U => CS E (b + N) [x0] U.heap ∧ KA E U)) (Qn E (b + N) ec) mc ms (fr (b + N))) (hy : y.name = "<init>") (hcd : Cond.code y by_ mL none ∈ TB) (hini : Cond.initialized y.cls ∈ TB) (hlk : Cond.methodLink own index y ∈ TB) (him : Cond.instanceMethod y ∈ TB) (hd : y.cls ≠ "java/lang/invoke/MethodHandle" ∧ y.cls ≠ "java/lang/invoke/VarHandle" ∧ (parseMethodDescriptor y.desc).map (fun d => d.parameters.length) = some na) (hna : As.length = na) {ep : List va_E} (hep : es = ep ++ [x0]) (hN : ep.length = N) (he : ep ++ ec = es') (hR : f + 1 ≤ R.frames ∧ 8 + (mL + 11) + lo ≤ R.locals) (hcs : cells + mc ≤ R.cells ∧ slots + ms ≤ R.slots) (h8 : (rest.map fun v => v.category).sum ≤ 8) {st0 : List Value} (hst : st0 = As.reverse ++ .ref (b + N) :: rest) (hdg : decode cc pc = .ok (.invokespecial index, 3))
    (kk : ∀ (H1 : Heap) (locs1 : List Loc), CS E b es' H1 → va_S (fr b) H0 H1 locs1 → W p l e R s m args below meth c H1 locs1 (cells + mc) (slots + ms) Q (F0 m (pc + 3) ls rest)) : W p l e R s m args below meth c H locs cells slots Q (F0 m pc ls st0) := by
  obtain ⟨hx, hb, hml, hown, hT, hr, hlk2⟩ := id X
  subst hst
  subst hep
  subst he
  subst hN
  have hlast : CS E (b + ep.length) [x0] H := by
    refine ⟨by rw [hC.1, List.length_append]; simp; omega, fun k y hy => ?_⟩
    match k, hy with
    | 0, hy =>
      cases hy
      have := hC.2 ep.length x0 (by rw [List.getElem?_append_right (Nat.le_refl _), Nat.sub_self]; rfl)
      exact this
    | k + 1, hy => simp at hy
  refine va_callv (va_runI (As := As) (rest := rest) ⟨hx, hb, hml, hown, hT⟩ hM ⟨callB_of na hT (gC hcd) rfl rfl rfl (hT _ hini) (hT _ hlk) hd hR, hy, hT _ him⟩ ⟨fun a U g mk q => ⟨q.1, q.2.1, q.2.2.calling⟩, fun U hU hw => ⟨rfl, by rw [hU]; exact hlast, hK.warm hw⟩⟩ rfl hna hsz rfl (lv_room h8) hdg hcs) hS (fun q _ h => Nat.le_trans (Nat.le_add_right b _) h) (fun q h => Nat.le_trans (Nat.le_add_right b _) h) (fun u t H1 locs1 ht hvm hw hB hz1 hk1 hS1 => ?_)
  rw [ht] at hB
  refine kk H1 locs1 ⟨by rw [hB.1, List.length_append]; omega, fun k y hy => ?_⟩ hS1
  by_cases hl : k < ep.length
  · rw [List.getElem?_append_left hl] at hy
    have h0 := hC.2 k y (by rw [List.getElem?_append_left hl]; exact hy)
    refine h0.kept (hk1 _ h0.lt ?_)
    show ¬ (b + ep.length ≤ b + k)
    omega
  · rw [List.getElem?_append_right (by omega)] at hy
    have := hB.2 (k - ep.length) y hy
    rw [show b + ep.length + (k - ep.length) = b + k by omega] at this
    exact this
theorem n_callN (X : CX p s m args meth c cc nL ret own) (hK : KA E s) (hC : CS E b es H) (hS : va_S (fr b) H0 H locs) (hsz : ls.size = nL) {y : MethodName} {by_ : ByteArray} {mL N mc ms na f lo : Nat} {As : List Value} {x0 : va_E} {ec : List va_E} (hM : Met l y (Cond.code y by_ mL none :: TB) (rmg f lo mc ms) (va_Pc (.ref (b + N) :: As) (fun U => CS E (b + N) [x0] U.heap ∧ KA E U)) (Qn E (b + N) ec) mc ms (fr (b + N))) (hy : y.name = "<init>") (hcd : Cond.code y by_ mL none ∈ TB) (hini : Cond.initialized y.cls ∈ TB) (hlk : va_Nw (Cond.methodLinkNest own index y "MonitorTurns") s) (him : Cond.instanceMethod y ∈ TB) (hd : y.cls ≠ "java/lang/invoke/MethodHandle" ∧ y.cls ≠ "java/lang/invoke/VarHandle" ∧ (parseMethodDescriptor y.desc).map (fun d => d.parameters.length) = some na) (hna : As.length = na) {ep : List va_E} (hep : es = ep ++ [x0]) (hN : ep.length = N) (he : ep ++ ec = es') (hR : f + 1 ≤ R.frames ∧ 8 + (mL + 11) + lo ≤ R.locals) (hcs : cells + mc ≤ R.cells ∧ slots + ms ≤ R.slots) (h8 : (rest.map fun v => v.category).sum ≤ 8) {st0 : List Value} (hst : st0 = As.reverse ++ .ref (b + N) :: rest) (hdg : decode cc pc = .ok (.invokespecial index, 3))
    (kk : ∀ (H1 : Heap) (locs1 : List Loc), CS E b es' H1 → va_S (fr b) H0 H1 locs1 → W p l e R s m args below meth c H1 locs1 (cells + mc) (slots + ms) Q (F0 m (pc + 3) ls rest)) : W p l e R s m args below meth c H locs cells slots Q (F0 m pc ls st0) := by
  obtain ⟨hx, hb, hml, hown, hT, hr, hlk2⟩ := id X
  subst hst
  subst hep
  subst he
  subst hN
  have hlast : CS E (b + ep.length) [x0] H := by
    refine ⟨by rw [hC.1, List.length_append]; simp; omega, fun k y hy => ?_⟩
    match k, hy with
    | 0, hy =>
      cases hy
      have := hC.2 ep.length x0 (by rw [List.getElem?_append_right (Nat.le_refl _), Nat.sub_self]; rfl)
      exact this
    | k + 1, hy => simp at hy
  refine va_callv (va_runIN (As := As) (rest := rest) ⟨hx, hb, hml, hown, hT⟩ hM ⟨va_cnB na hT (gC hcd) rfl rfl rfl hlk (hT _ hini) hd hR, hy, hT _ him⟩ ⟨fun a U g mk q => ⟨q.1, q.2.1, q.2.2.calling⟩, fun U hU hw => ⟨rfl, by rw [hU]; exact hlast, hK.warm hw⟩⟩ rfl hna hsz rfl (lv_room h8) hdg hcs) hS (fun q _ h => Nat.le_trans (Nat.le_add_right b _) h) (fun q h => Nat.le_trans (Nat.le_add_right b _) h) (fun u t H1 locs1 ht hvm hw hB hz1 hk1 hS1 => ?_)
  rw [ht] at hB
  refine kk H1 locs1 ⟨by rw [hB.1, List.length_append]; omega, fun k y hy => ?_⟩ hS1
  by_cases hl : k < ep.length
  · rw [List.getElem?_append_left hl] at hy
    have h0 := hC.2 k y (by rw [List.getElem?_append_left hl]; exact hy)
    refine h0.kept (hk1 _ h0.lt ?_)
    show ¬ (b + ep.length ≤ b + k)
    omega
  · rw [List.getElem?_append_right (by omega)] at hy
    have := hB.2 (k - ep.length) y hy
    rw [show b + ep.length + (k - ep.length) = b + k by omega] at this
    exact this
theorem n_fill (X : CX p s m args meth c cc nL ret own) (hK : KA E s) (hC : CS E b es H) (hS : va_S (fr b) H0 H locs) (hsz : ls.size = nL) {q n : Nat} {f : Nat → Int32} {v : Int32} (hn : n < 2 ^ 31) (hq : es[q]? = some (eF E n f)) {a : Nat} (ha : b + q = a) (he : es.set q (eF E n (flw f n v)) = es') (hl : Cond.methodLink own index yJ7_fill_53178 ∈ TB) (hR : 0 + 1 ≤ R.frames ∧ 8 + (4 + 11) + 0 ≤ R.locals) (hcs : cells ≤ R.cells ∧ slots ≤ R.slots) (h8r : (rest.map fun v => v.category).sum ≤ 8) (hdg : decode cc pc = .ok (.invokestatic index, 3))
    (kk : ∀ (H1 : Heap) (locs1 : List Loc), CS E b es' H1 → va_S (fr b) H0 H1 locs1 → W p l e R s m args below meth c H1 locs1 cells slots Q (F0 m (pc + 3) ls rest)) : W p l e R s m args below meth c H locs cells slots Q (F0 m pc ls (.int v :: .ref a :: rest)) := by
  subst ha
  subst he
  refine va_callv (va_runS (As := [.ref (b + q), .int v]) (rest := rest) ⟨X.1, X.2.1, X.2.2.1, X.2.2.2.1, X.2.2.2.2.1⟩ (c_fill l (E.2.1 0) (b + q) n H.size f v hn) (va_cwS 2 X.2.2.2.2.1 (gS hl im_yJ7_fill_53178 iniRJ7 cd_yJ7_fill_53178) rfl rfl rfl (by decide +kernel) hR) ⟨fun a U g mk q => ⟨q.1, q.2.1, arrOfT_moved (Vm.Alike.refl U.vm) q.2.2.1, q.2.2.2.moved (Vm.Alike.refl U.vm)⟩, fun U hU hw => ⟨rfl, by rw [hU]; exact ⟨hC.2 q _ hq, rfl⟩, arrOfT_moved hw.alike (hK.1.1.2 0 _ rfl).1, (hK.1.1.2 0 _ rfl).2.moved hw.alike⟩⟩ rfl rfl hsz rfl (lv_room h8r) hdg hcs) hS (fun x _ h => by rw [h]; exact Nat.le_add_right b q) (fun x h => by rw [h]; exact Nat.le_add_right b q) (fun u t H1 locs1 ht hvm hw hB hz1 hk1 hS1 => ?_)
  rw [ht] at hB
  have hz : H1.size = H.size := hB.2
  refine kk H1 locs1 (hC.set hq hB.1 hz (fun x hx => ?_)) hS1
  by_cases hl : x < H.size
  · exact hk1 x hl hx
  · rw [Array.getElem?_eq_none (by omega), Array.getElem?_eq_none (by omega)]
end CN
