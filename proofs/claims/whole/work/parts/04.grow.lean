/-! filling a row of ints -/
def flw (f : Nat → Int32) (n : Nat) (v : Int32) : Nat → Int32 := fun j => if j < n then v else f j
theorem flw_0 (f : Nat → Int32) (v : Int32) : flw f 0 v = f := by
  funext j
  simp [flw]
theorem flw_s (f : Nat → Int32) (j : Nat) (v : Int32) : upd (flw f j v) j v = flw f (j + 1) v := by
  funext k
  unfold upd flw
  by_cases h : k = j
  · subst h
    rw [if_pos rfl, if_pos (by omega)]
  · rw [if_neg h]
    by_cases h2 : k < j
    · rw [if_pos h2, if_pos (by omega)]
    · rw [if_neg h2, if_neg (by omega)]
set_option maxRecDepth 100000 in
set_option maxHeartbeats 4000000 in
theorem l_fill (l : Launch) (cI : ClassId) (a n sz : Nat) (f : Nat → Int32) (v : Int32) (hn : n < 2 ^ 31) {p : Program} {e : Env} {s : State} {m : MethodId} {args : Array Value} {below : List Frame} {meth : Method} {c : Code} (X : CX p s m args meth c cJ7_fill_53178 4 none RJ7) (hA : ArrOfT s cI .int) (hA2 : va_RA s cI .int) :
    ∀ (k j : Nat), j + k = n → ∀ (H : Heap) (locs : List Loc) (ls : Array Slot), H[a]? = some (vp_cell cI (n, .inl (flw f j v))) ∧ H.size = sz → va_S (fun q => q = a) s.heap H locs → lv_has ls 4 [(2, .int (nI j)), (3, .int (nI n)), (0, .ref a), (1, .int v)] →
    W p l e (rmm 0 0) s m args below meth c H locs 0 0 (MQ below (va_Qv (fun (_ : Unit) => True) (fun _ t => t.heap[a]? = some (vp_cell cI (n, .inl (flw f n v))) ∧ t.heap.size = sz) (fun q => q = a)) args s 0 0 (fun q => q = a)) (F0 m 5 ls []) := by
  obtain ⟨hx, hb, hml, hown, hT, hr, hlk⟩ := id X
  have hK : va_K ((fun _ => 0), (fun _ _ => 0)) [] [(cI, .int)] s := ⟨fun c q h => by simp at h, fun k q h => by
    match k, h with
    | 0, h => cases h; exact ⟨hA, hA2⟩
    | k + 1, h => simp at h⟩
  intro k
  induction k with
  | zero =>
    intro j hj H locs ls hH hS hl
    have hj : j = n := by omega
    subst hj
    refine lv_iload_n hx hb dJ7_fill_53178_5 rfl (lv_at hl 0 rfl) ?_
    refine lv_iload_n hx hb dJ7_fill_53178_6 rfl (lv_at hl 1 rfl) ?_
    refine lv_icmp_ge (tgt := 20) hx hb dJ7_fill_53178_7 (by decide) (fun c1 => ?_) (fun c1 => ?_)
    · exact W.vret hx hb hr (fun t ht hw => ⟨⟨(), rfl, trivial, show t.heap[a]? = _ ∧ t.heap.size = sz by rw [ht]; exact hH⟩, hS.F ht⟩) hS.2.2 dJ7_fill_53178_20 (hlocks := hlk)
    · exact absurd (nI_le (Nat.le_refl _) hn) c1
  | succ k ih =>
    intro j hj H locs ls hH hS hl
    have hjn : j < n := by omega
    refine lv_iload_n hx hb dJ7_fill_53178_5 rfl (lv_at hl 0 rfl) ?_
    refine lv_iload_n hx hb dJ7_fill_53178_6 rfl (lv_at hl 1 rfl) ?_
    refine lv_icmp_ge (tgt := 20) hx hb dJ7_fill_53178_7 (by decide) (fun c1 => ?_) (fun c1 => ?_)
    · exact absurd c1 (nI_ge hjn hn)
    · refine lv_aload_n hx hb dJ7_fill_53178_10 rfl (lv_at hl 2 rfl) ?_
      refine lv_iload_n hx hb dJ7_fill_53178_11 rfl (lv_at hl 0 rfl) ?_
      refine lv_iload_n hx hb dJ7_fill_53178_12 rfl (lv_at hl 3 rfl) ?_
      refine W.iast hx hb hH.1 (hA n (fun i => .int (flw f j v i))) (fun q => by cases q) (by show ¬ (nI j < 0 ∨ (arrV _ _ _).slots.size ≤ _); rw [arrV_size]; exact vp_in_nI hjn hn) rfl rfl dJ7_fill_53178_13 fun H1 e z oq => ?_
      have hH1 : H1[a]? = some (vp_cell cI (n, .inl (flw f (j + 1) v))) ∧ H1.size = sz := by
        refine ⟨?_, z.trans hH.2⟩
        rw [e, vp_cell_i, vp_cell_i, arrV_store, nI_clamp (by omega), ← flw_s]
        congr 2
        funext q
        by_cases hq : q = j
        · subst hq
          simp [updV, upd]
        · simp [updV, upd, hq]
      have hS1 : va_S (fun q => q = a) s.heap H1 (locs ++ [⟨a, (nI j).toNatClampNeg⟩]) := hS.put z oq rfl
      refine W.eq (g2 := F0 m 14 ls []) rfl ?_
      refine lv_iinc (v := nI (j + 1)) (lv' := [(2, .int (nI (j + 1))), (3, .int (nI n)), (0, .ref a), (1, .int v)]) hx hb dJ7_fill_53178_14 hl (k := 0) rfl (nI_1 j) (by decide) rfl (fun ls hl => ?_)
      refine lv_goto (tgt := 5) hx hb dJ7_fill_53178_17 (by decide) ?_
      exact ih (j + 1) (by omega) _ _ _ hH1 hS1 hl
set_option maxRecDepth 100000 in
set_option maxHeartbeats 4000000 in
theorem c_fill (l : Launch) (cI : ClassId) (a n sz : Nat) (f : Nat → Int32) (v : Int32) (hn : n < 2 ^ 31) : Met l yJ7_fill_53178 (Cond.code yJ7_fill_53178 cJ7_fill_53178 4 none :: TB) (rmm 0 0) (va_Pc [.ref a, .int v] (fun U => (U.heap[a]? = some (vp_cell cI (n, .inl f)) ∧ U.heap.size = sz) ∧ ArrOfT U cI .int ∧ va_RA U cI .int)) (va_Qv (fun (_ : Unit) => True) (fun _ t => t.heap[a]? = some (vp_cell cI (n, .inl (flw f n v))) ∧ t.heap.size = sz) (fun q => q = a)) 0 0 (fun q => q = a) := by
  refine Met.ofW (cc := cJ7_fill_53178) (maxL := 4) (ret := none) (by decide) rfl ?_
  intro p e s m args below meth c s₁ B hml hv
  obtain ⟨rfl, hH, hA, hA2⟩ := hv
  have hT : ∀ w ∈ TB, w.before _ s = true := fun w h => atoms_spec (ws := Cond.code yJ7_fill_53178 cJ7_fill_53178 4 none :: TB) B.pre w (List.mem_cons_of_mem _ h)
  have X : CX p s m _ meth c cJ7_fill_53178 4 none RJ7 := ⟨B.exec, B.bytes, hml, findClass_of_methodNamed B.named, hT, B.returns, B.notSynchronized⟩
  obtain ⟨hx, hb, hml, hown, hT, hr, hlk⟩ := id X
  have hS : va_S (fun q => q = a) s.heap s.heap [] := va_S.rf
  have hK : va_K ((fun _ => 0), (fun _ _ => 0)) [] [(cI, .int)] s := ⟨fun c q h => by simp at h, fun k q h => by
    match k, h with
    | 0, h => cases h; exact ⟨hA, hA2⟩
    | k + 1, h => simp at h⟩
  have hP : va_P ((fun _ => 0), (fun _ _ => 0)) [] [(a, .inl (cI, n, .inl f))] s.heap := by
    intro i q hq
    match i, hq with
    | 0, hq => cases hq; exact hH.1
    | i + 1, hq => simp at hq
  have hl := lv_entry ([.ref a, .int v]) (n := 4) (Nat.le_of_ble_eq_true rfl)
  rw [lg_entry_eq]
  generalize (lg_sl ([.ref a, .int v]) ++ List.replicate (4 - (lg_sl ([.ref a, .int v])).length) Slot.unset).toArray = ls at hl ⊢
  have hl : lv_has ls 4 [(0, .ref a), (1, .int v)] := hl
  refine lv_iconst (v := 0) hx hb dJ7_fill_53178_0 (by decide) ?_
  refine lv_istore_n (lv' := [(2, .int 0), (0, .ref a), (1, .int v)]) hx hb dJ7_fill_53178_1 rfl hl (by decide) rfl (fun ls hl => ?_)
  refine lv_aload_n hx hb dJ7_fill_53178_2 rfl (lv_at hl 1 rfl) ?_
  refine va_alen (v := nI n) hx hb hK hP 0 0 rfl rfl rfl dJ7_fill_53178_3 ?_
  refine lv_istore_n (lv' := [(3, .int (nI n)), (2, .int 0), (0, .ref a), (1, .int v)]) hx hb dJ7_fill_53178_4 rfl hl (by decide) rfl (fun ls hl => ?_)
  exact l_fill l cI a n sz f v hn X hA hA2 n 0 (by omega) _ _ _ (by rw [flw_0]; exact hH) hS (lv_sub hl [1, 0, 2, 3] rfl)
/-! a row replaced -/
def rwm (M : Mem) (c i : Nat) (g : Nat → Int32) : Mem := fun c' i' => if c' = c ∧ i' = i then g else M c' i'
theorem rwm_eq (M : Mem) (c i : Nat) (g : Nat → Int32) : rwm M c i g c i = g := by simp [rwm]
theorem rwm_ne (M : Mem) {c i : Nat} (g : Nat → Int32) {c' i' : Nat} (h : ¬ (c' = c ∧ i' = i)) : rwm M c i g c' i' = M c' i' := by simp only [rwm]; rw [if_neg h]
theorem rwm_ob (ca : Nat → ClassId) (ad : Nat → Nat → Nat) (M N : Mem) {c i : Nat} (g : Nat → Int32) (h1 : c ≠ 60) (h8 : c ≠ 8) (c' i' : Nat) (h : ¬ (c' = c ∧ i' = i)) : ob ca ad (rwm M c i g, N) c' i' = ob ca ad (M, N) c' i' := by
  have e1 : rwm M c i g 60 0 0 = M 60 0 0 := by rw [rwm_ne M g (fun q => h1 q.1.symm)]
  have e8 : rwm M c i g 8 i' 4 = M 8 i' 4 := by rw [rwm_ne M g (fun q => h8 q.1.symm)]
  have hm : me (rwm M c i g, N) c' c' i' = me (M, N) c' c' i' := by
    unfold me
    cases Nat.blt c' 20
    · rfl
    · exact rwm_ne M g h
  unfold ob
  split
  · rename_i ci sh _
    congr 3
    exact funext (fun q => sv_row hm q)
  · rw [hm]
  · rw [hm]
  · rename_i e
    have h19 := kd_19 e
    subst h19
    show Sum.inl (ca 0, (rwm M c i g 8 i' 4).toNatClampNeg, Sum.inl (rwm M c i g 19 i')) = _
    rw [e8, rwm_ne M g h]
  · rfl
  · rfl
  · show Sum.inl (ca 4, 32, Sum.inr (Sum.inr (Sum.inr (Sum.inr fun j => if j < (rwm M c i g 60 0 0).toNatClampNeg then some (ad 8 j) else none)))) = _
    rw [e1]
theorem rwm_cnt (M : Mem) {c i : Nat} (g : Nat → Int32) (h1 : c ≠ 60) (c' : Nat) : cnt (rwm M c i g) c' = cnt M c' := by
  have e1 : rwm M c i g 60 0 1 = M 60 0 1 := by rw [rwm_ne M g (fun q => h1 q.1.symm)]
  unfold cnt
  split <;> first | rfl | rw [e1]
set_option maxRecDepth 100000 in
set_option maxHeartbeats 4000000 in
theorem k_fill {p : Program} {l : Launch} {e : Env} {R : Room} {s : State} {m : MethodId} {args : Array Value} {below : List Frame} {meth : Method} {c : Code} {H : Heap} {locs : List Loc} {cells slots : Nat} {Q : State → Prop} {cc : ByteArray} {pc nL index : Nat} {ret : Option FieldType} {own : String} {ls : Array Slot} {rest : List Value} {E : Lay} {ad : Nat → Nat → Nat} {M N : Mem} (X : CX p s m args meth c cc nL ret own) (hK : KK E s) (hW : WD E ad (M, N) H) (hS : va_S (ow E) s.heap H locs) (hsz : ls.size = nL) {cp i n : Nat} {v : Int32} (hv : i < cnt M cp) (h1 : cp ≠ 60) (h8 : cp ≠ 8) (hn : n < 2 ^ 31) (ho : ob E.2.1 ad (M, N) cp i = .inl (E.2.1 0, n, .inl (M cp i))) (ho2 : ∀ g : Nat → Int32, ob E.2.1 ad (rwm M cp i g, N) cp i = .inl (E.2.1 0, n, .inl g)) {M1 : Mem} (hM : M1 = rwm M cp i (flw (M cp i) n v)) (hl : Cond.methodLink own index yJ7_fill_53178 ∈ TB) (hR : 0 + 1 ≤ R.frames ∧ 8 + (4 + 11) + 0 ≤ R.locals) (hC : cells ≤ R.cells ∧ slots ≤ R.slots) (h8r : (rest.map fun v => v.category).sum ≤ 8) (hdg : decode cc pc = .ok (.invokestatic index, 3))
    (kk : ∀ (H1 : Heap) (locs1 : List Loc), WD E ad (M1, N) H1 → va_S (ow E) s.heap H1 locs1 → W p l e R s m args below meth c H1 locs1 cells slots Q (F0 m (pc + 3) ls rest)) : W p l e R s m args below meth c H locs cells slots Q (F0 m pc ls (.int v :: .ref (ad cp i) :: rest)) := by
  obtain ⟨hat, hown⟩ := hW.1 cp i hv
  rw [ho] at hat
  refine va_callv (va_runS (As := [.ref (ad cp i), .int v]) (rest := rest) ⟨X.1, X.2.1, X.2.2.1, X.2.2.2.1, X.2.2.2.2.1⟩ (c_fill l (E.2.1 0) (ad cp i) n H.size (M cp i) v hn) (va_cwS 2 X.2.2.2.2.1 (gS hl im_yJ7_fill_53178 iniRJ7 cd_yJ7_fill_53178) rfl rfl rfl (by decide +kernel) hR) ⟨fun a U g mk q => ⟨q.1, q.2.1, arrOfT_moved (Vm.Alike.refl U.vm) q.2.2.1, q.2.2.2.moved (Vm.Alike.refl U.vm)⟩, fun U hU hw => ⟨rfl, by rw [hU]; exact ⟨hat, rfl⟩, arrOfT_moved hw.alike (hK.1.2 0 _ rfl).1, (hK.1.2 0 _ rfl).2.moved hw.alike⟩⟩ rfl rfl hsz rfl (lv_room h8r) hdg hC) hS (fun q _ h => by rw [h]; exact hown) (fun q h => by rw [h]; exact hown) (fun u t H1 locs1 ht hvm hw hB hz1 hk1 hS1 => ?_)
  subst hM
  rw [ht] at hB
  refine kk H1 locs1 (hW.put hv ?_ (fun c' i' _ h => rwm_ob E.2.1 ad M N _ h1 h8 c' i' h) (rwm_cnt M _ h1) (fun q hq hne => hk1 q hq hne)) hS1
  rw [ho2]
  exact hB.1
theorem rw19 (ca : Nat → ClassId) (ad : Nat → Nat → Nat) (M N : Mem) (i : Nat) (z : Nat → Int32) : ob ca ad (rwm M 19 i z, N) 19 i = .inl (ca 0, (M 8 i 4).toNatClampNeg, .inl z) := by
  show Sum.inl (ca 0, (rwm M 19 i z 8 i 4).toNatClampNeg, Sum.inl (rwm M 19 i z 19 i)) = _
  rw [rwm_eq, rwm_ne M z (by omega)]
