def f_yX8_rule (M : Mem) (x1 : Int32) : Option (Int32 × Mem) := (if x1 < 0 then (some ((-1), M)) else (if x1 ≤ 1 then lt1 (mp M 0 0 0 x1) (fun M3 => (some ((M 0 0 0), M3))) else (some ((-1), M))))
set_option maxRecDepth 100000 in
set_option maxHeartbeats 4000000 in
theorem c_yX8_rule (l : Launch) (E : Lay) (ad : Nat → Nat → Nat) (M N : Mem) (x1 : Int32) (r : Int32) (Mr : Mem) (hf : f_yX8_rule M x1 = some (r, Mr)) : Met l yX8_rule (Cond.code yX8_rule cX8_rule 3 (some .int) :: TB) (rmm 0 0) (va_Pc [.ref (ad 0 0), .int x1] (PB E ad (M, N))) (Qi E ad r (Mr, N)) 0 0 (ow E) := by
  refine Met.ofW (cc := cX8_rule) (maxL := 3) (ret := (some .int)) (by decide) rfl ?_
  intro p e s m args below meth c s₁ B hml hv
  obtain ⟨rfl, hW, hK, hZ⟩ := hv
  have hT : ∀ w ∈ TB, w.before _ s = true := fun w h => atoms_spec (ws := (Cond.code yX8_rule cX8_rule 3 (some .int) :: TB)) B.pre w (List.mem_cons_of_mem _ h)
  have X : CX p s m _ meth c cX8_rule 3 (some .int) RX8 := ⟨B.exec, B.bytes, hml, findClass_of_methodNamed B.named, hT, B.returns, B.notSynchronized⟩
  obtain ⟨hx, hb, hml, hown, hT, hr, hlk⟩ := id X
  have hS : va_S (ow E) s.heap s.heap [] := va_S.rf
  have hl := lv_entry ([.ref (ad 0 0), .int x1]) (n := 3) (Nat.le_of_ble_eq_true rfl)
  rw [lg_entry_eq]
  generalize (lg_sl ([.ref (ad 0 0), .int x1]) ++ List.replicate (3 - (lg_sl ([.ref (ad 0 0), .int x1])).length) Slot.unset).toArray = ls at hl ⊢
  have hl : lv_has ls 3 [(0, .ref (ad 0 0)), (1, .int x1)] := hl
  unfold f_yX8_rule at hf
  refine lv_iload_n hx hb dX8_rule_0 rfl (lv_at hl 1 rfl) ?_
  refine lv_if_lt (tgt := 9) hx hb dX8_rule_1 (by decide) (fun c1 => ?_) (fun c1 => ?_)
  · rw [if_pos c1] at hf
    refine lv_iconst (v := -1) hx hb dX8_rule_9 (by decide) ?_
    obtain ⟨rfl, rfl⟩ := sp2 hf
    exact e_i ⟨hx, hb, hr, hlk⟩ hW hS dX8_rule_10
  · rw [if_neg c1] at hf
    refine lv_iload_n hx hb dX8_rule_4 rfl (lv_at hl 1 rfl) ?_
    refine lv_iconst (v := 1) hx hb dX8_rule_5 (by decide) ?_
    refine lv_icmp_le (tgt := 11) hx hb dX8_rule_6 (by decide) (fun c2 => ?_) (fun c2 => ?_)
    · rw [if_pos c2] at hf
      refine lv_aload_n hx hb dX8_rule_11 rfl (lv_at hl 0 rfl) ?_
      refine g_8_5 X hK hW flRX8_155 dX8_rule_12 ?_
      refine lv_istore_n (lv' := [(2, .int (M 0 0 0)), (0, .ref (ad 0 0)), (1, .int x1)]) hx hb dX8_rule_15 rfl hl (by decide) rfl (fun ls hl => ?_)
      refine lv_aload_n hx hb dX8_rule_16 rfl (lv_at hl 1 rfl) ?_
      refine lv_iload_n hx hb dX8_rule_17 rfl (lv_at hl 2 rfl) ?_
      obtain ⟨M3, hM3, hf⟩ := lt1_some hf
      refine p_8_5 X hK hW hS hM3 flRX8_155 dX8_rule_18 (fun H locs hW hS => ?_)
      refine lv_iload_n hx hb dX8_rule_21 rfl (lv_at hl 0 rfl) ?_
      obtain ⟨rfl, rfl⟩ := sp2 hf
      exact e_i ⟨hx, hb, hr, hlk⟩ hW hS dX8_rule_22
    · rw [if_neg c2] at hf
      refine lv_iconst (v := -1) hx hb dX8_rule_9 (by decide) ?_
      obtain ⟨rfl, rfl⟩ := sp2 hf
      exact e_i ⟨hx, hb, hr, hlk⟩ hW hS dX8_rule_10
set_option maxRecDepth 100000 in
set_option maxHeartbeats 4000000 in
theorem k_yX8_rule {p : Program} {l : Launch} {e : Env} {R : Room} {s : State} {m : MethodId} {args : Array Value} {below : List Frame} {meth : Method} {c : Code} {H : Heap} {locs : List Loc} {cells slots : Nat} {Q : State → Prop} {cc : ByteArray} {pc nL index : Nat} {ret : Option FieldType} {own : String} {ls : Array Slot} {rest : List Value} {E : Lay} {ad : Nat → Nat → Nat} {M N : Mem} (X : CX p s m args meth c cc nL ret own) (hK : KK E s) (hZ : ZZ E s) (hW : WD E ad (M, N) H) (hS : va_S (ow E) s.heap H locs) (hsz : ls.size = nL) {x1 : Int32} {r : Int32} {Mr : Mem} (hf : f_yX8_rule M x1 = some (r, Mr)) (hn : Cond.methodLink own index yX8_rule ∈ TB) (hR : 0 + 1 ≤ R.frames ∧ 8 + (3 + 11) + 0 ≤ R.locals) (hC : cells ≤ R.cells ∧ slots ≤ R.slots) (h8 : (rest.map fun v => v.category).sum ≤ 8) (hdg : decode cc pc = .ok (.invokevirtual index, 3)) (kk : ∀ (H1 : Heap) (locs1 : List Loc), WD E ad (Mr, N) H1 → va_S (ow E) s.heap H1 locs1 → W p l e R s m args below meth c H1 locs1 cells slots Q (F0 m (pc + 3) ls (.int r :: rest))) : W p l e R s m args below meth c H locs cells slots Q (F0 m pc ls (.int x1 :: .ref (ad 0 0) :: rest)) := by
  refine va_calli (va_runV (C := RX8) (As := [.int x1]) (rest := rest) ⟨X.1, X.2.1, X.2.2.1, X.2.2.2.1, X.2.2.2.2.1⟩ (c_yX8_rule l E ad M N x1 r Mr hf) (cwV 1 X.2.2.2.2.1 (gV hn im_yX8_rule se_yX8_rule iniRX8 cd_yX8_rule) rfl rfl rfl (by decide +kernel) hR) ⟨fun a U g mk q => ⟨q.1, q.2.calling⟩, va_recv hK.1 (hW.at (c := 0) (i := 0) Nat.zero_lt_one rfl) (ci := 8) (q0 := 0) rfl rfl, fun U hU hw => ⟨rfl, PB.at hW hK hZ hS hU hw⟩⟩ rfl rfl hsz rfl (lv_room h8) hdg hC) hS (fun _ _ h => h) (fun _ h => h) (fun r' u t H1 locs1 ht hvm hw hB hz1 hk1 hS1 => ?_)
  obtain ⟨rfl, rfl⟩ := hw
  rw [ht] at hB
  exact kk H1 locs1 hB hS1
def f_yX8_order (M : Mem) (x1 : Int32) : Option (Int32 × Mem) := (if x1 < 0 then (some ((-1), M)) else (if x1 ≤ 2 then lt1 (mp M 2 0 1 x1) (fun M3 => (some ((M 2 0 1), M3))) else (some ((-1), M))))
set_option maxRecDepth 100000 in
set_option maxHeartbeats 4000000 in
theorem c_yX8_order (l : Launch) (E : Lay) (ad : Nat → Nat → Nat) (M N : Mem) (x1 : Int32) (r : Int32) (Mr : Mem) (hf : f_yX8_order M x1 = some (r, Mr)) : Met l yX8_order (Cond.code yX8_order cX8_order 3 (some .int) :: TB) (rmm 0 0) (va_Pc [.ref (ad 0 0), .int x1] (PB E ad (M, N))) (Qi E ad r (Mr, N)) 0 0 (ow E) := by
  refine Met.ofW (cc := cX8_order) (maxL := 3) (ret := (some .int)) (by decide) rfl ?_
  intro p e s m args below meth c s₁ B hml hv
  obtain ⟨rfl, hW, hK, hZ⟩ := hv
  have hT : ∀ w ∈ TB, w.before _ s = true := fun w h => atoms_spec (ws := (Cond.code yX8_order cX8_order 3 (some .int) :: TB)) B.pre w (List.mem_cons_of_mem _ h)
  have X : CX p s m _ meth c cX8_order 3 (some .int) RX8 := ⟨B.exec, B.bytes, hml, findClass_of_methodNamed B.named, hT, B.returns, B.notSynchronized⟩
  obtain ⟨hx, hb, hml, hown, hT, hr, hlk⟩ := id X
  have hS : va_S (ow E) s.heap s.heap [] := va_S.rf
  have hl := lv_entry ([.ref (ad 0 0), .int x1]) (n := 3) (Nat.le_of_ble_eq_true rfl)
  rw [lg_entry_eq]
  generalize (lg_sl ([.ref (ad 0 0), .int x1]) ++ List.replicate (3 - (lg_sl ([.ref (ad 0 0), .int x1])).length) Slot.unset).toArray = ls at hl ⊢
  have hl : lv_has ls 3 [(0, .ref (ad 0 0)), (1, .int x1)] := hl
  unfold f_yX8_order at hf
  refine lv_iload_n hx hb dX8_order_0 rfl (lv_at hl 1 rfl) ?_
  refine lv_if_lt (tgt := 9) hx hb dX8_order_1 (by decide) (fun c1 => ?_) (fun c1 => ?_)
  · rw [if_pos c1] at hf
    refine lv_iconst (v := -1) hx hb dX8_order_9 (by decide) ?_
    obtain ⟨rfl, rfl⟩ := sp2 hf
    exact e_i ⟨hx, hb, hr, hlk⟩ hW hS dX8_order_10
  · rw [if_neg c1] at hf
    refine lv_iload_n hx hb dX8_order_4 rfl (lv_at hl 1 rfl) ?_
    refine lv_iconst (v := 2) hx hb dX8_order_5 (by decide) ?_
    refine lv_icmp_le (tgt := 11) hx hb dX8_order_6 (by decide) (fun c2 => ?_) (fun c2 => ?_)
    · rw [if_pos c2] at hf
      refine lv_aload_n hx hb dX8_order_11 rfl (lv_at hl 0 rfl) ?_
      refine g_8_1 X hK hW flRX8_21 dX8_order_12 ?_
      refine g_1_3 X hK hW flRX8_158 dX8_order_15 ?_
      refine lv_istore_n (lv' := [(2, .int (M 2 0 1)), (0, .ref (ad 0 0)), (1, .int x1)]) hx hb dX8_order_18 rfl hl (by decide) rfl (fun ls hl => ?_)
      refine lv_aload_n hx hb dX8_order_19 rfl (lv_at hl 1 rfl) ?_
      refine g_8_1 X hK hW flRX8_21 dX8_order_20 ?_
      refine lv_iload_n hx hb dX8_order_23 rfl (lv_at hl 2 rfl) ?_
      obtain ⟨M3, hM3, hf⟩ := lt1_some hf
      refine p_1_3 X hK hW hS hM3 flRX8_158 dX8_order_24 (fun H locs hW hS => ?_)
      refine lv_iload_n hx hb dX8_order_27 rfl (lv_at hl 0 rfl) ?_
      obtain ⟨rfl, rfl⟩ := sp2 hf
      exact e_i ⟨hx, hb, hr, hlk⟩ hW hS dX8_order_28
    · rw [if_neg c2] at hf
      refine lv_iconst (v := -1) hx hb dX8_order_9 (by decide) ?_
      obtain ⟨rfl, rfl⟩ := sp2 hf
      exact e_i ⟨hx, hb, hr, hlk⟩ hW hS dX8_order_10
set_option maxRecDepth 100000 in
set_option maxHeartbeats 4000000 in
theorem k_yX8_order {p : Program} {l : Launch} {e : Env} {R : Room} {s : State} {m : MethodId} {args : Array Value} {below : List Frame} {meth : Method} {c : Code} {H : Heap} {locs : List Loc} {cells slots : Nat} {Q : State → Prop} {cc : ByteArray} {pc nL index : Nat} {ret : Option FieldType} {own : String} {ls : Array Slot} {rest : List Value} {E : Lay} {ad : Nat → Nat → Nat} {M N : Mem} (X : CX p s m args meth c cc nL ret own) (hK : KK E s) (hZ : ZZ E s) (hW : WD E ad (M, N) H) (hS : va_S (ow E) s.heap H locs) (hsz : ls.size = nL) {x1 : Int32} {r : Int32} {Mr : Mem} (hf : f_yX8_order M x1 = some (r, Mr)) (hn : Cond.methodLink own index yX8_order ∈ TB) (hR : 0 + 1 ≤ R.frames ∧ 8 + (3 + 11) + 0 ≤ R.locals) (hC : cells ≤ R.cells ∧ slots ≤ R.slots) (h8 : (rest.map fun v => v.category).sum ≤ 8) (hdg : decode cc pc = .ok (.invokevirtual index, 3)) (kk : ∀ (H1 : Heap) (locs1 : List Loc), WD E ad (Mr, N) H1 → va_S (ow E) s.heap H1 locs1 → W p l e R s m args below meth c H1 locs1 cells slots Q (F0 m (pc + 3) ls (.int r :: rest))) : W p l e R s m args below meth c H locs cells slots Q (F0 m pc ls (.int x1 :: .ref (ad 0 0) :: rest)) := by
  refine va_calli (va_runV (C := RX8) (As := [.int x1]) (rest := rest) ⟨X.1, X.2.1, X.2.2.1, X.2.2.2.1, X.2.2.2.2.1⟩ (c_yX8_order l E ad M N x1 r Mr hf) (cwV 1 X.2.2.2.2.1 (gV hn im_yX8_order se_yX8_order iniRX8 cd_yX8_order) rfl rfl rfl (by decide +kernel) hR) ⟨fun a U g mk q => ⟨q.1, q.2.calling⟩, va_recv hK.1 (hW.at (c := 0) (i := 0) Nat.zero_lt_one rfl) (ci := 8) (q0 := 0) rfl rfl, fun U hU hw => ⟨rfl, PB.at hW hK hZ hS hU hw⟩⟩ rfl rfl hsz rfl (lv_room h8) hdg hC) hS (fun _ _ h => h) (fun _ h => h) (fun r' u t H1 locs1 ht hvm hw hB hz1 hk1 hS1 => ?_)
  obtain ⟨rfl, rfl⟩ := hw
  rw [ht] at hB
  exact kk H1 locs1 hB hS1
def f_yX8_isSlot (x0 : Int32) : Option (Int32) := (if x0 < 0 then (some 0) else (if 6 ≤ x0 then (some 0) else (some 1)))
set_option maxRecDepth 100000 in
set_option maxHeartbeats 4000000 in
theorem c_yX8_isSlot (l : Launch) (E : Lay) (ad : Nat → Nat → Nat) (M N : Mem) (x0 : Int32) (r : Int32) (hf : f_yX8_isSlot x0 = some r) : Met l yX8_isSlot (Cond.code yX8_isSlot cX8_isSlot 1 (some .boolean) :: TB) (rmm 0 0) (va_Pc [.int x0] (PB E ad (M, N))) (Qi E ad r (M, N)) 0 0 (ow E) := by
  refine Met.ofW (cc := cX8_isSlot) (maxL := 1) (ret := (some .boolean)) (by decide) rfl ?_
  intro p e s m args below meth c s₁ B hml hv
  obtain ⟨rfl, hW, hK, hZ⟩ := hv
  have hT : ∀ w ∈ TB, w.before _ s = true := fun w h => atoms_spec (ws := (Cond.code yX8_isSlot cX8_isSlot 1 (some .boolean) :: TB)) B.pre w (List.mem_cons_of_mem _ h)
  have X : CX p s m _ meth c cX8_isSlot 1 (some .boolean) RX8 := ⟨B.exec, B.bytes, hml, findClass_of_methodNamed B.named, hT, B.returns, B.notSynchronized⟩
  obtain ⟨hx, hb, hml, hown, hT, hr, hlk⟩ := id X
  have hS : va_S (ow E) s.heap s.heap [] := va_S.rf
  have hl := lv_entry ([.int x0]) (n := 1) (Nat.le_of_ble_eq_true rfl)
  rw [lg_entry_eq]
  generalize (lg_sl ([.int x0]) ++ List.replicate (1 - (lg_sl ([.int x0])).length) Slot.unset).toArray = ls at hl ⊢
  have hl : lv_has ls 1 [(0, .int x0)] := hl
  unfold f_yX8_isSlot at hf
  refine lv_iload_n hx hb dX8_isSlot_0 rfl (lv_at hl 0 rfl) ?_
  refine lv_if_lt (tgt := 14) hx hb dX8_isSlot_1 (by decide) (fun c1 => ?_) (fun c1 => ?_)
  · rw [if_pos c1] at hf
    refine lv_iconst (v := 0) hx hb dX8_isSlot_14 (by decide) ?_
    obtain rfl := sp1 hf
    exact e_z ⟨hx, hb, hr, hlk⟩ rfl hW hS dX8_isSlot_15
  · rw [if_neg c1] at hf
    refine lv_iload_n hx hb dX8_isSlot_4 rfl (lv_at hl 0 rfl) ?_
    refine lv_bipush (v := 6) hx hb dX8_isSlot_5 (by decide) ?_
    refine lv_icmp_ge (tgt := 14) hx hb dX8_isSlot_7 (by decide) (fun c2 => ?_) (fun c2 => ?_)
    · rw [if_pos c2] at hf
      refine lv_iconst (v := 0) hx hb dX8_isSlot_14 (by decide) ?_
      obtain rfl := sp1 hf
      exact e_z ⟨hx, hb, hr, hlk⟩ rfl hW hS dX8_isSlot_15
    · rw [if_neg c2] at hf
      refine lv_iconst (v := 1) hx hb dX8_isSlot_10 (by decide) ?_
      refine lv_goto (tgt := 15) hx hb dX8_isSlot_11 (by decide) ?_
      obtain rfl := sp1 hf
      exact e_z ⟨hx, hb, hr, hlk⟩ rfl hW hS dX8_isSlot_15
set_option maxRecDepth 100000 in
set_option maxHeartbeats 4000000 in
theorem k_yX8_isSlot {p : Program} {l : Launch} {e : Env} {R : Room} {s : State} {m : MethodId} {args : Array Value} {below : List Frame} {meth : Method} {c : Code} {H : Heap} {locs : List Loc} {cells slots : Nat} {Q : State → Prop} {cc : ByteArray} {pc nL index : Nat} {ret : Option FieldType} {own : String} {ls : Array Slot} {rest : List Value} {E : Lay} {ad : Nat → Nat → Nat} {M N : Mem} (X : CX p s m args meth c cc nL ret own) (hK : KK E s) (hZ : ZZ E s) (hW : WD E ad (M, N) H) (hS : va_S (ow E) s.heap H locs) (hsz : ls.size = nL) {x0 : Int32} {r : Int32} (hf : f_yX8_isSlot x0 = some r) (hn : Cond.methodLink own index yX8_isSlot ∈ TB) (hR : 0 + 1 ≤ R.frames ∧ 8 + (1 + 11) + 0 ≤ R.locals) (hC : cells ≤ R.cells ∧ slots ≤ R.slots) (h8 : (rest.map fun v => v.category).sum ≤ 8) (hdg : decode cc pc = .ok (.invokestatic index, 3)) (kk : ∀ (H1 : Heap) (locs1 : List Loc), WD E ad (M, N) H1 → va_S (ow E) s.heap H1 locs1 → W p l e R s m args below meth c H1 locs1 cells slots Q (F0 m (pc + 3) ls (.int r :: rest))) : W p l e R s m args below meth c H locs cells slots Q (F0 m pc ls (.int x0 :: rest)) := by
  refine va_calli (va_runS (As := [.int x0]) (rest := rest) ⟨X.1, X.2.1, X.2.2.1, X.2.2.2.1, X.2.2.2.2.1⟩ (c_yX8_isSlot l E ad M N x0 r hf) (va_cwS 1 X.2.2.2.2.1 (gS hn im_yX8_isSlot iniRX8 cd_yX8_isSlot) rfl rfl rfl (by decide +kernel) hR) ⟨fun a U g mk q => ⟨q.1, q.2.calling⟩, fun U hU hw => ⟨rfl, PB.at hW hK hZ hS hU hw⟩⟩ rfl rfl hsz rfl (lv_room h8) hdg hC) hS (fun _ _ h => h) (fun _ h => h) (fun r' u t H1 locs1 ht hvm hw hB hz1 hk1 hS1 => ?_)
  obtain ⟨rfl, rfl⟩ := hw
  rw [ht] at hB
  exact kk H1 locs1 hB hS1
set_option maxRecDepth 100000 in
set_option maxHeartbeats 4000000 in
theorem k_yX8_isSlotN {p : Program} {l : Launch} {e : Env} {R : Room} {s : State} {m : MethodId} {args : Array Value} {below : List Frame} {meth : Method} {c : Code} {H : Heap} {locs : List Loc} {cells slots : Nat} {Q : State → Prop} {cc : ByteArray} {pc nL index : Nat} {ret : Option FieldType} {own : String} {ls : Array Slot} {rest : List Value} {E : Lay} {ad : Nat → Nat → Nat} {M N : Mem} (X : CX p s m args meth c cc nL ret own) (hK : KK E s) (hZ : ZZ E s) (hW : WD E ad (M, N) H) (hS : va_S (ow E) s.heap H locs) (hsz : ls.size = nL) {x0 : Int32} {r : Int32} (hf : f_yX8_isSlot x0 = some r) (hn : va_Nw (Cond.methodLinkNest own index yX8_isSlot "MonitorTurns") s) (hR : 0 + 1 ≤ R.frames ∧ 8 + (1 + 11) + 0 ≤ R.locals) (hC : cells ≤ R.cells ∧ slots ≤ R.slots) (h8 : (rest.map fun v => v.category).sum ≤ 8) (hdg : decode cc pc = .ok (.invokestatic index, 3)) (kk : ∀ (H1 : Heap) (locs1 : List Loc), WD E ad (M, N) H1 → va_S (ow E) s.heap H1 locs1 → W p l e R s m args below meth c H1 locs1 cells slots Q (F0 m (pc + 3) ls (.int r :: rest))) : W p l e R s m args below meth c H locs cells slots Q (F0 m pc ls (.int x0 :: rest)) := by
  refine va_calli (va_runSN (As := [.int x0]) (rest := rest) ⟨X.1, X.2.1, X.2.2.1, X.2.2.2.1, X.2.2.2.2.1⟩ (c_yX8_isSlot l E ad M N x0 r hf) ⟨va_cnB 1 X.2.2.2.2.1 (gC cd_yX8_isSlot) rfl rfl rfl hn (X.2.2.2.2.1 _ iniRX8) (by decide +kernel) hR, X.2.2.2.2.1 _ im_yX8_isSlot, trivial⟩ ⟨fun a U g mk q => ⟨q.1, q.2.calling⟩, fun U hU hw => ⟨rfl, PB.at hW hK hZ hS hU hw⟩⟩ rfl rfl hsz rfl (lv_room h8) hdg hC) hS (fun _ _ h => h) (fun _ h => h) (fun r' u t H1 locs1 ht hvm hw hB hz1 hk1 hS1 => ?_)
  obtain ⟨rfl, rfl⟩ := hw
  rw [ht] at hB
  exact kk H1 locs1 hB hS1
def f_yX8_programAt (M : Mem) (x1 : Int32) : Option (Option Nat) := (if x1 < 0 then (some none) else (if 8 ≤ x1 then (some none) else gd (¬ (x1 < 0 ∨ 8 ≤ x1.toNatClampNeg)) ((some (some x1.toNatClampNeg)))))
set_option maxRecDepth 100000 in
set_option maxHeartbeats 4000000 in
theorem c_yX8_programAt (l : Launch) (E : Lay) (ad : Nat → Nat → Nat) (M N : Mem) (x1 : Int32) (r : Option Nat) (hf : f_yX8_programAt M x1 = some r) : Met l yX8_programAt (Cond.code yX8_programAt cX8_programAt 2 (some (.object "MonitorTurns$Program")) :: TB) (rmm 0 0) (va_Pc [.ref (ad 0 0), .int x1] (PB E ad (M, N))) (Qq E ad ((r).map (ad 5)) (M, N)) 0 0 (ow E) := by
  refine Met.ofW (cc := cX8_programAt) (maxL := 2) (ret := (some (.object "MonitorTurns$Program"))) (by decide) rfl ?_
  intro p e s m args below meth c s₁ B hml hv
  obtain ⟨rfl, hW, hK, hZ⟩ := hv
  have hT : ∀ w ∈ TB, w.before _ s = true := fun w h => atoms_spec (ws := (Cond.code yX8_programAt cX8_programAt 2 (some (.object "MonitorTurns$Program")) :: TB)) B.pre w (List.mem_cons_of_mem _ h)
  have X : CX p s m _ meth c cX8_programAt 2 (some (.object "MonitorTurns$Program")) RX8 := ⟨B.exec, B.bytes, hml, findClass_of_methodNamed B.named, hT, B.returns, B.notSynchronized⟩
  obtain ⟨hx, hb, hml, hown, hT, hr, hlk⟩ := id X
  have hS : va_S (ow E) s.heap s.heap [] := va_S.rf
  have hl := lv_entry ([.ref (ad 0 0), .int x1]) (n := 2) (Nat.le_of_ble_eq_true rfl)
  rw [lg_entry_eq]
  generalize (lg_sl ([.ref (ad 0 0), .int x1]) ++ List.replicate (2 - (lg_sl ([.ref (ad 0 0), .int x1])).length) Slot.unset).toArray = ls at hl ⊢
  have hl : lv_has ls 2 [(0, .ref (ad 0 0)), (1, .int x1)] := hl
  unfold f_yX8_programAt at hf
  refine lv_iload_n hx hb dX8_programAt_0 rfl (lv_at hl 1 rfl) ?_
  refine lv_if_lt (tgt := 19) hx hb dX8_programAt_1 (by decide) (fun c1 => ?_) (fun c1 => ?_)
  · rw [if_pos c1] at hf
    refine lv_null hx hb dX8_programAt_19 ?_
    obtain rfl := sp1 hf
    exact e_q ⟨hx, hb, hr, hlk⟩ (Or.inl ⟨_, rfl⟩) rfl hW hS dX8_programAt_20
  · rw [if_neg c1] at hf
    refine lv_iload_n hx hb dX8_programAt_4 rfl (lv_at hl 1 rfl) ?_
    refine lv_bipush (v := 8) hx hb dX8_programAt_5 (by decide) ?_
    refine lv_icmp_ge (tgt := 19) hx hb dX8_programAt_7 (by decide) (fun c2 => ?_) (fun c2 => ?_)
    · rw [if_pos c2] at hf
      refine lv_null hx hb dX8_programAt_19 ?_
      obtain rfl := sp1 hf
      exact e_q ⟨hx, hb, hr, hlk⟩ (Or.inl ⟨_, rfl⟩) rfl hW hS dX8_programAt_20
    · rw [if_neg c2] at hf
      refine lv_aload_n hx hb dX8_programAt_10 rfl (lv_at hl 0 rfl) ?_
      refine g_8_4 X hK hW flRX8_43 dX8_programAt_11 ?_
      refine lv_iload_n hx hb dX8_programAt_14 rfl (lv_at hl 1 rfl) ?_
      obtain ⟨b3, hf⟩ := gd_some hf
      have v4 : x1.toNatClampNeg < 8 := Nat.not_le.mp fun z => b3 (Or.inr z)
      refine al_11 X hK hW b3 dX8_programAt_15 ?_
      refine lv_goto (tgt := 20) hx hb dX8_programAt_16 (by decide) ?_
      obtain rfl := sp1 hf
      exact e_q ⟨hx, hb, hr, hlk⟩ (Or.inl ⟨_, rfl⟩) rfl hW hS dX8_programAt_20
set_option maxRecDepth 100000 in
set_option maxHeartbeats 4000000 in
theorem k_yX8_programAtn {p : Program} {l : Launch} {e : Env} {R : Room} {s : State} {m : MethodId} {args : Array Value} {below : List Frame} {meth : Method} {c : Code} {H : Heap} {locs : List Loc} {cells slots : Nat} {Q : State → Prop} {cc : ByteArray} {pc nL index : Nat} {ret : Option FieldType} {own : String} {ls : Array Slot} {rest : List Value} {E : Lay} {ad : Nat → Nat → Nat} {M N : Mem} (X : CX p s m args meth c cc nL ret own) (hK : KK E s) (hZ : ZZ E s) (hW : WD E ad (M, N) H) (hS : va_S (ow E) s.heap H locs) (hsz : ls.size = nL) {x1 : Int32} (hf : f_yX8_programAt M x1 = some none) (hn : Cond.methodLink own index yX8_programAt ∈ TB) (hR : 0 + 1 ≤ R.frames ∧ 8 + (2 + 11) + 0 ≤ R.locals) (hC : cells ≤ R.cells ∧ slots ≤ R.slots) (h8 : (rest.map fun v => v.category).sum ≤ 8) (hdg : decode cc pc = .ok (.invokevirtual index, 3)) (kk : ∀ (H1 : Heap) (locs1 : List Loc), WD E ad (M, N) H1 → va_S (ow E) s.heap H1 locs1 → W p l e R s m args below meth c H1 locs1 cells slots Q (F0 m (pc + 3) ls (.null :: rest))) : W p l e R s m args below meth c H locs cells slots Q (F0 m pc ls (.int x1 :: .ref (ad 0 0) :: rest)) := by
  refine va_callq (va_runV (C := RX8) (As := [.int x1]) (rest := rest) ⟨X.1, X.2.1, X.2.2.1, X.2.2.2.1, X.2.2.2.2.1⟩ (c_yX8_programAt l E ad M N x1 none hf) (cwV 1 X.2.2.2.2.1 (gV hn im_yX8_programAt se_yX8_programAt iniRX8 cd_yX8_programAt) rfl rfl rfl (by decide +kernel) hR) ⟨fun a U g mk q => ⟨q.1, q.2.calling⟩, va_recv hK.1 (hW.at (c := 0) (i := 0) Nat.zero_lt_one rfl) (ci := 8) (q0 := 0) rfl rfl, fun U hU hw => ⟨rfl, PB.at hW hK hZ hS hU hw⟩⟩ rfl rfl hsz rfl (lv_room h8) hdg hC) hS (fun _ _ h => h) (fun _ h => h) (fun r' u t H1 locs1 ht hvm hw hB hz1 hk1 hS1 => ?_)
  obtain ⟨rfl, rfl⟩ := hw
  rw [ht] at hB
  exact kk H1 locs1 hB hS1
set_option maxRecDepth 100000 in
set_option maxHeartbeats 4000000 in
theorem k_yX8_programAts {p : Program} {l : Launch} {e : Env} {R : Room} {s : State} {m : MethodId} {args : Array Value} {below : List Frame} {meth : Method} {c : Code} {H : Heap} {locs : List Loc} {cells slots : Nat} {Q : State → Prop} {cc : ByteArray} {pc nL index : Nat} {ret : Option FieldType} {own : String} {ls : Array Slot} {rest : List Value} {E : Lay} {ad : Nat → Nat → Nat} {M N : Mem} (X : CX p s m args meth c cc nL ret own) (hK : KK E s) (hZ : ZZ E s) (hW : WD E ad (M, N) H) (hS : va_S (ow E) s.heap H locs) (hsz : ls.size = nL) {x1 : Int32} {jr : Nat} (hf : f_yX8_programAt M x1 = some (some jr)) (hn : Cond.methodLink own index yX8_programAt ∈ TB) (hR : 0 + 1 ≤ R.frames ∧ 8 + (2 + 11) + 0 ≤ R.locals) (hC : cells ≤ R.cells ∧ slots ≤ R.slots) (h8 : (rest.map fun v => v.category).sum ≤ 8) (hdg : decode cc pc = .ok (.invokevirtual index, 3)) (kk : ∀ (H1 : Heap) (locs1 : List Loc), WD E ad (M, N) H1 → va_S (ow E) s.heap H1 locs1 → W p l e R s m args below meth c H1 locs1 cells slots Q (F0 m (pc + 3) ls (.ref (ad 5 jr) :: rest))) : W p l e R s m args below meth c H locs cells slots Q (F0 m pc ls (.int x1 :: .ref (ad 0 0) :: rest)) := by
  refine va_callq (va_runV (C := RX8) (As := [.int x1]) (rest := rest) ⟨X.1, X.2.1, X.2.2.1, X.2.2.2.1, X.2.2.2.2.1⟩ (c_yX8_programAt l E ad M N x1 (some jr) hf) (cwV 1 X.2.2.2.2.1 (gV hn im_yX8_programAt se_yX8_programAt iniRX8 cd_yX8_programAt) rfl rfl rfl (by decide +kernel) hR) ⟨fun a U g mk q => ⟨q.1, q.2.calling⟩, va_recv hK.1 (hW.at (c := 0) (i := 0) Nat.zero_lt_one rfl) (ci := 8) (q0 := 0) rfl rfl, fun U hU hw => ⟨rfl, PB.at hW hK hZ hS hU hw⟩⟩ rfl rfl hsz rfl (lv_room h8) hdg hC) hS (fun _ _ h => h) (fun _ h => h) (fun r' u t H1 locs1 ht hvm hw hB hz1 hk1 hS1 => ?_)
  obtain ⟨rfl, rfl⟩ := hw
  rw [ht] at hB
  exact kk H1 locs1 hB hS1
def f_yX1_at (M : Mem) (x1 : Int32) : Option (Option Nat) := (if x1 < 0 then (some none) else (if 6 ≤ x1 then (some none) else gd (¬ (x1 < 0 ∨ 6 ≤ x1.toNatClampNeg)) ((some (some x1.toNatClampNeg)))))
set_option maxRecDepth 100000 in
set_option maxHeartbeats 4000000 in
theorem c_yX1_at (l : Launch) (E : Lay) (ad : Nat → Nat → Nat) (M N : Mem) (x1 : Int32) (r : Option Nat) (hf : f_yX1_at M x1 = some r) : Met l yX1_at (Cond.code yX1_at cX1_at 2 (some (.object "MonitorTurns$Strand")) :: TB) (rmm 0 0) (va_Pc [.ref (ad 2 0), .int x1] (PB E ad (M, N))) (Qq E ad ((r).map (ad 6)) (M, N)) 0 0 (ow E) := by
  refine Met.ofW (cc := cX1_at) (maxL := 2) (ret := (some (.object "MonitorTurns$Strand"))) (by decide) rfl ?_
  intro p e s m args below meth c s₁ B hml hv
  obtain ⟨rfl, hW, hK, hZ⟩ := hv
  have hT : ∀ w ∈ TB, w.before _ s = true := fun w h => atoms_spec (ws := (Cond.code yX1_at cX1_at 2 (some (.object "MonitorTurns$Strand")) :: TB)) B.pre w (List.mem_cons_of_mem _ h)
  have X : CX p s m _ meth c cX1_at 2 (some (.object "MonitorTurns$Strand")) RX1 := ⟨B.exec, B.bytes, hml, findClass_of_methodNamed B.named, hT, B.returns, B.notSynchronized⟩
  obtain ⟨hx, hb, hml, hown, hT, hr, hlk⟩ := id X
  have hS : va_S (ow E) s.heap s.heap [] := va_S.rf
  have hl := lv_entry ([.ref (ad 2 0), .int x1]) (n := 2) (Nat.le_of_ble_eq_true rfl)
  rw [lg_entry_eq]
  generalize (lg_sl ([.ref (ad 2 0), .int x1]) ++ List.replicate (2 - (lg_sl ([.ref (ad 2 0), .int x1])).length) Slot.unset).toArray = ls at hl ⊢
  have hl : lv_has ls 2 [(0, .ref (ad 2 0)), (1, .int x1)] := hl
  unfold f_yX1_at at hf
  refine lv_iload_n hx hb dX1_at_0 rfl (lv_at hl 1 rfl) ?_
  refine lv_if_lt (tgt := 19) hx hb dX1_at_1 (by decide) (fun c1 => ?_) (fun c1 => ?_)
  · rw [if_pos c1] at hf
    refine lv_null hx hb dX1_at_19 ?_
    obtain rfl := sp1 hf
    exact e_q ⟨hx, hb, hr, hlk⟩ (Or.inl ⟨_, rfl⟩) rfl hW hS dX1_at_20
  · rw [if_neg c1] at hf
    refine lv_iload_n hx hb dX1_at_4 rfl (lv_at hl 1 rfl) ?_
    refine lv_bipush (v := 6) hx hb dX1_at_5 (by decide) ?_
    refine lv_icmp_ge (tgt := 19) hx hb dX1_at_7 (by decide) (fun c2 => ?_) (fun c2 => ?_)
    · rw [if_pos c2] at hf
      refine lv_null hx hb dX1_at_19 ?_
      obtain rfl := sp1 hf
      exact e_q ⟨hx, hb, hr, hlk⟩ (Or.inl ⟨_, rfl⟩) rfl hW hS dX1_at_20
    · rw [if_neg c2] at hf
      refine lv_aload_n hx hb dX1_at_10 rfl (lv_at hl 0 rfl) ?_
      refine g_1_1 X hK hW flRX1_11 dX1_at_11 ?_
      refine lv_iload_n hx hb dX1_at_14 rfl (lv_at hl 1 rfl) ?_
      obtain ⟨b3, hf⟩ := gd_some hf
      have v4 : x1.toNatClampNeg < 6 := Nat.not_le.mp fun z => b3 (Or.inr z)
      refine al_10 X hK hW b3 dX1_at_15 ?_
      refine lv_goto (tgt := 20) hx hb dX1_at_16 (by decide) ?_
      obtain rfl := sp1 hf
      exact e_q ⟨hx, hb, hr, hlk⟩ (Or.inl ⟨_, rfl⟩) rfl hW hS dX1_at_20
set_option maxRecDepth 100000 in
set_option maxHeartbeats 4000000 in
theorem k_yX1_atn {p : Program} {l : Launch} {e : Env} {R : Room} {s : State} {m : MethodId} {args : Array Value} {below : List Frame} {meth : Method} {c : Code} {H : Heap} {locs : List Loc} {cells slots : Nat} {Q : State → Prop} {cc : ByteArray} {pc nL index : Nat} {ret : Option FieldType} {own : String} {ls : Array Slot} {rest : List Value} {E : Lay} {ad : Nat → Nat → Nat} {M N : Mem} (X : CX p s m args meth c cc nL ret own) (hK : KK E s) (hZ : ZZ E s) (hW : WD E ad (M, N) H) (hS : va_S (ow E) s.heap H locs) (hsz : ls.size = nL) {x1 : Int32} (hf : f_yX1_at M x1 = some none) (hn : Cond.methodLink own index yX1_at ∈ TB) (hR : 0 + 1 ≤ R.frames ∧ 8 + (2 + 11) + 0 ≤ R.locals) (hC : cells ≤ R.cells ∧ slots ≤ R.slots) (h8 : (rest.map fun v => v.category).sum ≤ 8) (hdg : decode cc pc = .ok (.invokevirtual index, 3)) (kk : ∀ (H1 : Heap) (locs1 : List Loc), WD E ad (M, N) H1 → va_S (ow E) s.heap H1 locs1 → W p l e R s m args below meth c H1 locs1 cells slots Q (F0 m (pc + 3) ls (.null :: rest))) : W p l e R s m args below meth c H locs cells slots Q (F0 m pc ls (.int x1 :: .ref (ad 2 0) :: rest)) := by
  refine va_callq (va_runV (C := RX1) (As := [.int x1]) (rest := rest) ⟨X.1, X.2.1, X.2.2.1, X.2.2.2.1, X.2.2.2.2.1⟩ (c_yX1_at l E ad M N x1 none hf) (cwV 1 X.2.2.2.2.1 (gV hn im_yX1_at se_yX1_at iniRX1 cd_yX1_at) rfl rfl rfl (by decide +kernel) hR) ⟨fun a U g mk q => ⟨q.1, q.2.calling⟩, va_recv hK.1 (hW.at (c := 2) (i := 0) Nat.zero_lt_one rfl) (ci := 1) (q0 := 0) rfl rfl, fun U hU hw => ⟨rfl, PB.at hW hK hZ hS hU hw⟩⟩ rfl rfl hsz rfl (lv_room h8) hdg hC) hS (fun _ _ h => h) (fun _ h => h) (fun r' u t H1 locs1 ht hvm hw hB hz1 hk1 hS1 => ?_)
  obtain ⟨rfl, rfl⟩ := hw
  rw [ht] at hB
  exact kk H1 locs1 hB hS1
set_option maxRecDepth 100000 in
set_option maxHeartbeats 4000000 in
theorem k_yX1_ats {p : Program} {l : Launch} {e : Env} {R : Room} {s : State} {m : MethodId} {args : Array Value} {below : List Frame} {meth : Method} {c : Code} {H : Heap} {locs : List Loc} {cells slots : Nat} {Q : State → Prop} {cc : ByteArray} {pc nL index : Nat} {ret : Option FieldType} {own : String} {ls : Array Slot} {rest : List Value} {E : Lay} {ad : Nat → Nat → Nat} {M N : Mem} (X : CX p s m args meth c cc nL ret own) (hK : KK E s) (hZ : ZZ E s) (hW : WD E ad (M, N) H) (hS : va_S (ow E) s.heap H locs) (hsz : ls.size = nL) {x1 : Int32} {jr : Nat} (hf : f_yX1_at M x1 = some (some jr)) (hn : Cond.methodLink own index yX1_at ∈ TB) (hR : 0 + 1 ≤ R.frames ∧ 8 + (2 + 11) + 0 ≤ R.locals) (hC : cells ≤ R.cells ∧ slots ≤ R.slots) (h8 : (rest.map fun v => v.category).sum ≤ 8) (hdg : decode cc pc = .ok (.invokevirtual index, 3)) (kk : ∀ (H1 : Heap) (locs1 : List Loc), WD E ad (M, N) H1 → va_S (ow E) s.heap H1 locs1 → W p l e R s m args below meth c H1 locs1 cells slots Q (F0 m (pc + 3) ls (.ref (ad 6 jr) :: rest))) : W p l e R s m args below meth c H locs cells slots Q (F0 m pc ls (.int x1 :: .ref (ad 2 0) :: rest)) := by
  refine va_callq (va_runV (C := RX1) (As := [.int x1]) (rest := rest) ⟨X.1, X.2.1, X.2.2.1, X.2.2.2.1, X.2.2.2.2.1⟩ (c_yX1_at l E ad M N x1 (some jr) hf) (cwV 1 X.2.2.2.2.1 (gV hn im_yX1_at se_yX1_at iniRX1 cd_yX1_at) rfl rfl rfl (by decide +kernel) hR) ⟨fun a U g mk q => ⟨q.1, q.2.calling⟩, va_recv hK.1 (hW.at (c := 2) (i := 0) Nat.zero_lt_one rfl) (ci := 1) (q0 := 0) rfl rfl, fun U hU hw => ⟨rfl, PB.at hW hK hZ hS hU hw⟩⟩ rfl rfl hsz rfl (lv_room h8) hdg hC) hS (fun _ _ h => h) (fun _ h => h) (fun r' u t H1 locs1 ht hvm hw hB hz1 hk1 hS1 => ?_)
  obtain ⟨rfl, rfl⟩ := hw
  rw [ht] at hB
  exact kk H1 locs1 hB hS1
def f_yX1_howMany_L16 : Nat → Mem → Int32 → Int32 → Int32 → Int32 → Int32 → Option (Int32)
  | 0, _, _, _, _, _, _ => none
  | n + 1, M0, y1, y2, y3, y5, y6 => (if y5 ≤ y6 then (some y3) else gd (¬ (y6 < 0 ∨ 6 ≤ y6.toNatClampNeg)) ((if (M0 6 y6.toNatClampNeg 0) = y1 then (if (M0 6 y6.toNatClampNeg 11) = y2 then (f_yX1_howMany_L16 n M0 y1 y2 (y3 + 1) y5 (y6 + 1)) else (f_yX1_howMany_L16 n M0 y1 y2 y3 y5 (y6 + 1))) else (f_yX1_howMany_L16 n M0 y1 y2 y3 y5 (y6 + 1)))))
def f_yX1_howMany (M : Mem) (x1 : Int32) (x2 : Int32) : Option (Int32) := (f_yX1_howMany_L16 70 M x1 x2 0 6 0)
set_option maxRecDepth 100000 in
set_option maxHeartbeats 4000000 in
theorem l_yX1_howMany_16 (l : Launch) (E : Lay) (ad : Nat → Nat → Nat) (N : Mem) {p : Program} {e : Env} {s : State} {m : MethodId} {args : Array Value} {below : List Frame} {meth : Method} {c : Code} (X : CX p s m args meth c cX1_howMany 8 (some .int) RX1) (hK : KK E s) (hZ : ZZ E s) : ∀ (n : Nat) (M0 : Mem) (y1 : Int32) (y2 : Int32) (y3 : Int32) (y5 : Int32) (y6 : Int32) (r : Int32) (hf : f_yX1_howMany_L16 n M0 y1 y2 y3 y5 y6 = some r) (H : Heap) (locs : List Loc) (ls : Array Slot), WD E ad (M0, N) H → va_S (ow E) s.heap H locs → lv_has ls 8 [(1, .int y1), (2, .int y2), (3, .int y3), (4, .ref (ad 10 0)), (5, .int y5), (6, .int y6)] → W p l e (rmm 0 0) s m args below meth c H locs 0 0 (MQ below (Qi E ad r (M0, N)) args s 0 0 (ow E)) (F0 m 16 ls []) := by
  obtain ⟨hx, hb, hml, hown, hT, hr, hlk⟩ := id X
  intro n
  induction n with
  | zero =>
    intro M0 y1 y2 y3 y5 y6 r hf
    rw [f_yX1_howMany_L16] at hf
    cases hf
  | succ n ih =>
    intro M0 y1 y2 y3 y5 y6 r hf H locs ls hW hS hl
    rw [f_yX1_howMany_L16] at hf
    refine lv_iload hx hb dX1_howMany_16 (lv_at hl 5 rfl) ?_
    refine lv_iload hx hb dX1_howMany_18 (lv_at hl 4 rfl) ?_
    refine lv_icmp_ge (tgt := 57) hx hb dX1_howMany_20 (by decide) (fun c1 => ?_) (fun c1 => ?_)
    · rw [if_pos c1] at hf
      refine lv_iload_n hx hb dX1_howMany_57 rfl (lv_at hl 2 rfl) ?_
      obtain rfl := sp1 hf
      exact e_i ⟨hx, hb, hr, hlk⟩ hW hS dX1_howMany_58
    · rw [if_neg c1] at hf
      refine lv_aload hx hb dX1_howMany_23 (lv_at hl 3 rfl) ?_
      refine lv_iload hx hb dX1_howMany_25 (lv_at hl 5 rfl) ?_
      obtain ⟨b2, hf⟩ := gd_some hf
      have v3 : y6.toNatClampNeg < 6 := Nat.not_le.mp fun z => b2 (Or.inr z)
      refine al_10 X hK hW b2 dX1_howMany_27 ?_
      refine lv_astore (lv' := [(7, .ref (ad 6 y6.toNatClampNeg)), (1, .int y1), (2, .int y2), (3, .int y3), (4, .ref (ad 10 0)), (5, .int y5), (6, .int y6)]) hx hb dX1_howMany_28 hl (by decide) rfl (fun ls hl => ?_)
      refine lv_aload hx hb dX1_howMany_30 (lv_at hl 0 rfl) ?_
      refine g_5_4 X hK hW v3 flRX1_32 dX1_howMany_32 ?_
      refine lv_iload_n hx hb dX1_howMany_35 rfl (lv_at hl 1 rfl) ?_
      refine lv_icmp_ne (tgt := 51) hx hb dX1_howMany_36 (by decide) (fun c4 => ?_) (fun c4 => ?_)
      · rw [if_neg c4] at hf
        refine lv_iinc (v := (y6 + 1)) (lv' := [(6, .int (y6 + 1)), (7, .ref (ad 6 y6.toNatClampNeg)), (1, .int y1), (2, .int y2), (3, .int y3), (4, .ref (ad 10 0)), (5, .int y5)]) hx hb dX1_howMany_51 hl (k := 6) rfl rfl (by decide) rfl (fun ls hl => ?_)
        refine lv_goto (tgt := 16) hx hb dX1_howMany_54 (by decide) ?_
        exact ih _ _ _ _ _ _ _ hf _ _ _ hW hS (lv_sub hl [2, 3, 4, 5, 6, 0] rfl)
      · rw [if_pos c4] at hf
        refine lv_aload hx hb dX1_howMany_39 (lv_at hl 0 rfl) ?_
        refine g_5_15 X hK hW v3 flRX1_36 dX1_howMany_41 ?_
        refine lv_iload_n hx hb dX1_howMany_44 rfl (lv_at hl 2 rfl) ?_
        refine lv_icmp_ne (tgt := 51) hx hb dX1_howMany_45 (by decide) (fun c5 => ?_) (fun c5 => ?_)
        · rw [if_neg c5] at hf
          refine lv_iinc (v := (y6 + 1)) (lv' := [(6, .int (y6 + 1)), (7, .ref (ad 6 y6.toNatClampNeg)), (1, .int y1), (2, .int y2), (3, .int y3), (4, .ref (ad 10 0)), (5, .int y5)]) hx hb dX1_howMany_51 hl (k := 6) rfl rfl (by decide) rfl (fun ls hl => ?_)
          refine lv_goto (tgt := 16) hx hb dX1_howMany_54 (by decide) ?_
          exact ih _ _ _ _ _ _ _ hf _ _ _ hW hS (lv_sub hl [2, 3, 4, 5, 6, 0] rfl)
        · rw [if_pos c5] at hf
          refine lv_iinc (v := (y3 + 1)) (lv' := [(3, .int (y3 + 1)), (7, .ref (ad 6 y6.toNatClampNeg)), (1, .int y1), (2, .int y2), (4, .ref (ad 10 0)), (5, .int y5), (6, .int y6)]) hx hb dX1_howMany_48 hl (k := 3) rfl rfl (by decide) rfl (fun ls hl => ?_)
          refine lv_iinc (v := (y6 + 1)) (lv' := [(6, .int (y6 + 1)), (3, .int (y3 + 1)), (7, .ref (ad 6 y6.toNatClampNeg)), (1, .int y1), (2, .int y2), (4, .ref (ad 10 0)), (5, .int y5)]) hx hb dX1_howMany_51 hl (k := 6) rfl rfl (by decide) rfl (fun ls hl => ?_)
          refine lv_goto (tgt := 16) hx hb dX1_howMany_54 (by decide) ?_
          exact ih _ _ _ _ _ _ _ hf _ _ _ hW hS (lv_sub hl [3, 4, 1, 5, 6, 0] rfl)
set_option maxRecDepth 100000 in
set_option maxHeartbeats 4000000 in
theorem c_yX1_howMany (l : Launch) (E : Lay) (ad : Nat → Nat → Nat) (M N : Mem) (x1 : Int32) (x2 : Int32) (r : Int32) (hf : f_yX1_howMany M x1 x2 = some r) : Met l yX1_howMany (Cond.code yX1_howMany cX1_howMany 8 (some .int) :: TB) (rmm 0 0) (va_Pc [.ref (ad 2 0), .int x1, .int x2] (PB E ad (M, N))) (Qi E ad r (M, N)) 0 0 (ow E) := by
  refine Met.ofW (cc := cX1_howMany) (maxL := 8) (ret := (some .int)) (by decide) rfl ?_
  intro p e s m args below meth c s₁ B hml hv
  obtain ⟨rfl, hW, hK, hZ⟩ := hv
  have hT : ∀ w ∈ TB, w.before _ s = true := fun w h => atoms_spec (ws := (Cond.code yX1_howMany cX1_howMany 8 (some .int) :: TB)) B.pre w (List.mem_cons_of_mem _ h)
  have X : CX p s m _ meth c cX1_howMany 8 (some .int) RX1 := ⟨B.exec, B.bytes, hml, findClass_of_methodNamed B.named, hT, B.returns, B.notSynchronized⟩
  obtain ⟨hx, hb, hml, hown, hT, hr, hlk⟩ := id X
  have hS : va_S (ow E) s.heap s.heap [] := va_S.rf
  have hl := lv_entry ([.ref (ad 2 0), .int x1, .int x2]) (n := 8) (Nat.le_of_ble_eq_true rfl)
  rw [lg_entry_eq]
  generalize (lg_sl ([.ref (ad 2 0), .int x1, .int x2]) ++ List.replicate (8 - (lg_sl ([.ref (ad 2 0), .int x1, .int x2])).length) Slot.unset).toArray = ls at hl ⊢
  have hl : lv_has ls 8 [(0, .ref (ad 2 0)), (1, .int x1), (2, .int x2)] := hl
  unfold f_yX1_howMany at hf
  refine lv_iconst (v := 0) hx hb dX1_howMany_0 (by decide) ?_
  refine lv_istore_n (lv' := [(3, .int 0), (0, .ref (ad 2 0)), (1, .int x1), (2, .int x2)]) hx hb dX1_howMany_1 rfl hl (by decide) rfl (fun ls hl => ?_)
  refine lv_aload_n hx hb dX1_howMany_2 rfl (lv_at hl 1 rfl) ?_
  refine g_1_1 X hK hW flRX1_11 dX1_howMany_3 ?_
  refine lv_astore (lv' := [(4, .ref (ad 10 0)), (3, .int 0), (0, .ref (ad 2 0)), (1, .int x1), (2, .int x2)]) hx hb dX1_howMany_6 hl (by decide) rfl (fun ls hl => ?_)
  refine lv_aload hx hb dX1_howMany_8 (lv_at hl 0 rfl) ?_
  refine an_10 X hK hW dX1_howMany_10 ?_
  refine lv_istore (lv' := [(5, .int 6), (4, .ref (ad 10 0)), (3, .int 0), (0, .ref (ad 2 0)), (1, .int x1), (2, .int x2)]) hx hb dX1_howMany_11 hl (by decide) rfl (fun ls hl => ?_)
  refine lv_iconst (v := 0) hx hb dX1_howMany_13 (by decide) ?_
  refine lv_istore (lv' := [(6, .int 0), (5, .int 6), (4, .ref (ad 10 0)), (3, .int 0), (0, .ref (ad 2 0)), (1, .int x1), (2, .int x2)]) hx hb dX1_howMany_14 hl (by decide) rfl (fun ls hl => ?_)
  exact (l_yX1_howMany_16 l E ad N X hK hZ 70) _ _ _ _ _ _ _ hf _ _ _ hW hS (lv_sub hl [5, 6, 3, 2, 1, 0] rfl)
set_option maxRecDepth 100000 in
set_option maxHeartbeats 4000000 in
theorem k_yX1_howMany {p : Program} {l : Launch} {e : Env} {R : Room} {s : State} {m : MethodId} {args : Array Value} {below : List Frame} {meth : Method} {c : Code} {H : Heap} {locs : List Loc} {cells slots : Nat} {Q : State → Prop} {cc : ByteArray} {pc nL index : Nat} {ret : Option FieldType} {own : String} {ls : Array Slot} {rest : List Value} {E : Lay} {ad : Nat → Nat → Nat} {M N : Mem} (X : CX p s m args meth c cc nL ret own) (hK : KK E s) (hZ : ZZ E s) (hW : WD E ad (M, N) H) (hS : va_S (ow E) s.heap H locs) (hsz : ls.size = nL) {x1 : Int32} {x2 : Int32} {r : Int32} (hf : f_yX1_howMany M x1 x2 = some r) (hn : Cond.methodLink own index yX1_howMany ∈ TB) (hR : 0 + 1 ≤ R.frames ∧ 8 + (8 + 11) + 0 ≤ R.locals) (hC : cells ≤ R.cells ∧ slots ≤ R.slots) (h8 : (rest.map fun v => v.category).sum ≤ 8) (hdg : decode cc pc = .ok (.invokevirtual index, 3)) (kk : ∀ (H1 : Heap) (locs1 : List Loc), WD E ad (M, N) H1 → va_S (ow E) s.heap H1 locs1 → W p l e R s m args below meth c H1 locs1 cells slots Q (F0 m (pc + 3) ls (.int r :: rest))) : W p l e R s m args below meth c H locs cells slots Q (F0 m pc ls (.int x2 :: .int x1 :: .ref (ad 2 0) :: rest)) := by
  refine va_calli (va_runV (C := RX1) (As := [.int x1, .int x2]) (rest := rest) ⟨X.1, X.2.1, X.2.2.1, X.2.2.2.1, X.2.2.2.2.1⟩ (c_yX1_howMany l E ad M N x1 x2 r hf) (cwV 2 X.2.2.2.2.1 (gV hn im_yX1_howMany se_yX1_howMany iniRX1 cd_yX1_howMany) rfl rfl rfl (by decide +kernel) hR) ⟨fun a U g mk q => ⟨q.1, q.2.calling⟩, va_recv hK.1 (hW.at (c := 2) (i := 0) Nat.zero_lt_one rfl) (ci := 1) (q0 := 0) rfl rfl, fun U hU hw => ⟨rfl, PB.at hW hK hZ hS hU hw⟩⟩ rfl rfl hsz rfl (lv_room h8) hdg hC) hS (fun _ _ h => h) (fun _ h => h) (fun r' u t H1 locs1 ht hvm hw hB hz1 hk1 hS1 => ?_)
  obtain ⟨rfl, rfl⟩ := hw
  rw [ht] at hB
  exact kk H1 locs1 hB hS1
def f_yX1_readyOfGreatestRank_L13 : Nat → Mem → Option Nat → Int32 → Int32 → Option (Option Nat)
  | 0, _, _, _, _ => none
  | n + 1, M0, u1, y3, y4 => om u1 ((if y3 ≤ y4 then (some none) else gd (¬ (y4 < 0 ∨ 6 ≤ y4.toNatClampNeg)) ((if (M0 6 y4.toNatClampNeg 0) = 2 then (f_yX1_readyOfGreatestRank_L13 n M0 (some y4.toNatClampNeg) y3 (y4 + 1)) else (f_yX1_readyOfGreatestRank_L13 n M0 none y3 (y4 + 1)))))) (fun k1 => (if y3 ≤ y4 then (some (some k1)) else gd (¬ (y4 < 0 ∨ 6 ≤ y4.toNatClampNeg)) ((if (M0 6 y4.toNatClampNeg 0) = 2 then (if (M0 6 y4.toNatClampNeg 2) ≤ (M0 6 k1 2) then (f_yX1_readyOfGreatestRank_L13 n M0 (some k1) y3 (y4 + 1)) else (f_yX1_readyOfGreatestRank_L13 n M0 (some y4.toNatClampNeg) y3 (y4 + 1))) else (f_yX1_readyOfGreatestRank_L13 n M0 (some k1) y3 (y4 + 1))))))
def f_yX1_readyOfGreatestRank (M : Mem) : Option (Option Nat) := (f_yX1_readyOfGreatestRank_L13 70 M none 6 0)
set_option maxRecDepth 100000 in
set_option maxHeartbeats 4000000 in
theorem l_yX1_readyOfGreatestRank_13 (l : Launch) (E : Lay) (ad : Nat → Nat → Nat) (N : Mem) {p : Program} {e : Env} {s : State} {m : MethodId} {args : Array Value} {below : List Frame} {meth : Method} {c : Code} (X : CX p s m args meth c cX1_readyOfGreatestRank 6 (some (.object "MonitorTurns$Strand")) RX1) (hK : KK E s) (hZ : ZZ E s) : ∀ (n : Nat) (M0 : Mem) (u1 : Option Nat) (y3 : Int32) (y4 : Int32) (r : Option Nat) (hf : f_yX1_readyOfGreatestRank_L13 n M0 u1 y3 y4 = some r) (w1 : om u1 True (fun i => i < 6)) (H : Heap) (locs : List Loc) (ls : Array Slot), WD E ad (M0, N) H → va_S (ow E) s.heap H locs → lv_has ls 6 [(1, va_rf (u1.map (ad 6))), (2, .ref (ad 10 0)), (3, .int y3), (4, .int y4)] → W p l e (rmm 0 0) s m args below meth c H locs 0 0 (MQ below (Qq E ad ((r).map (ad 6)) (M0, N)) args s 0 0 (ow E)) (F0 m 13 ls []) := by
  obtain ⟨hx, hb, hml, hown, hT, hr, hlk⟩ := id X
  intro n
  induction n with
  | zero =>
    intro M0 u1 y3 y4 r hf
    rw [f_yX1_readyOfGreatestRank_L13] at hf
    cases hf
  | succ n ih =>
    intro M0 u1 y3 y4 r hf w1 H locs ls hW hS hl
    rw [f_yX1_readyOfGreatestRank_L13] at hf
    rcases u1 with _ | k1
    · rw [om_n] at hf
      have hl : lv_has ls 6 [(1, .null), (2, .ref (ad 10 0)), (3, .int y3), (4, .int y4)] := hl
      refine lv_iload hx hb dX1_readyOfGreatestRank_13 (lv_at hl 3 rfl) ?_
      refine lv_iload_n hx hb dX1_readyOfGreatestRank_15 rfl (lv_at hl 2 rfl) ?_
      refine lv_icmp_ge (tgt := 59) hx hb dX1_readyOfGreatestRank_16 (by decide) (fun c1 => ?_) (fun c1 => ?_)
      · rw [if_pos c1] at hf
        refine lv_aload_nN hx hb dX1_readyOfGreatestRank_59 rfl (lv_at hl 0 rfl) ?_
        obtain rfl := sp1 hf
        exact e_q ⟨hx, hb, hr, hlk⟩ (Or.inl ⟨_, rfl⟩) rfl hW hS dX1_readyOfGreatestRank_60
      · rw [if_neg c1] at hf
        refine lv_aload_n hx hb dX1_readyOfGreatestRank_19 rfl (lv_at hl 1 rfl) ?_
        refine lv_iload hx hb dX1_readyOfGreatestRank_20 (lv_at hl 3 rfl) ?_
        obtain ⟨b2, hf⟩ := gd_some hf
        have v3 : y4.toNatClampNeg < 6 := Nat.not_le.mp fun z => b2 (Or.inr z)
        refine al_10 X hK hW b2 dX1_readyOfGreatestRank_22 ?_
        refine lv_astore (lv' := [(5, .ref (ad 6 y4.toNatClampNeg)), (1, .null), (2, .ref (ad 10 0)), (3, .int y3), (4, .int y4)]) hx hb dX1_readyOfGreatestRank_23 hl (by decide) rfl (fun ls hl => ?_)
        refine lv_aload hx hb dX1_readyOfGreatestRank_25 (lv_at hl 0 rfl) ?_
        refine g_5_4 X hK hW v3 flRX1_32 dX1_readyOfGreatestRank_27 ?_
        refine lv_iconst (v := 2) hx hb dX1_readyOfGreatestRank_30 (by decide) ?_
        refine lv_icmp_ne (tgt := 53) hx hb dX1_readyOfGreatestRank_31 (by decide) (fun c4 => ?_) (fun c4 => ?_)
        · rw [if_neg c4] at hf
          refine lv_iinc (v := (y4 + 1)) (lv' := [(4, .int (y4 + 1)), (5, .ref (ad 6 y4.toNatClampNeg)), (1, .null), (2, .ref (ad 10 0)), (3, .int y3)]) hx hb dX1_readyOfGreatestRank_53 hl (k := 4) rfl rfl (by decide) rfl (fun ls hl => ?_)
          refine lv_goto (tgt := 13) hx hb dX1_readyOfGreatestRank_56 (by decide) ?_
          exact ih _ _ _ _ _ hf trivial _ _ _ hW hS (lv_sub hl [2, 3, 4, 0] rfl)
        · rw [if_pos c4] at hf
          refine lv_aload_nN hx hb dX1_readyOfGreatestRank_34 rfl (lv_at hl 1 rfl) ?_
          refine lv_ifnullN (tgt := 50) hx hb dX1_readyOfGreatestRank_35 (by decide) ?_
          refine lv_aload hx hb dX1_readyOfGreatestRank_50 (lv_at hl 0 rfl) ?_
          refine lv_astore_n (lv' := [(1, .ref (ad 6 y4.toNatClampNeg)), (5, .ref (ad 6 y4.toNatClampNeg)), (2, .ref (ad 10 0)), (3, .int y3), (4, .int y4)]) hx hb dX1_readyOfGreatestRank_52 rfl hl (by decide) rfl (fun ls hl => ?_)
          refine lv_iinc (v := (y4 + 1)) (lv' := [(4, .int (y4 + 1)), (1, .ref (ad 6 y4.toNatClampNeg)), (5, .ref (ad 6 y4.toNatClampNeg)), (2, .ref (ad 10 0)), (3, .int y3)]) hx hb dX1_readyOfGreatestRank_53 hl (k := 4) rfl rfl (by decide) rfl (fun ls hl => ?_)
          refine lv_goto (tgt := 13) hx hb dX1_readyOfGreatestRank_56 (by decide) ?_
          exact ih _ _ _ _ _ hf v3 _ _ _ hW hS (lv_sub hl [1, 3, 4, 0] rfl)
    · rw [om_s] at hf
      have hl : lv_has ls 6 [(1, .ref (ad 6 k1)), (2, .ref (ad 10 0)), (3, .int y3), (4, .int y4)] := hl
      refine lv_iload hx hb dX1_readyOfGreatestRank_13 (lv_at hl 3 rfl) ?_
      refine lv_iload_n hx hb dX1_readyOfGreatestRank_15 rfl (lv_at hl 2 rfl) ?_
      refine lv_icmp_ge (tgt := 59) hx hb dX1_readyOfGreatestRank_16 (by decide) (fun c5 => ?_) (fun c5 => ?_)
      · rw [if_pos c5] at hf
        refine lv_aload_n hx hb dX1_readyOfGreatestRank_59 rfl (lv_at hl 0 rfl) ?_
        obtain rfl := sp1 hf
        exact e_q ⟨hx, hb, hr, hlk⟩ (Or.inl ⟨_, rfl⟩) rfl hW hS dX1_readyOfGreatestRank_60
      · rw [if_neg c5] at hf
        refine lv_aload_n hx hb dX1_readyOfGreatestRank_19 rfl (lv_at hl 1 rfl) ?_
        refine lv_iload hx hb dX1_readyOfGreatestRank_20 (lv_at hl 3 rfl) ?_
        obtain ⟨b6, hf⟩ := gd_some hf
        have v7 : y4.toNatClampNeg < 6 := Nat.not_le.mp fun z => b6 (Or.inr z)
        refine al_10 X hK hW b6 dX1_readyOfGreatestRank_22 ?_
        refine lv_astore (lv' := [(5, .ref (ad 6 y4.toNatClampNeg)), (1, .ref (ad 6 k1)), (2, .ref (ad 10 0)), (3, .int y3), (4, .int y4)]) hx hb dX1_readyOfGreatestRank_23 hl (by decide) rfl (fun ls hl => ?_)
        refine lv_aload hx hb dX1_readyOfGreatestRank_25 (lv_at hl 0 rfl) ?_
        refine g_5_4 X hK hW v7 flRX1_32 dX1_readyOfGreatestRank_27 ?_
        refine lv_iconst (v := 2) hx hb dX1_readyOfGreatestRank_30 (by decide) ?_
        refine lv_icmp_ne (tgt := 53) hx hb dX1_readyOfGreatestRank_31 (by decide) (fun c8 => ?_) (fun c8 => ?_)
        · rw [if_neg c8] at hf
          refine lv_iinc (v := (y4 + 1)) (lv' := [(4, .int (y4 + 1)), (5, .ref (ad 6 y4.toNatClampNeg)), (1, .ref (ad 6 k1)), (2, .ref (ad 10 0)), (3, .int y3)]) hx hb dX1_readyOfGreatestRank_53 hl (k := 4) rfl rfl (by decide) rfl (fun ls hl => ?_)
          refine lv_goto (tgt := 13) hx hb dX1_readyOfGreatestRank_56 (by decide) ?_
          exact ih _ _ _ _ _ hf w1 _ _ _ hW hS (lv_sub hl [2, 3, 4, 0] rfl)
        · rw [if_pos c8] at hf
          refine lv_aload_n hx hb dX1_readyOfGreatestRank_34 rfl (lv_at hl 1 rfl) ?_
          refine lv_ifnull hx hb dX1_readyOfGreatestRank_35 ?_
          refine lv_aload hx hb dX1_readyOfGreatestRank_38 (lv_at hl 0 rfl) ?_
          refine g_5_6 X hK hW v7 flRX1_78 dX1_readyOfGreatestRank_40 ?_
          refine lv_aload_n hx hb dX1_readyOfGreatestRank_43 rfl (lv_at hl 1 rfl) ?_
          refine g_5_6 X hK hW w1 flRX1_78 dX1_readyOfGreatestRank_44 ?_
          refine lv_icmp_le (tgt := 53) hx hb dX1_readyOfGreatestRank_47 (by decide) (fun c9 => ?_) (fun c9 => ?_)
          · rw [if_pos c9] at hf
            refine lv_iinc (v := (y4 + 1)) (lv' := [(4, .int (y4 + 1)), (5, .ref (ad 6 y4.toNatClampNeg)), (1, .ref (ad 6 k1)), (2, .ref (ad 10 0)), (3, .int y3)]) hx hb dX1_readyOfGreatestRank_53 hl (k := 4) rfl rfl (by decide) rfl (fun ls hl => ?_)
            refine lv_goto (tgt := 13) hx hb dX1_readyOfGreatestRank_56 (by decide) ?_
            exact ih _ _ _ _ _ hf w1 _ _ _ hW hS (lv_sub hl [2, 3, 4, 0] rfl)
          · rw [if_neg c9] at hf
            refine lv_aload hx hb dX1_readyOfGreatestRank_50 (lv_at hl 0 rfl) ?_
            refine lv_astore_n (lv' := [(1, .ref (ad 6 y4.toNatClampNeg)), (5, .ref (ad 6 y4.toNatClampNeg)), (2, .ref (ad 10 0)), (3, .int y3), (4, .int y4)]) hx hb dX1_readyOfGreatestRank_52 rfl hl (by decide) rfl (fun ls hl => ?_)
            refine lv_iinc (v := (y4 + 1)) (lv' := [(4, .int (y4 + 1)), (1, .ref (ad 6 y4.toNatClampNeg)), (5, .ref (ad 6 y4.toNatClampNeg)), (2, .ref (ad 10 0)), (3, .int y3)]) hx hb dX1_readyOfGreatestRank_53 hl (k := 4) rfl rfl (by decide) rfl (fun ls hl => ?_)
            refine lv_goto (tgt := 13) hx hb dX1_readyOfGreatestRank_56 (by decide) ?_
            exact ih _ _ _ _ _ hf v7 _ _ _ hW hS (lv_sub hl [1, 3, 4, 0] rfl)
set_option maxRecDepth 100000 in
set_option maxHeartbeats 4000000 in
theorem c_yX1_readyOfGreatestRank (l : Launch) (E : Lay) (ad : Nat → Nat → Nat) (M N : Mem) (r : Option Nat) (hf : f_yX1_readyOfGreatestRank M = some r) : Met l yX1_readyOfGreatestRank (Cond.code yX1_readyOfGreatestRank cX1_readyOfGreatestRank 6 (some (.object "MonitorTurns$Strand")) :: TB) (rmm 0 0) (va_Pc [.ref (ad 2 0)] (PB E ad (M, N))) (Qq E ad ((r).map (ad 6)) (M, N)) 0 0 (ow E) := by
  refine Met.ofW (cc := cX1_readyOfGreatestRank) (maxL := 6) (ret := (some (.object "MonitorTurns$Strand"))) (by decide) rfl ?_
  intro p e s m args below meth c s₁ B hml hv
  obtain ⟨rfl, hW, hK, hZ⟩ := hv
  have hT : ∀ w ∈ TB, w.before _ s = true := fun w h => atoms_spec (ws := (Cond.code yX1_readyOfGreatestRank cX1_readyOfGreatestRank 6 (some (.object "MonitorTurns$Strand")) :: TB)) B.pre w (List.mem_cons_of_mem _ h)
  have X : CX p s m _ meth c cX1_readyOfGreatestRank 6 (some (.object "MonitorTurns$Strand")) RX1 := ⟨B.exec, B.bytes, hml, findClass_of_methodNamed B.named, hT, B.returns, B.notSynchronized⟩
  obtain ⟨hx, hb, hml, hown, hT, hr, hlk⟩ := id X
  have hS : va_S (ow E) s.heap s.heap [] := va_S.rf
  have hl := lv_entry ([.ref (ad 2 0)]) (n := 6) (Nat.le_of_ble_eq_true rfl)
  rw [lg_entry_eq]
  generalize (lg_sl ([.ref (ad 2 0)]) ++ List.replicate (6 - (lg_sl ([.ref (ad 2 0)])).length) Slot.unset).toArray = ls at hl ⊢
  have hl : lv_has ls 6 [(0, .ref (ad 2 0))] := hl
  unfold f_yX1_readyOfGreatestRank at hf
  refine lv_null hx hb dX1_readyOfGreatestRank_0 ?_
  refine lv_astore_nN (lv' := [(1, .null), (0, .ref (ad 2 0))]) hx hb dX1_readyOfGreatestRank_1 rfl hl (by decide) rfl (fun ls hl => ?_)
  refine lv_aload_n hx hb dX1_readyOfGreatestRank_2 rfl (lv_at hl 1 rfl) ?_
  refine g_1_1 X hK hW flRX1_11 dX1_readyOfGreatestRank_3 ?_
  refine lv_astore_n (lv' := [(2, .ref (ad 10 0)), (1, .null), (0, .ref (ad 2 0))]) hx hb dX1_readyOfGreatestRank_6 rfl hl (by decide) rfl (fun ls hl => ?_)
  refine lv_aload_n hx hb dX1_readyOfGreatestRank_7 rfl (lv_at hl 0 rfl) ?_
  refine an_10 X hK hW dX1_readyOfGreatestRank_8 ?_
  refine lv_istore_n (lv' := [(3, .int 6), (2, .ref (ad 10 0)), (1, .null), (0, .ref (ad 2 0))]) hx hb dX1_readyOfGreatestRank_9 rfl hl (by decide) rfl (fun ls hl => ?_)
  refine lv_iconst (v := 0) hx hb dX1_readyOfGreatestRank_10 (by decide) ?_
  refine lv_istore (lv' := [(4, .int 0), (3, .int 6), (2, .ref (ad 10 0)), (1, .null), (0, .ref (ad 2 0))]) hx hb dX1_readyOfGreatestRank_11 hl (by decide) rfl (fun ls hl => ?_)
  exact (l_yX1_readyOfGreatestRank_13 l E ad N X hK hZ 70) _ _ _ _ _ hf trivial _ _ _ hW hS (lv_sub hl [3, 2, 1, 0] rfl)
set_option maxRecDepth 100000 in
set_option maxHeartbeats 4000000 in
theorem k_yX1_readyOfGreatestRankn {p : Program} {l : Launch} {e : Env} {R : Room} {s : State} {m : MethodId} {args : Array Value} {below : List Frame} {meth : Method} {c : Code} {H : Heap} {locs : List Loc} {cells slots : Nat} {Q : State → Prop} {cc : ByteArray} {pc nL index : Nat} {ret : Option FieldType} {own : String} {ls : Array Slot} {rest : List Value} {E : Lay} {ad : Nat → Nat → Nat} {M N : Mem} (X : CX p s m args meth c cc nL ret own) (hK : KK E s) (hZ : ZZ E s) (hW : WD E ad (M, N) H) (hS : va_S (ow E) s.heap H locs) (hsz : ls.size = nL) (hf : f_yX1_readyOfGreatestRank M = some none) (hn : Cond.methodLink own index yX1_readyOfGreatestRank ∈ TB) (hR : 0 + 1 ≤ R.frames ∧ 8 + (6 + 11) + 0 ≤ R.locals) (hC : cells ≤ R.cells ∧ slots ≤ R.slots) (h8 : (rest.map fun v => v.category).sum ≤ 8) (hdg : decode cc pc = .ok (.invokevirtual index, 3)) (kk : ∀ (H1 : Heap) (locs1 : List Loc), WD E ad (M, N) H1 → va_S (ow E) s.heap H1 locs1 → W p l e R s m args below meth c H1 locs1 cells slots Q (F0 m (pc + 3) ls (.null :: rest))) : W p l e R s m args below meth c H locs cells slots Q (F0 m pc ls (.ref (ad 2 0) :: rest)) := by
  refine va_callq (va_runV (C := RX1) (As := []) (rest := rest) ⟨X.1, X.2.1, X.2.2.1, X.2.2.2.1, X.2.2.2.2.1⟩ (c_yX1_readyOfGreatestRank l E ad M N none hf) (cwV 0 X.2.2.2.2.1 (gV hn im_yX1_readyOfGreatestRank se_yX1_readyOfGreatestRank iniRX1 cd_yX1_readyOfGreatestRank) rfl rfl rfl (by decide +kernel) hR) ⟨fun a U g mk q => ⟨q.1, q.2.calling⟩, va_recv hK.1 (hW.at (c := 2) (i := 0) Nat.zero_lt_one rfl) (ci := 1) (q0 := 0) rfl rfl, fun U hU hw => ⟨rfl, PB.at hW hK hZ hS hU hw⟩⟩ rfl rfl hsz rfl (lv_room h8) hdg hC) hS (fun _ _ h => h) (fun _ h => h) (fun r' u t H1 locs1 ht hvm hw hB hz1 hk1 hS1 => ?_)
  obtain ⟨rfl, rfl⟩ := hw
  rw [ht] at hB
  exact kk H1 locs1 hB hS1
set_option maxRecDepth 100000 in
set_option maxHeartbeats 4000000 in
theorem k_yX1_readyOfGreatestRanks {p : Program} {l : Launch} {e : Env} {R : Room} {s : State} {m : MethodId} {args : Array Value} {below : List Frame} {meth : Method} {c : Code} {H : Heap} {locs : List Loc} {cells slots : Nat} {Q : State → Prop} {cc : ByteArray} {pc nL index : Nat} {ret : Option FieldType} {own : String} {ls : Array Slot} {rest : List Value} {E : Lay} {ad : Nat → Nat → Nat} {M N : Mem} (X : CX p s m args meth c cc nL ret own) (hK : KK E s) (hZ : ZZ E s) (hW : WD E ad (M, N) H) (hS : va_S (ow E) s.heap H locs) (hsz : ls.size = nL) {jr : Nat} (hf : f_yX1_readyOfGreatestRank M = some (some jr)) (hn : Cond.methodLink own index yX1_readyOfGreatestRank ∈ TB) (hR : 0 + 1 ≤ R.frames ∧ 8 + (6 + 11) + 0 ≤ R.locals) (hC : cells ≤ R.cells ∧ slots ≤ R.slots) (h8 : (rest.map fun v => v.category).sum ≤ 8) (hdg : decode cc pc = .ok (.invokevirtual index, 3)) (kk : ∀ (H1 : Heap) (locs1 : List Loc), WD E ad (M, N) H1 → va_S (ow E) s.heap H1 locs1 → W p l e R s m args below meth c H1 locs1 cells slots Q (F0 m (pc + 3) ls (.ref (ad 6 jr) :: rest))) : W p l e R s m args below meth c H locs cells slots Q (F0 m pc ls (.ref (ad 2 0) :: rest)) := by
  refine va_callq (va_runV (C := RX1) (As := []) (rest := rest) ⟨X.1, X.2.1, X.2.2.1, X.2.2.2.1, X.2.2.2.2.1⟩ (c_yX1_readyOfGreatestRank l E ad M N (some jr) hf) (cwV 0 X.2.2.2.2.1 (gV hn im_yX1_readyOfGreatestRank se_yX1_readyOfGreatestRank iniRX1 cd_yX1_readyOfGreatestRank) rfl rfl rfl (by decide +kernel) hR) ⟨fun a U g mk q => ⟨q.1, q.2.calling⟩, va_recv hK.1 (hW.at (c := 2) (i := 0) Nat.zero_lt_one rfl) (ci := 1) (q0 := 0) rfl rfl, fun U hU hw => ⟨rfl, PB.at hW hK hZ hS hU hw⟩⟩ rfl rfl hsz rfl (lv_room h8) hdg hC) hS (fun _ _ h => h) (fun _ h => h) (fun r' u t H1 locs1 ht hvm hw hB hz1 hk1 hS1 => ?_)
  obtain ⟨rfl, rfl⟩ := hw
  rw [ht] at hB
  exact kk H1 locs1 hB hS1
def f_yX1_stamp (M : Mem) (i1 : Nat) : Option Mem := lt1 (mp M 6 i1 14 (M 2 0 2)) (fun M1 => lt1 (mp M1 2 0 2 ((M1 2 0 2) + 1)) (fun M2 => (some M2)))
set_option maxRecDepth 100000 in
set_option maxHeartbeats 4000000 in
theorem c_yX1_stamp (l : Launch) (E : Lay) (ad : Nat → Nat → Nat) (M N : Mem) (i1 : Nat) (w1 : i1 < 6) (Mr : Mem) (hf : f_yX1_stamp M i1 = some Mr) : Met l yX1_stamp (Cond.code yX1_stamp cX1_stamp 2 none :: TB) (rmm 0 0) (va_Pc [.ref (ad 2 0), .ref (ad 6 i1)] (PB E ad (M, N))) (Qv E ad (Mr, N)) 0 0 (ow E) := by
  refine Met.ofW (cc := cX1_stamp) (maxL := 2) (ret := none) (by decide) rfl ?_
  intro p e s m args below meth c s₁ B hml hv
  obtain ⟨rfl, hW, hK, hZ⟩ := hv
  have hT : ∀ w ∈ TB, w.before _ s = true := fun w h => atoms_spec (ws := (Cond.code yX1_stamp cX1_stamp 2 none :: TB)) B.pre w (List.mem_cons_of_mem _ h)
  have X : CX p s m _ meth c cX1_stamp 2 none RX1 := ⟨B.exec, B.bytes, hml, findClass_of_methodNamed B.named, hT, B.returns, B.notSynchronized⟩
  obtain ⟨hx, hb, hml, hown, hT, hr, hlk⟩ := id X
  have hS : va_S (ow E) s.heap s.heap [] := va_S.rf
  have hl := lv_entry ([.ref (ad 2 0), .ref (ad 6 i1)]) (n := 2) (Nat.le_of_ble_eq_true rfl)
  rw [lg_entry_eq]
  generalize (lg_sl ([.ref (ad 2 0), .ref (ad 6 i1)]) ++ List.replicate (2 - (lg_sl ([.ref (ad 2 0), .ref (ad 6 i1)])).length) Slot.unset).toArray = ls at hl ⊢
  have hl : lv_has ls 2 [(0, .ref (ad 2 0)), (1, .ref (ad 6 i1))] := hl
  unfold f_yX1_stamp at hf
  refine lv_aload_n hx hb dX1_stamp_0 rfl (lv_at hl 1 rfl) ?_
  refine lv_aload_n hx hb dX1_stamp_1 rfl (lv_at hl 0 rfl) ?_
  refine g_1_4 X hK hW flRX1_98 dX1_stamp_2 ?_
  obtain ⟨M1, hM1, hf⟩ := lt1_some hf
  refine p_5_18 X hK hW hS w1 hM1 flRX1_101 dX1_stamp_5 (fun H locs hW hS => ?_)
  refine lv_aload_n hx hb dX1_stamp_8 rfl (lv_at hl 0 rfl) ?_
  refine lv_dup hx hb dX1_stamp_9 rfl ?_
  refine g_1_4 X hK hW flRX1_98 dX1_stamp_10 ?_
  refine lv_iconst (v := 1) hx hb dX1_stamp_13 (by decide) ?_
  refine lv_iadd hx hb dX1_stamp_14 ?_
  obtain ⟨M2, hM2, hf⟩ := lt1_some hf
  refine p_1_4 X hK hW hS hM2 flRX1_98 dX1_stamp_15 (fun H locs hW hS => ?_)
  obtain rfl := sp1 hf
  exact e_v ⟨hx, hb, hr, hlk⟩ hW hS dX1_stamp_18
set_option maxRecDepth 100000 in
set_option maxHeartbeats 4000000 in
theorem k_yX1_stamp {p : Program} {l : Launch} {e : Env} {R : Room} {s : State} {m : MethodId} {args : Array Value} {below : List Frame} {meth : Method} {c : Code} {H : Heap} {locs : List Loc} {cells slots : Nat} {Q : State → Prop} {cc : ByteArray} {pc nL index : Nat} {ret : Option FieldType} {own : String} {ls : Array Slot} {rest : List Value} {E : Lay} {ad : Nat → Nat → Nat} {M N : Mem} (X : CX p s m args meth c cc nL ret own) (hK : KK E s) (hZ : ZZ E s) (hW : WD E ad (M, N) H) (hS : va_S (ow E) s.heap H locs) (hsz : ls.size = nL) {i1 : Nat} (w1 : i1 < 6) {Mr : Mem} (hf : f_yX1_stamp M i1 = some Mr) (hn : Cond.methodLink own index yX1_stamp ∈ TB) (hR : 0 + 1 ≤ R.frames ∧ 8 + (2 + 11) + 0 ≤ R.locals) (hC : cells ≤ R.cells ∧ slots ≤ R.slots) (h8 : (rest.map fun v => v.category).sum ≤ 8) (hdg : decode cc pc = .ok (.invokevirtual index, 3)) (kk : ∀ (H1 : Heap) (locs1 : List Loc), WD E ad (Mr, N) H1 → va_S (ow E) s.heap H1 locs1 → W p l e R s m args below meth c H1 locs1 cells slots Q (F0 m (pc + 3) ls (rest))) : W p l e R s m args below meth c H locs cells slots Q (F0 m pc ls (.ref (ad 6 i1) :: .ref (ad 2 0) :: rest)) := by
  refine va_callv (va_runV (C := RX1) (As := [.ref (ad 6 i1)]) (rest := rest) ⟨X.1, X.2.1, X.2.2.1, X.2.2.2.1, X.2.2.2.2.1⟩ (c_yX1_stamp l E ad M N i1 w1 Mr hf) (cwV 1 X.2.2.2.2.1 (gV hn im_yX1_stamp se_yX1_stamp iniRX1 cd_yX1_stamp) rfl rfl rfl (by decide +kernel) hR) ⟨fun a U g mk q => ⟨q.1, q.2.calling⟩, va_recv hK.1 (hW.at (c := 2) (i := 0) Nat.zero_lt_one rfl) (ci := 1) (q0 := 0) rfl rfl, fun U hU hw => ⟨rfl, PB.at hW hK hZ hS hU hw⟩⟩ rfl rfl hsz rfl (lv_room h8) hdg hC) hS (fun _ _ h => h) (fun _ h => h) (fun u t H1 locs1 ht hvm hw hB hz1 hk1 hS1 => ?_)
  subst hw
  rw [ht] at hB
  exact kk H1 locs1 hB hS1
def f_yX1_next_L16 : Nat → Mem → Int32 → Int32 → Option Nat → Int32 → Int32 → Option (Option Nat)
  | 0, _, _, _, _, _, _ => none
  | n + 1, M0, y1, y2, u3, y5, y6 => om u3 ((if y5 ≤ y6 then (some none) else gd (¬ (y6 < 0 ∨ 6 ≤ y6.toNatClampNeg)) ((if (M0 6 y6.toNatClampNeg 0) = y1 then (if (M0 6 y6.toNatClampNeg 11) = y2 then (f_yX1_next_L16 n M0 y1 y2 (some y6.toNatClampNeg) y5 (y6 + 1)) else (f_yX1_next_L16 n M0 y1 y2 none y5 (y6 + 1))) else (f_yX1_next_L16 n M0 y1 y2 none y5 (y6 + 1)))))) (fun k3 => (if y5 ≤ y6 then (some (some k3)) else gd (¬ (y6 < 0 ∨ 6 ≤ y6.toNatClampNeg)) ((if (M0 6 y6.toNatClampNeg 0) = y1 then (if (M0 6 y6.toNatClampNeg 11) = y2 then (if (M0 6 k3 14) ≤ (M0 6 y6.toNatClampNeg 14) then (if (M0 2 0 1) = 0 then (f_yX1_next_L16 n M0 y1 y2 (some k3) y5 (y6 + 1)) else (if (M0 2 0 1) = 1 then (f_yX1_next_L16 n M0 y1 y2 (some y6.toNatClampNeg) y5 (y6 + 1)) else (f_yX1_next_L16 n M0 y1 y2 (some k3) y5 (y6 + 1)))) else (if (M0 2 0 1) = 0 then (f_yX1_next_L16 n M0 y1 y2 (some y6.toNatClampNeg) y5 (y6 + 1)) else (if (M0 2 0 1) = 1 then (f_yX1_next_L16 n M0 y1 y2 (some k3) y5 (y6 + 1)) else (f_yX1_next_L16 n M0 y1 y2 (some k3) y5 (y6 + 1))))) else (f_yX1_next_L16 n M0 y1 y2 (some k3) y5 (y6 + 1))) else (f_yX1_next_L16 n M0 y1 y2 (some k3) y5 (y6 + 1))))))
def f_yX1_next (M : Mem) (x1 : Int32) (x2 : Int32) : Option (Option Nat) := (f_yX1_next_L16 70 M x1 x2 none 6 0)
set_option maxRecDepth 100000 in
set_option maxHeartbeats 4000000 in
theorem l_yX1_next_16 (l : Launch) (E : Lay) (ad : Nat → Nat → Nat) (N : Mem) {p : Program} {e : Env} {s : State} {m : MethodId} {args : Array Value} {below : List Frame} {meth : Method} {c : Code} (X : CX p s m args meth c cX1_next 9 (some (.object "MonitorTurns$Strand")) RX1) (hK : KK E s) (hZ : ZZ E s) : ∀ (n : Nat) (M0 : Mem) (y1 : Int32) (y2 : Int32) (u3 : Option Nat) (y5 : Int32) (y6 : Int32) (r : Option Nat) (hf : f_yX1_next_L16 n M0 y1 y2 u3 y5 y6 = some r) (w3 : om u3 True (fun i => i < 6)) (H : Heap) (locs : List Loc) (ls : Array Slot), WD E ad (M0, N) H → va_S (ow E) s.heap H locs → lv_has ls 9 [(0, .ref (ad 2 0)), (1, .int y1), (2, .int y2), (3, va_rf (u3.map (ad 6))), (4, .ref (ad 10 0)), (5, .int y5), (6, .int y6)] → W p l e (rmm 0 0) s m args below meth c H locs 0 0 (MQ below (Qq E ad ((r).map (ad 6)) (M0, N)) args s 0 0 (ow E)) (F0 m 16 ls []) := by
  obtain ⟨hx, hb, hml, hown, hT, hr, hlk⟩ := id X
  intro n
  induction n with
  | zero =>
    intro M0 y1 y2 u3 y5 y6 r hf
    rw [f_yX1_next_L16] at hf
    cases hf
  | succ n ih =>
    intro M0 y1 y2 u3 y5 y6 r hf w3 H locs ls hW hS hl
    rw [f_yX1_next_L16] at hf
    rcases u3 with _ | k3
    · rw [om_n] at hf
      have hl : lv_has ls 9 [(0, .ref (ad 2 0)), (1, .int y1), (2, .int y2), (3, .null), (4, .ref (ad 10 0)), (5, .int y5), (6, .int y6)] := hl
      refine lv_iload hx hb dX1_next_16 (lv_at hl 6 rfl) ?_
      refine lv_iload hx hb dX1_next_18 (lv_at hl 5 rfl) ?_
      refine lv_icmp_ge (tgt := 112) hx hb dX1_next_20 (by decide) (fun c1 => ?_) (fun c1 => ?_)
      · rw [if_pos c1] at hf
        refine lv_aload_nN hx hb dX1_next_112 rfl (lv_at hl 3 rfl) ?_
        obtain rfl := sp1 hf
        exact e_q ⟨hx, hb, hr, hlk⟩ (Or.inl ⟨_, rfl⟩) rfl hW hS dX1_next_113
      · rw [if_neg c1] at hf
        refine lv_aload hx hb dX1_next_23 (lv_at hl 4 rfl) ?_
        refine lv_iload hx hb dX1_next_25 (lv_at hl 6 rfl) ?_
        obtain ⟨b2, hf⟩ := gd_some hf
        have v3 : y6.toNatClampNeg < 6 := Nat.not_le.mp fun z => b2 (Or.inr z)
        refine al_10 X hK hW b2 dX1_next_27 ?_
        refine lv_astore (lv' := [(7, .ref (ad 6 y6.toNatClampNeg)), (0, .ref (ad 2 0)), (1, .int y1), (2, .int y2), (3, .null), (4, .ref (ad 10 0)), (5, .int y5), (6, .int y6)]) hx hb dX1_next_28 hl (by decide) rfl (fun ls hl => ?_)
        refine lv_aload hx hb dX1_next_30 (lv_at hl 0 rfl) ?_
        refine g_5_4 X hK hW v3 flRX1_32 dX1_next_32 ?_
        refine lv_iload_n hx hb dX1_next_35 rfl (lv_at hl 2 rfl) ?_
        refine lv_icmp_ne (tgt := 106) hx hb dX1_next_36 (by decide) (fun c4 => ?_) (fun c4 => ?_)
        · rw [if_neg c4] at hf
          refine lv_iinc (v := (y6 + 1)) (lv' := [(6, .int (y6 + 1)), (7, .ref (ad 6 y6.toNatClampNeg)), (0, .ref (ad 2 0)), (1, .int y1), (2, .int y2), (3, .null), (4, .ref (ad 10 0)), (5, .int y5)]) hx hb dX1_next_106 hl (k := 7) rfl rfl (by decide) rfl (fun ls hl => ?_)
          refine lv_goto (tgt := 16) hx hb dX1_next_109 (by decide) ?_
          exact ih _ _ _ _ _ _ _ hf trivial _ _ _ hW hS (lv_sub hl [2, 3, 4, 5, 6, 7, 0] rfl)
        · rw [if_pos c4] at hf
          refine lv_aload hx hb dX1_next_39 (lv_at hl 0 rfl) ?_
          refine g_5_15 X hK hW v3 flRX1_36 dX1_next_41 ?_
          refine lv_iload_n hx hb dX1_next_44 rfl (lv_at hl 3 rfl) ?_
          refine lv_icmp_eq (tgt := 51) hx hb dX1_next_45 (by decide) (fun c5 => ?_) (fun c5 => ?_)
          · rw [if_pos c5] at hf
            refine lv_aload_nN hx hb dX1_next_51 rfl (lv_at hl 4 rfl) ?_
            refine lv_ifnullN (tgt := 67) hx hb dX1_next_52 (by decide) ?_
            refine lv_iconst (v := 1) hx hb dX1_next_67 (by decide) ?_
            refine lv_goto (tgt := 72) hx hb dX1_next_68 (by decide) ?_
            refine lv_istore (lv' := [(8, .int 1), (7, .ref (ad 6 y6.toNatClampNeg)), (0, .ref (ad 2 0)), (1, .int y1), (2, .int y2), (3, .null), (4, .ref (ad 10 0)), (5, .int y5), (6, .int y6)]) hx hb dX1_next_72 hl (by decide) rfl (fun ls hl => ?_)
            refine lv_aload_nN hx hb dX1_next_74 rfl (lv_at hl 5 rfl) ?_
            refine lv_ifnullN (tgt := 103) hx hb dX1_next_75 (by decide) ?_
            refine lv_aload hx hb dX1_next_103 (lv_at hl 1 rfl) ?_
            refine lv_astore_n (lv' := [(3, .ref (ad 6 y6.toNatClampNeg)), (8, .int 1), (7, .ref (ad 6 y6.toNatClampNeg)), (0, .ref (ad 2 0)), (1, .int y1), (2, .int y2), (4, .ref (ad 10 0)), (5, .int y5), (6, .int y6)]) hx hb dX1_next_105 rfl hl (by decide) rfl (fun ls hl => ?_)
            refine lv_iinc (v := (y6 + 1)) (lv' := [(6, .int (y6 + 1)), (3, .ref (ad 6 y6.toNatClampNeg)), (8, .int 1), (7, .ref (ad 6 y6.toNatClampNeg)), (0, .ref (ad 2 0)), (1, .int y1), (2, .int y2), (4, .ref (ad 10 0)), (5, .int y5)]) hx hb dX1_next_106 hl (k := 8) rfl rfl (by decide) rfl (fun ls hl => ?_)
            refine lv_goto (tgt := 16) hx hb dX1_next_109 (by decide) ?_
            exact ih _ _ _ _ _ _ _ hf v3 _ _ _ hW hS (lv_sub hl [4, 5, 6, 1, 7, 8, 0] rfl)
          · rw [if_neg c5] at hf
            refine lv_goto (tgt := 106) hx hb dX1_next_48 (by decide) ?_
            refine lv_iinc (v := (y6 + 1)) (lv' := [(6, .int (y6 + 1)), (7, .ref (ad 6 y6.toNatClampNeg)), (0, .ref (ad 2 0)), (1, .int y1), (2, .int y2), (3, .null), (4, .ref (ad 10 0)), (5, .int y5)]) hx hb dX1_next_106 hl (k := 7) rfl rfl (by decide) rfl (fun ls hl => ?_)
            refine lv_goto (tgt := 16) hx hb dX1_next_109 (by decide) ?_
            exact ih _ _ _ _ _ _ _ hf trivial _ _ _ hW hS (lv_sub hl [2, 3, 4, 5, 6, 7, 0] rfl)
    · rw [om_s] at hf
      have hl : lv_has ls 9 [(0, .ref (ad 2 0)), (1, .int y1), (2, .int y2), (3, .ref (ad 6 k3)), (4, .ref (ad 10 0)), (5, .int y5), (6, .int y6)] := hl
      refine lv_iload hx hb dX1_next_16 (lv_at hl 6 rfl) ?_
      refine lv_iload hx hb dX1_next_18 (lv_at hl 5 rfl) ?_
      refine lv_icmp_ge (tgt := 112) hx hb dX1_next_20 (by decide) (fun c6 => ?_) (fun c6 => ?_)
      · rw [if_pos c6] at hf
        refine lv_aload_n hx hb dX1_next_112 rfl (lv_at hl 3 rfl) ?_
        obtain rfl := sp1 hf
        exact e_q ⟨hx, hb, hr, hlk⟩ (Or.inl ⟨_, rfl⟩) rfl hW hS dX1_next_113
      · rw [if_neg c6] at hf
        refine lv_aload hx hb dX1_next_23 (lv_at hl 4 rfl) ?_
        refine lv_iload hx hb dX1_next_25 (lv_at hl 6 rfl) ?_
        obtain ⟨b7, hf⟩ := gd_some hf
        have v8 : y6.toNatClampNeg < 6 := Nat.not_le.mp fun z => b7 (Or.inr z)
        refine al_10 X hK hW b7 dX1_next_27 ?_
        refine lv_astore (lv' := [(7, .ref (ad 6 y6.toNatClampNeg)), (0, .ref (ad 2 0)), (1, .int y1), (2, .int y2), (3, .ref (ad 6 k3)), (4, .ref (ad 10 0)), (5, .int y5), (6, .int y6)]) hx hb dX1_next_28 hl (by decide) rfl (fun ls hl => ?_)
        refine lv_aload hx hb dX1_next_30 (lv_at hl 0 rfl) ?_
        refine g_5_4 X hK hW v8 flRX1_32 dX1_next_32 ?_
        refine lv_iload_n hx hb dX1_next_35 rfl (lv_at hl 2 rfl) ?_
        refine lv_icmp_ne (tgt := 106) hx hb dX1_next_36 (by decide) (fun c9 => ?_) (fun c9 => ?_)
        · rw [if_neg c9] at hf
          refine lv_iinc (v := (y6 + 1)) (lv' := [(6, .int (y6 + 1)), (7, .ref (ad 6 y6.toNatClampNeg)), (0, .ref (ad 2 0)), (1, .int y1), (2, .int y2), (3, .ref (ad 6 k3)), (4, .ref (ad 10 0)), (5, .int y5)]) hx hb dX1_next_106 hl (k := 7) rfl rfl (by decide) rfl (fun ls hl => ?_)
          refine lv_goto (tgt := 16) hx hb dX1_next_109 (by decide) ?_
          exact ih _ _ _ _ _ _ _ hf w3 _ _ _ hW hS (lv_sub hl [2, 3, 4, 5, 6, 7, 0] rfl)
        · rw [if_pos c9] at hf
          refine lv_aload hx hb dX1_next_39 (lv_at hl 0 rfl) ?_
          refine g_5_15 X hK hW v8 flRX1_36 dX1_next_41 ?_
          refine lv_iload_n hx hb dX1_next_44 rfl (lv_at hl 3 rfl) ?_
          refine lv_icmp_eq (tgt := 51) hx hb dX1_next_45 (by decide) (fun c10 => ?_) (fun c10 => ?_)
          · rw [if_pos c10] at hf
            refine lv_aload_n hx hb dX1_next_51 rfl (lv_at hl 4 rfl) ?_
            refine lv_ifnull hx hb dX1_next_52 ?_
            refine lv_aload hx hb dX1_next_55 (lv_at hl 0 rfl) ?_
            refine g_5_18 X hK hW v8 flRX1_101 dX1_next_57 ?_
            refine lv_aload_n hx hb dX1_next_60 rfl (lv_at hl 4 rfl) ?_
            refine g_5_18 X hK hW w3 flRX1_101 dX1_next_61 ?_
            refine lv_icmp_ge (tgt := 71) hx hb dX1_next_64 (by decide) (fun c11 => ?_) (fun c11 => ?_)
            · rw [if_pos c11] at hf
              refine lv_iconst (v := 0) hx hb dX1_next_71 (by decide) ?_
              refine lv_istore (lv' := [(8, .int 0), (7, .ref (ad 6 y6.toNatClampNeg)), (0, .ref (ad 2 0)), (1, .int y1), (2, .int y2), (3, .ref (ad 6 k3)), (4, .ref (ad 10 0)), (5, .int y5), (6, .int y6)]) hx hb dX1_next_72 hl (by decide) rfl (fun ls hl => ?_)
              refine lv_aload_n hx hb dX1_next_74 rfl (lv_at hl 5 rfl) ?_
              refine lv_ifnull hx hb dX1_next_75 ?_
              refine lv_aload_n hx hb dX1_next_78 rfl (lv_at hl 2 rfl) ?_
              refine g_1_3 X hK hW flRX1_108 dX1_next_79 ?_
              refine lv_if_ne (tgt := 90) hx hb dX1_next_82 (by decide) (fun c12 => ?_) (fun c12 => ?_)
              · rw [if_neg c12] at hf
                refine lv_aload_n hx hb dX1_next_90 rfl (lv_at hl 2 rfl) ?_
                refine g_1_3 X hK hW flRX1_108 dX1_next_91 ?_
                refine lv_iconst (v := 1) hx hb dX1_next_94 (by decide) ?_
                refine lv_icmp_ne (tgt := 106) hx hb dX1_next_95 (by decide) (fun c13 => ?_) (fun c13 => ?_)
                · rw [if_neg c13] at hf
                  refine lv_iinc (v := (y6 + 1)) (lv' := [(6, .int (y6 + 1)), (8, .int 0), (7, .ref (ad 6 y6.toNatClampNeg)), (0, .ref (ad 2 0)), (1, .int y1), (2, .int y2), (3, .ref (ad 6 k3)), (4, .ref (ad 10 0)), (5, .int y5)]) hx hb dX1_next_106 hl (k := 8) rfl rfl (by decide) rfl (fun ls hl => ?_)
                  refine lv_goto (tgt := 16) hx hb dX1_next_109 (by decide) ?_
                  exact ih _ _ _ _ _ _ _ hf w3 _ _ _ hW hS (lv_sub hl [3, 4, 5, 6, 7, 8, 0] rfl)
                · rw [if_pos c13] at hf
                  refine lv_iload hx hb dX1_next_98 (lv_at hl 0 rfl) ?_
                  refine lv_if_ne (tgt := 106) hx hb dX1_next_100 (by decide) (fun c14 => ?_) (fun c14 => ?_)
                  · exact absurd c14 (by decide)
                  · skip
                    refine lv_aload hx hb dX1_next_103 (lv_at hl 1 rfl) ?_
                    refine lv_astore_n (lv' := [(3, .ref (ad 6 y6.toNatClampNeg)), (8, .int 0), (7, .ref (ad 6 y6.toNatClampNeg)), (0, .ref (ad 2 0)), (1, .int y1), (2, .int y2), (4, .ref (ad 10 0)), (5, .int y5), (6, .int y6)]) hx hb dX1_next_105 rfl hl (by decide) rfl (fun ls hl => ?_)
                    refine lv_iinc (v := (y6 + 1)) (lv' := [(6, .int (y6 + 1)), (3, .ref (ad 6 y6.toNatClampNeg)), (8, .int 0), (7, .ref (ad 6 y6.toNatClampNeg)), (0, .ref (ad 2 0)), (1, .int y1), (2, .int y2), (4, .ref (ad 10 0)), (5, .int y5)]) hx hb dX1_next_106 hl (k := 8) rfl rfl (by decide) rfl (fun ls hl => ?_)
                    refine lv_goto (tgt := 16) hx hb dX1_next_109 (by decide) ?_
                    exact ih _ _ _ _ _ _ _ hf v8 _ _ _ hW hS (lv_sub hl [4, 5, 6, 1, 7, 8, 0] rfl)
              · rw [if_pos c12] at hf
                refine lv_iload hx hb dX1_next_85 (lv_at hl 0 rfl) ?_
                refine lv_if_ne (tgt := 103) hx hb dX1_next_87 (by decide) (fun c15 => ?_) (fun c15 => ?_)
                · exact absurd c15 (by decide)
                · skip
                  refine lv_aload_n hx hb dX1_next_90 rfl (lv_at hl 2 rfl) ?_
                  refine g_1_3 X hK hW flRX1_108 dX1_next_91 ?_
                  refine lv_iconst (v := 1) hx hb dX1_next_94 (by decide) ?_
                  refine lv_icmp_ne (tgt := 106) hx hb dX1_next_95 (by decide) (fun c16 => ?_) (fun c16 => ?_)
                  · skip
                    refine lv_iinc (v := (y6 + 1)) (lv' := [(6, .int (y6 + 1)), (8, .int 0), (7, .ref (ad 6 y6.toNatClampNeg)), (0, .ref (ad 2 0)), (1, .int y1), (2, .int y2), (3, .ref (ad 6 k3)), (4, .ref (ad 10 0)), (5, .int y5)]) hx hb dX1_next_106 hl (k := 8) rfl rfl (by decide) rfl (fun ls hl => ?_)
                    refine lv_goto (tgt := 16) hx hb dX1_next_109 (by decide) ?_
                    exact ih _ _ _ _ _ _ _ hf w3 _ _ _ hW hS (lv_sub hl [3, 4, 5, 6, 7, 8, 0] rfl)
                  · exfalso; have := q_eq (b := 0) (by decide) c12; have := q_eq (b := 1) (by decide) c16; omega
            · rw [if_neg c11] at hf
              refine lv_iconst (v := 1) hx hb dX1_next_67 (by decide) ?_
              refine lv_goto (tgt := 72) hx hb dX1_next_68 (by decide) ?_
              refine lv_istore (lv' := [(8, .int 1), (7, .ref (ad 6 y6.toNatClampNeg)), (0, .ref (ad 2 0)), (1, .int y1), (2, .int y2), (3, .ref (ad 6 k3)), (4, .ref (ad 10 0)), (5, .int y5), (6, .int y6)]) hx hb dX1_next_72 hl (by decide) rfl (fun ls hl => ?_)
              refine lv_aload_n hx hb dX1_next_74 rfl (lv_at hl 5 rfl) ?_
              refine lv_ifnull hx hb dX1_next_75 ?_
              refine lv_aload_n hx hb dX1_next_78 rfl (lv_at hl 2 rfl) ?_
              refine g_1_3 X hK hW flRX1_108 dX1_next_79 ?_
              refine lv_if_ne (tgt := 90) hx hb dX1_next_82 (by decide) (fun c17 => ?_) (fun c17 => ?_)
              · rw [if_neg c17] at hf
                refine lv_aload_n hx hb dX1_next_90 rfl (lv_at hl 2 rfl) ?_
                refine g_1_3 X hK hW flRX1_108 dX1_next_91 ?_
                refine lv_iconst (v := 1) hx hb dX1_next_94 (by decide) ?_
                refine lv_icmp_ne (tgt := 106) hx hb dX1_next_95 (by decide) (fun c18 => ?_) (fun c18 => ?_)
                · rw [if_neg c18] at hf
                  refine lv_iinc (v := (y6 + 1)) (lv' := [(6, .int (y6 + 1)), (8, .int 1), (7, .ref (ad 6 y6.toNatClampNeg)), (0, .ref (ad 2 0)), (1, .int y1), (2, .int y2), (3, .ref (ad 6 k3)), (4, .ref (ad 10 0)), (5, .int y5)]) hx hb dX1_next_106 hl (k := 8) rfl rfl (by decide) rfl (fun ls hl => ?_)
                  refine lv_goto (tgt := 16) hx hb dX1_next_109 (by decide) ?_
                  exact ih _ _ _ _ _ _ _ hf w3 _ _ _ hW hS (lv_sub hl [3, 4, 5, 6, 7, 8, 0] rfl)
                · rw [if_pos c18] at hf
                  refine lv_iload hx hb dX1_next_98 (lv_at hl 0 rfl) ?_
                  refine lv_if_ne (tgt := 106) hx hb dX1_next_100 (by decide) (fun c19 => ?_) (fun c19 => ?_)
                  · skip
                    refine lv_iinc (v := (y6 + 1)) (lv' := [(6, .int (y6 + 1)), (8, .int 1), (7, .ref (ad 6 y6.toNatClampNeg)), (0, .ref (ad 2 0)), (1, .int y1), (2, .int y2), (3, .ref (ad 6 k3)), (4, .ref (ad 10 0)), (5, .int y5)]) hx hb dX1_next_106 hl (k := 8) rfl rfl (by decide) rfl (fun ls hl => ?_)
                    refine lv_goto (tgt := 16) hx hb dX1_next_109 (by decide) ?_
                    exact ih _ _ _ _ _ _ _ hf w3 _ _ _ hW hS (lv_sub hl [3, 4, 5, 6, 7, 8, 0] rfl)
                  · exact absurd c19 (by decide)
              · rw [if_pos c17] at hf
                refine lv_iload hx hb dX1_next_85 (lv_at hl 0 rfl) ?_
                refine lv_if_ne (tgt := 103) hx hb dX1_next_87 (by decide) (fun c20 => ?_) (fun c20 => ?_)
                · skip
                  refine lv_aload hx hb dX1_next_103 (lv_at hl 1 rfl) ?_
                  refine lv_astore_n (lv' := [(3, .ref (ad 6 y6.toNatClampNeg)), (8, .int 1), (7, .ref (ad 6 y6.toNatClampNeg)), (0, .ref (ad 2 0)), (1, .int y1), (2, .int y2), (4, .ref (ad 10 0)), (5, .int y5), (6, .int y6)]) hx hb dX1_next_105 rfl hl (by decide) rfl (fun ls hl => ?_)
                  refine lv_iinc (v := (y6 + 1)) (lv' := [(6, .int (y6 + 1)), (3, .ref (ad 6 y6.toNatClampNeg)), (8, .int 1), (7, .ref (ad 6 y6.toNatClampNeg)), (0, .ref (ad 2 0)), (1, .int y1), (2, .int y2), (4, .ref (ad 10 0)), (5, .int y5)]) hx hb dX1_next_106 hl (k := 8) rfl rfl (by decide) rfl (fun ls hl => ?_)
                  refine lv_goto (tgt := 16) hx hb dX1_next_109 (by decide) ?_
                  exact ih _ _ _ _ _ _ _ hf v8 _ _ _ hW hS (lv_sub hl [4, 5, 6, 1, 7, 8, 0] rfl)
                · exact absurd c20 (by decide)
          · rw [if_neg c10] at hf
            refine lv_goto (tgt := 106) hx hb dX1_next_48 (by decide) ?_
            refine lv_iinc (v := (y6 + 1)) (lv' := [(6, .int (y6 + 1)), (7, .ref (ad 6 y6.toNatClampNeg)), (0, .ref (ad 2 0)), (1, .int y1), (2, .int y2), (3, .ref (ad 6 k3)), (4, .ref (ad 10 0)), (5, .int y5)]) hx hb dX1_next_106 hl (k := 7) rfl rfl (by decide) rfl (fun ls hl => ?_)
            refine lv_goto (tgt := 16) hx hb dX1_next_109 (by decide) ?_
            exact ih _ _ _ _ _ _ _ hf w3 _ _ _ hW hS (lv_sub hl [2, 3, 4, 5, 6, 7, 0] rfl)
set_option maxRecDepth 100000 in
set_option maxHeartbeats 4000000 in
theorem c_yX1_next (l : Launch) (E : Lay) (ad : Nat → Nat → Nat) (M N : Mem) (x1 : Int32) (x2 : Int32) (r : Option Nat) (hf : f_yX1_next M x1 x2 = some r) : Met l yX1_next (Cond.code yX1_next cX1_next 9 (some (.object "MonitorTurns$Strand")) :: TB) (rmm 0 0) (va_Pc [.ref (ad 2 0), .int x1, .int x2] (PB E ad (M, N))) (Qq E ad ((r).map (ad 6)) (M, N)) 0 0 (ow E) := by
  refine Met.ofW (cc := cX1_next) (maxL := 9) (ret := (some (.object "MonitorTurns$Strand"))) (by decide) rfl ?_
  intro p e s m args below meth c s₁ B hml hv
  obtain ⟨rfl, hW, hK, hZ⟩ := hv
  have hT : ∀ w ∈ TB, w.before _ s = true := fun w h => atoms_spec (ws := (Cond.code yX1_next cX1_next 9 (some (.object "MonitorTurns$Strand")) :: TB)) B.pre w (List.mem_cons_of_mem _ h)
  have X : CX p s m _ meth c cX1_next 9 (some (.object "MonitorTurns$Strand")) RX1 := ⟨B.exec, B.bytes, hml, findClass_of_methodNamed B.named, hT, B.returns, B.notSynchronized⟩
  obtain ⟨hx, hb, hml, hown, hT, hr, hlk⟩ := id X
  have hS : va_S (ow E) s.heap s.heap [] := va_S.rf
  have hl := lv_entry ([.ref (ad 2 0), .int x1, .int x2]) (n := 9) (Nat.le_of_ble_eq_true rfl)
  rw [lg_entry_eq]
  generalize (lg_sl ([.ref (ad 2 0), .int x1, .int x2]) ++ List.replicate (9 - (lg_sl ([.ref (ad 2 0), .int x1, .int x2])).length) Slot.unset).toArray = ls at hl ⊢
  have hl : lv_has ls 9 [(0, .ref (ad 2 0)), (1, .int x1), (2, .int x2)] := hl
  unfold f_yX1_next at hf
  refine lv_null hx hb dX1_next_0 ?_
  refine lv_astore_nN (lv' := [(3, .null), (0, .ref (ad 2 0)), (1, .int x1), (2, .int x2)]) hx hb dX1_next_1 rfl hl (by decide) rfl (fun ls hl => ?_)
  refine lv_aload_n hx hb dX1_next_2 rfl (lv_at hl 1 rfl) ?_
  refine g_1_1 X hK hW flRX1_11 dX1_next_3 ?_
  refine lv_astore (lv' := [(4, .ref (ad 10 0)), (3, .null), (0, .ref (ad 2 0)), (1, .int x1), (2, .int x2)]) hx hb dX1_next_6 hl (by decide) rfl (fun ls hl => ?_)
  refine lv_aload hx hb dX1_next_8 (lv_at hl 0 rfl) ?_
  refine an_10 X hK hW dX1_next_10 ?_
  refine lv_istore (lv' := [(5, .int 6), (4, .ref (ad 10 0)), (3, .null), (0, .ref (ad 2 0)), (1, .int x1), (2, .int x2)]) hx hb dX1_next_11 hl (by decide) rfl (fun ls hl => ?_)
  refine lv_iconst (v := 0) hx hb dX1_next_13 (by decide) ?_
  refine lv_istore (lv' := [(6, .int 0), (5, .int 6), (4, .ref (ad 10 0)), (3, .null), (0, .ref (ad 2 0)), (1, .int x1), (2, .int x2)]) hx hb dX1_next_14 hl (by decide) rfl (fun ls hl => ?_)
  exact (l_yX1_next_16 l E ad N X hK hZ 70) _ _ _ _ _ _ _ hf trivial _ _ _ hW hS (lv_sub hl [4, 5, 6, 3, 2, 1, 0] rfl)
set_option maxRecDepth 100000 in
set_option maxHeartbeats 4000000 in
theorem k_yX1_nextn {p : Program} {l : Launch} {e : Env} {R : Room} {s : State} {m : MethodId} {args : Array Value} {below : List Frame} {meth : Method} {c : Code} {H : Heap} {locs : List Loc} {cells slots : Nat} {Q : State → Prop} {cc : ByteArray} {pc nL index : Nat} {ret : Option FieldType} {own : String} {ls : Array Slot} {rest : List Value} {E : Lay} {ad : Nat → Nat → Nat} {M N : Mem} (X : CX p s m args meth c cc nL ret own) (hK : KK E s) (hZ : ZZ E s) (hW : WD E ad (M, N) H) (hS : va_S (ow E) s.heap H locs) (hsz : ls.size = nL) {x1 : Int32} {x2 : Int32} (hf : f_yX1_next M x1 x2 = some none) (hn : Cond.methodLink own index yX1_next ∈ TB) (hR : 0 + 1 ≤ R.frames ∧ 8 + (9 + 11) + 0 ≤ R.locals) (hC : cells ≤ R.cells ∧ slots ≤ R.slots) (h8 : (rest.map fun v => v.category).sum ≤ 8) (hdg : decode cc pc = .ok (.invokevirtual index, 3)) (kk : ∀ (H1 : Heap) (locs1 : List Loc), WD E ad (M, N) H1 → va_S (ow E) s.heap H1 locs1 → W p l e R s m args below meth c H1 locs1 cells slots Q (F0 m (pc + 3) ls (.null :: rest))) : W p l e R s m args below meth c H locs cells slots Q (F0 m pc ls (.int x2 :: .int x1 :: .ref (ad 2 0) :: rest)) := by
  refine va_callq (va_runV (C := RX1) (As := [.int x1, .int x2]) (rest := rest) ⟨X.1, X.2.1, X.2.2.1, X.2.2.2.1, X.2.2.2.2.1⟩ (c_yX1_next l E ad M N x1 x2 none hf) (cwV 2 X.2.2.2.2.1 (gV hn im_yX1_next se_yX1_next iniRX1 cd_yX1_next) rfl rfl rfl (by decide +kernel) hR) ⟨fun a U g mk q => ⟨q.1, q.2.calling⟩, va_recv hK.1 (hW.at (c := 2) (i := 0) Nat.zero_lt_one rfl) (ci := 1) (q0 := 0) rfl rfl, fun U hU hw => ⟨rfl, PB.at hW hK hZ hS hU hw⟩⟩ rfl rfl hsz rfl (lv_room h8) hdg hC) hS (fun _ _ h => h) (fun _ h => h) (fun r' u t H1 locs1 ht hvm hw hB hz1 hk1 hS1 => ?_)
  obtain ⟨rfl, rfl⟩ := hw
  rw [ht] at hB
  exact kk H1 locs1 hB hS1
set_option maxRecDepth 100000 in
set_option maxHeartbeats 4000000 in
theorem k_yX1_nexts {p : Program} {l : Launch} {e : Env} {R : Room} {s : State} {m : MethodId} {args : Array Value} {below : List Frame} {meth : Method} {c : Code} {H : Heap} {locs : List Loc} {cells slots : Nat} {Q : State → Prop} {cc : ByteArray} {pc nL index : Nat} {ret : Option FieldType} {own : String} {ls : Array Slot} {rest : List Value} {E : Lay} {ad : Nat → Nat → Nat} {M N : Mem} (X : CX p s m args meth c cc nL ret own) (hK : KK E s) (hZ : ZZ E s) (hW : WD E ad (M, N) H) (hS : va_S (ow E) s.heap H locs) (hsz : ls.size = nL) {x1 : Int32} {x2 : Int32} {jr : Nat} (hf : f_yX1_next M x1 x2 = some (some jr)) (hn : Cond.methodLink own index yX1_next ∈ TB) (hR : 0 + 1 ≤ R.frames ∧ 8 + (9 + 11) + 0 ≤ R.locals) (hC : cells ≤ R.cells ∧ slots ≤ R.slots) (h8 : (rest.map fun v => v.category).sum ≤ 8) (hdg : decode cc pc = .ok (.invokevirtual index, 3)) (kk : ∀ (H1 : Heap) (locs1 : List Loc), WD E ad (M, N) H1 → va_S (ow E) s.heap H1 locs1 → W p l e R s m args below meth c H1 locs1 cells slots Q (F0 m (pc + 3) ls (.ref (ad 6 jr) :: rest))) : W p l e R s m args below meth c H locs cells slots Q (F0 m pc ls (.int x2 :: .int x1 :: .ref (ad 2 0) :: rest)) := by
  refine va_callq (va_runV (C := RX1) (As := [.int x1, .int x2]) (rest := rest) ⟨X.1, X.2.1, X.2.2.1, X.2.2.2.1, X.2.2.2.2.1⟩ (c_yX1_next l E ad M N x1 x2 (some jr) hf) (cwV 2 X.2.2.2.2.1 (gV hn im_yX1_next se_yX1_next iniRX1 cd_yX1_next) rfl rfl rfl (by decide +kernel) hR) ⟨fun a U g mk q => ⟨q.1, q.2.calling⟩, va_recv hK.1 (hW.at (c := 2) (i := 0) Nat.zero_lt_one rfl) (ci := 1) (q0 := 0) rfl rfl, fun U hU hw => ⟨rfl, PB.at hW hK hZ hS hU hw⟩⟩ rfl rfl hsz rfl (lv_room h8) hdg hC) hS (fun _ _ h => h) (fun _ h => h) (fun r' u t H1 locs1 ht hvm hw hB hz1 hk1 hS1 => ?_)
  obtain ⟨rfl, rfl⟩ := hw
  rw [ht] at hB
  exact kk H1 locs1 hB hS1
def f_yX2_push (M : Mem) (i0 : Nat) (x1 : Int32) (x2 : Int32) : Option (Int32 × Mem) := (if (M 7 i0 0) < 0 then (some (0, M)) else (if (M 7 i0 0) < 8 then gd (¬ ((M 7 i0 0) < 0 ∨ 8 ≤ (M 7 i0 0).toNatClampNeg)) (lt1 (mp M 17 i0 (M 7 i0 0).toNatClampNeg x1) (fun M4 => gd (¬ ((M4 7 i0 0) < 0 ∨ 8 ≤ (M4 7 i0 0).toNatClampNeg)) (lt1 (mp M4 18 i0 (M4 7 i0 0).toNatClampNeg x2) (fun M6 => lt1 (mp M6 7 i0 0 ((M6 7 i0 0) + 1)) (fun M7 => (some (1, M7))))))) else (some (0, M))))
set_option maxRecDepth 100000 in
set_option maxHeartbeats 4000000 in
theorem c_yX2_push (l : Launch) (E : Lay) (ad : Nat → Nat → Nat) (M N : Mem) (i0 : Nat) (x1 : Int32) (x2 : Int32) (w0 : i0 < 6) (r : Int32) (Mr : Mem) (hf : f_yX2_push M i0 x1 x2 = some (r, Mr)) : Met l yX2_push (Cond.code yX2_push cX2_push 3 (some .boolean) :: TB) (rmm 0 0) (va_Pc [.ref (ad 7 i0), .int x1, .int x2] (PB E ad (M, N))) (Qi E ad r (Mr, N)) 0 0 (ow E) := by
  refine Met.ofW (cc := cX2_push) (maxL := 3) (ret := (some .boolean)) (by decide) rfl ?_
  intro p e s m args below meth c s₁ B hml hv
  obtain ⟨rfl, hW, hK, hZ⟩ := hv
  have hT : ∀ w ∈ TB, w.before _ s = true := fun w h => atoms_spec (ws := (Cond.code yX2_push cX2_push 3 (some .boolean) :: TB)) B.pre w (List.mem_cons_of_mem _ h)
  have X : CX p s m _ meth c cX2_push 3 (some .boolean) RX2 := ⟨B.exec, B.bytes, hml, findClass_of_methodNamed B.named, hT, B.returns, B.notSynchronized⟩
  obtain ⟨hx, hb, hml, hown, hT, hr, hlk⟩ := id X
  have hS : va_S (ow E) s.heap s.heap [] := va_S.rf
  have hl := lv_entry ([.ref (ad 7 i0), .int x1, .int x2]) (n := 3) (Nat.le_of_ble_eq_true rfl)
  rw [lg_entry_eq]
  generalize (lg_sl ([.ref (ad 7 i0), .int x1, .int x2]) ++ List.replicate (3 - (lg_sl ([.ref (ad 7 i0), .int x1, .int x2])).length) Slot.unset).toArray = ls at hl ⊢
  have hl : lv_has ls 3 [(0, .ref (ad 7 i0)), (1, .int x1), (2, .int x2)] := hl
  unfold f_yX2_push at hf
  refine lv_aload_n hx hb dX2_push_0 rfl (lv_at hl 0 rfl) ?_
  refine g_2_2 X hK hW w0 flRX2_18 dX2_push_1 ?_
  refine lv_if_lt (tgt := 16) hx hb dX2_push_4 (by decide) (fun c1 => ?_) (fun c1 => ?_)
  · rw [if_pos c1] at hf
    refine lv_iconst (v := 0) hx hb dX2_push_16 (by decide) ?_
    obtain ⟨rfl, rfl⟩ := sp2 hf
    exact e_z ⟨hx, hb, hr, hlk⟩ rfl hW hS dX2_push_17
  · rw [if_neg c1] at hf
    refine lv_aload_n hx hb dX2_push_7 rfl (lv_at hl 0 rfl) ?_
    refine g_2_2 X hK hW w0 flRX2_18 dX2_push_8 ?_
    refine lv_bipush (v := 8) hx hb dX2_push_11 (by decide) ?_
    refine lv_icmp_lt (tgt := 18) hx hb dX2_push_13 (by decide) (fun c2 => ?_) (fun c2 => ?_)
    · rw [if_pos c2] at hf
      refine lv_aload_n hx hb dX2_push_18 rfl (lv_at hl 0 rfl) ?_
      refine g_2_0 X hK hW w0 flRX2_9 dX2_push_19 ?_
      refine lv_aload_n hx hb dX2_push_22 rfl (lv_at hl 0 rfl) ?_
      refine g_2_2 X hK hW w0 flRX2_18 dX2_push_23 ?_
      refine lv_iload_n hx hb dX2_push_26 rfl (lv_at hl 1 rfl) ?_
      obtain ⟨b3, hf⟩ := gd_some hf
      obtain ⟨M4, hM4, hf⟩ := lt1_some hf
      refine as_17 X hK hW hS w0 b3 hM4 dX2_push_27 (fun H locs hW hS => ?_)
      refine lv_aload_n hx hb dX2_push_28 rfl (lv_at hl 0 rfl) ?_
      refine g_2_1 X hK hW w0 flRX2_15 dX2_push_29 ?_
      refine lv_aload_n hx hb dX2_push_32 rfl (lv_at hl 0 rfl) ?_
      refine g_2_2 X hK hW w0 flRX2_18 dX2_push_33 ?_
      refine lv_iload_n hx hb dX2_push_36 rfl (lv_at hl 2 rfl) ?_
      obtain ⟨b5, hf⟩ := gd_some hf
      obtain ⟨M6, hM6, hf⟩ := lt1_some hf
      refine as_18 X hK hW hS w0 b5 hM6 dX2_push_37 (fun H locs hW hS => ?_)
      refine lv_aload_n hx hb dX2_push_38 rfl (lv_at hl 0 rfl) ?_
      refine lv_dup hx hb dX2_push_39 rfl ?_
      refine g_2_2 X hK hW w0 flRX2_18 dX2_push_40 ?_
      refine lv_iconst (v := 1) hx hb dX2_push_43 (by decide) ?_
      refine lv_iadd hx hb dX2_push_44 ?_
      obtain ⟨M7, hM7, hf⟩ := lt1_some hf
      refine p_2_2 X hK hW hS w0 hM7 flRX2_18 dX2_push_45 (fun H locs hW hS => ?_)
      refine lv_iconst (v := 1) hx hb dX2_push_48 (by decide) ?_
      obtain ⟨rfl, rfl⟩ := sp2 hf
      exact e_z ⟨hx, hb, hr, hlk⟩ rfl hW hS dX2_push_49
    · rw [if_neg c2] at hf
      refine lv_iconst (v := 0) hx hb dX2_push_16 (by decide) ?_
      obtain ⟨rfl, rfl⟩ := sp2 hf
      exact e_z ⟨hx, hb, hr, hlk⟩ rfl hW hS dX2_push_17
set_option maxRecDepth 100000 in
set_option maxHeartbeats 4000000 in
theorem k_yX2_push {p : Program} {l : Launch} {e : Env} {R : Room} {s : State} {m : MethodId} {args : Array Value} {below : List Frame} {meth : Method} {c : Code} {H : Heap} {locs : List Loc} {cells slots : Nat} {Q : State → Prop} {cc : ByteArray} {pc nL index : Nat} {ret : Option FieldType} {own : String} {ls : Array Slot} {rest : List Value} {E : Lay} {ad : Nat → Nat → Nat} {M N : Mem} (X : CX p s m args meth c cc nL ret own) (hK : KK E s) (hZ : ZZ E s) (hW : WD E ad (M, N) H) (hS : va_S (ow E) s.heap H locs) (hsz : ls.size = nL) {i0 : Nat} {x1 : Int32} {x2 : Int32} (w0 : i0 < 6) {r : Int32} {Mr : Mem} (hf : f_yX2_push M i0 x1 x2 = some (r, Mr)) (hn : Cond.methodLink own index yX2_push ∈ TB) (hR : 0 + 1 ≤ R.frames ∧ 8 + (3 + 11) + 0 ≤ R.locals) (hC : cells ≤ R.cells ∧ slots ≤ R.slots) (h8 : (rest.map fun v => v.category).sum ≤ 8) (hdg : decode cc pc = .ok (.invokevirtual index, 3)) (kk : ∀ (H1 : Heap) (locs1 : List Loc), WD E ad (Mr, N) H1 → va_S (ow E) s.heap H1 locs1 → W p l e R s m args below meth c H1 locs1 cells slots Q (F0 m (pc + 3) ls (.int r :: rest))) : W p l e R s m args below meth c H locs cells slots Q (F0 m pc ls (.int x2 :: .int x1 :: .ref (ad 7 i0) :: rest)) := by
  refine va_calli (va_runV (C := RX2) (As := [.int x1, .int x2]) (rest := rest) ⟨X.1, X.2.1, X.2.2.1, X.2.2.2.1, X.2.2.2.2.1⟩ (c_yX2_push l E ad M N i0 x1 x2 w0 r Mr hf) (cwV 2 X.2.2.2.2.1 (gV hn im_yX2_push se_yX2_push iniRX2 cd_yX2_push) rfl rfl rfl (by decide +kernel) hR) ⟨fun a U g mk q => ⟨q.1, q.2.calling⟩, va_recv hK.1 (hW.at (c := 7) (i := i0) w0 rfl) (ci := 2) (q0 := 0) rfl rfl, fun U hU hw => ⟨rfl, PB.at hW hK hZ hS hU hw⟩⟩ rfl rfl hsz rfl (lv_room h8) hdg hC) hS (fun _ _ h => h) (fun _ h => h) (fun r' u t H1 locs1 ht hvm hw hB hz1 hk1 hS1 => ?_)
  obtain ⟨rfl, rfl⟩ := hw
  rw [ht] at hB
  exact kk H1 locs1 hB hS1
def f_yX2_placeOf (M : Mem) (i0 : Nat) (x1 : Int32) : Option (Int32) := (if x1 < 0 then (some 0) else (if 8 ≤ x1 then (some 0) else gd (¬ (x1 < 0 ∨ 8 ≤ x1.toNatClampNeg)) ((some (M 17 i0 x1.toNatClampNeg)))))
set_option maxRecDepth 100000 in
set_option maxHeartbeats 4000000 in
theorem c_yX2_placeOf (l : Launch) (E : Lay) (ad : Nat → Nat → Nat) (M N : Mem) (i0 : Nat) (x1 : Int32) (w0 : i0 < 6) (r : Int32) (hf : f_yX2_placeOf M i0 x1 = some r) : Met l yX2_placeOf (Cond.code yX2_placeOf cX2_placeOf 2 (some .int) :: TB) (rmm 0 0) (va_Pc [.ref (ad 7 i0), .int x1] (PB E ad (M, N))) (Qi E ad r (M, N)) 0 0 (ow E) := by
  refine Met.ofW (cc := cX2_placeOf) (maxL := 2) (ret := (some .int)) (by decide) rfl ?_
  intro p e s m args below meth c s₁ B hml hv
  obtain ⟨rfl, hW, hK, hZ⟩ := hv
  have hT : ∀ w ∈ TB, w.before _ s = true := fun w h => atoms_spec (ws := (Cond.code yX2_placeOf cX2_placeOf 2 (some .int) :: TB)) B.pre w (List.mem_cons_of_mem _ h)
  have X : CX p s m _ meth c cX2_placeOf 2 (some .int) RX2 := ⟨B.exec, B.bytes, hml, findClass_of_methodNamed B.named, hT, B.returns, B.notSynchronized⟩
  obtain ⟨hx, hb, hml, hown, hT, hr, hlk⟩ := id X
  have hS : va_S (ow E) s.heap s.heap [] := va_S.rf
  have hl := lv_entry ([.ref (ad 7 i0), .int x1]) (n := 2) (Nat.le_of_ble_eq_true rfl)
  rw [lg_entry_eq]
  generalize (lg_sl ([.ref (ad 7 i0), .int x1]) ++ List.replicate (2 - (lg_sl ([.ref (ad 7 i0), .int x1])).length) Slot.unset).toArray = ls at hl ⊢
  have hl : lv_has ls 2 [(0, .ref (ad 7 i0)), (1, .int x1)] := hl
  unfold f_yX2_placeOf at hf
  refine lv_iload_n hx hb dX2_placeOf_0 rfl (lv_at hl 1 rfl) ?_
  refine lv_if_lt (tgt := 19) hx hb dX2_placeOf_1 (by decide) (fun c1 => ?_) (fun c1 => ?_)
  · rw [if_pos c1] at hf
    refine lv_iconst (v := 0) hx hb dX2_placeOf_19 (by decide) ?_
    obtain rfl := sp1 hf
    exact e_i ⟨hx, hb, hr, hlk⟩ hW hS dX2_placeOf_20
  · rw [if_neg c1] at hf
    refine lv_iload_n hx hb dX2_placeOf_4 rfl (lv_at hl 1 rfl) ?_
    refine lv_bipush (v := 8) hx hb dX2_placeOf_5 (by decide) ?_
    refine lv_icmp_ge (tgt := 19) hx hb dX2_placeOf_7 (by decide) (fun c2 => ?_) (fun c2 => ?_)
    · rw [if_pos c2] at hf
      refine lv_iconst (v := 0) hx hb dX2_placeOf_19 (by decide) ?_
      obtain rfl := sp1 hf
      exact e_i ⟨hx, hb, hr, hlk⟩ hW hS dX2_placeOf_20
    · rw [if_neg c2] at hf
      refine lv_aload_n hx hb dX2_placeOf_10 rfl (lv_at hl 0 rfl) ?_
      refine g_2_0 X hK hW w0 flRX2_9 dX2_placeOf_11 ?_
      refine lv_iload_n hx hb dX2_placeOf_14 rfl (lv_at hl 1 rfl) ?_
      obtain ⟨b3, hf⟩ := gd_some hf
      refine al_17 X hK hW w0 b3 dX2_placeOf_15 ?_
      refine lv_goto (tgt := 20) hx hb dX2_placeOf_16 (by decide) ?_
      obtain rfl := sp1 hf
      exact e_i ⟨hx, hb, hr, hlk⟩ hW hS dX2_placeOf_20
set_option maxRecDepth 100000 in
set_option maxHeartbeats 4000000 in
theorem k_yX2_placeOf {p : Program} {l : Launch} {e : Env} {R : Room} {s : State} {m : MethodId} {args : Array Value} {below : List Frame} {meth : Method} {c : Code} {H : Heap} {locs : List Loc} {cells slots : Nat} {Q : State → Prop} {cc : ByteArray} {pc nL index : Nat} {ret : Option FieldType} {own : String} {ls : Array Slot} {rest : List Value} {E : Lay} {ad : Nat → Nat → Nat} {M N : Mem} (X : CX p s m args meth c cc nL ret own) (hK : KK E s) (hZ : ZZ E s) (hW : WD E ad (M, N) H) (hS : va_S (ow E) s.heap H locs) (hsz : ls.size = nL) {i0 : Nat} {x1 : Int32} (w0 : i0 < 6) {r : Int32} (hf : f_yX2_placeOf M i0 x1 = some r) (hn : Cond.methodLink own index yX2_placeOf ∈ TB) (hR : 0 + 1 ≤ R.frames ∧ 8 + (2 + 11) + 0 ≤ R.locals) (hC : cells ≤ R.cells ∧ slots ≤ R.slots) (h8 : (rest.map fun v => v.category).sum ≤ 8) (hdg : decode cc pc = .ok (.invokevirtual index, 3)) (kk : ∀ (H1 : Heap) (locs1 : List Loc), WD E ad (M, N) H1 → va_S (ow E) s.heap H1 locs1 → W p l e R s m args below meth c H1 locs1 cells slots Q (F0 m (pc + 3) ls (.int r :: rest))) : W p l e R s m args below meth c H locs cells slots Q (F0 m pc ls (.int x1 :: .ref (ad 7 i0) :: rest)) := by
  refine va_calli (va_runV (C := RX2) (As := [.int x1]) (rest := rest) ⟨X.1, X.2.1, X.2.2.1, X.2.2.2.1, X.2.2.2.2.1⟩ (c_yX2_placeOf l E ad M N i0 x1 w0 r hf) (cwV 1 X.2.2.2.2.1 (gV hn im_yX2_placeOf se_yX2_placeOf iniRX2 cd_yX2_placeOf) rfl rfl rfl (by decide +kernel) hR) ⟨fun a U g mk q => ⟨q.1, q.2.calling⟩, va_recv hK.1 (hW.at (c := 7) (i := i0) w0 rfl) (ci := 2) (q0 := 0) rfl rfl, fun U hU hw => ⟨rfl, PB.at hW hK hZ hS hU hw⟩⟩ rfl rfl hsz rfl (lv_room h8) hdg hC) hS (fun _ _ h => h) (fun _ h => h) (fun r' u t H1 locs1 ht hvm hw hB hz1 hk1 hS1 => ?_)
  obtain ⟨rfl, rfl⟩ := hw
  rw [ht] at hB
  exact kk H1 locs1 hB hS1
def f_yX3_mayName (x0 : Int32) (x1 : Int32) : Option (Int32) := (if x0 < 0 then (some 0) else (if x0 < 111 then gd (¬ (x0 < 0 ∨ 111 ≤ x0.toNatClampNeg)) ((if (sc 5 x0.toNatClampNeg) = (-1) then (some 1) else (if x1 < 0 then (some 0) else (if (sc 5 x0.toNatClampNeg) < x1 then (some 0) else (some 1))))) else (some 0)))
set_option maxRecDepth 100000 in
set_option maxHeartbeats 4000000 in
theorem c_yX3_mayName (l : Launch) (E : Lay) (ad : Nat → Nat → Nat) (M N : Mem) (x0 : Int32) (x1 : Int32) (r : Int32) (hf : f_yX3_mayName x0 x1 = some r) : Met l yX3_mayName (Cond.code yX3_mayName cX3_mayName 3 (some .boolean) :: TB) (rmm 0 0) (va_Pc [.int x0, .int x1] (PB E ad (M, N))) (Qi E ad r (M, N)) 0 0 (ow E) := by
  refine Met.ofW (cc := cX3_mayName) (maxL := 3) (ret := (some .boolean)) (by decide) rfl ?_
  intro p e s m args below meth c s₁ B hml hv
  obtain ⟨rfl, hW, hK, hZ⟩ := hv
  have hT : ∀ w ∈ TB, w.before _ s = true := fun w h => atoms_spec (ws := (Cond.code yX3_mayName cX3_mayName 3 (some .boolean) :: TB)) B.pre w (List.mem_cons_of_mem _ h)
  have X : CX p s m _ meth c cX3_mayName 3 (some .boolean) RX3 := ⟨B.exec, B.bytes, hml, findClass_of_methodNamed B.named, hT, B.returns, B.notSynchronized⟩
  obtain ⟨hx, hb, hml, hown, hT, hr, hlk⟩ := id X
  have hS : va_S (ow E) s.heap s.heap [] := va_S.rf
  have hl := lv_entry ([.int x0, .int x1]) (n := 3) (Nat.le_of_ble_eq_true rfl)
  rw [lg_entry_eq]
  generalize (lg_sl ([.int x0, .int x1]) ++ List.replicate (3 - (lg_sl ([.int x0, .int x1])).length) Slot.unset).toArray = ls at hl ⊢
  have hl : lv_has ls 3 [(0, .int x0), (1, .int x1)] := hl
  unfold f_yX3_mayName at hf
  refine lv_iload_n hx hb dX3_mayName_0 rfl (lv_at hl 0 rfl) ?_
  refine lv_if_lt (tgt := 12) hx hb dX3_mayName_1 (by decide) (fun c1 => ?_) (fun c1 => ?_)
  · rw [if_pos c1] at hf
    refine lv_iconst (v := 0) hx hb dX3_mayName_12 (by decide) ?_
    obtain rfl := sp1 hf
    exact e_z ⟨hx, hb, hr, hlk⟩ rfl hW hS dX3_mayName_13
  · rw [if_neg c1] at hf
    refine lv_iload_n hx hb dX3_mayName_4 rfl (lv_at hl 0 rfl) ?_
    refine gs_st X hZ hS (k := 5) (by decide) flRX3_19 dX3_mayName_5 ?_
    refine an_st X hZ hS (k := 5) (v := 111) (by decide) (by decide) dX3_mayName_8 ?_
    refine lv_icmp_lt (tgt := 14) hx hb dX3_mayName_9 (by decide) (fun c2 => ?_) (fun c2 => ?_)
    · rw [if_pos c2] at hf
      refine gs_st X hZ hS (k := 5) (by decide) flRX3_19 dX3_mayName_14 ?_
      refine lv_iload_n hx hb dX3_mayName_17 rfl (lv_at hl 0 rfl) ?_
      obtain ⟨b3, hf⟩ := gd_some hf
      refine al_st X hZ hS (k := 5) (by decide) b3 dX3_mayName_18 ?_
      refine lv_istore_n (lv' := [(2, .int (sc 5 x0.toNatClampNeg)), (0, .int x0), (1, .int x1)]) hx hb dX3_mayName_19 rfl hl (by decide) rfl (fun ls hl => ?_)
      refine lv_iload_n hx hb dX3_mayName_20 rfl (lv_at hl 0 rfl) ?_
      refine lv_iconst (v := -1) hx hb dX3_mayName_21 (by decide) ?_
      refine lv_icmp_eq (tgt := 34) hx hb dX3_mayName_22 (by decide) (fun c4 => ?_) (fun c4 => ?_)
      · rw [if_pos c4] at hf
        refine lv_iconst (v := 1) hx hb dX3_mayName_34 (by decide) ?_
        refine lv_goto (tgt := 39) hx hb dX3_mayName_35 (by decide) ?_
        obtain rfl := sp1 hf
        exact e_z ⟨hx, hb, hr, hlk⟩ rfl hW hS dX3_mayName_39
      · rw [if_neg c4] at hf
        refine lv_iload_n hx hb dX3_mayName_25 rfl (lv_at hl 2 rfl) ?_
        refine lv_if_lt (tgt := 38) hx hb dX3_mayName_26 (by decide) (fun c5 => ?_) (fun c5 => ?_)
        · rw [if_pos c5] at hf
          refine lv_iconst (v := 0) hx hb dX3_mayName_38 (by decide) ?_
          obtain rfl := sp1 hf
          exact e_z ⟨hx, hb, hr, hlk⟩ rfl hW hS dX3_mayName_39
        · rw [if_neg c5] at hf
          refine lv_iload_n hx hb dX3_mayName_29 rfl (lv_at hl 2 rfl) ?_
          refine lv_iload_n hx hb dX3_mayName_30 rfl (lv_at hl 0 rfl) ?_
          refine lv_icmp_gt (tgt := 38) hx hb dX3_mayName_31 (by decide) (fun c6 => ?_) (fun c6 => ?_)
          · rw [if_pos c6] at hf
            refine lv_iconst (v := 0) hx hb dX3_mayName_38 (by decide) ?_
            obtain rfl := sp1 hf
            exact e_z ⟨hx, hb, hr, hlk⟩ rfl hW hS dX3_mayName_39
          · rw [if_neg c6] at hf
            refine lv_iconst (v := 1) hx hb dX3_mayName_34 (by decide) ?_
            refine lv_goto (tgt := 39) hx hb dX3_mayName_35 (by decide) ?_
            obtain rfl := sp1 hf
            exact e_z ⟨hx, hb, hr, hlk⟩ rfl hW hS dX3_mayName_39
    · rw [if_neg c2] at hf
      refine lv_iconst (v := 0) hx hb dX3_mayName_12 (by decide) ?_
      obtain rfl := sp1 hf
      exact e_z ⟨hx, hb, hr, hlk⟩ rfl hW hS dX3_mayName_13
set_option maxRecDepth 100000 in
set_option maxHeartbeats 4000000 in
theorem k_yX3_mayName {p : Program} {l : Launch} {e : Env} {R : Room} {s : State} {m : MethodId} {args : Array Value} {below : List Frame} {meth : Method} {c : Code} {H : Heap} {locs : List Loc} {cells slots : Nat} {Q : State → Prop} {cc : ByteArray} {pc nL index : Nat} {ret : Option FieldType} {own : String} {ls : Array Slot} {rest : List Value} {E : Lay} {ad : Nat → Nat → Nat} {M N : Mem} (X : CX p s m args meth c cc nL ret own) (hK : KK E s) (hZ : ZZ E s) (hW : WD E ad (M, N) H) (hS : va_S (ow E) s.heap H locs) (hsz : ls.size = nL) {x0 : Int32} {x1 : Int32} {r : Int32} (hf : f_yX3_mayName x0 x1 = some r) (hn : Cond.methodLink own index yX3_mayName ∈ TB) (hR : 0 + 1 ≤ R.frames ∧ 8 + (3 + 11) + 0 ≤ R.locals) (hC : cells ≤ R.cells ∧ slots ≤ R.slots) (h8 : (rest.map fun v => v.category).sum ≤ 8) (hdg : decode cc pc = .ok (.invokestatic index, 3)) (kk : ∀ (H1 : Heap) (locs1 : List Loc), WD E ad (M, N) H1 → va_S (ow E) s.heap H1 locs1 → W p l e R s m args below meth c H1 locs1 cells slots Q (F0 m (pc + 3) ls (.int r :: rest))) : W p l e R s m args below meth c H locs cells slots Q (F0 m pc ls (.int x1 :: .int x0 :: rest)) := by
  refine va_calli (va_runS (As := [.int x0, .int x1]) (rest := rest) ⟨X.1, X.2.1, X.2.2.1, X.2.2.2.1, X.2.2.2.2.1⟩ (c_yX3_mayName l E ad M N x0 x1 r hf) (va_cwS 2 X.2.2.2.2.1 (gS hn im_yX3_mayName iniRX3 cd_yX3_mayName) rfl rfl rfl (by decide +kernel) hR) ⟨fun a U g mk q => ⟨q.1, q.2.calling⟩, fun U hU hw => ⟨rfl, PB.at hW hK hZ hS hU hw⟩⟩ rfl rfl hsz rfl (lv_room h8) hdg hC) hS (fun _ _ h => h) (fun _ h => h) (fun r' u t H1 locs1 ht hvm hw hB hz1 hk1 hS1 => ?_)
  obtain ⟨rfl, rfl⟩ := hw
  rw [ht] at hB
  exact kk H1 locs1 hB hS1
set_option maxRecDepth 100000 in
set_option maxHeartbeats 4000000 in
theorem k_yX3_mayNameN {p : Program} {l : Launch} {e : Env} {R : Room} {s : State} {m : MethodId} {args : Array Value} {below : List Frame} {meth : Method} {c : Code} {H : Heap} {locs : List Loc} {cells slots : Nat} {Q : State → Prop} {cc : ByteArray} {pc nL index : Nat} {ret : Option FieldType} {own : String} {ls : Array Slot} {rest : List Value} {E : Lay} {ad : Nat → Nat → Nat} {M N : Mem} (X : CX p s m args meth c cc nL ret own) (hK : KK E s) (hZ : ZZ E s) (hW : WD E ad (M, N) H) (hS : va_S (ow E) s.heap H locs) (hsz : ls.size = nL) {x0 : Int32} {x1 : Int32} {r : Int32} (hf : f_yX3_mayName x0 x1 = some r) (hn : va_Nw (Cond.methodLinkNest own index yX3_mayName "MonitorTurns") s) (hR : 0 + 1 ≤ R.frames ∧ 8 + (3 + 11) + 0 ≤ R.locals) (hC : cells ≤ R.cells ∧ slots ≤ R.slots) (h8 : (rest.map fun v => v.category).sum ≤ 8) (hdg : decode cc pc = .ok (.invokestatic index, 3)) (kk : ∀ (H1 : Heap) (locs1 : List Loc), WD E ad (M, N) H1 → va_S (ow E) s.heap H1 locs1 → W p l e R s m args below meth c H1 locs1 cells slots Q (F0 m (pc + 3) ls (.int r :: rest))) : W p l e R s m args below meth c H locs cells slots Q (F0 m pc ls (.int x1 :: .int x0 :: rest)) := by
  refine va_calli (va_runSN (As := [.int x0, .int x1]) (rest := rest) ⟨X.1, X.2.1, X.2.2.1, X.2.2.2.1, X.2.2.2.2.1⟩ (c_yX3_mayName l E ad M N x0 x1 r hf) ⟨va_cnB 2 X.2.2.2.2.1 (gC cd_yX3_mayName) rfl rfl rfl hn (X.2.2.2.2.1 _ iniRX3) (by decide +kernel) hR, X.2.2.2.2.1 _ im_yX3_mayName, trivial⟩ ⟨fun a U g mk q => ⟨q.1, q.2.calling⟩, fun U hU hw => ⟨rfl, PB.at hW hK hZ hS hU hw⟩⟩ rfl rfl hsz rfl (lv_room h8) hdg hC) hS (fun _ _ h => h) (fun _ h => h) (fun r' u t H1 locs1 ht hvm hw hB hz1 hk1 hS1 => ?_)
  obtain ⟨rfl, rfl⟩ := hw
  rw [ht] at hB
  exact kk H1 locs1 hB hS1
