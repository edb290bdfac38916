def f_yX5_held (M : Mem) (i0 : Nat) (x1 : Int32) : Option (Int32) := ob1 (f_yX8_isSlot x1) (fun r2 => (if r2 = 0 then (some (-4)) else gd (¬ (x1 < 0 ∨ 6 ≤ x1.toNatClampNeg)) ((some (M 16 i0 x1.toNatClampNeg)))))
set_option maxRecDepth 100000 in
set_option maxHeartbeats 4000000 in
theorem c_yX5_held (l : Launch) (E : Lay) (ad : Nat → Nat → Nat) (M N : Mem) (i0 : Nat) (x1 : Int32) (w0 : i0 < 6) (r : Int32) (hf : f_yX5_held M i0 x1 = some r) : Met l yX5_held (Cond.code yX5_held cX5_held 2 (some .int) :: TB) (rmm 1 20) (va_Pc [.ref (ad 6 i0), .int x1] (PB E ad (M, N))) (Qi E ad r (M, N)) 0 0 (ow E) := by
  refine Met.ofW (cc := cX5_held) (maxL := 2) (ret := (some .int)) (by decide) rfl ?_
  intro p e s m args below meth c s₁ B hml hv
  obtain ⟨rfl, hW, hK, hZ⟩ := hv
  have hT : ∀ w ∈ TB, w.before _ s = true := fun w h => atoms_spec (ws := (Cond.code yX5_held cX5_held 2 (some .int) :: TB)) B.pre w (List.mem_cons_of_mem _ h)
  have X : CX p s m _ meth c cX5_held 2 (some .int) RX5 := ⟨B.exec, B.bytes, hml, findClass_of_methodNamed B.named, hT, B.returns, B.notSynchronized⟩
  obtain ⟨hx, hb, hml, hown, hT, hr, hlk⟩ := id X
  have hS : va_S (ow E) s.heap s.heap [] := va_S.rf
  have hl := lv_entry ([.ref (ad 6 i0), .int x1]) (n := 2) (Nat.le_of_ble_eq_true rfl)
  rw [lg_entry_eq]
  generalize (lg_sl ([.ref (ad 6 i0), .int x1]) ++ List.replicate (2 - (lg_sl ([.ref (ad 6 i0), .int x1])).length) Slot.unset).toArray = ls at hl ⊢
  have hl : lv_has ls 2 [(0, .ref (ad 6 i0)), (1, .int x1)] := hl
  unfold f_yX5_held at hf
  refine lv_iload_n hx hb dX5_held_0 rfl (lv_at hl 1 rfl) ?_
  obtain ⟨r2, h1, hf⟩ := ob1_some hf
  refine k_yX8_isSlotN X hK hZ hW hS hl.1 h1 hK.2.2.2.2.2 ⟨Nat.le_of_ble_eq_true rfl, Nat.le_of_ble_eq_true rfl⟩ ⟨Nat.le_of_ble_eq_true rfl, Nat.le_of_ble_eq_true rfl⟩ (Nat.le_of_ble_eq_true rfl) dX5_held_1 (fun H locs hW hS => ?_)
  refine lv_if_eq (tgt := 16) hx hb dX5_held_4 (by decide) (fun c3 => ?_) (fun c3 => ?_)
  · rw [if_pos c3] at hf
    refine lv_bipush (v := -4) hx hb dX5_held_16 (by decide) ?_
    obtain rfl := sp1 hf
    exact e_i ⟨hx, hb, hr, hlk⟩ hW hS dX5_held_18
  · rw [if_neg c3] at hf
    refine lv_aload_n hx hb dX5_held_7 rfl (lv_at hl 0 rfl) ?_
    refine g_5_2 X hK hW w0 flRX5_15 dX5_held_8 ?_
    refine lv_iload_n hx hb dX5_held_11 rfl (lv_at hl 1 rfl) ?_
    obtain ⟨b4, hf⟩ := gd_some hf
    refine al_16 X hK hW w0 b4 dX5_held_12 ?_
    refine lv_goto (tgt := 18) hx hb dX5_held_13 (by decide) ?_
    obtain rfl := sp1 hf
    exact e_i ⟨hx, hb, hr, hlk⟩ hW hS dX5_held_18
set_option maxRecDepth 100000 in
set_option maxHeartbeats 4000000 in
theorem k_yX5_held {p : Program} {l : Launch} {e : Env} {R : Room} {s : State} {m : MethodId} {args : Array Value} {below : List Frame} {meth : Method} {c : Code} {H : Heap} {locs : List Loc} {cells slots : Nat} {Q : State → Prop} {cc : ByteArray} {pc nL index : Nat} {ret : Option FieldType} {own : String} {ls : Array Slot} {rest : List Value} {E : Lay} {ad : Nat → Nat → Nat} {M N : Mem} (X : CX p s m args meth c cc nL ret own) (hK : KK E s) (hZ : ZZ E s) (hW : WD E ad (M, N) H) (hS : va_S (ow E) s.heap H locs) (hsz : ls.size = nL) {i0 : Nat} {x1 : Int32} (w0 : i0 < 6) {r : Int32} (hf : f_yX5_held M i0 x1 = some r) (hn : Cond.methodLink own index yX5_held ∈ TB) (hR : 1 + 1 ≤ R.frames ∧ 8 + (2 + 11) + 20 ≤ R.locals) (hC : cells ≤ R.cells ∧ slots ≤ R.slots) (h8 : (rest.map fun v => v.category).sum ≤ 8) (hdg : decode cc pc = .ok (.invokevirtual index, 3)) (kk : ∀ (H1 : Heap) (locs1 : List Loc), WD E ad (M, N) H1 → va_S (ow E) s.heap H1 locs1 → W p l e R s m args below meth c H1 locs1 cells slots Q (F0 m (pc + 3) ls (.int r :: rest))) : W p l e R s m args below meth c H locs cells slots Q (F0 m pc ls (.int x1 :: .ref (ad 6 i0) :: rest)) := by
  refine va_calli (va_runV (C := RX5) (As := [.int x1]) (rest := rest) ⟨X.1, X.2.1, X.2.2.1, X.2.2.2.1, X.2.2.2.2.1⟩ (c_yX5_held l E ad M N i0 x1 w0 r hf) (cwV 1 X.2.2.2.2.1 (gV hn im_yX5_held se_yX5_held iniRX5 cd_yX5_held) rfl rfl rfl (by decide +kernel) hR) ⟨fun a U g mk q => ⟨q.1, q.2.calling⟩, va_recv hK.1 (hW.at (c := 6) (i := i0) w0 rfl) (ci := 5) (q0 := 0) rfl rfl, fun U hU hw => ⟨rfl, PB.at hW hK hZ hS hU hw⟩⟩ rfl rfl hsz rfl (lv_room h8) hdg hC) hS (fun _ _ h => h) (fun _ h => h) (fun r' u t H1 locs1 ht hvm hw hB hz1 hk1 hS1 => ?_)
  obtain ⟨rfl, rfl⟩ := hw
  rw [ht] at hB
  exact kk H1 locs1 hB hS1
def f_yX5_grasp (M : Mem) (i0 : Nat) (x1 : Int32) (x2 : Int32) : Option Mem := ob1 (f_yX8_isSlot x1) (fun r2 => (if r2 = 0 then (some M) else gd (¬ (x1 < 0 ∨ 6 ≤ x1.toNatClampNeg)) (lt1 (mp M 16 i0 x1.toNatClampNeg x2) (fun M5 => (some M5)))))
set_option maxRecDepth 100000 in
set_option maxHeartbeats 4000000 in
theorem c_yX5_grasp (l : Launch) (E : Lay) (ad : Nat → Nat → Nat) (M N : Mem) (i0 : Nat) (x1 : Int32) (x2 : Int32) (w0 : i0 < 6) (Mr : Mem) (hf : f_yX5_grasp M i0 x1 x2 = some Mr) : Met l yX5_grasp (Cond.code yX5_grasp cX5_grasp 3 none :: TB) (rmm 1 20) (va_Pc [.ref (ad 6 i0), .int x1, .int x2] (PB E ad (M, N))) (Qv E ad (Mr, N)) 0 0 (ow E) := by
  refine Met.ofW (cc := cX5_grasp) (maxL := 3) (ret := none) (by decide) rfl ?_
  intro p e s m args below meth c s₁ B hml hv
  obtain ⟨rfl, hW, hK, hZ⟩ := hv
  have hT : ∀ w ∈ TB, w.before _ s = true := fun w h => atoms_spec (ws := (Cond.code yX5_grasp cX5_grasp 3 none :: TB)) B.pre w (List.mem_cons_of_mem _ h)
  have X : CX p s m _ meth c cX5_grasp 3 none RX5 := ⟨B.exec, B.bytes, hml, findClass_of_methodNamed B.named, hT, B.returns, B.notSynchronized⟩
  obtain ⟨hx, hb, hml, hown, hT, hr, hlk⟩ := id X
  have hS : va_S (ow E) s.heap s.heap [] := va_S.rf
  have hl := lv_entry ([.ref (ad 6 i0), .int x1, .int x2]) (n := 3) (Nat.le_of_ble_eq_true rfl)
  rw [lg_entry_eq]
  generalize (lg_sl ([.ref (ad 6 i0), .int x1, .int x2]) ++ List.replicate (3 - (lg_sl ([.ref (ad 6 i0), .int x1, .int x2])).length) Slot.unset).toArray = ls at hl ⊢
  have hl : lv_has ls 3 [(0, .ref (ad 6 i0)), (1, .int x1), (2, .int x2)] := hl
  unfold f_yX5_grasp at hf
  refine lv_iload_n hx hb dX5_grasp_0 rfl (lv_at hl 1 rfl) ?_
  obtain ⟨r2, h1, hf⟩ := ob1_some hf
  refine k_yX8_isSlotN X hK hZ hW hS hl.1 h1 hK.2.2.2.2.2 ⟨Nat.le_of_ble_eq_true rfl, Nat.le_of_ble_eq_true rfl⟩ ⟨Nat.le_of_ble_eq_true rfl, Nat.le_of_ble_eq_true rfl⟩ (Nat.le_of_ble_eq_true rfl) dX5_grasp_1 (fun H locs hW hS => ?_)
  refine lv_if_eq (tgt := 14) hx hb dX5_grasp_4 (by decide) (fun c3 => ?_) (fun c3 => ?_)
  · rw [if_pos c3] at hf
    obtain rfl := sp1 hf
    exact e_v ⟨hx, hb, hr, hlk⟩ hW hS dX5_grasp_14
  · rw [if_neg c3] at hf
    refine lv_aload_n hx hb dX5_grasp_7 rfl (lv_at hl 0 rfl) ?_
    refine g_5_2 X hK hW w0 flRX5_15 dX5_grasp_8 ?_
    refine lv_iload_n hx hb dX5_grasp_11 rfl (lv_at hl 1 rfl) ?_
    refine lv_iload_n hx hb dX5_grasp_12 rfl (lv_at hl 2 rfl) ?_
    obtain ⟨b4, hf⟩ := gd_some hf
    obtain ⟨M5, hM5, hf⟩ := lt1_some hf
    refine as_16 X hK hW hS w0 b4 hM5 dX5_grasp_13 (fun H locs hW hS => ?_)
    obtain rfl := sp1 hf
    exact e_v ⟨hx, hb, hr, hlk⟩ hW hS dX5_grasp_14
set_option maxRecDepth 100000 in
set_option maxHeartbeats 4000000 in
theorem k_yX5_grasp {p : Program} {l : Launch} {e : Env} {R : Room} {s : State} {m : MethodId} {args : Array Value} {below : List Frame} {meth : Method} {c : Code} {H : Heap} {locs : List Loc} {cells slots : Nat} {Q : State → Prop} {cc : ByteArray} {pc nL index : Nat} {ret : Option FieldType} {own : String} {ls : Array Slot} {rest : List Value} {E : Lay} {ad : Nat → Nat → Nat} {M N : Mem} (X : CX p s m args meth c cc nL ret own) (hK : KK E s) (hZ : ZZ E s) (hW : WD E ad (M, N) H) (hS : va_S (ow E) s.heap H locs) (hsz : ls.size = nL) {i0 : Nat} {x1 : Int32} {x2 : Int32} (w0 : i0 < 6) {Mr : Mem} (hf : f_yX5_grasp M i0 x1 x2 = some Mr) (hn : Cond.methodLink own index yX5_grasp ∈ TB) (hR : 1 + 1 ≤ R.frames ∧ 8 + (3 + 11) + 20 ≤ R.locals) (hC : cells ≤ R.cells ∧ slots ≤ R.slots) (h8 : (rest.map fun v => v.category).sum ≤ 8) (hdg : decode cc pc = .ok (.invokevirtual index, 3)) (kk : ∀ (H1 : Heap) (locs1 : List Loc), WD E ad (Mr, N) H1 → va_S (ow E) s.heap H1 locs1 → W p l e R s m args below meth c H1 locs1 cells slots Q (F0 m (pc + 3) ls (rest))) : W p l e R s m args below meth c H locs cells slots Q (F0 m pc ls (.int x2 :: .int x1 :: .ref (ad 6 i0) :: rest)) := by
  refine va_callv (va_runV (C := RX5) (As := [.int x1, .int x2]) (rest := rest) ⟨X.1, X.2.1, X.2.2.1, X.2.2.2.1, X.2.2.2.2.1⟩ (c_yX5_grasp l E ad M N i0 x1 x2 w0 Mr hf) (cwV 2 X.2.2.2.2.1 (gV hn im_yX5_grasp se_yX5_grasp iniRX5 cd_yX5_grasp) rfl rfl rfl (by decide +kernel) hR) ⟨fun a U g mk q => ⟨q.1, q.2.calling⟩, va_recv hK.1 (hW.at (c := 6) (i := i0) w0 rfl) (ci := 5) (q0 := 0) rfl rfl, fun U hU hw => ⟨rfl, PB.at hW hK hZ hS hU hw⟩⟩ rfl rfl hsz rfl (lv_room h8) hdg hC) hS (fun _ _ h => h) (fun _ h => h) (fun u t H1 locs1 ht hvm hw hB hz1 hk1 hS1 => ?_)
  subst hw
  rw [ht] at hB
  exact kk H1 locs1 hB hS1
def f_yX6_countFailure (M : Mem) (x1 : Int32) (x2 : Int32) : Option Mem := (if x1 < 0 then lt1 (mp M 4 0 0 ((M 4 0 0) + 1)) (fun M2 => (if x2 = 0 then (some M2) else lt1 (mp M2 4 0 1 ((M2 4 0 1) + 1)) (fun M4 => (some M4)))) else (if 12 ≤ x1 then lt1 (mp M 4 0 0 ((M 4 0 0) + 1)) (fun M6 => (if x2 = 0 then (some M6) else lt1 (mp M6 4 0 1 ((M6 4 0 1) + 1)) (fun M8 => (some M8)))) else gd (¬ (x1 < 0 ∨ 12 ≤ x1.toNatClampNeg)) (lt1 (mp M 12 0 x1.toNatClampNeg ((M 12 0 x1.toNatClampNeg) + 1)) (fun M10 => lt1 (mp M10 4 0 0 ((M10 4 0 0) + 1)) (fun M11 => (if x2 = 0 then (some M11) else lt1 (mp M11 4 0 1 ((M11 4 0 1) + 1)) (fun M13 => (some M13))))))))
set_option maxRecDepth 100000 in
set_option maxHeartbeats 4000000 in
theorem c_yX6_countFailure (l : Launch) (E : Lay) (ad : Nat → Nat → Nat) (M N : Mem) (x1 : Int32) (x2 : Int32) (Mr : Mem) (hf : f_yX6_countFailure M x1 x2 = some Mr) : Met l yX6_countFailure (Cond.code yX6_countFailure cX6_countFailure 3 none :: TB) (rmm 0 0) (va_Pc [.ref (ad 4 0), .int x1, .int x2] (PB E ad (M, N))) (Qv E ad (Mr, N)) 0 0 (ow E) := by
  refine Met.ofW (cc := cX6_countFailure) (maxL := 3) (ret := none) (by decide) rfl ?_
  intro p e s m args below meth c s₁ B hml hv
  obtain ⟨rfl, hW, hK, hZ⟩ := hv
  have hT : ∀ w ∈ TB, w.before _ s = true := fun w h => atoms_spec (ws := (Cond.code yX6_countFailure cX6_countFailure 3 none :: TB)) B.pre w (List.mem_cons_of_mem _ h)
  have X : CX p s m _ meth c cX6_countFailure 3 none RX6 := ⟨B.exec, B.bytes, hml, findClass_of_methodNamed B.named, hT, B.returns, B.notSynchronized⟩
  obtain ⟨hx, hb, hml, hown, hT, hr, hlk⟩ := id X
  have hS : va_S (ow E) s.heap s.heap [] := va_S.rf
  have hl := lv_entry ([.ref (ad 4 0), .int x1, .int x2]) (n := 3) (Nat.le_of_ble_eq_true rfl)
  rw [lg_entry_eq]
  generalize (lg_sl ([.ref (ad 4 0), .int x1, .int x2]) ++ List.replicate (3 - (lg_sl ([.ref (ad 4 0), .int x1, .int x2])).length) Slot.unset).toArray = ls at hl ⊢
  have hl : lv_has ls 3 [(0, .ref (ad 4 0)), (1, .int x1), (2, .int x2)] := hl
  unfold f_yX6_countFailure at hf
  refine lv_iload_n hx hb dX6_countFailure_0 rfl (lv_at hl 1 rfl) ?_
  refine lv_if_lt (tgt := 23) hx hb dX6_countFailure_1 (by decide) (fun c1 => ?_) (fun c1 => ?_)
  · rw [if_pos c1] at hf
    refine lv_aload_n hx hb dX6_countFailure_23 rfl (lv_at hl 0 rfl) ?_
    refine lv_dup hx hb dX6_countFailure_24 rfl ?_
    refine g_6_2 X hK hW flRX6_18 dX6_countFailure_25 ?_
    refine lv_iconst (v := 1) hx hb dX6_countFailure_28 (by decide) ?_
    refine lv_iadd hx hb dX6_countFailure_29 ?_
    obtain ⟨M2, hM2, hf⟩ := lt1_some hf
    refine p_6_2 X hK hW hS hM2 flRX6_18 dX6_countFailure_30 (fun H locs hW hS => ?_)
    refine lv_iload_n hx hb dX6_countFailure_33 rfl (lv_at hl 2 rfl) ?_
    refine lv_if_eq (tgt := 47) hx hb dX6_countFailure_34 (by decide) (fun c3 => ?_) (fun c3 => ?_)
    · rw [if_pos c3] at hf
      obtain rfl := sp1 hf
      exact e_v ⟨hx, hb, hr, hlk⟩ hW hS dX6_countFailure_47
    · rw [if_neg c3] at hf
      refine lv_aload_n hx hb dX6_countFailure_37 rfl (lv_at hl 0 rfl) ?_
      refine lv_dup hx hb dX6_countFailure_38 rfl ?_
      refine g_6_3 X hK hW flRX6_22 dX6_countFailure_39 ?_
      refine lv_iconst (v := 1) hx hb dX6_countFailure_42 (by decide) ?_
      refine lv_iadd hx hb dX6_countFailure_43 ?_
      obtain ⟨M4, hM4, hf⟩ := lt1_some hf
      refine p_6_3 X hK hW hS hM4 flRX6_22 dX6_countFailure_44 (fun H locs hW hS => ?_)
      obtain rfl := sp1 hf
      exact e_v ⟨hx, hb, hr, hlk⟩ hW hS dX6_countFailure_47
  · rw [if_neg c1] at hf
    refine lv_iload_n hx hb dX6_countFailure_4 rfl (lv_at hl 1 rfl) ?_
    refine lv_aload_n hx hb dX6_countFailure_5 rfl (lv_at hl 0 rfl) ?_
    refine g_6_0 X hK hW flRX6_9 dX6_countFailure_6 ?_
    refine an_12 X hK hW dX6_countFailure_9 ?_
    refine lv_icmp_ge (tgt := 23) hx hb dX6_countFailure_10 (by decide) (fun c5 => ?_) (fun c5 => ?_)
    · rw [if_pos c5] at hf
      refine lv_aload_n hx hb dX6_countFailure_23 rfl (lv_at hl 0 rfl) ?_
      refine lv_dup hx hb dX6_countFailure_24 rfl ?_
      refine g_6_2 X hK hW flRX6_18 dX6_countFailure_25 ?_
      refine lv_iconst (v := 1) hx hb dX6_countFailure_28 (by decide) ?_
      refine lv_iadd hx hb dX6_countFailure_29 ?_
      obtain ⟨M6, hM6, hf⟩ := lt1_some hf
      refine p_6_2 X hK hW hS hM6 flRX6_18 dX6_countFailure_30 (fun H locs hW hS => ?_)
      refine lv_iload_n hx hb dX6_countFailure_33 rfl (lv_at hl 2 rfl) ?_
      refine lv_if_eq (tgt := 47) hx hb dX6_countFailure_34 (by decide) (fun c7 => ?_) (fun c7 => ?_)
      · rw [if_pos c7] at hf
        obtain rfl := sp1 hf
        exact e_v ⟨hx, hb, hr, hlk⟩ hW hS dX6_countFailure_47
      · rw [if_neg c7] at hf
        refine lv_aload_n hx hb dX6_countFailure_37 rfl (lv_at hl 0 rfl) ?_
        refine lv_dup hx hb dX6_countFailure_38 rfl ?_
        refine g_6_3 X hK hW flRX6_22 dX6_countFailure_39 ?_
        refine lv_iconst (v := 1) hx hb dX6_countFailure_42 (by decide) ?_
        refine lv_iadd hx hb dX6_countFailure_43 ?_
        obtain ⟨M8, hM8, hf⟩ := lt1_some hf
        refine p_6_3 X hK hW hS hM8 flRX6_22 dX6_countFailure_44 (fun H locs hW hS => ?_)
        obtain rfl := sp1 hf
        exact e_v ⟨hx, hb, hr, hlk⟩ hW hS dX6_countFailure_47
    · rw [if_neg c5] at hf
      refine lv_aload_n hx hb dX6_countFailure_13 rfl (lv_at hl 0 rfl) ?_
      refine g_6_0 X hK hW flRX6_9 dX6_countFailure_14 ?_
      refine lv_iload_n hx hb dX6_countFailure_17 rfl (lv_at hl 1 rfl) ?_
      refine lv_dup2_11 hx hb dX6_countFailure_18 rfl rfl ?_
      obtain ⟨b9, hf⟩ := gd_some hf
      refine al_12 X hK hW b9 dX6_countFailure_19 ?_
      refine lv_iconst (v := 1) hx hb dX6_countFailure_20 (by decide) ?_
      refine lv_iadd hx hb dX6_countFailure_21 ?_
      obtain ⟨M10, hM10, hf⟩ := lt1_some hf
      refine as_12 X hK hW hS b9 hM10 dX6_countFailure_22 (fun H locs hW hS => ?_)
      refine lv_aload_n hx hb dX6_countFailure_23 rfl (lv_at hl 0 rfl) ?_
      refine lv_dup hx hb dX6_countFailure_24 rfl ?_
      refine g_6_2 X hK hW flRX6_18 dX6_countFailure_25 ?_
      refine lv_iconst (v := 1) hx hb dX6_countFailure_28 (by decide) ?_
      refine lv_iadd hx hb dX6_countFailure_29 ?_
      obtain ⟨M11, hM11, hf⟩ := lt1_some hf
      refine p_6_2 X hK hW hS hM11 flRX6_18 dX6_countFailure_30 (fun H locs hW hS => ?_)
      refine lv_iload_n hx hb dX6_countFailure_33 rfl (lv_at hl 2 rfl) ?_
      refine lv_if_eq (tgt := 47) hx hb dX6_countFailure_34 (by decide) (fun c12 => ?_) (fun c12 => ?_)
      · rw [if_pos c12] at hf
        obtain rfl := sp1 hf
        exact e_v ⟨hx, hb, hr, hlk⟩ hW hS dX6_countFailure_47
      · rw [if_neg c12] at hf
        refine lv_aload_n hx hb dX6_countFailure_37 rfl (lv_at hl 0 rfl) ?_
        refine lv_dup hx hb dX6_countFailure_38 rfl ?_
        refine g_6_3 X hK hW flRX6_22 dX6_countFailure_39 ?_
        refine lv_iconst (v := 1) hx hb dX6_countFailure_42 (by decide) ?_
        refine lv_iadd hx hb dX6_countFailure_43 ?_
        obtain ⟨M13, hM13, hf⟩ := lt1_some hf
        refine p_6_3 X hK hW hS hM13 flRX6_22 dX6_countFailure_44 (fun H locs hW hS => ?_)
        obtain rfl := sp1 hf
        exact e_v ⟨hx, hb, hr, hlk⟩ hW hS dX6_countFailure_47
set_option maxRecDepth 100000 in
set_option maxHeartbeats 4000000 in
theorem k_yX6_countFailure {p : Program} {l : Launch} {e : Env} {R : Room} {s : State} {m : MethodId} {args : Array Value} {below : List Frame} {meth : Method} {c : Code} {H : Heap} {locs : List Loc} {cells slots : Nat} {Q : State → Prop} {cc : ByteArray} {pc nL index : Nat} {ret : Option FieldType} {own : String} {ls : Array Slot} {rest : List Value} {E : Lay} {ad : Nat → Nat → Nat} {M N : Mem} (X : CX p s m args meth c cc nL ret own) (hK : KK E s) (hZ : ZZ E s) (hW : WD E ad (M, N) H) (hS : va_S (ow E) s.heap H locs) (hsz : ls.size = nL) {x1 : Int32} {x2 : Int32} {Mr : Mem} (hf : f_yX6_countFailure M x1 x2 = some Mr) (hn : Cond.methodLink own index yX6_countFailure ∈ TB) (hR : 0 + 1 ≤ R.frames ∧ 8 + (3 + 11) + 0 ≤ R.locals) (hC : cells ≤ R.cells ∧ slots ≤ R.slots) (h8 : (rest.map fun v => v.category).sum ≤ 8) (hdg : decode cc pc = .ok (.invokevirtual index, 3)) (kk : ∀ (H1 : Heap) (locs1 : List Loc), WD E ad (Mr, N) H1 → va_S (ow E) s.heap H1 locs1 → W p l e R s m args below meth c H1 locs1 cells slots Q (F0 m (pc + 3) ls (rest))) : W p l e R s m args below meth c H locs cells slots Q (F0 m pc ls (.int x2 :: .int x1 :: .ref (ad 4 0) :: rest)) := by
  refine va_callv (va_runV (C := RX6) (As := [.int x1, .int x2]) (rest := rest) ⟨X.1, X.2.1, X.2.2.1, X.2.2.2.1, X.2.2.2.2.1⟩ (c_yX6_countFailure l E ad M N x1 x2 Mr hf) (cwV 2 X.2.2.2.2.1 (gV hn im_yX6_countFailure se_yX6_countFailure iniRX6 cd_yX6_countFailure) rfl rfl rfl (by decide +kernel) hR) ⟨fun a U g mk q => ⟨q.1, q.2.calling⟩, va_recv hK.1 (hW.at (c := 4) (i := 0) Nat.zero_lt_one rfl) (ci := 6) (q0 := 0) rfl rfl, fun U hU hw => ⟨rfl, PB.at hW hK hZ hS hU hw⟩⟩ rfl rfl hsz rfl (lv_room h8) hdg hC) hS (fun _ _ h => h) (fun _ h => h) (fun u t H1 locs1 ht hvm hw hB hz1 hk1 hS1 => ?_)
  subst hw
  rw [ht] at hB
  exact kk H1 locs1 hB hS1
def f_yX7_letIn (M : Mem) (i0 : Nat) (x1 : Int32) (x2 : Int32) : Option Mem := lt1 (mp M 8 i0 2 x1) (fun M1 => lt1 (mp M1 8 i0 3 x2) (fun M3 => (some M3)))
set_option maxRecDepth 100000 in
set_option maxHeartbeats 4000000 in
theorem c_yX7_letIn (l : Launch) (E : Lay) (ad : Nat → Nat → Nat) (M N : Mem) (i0 : Nat) (x1 : Int32) (x2 : Int32) (w0 : i0 < (M 60 0 1).toNatClampNeg) (Mr : Mem) (hf : f_yX7_letIn M i0 x1 x2 = some Mr) : Met l yX7_letIn (Cond.code yX7_letIn cX7_letIn 3 none :: TB) (rmm 0 0) (va_Pc [.ref (ad 8 i0), .int x1, .int x2] (PB E ad (M, N))) (Qv E ad (Mr, N)) 0 0 (ow E) := by
  refine Met.ofW (cc := cX7_letIn) (maxL := 3) (ret := none) (by decide) rfl ?_
  intro p e s m args below meth c s₁ B hml hv
  obtain ⟨rfl, hW, hK, hZ⟩ := hv
  have hT : ∀ w ∈ TB, w.before _ s = true := fun w h => atoms_spec (ws := (Cond.code yX7_letIn cX7_letIn 3 none :: TB)) B.pre w (List.mem_cons_of_mem _ h)
  have X : CX p s m _ meth c cX7_letIn 3 none RX7 := ⟨B.exec, B.bytes, hml, findClass_of_methodNamed B.named, hT, B.returns, B.notSynchronized⟩
  obtain ⟨hx, hb, hml, hown, hT, hr, hlk⟩ := id X
  have hS : va_S (ow E) s.heap s.heap [] := va_S.rf
  have hl := lv_entry ([.ref (ad 8 i0), .int x1, .int x2]) (n := 3) (Nat.le_of_ble_eq_true rfl)
  rw [lg_entry_eq]
  generalize (lg_sl ([.ref (ad 8 i0), .int x1, .int x2]) ++ List.replicate (3 - (lg_sl ([.ref (ad 8 i0), .int x1, .int x2])).length) Slot.unset).toArray = ls at hl ⊢
  have hl : lv_has ls 3 [(0, .ref (ad 8 i0)), (1, .int x1), (2, .int x2)] := hl
  unfold f_yX7_letIn at hf
  refine lv_aload_n hx hb dX7_letIn_0 rfl (lv_at hl 0 rfl) ?_
  refine lv_iload_n hx hb dX7_letIn_1 rfl (lv_at hl 1 rfl) ?_
  obtain ⟨M1, hM1, hf⟩ := lt1_some hf
  have v2 : i0 < (M1 60 0 1).toNatClampNeg := by rw [hM1, mp_ne _ _ (fun q => absurd q.1 (by decide))]; exact w0
  refine p_7_4 X hK hW hS w0 hM1 flRX7_9 dX7_letIn_2 (fun H locs hW hS => ?_)
  refine lv_aload_n hx hb dX7_letIn_5 rfl (lv_at hl 0 rfl) ?_
  refine lv_iload_n hx hb dX7_letIn_6 rfl (lv_at hl 2 rfl) ?_
  obtain ⟨M3, hM3, hf⟩ := lt1_some hf
  have v4 : i0 < (M3 60 0 1).toNatClampNeg := by rw [hM3, mp_ne _ _ (fun q => absurd q.1 (by decide))]; exact v2
  refine p_7_5 X hK hW hS v2 hM3 flRX7_25 dX7_letIn_7 (fun H locs hW hS => ?_)
  obtain rfl := sp1 hf
  exact e_v ⟨hx, hb, hr, hlk⟩ hW hS dX7_letIn_10
set_option maxRecDepth 100000 in
set_option maxHeartbeats 4000000 in
theorem k_yX7_letIn {p : Program} {l : Launch} {e : Env} {R : Room} {s : State} {m : MethodId} {args : Array Value} {below : List Frame} {meth : Method} {c : Code} {H : Heap} {locs : List Loc} {cells slots : Nat} {Q : State → Prop} {cc : ByteArray} {pc nL index : Nat} {ret : Option FieldType} {own : String} {ls : Array Slot} {rest : List Value} {E : Lay} {ad : Nat → Nat → Nat} {M N : Mem} (X : CX p s m args meth c cc nL ret own) (hK : KK E s) (hZ : ZZ E s) (hW : WD E ad (M, N) H) (hS : va_S (ow E) s.heap H locs) (hsz : ls.size = nL) {i0 : Nat} {x1 : Int32} {x2 : Int32} (w0 : i0 < (M 60 0 1).toNatClampNeg) {Mr : Mem} (hf : f_yX7_letIn M i0 x1 x2 = some Mr) (hn : Cond.methodLink own index yX7_letIn ∈ TB) (hR : 0 + 1 ≤ R.frames ∧ 8 + (3 + 11) + 0 ≤ R.locals) (hC : cells ≤ R.cells ∧ slots ≤ R.slots) (h8 : (rest.map fun v => v.category).sum ≤ 8) (hdg : decode cc pc = .ok (.invokevirtual index, 3)) (kk : ∀ (H1 : Heap) (locs1 : List Loc), WD E ad (Mr, N) H1 → va_S (ow E) s.heap H1 locs1 → W p l e R s m args below meth c H1 locs1 cells slots Q (F0 m (pc + 3) ls (rest))) : W p l e R s m args below meth c H locs cells slots Q (F0 m pc ls (.int x2 :: .int x1 :: .ref (ad 8 i0) :: rest)) := by
  refine va_callv (va_runV (C := RX7) (As := [.int x1, .int x2]) (rest := rest) ⟨X.1, X.2.1, X.2.2.1, X.2.2.2.1, X.2.2.2.2.1⟩ (c_yX7_letIn l E ad M N i0 x1 x2 w0 Mr hf) (cwV 2 X.2.2.2.2.1 (gV hn im_yX7_letIn se_yX7_letIn iniRX7 cd_yX7_letIn) rfl rfl rfl (by decide +kernel) hR) ⟨fun a U g mk q => ⟨q.1, q.2.calling⟩, va_recv hK.1 (hW.at (c := 8) (i := i0) w0 rfl) (ci := 7) (q0 := 0) rfl rfl, fun U hU hw => ⟨rfl, PB.at hW hK hZ hS hU hw⟩⟩ rfl rfl hsz rfl (lv_room h8) hdg hC) hS (fun _ _ h => h) (fun _ h => h) (fun u t H1 locs1 ht hvm hw hB hz1 hk1 hS1 => ?_)
  subst hw
  rw [ht] at hB
  exact kk H1 locs1 hB hS1
def f_yX7_isBox (M : Mem) (i0 : Nat) : Option (Int32) := (if (M 8 i0 0) < 1 then (some 0) else (if 3 < (M 8 i0 0) then (some 0) else (some 1)))
set_option maxRecDepth 100000 in
set_option maxHeartbeats 4000000 in
theorem c_yX7_isBox (l : Launch) (E : Lay) (ad : Nat → Nat → Nat) (M N : Mem) (i0 : Nat) (w0 : i0 < (M 60 0 1).toNatClampNeg) (r : Int32) (hf : f_yX7_isBox M i0 = some r) : Met l yX7_isBox (Cond.code yX7_isBox cX7_isBox 1 (some .boolean) :: TB) (rmm 0 0) (va_Pc [.ref (ad 8 i0)] (PB E ad (M, N))) (Qi E ad r (M, N)) 0 0 (ow E) := by
  refine Met.ofW (cc := cX7_isBox) (maxL := 1) (ret := (some .boolean)) (by decide) rfl ?_
  intro p e s m args below meth c s₁ B hml hv
  obtain ⟨rfl, hW, hK, hZ⟩ := hv
  have hT : ∀ w ∈ TB, w.before _ s = true := fun w h => atoms_spec (ws := (Cond.code yX7_isBox cX7_isBox 1 (some .boolean) :: TB)) B.pre w (List.mem_cons_of_mem _ h)
  have X : CX p s m _ meth c cX7_isBox 1 (some .boolean) RX7 := ⟨B.exec, B.bytes, hml, findClass_of_methodNamed B.named, hT, B.returns, B.notSynchronized⟩
  obtain ⟨hx, hb, hml, hown, hT, hr, hlk⟩ := id X
  have hS : va_S (ow E) s.heap s.heap [] := va_S.rf
  have hl := lv_entry ([.ref (ad 8 i0)]) (n := 1) (Nat.le_of_ble_eq_true rfl)
  rw [lg_entry_eq]
  generalize (lg_sl ([.ref (ad 8 i0)]) ++ List.replicate (1 - (lg_sl ([.ref (ad 8 i0)])).length) Slot.unset).toArray = ls at hl ⊢
  have hl : lv_has ls 1 [(0, .ref (ad 8 i0))] := hl
  unfold f_yX7_isBox at hf
  refine lv_aload_n hx hb dX7_isBox_0 rfl (lv_at hl 0 rfl) ?_
  refine g_7_1 X hK hW w0 flRX7_18 dX7_isBox_1 ?_
  refine lv_iconst (v := 1) hx hb dX7_isBox_4 (by decide) ?_
  refine lv_icmp_lt (tgt := 20) hx hb dX7_isBox_5 (by decide) (fun c1 => ?_) (fun c1 => ?_)
  · rw [if_pos c1] at hf
    refine lv_iconst (v := 0) hx hb dX7_isBox_20 (by decide) ?_
    obtain rfl := sp1 hf
    exact e_z ⟨hx, hb, hr, hlk⟩ rfl hW hS dX7_isBox_21
  · rw [if_neg c1] at hf
    refine lv_aload_n hx hb dX7_isBox_8 rfl (lv_at hl 0 rfl) ?_
    refine g_7_1 X hK hW w0 flRX7_18 dX7_isBox_9 ?_
    refine lv_iconst (v := 3) hx hb dX7_isBox_12 (by decide) ?_
    refine lv_icmp_gt (tgt := 20) hx hb dX7_isBox_13 (by decide) (fun c2 => ?_) (fun c2 => ?_)
    · rw [if_pos c2] at hf
      refine lv_iconst (v := 0) hx hb dX7_isBox_20 (by decide) ?_
      obtain rfl := sp1 hf
      exact e_z ⟨hx, hb, hr, hlk⟩ rfl hW hS dX7_isBox_21
    · rw [if_neg c2] at hf
      refine lv_iconst (v := 1) hx hb dX7_isBox_16 (by decide) ?_
      refine lv_goto (tgt := 21) hx hb dX7_isBox_17 (by decide) ?_
      obtain rfl := sp1 hf
      exact e_z ⟨hx, hb, hr, hlk⟩ rfl hW hS dX7_isBox_21
set_option maxRecDepth 100000 in
set_option maxHeartbeats 4000000 in
theorem k_yX7_isBox {p : Program} {l : Launch} {e : Env} {R : Room} {s : State} {m : MethodId} {args : Array Value} {below : List Frame} {meth : Method} {c : Code} {H : Heap} {locs : List Loc} {cells slots : Nat} {Q : State → Prop} {cc : ByteArray} {pc nL index : Nat} {ret : Option FieldType} {own : String} {ls : Array Slot} {rest : List Value} {E : Lay} {ad : Nat → Nat → Nat} {M N : Mem} (X : CX p s m args meth c cc nL ret own) (hK : KK E s) (hZ : ZZ E s) (hW : WD E ad (M, N) H) (hS : va_S (ow E) s.heap H locs) (hsz : ls.size = nL) {i0 : Nat} (w0 : i0 < (M 60 0 1).toNatClampNeg) {r : Int32} (hf : f_yX7_isBox M i0 = some r) (hn : Cond.methodLink own index yX7_isBox ∈ TB) (hR : 0 + 1 ≤ R.frames ∧ 8 + (1 + 11) + 0 ≤ R.locals) (hC : cells ≤ R.cells ∧ slots ≤ R.slots) (h8 : (rest.map fun v => v.category).sum ≤ 8) (hdg : decode cc pc = .ok (.invokevirtual index, 3)) (kk : ∀ (H1 : Heap) (locs1 : List Loc), WD E ad (M, N) H1 → va_S (ow E) s.heap H1 locs1 → W p l e R s m args below meth c H1 locs1 cells slots Q (F0 m (pc + 3) ls (.int r :: rest))) : W p l e R s m args below meth c H locs cells slots Q (F0 m pc ls (.ref (ad 8 i0) :: rest)) := by
  refine va_calli (va_runV (C := RX7) (As := []) (rest := rest) ⟨X.1, X.2.1, X.2.2.1, X.2.2.2.1, X.2.2.2.2.1⟩ (c_yX7_isBox l E ad M N i0 w0 r hf) (cwV 0 X.2.2.2.2.1 (gV hn im_yX7_isBox se_yX7_isBox iniRX7 cd_yX7_isBox) rfl rfl rfl (by decide +kernel) hR) ⟨fun a U g mk q => ⟨q.1, q.2.calling⟩, va_recv hK.1 (hW.at (c := 8) (i := i0) w0 rfl) (ci := 7) (q0 := 0) rfl rfl, fun U hU hw => ⟨rfl, PB.at hW hK hZ hS hU hw⟩⟩ rfl rfl hsz rfl (lv_room h8) hdg hC) hS (fun _ _ h => h) (fun _ h => h) (fun r' u t H1 locs1 ht hvm hw hB hz1 hk1 hS1 => ?_)
  obtain ⟨rfl, rfl⟩ := hw
  rw [ht] at hB
  exact kk H1 locs1 hB hS1
def f_yX7_isCrate (M : Mem) (i0 : Nat) : Option (Int32) := (if (M 8 i0 0) = 2 then (some 1) else (if (M 8 i0 0) = 3 then (some 1) else (some 0)))
set_option maxRecDepth 100000 in
set_option maxHeartbeats 4000000 in
theorem c_yX7_isCrate (l : Launch) (E : Lay) (ad : Nat → Nat → Nat) (M N : Mem) (i0 : Nat) (w0 : i0 < (M 60 0 1).toNatClampNeg) (r : Int32) (hf : f_yX7_isCrate M i0 = some r) : Met l yX7_isCrate (Cond.code yX7_isCrate cX7_isCrate 1 (some .boolean) :: TB) (rmm 0 0) (va_Pc [.ref (ad 8 i0)] (PB E ad (M, N))) (Qi E ad r (M, N)) 0 0 (ow E) := by
  refine Met.ofW (cc := cX7_isCrate) (maxL := 1) (ret := (some .boolean)) (by decide) rfl ?_
  intro p e s m args below meth c s₁ B hml hv
  obtain ⟨rfl, hW, hK, hZ⟩ := hv
  have hT : ∀ w ∈ TB, w.before _ s = true := fun w h => atoms_spec (ws := (Cond.code yX7_isCrate cX7_isCrate 1 (some .boolean) :: TB)) B.pre w (List.mem_cons_of_mem _ h)
  have X : CX p s m _ meth c cX7_isCrate 1 (some .boolean) RX7 := ⟨B.exec, B.bytes, hml, findClass_of_methodNamed B.named, hT, B.returns, B.notSynchronized⟩
  obtain ⟨hx, hb, hml, hown, hT, hr, hlk⟩ := id X
  have hS : va_S (ow E) s.heap s.heap [] := va_S.rf
  have hl := lv_entry ([.ref (ad 8 i0)]) (n := 1) (Nat.le_of_ble_eq_true rfl)
  rw [lg_entry_eq]
  generalize (lg_sl ([.ref (ad 8 i0)]) ++ List.replicate (1 - (lg_sl ([.ref (ad 8 i0)])).length) Slot.unset).toArray = ls at hl ⊢
  have hl : lv_has ls 1 [(0, .ref (ad 8 i0))] := hl
  unfold f_yX7_isCrate at hf
  refine lv_aload_n hx hb dX7_isCrate_0 rfl (lv_at hl 0 rfl) ?_
  refine g_7_1 X hK hW w0 flRX7_18 dX7_isCrate_1 ?_
  refine lv_iconst (v := 2) hx hb dX7_isCrate_4 (by decide) ?_
  refine lv_icmp_eq (tgt := 16) hx hb dX7_isCrate_5 (by decide) (fun c1 => ?_) (fun c1 => ?_)
  · rw [if_pos c1] at hf
    refine lv_iconst (v := 1) hx hb dX7_isCrate_16 (by decide) ?_
    refine lv_goto (tgt := 21) hx hb dX7_isCrate_17 (by decide) ?_
    obtain rfl := sp1 hf
    exact e_z ⟨hx, hb, hr, hlk⟩ rfl hW hS dX7_isCrate_21
  · rw [if_neg c1] at hf
    refine lv_aload_n hx hb dX7_isCrate_8 rfl (lv_at hl 0 rfl) ?_
    refine g_7_1 X hK hW w0 flRX7_18 dX7_isCrate_9 ?_
    refine lv_iconst (v := 3) hx hb dX7_isCrate_12 (by decide) ?_
    refine lv_icmp_ne (tgt := 20) hx hb dX7_isCrate_13 (by decide) (fun c2 => ?_) (fun c2 => ?_)
    · rw [if_neg c2] at hf
      refine lv_iconst (v := 0) hx hb dX7_isCrate_20 (by decide) ?_
      obtain rfl := sp1 hf
      exact e_z ⟨hx, hb, hr, hlk⟩ rfl hW hS dX7_isCrate_21
    · rw [if_pos c2] at hf
      refine lv_iconst (v := 1) hx hb dX7_isCrate_16 (by decide) ?_
      refine lv_goto (tgt := 21) hx hb dX7_isCrate_17 (by decide) ?_
      obtain rfl := sp1 hf
      exact e_z ⟨hx, hb, hr, hlk⟩ rfl hW hS dX7_isCrate_21
set_option maxRecDepth 100000 in
set_option maxHeartbeats 4000000 in
theorem k_yX7_isCrate {p : Program} {l : Launch} {e : Env} {R : Room} {s : State} {m : MethodId} {args : Array Value} {below : List Frame} {meth : Method} {c : Code} {H : Heap} {locs : List Loc} {cells slots : Nat} {Q : State → Prop} {cc : ByteArray} {pc nL index : Nat} {ret : Option FieldType} {own : String} {ls : Array Slot} {rest : List Value} {E : Lay} {ad : Nat → Nat → Nat} {M N : Mem} (X : CX p s m args meth c cc nL ret own) (hK : KK E s) (hZ : ZZ E s) (hW : WD E ad (M, N) H) (hS : va_S (ow E) s.heap H locs) (hsz : ls.size = nL) {i0 : Nat} (w0 : i0 < (M 60 0 1).toNatClampNeg) {r : Int32} (hf : f_yX7_isCrate M i0 = some r) (hn : Cond.methodLink own index yX7_isCrate ∈ TB) (hR : 0 + 1 ≤ R.frames ∧ 8 + (1 + 11) + 0 ≤ R.locals) (hC : cells ≤ R.cells ∧ slots ≤ R.slots) (h8 : (rest.map fun v => v.category).sum ≤ 8) (hdg : decode cc pc = .ok (.invokevirtual index, 3)) (kk : ∀ (H1 : Heap) (locs1 : List Loc), WD E ad (M, N) H1 → va_S (ow E) s.heap H1 locs1 → W p l e R s m args below meth c H1 locs1 cells slots Q (F0 m (pc + 3) ls (.int r :: rest))) : W p l e R s m args below meth c H locs cells slots Q (F0 m pc ls (.ref (ad 8 i0) :: rest)) := by
  refine va_calli (va_runV (C := RX7) (As := []) (rest := rest) ⟨X.1, X.2.1, X.2.2.1, X.2.2.2.1, X.2.2.2.2.1⟩ (c_yX7_isCrate l E ad M N i0 w0 r hf) (cwV 0 X.2.2.2.2.1 (gV hn im_yX7_isCrate se_yX7_isCrate iniRX7 cd_yX7_isCrate) rfl rfl rfl (by decide +kernel) hR) ⟨fun a U g mk q => ⟨q.1, q.2.calling⟩, va_recv hK.1 (hW.at (c := 8) (i := i0) w0 rfl) (ci := 7) (q0 := 0) rfl rfl, fun U hU hw => ⟨rfl, PB.at hW hK hZ hS hU hw⟩⟩ rfl rfl hsz rfl (lv_room h8) hdg hC) hS (fun _ _ h => h) (fun _ h => h) (fun r' u t H1 locs1 ht hvm hw hB hz1 hk1 hS1 => ?_)
  obtain ⟨rfl, rfl⟩ := hw
  rw [ht] at hB
  exact kk H1 locs1 hB hS1
def f_yX7_isRow (M : Mem) (i0 : Nat) : Option (Int32) := (if (M 8 i0 0) < 4 then (some 0) else (some 1))
set_option maxRecDepth 100000 in
set_option maxHeartbeats 4000000 in
theorem c_yX7_isRow (l : Launch) (E : Lay) (ad : Nat → Nat → Nat) (M N : Mem) (i0 : Nat) (w0 : i0 < (M 60 0 1).toNatClampNeg) (r : Int32) (hf : f_yX7_isRow M i0 = some r) : Met l yX7_isRow (Cond.code yX7_isRow cX7_isRow 1 (some .boolean) :: TB) (rmm 0 0) (va_Pc [.ref (ad 8 i0)] (PB E ad (M, N))) (Qi E ad r (M, N)) 0 0 (ow E) := by
  refine Met.ofW (cc := cX7_isRow) (maxL := 1) (ret := (some .boolean)) (by decide) rfl ?_
  intro p e s m args below meth c s₁ B hml hv
  obtain ⟨rfl, hW, hK, hZ⟩ := hv
  have hT : ∀ w ∈ TB, w.before _ s = true := fun w h => atoms_spec (ws := (Cond.code yX7_isRow cX7_isRow 1 (some .boolean) :: TB)) B.pre w (List.mem_cons_of_mem _ h)
  have X : CX p s m _ meth c cX7_isRow 1 (some .boolean) RX7 := ⟨B.exec, B.bytes, hml, findClass_of_methodNamed B.named, hT, B.returns, B.notSynchronized⟩
  obtain ⟨hx, hb, hml, hown, hT, hr, hlk⟩ := id X
  have hS : va_S (ow E) s.heap s.heap [] := va_S.rf
  have hl := lv_entry ([.ref (ad 8 i0)]) (n := 1) (Nat.le_of_ble_eq_true rfl)
  rw [lg_entry_eq]
  generalize (lg_sl ([.ref (ad 8 i0)]) ++ List.replicate (1 - (lg_sl ([.ref (ad 8 i0)])).length) Slot.unset).toArray = ls at hl ⊢
  have hl : lv_has ls 1 [(0, .ref (ad 8 i0))] := hl
  unfold f_yX7_isRow at hf
  refine lv_aload_n hx hb dX7_isRow_0 rfl (lv_at hl 0 rfl) ?_
  refine g_7_1 X hK hW w0 flRX7_18 dX7_isRow_1 ?_
  refine lv_iconst (v := 4) hx hb dX7_isRow_4 (by decide) ?_
  refine lv_icmp_lt (tgt := 12) hx hb dX7_isRow_5 (by decide) (fun c1 => ?_) (fun c1 => ?_)
  · rw [if_pos c1] at hf
    refine lv_iconst (v := 0) hx hb dX7_isRow_12 (by decide) ?_
    obtain rfl := sp1 hf
    exact e_z ⟨hx, hb, hr, hlk⟩ rfl hW hS dX7_isRow_13
  · rw [if_neg c1] at hf
    refine lv_iconst (v := 1) hx hb dX7_isRow_8 (by decide) ?_
    refine lv_goto (tgt := 13) hx hb dX7_isRow_9 (by decide) ?_
    obtain rfl := sp1 hf
    exact e_z ⟨hx, hb, hr, hlk⟩ rfl hW hS dX7_isRow_13
set_option maxRecDepth 100000 in
set_option maxHeartbeats 4000000 in
theorem k_yX7_isRow {p : Program} {l : Launch} {e : Env} {R : Room} {s : State} {m : MethodId} {args : Array Value} {below : List Frame} {meth : Method} {c : Code} {H : Heap} {locs : List Loc} {cells slots : Nat} {Q : State → Prop} {cc : ByteArray} {pc nL index : Nat} {ret : Option FieldType} {own : String} {ls : Array Slot} {rest : List Value} {E : Lay} {ad : Nat → Nat → Nat} {M N : Mem} (X : CX p s m args meth c cc nL ret own) (hK : KK E s) (hZ : ZZ E s) (hW : WD E ad (M, N) H) (hS : va_S (ow E) s.heap H locs) (hsz : ls.size = nL) {i0 : Nat} (w0 : i0 < (M 60 0 1).toNatClampNeg) {r : Int32} (hf : f_yX7_isRow M i0 = some r) (hn : Cond.methodLink own index yX7_isRow ∈ TB) (hR : 0 + 1 ≤ R.frames ∧ 8 + (1 + 11) + 0 ≤ R.locals) (hC : cells ≤ R.cells ∧ slots ≤ R.slots) (h8 : (rest.map fun v => v.category).sum ≤ 8) (hdg : decode cc pc = .ok (.invokevirtual index, 3)) (kk : ∀ (H1 : Heap) (locs1 : List Loc), WD E ad (M, N) H1 → va_S (ow E) s.heap H1 locs1 → W p l e R s m args below meth c H1 locs1 cells slots Q (F0 m (pc + 3) ls (.int r :: rest))) : W p l e R s m args below meth c H locs cells slots Q (F0 m pc ls (.ref (ad 8 i0) :: rest)) := by
  refine va_calli (va_runV (C := RX7) (As := []) (rest := rest) ⟨X.1, X.2.1, X.2.2.1, X.2.2.2.1, X.2.2.2.2.1⟩ (c_yX7_isRow l E ad M N i0 w0 r hf) (cwV 0 X.2.2.2.2.1 (gV hn im_yX7_isRow se_yX7_isRow iniRX7 cd_yX7_isRow) rfl rfl rfl (by decide +kernel) hR) ⟨fun a U g mk q => ⟨q.1, q.2.calling⟩, va_recv hK.1 (hW.at (c := 8) (i := i0) w0 rfl) (ci := 7) (q0 := 0) rfl rfl, fun U hU hw => ⟨rfl, PB.at hW hK hZ hS hU hw⟩⟩ rfl rfl hsz rfl (lv_room h8) hdg hC) hS (fun _ _ h => h) (fun _ h => h) (fun r' u t H1 locs1 ht hvm hw hB hz1 hk1 hS1 => ?_)
  obtain ⟨rfl, rfl⟩ := hw
  rw [ht] at hB
  exact kk H1 locs1 hB hS1
def f_yX7_isRowOfNumbers (M : Mem) (i0 : Nat) : Option (Int32) := (if (M 8 i0 0) = 4 then (some 1) else (if (M 8 i0 0) = 5 then (some 1) else (some 0)))
set_option maxRecDepth 100000 in
set_option maxHeartbeats 4000000 in
theorem c_yX7_isRowOfNumbers (l : Launch) (E : Lay) (ad : Nat → Nat → Nat) (M N : Mem) (i0 : Nat) (w0 : i0 < (M 60 0 1).toNatClampNeg) (r : Int32) (hf : f_yX7_isRowOfNumbers M i0 = some r) : Met l yX7_isRowOfNumbers (Cond.code yX7_isRowOfNumbers cX7_isRowOfNumbers 1 (some .boolean) :: TB) (rmm 0 0) (va_Pc [.ref (ad 8 i0)] (PB E ad (M, N))) (Qi E ad r (M, N)) 0 0 (ow E) := by
  refine Met.ofW (cc := cX7_isRowOfNumbers) (maxL := 1) (ret := (some .boolean)) (by decide) rfl ?_
  intro p e s m args below meth c s₁ B hml hv
  obtain ⟨rfl, hW, hK, hZ⟩ := hv
  have hT : ∀ w ∈ TB, w.before _ s = true := fun w h => atoms_spec (ws := (Cond.code yX7_isRowOfNumbers cX7_isRowOfNumbers 1 (some .boolean) :: TB)) B.pre w (List.mem_cons_of_mem _ h)
  have X : CX p s m _ meth c cX7_isRowOfNumbers 1 (some .boolean) RX7 := ⟨B.exec, B.bytes, hml, findClass_of_methodNamed B.named, hT, B.returns, B.notSynchronized⟩
  obtain ⟨hx, hb, hml, hown, hT, hr, hlk⟩ := id X
  have hS : va_S (ow E) s.heap s.heap [] := va_S.rf
  have hl := lv_entry ([.ref (ad 8 i0)]) (n := 1) (Nat.le_of_ble_eq_true rfl)
  rw [lg_entry_eq]
  generalize (lg_sl ([.ref (ad 8 i0)]) ++ List.replicate (1 - (lg_sl ([.ref (ad 8 i0)])).length) Slot.unset).toArray = ls at hl ⊢
  have hl : lv_has ls 1 [(0, .ref (ad 8 i0))] := hl
  unfold f_yX7_isRowOfNumbers at hf
  refine lv_aload_n hx hb dX7_isRowOfNumbers_0 rfl (lv_at hl 0 rfl) ?_
  refine g_7_1 X hK hW w0 flRX7_18 dX7_isRowOfNumbers_1 ?_
  refine lv_iconst (v := 4) hx hb dX7_isRowOfNumbers_4 (by decide) ?_
  refine lv_icmp_eq (tgt := 16) hx hb dX7_isRowOfNumbers_5 (by decide) (fun c1 => ?_) (fun c1 => ?_)
  · rw [if_pos c1] at hf
    refine lv_iconst (v := 1) hx hb dX7_isRowOfNumbers_16 (by decide) ?_
    refine lv_goto (tgt := 21) hx hb dX7_isRowOfNumbers_17 (by decide) ?_
    obtain rfl := sp1 hf
    exact e_z ⟨hx, hb, hr, hlk⟩ rfl hW hS dX7_isRowOfNumbers_21
  · rw [if_neg c1] at hf
    refine lv_aload_n hx hb dX7_isRowOfNumbers_8 rfl (lv_at hl 0 rfl) ?_
    refine g_7_1 X hK hW w0 flRX7_18 dX7_isRowOfNumbers_9 ?_
    refine lv_iconst (v := 5) hx hb dX7_isRowOfNumbers_12 (by decide) ?_
    refine lv_icmp_ne (tgt := 20) hx hb dX7_isRowOfNumbers_13 (by decide) (fun c2 => ?_) (fun c2 => ?_)
    · rw [if_neg c2] at hf
      refine lv_iconst (v := 0) hx hb dX7_isRowOfNumbers_20 (by decide) ?_
      obtain rfl := sp1 hf
      exact e_z ⟨hx, hb, hr, hlk⟩ rfl hW hS dX7_isRowOfNumbers_21
    · rw [if_pos c2] at hf
      refine lv_iconst (v := 1) hx hb dX7_isRowOfNumbers_16 (by decide) ?_
      refine lv_goto (tgt := 21) hx hb dX7_isRowOfNumbers_17 (by decide) ?_
      obtain rfl := sp1 hf
      exact e_z ⟨hx, hb, hr, hlk⟩ rfl hW hS dX7_isRowOfNumbers_21
set_option maxRecDepth 100000 in
set_option maxHeartbeats 4000000 in
theorem k_yX7_isRowOfNumbers {p : Program} {l : Launch} {e : Env} {R : Room} {s : State} {m : MethodId} {args : Array Value} {below : List Frame} {meth : Method} {c : Code} {H : Heap} {locs : List Loc} {cells slots : Nat} {Q : State → Prop} {cc : ByteArray} {pc nL index : Nat} {ret : Option FieldType} {own : String} {ls : Array Slot} {rest : List Value} {E : Lay} {ad : Nat → Nat → Nat} {M N : Mem} (X : CX p s m args meth c cc nL ret own) (hK : KK E s) (hZ : ZZ E s) (hW : WD E ad (M, N) H) (hS : va_S (ow E) s.heap H locs) (hsz : ls.size = nL) {i0 : Nat} (w0 : i0 < (M 60 0 1).toNatClampNeg) {r : Int32} (hf : f_yX7_isRowOfNumbers M i0 = some r) (hn : Cond.methodLink own index yX7_isRowOfNumbers ∈ TB) (hR : 0 + 1 ≤ R.frames ∧ 8 + (1 + 11) + 0 ≤ R.locals) (hC : cells ≤ R.cells ∧ slots ≤ R.slots) (h8 : (rest.map fun v => v.category).sum ≤ 8) (hdg : decode cc pc = .ok (.invokevirtual index, 3)) (kk : ∀ (H1 : Heap) (locs1 : List Loc), WD E ad (M, N) H1 → va_S (ow E) s.heap H1 locs1 → W p l e R s m args below meth c H1 locs1 cells slots Q (F0 m (pc + 3) ls (.int r :: rest))) : W p l e R s m args below meth c H locs cells slots Q (F0 m pc ls (.ref (ad 8 i0) :: rest)) := by
  refine va_calli (va_runV (C := RX7) (As := []) (rest := rest) ⟨X.1, X.2.1, X.2.2.1, X.2.2.2.1, X.2.2.2.2.1⟩ (c_yX7_isRowOfNumbers l E ad M N i0 w0 r hf) (cwV 0 X.2.2.2.2.1 (gV hn im_yX7_isRowOfNumbers se_yX7_isRowOfNumbers iniRX7 cd_yX7_isRowOfNumbers) rfl rfl rfl (by decide +kernel) hR) ⟨fun a U g mk q => ⟨q.1, q.2.calling⟩, va_recv hK.1 (hW.at (c := 8) (i := i0) w0 rfl) (ci := 7) (q0 := 0) rfl rfl, fun U hU hw => ⟨rfl, PB.at hW hK hZ hS hU hw⟩⟩ rfl rfl hsz rfl (lv_room h8) hdg hC) hS (fun _ _ h => h) (fun _ h => h) (fun r' u t H1 locs1 ht hvm hw hB hz1 hk1 hS1 => ?_)
  obtain ⟨rfl, rfl⟩ := hw
  rw [ht] at hB
  exact kk H1 locs1 hB hS1
def f_yX7_isRowOfThings (M : Mem) (i0 : Nat) : Option (Int32) := (if (M 8 i0 0) = 6 then (some 1) else (if (M 8 i0 0) = 7 then (some 1) else (some 0)))
set_option maxRecDepth 100000 in
set_option maxHeartbeats 4000000 in
theorem c_yX7_isRowOfThings (l : Launch) (E : Lay) (ad : Nat → Nat → Nat) (M N : Mem) (i0 : Nat) (w0 : i0 < (M 60 0 1).toNatClampNeg) (r : Int32) (hf : f_yX7_isRowOfThings M i0 = some r) : Met l yX7_isRowOfThings (Cond.code yX7_isRowOfThings cX7_isRowOfThings 1 (some .boolean) :: TB) (rmm 0 0) (va_Pc [.ref (ad 8 i0)] (PB E ad (M, N))) (Qi E ad r (M, N)) 0 0 (ow E) := by
  refine Met.ofW (cc := cX7_isRowOfThings) (maxL := 1) (ret := (some .boolean)) (by decide) rfl ?_
  intro p e s m args below meth c s₁ B hml hv
  obtain ⟨rfl, hW, hK, hZ⟩ := hv
  have hT : ∀ w ∈ TB, w.before _ s = true := fun w h => atoms_spec (ws := (Cond.code yX7_isRowOfThings cX7_isRowOfThings 1 (some .boolean) :: TB)) B.pre w (List.mem_cons_of_mem _ h)
  have X : CX p s m _ meth c cX7_isRowOfThings 1 (some .boolean) RX7 := ⟨B.exec, B.bytes, hml, findClass_of_methodNamed B.named, hT, B.returns, B.notSynchronized⟩
  obtain ⟨hx, hb, hml, hown, hT, hr, hlk⟩ := id X
  have hS : va_S (ow E) s.heap s.heap [] := va_S.rf
  have hl := lv_entry ([.ref (ad 8 i0)]) (n := 1) (Nat.le_of_ble_eq_true rfl)
  rw [lg_entry_eq]
  generalize (lg_sl ([.ref (ad 8 i0)]) ++ List.replicate (1 - (lg_sl ([.ref (ad 8 i0)])).length) Slot.unset).toArray = ls at hl ⊢
  have hl : lv_has ls 1 [(0, .ref (ad 8 i0))] := hl
  unfold f_yX7_isRowOfThings at hf
  refine lv_aload_n hx hb dX7_isRowOfThings_0 rfl (lv_at hl 0 rfl) ?_
  refine g_7_1 X hK hW w0 flRX7_18 dX7_isRowOfThings_1 ?_
  refine lv_bipush (v := 6) hx hb dX7_isRowOfThings_4 (by decide) ?_
  refine lv_icmp_eq (tgt := 18) hx hb dX7_isRowOfThings_6 (by decide) (fun c1 => ?_) (fun c1 => ?_)
  · rw [if_pos c1] at hf
    refine lv_iconst (v := 1) hx hb dX7_isRowOfThings_18 (by decide) ?_
    refine lv_goto (tgt := 23) hx hb dX7_isRowOfThings_19 (by decide) ?_
    obtain rfl := sp1 hf
    exact e_z ⟨hx, hb, hr, hlk⟩ rfl hW hS dX7_isRowOfThings_23
  · rw [if_neg c1] at hf
    refine lv_aload_n hx hb dX7_isRowOfThings_9 rfl (lv_at hl 0 rfl) ?_
    refine g_7_1 X hK hW w0 flRX7_18 dX7_isRowOfThings_10 ?_
    refine lv_bipush (v := 7) hx hb dX7_isRowOfThings_13 (by decide) ?_
    refine lv_icmp_ne (tgt := 22) hx hb dX7_isRowOfThings_15 (by decide) (fun c2 => ?_) (fun c2 => ?_)
    · rw [if_neg c2] at hf
      refine lv_iconst (v := 0) hx hb dX7_isRowOfThings_22 (by decide) ?_
      obtain rfl := sp1 hf
      exact e_z ⟨hx, hb, hr, hlk⟩ rfl hW hS dX7_isRowOfThings_23
    · rw [if_pos c2] at hf
      refine lv_iconst (v := 1) hx hb dX7_isRowOfThings_18 (by decide) ?_
      refine lv_goto (tgt := 23) hx hb dX7_isRowOfThings_19 (by decide) ?_
      obtain rfl := sp1 hf
      exact e_z ⟨hx, hb, hr, hlk⟩ rfl hW hS dX7_isRowOfThings_23
set_option maxRecDepth 100000 in
set_option maxHeartbeats 4000000 in
theorem k_yX7_isRowOfThings {p : Program} {l : Launch} {e : Env} {R : Room} {s : State} {m : MethodId} {args : Array Value} {below : List Frame} {meth : Method} {c : Code} {H : Heap} {locs : List Loc} {cells slots : Nat} {Q : State → Prop} {cc : ByteArray} {pc nL index : Nat} {ret : Option FieldType} {own : String} {ls : Array Slot} {rest : List Value} {E : Lay} {ad : Nat → Nat → Nat} {M N : Mem} (X : CX p s m args meth c cc nL ret own) (hK : KK E s) (hZ : ZZ E s) (hW : WD E ad (M, N) H) (hS : va_S (ow E) s.heap H locs) (hsz : ls.size = nL) {i0 : Nat} (w0 : i0 < (M 60 0 1).toNatClampNeg) {r : Int32} (hf : f_yX7_isRowOfThings M i0 = some r) (hn : Cond.methodLink own index yX7_isRowOfThings ∈ TB) (hR : 0 + 1 ≤ R.frames ∧ 8 + (1 + 11) + 0 ≤ R.locals) (hC : cells ≤ R.cells ∧ slots ≤ R.slots) (h8 : (rest.map fun v => v.category).sum ≤ 8) (hdg : decode cc pc = .ok (.invokevirtual index, 3)) (kk : ∀ (H1 : Heap) (locs1 : List Loc), WD E ad (M, N) H1 → va_S (ow E) s.heap H1 locs1 → W p l e R s m args below meth c H1 locs1 cells slots Q (F0 m (pc + 3) ls (.int r :: rest))) : W p l e R s m args below meth c H locs cells slots Q (F0 m pc ls (.ref (ad 8 i0) :: rest)) := by
  refine va_calli (va_runV (C := RX7) (As := []) (rest := rest) ⟨X.1, X.2.1, X.2.2.1, X.2.2.2.1, X.2.2.2.2.1⟩ (c_yX7_isRowOfThings l E ad M N i0 w0 r hf) (cwV 0 X.2.2.2.2.1 (gV hn im_yX7_isRowOfThings se_yX7_isRowOfThings iniRX7 cd_yX7_isRowOfThings) rfl rfl rfl (by decide +kernel) hR) ⟨fun a U g mk q => ⟨q.1, q.2.calling⟩, va_recv hK.1 (hW.at (c := 8) (i := i0) w0 rfl) (ci := 7) (q0 := 0) rfl rfl, fun U hU hw => ⟨rfl, PB.at hW hK hZ hS hU hw⟩⟩ rfl rfl hsz rfl (lv_room h8) hdg hC) hS (fun _ _ h => h) (fun _ h => h) (fun r' u t H1 locs1 ht hvm hw hB hz1 hk1 hS1 => ?_)
  obtain ⟨rfl, rfl⟩ := hw
  rw [ht] at hB
  exact kk H1 locs1 hB hS1
def f_yX7_takesFrom (M : Mem) (i0 : Nat) (i1 : Nat) : Option (Int32) := (if (M 8 i0 0) = 4 then (if (M 8 i1 0) = 4 then (some 1) else (if (M 8 i1 0) = 5 then (some 1) else (some 0))) else (if (M 8 i0 0) = 5 then (if (M 8 i1 0) = 5 then (some 1) else (some 0)) else (if (M 8 i1 0) < 6 then (some 0) else (some 1))))
set_option maxRecDepth 100000 in
set_option maxHeartbeats 4000000 in
theorem c_yX7_takesFrom (l : Launch) (E : Lay) (ad : Nat → Nat → Nat) (M N : Mem) (i0 : Nat) (i1 : Nat) (w0 : i0 < (M 60 0 1).toNatClampNeg) (w1 : i1 < (M 60 0 1).toNatClampNeg) (r : Int32) (hf : f_yX7_takesFrom M i0 i1 = some r) : Met l yX7_takesFrom (Cond.code yX7_takesFrom cX7_takesFrom 2 (some .boolean) :: TB) (rmm 0 0) (va_Pc [.ref (ad 8 i0), .ref (ad 8 i1)] (PB E ad (M, N))) (Qi E ad r (M, N)) 0 0 (ow E) := by
  refine Met.ofW (cc := cX7_takesFrom) (maxL := 2) (ret := (some .boolean)) (by decide) rfl ?_
  intro p e s m args below meth c s₁ B hml hv
  obtain ⟨rfl, hW, hK, hZ⟩ := hv
  have hT : ∀ w ∈ TB, w.before _ s = true := fun w h => atoms_spec (ws := (Cond.code yX7_takesFrom cX7_takesFrom 2 (some .boolean) :: TB)) B.pre w (List.mem_cons_of_mem _ h)
  have X : CX p s m _ meth c cX7_takesFrom 2 (some .boolean) RX7 := ⟨B.exec, B.bytes, hml, findClass_of_methodNamed B.named, hT, B.returns, B.notSynchronized⟩
  obtain ⟨hx, hb, hml, hown, hT, hr, hlk⟩ := id X
  have hS : va_S (ow E) s.heap s.heap [] := va_S.rf
  have hl := lv_entry ([.ref (ad 8 i0), .ref (ad 8 i1)]) (n := 2) (Nat.le_of_ble_eq_true rfl)
  rw [lg_entry_eq]
  generalize (lg_sl ([.ref (ad 8 i0), .ref (ad 8 i1)]) ++ List.replicate (2 - (lg_sl ([.ref (ad 8 i0), .ref (ad 8 i1)])).length) Slot.unset).toArray = ls at hl ⊢
  have hl : lv_has ls 2 [(0, .ref (ad 8 i0)), (1, .ref (ad 8 i1))] := hl
  unfold f_yX7_takesFrom at hf
  refine lv_aload_n hx hb dX7_takesFrom_0 rfl (lv_at hl 0 rfl) ?_
  refine g_7_1 X hK hW w0 flRX7_18 dX7_takesFrom_1 ?_
  refine lv_iconst (v := 4) hx hb dX7_takesFrom_4 (by decide) ?_
  refine lv_icmp_ne (tgt := 30) hx hb dX7_takesFrom_5 (by decide) (fun c1 => ?_) (fun c1 => ?_)
  · rw [if_neg c1] at hf
    refine lv_aload_n hx hb dX7_takesFrom_30 rfl (lv_at hl 0 rfl) ?_
    refine g_7_1 X hK hW w0 flRX7_18 dX7_takesFrom_31 ?_
    refine lv_iconst (v := 5) hx hb dX7_takesFrom_34 (by decide) ?_
    refine lv_icmp_ne (tgt := 54) hx hb dX7_takesFrom_35 (by decide) (fun c2 => ?_) (fun c2 => ?_)
    · rw [if_neg c2] at hf
      refine lv_aload_n hx hb dX7_takesFrom_54 rfl (lv_at hl 1 rfl) ?_
      refine g_7_1 X hK hW w1 flRX7_18 dX7_takesFrom_55 ?_
      refine lv_bipush (v := 6) hx hb dX7_takesFrom_58 (by decide) ?_
      refine lv_icmp_lt (tgt := 67) hx hb dX7_takesFrom_60 (by decide) (fun c3 => ?_) (fun c3 => ?_)
      · rw [if_pos c3] at hf
        refine lv_iconst (v := 0) hx hb dX7_takesFrom_67 (by decide) ?_
        obtain rfl := sp1 hf
        exact e_z ⟨hx, hb, hr, hlk⟩ rfl hW hS dX7_takesFrom_68
      · rw [if_neg c3] at hf
        refine lv_iconst (v := 1) hx hb dX7_takesFrom_63 (by decide) ?_
        refine lv_goto (tgt := 68) hx hb dX7_takesFrom_64 (by decide) ?_
        obtain rfl := sp1 hf
        exact e_z ⟨hx, hb, hr, hlk⟩ rfl hW hS dX7_takesFrom_68
    · rw [if_pos c2] at hf
      refine lv_aload_n hx hb dX7_takesFrom_38 rfl (lv_at hl 1 rfl) ?_
      refine g_7_1 X hK hW w1 flRX7_18 dX7_takesFrom_39 ?_
      refine lv_iconst (v := 5) hx hb dX7_takesFrom_42 (by decide) ?_
      refine lv_icmp_ne (tgt := 50) hx hb dX7_takesFrom_43 (by decide) (fun c4 => ?_) (fun c4 => ?_)
      · rw [if_neg c4] at hf
        refine lv_iconst (v := 0) hx hb dX7_takesFrom_50 (by decide) ?_
        refine lv_goto (tgt := 68) hx hb dX7_takesFrom_51 (by decide) ?_
        obtain rfl := sp1 hf
        exact e_z ⟨hx, hb, hr, hlk⟩ rfl hW hS dX7_takesFrom_68
      · rw [if_pos c4] at hf
        refine lv_iconst (v := 1) hx hb dX7_takesFrom_46 (by decide) ?_
        refine lv_goto (tgt := 68) hx hb dX7_takesFrom_47 (by decide) ?_
        obtain rfl := sp1 hf
        exact e_z ⟨hx, hb, hr, hlk⟩ rfl hW hS dX7_takesFrom_68
  · rw [if_pos c1] at hf
    refine lv_aload_n hx hb dX7_takesFrom_8 rfl (lv_at hl 1 rfl) ?_
    refine g_7_1 X hK hW w1 flRX7_18 dX7_takesFrom_9 ?_
    refine lv_iconst (v := 4) hx hb dX7_takesFrom_12 (by decide) ?_
    refine lv_icmp_eq (tgt := 24) hx hb dX7_takesFrom_13 (by decide) (fun c5 => ?_) (fun c5 => ?_)
    · rw [if_pos c5] at hf
      refine lv_iconst (v := 1) hx hb dX7_takesFrom_24 (by decide) ?_
      refine lv_goto (tgt := 29) hx hb dX7_takesFrom_25 (by decide) ?_
      obtain rfl := sp1 hf
      exact e_z ⟨hx, hb, hr, hlk⟩ rfl hW hS dX7_takesFrom_29
    · rw [if_neg c5] at hf
      refine lv_aload_n hx hb dX7_takesFrom_16 rfl (lv_at hl 1 rfl) ?_
      refine g_7_1 X hK hW w1 flRX7_18 dX7_takesFrom_17 ?_
      refine lv_iconst (v := 5) hx hb dX7_takesFrom_20 (by decide) ?_
      refine lv_icmp_ne (tgt := 28) hx hb dX7_takesFrom_21 (by decide) (fun c6 => ?_) (fun c6 => ?_)
      · rw [if_neg c6] at hf
        refine lv_iconst (v := 0) hx hb dX7_takesFrom_28 (by decide) ?_
        obtain rfl := sp1 hf
        exact e_z ⟨hx, hb, hr, hlk⟩ rfl hW hS dX7_takesFrom_29
      · rw [if_pos c6] at hf
        refine lv_iconst (v := 1) hx hb dX7_takesFrom_24 (by decide) ?_
        refine lv_goto (tgt := 29) hx hb dX7_takesFrom_25 (by decide) ?_
        obtain rfl := sp1 hf
        exact e_z ⟨hx, hb, hr, hlk⟩ rfl hW hS dX7_takesFrom_29
set_option maxRecDepth 100000 in
set_option maxHeartbeats 4000000 in
theorem k_yX7_takesFrom {p : Program} {l : Launch} {e : Env} {R : Room} {s : State} {m : MethodId} {args : Array Value} {below : List Frame} {meth : Method} {c : Code} {H : Heap} {locs : List Loc} {cells slots : Nat} {Q : State → Prop} {cc : ByteArray} {pc nL index : Nat} {ret : Option FieldType} {own : String} {ls : Array Slot} {rest : List Value} {E : Lay} {ad : Nat → Nat → Nat} {M N : Mem} (X : CX p s m args meth c cc nL ret own) (hK : KK E s) (hZ : ZZ E s) (hW : WD E ad (M, N) H) (hS : va_S (ow E) s.heap H locs) (hsz : ls.size = nL) {i0 : Nat} {i1 : Nat} (w0 : i0 < (M 60 0 1).toNatClampNeg) (w1 : i1 < (M 60 0 1).toNatClampNeg) {r : Int32} (hf : f_yX7_takesFrom M i0 i1 = some r) (hn : Cond.methodLink own index yX7_takesFrom ∈ TB) (hR : 0 + 1 ≤ R.frames ∧ 8 + (2 + 11) + 0 ≤ R.locals) (hC : cells ≤ R.cells ∧ slots ≤ R.slots) (h8 : (rest.map fun v => v.category).sum ≤ 8) (hdg : decode cc pc = .ok (.invokevirtual index, 3)) (kk : ∀ (H1 : Heap) (locs1 : List Loc), WD E ad (M, N) H1 → va_S (ow E) s.heap H1 locs1 → W p l e R s m args below meth c H1 locs1 cells slots Q (F0 m (pc + 3) ls (.int r :: rest))) : W p l e R s m args below meth c H locs cells slots Q (F0 m pc ls (.ref (ad 8 i1) :: .ref (ad 8 i0) :: rest)) := by
  refine va_calli (va_runV (C := RX7) (As := [.ref (ad 8 i1)]) (rest := rest) ⟨X.1, X.2.1, X.2.2.1, X.2.2.2.1, X.2.2.2.2.1⟩ (c_yX7_takesFrom l E ad M N i0 i1 w0 w1 r hf) (cwV 1 X.2.2.2.2.1 (gV hn im_yX7_takesFrom se_yX7_takesFrom iniRX7 cd_yX7_takesFrom) rfl rfl rfl (by decide +kernel) hR) ⟨fun a U g mk q => ⟨q.1, q.2.calling⟩, va_recv hK.1 (hW.at (c := 8) (i := i0) w0 rfl) (ci := 7) (q0 := 0) rfl rfl, fun U hU hw => ⟨rfl, PB.at hW hK hZ hS hU hw⟩⟩ rfl rfl hsz rfl (lv_room h8) hdg hC) hS (fun _ _ h => h) (fun _ h => h) (fun r' u t H1 locs1 ht hvm hw hB hz1 hk1 hS1 => ?_)
  obtain ⟨rfl, rfl⟩ := hw
  rw [ht] at hB
  exact kk H1 locs1 hB hS1
def f_yX7_hasPlace (M : Mem) (i0 : Nat) (x1 : Int32) : Option (Int32) := (if x1 < 0 then (some 0) else (if (nI (M 8 i0 4).toNatClampNeg) ≤ x1 then (some 0) else (some 1)))
set_option maxRecDepth 100000 in
set_option maxHeartbeats 4000000 in
theorem c_yX7_hasPlace (l : Launch) (E : Lay) (ad : Nat → Nat → Nat) (M N : Mem) (i0 : Nat) (x1 : Int32) (w0 : i0 < (M 60 0 1).toNatClampNeg) (r : Int32) (hf : f_yX7_hasPlace M i0 x1 = some r) : Met l yX7_hasPlace (Cond.code yX7_hasPlace cX7_hasPlace 2 (some .boolean) :: TB) (rmm 0 0) (va_Pc [.ref (ad 8 i0), .int x1] (PB E ad (M, N))) (Qi E ad r (M, N)) 0 0 (ow E) := by
  refine Met.ofW (cc := cX7_hasPlace) (maxL := 2) (ret := (some .boolean)) (by decide) rfl ?_
  intro p e s m args below meth c s₁ B hml hv
  obtain ⟨rfl, hW, hK, hZ⟩ := hv
  have hT : ∀ w ∈ TB, w.before _ s = true := fun w h => atoms_spec (ws := (Cond.code yX7_hasPlace cX7_hasPlace 2 (some .boolean) :: TB)) B.pre w (List.mem_cons_of_mem _ h)
  have X : CX p s m _ meth c cX7_hasPlace 2 (some .boolean) RX7 := ⟨B.exec, B.bytes, hml, findClass_of_methodNamed B.named, hT, B.returns, B.notSynchronized⟩
  obtain ⟨hx, hb, hml, hown, hT, hr, hlk⟩ := id X
  have hS : va_S (ow E) s.heap s.heap [] := va_S.rf
  have hl := lv_entry ([.ref (ad 8 i0), .int x1]) (n := 2) (Nat.le_of_ble_eq_true rfl)
  rw [lg_entry_eq]
  generalize (lg_sl ([.ref (ad 8 i0), .int x1]) ++ List.replicate (2 - (lg_sl ([.ref (ad 8 i0), .int x1])).length) Slot.unset).toArray = ls at hl ⊢
  have hl : lv_has ls 2 [(0, .ref (ad 8 i0)), (1, .int x1)] := hl
  unfold f_yX7_hasPlace at hf
  refine lv_iload_n hx hb dX7_hasPlace_0 rfl (lv_at hl 1 rfl) ?_
  refine lv_if_lt (tgt := 17) hx hb dX7_hasPlace_1 (by decide) (fun c1 => ?_) (fun c1 => ?_)
  · rw [if_pos c1] at hf
    refine lv_iconst (v := 0) hx hb dX7_hasPlace_17 (by decide) ?_
    obtain rfl := sp1 hf
    exact e_z ⟨hx, hb, hr, hlk⟩ rfl hW hS dX7_hasPlace_18
  · rw [if_neg c1] at hf
    refine lv_iload_n hx hb dX7_hasPlace_4 rfl (lv_at hl 1 rfl) ?_
    refine lv_aload_n hx hb dX7_hasPlace_5 rfl (lv_at hl 0 rfl) ?_
    refine g_7_2 X hK hW w0 flRX7_21 dX7_hasPlace_6 ?_
    refine an_19 X hK hW w0 dX7_hasPlace_9 ?_
    refine lv_icmp_ge (tgt := 17) hx hb dX7_hasPlace_10 (by decide) (fun c2 => ?_) (fun c2 => ?_)
    · rw [if_pos c2] at hf
      refine lv_iconst (v := 0) hx hb dX7_hasPlace_17 (by decide) ?_
      obtain rfl := sp1 hf
      exact e_z ⟨hx, hb, hr, hlk⟩ rfl hW hS dX7_hasPlace_18
    · rw [if_neg c2] at hf
      refine lv_iconst (v := 1) hx hb dX7_hasPlace_13 (by decide) ?_
      refine lv_goto (tgt := 18) hx hb dX7_hasPlace_14 (by decide) ?_
      obtain rfl := sp1 hf
      exact e_z ⟨hx, hb, hr, hlk⟩ rfl hW hS dX7_hasPlace_18
set_option maxRecDepth 100000 in
set_option maxHeartbeats 4000000 in
theorem k_yX7_hasPlace {p : Program} {l : Launch} {e : Env} {R : Room} {s : State} {m : MethodId} {args : Array Value} {below : List Frame} {meth : Method} {c : Code} {H : Heap} {locs : List Loc} {cells slots : Nat} {Q : State → Prop} {cc : ByteArray} {pc nL index : Nat} {ret : Option FieldType} {own : String} {ls : Array Slot} {rest : List Value} {E : Lay} {ad : Nat → Nat → Nat} {M N : Mem} (X : CX p s m args meth c cc nL ret own) (hK : KK E s) (hZ : ZZ E s) (hW : WD E ad (M, N) H) (hS : va_S (ow E) s.heap H locs) (hsz : ls.size = nL) {i0 : Nat} {x1 : Int32} (w0 : i0 < (M 60 0 1).toNatClampNeg) {r : Int32} (hf : f_yX7_hasPlace M i0 x1 = some r) (hn : Cond.methodLink own index yX7_hasPlace ∈ TB) (hR : 0 + 1 ≤ R.frames ∧ 8 + (2 + 11) + 0 ≤ R.locals) (hC : cells ≤ R.cells ∧ slots ≤ R.slots) (h8 : (rest.map fun v => v.category).sum ≤ 8) (hdg : decode cc pc = .ok (.invokevirtual index, 3)) (kk : ∀ (H1 : Heap) (locs1 : List Loc), WD E ad (M, N) H1 → va_S (ow E) s.heap H1 locs1 → W p l e R s m args below meth c H1 locs1 cells slots Q (F0 m (pc + 3) ls (.int r :: rest))) : W p l e R s m args below meth c H locs cells slots Q (F0 m pc ls (.int x1 :: .ref (ad 8 i0) :: rest)) := by
  refine va_calli (va_runV (C := RX7) (As := [.int x1]) (rest := rest) ⟨X.1, X.2.1, X.2.2.1, X.2.2.2.1, X.2.2.2.2.1⟩ (c_yX7_hasPlace l E ad M N i0 x1 w0 r hf) (cwV 1 X.2.2.2.2.1 (gV hn im_yX7_hasPlace se_yX7_hasPlace iniRX7 cd_yX7_hasPlace) rfl rfl rfl (by decide +kernel) hR) ⟨fun a U g mk q => ⟨q.1, q.2.calling⟩, va_recv hK.1 (hW.at (c := 8) (i := i0) w0 rfl) (ci := 7) (q0 := 0) rfl rfl, fun U hU hw => ⟨rfl, PB.at hW hK hZ hS hU hw⟩⟩ rfl rfl hsz rfl (lv_room h8) hdg hC) hS (fun _ _ h => h) (fun _ h => h) (fun r' u t H1 locs1 ht hvm hw hB hz1 hk1 hS1 => ?_)
  obtain ⟨rfl, rfl⟩ := hw
  rw [ht] at hB
  exact kk H1 locs1 hB hS1
def f_yJ9_floorMod_7cf53 (x0 : Int32) (x1 : Int32) : Option (Int32) := gd (¬ x1 = 0) ((if 0 ≤ (x0 ^^^ x1) then (some (x0 - x0 / x1 * x1)) else (if (x0 - x0 / x1 * x1) = 0 then (some (x0 - x0 / x1 * x1)) else (some ((x0 - x0 / x1 * x1) + x1)))))
set_option maxRecDepth 100000 in
set_option maxHeartbeats 4000000 in
theorem c_yJ9_floorMod_7cf53 (l : Launch) (E : Lay) (ad : Nat → Nat → Nat) (M N : Mem) (x0 : Int32) (x1 : Int32) (r : Int32) (hf : f_yJ9_floorMod_7cf53 x0 x1 = some r) : Met l yJ9_floorMod_7cf53 (Cond.code yJ9_floorMod_7cf53 cJ9_floorMod_7cf53 3 (some .int) :: TB) (rmm 0 0) (va_Pc [.int x0, .int x1] (PB E ad (M, N))) (Qi E ad r (M, N)) 0 0 (ow E) := by
  refine Met.ofF (cc := cJ9_floorMod_7cf53) (maxL := 3) (ret := (some .int)) (by decide +kernel) rfl ?_
  intro p e s m args below meth c s₁ B hml hv
  obtain ⟨rfl, hW, hK, hZ⟩ := hv
  have hT : ∀ w ∈ TB, w.before _ s = true := fun w h => atoms_spec (ws := (Cond.code yJ9_floorMod_7cf53 cJ9_floorMod_7cf53 3 (some .int) :: TB)) B.pre w (List.mem_cons_of_mem _ h)
  have X : CX p s m _ meth c cJ9_floorMod_7cf53 3 (some .int) RJ9 := ⟨B.exec, B.bytes, hml, findClass_of_methodNamed B.named, hT, B.returns, B.notSynchronized⟩
  obtain ⟨hx, hb, hml, hown, hT, hr, hlk⟩ := id X
  have hS : va_S (ow E) s.heap s.heap [] := va_S.rf
  have hl := lv_entry ([.int x0, .int x1]) (n := 3) (Nat.le_of_ble_eq_true rfl)
  rw [lg_entry_eq]
  generalize (lg_sl ([.int x0, .int x1]) ++ List.replicate (3 - (lg_sl ([.int x0, .int x1])).length) Slot.unset).toArray = ls at hl ⊢
  have hl : lv_has ls 3 [(0, .int x0), (1, .int x1)] := hl
  unfold f_yJ9_floorMod_7cf53 at hf
  refine lv_iload_n hx hb dJ9_floorMod_7cf53_0 rfl (lv_at hl 0 rfl) ?_
  refine lv_iload_n hx hb dJ9_floorMod_7cf53_1 rfl (lv_at hl 1 rfl) ?_
  obtain ⟨q1, hf⟩ := gd_some hf
  refine lv_irem hx hb dJ9_floorMod_7cf53_2 q1 ?_
  refine lv_istore_n (lv' := [(2, .int (x0 - x0 / x1 * x1)), (0, .int x0), (1, .int x1)]) hx hb dJ9_floorMod_7cf53_3 rfl hl (by decide) rfl (fun ls hl => ?_)
  refine lv_iload_n hx hb dJ9_floorMod_7cf53_4 rfl (lv_at hl 1 rfl) ?_
  refine lv_iload_n hx hb dJ9_floorMod_7cf53_5 rfl (lv_at hl 2 rfl) ?_
  refine lv_ixor hx hb dJ9_floorMod_7cf53_6 ?_
  refine lv_if_ge (tgt := 18) hx hb dJ9_floorMod_7cf53_7 (by decide) (fun c2 => ?_) (fun c2 => ?_)
  · rw [if_pos c2] at hf
    refine lv_iload_n hx hb dJ9_floorMod_7cf53_18 rfl (lv_at hl 0 rfl) ?_
    obtain rfl := sp1 hf
    exact e_i ⟨hx, hb, hr, hlk⟩ hW hS dJ9_floorMod_7cf53_19
  · rw [if_neg c2] at hf
    refine lv_iload_n hx hb dJ9_floorMod_7cf53_10 rfl (lv_at hl 0 rfl) ?_
    refine lv_if_eq (tgt := 18) hx hb dJ9_floorMod_7cf53_11 (by decide) (fun c3 => ?_) (fun c3 => ?_)
    · rw [if_pos c3] at hf
      refine lv_iload_n hx hb dJ9_floorMod_7cf53_18 rfl (lv_at hl 0 rfl) ?_
      obtain rfl := sp1 hf
      exact e_i ⟨hx, hb, hr, hlk⟩ hW hS dJ9_floorMod_7cf53_19
    · rw [if_neg c3] at hf
      refine lv_iload_n hx hb dJ9_floorMod_7cf53_14 rfl (lv_at hl 0 rfl) ?_
      refine lv_iload_n hx hb dJ9_floorMod_7cf53_15 rfl (lv_at hl 2 rfl) ?_
      refine lv_iadd hx hb dJ9_floorMod_7cf53_16 ?_
      obtain rfl := sp1 hf
      exact e_i ⟨hx, hb, hr, hlk⟩ hW hS dJ9_floorMod_7cf53_17
set_option maxRecDepth 100000 in
set_option maxHeartbeats 4000000 in
theorem k_yJ9_floorMod_7cf53 {p : Program} {l : Launch} {e : Env} {R : Room} {s : State} {m : MethodId} {args : Array Value} {below : List Frame} {meth : Method} {c : Code} {H : Heap} {locs : List Loc} {cells slots : Nat} {Q : State → Prop} {cc : ByteArray} {pc nL index : Nat} {ret : Option FieldType} {own : String} {ls : Array Slot} {rest : List Value} {E : Lay} {ad : Nat → Nat → Nat} {M N : Mem} (X : CX p s m args meth c cc nL ret own) (hK : KK E s) (hZ : ZZ E s) (hW : WD E ad (M, N) H) (hS : va_S (ow E) s.heap H locs) (hsz : ls.size = nL) {x0 : Int32} {x1 : Int32} {r : Int32} (hf : f_yJ9_floorMod_7cf53 x0 x1 = some r) (hn : Cond.methodLink own index yJ9_floorMod_7cf53 ∈ TB) (hR : 0 + 1 ≤ R.frames ∧ 8 + (3 + 11) + 0 ≤ R.locals) (hC : cells ≤ R.cells ∧ slots ≤ R.slots) (h8 : (rest.map fun v => v.category).sum ≤ 8) (hdg : decode cc pc = .ok (.invokestatic index, 3)) (kk : ∀ (H1 : Heap) (locs1 : List Loc), WD E ad (M, N) H1 → va_S (ow E) s.heap H1 locs1 → W p l e R s m args below meth c H1 locs1 cells slots Q (F0 m (pc + 3) ls (.int r :: rest))) : W p l e R s m args below meth c H locs cells slots Q (F0 m pc ls (.int x1 :: .int x0 :: rest)) := by
  refine va_calli (va_runS (As := [.int x0, .int x1]) (rest := rest) ⟨X.1, X.2.1, X.2.2.1, X.2.2.2.1, X.2.2.2.2.1⟩ (c_yJ9_floorMod_7cf53 l E ad M N x0 x1 r hf) (va_cwS 2 X.2.2.2.2.1 (gS hn im_yJ9_floorMod_7cf53 iniRJ9 cd_yJ9_floorMod_7cf53) rfl rfl rfl (by decide +kernel) hR) ⟨fun a U g mk q => ⟨q.1, q.2.calling⟩, fun U hU hw => ⟨rfl, PB.at hW hK hZ hS hU hw⟩⟩ rfl rfl hsz rfl (lv_room h8) hdg hC) hS (fun _ _ h => h) (fun _ h => h) (fun r' u t H1 locs1 ht hvm hw hB hz1 hk1 hS1 => ?_)
  obtain ⟨rfl, rfl⟩ := hw
  rw [ht] at hB
  exact kk H1 locs1 hB hS1
