def f_yX3_append (M : Mem) (i0 : Nat) (x1 : Int32) (x2 : Int32) (x3 : Int32) (x4 : Int32) : Option Mem := (if ((M 5 i0 0) * 4) < 0 then (some M) else (if (((M 5 i0 0) * 4) + 4) ≤ 160 then gd (¬ (((M 5 i0 0) * 4) < 0 ∨ 160 ≤ ((M 5 i0 0) * 4).toNatClampNeg)) (lt1 (mp M 14 i0 ((M 5 i0 0) * 4).toNatClampNeg x1) (fun M4 => gd (¬ ((((M 5 i0 0) * 4) + 1) < 0 ∨ 160 ≤ (((M 5 i0 0) * 4) + 1).toNatClampNeg)) (lt1 (mp M4 14 i0 (((M 5 i0 0) * 4) + 1).toNatClampNeg x2) (fun M6 => gd (¬ ((((M 5 i0 0) * 4) + 2) < 0 ∨ 160 ≤ (((M 5 i0 0) * 4) + 2).toNatClampNeg)) (lt1 (mp M6 14 i0 (((M 5 i0 0) * 4) + 2).toNatClampNeg x3) (fun M8 => gd (¬ ((((M 5 i0 0) * 4) + 3) < 0 ∨ 160 ≤ (((M 5 i0 0) * 4) + 3).toNatClampNeg)) (lt1 (mp M8 14 i0 (((M 5 i0 0) * 4) + 3).toNatClampNeg x4) (fun M10 => lt1 (mp M10 5 i0 0 ((M10 5 i0 0) + 1)) (fun M11 => (some M11)))))))))) else (some M)))
set_option maxRecDepth 100000 in
set_option maxHeartbeats 4000000 in
theorem c_yX3_append (l : Launch) (E : Lay) (ad : Nat → Nat → Nat) (M N : Mem) (i0 : Nat) (x1 : Int32) (x2 : Int32) (x3 : Int32) (x4 : Int32) (w0 : i0 < 8) (Mr : Mem) (hf : f_yX3_append M i0 x1 x2 x3 x4 = some Mr) : Met l yX3_append (Cond.code yX3_append cX3_append 6 none :: TB) (rmm 0 0) (va_Pc [.ref (ad 5 i0), .int x1, .int x2, .int x3, .int x4] (PB E ad (M, N))) (Qv E ad (Mr, N)) 0 0 (ow E) := by
  refine Met.ofW (cc := cX3_append) (maxL := 6) (ret := none) (by decide) rfl ?_
  intro p e s m args below meth c s₁ B hml hv
  obtain ⟨rfl, hW, hK, hZ⟩ := hv
  have hT : ∀ w ∈ TB, w.before _ s = true := fun w h => atoms_spec (ws := (Cond.code yX3_append cX3_append 6 none :: TB)) B.pre w (List.mem_cons_of_mem _ h)
  have X : CX p s m _ meth c cX3_append 6 none RX3 := ⟨B.exec, B.bytes, hml, findClass_of_methodNamed B.named, hT, B.returns, B.notSynchronized⟩
  obtain ⟨hx, hb, hml, hown, hT, hr, hlk⟩ := id X
  have hS : va_S (ow E) s.heap s.heap [] := va_S.rf
  have hl := lv_entry ([.ref (ad 5 i0), .int x1, .int x2, .int x3, .int x4]) (n := 6) (Nat.le_of_ble_eq_true rfl)
  rw [lg_entry_eq]
  generalize (lg_sl ([.ref (ad 5 i0), .int x1, .int x2, .int x3, .int x4]) ++ List.replicate (6 - (lg_sl ([.ref (ad 5 i0), .int x1, .int x2, .int x3, .int x4])).length) Slot.unset).toArray = ls at hl ⊢
  have hl : lv_has ls 6 [(0, .ref (ad 5 i0)), (1, .int x1), (2, .int x2), (3, .int x3), (4, .int x4)] := hl
  unfold f_yX3_append at hf
  refine lv_aload_n hx hb dX3_append_0 rfl (lv_at hl 0 rfl) ?_
  refine g_3_1 X hK hW w0 flRX3_22 dX3_append_1 ?_
  refine lv_iconst (v := 4) hx hb dX3_append_4 (by decide) ?_
  refine lv_imul hx hb dX3_append_5 ?_
  refine lv_istore (lv' := [(5, .int ((M 5 i0 0) * 4)), (0, .ref (ad 5 i0)), (1, .int x1), (2, .int x2), (3, .int x3), (4, .int x4)]) hx hb dX3_append_6 hl (by decide) rfl (fun ls hl => ?_)
  refine lv_iload hx hb dX3_append_8 (lv_at hl 0 rfl) ?_
  refine lv_if_lt (tgt := 25) hx hb dX3_append_10 (by decide) (fun c1 => ?_) (fun c1 => ?_)
  · rw [if_pos c1] at hf
    obtain rfl := sp1 hf
    exact e_v ⟨hx, hb, hr, hlk⟩ hW hS dX3_append_25
  · rw [if_neg c1] at hf
    refine lv_iload hx hb dX3_append_13 (lv_at hl 0 rfl) ?_
    refine lv_iconst (v := 4) hx hb dX3_append_15 (by decide) ?_
    refine lv_iadd hx hb dX3_append_16 ?_
    refine lv_aload_n hx hb dX3_append_17 rfl (lv_at hl 1 rfl) ?_
    refine g_3_0 X hK hW w0 flRX3_11 dX3_append_18 ?_
    refine an_14 X hK hW w0 dX3_append_21 ?_
    refine lv_icmp_le (tgt := 26) hx hb dX3_append_22 (by decide) (fun c2 => ?_) (fun c2 => ?_)
    · rw [if_pos c2] at hf
      refine lv_aload_n hx hb dX3_append_26 rfl (lv_at hl 1 rfl) ?_
      refine g_3_0 X hK hW w0 flRX3_11 dX3_append_27 ?_
      refine lv_iload hx hb dX3_append_30 (lv_at hl 0 rfl) ?_
      refine lv_iload_n hx hb dX3_append_32 rfl (lv_at hl 2 rfl) ?_
      obtain ⟨b3, hf⟩ := gd_some hf
      obtain ⟨M4, hM4, hf⟩ := lt1_some hf
      refine as_14 X hK hW hS w0 b3 hM4 dX3_append_33 (fun H locs hW hS => ?_)
      refine lv_aload_n hx hb dX3_append_34 rfl (lv_at hl 1 rfl) ?_
      refine g_3_0 X hK hW w0 flRX3_11 dX3_append_35 ?_
      refine lv_iload hx hb dX3_append_38 (lv_at hl 0 rfl) ?_
      refine lv_iconst (v := 1) hx hb dX3_append_40 (by decide) ?_
      refine lv_iadd hx hb dX3_append_41 ?_
      refine lv_iload_n hx hb dX3_append_42 rfl (lv_at hl 3 rfl) ?_
      obtain ⟨b5, hf⟩ := gd_some hf
      obtain ⟨M6, hM6, hf⟩ := lt1_some hf
      refine as_14 X hK hW hS w0 b5 hM6 dX3_append_43 (fun H locs hW hS => ?_)
      refine lv_aload_n hx hb dX3_append_44 rfl (lv_at hl 1 rfl) ?_
      refine g_3_0 X hK hW w0 flRX3_11 dX3_append_45 ?_
      refine lv_iload hx hb dX3_append_48 (lv_at hl 0 rfl) ?_
      refine lv_iconst (v := 2) hx hb dX3_append_50 (by decide) ?_
      refine lv_iadd hx hb dX3_append_51 ?_
      refine lv_iload_n hx hb dX3_append_52 rfl (lv_at hl 4 rfl) ?_
      obtain ⟨b7, hf⟩ := gd_some hf
      obtain ⟨M8, hM8, hf⟩ := lt1_some hf
      refine as_14 X hK hW hS w0 b7 hM8 dX3_append_53 (fun H locs hW hS => ?_)
      refine lv_aload_n hx hb dX3_append_54 rfl (lv_at hl 1 rfl) ?_
      refine g_3_0 X hK hW w0 flRX3_11 dX3_append_55 ?_
      refine lv_iload hx hb dX3_append_58 (lv_at hl 0 rfl) ?_
      refine lv_iconst (v := 3) hx hb dX3_append_60 (by decide) ?_
      refine lv_iadd hx hb dX3_append_61 ?_
      refine lv_iload hx hb dX3_append_62 (lv_at hl 5 rfl) ?_
      obtain ⟨b9, hf⟩ := gd_some hf
      obtain ⟨M10, hM10, hf⟩ := lt1_some hf
      refine as_14 X hK hW hS w0 b9 hM10 dX3_append_64 (fun H locs hW hS => ?_)
      refine lv_aload_n hx hb dX3_append_65 rfl (lv_at hl 1 rfl) ?_
      refine lv_dup hx hb dX3_append_66 rfl ?_
      refine g_3_1 X hK hW w0 flRX3_22 dX3_append_67 ?_
      refine lv_iconst (v := 1) hx hb dX3_append_70 (by decide) ?_
      refine lv_iadd hx hb dX3_append_71 ?_
      obtain ⟨M11, hM11, hf⟩ := lt1_some hf
      refine p_3_1 X hK hW hS w0 hM11 flRX3_22 dX3_append_72 (fun H locs hW hS => ?_)
      obtain rfl := sp1 hf
      exact e_v ⟨hx, hb, hr, hlk⟩ hW hS dX3_append_75
    · rw [if_neg c2] at hf
      obtain rfl := sp1 hf
      exact e_v ⟨hx, hb, hr, hlk⟩ hW hS dX3_append_25
set_option maxRecDepth 100000 in
set_option maxHeartbeats 4000000 in
theorem k_yX3_append {p : Program} {l : Launch} {e : Env} {R : Room} {s : State} {m : MethodId} {args : Array Value} {below : List Frame} {meth : Method} {c : Code} {H : Heap} {locs : List Loc} {cells slots : Nat} {Q : State → Prop} {cc : ByteArray} {pc nL index : Nat} {ret : Option FieldType} {own : String} {ls : Array Slot} {rest : List Value} {E : Lay} {ad : Nat → Nat → Nat} {M N : Mem} (X : CX p s m args meth c cc nL ret own) (hK : KK E s) (hZ : ZZ E s) (hW : WD E ad (M, N) H) (hS : va_S (ow E) s.heap H locs) (hsz : ls.size = nL) {i0 : Nat} {x1 : Int32} {x2 : Int32} {x3 : Int32} {x4 : Int32} (w0 : i0 < 8) {Mr : Mem} (hf : f_yX3_append M i0 x1 x2 x3 x4 = some Mr) (hn : Cond.methodLink own index yX3_append ∈ TB) (hR : 0 + 1 ≤ R.frames ∧ 8 + (6 + 11) + 0 ≤ R.locals) (hC : cells ≤ R.cells ∧ slots ≤ R.slots) (h8 : (rest.map fun v => v.category).sum ≤ 8) (hdg : decode cc pc = .ok (.invokevirtual index, 3)) (kk : ∀ (H1 : Heap) (locs1 : List Loc), WD E ad (Mr, N) H1 → va_S (ow E) s.heap H1 locs1 → W p l e R s m args below meth c H1 locs1 cells slots Q (F0 m (pc + 3) ls (rest))) : W p l e R s m args below meth c H locs cells slots Q (F0 m pc ls (.int x4 :: .int x3 :: .int x2 :: .int x1 :: .ref (ad 5 i0) :: rest)) := by
  refine va_callv (va_runV (C := RX3) (As := [.int x1, .int x2, .int x3, .int x4]) (rest := rest) ⟨X.1, X.2.1, X.2.2.1, X.2.2.2.1, X.2.2.2.2.1⟩ (c_yX3_append l E ad M N i0 x1 x2 x3 x4 w0 Mr hf) (cwV 4 X.2.2.2.2.1 (gV hn im_yX3_append se_yX3_append iniRX3 cd_yX3_append) rfl rfl rfl (by decide +kernel) hR) ⟨fun a U g mk q => ⟨q.1, q.2.calling⟩, va_recv hK.1 (hW.at (c := 5) (i := i0) w0 rfl) (ci := 3) (q0 := 0) rfl rfl, fun U hU hw => ⟨rfl, PB.at hW hK hZ hS hU hw⟩⟩ rfl rfl hsz rfl (lv_room h8) hdg hC) hS (fun _ _ h => h) (fun _ h => h) (fun u t H1 locs1 ht hvm hw hB hz1 hk1 hS1 => ?_)
  subst hw
  rw [ht] at hB
  exact kk H1 locs1 hB hS1
def f_yX3_numberAt (M : Mem) (i0 : Nat) (x1 : Int32) (x2 : Int32) : Option (Int32) := (if ((x1 * 4) + x2) < 0 then (some 0) else (if 160 ≤ ((x1 * 4) + x2) then (some 0) else gd (¬ (((x1 * 4) + x2) < 0 ∨ 160 ≤ ((x1 * 4) + x2).toNatClampNeg)) ((some (M 14 i0 ((x1 * 4) + x2).toNatClampNeg)))))
set_option maxRecDepth 100000 in
set_option maxHeartbeats 4000000 in
theorem c_yX3_numberAt (l : Launch) (E : Lay) (ad : Nat → Nat → Nat) (M N : Mem) (i0 : Nat) (x1 : Int32) (x2 : Int32) (w0 : i0 < 8) (r : Int32) (hf : f_yX3_numberAt M i0 x1 x2 = some r) : Met l yX3_numberAt (Cond.code yX3_numberAt cX3_numberAt 4 (some .int) :: TB) (rmm 0 0) (va_Pc [.ref (ad 5 i0), .int x1, .int x2] (PB E ad (M, N))) (Qi E ad r (M, N)) 0 0 (ow E) := by
  refine Met.ofW (cc := cX3_numberAt) (maxL := 4) (ret := (some .int)) (by decide) rfl ?_
  intro p e s m args below meth c s₁ B hml hv
  obtain ⟨rfl, hW, hK, hZ⟩ := hv
  have hT : ∀ w ∈ TB, w.before _ s = true := fun w h => atoms_spec (ws := (Cond.code yX3_numberAt cX3_numberAt 4 (some .int) :: TB)) B.pre w (List.mem_cons_of_mem _ h)
  have X : CX p s m _ meth c cX3_numberAt 4 (some .int) RX3 := ⟨B.exec, B.bytes, hml, findClass_of_methodNamed B.named, hT, B.returns, B.notSynchronized⟩
  obtain ⟨hx, hb, hml, hown, hT, hr, hlk⟩ := id X
  have hS : va_S (ow E) s.heap s.heap [] := va_S.rf
  have hl := lv_entry ([.ref (ad 5 i0), .int x1, .int x2]) (n := 4) (Nat.le_of_ble_eq_true rfl)
  rw [lg_entry_eq]
  generalize (lg_sl ([.ref (ad 5 i0), .int x1, .int x2]) ++ List.replicate (4 - (lg_sl ([.ref (ad 5 i0), .int x1, .int x2])).length) Slot.unset).toArray = ls at hl ⊢
  have hl : lv_has ls 4 [(0, .ref (ad 5 i0)), (1, .int x1), (2, .int x2)] := hl
  unfold f_yX3_numberAt at hf
  refine lv_iload_n hx hb dX3_numberAt_0 rfl (lv_at hl 1 rfl) ?_
  refine lv_iconst (v := 4) hx hb dX3_numberAt_1 (by decide) ?_
  refine lv_imul hx hb dX3_numberAt_2 ?_
  refine lv_iload_n hx hb dX3_numberAt_3 rfl (lv_at hl 2 rfl) ?_
  refine lv_iadd hx hb dX3_numberAt_4 ?_
  refine lv_istore_n (lv' := [(3, .int ((x1 * 4) + x2)), (0, .ref (ad 5 i0)), (1, .int x1), (2, .int x2)]) hx hb dX3_numberAt_5 rfl hl (by decide) rfl (fun ls hl => ?_)
  refine lv_iload_n hx hb dX3_numberAt_6 rfl (lv_at hl 0 rfl) ?_
  refine lv_if_lt (tgt := 28) hx hb dX3_numberAt_7 (by decide) (fun c1 => ?_) (fun c1 => ?_)
  · rw [if_pos c1] at hf
    refine lv_iconst (v := 0) hx hb dX3_numberAt_28 (by decide) ?_
    obtain rfl := sp1 hf
    exact e_i ⟨hx, hb, hr, hlk⟩ hW hS dX3_numberAt_29
  · rw [if_neg c1] at hf
    refine lv_iload_n hx hb dX3_numberAt_10 rfl (lv_at hl 0 rfl) ?_
    refine lv_aload_n hx hb dX3_numberAt_11 rfl (lv_at hl 1 rfl) ?_
    refine g_3_0 X hK hW w0 flRX3_11 dX3_numberAt_12 ?_
    refine an_14 X hK hW w0 dX3_numberAt_15 ?_
    refine lv_icmp_ge (tgt := 28) hx hb dX3_numberAt_16 (by decide) (fun c2 => ?_) (fun c2 => ?_)
    · rw [if_pos c2] at hf
      refine lv_iconst (v := 0) hx hb dX3_numberAt_28 (by decide) ?_
      obtain rfl := sp1 hf
      exact e_i ⟨hx, hb, hr, hlk⟩ hW hS dX3_numberAt_29
    · rw [if_neg c2] at hf
      refine lv_aload_n hx hb dX3_numberAt_19 rfl (lv_at hl 1 rfl) ?_
      refine g_3_0 X hK hW w0 flRX3_11 dX3_numberAt_20 ?_
      refine lv_iload_n hx hb dX3_numberAt_23 rfl (lv_at hl 0 rfl) ?_
      obtain ⟨b3, hf⟩ := gd_some hf
      refine al_14 X hK hW w0 b3 dX3_numberAt_24 ?_
      refine lv_goto (tgt := 29) hx hb dX3_numberAt_25 (by decide) ?_
      obtain rfl := sp1 hf
      exact e_i ⟨hx, hb, hr, hlk⟩ hW hS dX3_numberAt_29
set_option maxRecDepth 100000 in
set_option maxHeartbeats 4000000 in
theorem k_yX3_numberAt {p : Program} {l : Launch} {e : Env} {R : Room} {s : State} {m : MethodId} {args : Array Value} {below : List Frame} {meth : Method} {c : Code} {H : Heap} {locs : List Loc} {cells slots : Nat} {Q : State → Prop} {cc : ByteArray} {pc nL index : Nat} {ret : Option FieldType} {own : String} {ls : Array Slot} {rest : List Value} {E : Lay} {ad : Nat → Nat → Nat} {M N : Mem} (X : CX p s m args meth c cc nL ret own) (hK : KK E s) (hZ : ZZ E s) (hW : WD E ad (M, N) H) (hS : va_S (ow E) s.heap H locs) (hsz : ls.size = nL) {i0 : Nat} {x1 : Int32} {x2 : Int32} (w0 : i0 < 8) {r : Int32} (hf : f_yX3_numberAt M i0 x1 x2 = some r) (hn : Cond.methodLink own index yX3_numberAt ∈ TB) (hR : 0 + 1 ≤ R.frames ∧ 8 + (4 + 11) + 0 ≤ R.locals) (hC : cells ≤ R.cells ∧ slots ≤ R.slots) (h8 : (rest.map fun v => v.category).sum ≤ 8) (hdg : decode cc pc = .ok (.invokevirtual index, 3)) (kk : ∀ (H1 : Heap) (locs1 : List Loc), WD E ad (M, N) H1 → va_S (ow E) s.heap H1 locs1 → W p l e R s m args below meth c H1 locs1 cells slots Q (F0 m (pc + 3) ls (.int r :: rest))) : W p l e R s m args below meth c H locs cells slots Q (F0 m pc ls (.int x2 :: .int x1 :: .ref (ad 5 i0) :: rest)) := by
  refine va_calli (va_runV (C := RX3) (As := [.int x1, .int x2]) (rest := rest) ⟨X.1, X.2.1, X.2.2.1, X.2.2.2.1, X.2.2.2.2.1⟩ (c_yX3_numberAt l E ad M N i0 x1 x2 w0 r hf) (cwV 2 X.2.2.2.2.1 (gV hn im_yX3_numberAt se_yX3_numberAt iniRX3 cd_yX3_numberAt) rfl rfl rfl (by decide +kernel) hR) ⟨fun a U g mk q => ⟨q.1, q.2.calling⟩, va_recv hK.1 (hW.at (c := 5) (i := i0) w0 rfl) (ci := 3) (q0 := 0) rfl rfl, fun U hU hw => ⟨rfl, PB.at hW hK hZ hS hU hw⟩⟩ rfl rfl hsz rfl (lv_room h8) hdg hC) hS (fun _ _ h => h) (fun _ h => h) (fun r' u t H1 locs1 ht hvm hw hB hz1 hk1 hS1 => ?_)
  obtain ⟨rfl, rfl⟩ := hw
  rw [ht] at hB
  exact kk H1 locs1 hB hS1
def f_yX4_at (M : Mem) (x1 : Int32) : Option (Option Nat) := (if x1 < 0 then (some none) else (if (M 1 0 0) ≤ x1 then (some none) else gd (¬ (x1 < 0 ∨ 32 ≤ x1.toNatClampNeg)) ((if x1.toNatClampNeg < (M 60 0 0).toNatClampNeg then (some (some x1.toNatClampNeg)) else (some none)))))
set_option maxRecDepth 100000 in
set_option maxHeartbeats 4000000 in
theorem c_yX4_at (l : Launch) (E : Lay) (ad : Nat → Nat → Nat) (M N : Mem) (x1 : Int32) (r : Option Nat) (hf : f_yX4_at M x1 = some r) : Met l yX4_at (Cond.code yX4_at cX4_at 2 (some (.object "MonitorTurns$Thing")) :: TB) (rmm 0 0) (va_Pc [.ref (ad 1 0), .int x1] (PB E ad (M, N))) (Qq E ad ((r).map (ad 8)) (M, N)) 0 0 (ow E) := by
  refine Met.ofW (cc := cX4_at) (maxL := 2) (ret := (some (.object "MonitorTurns$Thing"))) (by decide) rfl ?_
  intro p e s m args below meth c s₁ B hml hv
  obtain ⟨rfl, hW, hK, hZ⟩ := hv
  have hT : ∀ w ∈ TB, w.before _ s = true := fun w h => atoms_spec (ws := (Cond.code yX4_at cX4_at 2 (some (.object "MonitorTurns$Thing")) :: TB)) B.pre w (List.mem_cons_of_mem _ h)
  have X : CX p s m _ meth c cX4_at 2 (some (.object "MonitorTurns$Thing")) RX4 := ⟨B.exec, B.bytes, hml, findClass_of_methodNamed B.named, hT, B.returns, B.notSynchronized⟩
  obtain ⟨hx, hb, hml, hown, hT, hr, hlk⟩ := id X
  have hS : va_S (ow E) s.heap s.heap [] := va_S.rf
  have hl := lv_entry ([.ref (ad 1 0), .int x1]) (n := 2) (Nat.le_of_ble_eq_true rfl)
  rw [lg_entry_eq]
  generalize (lg_sl ([.ref (ad 1 0), .int x1]) ++ List.replicate (2 - (lg_sl ([.ref (ad 1 0), .int x1])).length) Slot.unset).toArray = ls at hl ⊢
  have hl : lv_has ls 2 [(0, .ref (ad 1 0)), (1, .int x1)] := hl
  unfold f_yX4_at at hf
  refine lv_iload_n hx hb dX4_at_0 rfl (lv_at hl 1 rfl) ?_
  refine lv_if_lt (tgt := 21) hx hb dX4_at_1 (by decide) (fun c1 => ?_) (fun c1 => ?_)
  · rw [if_pos c1] at hf
    refine lv_null hx hb dX4_at_21 ?_
    obtain rfl := sp1 hf
    exact e_q ⟨hx, hb, hr, hlk⟩ (Or.inl ⟨_, rfl⟩) rfl hW hS dX4_at_22
  · rw [if_neg c1] at hf
    refine lv_iload_n hx hb dX4_at_4 rfl (lv_at hl 1 rfl) ?_
    refine lv_aload_n hx hb dX4_at_5 rfl (lv_at hl 0 rfl) ?_
    refine g_4_1 X hK hW flRX4_21 dX4_at_6 ?_
    refine lv_icmp_ge (tgt := 21) hx hb dX4_at_9 (by decide) (fun c2 => ?_) (fun c2 => ?_)
    · rw [if_pos c2] at hf
      refine lv_null hx hb dX4_at_21 ?_
      obtain rfl := sp1 hf
      exact e_q ⟨hx, hb, hr, hlk⟩ (Or.inl ⟨_, rfl⟩) rfl hW hS dX4_at_22
    · rw [if_neg c2] at hf
      refine lv_aload_n hx hb dX4_at_12 rfl (lv_at hl 0 rfl) ?_
      refine g_4_0 X hK hW flRX4_11 dX4_at_13 ?_
      refine lv_iload_n hx hb dX4_at_16 rfl (lv_at hl 1 rfl) ?_
      obtain ⟨b3, hf⟩ := gd_some hf
      by_cases c4 : x1.toNatClampNeg < (M 60 0 0).toNatClampNeg
      · rw [if_pos c4] at hf
        refine al_9s X hK hW b3 c4 dX4_at_17 ?_
        refine lv_goto (tgt := 22) hx hb dX4_at_18 (by decide) ?_
        obtain rfl := sp1 hf
        exact e_q ⟨hx, hb, hr, hlk⟩ (Or.inl ⟨_, rfl⟩) rfl hW hS dX4_at_22
      · rw [if_neg c4] at hf
        refine al_9n X hK hW b3 c4 dX4_at_17 ?_
        refine lv_goto (tgt := 22) hx hb dX4_at_18 (by decide) ?_
        obtain rfl := sp1 hf
        exact e_q ⟨hx, hb, hr, hlk⟩ (Or.inl ⟨_, rfl⟩) rfl hW hS dX4_at_22
set_option maxRecDepth 100000 in
set_option maxHeartbeats 4000000 in
theorem k_yX4_atn {p : Program} {l : Launch} {e : Env} {R : Room} {s : State} {m : MethodId} {args : Array Value} {below : List Frame} {meth : Method} {c : Code} {H : Heap} {locs : List Loc} {cells slots : Nat} {Q : State → Prop} {cc : ByteArray} {pc nL index : Nat} {ret : Option FieldType} {own : String} {ls : Array Slot} {rest : List Value} {E : Lay} {ad : Nat → Nat → Nat} {M N : Mem} (X : CX p s m args meth c cc nL ret own) (hK : KK E s) (hZ : ZZ E s) (hW : WD E ad (M, N) H) (hS : va_S (ow E) s.heap H locs) (hsz : ls.size = nL) {x1 : Int32} (hf : f_yX4_at M x1 = some none) (hn : Cond.methodLink own index yX4_at ∈ TB) (hR : 0 + 1 ≤ R.frames ∧ 8 + (2 + 11) + 0 ≤ R.locals) (hC : cells ≤ R.cells ∧ slots ≤ R.slots) (h8 : (rest.map fun v => v.category).sum ≤ 8) (hdg : decode cc pc = .ok (.invokevirtual index, 3)) (kk : ∀ (H1 : Heap) (locs1 : List Loc), WD E ad (M, N) H1 → va_S (ow E) s.heap H1 locs1 → W p l e R s m args below meth c H1 locs1 cells slots Q (F0 m (pc + 3) ls (.null :: rest))) : W p l e R s m args below meth c H locs cells slots Q (F0 m pc ls (.int x1 :: .ref (ad 1 0) :: rest)) := by
  refine va_callq (va_runV (C := RX4) (As := [.int x1]) (rest := rest) ⟨X.1, X.2.1, X.2.2.1, X.2.2.2.1, X.2.2.2.2.1⟩ (c_yX4_at l E ad M N x1 none hf) (cwV 1 X.2.2.2.2.1 (gV hn im_yX4_at se_yX4_at iniRX4 cd_yX4_at) rfl rfl rfl (by decide +kernel) hR) ⟨fun a U g mk q => ⟨q.1, q.2.calling⟩, va_recv hK.1 (hW.at (c := 1) (i := 0) Nat.zero_lt_one rfl) (ci := 4) (q0 := 0) rfl rfl, fun U hU hw => ⟨rfl, PB.at hW hK hZ hS hU hw⟩⟩ rfl rfl hsz rfl (lv_room h8) hdg hC) hS (fun _ _ h => h) (fun _ h => h) (fun r' u t H1 locs1 ht hvm hw hB hz1 hk1 hS1 => ?_)
  obtain ⟨rfl, rfl⟩ := hw
  rw [ht] at hB
  exact kk H1 locs1 hB hS1
set_option maxRecDepth 100000 in
set_option maxHeartbeats 4000000 in
theorem k_yX4_ats {p : Program} {l : Launch} {e : Env} {R : Room} {s : State} {m : MethodId} {args : Array Value} {below : List Frame} {meth : Method} {c : Code} {H : Heap} {locs : List Loc} {cells slots : Nat} {Q : State → Prop} {cc : ByteArray} {pc nL index : Nat} {ret : Option FieldType} {own : String} {ls : Array Slot} {rest : List Value} {E : Lay} {ad : Nat → Nat → Nat} {M N : Mem} (X : CX p s m args meth c cc nL ret own) (hK : KK E s) (hZ : ZZ E s) (hW : WD E ad (M, N) H) (hS : va_S (ow E) s.heap H locs) (hsz : ls.size = nL) {x1 : Int32} {jr : Nat} (hf : f_yX4_at M x1 = some (some jr)) (hn : Cond.methodLink own index yX4_at ∈ TB) (hR : 0 + 1 ≤ R.frames ∧ 8 + (2 + 11) + 0 ≤ R.locals) (hC : cells ≤ R.cells ∧ slots ≤ R.slots) (h8 : (rest.map fun v => v.category).sum ≤ 8) (hdg : decode cc pc = .ok (.invokevirtual index, 3)) (kk : ∀ (H1 : Heap) (locs1 : List Loc), WD E ad (M, N) H1 → va_S (ow E) s.heap H1 locs1 → W p l e R s m args below meth c H1 locs1 cells slots Q (F0 m (pc + 3) ls (.ref (ad 8 jr) :: rest))) : W p l e R s m args below meth c H locs cells slots Q (F0 m pc ls (.int x1 :: .ref (ad 1 0) :: rest)) := by
  refine va_callq (va_runV (C := RX4) (As := [.int x1]) (rest := rest) ⟨X.1, X.2.1, X.2.2.1, X.2.2.2.1, X.2.2.2.2.1⟩ (c_yX4_at l E ad M N x1 (some jr) hf) (cwV 1 X.2.2.2.2.1 (gV hn im_yX4_at se_yX4_at iniRX4 cd_yX4_at) rfl rfl rfl (by decide +kernel) hR) ⟨fun a U g mk q => ⟨q.1, q.2.calling⟩, va_recv hK.1 (hW.at (c := 1) (i := 0) Nat.zero_lt_one rfl) (ci := 4) (q0 := 0) rfl rfl, fun U hU hw => ⟨rfl, PB.at hW hK hZ hS hU hw⟩⟩ rfl rfl hsz rfl (lv_room h8) hdg hC) hS (fun _ _ h => h) (fun _ h => h) (fun r' u t H1 locs1 ht hvm hw hB hz1 hk1 hS1 => ?_)
  obtain ⟨rfl, rfl⟩ := hw
  rw [ht] at hB
  exact kk H1 locs1 hB hS1
def f_yX4_isFull (M : Mem) : Option (Int32) := (if (M 1 0 0) < 32 then (some 0) else (some 1))
set_option maxRecDepth 100000 in
set_option maxHeartbeats 4000000 in
theorem c_yX4_isFull (l : Launch) (E : Lay) (ad : Nat → Nat → Nat) (M N : Mem) (r : Int32) (hf : f_yX4_isFull M = some r) : Met l yX4_isFull (Cond.code yX4_isFull cX4_isFull 1 (some .boolean) :: TB) (rmm 0 0) (va_Pc [.ref (ad 1 0)] (PB E ad (M, N))) (Qi E ad r (M, N)) 0 0 (ow E) := by
  refine Met.ofW (cc := cX4_isFull) (maxL := 1) (ret := (some .boolean)) (by decide) rfl ?_
  intro p e s m args below meth c s₁ B hml hv
  obtain ⟨rfl, hW, hK, hZ⟩ := hv
  have hT : ∀ w ∈ TB, w.before _ s = true := fun w h => atoms_spec (ws := (Cond.code yX4_isFull cX4_isFull 1 (some .boolean) :: TB)) B.pre w (List.mem_cons_of_mem _ h)
  have X : CX p s m _ meth c cX4_isFull 1 (some .boolean) RX4 := ⟨B.exec, B.bytes, hml, findClass_of_methodNamed B.named, hT, B.returns, B.notSynchronized⟩
  obtain ⟨hx, hb, hml, hown, hT, hr, hlk⟩ := id X
  have hS : va_S (ow E) s.heap s.heap [] := va_S.rf
  have hl := lv_entry ([.ref (ad 1 0)]) (n := 1) (Nat.le_of_ble_eq_true rfl)
  rw [lg_entry_eq]
  generalize (lg_sl ([.ref (ad 1 0)]) ++ List.replicate (1 - (lg_sl ([.ref (ad 1 0)])).length) Slot.unset).toArray = ls at hl ⊢
  have hl : lv_has ls 1 [(0, .ref (ad 1 0))] := hl
  unfold f_yX4_isFull at hf
  refine lv_aload_n hx hb dX4_isFull_0 rfl (lv_at hl 0 rfl) ?_
  refine g_4_1 X hK hW flRX4_21 dX4_isFull_1 ?_
  refine lv_bipush (v := 32) hx hb dX4_isFull_4 (by decide) ?_
  refine lv_icmp_lt (tgt := 13) hx hb dX4_isFull_6 (by decide) (fun c1 => ?_) (fun c1 => ?_)
  · rw [if_pos c1] at hf
    refine lv_iconst (v := 0) hx hb dX4_isFull_13 (by decide) ?_
    obtain rfl := sp1 hf
    exact e_z ⟨hx, hb, hr, hlk⟩ rfl hW hS dX4_isFull_14
  · rw [if_neg c1] at hf
    refine lv_iconst (v := 1) hx hb dX4_isFull_9 (by decide) ?_
    refine lv_goto (tgt := 14) hx hb dX4_isFull_10 (by decide) ?_
    obtain rfl := sp1 hf
    exact e_z ⟨hx, hb, hr, hlk⟩ rfl hW hS dX4_isFull_14
set_option maxRecDepth 100000 in
set_option maxHeartbeats 4000000 in
theorem k_yX4_isFull {p : Program} {l : Launch} {e : Env} {R : Room} {s : State} {m : MethodId} {args : Array Value} {below : List Frame} {meth : Method} {c : Code} {H : Heap} {locs : List Loc} {cells slots : Nat} {Q : State → Prop} {cc : ByteArray} {pc nL index : Nat} {ret : Option FieldType} {own : String} {ls : Array Slot} {rest : List Value} {E : Lay} {ad : Nat → Nat → Nat} {M N : Mem} (X : CX p s m args meth c cc nL ret own) (hK : KK E s) (hZ : ZZ E s) (hW : WD E ad (M, N) H) (hS : va_S (ow E) s.heap H locs) (hsz : ls.size = nL) {r : Int32} (hf : f_yX4_isFull M = some r) (hn : Cond.methodLink own index yX4_isFull ∈ TB) (hR : 0 + 1 ≤ R.frames ∧ 8 + (1 + 11) + 0 ≤ R.locals) (hC : cells ≤ R.cells ∧ slots ≤ R.slots) (h8 : (rest.map fun v => v.category).sum ≤ 8) (hdg : decode cc pc = .ok (.invokevirtual index, 3)) (kk : ∀ (H1 : Heap) (locs1 : List Loc), WD E ad (M, N) H1 → va_S (ow E) s.heap H1 locs1 → W p l e R s m args below meth c H1 locs1 cells slots Q (F0 m (pc + 3) ls (.int r :: rest))) : W p l e R s m args below meth c H locs cells slots Q (F0 m pc ls (.ref (ad 1 0) :: rest)) := by
  refine va_calli (va_runV (C := RX4) (As := []) (rest := rest) ⟨X.1, X.2.1, X.2.2.1, X.2.2.2.1, X.2.2.2.2.1⟩ (c_yX4_isFull l E ad M N r hf) (cwV 0 X.2.2.2.2.1 (gV hn im_yX4_isFull se_yX4_isFull iniRX4 cd_yX4_isFull) rfl rfl rfl (by decide +kernel) hR) ⟨fun a U g mk q => ⟨q.1, q.2.calling⟩, va_recv hK.1 (hW.at (c := 1) (i := 0) Nat.zero_lt_one rfl) (ci := 4) (q0 := 0) rfl rfl, fun U hU hw => ⟨rfl, PB.at hW hK hZ hS hU hw⟩⟩ rfl rfl hsz rfl (lv_room h8) hdg hC) hS (fun _ _ h => h) (fun _ h => h) (fun r' u t H1 locs1 ht hvm hw hB hz1 hk1 hS1 => ?_)
  obtain ⟨rfl, rfl⟩ := hw
  rw [ht] at hB
  exact kk H1 locs1 hB hS1
def f_yX4_weightOf (M : Mem) (i1 : Nat) : Option (Int32 × Mem) := lt1 (mp M 1 0 1 (M 8 i1 0)) (fun M1 => (if (M1 8 i1 0) = 0 then (some (1, M1)) else (if (M1 8 i1 0) = 1 then (some ((((M1 8 i1 1) + 3) + 1), M1)) else (if (M1 8 i1 0) = 2 then (some ((2 * ((((M1 8 i1 1) + 5) + 3) + 1)), M1)) else (if (M1 8 i1 0) = 3 then (some (((2 * ((M1 8 i1 1) + 80)) - 1), M1)) else (some ((nI (M1 8 i1 4).toNatClampNeg), M1)))))))
set_option maxRecDepth 100000 in
set_option maxHeartbeats 4000000 in
theorem c_yX4_weightOf (l : Launch) (E : Lay) (ad : Nat → Nat → Nat) (M N : Mem) (i1 : Nat) (w1 : i1 < (M 60 0 1).toNatClampNeg) (r : Int32) (Mr : Mem) (hf : f_yX4_weightOf M i1 = some (r, Mr)) : Met l yX4_weightOf (Cond.code yX4_weightOf cX4_weightOf 2 (some .int) :: TB) (rmm 0 0) (va_Pc [.ref (ad 1 0), .ref (ad 8 i1)] (PB E ad (M, N))) (Qi E ad r (Mr, N)) 0 0 (ow E) := by
  refine Met.ofW (cc := cX4_weightOf) (maxL := 2) (ret := (some .int)) (by decide) rfl ?_
  intro p e s m args below meth c s₁ B hml hv
  obtain ⟨rfl, hW, hK, hZ⟩ := hv
  have hT : ∀ w ∈ TB, w.before _ s = true := fun w h => atoms_spec (ws := (Cond.code yX4_weightOf cX4_weightOf 2 (some .int) :: TB)) B.pre w (List.mem_cons_of_mem _ h)
  have X : CX p s m _ meth c cX4_weightOf 2 (some .int) RX4 := ⟨B.exec, B.bytes, hml, findClass_of_methodNamed B.named, hT, B.returns, B.notSynchronized⟩
  obtain ⟨hx, hb, hml, hown, hT, hr, hlk⟩ := id X
  have hS : va_S (ow E) s.heap s.heap [] := va_S.rf
  have hl := lv_entry ([.ref (ad 1 0), .ref (ad 8 i1)]) (n := 2) (Nat.le_of_ble_eq_true rfl)
  rw [lg_entry_eq]
  generalize (lg_sl ([.ref (ad 1 0), .ref (ad 8 i1)]) ++ List.replicate (2 - (lg_sl ([.ref (ad 1 0), .ref (ad 8 i1)])).length) Slot.unset).toArray = ls at hl ⊢
  have hl : lv_has ls 2 [(0, .ref (ad 1 0)), (1, .ref (ad 8 i1))] := hl
  unfold f_yX4_weightOf at hf
  refine lv_aload_n hx hb dX4_weightOf_0 rfl (lv_at hl 0 rfl) ?_
  refine lv_aload_n hx hb dX4_weightOf_1 rfl (lv_at hl 1 rfl) ?_
  refine g_7_1 X hK hW w1 flRX4_47 dX4_weightOf_2 ?_
  obtain ⟨M1, hM1, hf⟩ := lt1_some hf
  have v2 : i1 < (M1 60 0 1).toNatClampNeg := by rw [hM1, mp_ne _ _ (fun q => absurd q.1 (by decide))]; exact w1
  refine p_4_2 X hK hW hS hM1 flRX4_17 dX4_weightOf_5 (fun H locs hW hS => ?_)
  refine lv_aload_n hx hb dX4_weightOf_8 rfl (lv_at hl 1 rfl) ?_
  refine g_7_1 X hK hW v2 flRX4_47 dX4_weightOf_9 ?_
  by_cases c3 : (M1 8 i1 0) = 0
  · rw [if_pos c3] at hf
    refine lv_tableIn (tgt := 44) hx hb dX4_weightOf_12 (by rw [c3]; decide) (by rw [c3]; decide) (by rw [c3]; rfl) (by decide) ?_
    refine lv_iconst (v := 1) hx hb dX4_weightOf_44 (by decide) ?_
    obtain ⟨rfl, rfl⟩ := sp2 hf
    exact e_i ⟨hx, hb, hr, hlk⟩ hW hS dX4_weightOf_45
  rw [if_neg c3] at hf
  by_cases c4 : (M1 8 i1 0) = 1
  · rw [if_pos c4] at hf
    refine lv_tableIn (tgt := 46) hx hb dX4_weightOf_12 (by rw [c4]; decide) (by rw [c4]; decide) (by rw [c4]; rfl) (by decide) ?_
    refine lv_aload_n hx hb dX4_weightOf_46 rfl (lv_at hl 1 rfl) ?_
    refine g_7_3 X hK hW v2 flRX4_50 dX4_weightOf_47 ?_
    refine lv_iconst (v := 3) hx hb dX4_weightOf_50 (by decide) ?_
    refine lv_iadd hx hb dX4_weightOf_51 ?_
    refine lv_iconst (v := 1) hx hb dX4_weightOf_52 (by decide) ?_
    refine lv_iadd hx hb dX4_weightOf_53 ?_
    obtain ⟨rfl, rfl⟩ := sp2 hf
    exact e_i ⟨hx, hb, hr, hlk⟩ hW hS dX4_weightOf_54
  rw [if_neg c4] at hf
  by_cases c5 : (M1 8 i1 0) = 2
  · rw [if_pos c5] at hf
    refine lv_tableIn (tgt := 55) hx hb dX4_weightOf_12 (by rw [c5]; decide) (by rw [c5]; decide) (by rw [c5]; rfl) (by decide) ?_
    refine lv_iconst (v := 2) hx hb dX4_weightOf_55 (by decide) ?_
    refine lv_aload_n hx hb dX4_weightOf_56 rfl (lv_at hl 1 rfl) ?_
    refine g_7_3 X hK hW v2 flRX4_50 dX4_weightOf_57 ?_
    refine lv_iconst (v := 5) hx hb dX4_weightOf_60 (by decide) ?_
    refine lv_iadd hx hb dX4_weightOf_61 ?_
    refine lv_iconst (v := 3) hx hb dX4_weightOf_62 (by decide) ?_
    refine lv_iadd hx hb dX4_weightOf_63 ?_
    refine lv_iconst (v := 1) hx hb dX4_weightOf_64 (by decide) ?_
    refine lv_iadd hx hb dX4_weightOf_65 ?_
    refine lv_imul hx hb dX4_weightOf_66 ?_
    obtain ⟨rfl, rfl⟩ := sp2 hf
    exact e_i ⟨hx, hb, hr, hlk⟩ hW hS dX4_weightOf_67
  rw [if_neg c5] at hf
  by_cases c6 : (M1 8 i1 0) = 3
  · rw [if_pos c6] at hf
    refine lv_tableIn (tgt := 68) hx hb dX4_weightOf_12 (by rw [c6]; decide) (by rw [c6]; decide) (by rw [c6]; rfl) (by decide) ?_
    refine lv_iconst (v := 2) hx hb dX4_weightOf_68 (by decide) ?_
    refine lv_aload_n hx hb dX4_weightOf_69 rfl (lv_at hl 1 rfl) ?_
    refine g_7_3 X hK hW v2 flRX4_50 dX4_weightOf_70 ?_
    refine lv_bipush (v := 80) hx hb dX4_weightOf_73 (by decide) ?_
    refine lv_iadd hx hb dX4_weightOf_75 ?_
    refine lv_imul hx hb dX4_weightOf_76 ?_
    refine lv_iconst (v := 1) hx hb dX4_weightOf_77 (by decide) ?_
    refine lv_isub hx hb dX4_weightOf_78 ?_
    obtain ⟨rfl, rfl⟩ := sp2 hf
    exact e_i ⟨hx, hb, hr, hlk⟩ hW hS dX4_weightOf_79
  rw [if_neg c6] at hf
  refine lv_tableOut (tgt := 80) hx hb dX4_weightOf_12 (by have := lv_neT (a := 0) c3 (by decide); have := lv_neT (a := 1) c4 (by decide); have := lv_neT (a := 2) c5 (by decide); have := lv_neT (a := 3) c6 (by decide); omega) (by decide) ?_
  refine lv_aload_n hx hb dX4_weightOf_80 rfl (lv_at hl 1 rfl) ?_
  refine g_7_2 X hK hW v2 flRX4_34 dX4_weightOf_81 ?_
  refine an_19 X hK hW v2 dX4_weightOf_84 ?_
  obtain ⟨rfl, rfl⟩ := sp2 hf
  exact e_i ⟨hx, hb, hr, hlk⟩ hW hS dX4_weightOf_85
set_option maxRecDepth 100000 in
set_option maxHeartbeats 4000000 in
theorem k_yX4_weightOf {p : Program} {l : Launch} {e : Env} {R : Room} {s : State} {m : MethodId} {args : Array Value} {below : List Frame} {meth : Method} {c : Code} {H : Heap} {locs : List Loc} {cells slots : Nat} {Q : State → Prop} {cc : ByteArray} {pc nL index : Nat} {ret : Option FieldType} {own : String} {ls : Array Slot} {rest : List Value} {E : Lay} {ad : Nat → Nat → Nat} {M N : Mem} (X : CX p s m args meth c cc nL ret own) (hK : KK E s) (hZ : ZZ E s) (hW : WD E ad (M, N) H) (hS : va_S (ow E) s.heap H locs) (hsz : ls.size = nL) {i1 : Nat} (w1 : i1 < (M 60 0 1).toNatClampNeg) {r : Int32} {Mr : Mem} (hf : f_yX4_weightOf M i1 = some (r, Mr)) (hn : Cond.methodLink own index yX4_weightOf ∈ TB) (hR : 0 + 1 ≤ R.frames ∧ 8 + (2 + 11) + 0 ≤ R.locals) (hC : cells ≤ R.cells ∧ slots ≤ R.slots) (h8 : (rest.map fun v => v.category).sum ≤ 8) (hdg : decode cc pc = .ok (.invokevirtual index, 3)) (kk : ∀ (H1 : Heap) (locs1 : List Loc), WD E ad (Mr, N) H1 → va_S (ow E) s.heap H1 locs1 → W p l e R s m args below meth c H1 locs1 cells slots Q (F0 m (pc + 3) ls (.int r :: rest))) : W p l e R s m args below meth c H locs cells slots Q (F0 m pc ls (.ref (ad 8 i1) :: .ref (ad 1 0) :: rest)) := by
  refine va_calli (va_runV (C := RX4) (As := [.ref (ad 8 i1)]) (rest := rest) ⟨X.1, X.2.1, X.2.2.1, X.2.2.2.1, X.2.2.2.2.1⟩ (c_yX4_weightOf l E ad M N i1 w1 r Mr hf) (cwV 1 X.2.2.2.2.1 (gV hn im_yX4_weightOf se_yX4_weightOf iniRX4 cd_yX4_weightOf) rfl rfl rfl (by decide +kernel) hR) ⟨fun a U g mk q => ⟨q.1, q.2.calling⟩, va_recv hK.1 (hW.at (c := 1) (i := 0) Nat.zero_lt_one rfl) (ci := 4) (q0 := 0) rfl rfl, fun U hU hw => ⟨rfl, PB.at hW hK hZ hS hU hw⟩⟩ rfl rfl hsz rfl (lv_room h8) hdg hC) hS (fun _ _ h => h) (fun _ h => h) (fun r' u t H1 locs1 ht hvm hw hB hz1 hk1 hS1 => ?_)
  obtain ⟨rfl, rfl⟩ := hw
  rw [ht] at hB
  exact kk H1 locs1 hB hS1
def f_yX4_bodiesOf (x0 : Int32) : Option (Nat) := (if x0 = 0 then (some 0) else (if x0 = 1 then (some 1) else (if x0 = 2 then (some 2) else (if x0 = 3 then (some 3) else (some 4)))))
set_option maxRecDepth 100000 in
set_option maxHeartbeats 4000000 in
theorem c_yX4_bodiesOf (l : Launch) (E : Lay) (ad : Nat → Nat → Nat) (M N : Mem) (x0 : Int32) (r : Nat) (hf : f_yX4_bodiesOf x0 = some r) : Met l yX4_bodiesOf (Cond.code yX4_bodiesOf cX4_bodiesOf 1 (some (.array .int)) :: TB) (rmm 0 0) (va_Pc [.int x0] (PB E ad (M, N))) (Qq E ad (some (E.2.2.2 r)) (M, N)) 0 0 (ow E) := by
  refine Met.ofW (cc := cX4_bodiesOf) (maxL := 1) (ret := (some (.array .int))) (by decide) rfl ?_
  intro p e s m args below meth c s₁ B hml hv
  obtain ⟨rfl, hW, hK, hZ⟩ := hv
  have hT : ∀ w ∈ TB, w.before _ s = true := fun w h => atoms_spec (ws := (Cond.code yX4_bodiesOf cX4_bodiesOf 1 (some (.array .int)) :: TB)) B.pre w (List.mem_cons_of_mem _ h)
  have X : CX p s m _ meth c cX4_bodiesOf 1 (some (.array .int)) RX4 := ⟨B.exec, B.bytes, hml, findClass_of_methodNamed B.named, hT, B.returns, B.notSynchronized⟩
  obtain ⟨hx, hb, hml, hown, hT, hr, hlk⟩ := id X
  have hS : va_S (ow E) s.heap s.heap [] := va_S.rf
  have hl := lv_entry ([.int x0]) (n := 1) (Nat.le_of_ble_eq_true rfl)
  rw [lg_entry_eq]
  generalize (lg_sl ([.int x0]) ++ List.replicate (1 - (lg_sl ([.int x0])).length) Slot.unset).toArray = ls at hl ⊢
  have hl : lv_has ls 1 [(0, .int x0)] := hl
  unfold f_yX4_bodiesOf at hf
  refine lv_iload_n hx hb dX4_bodiesOf_0 rfl (lv_at hl 0 rfl) ?_
  by_cases c1 : x0 = 0
  · rw [if_pos c1] at hf
    refine lv_tableIn (tgt := 32) hx hb dX4_bodiesOf_1 (by rw [c1]; decide) (by rw [c1]; decide) (by rw [c1]; rfl) (by decide) ?_
    refine gs_st X hZ hS (k := 0) (by decide) flRX4_57 dX4_bodiesOf_32 ?_
    obtain rfl := sp1 hf
    exact e_q ⟨hx, hb, hr, hlk⟩ (Or.inr ⟨_, rfl⟩) rfl hW hS dX4_bodiesOf_35
  rw [if_neg c1] at hf
  by_cases c2 : x0 = 1
  · rw [if_pos c2] at hf
    refine lv_tableIn (tgt := 36) hx hb dX4_bodiesOf_1 (by rw [c2]; decide) (by rw [c2]; decide) (by rw [c2]; rfl) (by decide) ?_
    refine gs_st X hZ hS (k := 1) (by decide) flRX4_60 dX4_bodiesOf_36 ?_
    obtain rfl := sp1 hf
    exact e_q ⟨hx, hb, hr, hlk⟩ (Or.inr ⟨_, rfl⟩) rfl hW hS dX4_bodiesOf_39
  rw [if_neg c2] at hf
  by_cases c3 : x0 = 2
  · rw [if_pos c3] at hf
    refine lv_tableIn (tgt := 40) hx hb dX4_bodiesOf_1 (by rw [c3]; decide) (by rw [c3]; decide) (by rw [c3]; rfl) (by decide) ?_
    refine gs_st X hZ hS (k := 2) (by decide) flRX4_63 dX4_bodiesOf_40 ?_
    obtain rfl := sp1 hf
    exact e_q ⟨hx, hb, hr, hlk⟩ (Or.inr ⟨_, rfl⟩) rfl hW hS dX4_bodiesOf_43
  rw [if_neg c3] at hf
  by_cases c4 : x0 = 3
  · rw [if_pos c4] at hf
    refine lv_tableIn (tgt := 44) hx hb dX4_bodiesOf_1 (by rw [c4]; decide) (by rw [c4]; decide) (by rw [c4]; rfl) (by decide) ?_
    refine gs_st X hZ hS (k := 3) (by decide) flRX4_66 dX4_bodiesOf_44 ?_
    obtain rfl := sp1 hf
    exact e_q ⟨hx, hb, hr, hlk⟩ (Or.inr ⟨_, rfl⟩) rfl hW hS dX4_bodiesOf_47
  rw [if_neg c4] at hf
  refine lv_tableOut (tgt := 48) hx hb dX4_bodiesOf_1 (by have := lv_neT (a := 0) c1 (by decide); have := lv_neT (a := 1) c2 (by decide); have := lv_neT (a := 2) c3 (by decide); have := lv_neT (a := 3) c4 (by decide); omega) (by decide) ?_
  refine gs_st X hZ hS (k := 4) (by decide) flRX4_69 dX4_bodiesOf_48 ?_
  obtain rfl := sp1 hf
  exact e_q ⟨hx, hb, hr, hlk⟩ (Or.inr ⟨_, rfl⟩) rfl hW hS dX4_bodiesOf_51
set_option maxRecDepth 100000 in
set_option maxHeartbeats 4000000 in
theorem k_yX4_bodiesOf {p : Program} {l : Launch} {e : Env} {R : Room} {s : State} {m : MethodId} {args : Array Value} {below : List Frame} {meth : Method} {c : Code} {H : Heap} {locs : List Loc} {cells slots : Nat} {Q : State → Prop} {cc : ByteArray} {pc nL index : Nat} {ret : Option FieldType} {own : String} {ls : Array Slot} {rest : List Value} {E : Lay} {ad : Nat → Nat → Nat} {M N : Mem} (X : CX p s m args meth c cc nL ret own) (hK : KK E s) (hZ : ZZ E s) (hW : WD E ad (M, N) H) (hS : va_S (ow E) s.heap H locs) (hsz : ls.size = nL) {x0 : Int32} {r : Nat} (hf : f_yX4_bodiesOf x0 = some r) (hn : Cond.methodLink own index yX4_bodiesOf ∈ TB) (hR : 0 + 1 ≤ R.frames ∧ 8 + (1 + 11) + 0 ≤ R.locals) (hC : cells ≤ R.cells ∧ slots ≤ R.slots) (h8 : (rest.map fun v => v.category).sum ≤ 8) (hdg : decode cc pc = .ok (.invokestatic index, 3)) (kk : ∀ (H1 : Heap) (locs1 : List Loc), WD E ad (M, N) H1 → va_S (ow E) s.heap H1 locs1 → W p l e R s m args below meth c H1 locs1 cells slots Q (F0 m (pc + 3) ls (.ref (E.2.2.2 r) :: rest))) : W p l e R s m args below meth c H locs cells slots Q (F0 m pc ls (.int x0 :: rest)) := by
  refine va_callq (va_runS (As := [.int x0]) (rest := rest) ⟨X.1, X.2.1, X.2.2.1, X.2.2.2.1, X.2.2.2.2.1⟩ (c_yX4_bodiesOf l E ad M N x0 r hf) (va_cwS 1 X.2.2.2.2.1 (gS hn im_yX4_bodiesOf iniRX4 cd_yX4_bodiesOf) rfl rfl rfl (by decide +kernel) hR) ⟨fun a U g mk q => ⟨q.1, q.2.calling⟩, fun U hU hw => ⟨rfl, PB.at hW hK hZ hS hU hw⟩⟩ rfl rfl hsz rfl (lv_room h8) hdg hC) hS (fun _ _ h => h) (fun _ h => h) (fun r' u t H1 locs1 ht hvm hw hB hz1 hk1 hS1 => ?_)
  obtain ⟨rfl, rfl⟩ := hw
  rw [ht] at hB
  exact kk H1 locs1 hB hS1
set_option maxRecDepth 100000 in
set_option maxHeartbeats 4000000 in
theorem k_yX4_bodiesOfN {p : Program} {l : Launch} {e : Env} {R : Room} {s : State} {m : MethodId} {args : Array Value} {below : List Frame} {meth : Method} {c : Code} {H : Heap} {locs : List Loc} {cells slots : Nat} {Q : State → Prop} {cc : ByteArray} {pc nL index : Nat} {ret : Option FieldType} {own : String} {ls : Array Slot} {rest : List Value} {E : Lay} {ad : Nat → Nat → Nat} {M N : Mem} (X : CX p s m args meth c cc nL ret own) (hK : KK E s) (hZ : ZZ E s) (hW : WD E ad (M, N) H) (hS : va_S (ow E) s.heap H locs) (hsz : ls.size = nL) {x0 : Int32} {r : Nat} (hf : f_yX4_bodiesOf x0 = some r) (hn : va_Nw (Cond.methodLinkNest own index yX4_bodiesOf "MonitorTurns") s) (hR : 0 + 1 ≤ R.frames ∧ 8 + (1 + 11) + 0 ≤ R.locals) (hC : cells ≤ R.cells ∧ slots ≤ R.slots) (h8 : (rest.map fun v => v.category).sum ≤ 8) (hdg : decode cc pc = .ok (.invokestatic index, 3)) (kk : ∀ (H1 : Heap) (locs1 : List Loc), WD E ad (M, N) H1 → va_S (ow E) s.heap H1 locs1 → W p l e R s m args below meth c H1 locs1 cells slots Q (F0 m (pc + 3) ls (.ref (E.2.2.2 r) :: rest))) : W p l e R s m args below meth c H locs cells slots Q (F0 m pc ls (.int x0 :: rest)) := by
  refine va_callq (va_runSN (As := [.int x0]) (rest := rest) ⟨X.1, X.2.1, X.2.2.1, X.2.2.2.1, X.2.2.2.2.1⟩ (c_yX4_bodiesOf l E ad M N x0 r hf) ⟨va_cnB 1 X.2.2.2.2.1 (gC cd_yX4_bodiesOf) rfl rfl rfl hn (X.2.2.2.2.1 _ iniRX4) (by decide +kernel) hR, X.2.2.2.2.1 _ im_yX4_bodiesOf, trivial⟩ ⟨fun a U g mk q => ⟨q.1, q.2.calling⟩, fun U hU hw => ⟨rfl, PB.at hW hK hZ hS hU hw⟩⟩ rfl rfl hsz rfl (lv_room h8) hdg hC) hS (fun _ _ h => h) (fun _ h => h) (fun r' u t H1 locs1 ht hvm hw hB hz1 hk1 hS1 => ?_)
  obtain ⟨rfl, rfl⟩ := hw
  rw [ht] at hB
  exact kk H1 locs1 hB hS1
def f_yX5_isUnderWay (M : Mem) (i0 : Nat) : Option (Int32) := (if (M 6 i0 0) < 2 then (some 0) else (if 6 < (M 6 i0 0) then (some 0) else (some 1)))
set_option maxRecDepth 100000 in
set_option maxHeartbeats 4000000 in
theorem c_yX5_isUnderWay (l : Launch) (E : Lay) (ad : Nat → Nat → Nat) (M N : Mem) (i0 : Nat) (w0 : i0 < 6) (r : Int32) (hf : f_yX5_isUnderWay M i0 = some r) : Met l yX5_isUnderWay (Cond.code yX5_isUnderWay cX5_isUnderWay 1 (some .boolean) :: TB) (rmm 0 0) (va_Pc [.ref (ad 6 i0)] (PB E ad (M, N))) (Qi E ad r (M, N)) 0 0 (ow E) := by
  refine Met.ofW (cc := cX5_isUnderWay) (maxL := 1) (ret := (some .boolean)) (by decide) rfl ?_
  intro p e s m args below meth c s₁ B hml hv
  obtain ⟨rfl, hW, hK, hZ⟩ := hv
  have hT : ∀ w ∈ TB, w.before _ s = true := fun w h => atoms_spec (ws := (Cond.code yX5_isUnderWay cX5_isUnderWay 1 (some .boolean) :: TB)) B.pre w (List.mem_cons_of_mem _ h)
  have X : CX p s m _ meth c cX5_isUnderWay 1 (some .boolean) RX5 := ⟨B.exec, B.bytes, hml, findClass_of_methodNamed B.named, hT, B.returns, B.notSynchronized⟩
  obtain ⟨hx, hb, hml, hown, hT, hr, hlk⟩ := id X
  have hS : va_S (ow E) s.heap s.heap [] := va_S.rf
  have hl := lv_entry ([.ref (ad 6 i0)]) (n := 1) (Nat.le_of_ble_eq_true rfl)
  rw [lg_entry_eq]
  generalize (lg_sl ([.ref (ad 6 i0)]) ++ List.replicate (1 - (lg_sl ([.ref (ad 6 i0)])).length) Slot.unset).toArray = ls at hl ⊢
  have hl : lv_has ls 1 [(0, .ref (ad 6 i0))] := hl
  unfold f_yX5_isUnderWay at hf
  refine lv_aload_n hx hb dX5_isUnderWay_0 rfl (lv_at hl 0 rfl) ?_
  refine g_5_4 X hK hW w0 flRX5_25 dX5_isUnderWay_1 ?_
  refine lv_iconst (v := 2) hx hb dX5_isUnderWay_4 (by decide) ?_
  refine lv_icmp_lt (tgt := 21) hx hb dX5_isUnderWay_5 (by decide) (fun c1 => ?_) (fun c1 => ?_)
  · rw [if_pos c1] at hf
    refine lv_iconst (v := 0) hx hb dX5_isUnderWay_21 (by decide) ?_
    obtain rfl := sp1 hf
    exact e_z ⟨hx, hb, hr, hlk⟩ rfl hW hS dX5_isUnderWay_22
  · rw [if_neg c1] at hf
    refine lv_aload_n hx hb dX5_isUnderWay_8 rfl (lv_at hl 0 rfl) ?_
    refine g_5_4 X hK hW w0 flRX5_25 dX5_isUnderWay_9 ?_
    refine lv_bipush (v := 6) hx hb dX5_isUnderWay_12 (by decide) ?_
    refine lv_icmp_gt (tgt := 21) hx hb dX5_isUnderWay_14 (by decide) (fun c2 => ?_) (fun c2 => ?_)
    · rw [if_pos c2] at hf
      refine lv_iconst (v := 0) hx hb dX5_isUnderWay_21 (by decide) ?_
      obtain rfl := sp1 hf
      exact e_z ⟨hx, hb, hr, hlk⟩ rfl hW hS dX5_isUnderWay_22
    · rw [if_neg c2] at hf
      refine lv_iconst (v := 1) hx hb dX5_isUnderWay_17 (by decide) ?_
      refine lv_goto (tgt := 22) hx hb dX5_isUnderWay_18 (by decide) ?_
      obtain rfl := sp1 hf
      exact e_z ⟨hx, hb, hr, hlk⟩ rfl hW hS dX5_isUnderWay_22
set_option maxRecDepth 100000 in
set_option maxHeartbeats 4000000 in
theorem k_yX5_isUnderWay {p : Program} {l : Launch} {e : Env} {R : Room} {s : State} {m : MethodId} {args : Array Value} {below : List Frame} {meth : Method} {c : Code} {H : Heap} {locs : List Loc} {cells slots : Nat} {Q : State → Prop} {cc : ByteArray} {pc nL index : Nat} {ret : Option FieldType} {own : String} {ls : Array Slot} {rest : List Value} {E : Lay} {ad : Nat → Nat → Nat} {M N : Mem} (X : CX p s m args meth c cc nL ret own) (hK : KK E s) (hZ : ZZ E s) (hW : WD E ad (M, N) H) (hS : va_S (ow E) s.heap H locs) (hsz : ls.size = nL) {i0 : Nat} (w0 : i0 < 6) {r : Int32} (hf : f_yX5_isUnderWay M i0 = some r) (hn : Cond.methodLink own index yX5_isUnderWay ∈ TB) (hR : 0 + 1 ≤ R.frames ∧ 8 + (1 + 11) + 0 ≤ R.locals) (hC : cells ≤ R.cells ∧ slots ≤ R.slots) (h8 : (rest.map fun v => v.category).sum ≤ 8) (hdg : decode cc pc = .ok (.invokevirtual index, 3)) (kk : ∀ (H1 : Heap) (locs1 : List Loc), WD E ad (M, N) H1 → va_S (ow E) s.heap H1 locs1 → W p l e R s m args below meth c H1 locs1 cells slots Q (F0 m (pc + 3) ls (.int r :: rest))) : W p l e R s m args below meth c H locs cells slots Q (F0 m pc ls (.ref (ad 6 i0) :: rest)) := by
  refine va_calli (va_runV (C := RX5) (As := []) (rest := rest) ⟨X.1, X.2.1, X.2.2.1, X.2.2.2.1, X.2.2.2.2.1⟩ (c_yX5_isUnderWay l E ad M N i0 w0 r hf) (cwV 0 X.2.2.2.2.1 (gV hn im_yX5_isUnderWay se_yX5_isUnderWay iniRX5 cd_yX5_isUnderWay) rfl rfl rfl (by decide +kernel) hR) ⟨fun a U g mk q => ⟨q.1, q.2.calling⟩, va_recv hK.1 (hW.at (c := 6) (i := i0) w0 rfl) (ci := 5) (q0 := 0) rfl rfl, fun U hU hw => ⟨rfl, PB.at hW hK hZ hS hU hw⟩⟩ rfl rfl hsz rfl (lv_room h8) hdg hC) hS (fun _ _ h => h) (fun _ h => h) (fun r' u t H1 locs1 ht hvm hw hB hz1 hk1 hS1 => ?_)
  obtain ⟨rfl, rfl⟩ := hw
  rw [ht] at hB
  exact kk H1 locs1 hB hS1
def f_yX5_isAtEnd (M : Mem) (i0 : Nat) : Option (Int32) := (if M 6 i0 1 < 0 then (some 1) else gd ((M 6 i0 1).toNatClampNeg < 8) ((if (M 6 i0 3) < (M 5 (M 6 i0 1).toNatClampNeg 0) then (some 0) else (some 1))))
set_option maxRecDepth 100000 in
set_option maxHeartbeats 4000000 in
theorem c_yX5_isAtEnd (l : Launch) (E : Lay) (ad : Nat → Nat → Nat) (M N : Mem) (i0 : Nat) (w0 : i0 < 6) (r : Int32) (hf : f_yX5_isAtEnd M i0 = some r) : Met l yX5_isAtEnd (Cond.code yX5_isAtEnd cX5_isAtEnd 1 (some .boolean) :: TB) (rmm 0 0) (va_Pc [.ref (ad 6 i0)] (PB E ad (M, N))) (Qi E ad r (M, N)) 0 0 (ow E) := by
  refine Met.ofW (cc := cX5_isAtEnd) (maxL := 1) (ret := (some .boolean)) (by decide) rfl ?_
  intro p e s m args below meth c s₁ B hml hv
  obtain ⟨rfl, hW, hK, hZ⟩ := hv
  have hT : ∀ w ∈ TB, w.before _ s = true := fun w h => atoms_spec (ws := (Cond.code yX5_isAtEnd cX5_isAtEnd 1 (some .boolean) :: TB)) B.pre w (List.mem_cons_of_mem _ h)
  have X : CX p s m _ meth c cX5_isAtEnd 1 (some .boolean) RX5 := ⟨B.exec, B.bytes, hml, findClass_of_methodNamed B.named, hT, B.returns, B.notSynchronized⟩
  obtain ⟨hx, hb, hml, hown, hT, hr, hlk⟩ := id X
  have hS : va_S (ow E) s.heap s.heap [] := va_S.rf
  have hl := lv_entry ([.ref (ad 6 i0)]) (n := 1) (Nat.le_of_ble_eq_true rfl)
  rw [lg_entry_eq]
  generalize (lg_sl ([.ref (ad 6 i0)]) ++ List.replicate (1 - (lg_sl ([.ref (ad 6 i0)])).length) Slot.unset).toArray = ls at hl ⊢
  have hl : lv_has ls 1 [(0, .ref (ad 6 i0))] := hl
  unfold f_yX5_isAtEnd at hf
  refine lv_aload_n hx hb dX5_isAtEnd_0 rfl (lv_at hl 0 rfl) ?_
  by_cases c1 : M 6 i0 1 < 0
  · rw [if_pos c1] at hf
    refine g_5_5n X hK hW w0 flRX5_48 dX5_isAtEnd_1 c1 ?_
    refine lv_ifnullN (tgt := 21) hx hb dX5_isAtEnd_4 (by decide) ?_
    refine lv_iconst (v := 1) hx hb dX5_isAtEnd_21 (by decide) ?_
    refine lv_goto (tgt := 26) hx hb dX5_isAtEnd_22 (by decide) ?_
    obtain rfl := sp1 hf
    exact e_z ⟨hx, hb, hr, hlk⟩ rfl hW hS dX5_isAtEnd_26
  · rw [if_neg c1] at hf
    refine g_5_5s X hK hW w0 flRX5_48 dX5_isAtEnd_1 c1 ?_
    refine lv_ifnull hx hb dX5_isAtEnd_4 ?_
    refine lv_aload_n hx hb dX5_isAtEnd_7 rfl (lv_at hl 0 rfl) ?_
    refine g_5_7 X hK hW w0 flRX5_55 dX5_isAtEnd_8 ?_
    refine lv_aload_n hx hb dX5_isAtEnd_11 rfl (lv_at hl 0 rfl) ?_
    refine g_5_5s X hK hW w0 flRX5_48 dX5_isAtEnd_12 c1 ?_
    obtain ⟨v2, hf⟩ := gd_some hf
    refine g_3_1 X hK hW v2 flRX5_83 dX5_isAtEnd_15 ?_
    refine lv_icmp_lt (tgt := 25) hx hb dX5_isAtEnd_18 (by decide) (fun c3 => ?_) (fun c3 => ?_)
    · rw [if_pos c3] at hf
      refine lv_iconst (v := 0) hx hb dX5_isAtEnd_25 (by decide) ?_
      obtain rfl := sp1 hf
      exact e_z ⟨hx, hb, hr, hlk⟩ rfl hW hS dX5_isAtEnd_26
    · rw [if_neg c3] at hf
      refine lv_iconst (v := 1) hx hb dX5_isAtEnd_21 (by decide) ?_
      refine lv_goto (tgt := 26) hx hb dX5_isAtEnd_22 (by decide) ?_
      obtain rfl := sp1 hf
      exact e_z ⟨hx, hb, hr, hlk⟩ rfl hW hS dX5_isAtEnd_26
set_option maxRecDepth 100000 in
set_option maxHeartbeats 4000000 in
theorem k_yX5_isAtEnd {p : Program} {l : Launch} {e : Env} {R : Room} {s : State} {m : MethodId} {args : Array Value} {below : List Frame} {meth : Method} {c : Code} {H : Heap} {locs : List Loc} {cells slots : Nat} {Q : State → Prop} {cc : ByteArray} {pc nL index : Nat} {ret : Option FieldType} {own : String} {ls : Array Slot} {rest : List Value} {E : Lay} {ad : Nat → Nat → Nat} {M N : Mem} (X : CX p s m args meth c cc nL ret own) (hK : KK E s) (hZ : ZZ E s) (hW : WD E ad (M, N) H) (hS : va_S (ow E) s.heap H locs) (hsz : ls.size = nL) {i0 : Nat} (w0 : i0 < 6) {r : Int32} (hf : f_yX5_isAtEnd M i0 = some r) (hn : Cond.methodLink own index yX5_isAtEnd ∈ TB) (hR : 0 + 1 ≤ R.frames ∧ 8 + (1 + 11) + 0 ≤ R.locals) (hC : cells ≤ R.cells ∧ slots ≤ R.slots) (h8 : (rest.map fun v => v.category).sum ≤ 8) (hdg : decode cc pc = .ok (.invokevirtual index, 3)) (kk : ∀ (H1 : Heap) (locs1 : List Loc), WD E ad (M, N) H1 → va_S (ow E) s.heap H1 locs1 → W p l e R s m args below meth c H1 locs1 cells slots Q (F0 m (pc + 3) ls (.int r :: rest))) : W p l e R s m args below meth c H locs cells slots Q (F0 m pc ls (.ref (ad 6 i0) :: rest)) := by
  refine va_calli (va_runV (C := RX5) (As := []) (rest := rest) ⟨X.1, X.2.1, X.2.2.1, X.2.2.2.1, X.2.2.2.2.1⟩ (c_yX5_isAtEnd l E ad M N i0 w0 r hf) (cwV 0 X.2.2.2.2.1 (gV hn im_yX5_isAtEnd se_yX5_isAtEnd iniRX5 cd_yX5_isAtEnd) rfl rfl rfl (by decide +kernel) hR) ⟨fun a U g mk q => ⟨q.1, q.2.calling⟩, va_recv hK.1 (hW.at (c := 6) (i := i0) w0 rfl) (ci := 5) (q0 := 0) rfl rfl, fun U hU hw => ⟨rfl, PB.at hW hK hZ hS hU hw⟩⟩ rfl rfl hsz rfl (lv_room h8) hdg hC) hS (fun _ _ h => h) (fun _ h => h) (fun r' u t H1 locs1 ht hvm hw hB hz1 hk1 hS1 => ?_)
  obtain ⟨rfl, rfl⟩ := hw
  rw [ht] at hB
  exact kk H1 locs1 hB hS1
def f_yX5_become (M : Mem) (i0 : Nat) (x1 : Int32) (x2 : Int32) (x3 : Int32) : Option Mem := lt1 (mp M 6 i0 0 x1) (fun M1 => lt1 (mp M1 6 i0 11 x2) (fun M2 => lt1 (mp M2 6 i0 12 x3) (fun M3 => (some M3))))
set_option maxRecDepth 100000 in
set_option maxHeartbeats 4000000 in
theorem c_yX5_become (l : Launch) (E : Lay) (ad : Nat → Nat → Nat) (M N : Mem) (i0 : Nat) (x1 : Int32) (x2 : Int32) (x3 : Int32) (w0 : i0 < 6) (Mr : Mem) (hf : f_yX5_become M i0 x1 x2 x3 = some Mr) : Met l yX5_become (Cond.code yX5_become cX5_become 4 none :: TB) (rmm 0 0) (va_Pc [.ref (ad 6 i0), .int x1, .int x2, .int x3] (PB E ad (M, N))) (Qv E ad (Mr, N)) 0 0 (ow E) := by
  refine Met.ofW (cc := cX5_become) (maxL := 4) (ret := none) (by decide) rfl ?_
  intro p e s m args below meth c s₁ B hml hv
  obtain ⟨rfl, hW, hK, hZ⟩ := hv
  have hT : ∀ w ∈ TB, w.before _ s = true := fun w h => atoms_spec (ws := (Cond.code yX5_become cX5_become 4 none :: TB)) B.pre w (List.mem_cons_of_mem _ h)
  have X : CX p s m _ meth c cX5_become 4 none RX5 := ⟨B.exec, B.bytes, hml, findClass_of_methodNamed B.named, hT, B.returns, B.notSynchronized⟩
  obtain ⟨hx, hb, hml, hown, hT, hr, hlk⟩ := id X
  have hS : va_S (ow E) s.heap s.heap [] := va_S.rf
  have hl := lv_entry ([.ref (ad 6 i0), .int x1, .int x2, .int x3]) (n := 4) (Nat.le_of_ble_eq_true rfl)
  rw [lg_entry_eq]
  generalize (lg_sl ([.ref (ad 6 i0), .int x1, .int x2, .int x3]) ++ List.replicate (4 - (lg_sl ([.ref (ad 6 i0), .int x1, .int x2, .int x3])).length) Slot.unset).toArray = ls at hl ⊢
  have hl : lv_has ls 4 [(0, .ref (ad 6 i0)), (1, .int x1), (2, .int x2), (3, .int x3)] := hl
  unfold f_yX5_become at hf
  refine lv_aload_n hx hb dX5_become_0 rfl (lv_at hl 0 rfl) ?_
  refine lv_iload_n hx hb dX5_become_1 rfl (lv_at hl 1 rfl) ?_
  obtain ⟨M1, hM1, hf⟩ := lt1_some hf
  refine p_5_4 X hK hW hS w0 hM1 flRX5_25 dX5_become_2 (fun H locs hW hS => ?_)
  refine lv_aload_n hx hb dX5_become_5 rfl (lv_at hl 0 rfl) ?_
  refine lv_iload_n hx hb dX5_become_6 rfl (lv_at hl 2 rfl) ?_
  obtain ⟨M2, hM2, hf⟩ := lt1_some hf
  refine p_5_15 X hK hW hS w0 hM2 flRX5_29 dX5_become_7 (fun H locs hW hS => ?_)
  refine lv_aload_n hx hb dX5_become_10 rfl (lv_at hl 0 rfl) ?_
  refine lv_iload_n hx hb dX5_become_11 rfl (lv_at hl 3 rfl) ?_
  obtain ⟨M3, hM3, hf⟩ := lt1_some hf
  refine p_5_16 X hK hW hS w0 hM3 flRX5_32 dX5_become_12 (fun H locs hW hS => ?_)
  obtain rfl := sp1 hf
  exact e_v ⟨hx, hb, hr, hlk⟩ hW hS dX5_become_15
set_option maxRecDepth 100000 in
set_option maxHeartbeats 4000000 in
theorem k_yX5_become {p : Program} {l : Launch} {e : Env} {R : Room} {s : State} {m : MethodId} {args : Array Value} {below : List Frame} {meth : Method} {c : Code} {H : Heap} {locs : List Loc} {cells slots : Nat} {Q : State → Prop} {cc : ByteArray} {pc nL index : Nat} {ret : Option FieldType} {own : String} {ls : Array Slot} {rest : List Value} {E : Lay} {ad : Nat → Nat → Nat} {M N : Mem} (X : CX p s m args meth c cc nL ret own) (hK : KK E s) (hZ : ZZ E s) (hW : WD E ad (M, N) H) (hS : va_S (ow E) s.heap H locs) (hsz : ls.size = nL) {i0 : Nat} {x1 : Int32} {x2 : Int32} {x3 : Int32} (w0 : i0 < 6) {Mr : Mem} (hf : f_yX5_become M i0 x1 x2 x3 = some Mr) (hn : Cond.methodLink own index yX5_become ∈ TB) (hR : 0 + 1 ≤ R.frames ∧ 8 + (4 + 11) + 0 ≤ R.locals) (hC : cells ≤ R.cells ∧ slots ≤ R.slots) (h8 : (rest.map fun v => v.category).sum ≤ 8) (hdg : decode cc pc = .ok (.invokevirtual index, 3)) (kk : ∀ (H1 : Heap) (locs1 : List Loc), WD E ad (Mr, N) H1 → va_S (ow E) s.heap H1 locs1 → W p l e R s m args below meth c H1 locs1 cells slots Q (F0 m (pc + 3) ls (rest))) : W p l e R s m args below meth c H locs cells slots Q (F0 m pc ls (.int x3 :: .int x2 :: .int x1 :: .ref (ad 6 i0) :: rest)) := by
  refine va_callv (va_runV (C := RX5) (As := [.int x1, .int x2, .int x3]) (rest := rest) ⟨X.1, X.2.1, X.2.2.1, X.2.2.2.1, X.2.2.2.2.1⟩ (c_yX5_become l E ad M N i0 x1 x2 x3 w0 Mr hf) (cwV 3 X.2.2.2.2.1 (gV hn im_yX5_become se_yX5_become iniRX5 cd_yX5_become) rfl rfl rfl (by decide +kernel) hR) ⟨fun a U g mk q => ⟨q.1, q.2.calling⟩, va_recv hK.1 (hW.at (c := 6) (i := i0) w0 rfl) (ci := 5) (q0 := 0) rfl rfl, fun U hU hw => ⟨rfl, PB.at hW hK hZ hS hU hw⟩⟩ rfl rfl hsz rfl (lv_room h8) hdg hC) hS (fun _ _ h => h) (fun _ h => h) (fun u t H1 locs1 ht hvm hw hB hz1 hk1 hS1 => ?_)
  subst hw
  rw [ht] at hB
  exact kk H1 locs1 hB hS1
def f_yX5_takeFlag (M : Mem) (i0 : Nat) : Option (Int32 × Mem) := lt1 (mp M 6 i0 4 0) (fun M1 => gd ((M 6 i0 4) = 0 ∨ (M 6 i0 4) = 1) ((some ((M 6 i0 4), M1))))
set_option maxRecDepth 100000 in
set_option maxHeartbeats 4000000 in
theorem c_yX5_takeFlag (l : Launch) (E : Lay) (ad : Nat → Nat → Nat) (M N : Mem) (i0 : Nat) (w0 : i0 < 6) (r : Int32) (Mr : Mem) (hf : f_yX5_takeFlag M i0 = some (r, Mr)) : Met l yX5_takeFlag (Cond.code yX5_takeFlag cX5_takeFlag 2 (some .boolean) :: TB) (rmm 0 0) (va_Pc [.ref (ad 6 i0)] (PB E ad (M, N))) (Qi E ad r (Mr, N)) 0 0 (ow E) := by
  refine Met.ofW (cc := cX5_takeFlag) (maxL := 2) (ret := (some .boolean)) (by decide) rfl ?_
  intro p e s m args below meth c s₁ B hml hv
  obtain ⟨rfl, hW, hK, hZ⟩ := hv
  have hT : ∀ w ∈ TB, w.before _ s = true := fun w h => atoms_spec (ws := (Cond.code yX5_takeFlag cX5_takeFlag 2 (some .boolean) :: TB)) B.pre w (List.mem_cons_of_mem _ h)
  have X : CX p s m _ meth c cX5_takeFlag 2 (some .boolean) RX5 := ⟨B.exec, B.bytes, hml, findClass_of_methodNamed B.named, hT, B.returns, B.notSynchronized⟩
  obtain ⟨hx, hb, hml, hown, hT, hr, hlk⟩ := id X
  have hS : va_S (ow E) s.heap s.heap [] := va_S.rf
  have hl := lv_entry ([.ref (ad 6 i0)]) (n := 2) (Nat.le_of_ble_eq_true rfl)
  rw [lg_entry_eq]
  generalize (lg_sl ([.ref (ad 6 i0)]) ++ List.replicate (2 - (lg_sl ([.ref (ad 6 i0)])).length) Slot.unset).toArray = ls at hl ⊢
  have hl : lv_has ls 2 [(0, .ref (ad 6 i0))] := hl
  unfold f_yX5_takeFlag at hf
  refine lv_aload_n hx hb dX5_takeFlag_0 rfl (lv_at hl 0 rfl) ?_
  refine g_5_8 X hK hW w0 flRX5_61 dX5_takeFlag_1 ?_
  refine lv_istore_n (lv' := [(1, .int (M 6 i0 4)), (0, .ref (ad 6 i0))]) hx hb dX5_takeFlag_4 rfl hl (by decide) rfl (fun ls hl => ?_)
  refine lv_aload_n hx hb dX5_takeFlag_5 rfl (lv_at hl 1 rfl) ?_
  refine lv_iconst (v := 0) hx hb dX5_takeFlag_6 (by decide) ?_
  obtain ⟨M1, hM1, hf⟩ := lt1_some hf
  refine p_5_8 X hK hW hS w0 rfl rfl hM1 flRX5_61 dX5_takeFlag_7 (fun H locs hW hS => ?_)
  refine lv_iload_n hx hb dX5_takeFlag_10 rfl (lv_at hl 0 rfl) ?_
  obtain ⟨z2, hf⟩ := gd_some hf
  obtain ⟨rfl, rfl⟩ := sp2 hf
  exact e_z ⟨hx, hb, hr, hlk⟩ (zn_ok z2) hW hS dX5_takeFlag_11
set_option maxRecDepth 100000 in
set_option maxHeartbeats 4000000 in
theorem k_yX5_takeFlag {p : Program} {l : Launch} {e : Env} {R : Room} {s : State} {m : MethodId} {args : Array Value} {below : List Frame} {meth : Method} {c : Code} {H : Heap} {locs : List Loc} {cells slots : Nat} {Q : State → Prop} {cc : ByteArray} {pc nL index : Nat} {ret : Option FieldType} {own : String} {ls : Array Slot} {rest : List Value} {E : Lay} {ad : Nat → Nat → Nat} {M N : Mem} (X : CX p s m args meth c cc nL ret own) (hK : KK E s) (hZ : ZZ E s) (hW : WD E ad (M, N) H) (hS : va_S (ow E) s.heap H locs) (hsz : ls.size = nL) {i0 : Nat} (w0 : i0 < 6) {r : Int32} {Mr : Mem} (hf : f_yX5_takeFlag M i0 = some (r, Mr)) (hn : Cond.methodLink own index yX5_takeFlag ∈ TB) (hR : 0 + 1 ≤ R.frames ∧ 8 + (2 + 11) + 0 ≤ R.locals) (hC : cells ≤ R.cells ∧ slots ≤ R.slots) (h8 : (rest.map fun v => v.category).sum ≤ 8) (hdg : decode cc pc = .ok (.invokevirtual index, 3)) (kk : ∀ (H1 : Heap) (locs1 : List Loc), WD E ad (Mr, N) H1 → va_S (ow E) s.heap H1 locs1 → W p l e R s m args below meth c H1 locs1 cells slots Q (F0 m (pc + 3) ls (.int r :: rest))) : W p l e R s m args below meth c H locs cells slots Q (F0 m pc ls (.ref (ad 6 i0) :: rest)) := by
  refine va_calli (va_runV (C := RX5) (As := []) (rest := rest) ⟨X.1, X.2.1, X.2.2.1, X.2.2.2.1, X.2.2.2.2.1⟩ (c_yX5_takeFlag l E ad M N i0 w0 r Mr hf) (cwV 0 X.2.2.2.2.1 (gV hn im_yX5_takeFlag se_yX5_takeFlag iniRX5 cd_yX5_takeFlag) rfl rfl rfl (by decide +kernel) hR) ⟨fun a U g mk q => ⟨q.1, q.2.calling⟩, va_recv hK.1 (hW.at (c := 6) (i := i0) w0 rfl) (ci := 5) (q0 := 0) rfl rfl, fun U hU hw => ⟨rfl, PB.at hW hK hZ hS hU hw⟩⟩ rfl rfl hsz rfl (lv_room h8) hdg hC) hS (fun _ _ h => h) (fun _ h => h) (fun r' u t H1 locs1 ht hvm hw hB hz1 hk1 hS1 => ?_)
  obtain ⟨rfl, rfl⟩ := hw
  rw [ht] at hB
  exact kk H1 locs1 hB hS1
def f_yX5_kept (M : Mem) (i0 : Nat) (x1 : Int32) : Option (Int32) := ob1 (f_yX8_isSlot x1) (fun r2 => (if r2 = 0 then (some 0) else gd (¬ (x1 < 0 ∨ 6 ≤ x1.toNatClampNeg)) ((some (M 15 i0 x1.toNatClampNeg)))))
set_option maxRecDepth 100000 in
set_option maxHeartbeats 4000000 in
theorem c_yX5_kept (l : Launch) (E : Lay) (ad : Nat → Nat → Nat) (M N : Mem) (i0 : Nat) (x1 : Int32) (w0 : i0 < 6) (r : Int32) (hf : f_yX5_kept M i0 x1 = some r) : Met l yX5_kept (Cond.code yX5_kept cX5_kept 2 (some .int) :: TB) (rmm 1 20) (va_Pc [.ref (ad 6 i0), .int x1] (PB E ad (M, N))) (Qi E ad r (M, N)) 0 0 (ow E) := by
  refine Met.ofW (cc := cX5_kept) (maxL := 2) (ret := (some .int)) (by decide) rfl ?_
  intro p e s m args below meth c s₁ B hml hv
  obtain ⟨rfl, hW, hK, hZ⟩ := hv
  have hT : ∀ w ∈ TB, w.before _ s = true := fun w h => atoms_spec (ws := (Cond.code yX5_kept cX5_kept 2 (some .int) :: TB)) B.pre w (List.mem_cons_of_mem _ h)
  have X : CX p s m _ meth c cX5_kept 2 (some .int) RX5 := ⟨B.exec, B.bytes, hml, findClass_of_methodNamed B.named, hT, B.returns, B.notSynchronized⟩
  obtain ⟨hx, hb, hml, hown, hT, hr, hlk⟩ := id X
  have hS : va_S (ow E) s.heap s.heap [] := va_S.rf
  have hl := lv_entry ([.ref (ad 6 i0), .int x1]) (n := 2) (Nat.le_of_ble_eq_true rfl)
  rw [lg_entry_eq]
  generalize (lg_sl ([.ref (ad 6 i0), .int x1]) ++ List.replicate (2 - (lg_sl ([.ref (ad 6 i0), .int x1])).length) Slot.unset).toArray = ls at hl ⊢
  have hl : lv_has ls 2 [(0, .ref (ad 6 i0)), (1, .int x1)] := hl
  unfold f_yX5_kept at hf
  refine lv_iload_n hx hb dX5_kept_0 rfl (lv_at hl 1 rfl) ?_
  obtain ⟨r2, h1, hf⟩ := ob1_some hf
  refine k_yX8_isSlotN X hK hZ hW hS hl.1 h1 hK.2.2.2.2.2 ⟨Nat.le_of_ble_eq_true rfl, Nat.le_of_ble_eq_true rfl⟩ ⟨Nat.le_of_ble_eq_true rfl, Nat.le_of_ble_eq_true rfl⟩ (Nat.le_of_ble_eq_true rfl) dX5_kept_1 (fun H locs hW hS => ?_)
  refine lv_if_eq (tgt := 16) hx hb dX5_kept_4 (by decide) (fun c3 => ?_) (fun c3 => ?_)
  · rw [if_pos c3] at hf
    refine lv_iconst (v := 0) hx hb dX5_kept_16 (by decide) ?_
    obtain rfl := sp1 hf
    exact e_i ⟨hx, hb, hr, hlk⟩ hW hS dX5_kept_17
  · rw [if_neg c3] at hf
    refine lv_aload_n hx hb dX5_kept_7 rfl (lv_at hl 0 rfl) ?_
    refine g_5_1 X hK hW w0 flRX5_9 dX5_kept_8 ?_
    refine lv_iload_n hx hb dX5_kept_11 rfl (lv_at hl 1 rfl) ?_
    obtain ⟨b4, hf⟩ := gd_some hf
    refine al_15 X hK hW w0 b4 dX5_kept_12 ?_
    refine lv_goto (tgt := 17) hx hb dX5_kept_13 (by decide) ?_
    obtain rfl := sp1 hf
    exact e_i ⟨hx, hb, hr, hlk⟩ hW hS dX5_kept_17
set_option maxRecDepth 100000 in
set_option maxHeartbeats 4000000 in
theorem k_yX5_kept {p : Program} {l : Launch} {e : Env} {R : Room} {s : State} {m : MethodId} {args : Array Value} {below : List Frame} {meth : Method} {c : Code} {H : Heap} {locs : List Loc} {cells slots : Nat} {Q : State → Prop} {cc : ByteArray} {pc nL index : Nat} {ret : Option FieldType} {own : String} {ls : Array Slot} {rest : List Value} {E : Lay} {ad : Nat → Nat → Nat} {M N : Mem} (X : CX p s m args meth c cc nL ret own) (hK : KK E s) (hZ : ZZ E s) (hW : WD E ad (M, N) H) (hS : va_S (ow E) s.heap H locs) (hsz : ls.size = nL) {i0 : Nat} {x1 : Int32} (w0 : i0 < 6) {r : Int32} (hf : f_yX5_kept M i0 x1 = some r) (hn : Cond.methodLink own index yX5_kept ∈ TB) (hR : 1 + 1 ≤ R.frames ∧ 8 + (2 + 11) + 20 ≤ R.locals) (hC : cells ≤ R.cells ∧ slots ≤ R.slots) (h8 : (rest.map fun v => v.category).sum ≤ 8) (hdg : decode cc pc = .ok (.invokevirtual index, 3)) (kk : ∀ (H1 : Heap) (locs1 : List Loc), WD E ad (M, N) H1 → va_S (ow E) s.heap H1 locs1 → W p l e R s m args below meth c H1 locs1 cells slots Q (F0 m (pc + 3) ls (.int r :: rest))) : W p l e R s m args below meth c H locs cells slots Q (F0 m pc ls (.int x1 :: .ref (ad 6 i0) :: rest)) := by
  refine va_calli (va_runV (C := RX5) (As := [.int x1]) (rest := rest) ⟨X.1, X.2.1, X.2.2.1, X.2.2.2.1, X.2.2.2.2.1⟩ (c_yX5_kept l E ad M N i0 x1 w0 r hf) (cwV 1 X.2.2.2.2.1 (gV hn im_yX5_kept se_yX5_kept iniRX5 cd_yX5_kept) rfl rfl rfl (by decide +kernel) hR) ⟨fun a U g mk q => ⟨q.1, q.2.calling⟩, va_recv hK.1 (hW.at (c := 6) (i := i0) w0 rfl) (ci := 5) (q0 := 0) rfl rfl, fun U hU hw => ⟨rfl, PB.at hW hK hZ hS hU hw⟩⟩ rfl rfl hsz rfl (lv_room h8) hdg hC) hS (fun _ _ h => h) (fun _ h => h) (fun r' u t H1 locs1 ht hvm hw hB hz1 hk1 hS1 => ?_)
  obtain ⟨rfl, rfl⟩ := hw
  rw [ht] at hB
  exact kk H1 locs1 hB hS1
def f_yX5_keep (M : Mem) (i0 : Nat) (x1 : Int32) (x2 : Int32) : Option Mem := ob1 (f_yX8_isSlot x1) (fun r2 => (if r2 = 0 then (some M) else gd (¬ (x1 < 0 ∨ 6 ≤ x1.toNatClampNeg)) (lt1 (mp M 15 i0 x1.toNatClampNeg x2) (fun M5 => (some M5)))))
set_option maxRecDepth 100000 in
set_option maxHeartbeats 4000000 in
theorem c_yX5_keep (l : Launch) (E : Lay) (ad : Nat → Nat → Nat) (M N : Mem) (i0 : Nat) (x1 : Int32) (x2 : Int32) (w0 : i0 < 6) (Mr : Mem) (hf : f_yX5_keep M i0 x1 x2 = some Mr) : Met l yX5_keep (Cond.code yX5_keep cX5_keep 3 none :: TB) (rmm 1 20) (va_Pc [.ref (ad 6 i0), .int x1, .int x2] (PB E ad (M, N))) (Qv E ad (Mr, N)) 0 0 (ow E) := by
  refine Met.ofW (cc := cX5_keep) (maxL := 3) (ret := none) (by decide) rfl ?_
  intro p e s m args below meth c s₁ B hml hv
  obtain ⟨rfl, hW, hK, hZ⟩ := hv
  have hT : ∀ w ∈ TB, w.before _ s = true := fun w h => atoms_spec (ws := (Cond.code yX5_keep cX5_keep 3 none :: TB)) B.pre w (List.mem_cons_of_mem _ h)
  have X : CX p s m _ meth c cX5_keep 3 none RX5 := ⟨B.exec, B.bytes, hml, findClass_of_methodNamed B.named, hT, B.returns, B.notSynchronized⟩
  obtain ⟨hx, hb, hml, hown, hT, hr, hlk⟩ := id X
  have hS : va_S (ow E) s.heap s.heap [] := va_S.rf
  have hl := lv_entry ([.ref (ad 6 i0), .int x1, .int x2]) (n := 3) (Nat.le_of_ble_eq_true rfl)
  rw [lg_entry_eq]
  generalize (lg_sl ([.ref (ad 6 i0), .int x1, .int x2]) ++ List.replicate (3 - (lg_sl ([.ref (ad 6 i0), .int x1, .int x2])).length) Slot.unset).toArray = ls at hl ⊢
  have hl : lv_has ls 3 [(0, .ref (ad 6 i0)), (1, .int x1), (2, .int x2)] := hl
  unfold f_yX5_keep at hf
  refine lv_iload_n hx hb dX5_keep_0 rfl (lv_at hl 1 rfl) ?_
  obtain ⟨r2, h1, hf⟩ := ob1_some hf
  refine k_yX8_isSlotN X hK hZ hW hS hl.1 h1 hK.2.2.2.2.2 ⟨Nat.le_of_ble_eq_true rfl, Nat.le_of_ble_eq_true rfl⟩ ⟨Nat.le_of_ble_eq_true rfl, Nat.le_of_ble_eq_true rfl⟩ (Nat.le_of_ble_eq_true rfl) dX5_keep_1 (fun H locs hW hS => ?_)
  refine lv_if_eq (tgt := 14) hx hb dX5_keep_4 (by decide) (fun c3 => ?_) (fun c3 => ?_)
  · rw [if_pos c3] at hf
    obtain rfl := sp1 hf
    exact e_v ⟨hx, hb, hr, hlk⟩ hW hS dX5_keep_14
  · rw [if_neg c3] at hf
    refine lv_aload_n hx hb dX5_keep_7 rfl (lv_at hl 0 rfl) ?_
    refine g_5_1 X hK hW w0 flRX5_9 dX5_keep_8 ?_
    refine lv_iload_n hx hb dX5_keep_11 rfl (lv_at hl 1 rfl) ?_
    refine lv_iload_n hx hb dX5_keep_12 rfl (lv_at hl 2 rfl) ?_
    obtain ⟨b4, hf⟩ := gd_some hf
    obtain ⟨M5, hM5, hf⟩ := lt1_some hf
    refine as_15 X hK hW hS w0 b4 hM5 dX5_keep_13 (fun H locs hW hS => ?_)
    obtain rfl := sp1 hf
    exact e_v ⟨hx, hb, hr, hlk⟩ hW hS dX5_keep_14
set_option maxRecDepth 100000 in
set_option maxHeartbeats 4000000 in
theorem k_yX5_keep {p : Program} {l : Launch} {e : Env} {R : Room} {s : State} {m : MethodId} {args : Array Value} {below : List Frame} {meth : Method} {c : Code} {H : Heap} {locs : List Loc} {cells slots : Nat} {Q : State → Prop} {cc : ByteArray} {pc nL index : Nat} {ret : Option FieldType} {own : String} {ls : Array Slot} {rest : List Value} {E : Lay} {ad : Nat → Nat → Nat} {M N : Mem} (X : CX p s m args meth c cc nL ret own) (hK : KK E s) (hZ : ZZ E s) (hW : WD E ad (M, N) H) (hS : va_S (ow E) s.heap H locs) (hsz : ls.size = nL) {i0 : Nat} {x1 : Int32} {x2 : Int32} (w0 : i0 < 6) {Mr : Mem} (hf : f_yX5_keep M i0 x1 x2 = some Mr) (hn : Cond.methodLink own index yX5_keep ∈ TB) (hR : 1 + 1 ≤ R.frames ∧ 8 + (3 + 11) + 20 ≤ R.locals) (hC : cells ≤ R.cells ∧ slots ≤ R.slots) (h8 : (rest.map fun v => v.category).sum ≤ 8) (hdg : decode cc pc = .ok (.invokevirtual index, 3)) (kk : ∀ (H1 : Heap) (locs1 : List Loc), WD E ad (Mr, N) H1 → va_S (ow E) s.heap H1 locs1 → W p l e R s m args below meth c H1 locs1 cells slots Q (F0 m (pc + 3) ls (rest))) : W p l e R s m args below meth c H locs cells slots Q (F0 m pc ls (.int x2 :: .int x1 :: .ref (ad 6 i0) :: rest)) := by
  refine va_callv (va_runV (C := RX5) (As := [.int x1, .int x2]) (rest := rest) ⟨X.1, X.2.1, X.2.2.1, X.2.2.2.1, X.2.2.2.2.1⟩ (c_yX5_keep l E ad M N i0 x1 x2 w0 Mr hf) (cwV 2 X.2.2.2.2.1 (gV hn im_yX5_keep se_yX5_keep iniRX5 cd_yX5_keep) rfl rfl rfl (by decide +kernel) hR) ⟨fun a U g mk q => ⟨q.1, q.2.calling⟩, va_recv hK.1 (hW.at (c := 6) (i := i0) w0 rfl) (ci := 5) (q0 := 0) rfl rfl, fun U hU hw => ⟨rfl, PB.at hW hK hZ hS hU hw⟩⟩ rfl rfl hsz rfl (lv_room h8) hdg hC) hS (fun _ _ h => h) (fun _ h => h) (fun u t H1 locs1 ht hvm hw hB hz1 hk1 hS1 => ?_)
  subst hw
  rw [ht] at hB
  exact kk H1 locs1 hB hS1
