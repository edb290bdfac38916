def f_yX0_inHand (M : Mem) (i1 : Nat) (x2 : Int32) : Option (Option Nat) := ob1 (f_yX5_held M i1 x2) (fun r2 => ob1 (f_yX4_at M r2) (fun r4 => om r4 ((some none)) (fun j5 => (some (some j5)))))
set_option maxRecDepth 100000 in
set_option maxHeartbeats 4000000 in
theorem c_yX0_inHand (l : Launch) (E : Lay) (ad : Nat → Nat → Nat) (M N : Mem) (i1 : Nat) (x2 : Int32) (w1 : i1 < 6) (r : Option Nat) (hf : f_yX0_inHand M i1 x2 = some r) : Met l yX0_inHand (Cond.code yX0_inHand cX0_inHand 3 (some (.object "MonitorTurns$Thing")) :: TB) (rmm 2 41) (va_Pc [.ref (ad 3 0), .ref (ad 6 i1), .int x2] (PB E ad (M, N))) (Qq E ad ((r).map (ad 8)) (M, N)) 0 0 (ow E) := by
  refine Met.ofW (cc := cX0_inHand) (maxL := 3) (ret := (some (.object "MonitorTurns$Thing"))) (by decide) rfl ?_
  intro p e s m args below meth c s₁ B hml hv
  obtain ⟨rfl, hW, hK, hZ⟩ := hv
  have hT : ∀ w ∈ TB, w.before _ s = true := fun w h => atoms_spec (ws := (Cond.code yX0_inHand cX0_inHand 3 (some (.object "MonitorTurns$Thing")) :: TB)) B.pre w (List.mem_cons_of_mem _ h)
  have X : CX p s m _ meth c cX0_inHand 3 (some (.object "MonitorTurns$Thing")) RX0 := ⟨B.exec, B.bytes, hml, findClass_of_methodNamed B.named, hT, B.returns, B.notSynchronized⟩
  obtain ⟨hx, hb, hml, hown, hT, hr, hlk⟩ := id X
  have hS : va_S (ow E) s.heap s.heap [] := va_S.rf
  have hl := lv_entry ([.ref (ad 3 0), .ref (ad 6 i1), .int x2]) (n := 3) (Nat.le_of_ble_eq_true rfl)
  rw [lg_entry_eq]
  generalize (lg_sl ([.ref (ad 3 0), .ref (ad 6 i1), .int x2]) ++ List.replicate (3 - (lg_sl ([.ref (ad 3 0), .ref (ad 6 i1), .int x2])).length) Slot.unset).toArray = ls at hl ⊢
  have hl : lv_has ls 3 [(0, .ref (ad 3 0)), (1, .ref (ad 6 i1)), (2, .int x2)] := hl
  unfold f_yX0_inHand at hf
  refine lv_aload_n hx hb dX0_inHand_0 rfl (lv_at hl 0 rfl) ?_
  refine g_0_0 X hK hW flRX0_9 dX0_inHand_1 ?_
  refine lv_aload_n hx hb dX0_inHand_4 rfl (lv_at hl 1 rfl) ?_
  refine lv_iload_n hx hb dX0_inHand_5 rfl (lv_at hl 2 rfl) ?_
  obtain ⟨r2, h1, hf⟩ := ob1_some hf
  refine k_yX5_held X hK hZ hW hS hl.1 w1 h1 mlRX0_89 ⟨Nat.le_of_ble_eq_true rfl, Nat.le_of_ble_eq_true rfl⟩ ⟨Nat.le_of_ble_eq_true rfl, Nat.le_of_ble_eq_true rfl⟩ (Nat.le_of_ble_eq_true rfl) dX0_inHand_6 (fun H locs hW hS => ?_)
  obtain ⟨r4, h3, hf⟩ := ob1_some hf
  rcases r4 with _ | j5
  · rw [om_n] at hf
    refine k_yX4_atn X hK hZ hW hS hl.1 h3 mlRX0_113 ⟨Nat.le_of_ble_eq_true rfl, Nat.le_of_ble_eq_true rfl⟩ ⟨Nat.le_of_ble_eq_true rfl, Nat.le_of_ble_eq_true rfl⟩ (Nat.le_of_ble_eq_true rfl) dX0_inHand_9 (fun H locs hW hS => ?_)
    obtain rfl := sp1 hf
    exact e_q ⟨hx, hb, hr, hlk⟩ (Or.inl ⟨_, rfl⟩) rfl hW hS dX0_inHand_12
  · rw [om_s] at hf
    refine k_yX4_ats X hK hZ hW hS hl.1 h3 mlRX0_113 ⟨Nat.le_of_ble_eq_true rfl, Nat.le_of_ble_eq_true rfl⟩ ⟨Nat.le_of_ble_eq_true rfl, Nat.le_of_ble_eq_true rfl⟩ (Nat.le_of_ble_eq_true rfl) dX0_inHand_9 (fun H locs hW hS => ?_)
    obtain rfl := sp1 hf
    exact e_q ⟨hx, hb, hr, hlk⟩ (Or.inl ⟨_, rfl⟩) rfl hW hS dX0_inHand_12
set_option maxRecDepth 100000 in
set_option maxHeartbeats 4000000 in
theorem k_yX0_inHandn {p : Program} {l : Launch} {e : Env} {R : Room} {s : State} {m : MethodId} {args : Array Value} {below : List Frame} {meth : Method} {c : Code} {H : Heap} {locs : List Loc} {cells slots : Nat} {Q : State → Prop} {cc : ByteArray} {pc nL index : Nat} {ret : Option FieldType} {own : String} {ls : Array Slot} {rest : List Value} {E : Lay} {ad : Nat → Nat → Nat} {M N : Mem} (X : CX p s m args meth c cc nL ret own) (hK : KK E s) (hZ : ZZ E s) (hW : WD E ad (M, N) H) (hS : va_S (ow E) s.heap H locs) (hsz : ls.size = nL) {i1 : Nat} {x2 : Int32} (w1 : i1 < 6) (hf : f_yX0_inHand M i1 x2 = some none) (hn : Cond.methodLink own index yX0_inHand ∈ TB) (hR : 2 + 1 ≤ R.frames ∧ 8 + (3 + 11) + 41 ≤ R.locals) (hC : cells ≤ R.cells ∧ slots ≤ R.slots) (h8 : (rest.map fun v => v.category).sum ≤ 8) (hdg : decode cc pc = .ok (.invokevirtual index, 3)) (kk : ∀ (H1 : Heap) (locs1 : List Loc), WD E ad (M, N) H1 → va_S (ow E) s.heap H1 locs1 → W p l e R s m args below meth c H1 locs1 cells slots Q (F0 m (pc + 3) ls (.null :: rest))) : W p l e R s m args below meth c H locs cells slots Q (F0 m pc ls (.int x2 :: .ref (ad 6 i1) :: .ref (ad 3 0) :: rest)) := by
  refine va_callq (va_runV (C := RX0) (As := [.ref (ad 6 i1), .int x2]) (rest := rest) ⟨X.1, X.2.1, X.2.2.1, X.2.2.2.1, X.2.2.2.2.1⟩ (c_yX0_inHand l E ad M N i1 x2 w1 none hf) (cwV 2 X.2.2.2.2.1 (gV hn im_yX0_inHand se_yX0_inHand iniRX0 cd_yX0_inHand) rfl rfl rfl (by decide +kernel) hR) ⟨fun a U g mk q => ⟨q.1, q.2.calling⟩, va_recv hK.1 (hW.at (c := 3) (i := 0) Nat.zero_lt_one rfl) (ci := 0) (q0 := 0) rfl rfl, fun U hU hw => ⟨rfl, PB.at hW hK hZ hS hU hw⟩⟩ rfl rfl hsz rfl (lv_room h8) hdg hC) hS (fun _ _ h => h) (fun _ h => h) (fun r' u t H1 locs1 ht hvm hw hB hz1 hk1 hS1 => ?_)
  obtain ⟨rfl, rfl⟩ := hw
  rw [ht] at hB
  exact kk H1 locs1 hB hS1
set_option maxRecDepth 100000 in
set_option maxHeartbeats 4000000 in
theorem k_yX0_inHands {p : Program} {l : Launch} {e : Env} {R : Room} {s : State} {m : MethodId} {args : Array Value} {below : List Frame} {meth : Method} {c : Code} {H : Heap} {locs : List Loc} {cells slots : Nat} {Q : State → Prop} {cc : ByteArray} {pc nL index : Nat} {ret : Option FieldType} {own : String} {ls : Array Slot} {rest : List Value} {E : Lay} {ad : Nat → Nat → Nat} {M N : Mem} (X : CX p s m args meth c cc nL ret own) (hK : KK E s) (hZ : ZZ E s) (hW : WD E ad (M, N) H) (hS : va_S (ow E) s.heap H locs) (hsz : ls.size = nL) {i1 : Nat} {x2 : Int32} (w1 : i1 < 6) {jr : Nat} (hf : f_yX0_inHand M i1 x2 = some (some jr)) (hn : Cond.methodLink own index yX0_inHand ∈ TB) (hR : 2 + 1 ≤ R.frames ∧ 8 + (3 + 11) + 41 ≤ R.locals) (hC : cells ≤ R.cells ∧ slots ≤ R.slots) (h8 : (rest.map fun v => v.category).sum ≤ 8) (hdg : decode cc pc = .ok (.invokevirtual index, 3)) (kk : ∀ (H1 : Heap) (locs1 : List Loc), WD E ad (M, N) H1 → va_S (ow E) s.heap H1 locs1 → W p l e R s m args below meth c H1 locs1 cells slots Q (F0 m (pc + 3) ls (.ref (ad 8 jr) :: rest))) : W p l e R s m args below meth c H locs cells slots Q (F0 m pc ls (.int x2 :: .ref (ad 6 i1) :: .ref (ad 3 0) :: rest)) := by
  refine va_callq (va_runV (C := RX0) (As := [.ref (ad 6 i1), .int x2]) (rest := rest) ⟨X.1, X.2.1, X.2.2.1, X.2.2.2.1, X.2.2.2.2.1⟩ (c_yX0_inHand l E ad M N i1 x2 w1 (some jr) hf) (cwV 2 X.2.2.2.2.1 (gV hn im_yX0_inHand se_yX0_inHand iniRX0 cd_yX0_inHand) rfl rfl rfl (by decide +kernel) hR) ⟨fun a U g mk q => ⟨q.1, q.2.calling⟩, va_recv hK.1 (hW.at (c := 3) (i := 0) Nat.zero_lt_one rfl) (ci := 0) (q0 := 0) rfl rfl, fun U hU hw => ⟨rfl, PB.at hW hK hZ hS hU hw⟩⟩ rfl rfl hsz rfl (lv_room h8) hdg hC) hS (fun _ _ h => h) (fun _ h => h) (fun r' u t H1 locs1 ht hvm hw hB hz1 hk1 hS1 => ?_)
  obtain ⟨rfl, rfl⟩ := hw
  rw [ht] at hB
  exact kk H1 locs1 hB hS1
def f_yX0_holdNumber (M : Mem) (i1 : Nat) (x2 : Int32) (x3 : Int32) : Option (Int32 × Mem) := (if x3 = (-1) then ob1 (f_yX5_grasp M i1 x2 (-4)) (fun M4 => (some (0, M4))) else ob1 (f_yX4_at M x3) (fun r6 => om r6 ((some (2, M))) (fun j7 => ob1 (f_yX5_grasp M i1 x2 x3) (fun M10 => (some (0, M10))))))
set_option maxRecDepth 100000 in
set_option maxHeartbeats 4000000 in
theorem c_yX0_holdNumber (l : Launch) (E : Lay) (ad : Nat → Nat → Nat) (M N : Mem) (i1 : Nat) (x2 : Int32) (x3 : Int32) (w1 : i1 < 6) (r : Int32) (Mr : Mem) (hf : f_yX0_holdNumber M i1 x2 x3 = some (r, Mr)) : Met l yX0_holdNumber (Cond.code yX0_holdNumber cX0_holdNumber 4 (some .int) :: TB) (rmm 2 42) (va_Pc [.ref (ad 3 0), .ref (ad 6 i1), .int x2, .int x3] (PB E ad (M, N))) (Qi E ad r (Mr, N)) 0 0 (ow E) := by
  refine Met.ofW (cc := cX0_holdNumber) (maxL := 4) (ret := (some .int)) (by decide) rfl ?_
  intro p e s m args below meth c s₁ B hml hv
  obtain ⟨rfl, hW, hK, hZ⟩ := hv
  have hT : ∀ w ∈ TB, w.before _ s = true := fun w h => atoms_spec (ws := (Cond.code yX0_holdNumber cX0_holdNumber 4 (some .int) :: TB)) B.pre w (List.mem_cons_of_mem _ h)
  have X : CX p s m _ meth c cX0_holdNumber 4 (some .int) RX0 := ⟨B.exec, B.bytes, hml, findClass_of_methodNamed B.named, hT, B.returns, B.notSynchronized⟩
  obtain ⟨hx, hb, hml, hown, hT, hr, hlk⟩ := id X
  have hS : va_S (ow E) s.heap s.heap [] := va_S.rf
  have hl := lv_entry ([.ref (ad 3 0), .ref (ad 6 i1), .int x2, .int x3]) (n := 4) (Nat.le_of_ble_eq_true rfl)
  rw [lg_entry_eq]
  generalize (lg_sl ([.ref (ad 3 0), .ref (ad 6 i1), .int x2, .int x3]) ++ List.replicate (4 - (lg_sl ([.ref (ad 3 0), .ref (ad 6 i1), .int x2, .int x3])).length) Slot.unset).toArray = ls at hl ⊢
  have hl : lv_has ls 4 [(0, .ref (ad 3 0)), (1, .ref (ad 6 i1)), (2, .int x2), (3, .int x3)] := hl
  unfold f_yX0_holdNumber at hf
  refine lv_iload_n hx hb dX0_holdNumber_0 rfl (lv_at hl 3 rfl) ?_
  refine lv_iconst (v := -1) hx hb dX0_holdNumber_1 (by decide) ?_
  refine lv_icmp_eq (tgt := 18) hx hb dX0_holdNumber_2 (by decide) (fun c1 => ?_) (fun c1 => ?_)
  · rw [if_pos c1] at hf
    refine lv_aload_n hx hb dX0_holdNumber_18 rfl (lv_at hl 1 rfl) ?_
    refine lv_iload_n hx hb dX0_holdNumber_19 rfl (lv_at hl 2 rfl) ?_
    refine lv_iload_n hx hb dX0_holdNumber_20 rfl (lv_at hl 3 rfl) ?_
    refine lv_iconst (v := -1) hx hb dX0_holdNumber_21 (by decide) ?_
    refine lv_icmp_ne (tgt := 30) hx hb dX0_holdNumber_22 (by decide) (fun c2 => ?_) (fun c2 => ?_)
    · exfalso; have := q_eq (b := -1) (by decide) c1; have := q_ne (b := -1) (by decide) c2; omega
    · skip
      refine lv_bipush (v := -4) hx hb dX0_holdNumber_25 (by decide) ?_
      refine lv_goto (tgt := 31) hx hb dX0_holdNumber_27 (by decide) ?_
      obtain ⟨M4, h3, hf⟩ := ob1_some hf
      refine k_yX5_grasp X hK hZ hW hS hl.1 w1 h3 mlRX0_92 ⟨Nat.le_of_ble_eq_true rfl, Nat.le_of_ble_eq_true rfl⟩ ⟨Nat.le_of_ble_eq_true rfl, Nat.le_of_ble_eq_true rfl⟩ (Nat.le_of_ble_eq_true rfl) dX0_holdNumber_31 (fun H locs hW hS => ?_)
      refine lv_iconst (v := 0) hx hb dX0_holdNumber_34 (by decide) ?_
      obtain ⟨rfl, rfl⟩ := sp2 hf
      exact e_i ⟨hx, hb, hr, hlk⟩ hW hS dX0_holdNumber_35
  · rw [if_neg c1] at hf
    refine lv_aload_n hx hb dX0_holdNumber_5 rfl (lv_at hl 0 rfl) ?_
    refine g_0_0 X hK hW flRX0_9 dX0_holdNumber_6 ?_
    refine lv_iload_n hx hb dX0_holdNumber_9 rfl (lv_at hl 3 rfl) ?_
    obtain ⟨r6, h5, hf⟩ := ob1_some hf
    rcases r6 with _ | j7
    · rw [om_n] at hf
      refine k_yX4_atn X hK hZ hW hS hl.1 h5 mlRX0_113 ⟨Nat.le_of_ble_eq_true rfl, Nat.le_of_ble_eq_true rfl⟩ ⟨Nat.le_of_ble_eq_true rfl, Nat.le_of_ble_eq_true rfl⟩ (Nat.le_of_ble_eq_true rfl) dX0_holdNumber_10 (fun H locs hW hS => ?_)
      refine lv_ifnonnullN hx hb dX0_holdNumber_13 ?_
      refine lv_iconst (v := 2) hx hb dX0_holdNumber_16 (by decide) ?_
      obtain ⟨rfl, rfl⟩ := sp2 hf
      exact e_i ⟨hx, hb, hr, hlk⟩ hW hS dX0_holdNumber_17
    · rw [om_s] at hf
      refine k_yX4_ats X hK hZ hW hS hl.1 h5 mlRX0_113 ⟨Nat.le_of_ble_eq_true rfl, Nat.le_of_ble_eq_true rfl⟩ ⟨Nat.le_of_ble_eq_true rfl, Nat.le_of_ble_eq_true rfl⟩ (Nat.le_of_ble_eq_true rfl) dX0_holdNumber_10 (fun H locs hW hS => ?_)
      refine lv_ifnonnull (tgt := 18) hx hb dX0_holdNumber_13 (by decide) ?_
      refine lv_aload_n hx hb dX0_holdNumber_18 rfl (lv_at hl 1 rfl) ?_
      refine lv_iload_n hx hb dX0_holdNumber_19 rfl (lv_at hl 2 rfl) ?_
      refine lv_iload_n hx hb dX0_holdNumber_20 rfl (lv_at hl 3 rfl) ?_
      refine lv_iconst (v := -1) hx hb dX0_holdNumber_21 (by decide) ?_
      refine lv_icmp_ne (tgt := 30) hx hb dX0_holdNumber_22 (by decide) (fun c8 => ?_) (fun c8 => ?_)
      · skip
        refine lv_iload_n hx hb dX0_holdNumber_30 rfl (lv_at hl 3 rfl) ?_
        obtain ⟨M10, h9, hf⟩ := ob1_some hf
        refine k_yX5_grasp X hK hZ hW hS hl.1 w1 h9 mlRX0_92 ⟨Nat.le_of_ble_eq_true rfl, Nat.le_of_ble_eq_true rfl⟩ ⟨Nat.le_of_ble_eq_true rfl, Nat.le_of_ble_eq_true rfl⟩ (Nat.le_of_ble_eq_true rfl) dX0_holdNumber_31 (fun H locs hW hS => ?_)
        refine lv_iconst (v := 0) hx hb dX0_holdNumber_34 (by decide) ?_
        obtain ⟨rfl, rfl⟩ := sp2 hf
        exact e_i ⟨hx, hb, hr, hlk⟩ hW hS dX0_holdNumber_35
      · exfalso; have := q_ne (b := -1) (by decide) c1; have := q_eq (b := -1) (by decide) c8; omega
set_option maxRecDepth 100000 in
set_option maxHeartbeats 4000000 in
theorem k_yX0_holdNumber {p : Program} {l : Launch} {e : Env} {R : Room} {s : State} {m : MethodId} {args : Array Value} {below : List Frame} {meth : Method} {c : Code} {H : Heap} {locs : List Loc} {cells slots : Nat} {Q : State → Prop} {cc : ByteArray} {pc nL index : Nat} {ret : Option FieldType} {own : String} {ls : Array Slot} {rest : List Value} {E : Lay} {ad : Nat → Nat → Nat} {M N : Mem} (X : CX p s m args meth c cc nL ret own) (hK : KK E s) (hZ : ZZ E s) (hW : WD E ad (M, N) H) (hS : va_S (ow E) s.heap H locs) (hsz : ls.size = nL) {i1 : Nat} {x2 : Int32} {x3 : Int32} (w1 : i1 < 6) {r : Int32} {Mr : Mem} (hf : f_yX0_holdNumber M i1 x2 x3 = some (r, Mr)) (hn : Cond.methodLink own index yX0_holdNumber ∈ TB) (hR : 2 + 1 ≤ R.frames ∧ 8 + (4 + 11) + 42 ≤ R.locals) (hC : cells ≤ R.cells ∧ slots ≤ R.slots) (h8 : (rest.map fun v => v.category).sum ≤ 8) (hdg : decode cc pc = .ok (.invokevirtual index, 3)) (kk : ∀ (H1 : Heap) (locs1 : List Loc), WD E ad (Mr, N) H1 → va_S (ow E) s.heap H1 locs1 → W p l e R s m args below meth c H1 locs1 cells slots Q (F0 m (pc + 3) ls (.int r :: rest))) : W p l e R s m args below meth c H locs cells slots Q (F0 m pc ls (.int x3 :: .int x2 :: .ref (ad 6 i1) :: .ref (ad 3 0) :: rest)) := by
  refine va_calli (va_runV (C := RX0) (As := [.ref (ad 6 i1), .int x2, .int x3]) (rest := rest) ⟨X.1, X.2.1, X.2.2.1, X.2.2.2.1, X.2.2.2.2.1⟩ (c_yX0_holdNumber l E ad M N i1 x2 x3 w1 r Mr hf) (cwV 3 X.2.2.2.2.1 (gV hn im_yX0_holdNumber se_yX0_holdNumber iniRX0 cd_yX0_holdNumber) rfl rfl rfl (by decide +kernel) hR) ⟨fun a U g mk q => ⟨q.1, q.2.calling⟩, va_recv hK.1 (hW.at (c := 3) (i := 0) Nat.zero_lt_one rfl) (ci := 0) (q0 := 0) rfl rfl, fun U hU hw => ⟨rfl, PB.at hW hK hZ hS hU hw⟩⟩ rfl rfl hsz rfl (lv_room h8) hdg hC) hS (fun _ _ h => h) (fun _ h => h) (fun r' u t H1 locs1 ht hvm hw hB hz1 hk1 hS1 => ?_)
  obtain ⟨rfl, rfl⟩ := hw
  rw [ht] at hB
  exact kk H1 locs1 hB hS1
def f_yX0_readCount (M : Mem) (i1 : Nat) (x2 : Int32) (o3 : Option Nat) : Option (Int32 × Mem) := om o3 ((some (1, M))) (fun i3 => ob1 (f_yX7_isBox M i3) (fun r2 => (if r2 = 0 then (some (3, M)) else ob1 (f_yX5_keep M i1 x2 (M 8 i3 1)) (fun M5 => (some (0, M5))))))
set_option maxRecDepth 100000 in
set_option maxHeartbeats 4000000 in
theorem c_yX0_readCount (l : Launch) (E : Lay) (ad : Nat → Nat → Nat) (M N : Mem) (i1 : Nat) (x2 : Int32) (o3 : Option Nat) (w1 : i1 < 6) (w3 : om o3 True (fun i => i < (M 60 0 1).toNatClampNeg)) (r : Int32) (Mr : Mem) (hf : f_yX0_readCount M i1 x2 o3 = some (r, Mr)) : Met l yX0_readCount (Cond.code yX0_readCount cX0_readCount 4 (some .int) :: TB) (rmm 2 42) (va_Pc [.ref (ad 3 0), .ref (ad 6 i1), .int x2, va_rf (o3.map (ad 8))] (PB E ad (M, N))) (Qi E ad r (Mr, N)) 0 0 (ow E) := by
  refine Met.ofW (cc := cX0_readCount) (maxL := 4) (ret := (some .int)) (by decide) rfl ?_
  intro p e s m args below meth c s₁ B hml hv
  obtain ⟨rfl, hW, hK, hZ⟩ := hv
  have hT : ∀ w ∈ TB, w.before _ s = true := fun w h => atoms_spec (ws := (Cond.code yX0_readCount cX0_readCount 4 (some .int) :: TB)) B.pre w (List.mem_cons_of_mem _ h)
  have X : CX p s m _ meth c cX0_readCount 4 (some .int) RX0 := ⟨B.exec, B.bytes, hml, findClass_of_methodNamed B.named, hT, B.returns, B.notSynchronized⟩
  obtain ⟨hx, hb, hml, hown, hT, hr, hlk⟩ := id X
  have hS : va_S (ow E) s.heap s.heap [] := va_S.rf
  unfold f_yX0_readCount at hf
  rcases o3 with _ | i3
  · rw [om_n] at hf
    refine W.eq (g2 := entryFrame m ([.ref (ad 3 0), .ref (ad 6 i1), .int x2, .null] : List Value).toArray 4) rfl ?_
    have hl := lv_entry ([.ref (ad 3 0), .ref (ad 6 i1), .int x2, .null]) (n := 4) (Nat.le_of_ble_eq_true rfl)
    rw [lg_entry_eq]
    generalize (lg_sl ([.ref (ad 3 0), .ref (ad 6 i1), .int x2, .null]) ++ List.replicate (4 - (lg_sl ([.ref (ad 3 0), .ref (ad 6 i1), .int x2, .null])).length) Slot.unset).toArray = ls at hl ⊢
    have hl : lv_has ls 4 [(0, .ref (ad 3 0)), (1, .ref (ad 6 i1)), (2, .int x2), (3, .null)] := hl
    refine lv_aload_nN hx hb dX0_readCount_0 rfl (lv_at hl 3 rfl) ?_
    refine lv_ifnonnullN hx hb dX0_readCount_1 ?_
    refine lv_iconst (v := 1) hx hb dX0_readCount_4 (by decide) ?_
    obtain ⟨rfl, rfl⟩ := sp2 hf
    exact e_i ⟨hx, hb, hr, hlk⟩ hW hS dX0_readCount_5
  · rw [om_s] at hf
    refine W.eq (g2 := entryFrame m ([.ref (ad 3 0), .ref (ad 6 i1), .int x2, .ref (ad 8 i3)] : List Value).toArray 4) rfl ?_
    have hl := lv_entry ([.ref (ad 3 0), .ref (ad 6 i1), .int x2, .ref (ad 8 i3)]) (n := 4) (Nat.le_of_ble_eq_true rfl)
    rw [lg_entry_eq]
    generalize (lg_sl ([.ref (ad 3 0), .ref (ad 6 i1), .int x2, .ref (ad 8 i3)]) ++ List.replicate (4 - (lg_sl ([.ref (ad 3 0), .ref (ad 6 i1), .int x2, .ref (ad 8 i3)])).length) Slot.unset).toArray = ls at hl ⊢
    have hl : lv_has ls 4 [(0, .ref (ad 3 0)), (1, .ref (ad 6 i1)), (2, .int x2), (3, .ref (ad 8 i3))] := hl
    refine lv_aload_n hx hb dX0_readCount_0 rfl (lv_at hl 3 rfl) ?_
    refine lv_ifnonnull (tgt := 6) hx hb dX0_readCount_1 (by decide) ?_
    refine lv_aload_n hx hb dX0_readCount_6 rfl (lv_at hl 3 rfl) ?_
    obtain ⟨r2, h1, hf⟩ := ob1_some hf
    refine k_yX7_isBox X hK hZ hW hS hl.1 w3 h1 mlRX0_125 ⟨Nat.le_of_ble_eq_true rfl, Nat.le_of_ble_eq_true rfl⟩ ⟨Nat.le_of_ble_eq_true rfl, Nat.le_of_ble_eq_true rfl⟩ (Nat.le_of_ble_eq_true rfl) dX0_readCount_7 (fun H locs hW hS => ?_)
    refine lv_if_ne (tgt := 15) hx hb dX0_readCount_10 (by decide) (fun c3 => ?_) (fun c3 => ?_)
    · rw [if_neg c3] at hf
      refine lv_aload_n hx hb dX0_readCount_15 rfl (lv_at hl 1 rfl) ?_
      refine lv_iload_n hx hb dX0_readCount_16 rfl (lv_at hl 2 rfl) ?_
      refine lv_aload_n hx hb dX0_readCount_17 rfl (lv_at hl 3 rfl) ?_
      refine g_7_3 X hK hW w3 flRX0_130 dX0_readCount_18 ?_
      obtain ⟨M5, h4, hf⟩ := ob1_some hf
      refine k_yX5_keep X hK hZ hW hS hl.1 w1 h4 mlRX0_68 ⟨Nat.le_of_ble_eq_true rfl, Nat.le_of_ble_eq_true rfl⟩ ⟨Nat.le_of_ble_eq_true rfl, Nat.le_of_ble_eq_true rfl⟩ (Nat.le_of_ble_eq_true rfl) dX0_readCount_21 (fun H locs hW hS => ?_)
      refine lv_iconst (v := 0) hx hb dX0_readCount_24 (by decide) ?_
      obtain ⟨rfl, rfl⟩ := sp2 hf
      exact e_i ⟨hx, hb, hr, hlk⟩ hW hS dX0_readCount_25
    · rw [if_pos c3] at hf
      refine lv_iconst (v := 3) hx hb dX0_readCount_13 (by decide) ?_
      obtain ⟨rfl, rfl⟩ := sp2 hf
      exact e_i ⟨hx, hb, hr, hlk⟩ hW hS dX0_readCount_14
set_option maxRecDepth 100000 in
set_option maxHeartbeats 4000000 in
theorem k_yX0_readCount {p : Program} {l : Launch} {e : Env} {R : Room} {s : State} {m : MethodId} {args : Array Value} {below : List Frame} {meth : Method} {c : Code} {H : Heap} {locs : List Loc} {cells slots : Nat} {Q : State → Prop} {cc : ByteArray} {pc nL index : Nat} {ret : Option FieldType} {own : String} {ls : Array Slot} {rest : List Value} {E : Lay} {ad : Nat → Nat → Nat} {M N : Mem} (X : CX p s m args meth c cc nL ret own) (hK : KK E s) (hZ : ZZ E s) (hW : WD E ad (M, N) H) (hS : va_S (ow E) s.heap H locs) (hsz : ls.size = nL) {i1 : Nat} {x2 : Int32} (w1 : i1 < 6) (o3 : Option Nat) (w3 : om o3 True (fun i => i < (M 60 0 1).toNatClampNeg)) {r : Int32} {Mr : Mem} (hf : f_yX0_readCount M i1 x2 o3 = some (r, Mr)) (hn : Cond.methodLink own index yX0_readCount ∈ TB) (hR : 2 + 1 ≤ R.frames ∧ 8 + (4 + 11) + 42 ≤ R.locals) (hC : cells ≤ R.cells ∧ slots ≤ R.slots) (h8 : (rest.map fun v => v.category).sum ≤ 8) (hdg : decode cc pc = .ok (.invokevirtual index, 3)) (kk : ∀ (H1 : Heap) (locs1 : List Loc), WD E ad (Mr, N) H1 → va_S (ow E) s.heap H1 locs1 → W p l e R s m args below meth c H1 locs1 cells slots Q (F0 m (pc + 3) ls (.int r :: rest))) : W p l e R s m args below meth c H locs cells slots Q (F0 m pc ls (va_rf (o3.map (ad 8)) :: .int x2 :: .ref (ad 6 i1) :: .ref (ad 3 0) :: rest)) := by
  refine va_calli (va_runV (C := RX0) (As := [.ref (ad 6 i1), .int x2, va_rf (o3.map (ad 8))]) (rest := rest) ⟨X.1, X.2.1, X.2.2.1, X.2.2.2.1, X.2.2.2.2.1⟩ (c_yX0_readCount l E ad M N i1 x2 o3 w1 w3 r Mr hf) (cwV 3 X.2.2.2.2.1 (gV hn im_yX0_readCount se_yX0_readCount iniRX0 cd_yX0_readCount) rfl rfl rfl (by decide +kernel) hR) ⟨fun a U g mk q => ⟨q.1, q.2.calling⟩, va_recv hK.1 (hW.at (c := 3) (i := 0) Nat.zero_lt_one rfl) (ci := 0) (q0 := 0) rfl rfl, fun U hU hw => ⟨rfl, PB.at hW hK hZ hS hU hw⟩⟩ rfl rfl hsz rfl (lv_room h8) hdg hC) hS (fun _ _ h => h) (fun _ h => h) (fun r' u t H1 locs1 ht hvm hw hB hz1 hk1 hS1 => ?_)
  obtain ⟨rfl, rfl⟩ := hw
  rw [ht] at hB
  exact kk H1 locs1 hB hS1
def f_yX0_bump (M : Mem) (o1 : Option Nat) (x2 : Int32) : Option (Int32 × Mem) := om o1 ((some (1, M))) (fun i1 => ob1 (f_yX7_isBox M i1) (fun r2 => (if r2 = 0 then (some (3, M)) else lt1 (mp M 8 i1 1 ((M 8 i1 1) + x2)) (fun M4 => (some (0, M4))))))
set_option maxRecDepth 100000 in
set_option maxHeartbeats 4000000 in
theorem c_yX0_bump (l : Launch) (E : Lay) (ad : Nat → Nat → Nat) (M N : Mem) (o1 : Option Nat) (x2 : Int32) (w1 : om o1 True (fun i => i < (M 60 0 1).toNatClampNeg)) (r : Int32) (Mr : Mem) (hf : f_yX0_bump M o1 x2 = some (r, Mr)) : Met l yX0_bump (Cond.code yX0_bump cX0_bump 3 (some .int) :: TB) (rmm 1 20) (va_Pc [.ref (ad 3 0), va_rf (o1.map (ad 8)), .int x2] (PB E ad (M, N))) (Qi E ad r (Mr, N)) 0 0 (ow E) := by
  refine Met.ofW (cc := cX0_bump) (maxL := 3) (ret := (some .int)) (by decide) rfl ?_
  intro p e s m args below meth c s₁ B hml hv
  obtain ⟨rfl, hW, hK, hZ⟩ := hv
  have hT : ∀ w ∈ TB, w.before _ s = true := fun w h => atoms_spec (ws := (Cond.code yX0_bump cX0_bump 3 (some .int) :: TB)) B.pre w (List.mem_cons_of_mem _ h)
  have X : CX p s m _ meth c cX0_bump 3 (some .int) RX0 := ⟨B.exec, B.bytes, hml, findClass_of_methodNamed B.named, hT, B.returns, B.notSynchronized⟩
  obtain ⟨hx, hb, hml, hown, hT, hr, hlk⟩ := id X
  have hS : va_S (ow E) s.heap s.heap [] := va_S.rf
  unfold f_yX0_bump at hf
  rcases o1 with _ | i1
  · rw [om_n] at hf
    refine W.eq (g2 := entryFrame m ([.ref (ad 3 0), .null, .int x2] : List Value).toArray 3) rfl ?_
    have hl := lv_entry ([.ref (ad 3 0), .null, .int x2]) (n := 3) (Nat.le_of_ble_eq_true rfl)
    rw [lg_entry_eq]
    generalize (lg_sl ([.ref (ad 3 0), .null, .int x2]) ++ List.replicate (3 - (lg_sl ([.ref (ad 3 0), .null, .int x2])).length) Slot.unset).toArray = ls at hl ⊢
    have hl : lv_has ls 3 [(0, .ref (ad 3 0)), (1, .null), (2, .int x2)] := hl
    refine lv_aload_nN hx hb dX0_bump_0 rfl (lv_at hl 1 rfl) ?_
    refine lv_ifnonnullN hx hb dX0_bump_1 ?_
    refine lv_iconst (v := 1) hx hb dX0_bump_4 (by decide) ?_
    obtain ⟨rfl, rfl⟩ := sp2 hf
    exact e_i ⟨hx, hb, hr, hlk⟩ hW hS dX0_bump_5
  · rw [om_s] at hf
    refine W.eq (g2 := entryFrame m ([.ref (ad 3 0), .ref (ad 8 i1), .int x2] : List Value).toArray 3) rfl ?_
    have hl := lv_entry ([.ref (ad 3 0), .ref (ad 8 i1), .int x2]) (n := 3) (Nat.le_of_ble_eq_true rfl)
    rw [lg_entry_eq]
    generalize (lg_sl ([.ref (ad 3 0), .ref (ad 8 i1), .int x2]) ++ List.replicate (3 - (lg_sl ([.ref (ad 3 0), .ref (ad 8 i1), .int x2])).length) Slot.unset).toArray = ls at hl ⊢
    have hl : lv_has ls 3 [(0, .ref (ad 3 0)), (1, .ref (ad 8 i1)), (2, .int x2)] := hl
    refine lv_aload_n hx hb dX0_bump_0 rfl (lv_at hl 1 rfl) ?_
    refine lv_ifnonnull (tgt := 6) hx hb dX0_bump_1 (by decide) ?_
    refine lv_aload_n hx hb dX0_bump_6 rfl (lv_at hl 1 rfl) ?_
    obtain ⟨r2, h1, hf⟩ := ob1_some hf
    refine k_yX7_isBox X hK hZ hW hS hl.1 w1 h1 mlRX0_125 ⟨Nat.le_of_ble_eq_true rfl, Nat.le_of_ble_eq_true rfl⟩ ⟨Nat.le_of_ble_eq_true rfl, Nat.le_of_ble_eq_true rfl⟩ (Nat.le_of_ble_eq_true rfl) dX0_bump_7 (fun H locs hW hS => ?_)
    refine lv_if_ne (tgt := 15) hx hb dX0_bump_10 (by decide) (fun c3 => ?_) (fun c3 => ?_)
    · rw [if_neg c3] at hf
      refine lv_aload_n hx hb dX0_bump_15 rfl (lv_at hl 1 rfl) ?_
      refine lv_dup hx hb dX0_bump_16 rfl ?_
      refine g_7_3 X hK hW w1 flRX0_130 dX0_bump_17 ?_
      refine lv_iload_n hx hb dX0_bump_20 rfl (lv_at hl 2 rfl) ?_
      refine lv_iadd hx hb dX0_bump_21 ?_
      obtain ⟨M4, hM4, hf⟩ := lt1_some hf
      have v5 : i1 < (M4 60 0 1).toNatClampNeg := by rw [hM4, mp_ne _ _ (fun q => absurd q.1 (by decide))]; exact w1
      refine p_7_3 X hK hW hS w1 hM4 flRX0_130 dX0_bump_22 (fun H locs hW hS => ?_)
      refine lv_iconst (v := 0) hx hb dX0_bump_25 (by decide) ?_
      obtain ⟨rfl, rfl⟩ := sp2 hf
      exact e_i ⟨hx, hb, hr, hlk⟩ hW hS dX0_bump_26
    · rw [if_pos c3] at hf
      refine lv_iconst (v := 3) hx hb dX0_bump_13 (by decide) ?_
      obtain ⟨rfl, rfl⟩ := sp2 hf
      exact e_i ⟨hx, hb, hr, hlk⟩ hW hS dX0_bump_14
set_option maxRecDepth 100000 in
set_option maxHeartbeats 4000000 in
theorem k_yX0_bump {p : Program} {l : Launch} {e : Env} {R : Room} {s : State} {m : MethodId} {args : Array Value} {below : List Frame} {meth : Method} {c : Code} {H : Heap} {locs : List Loc} {cells slots : Nat} {Q : State → Prop} {cc : ByteArray} {pc nL index : Nat} {ret : Option FieldType} {own : String} {ls : Array Slot} {rest : List Value} {E : Lay} {ad : Nat → Nat → Nat} {M N : Mem} (X : CX p s m args meth c cc nL ret own) (hK : KK E s) (hZ : ZZ E s) (hW : WD E ad (M, N) H) (hS : va_S (ow E) s.heap H locs) (hsz : ls.size = nL) {x2 : Int32} (o1 : Option Nat) (w1 : om o1 True (fun i => i < (M 60 0 1).toNatClampNeg)) {r : Int32} {Mr : Mem} (hf : f_yX0_bump M o1 x2 = some (r, Mr)) (hn : Cond.methodLink own index yX0_bump ∈ TB) (hR : 1 + 1 ≤ R.frames ∧ 8 + (3 + 11) + 20 ≤ R.locals) (hC : cells ≤ R.cells ∧ slots ≤ R.slots) (h8 : (rest.map fun v => v.category).sum ≤ 8) (hdg : decode cc pc = .ok (.invokevirtual index, 3)) (kk : ∀ (H1 : Heap) (locs1 : List Loc), WD E ad (Mr, N) H1 → va_S (ow E) s.heap H1 locs1 → W p l e R s m args below meth c H1 locs1 cells slots Q (F0 m (pc + 3) ls (.int r :: rest))) : W p l e R s m args below meth c H locs cells slots Q (F0 m pc ls (.int x2 :: va_rf (o1.map (ad 8)) :: .ref (ad 3 0) :: rest)) := by
  refine va_calli (va_runV (C := RX0) (As := [va_rf (o1.map (ad 8)), .int x2]) (rest := rest) ⟨X.1, X.2.1, X.2.2.1, X.2.2.2.1, X.2.2.2.2.1⟩ (c_yX0_bump l E ad M N o1 x2 w1 r Mr hf) (cwV 2 X.2.2.2.2.1 (gV hn im_yX0_bump se_yX0_bump iniRX0 cd_yX0_bump) rfl rfl rfl (by decide +kernel) hR) ⟨fun a U g mk q => ⟨q.1, q.2.calling⟩, va_recv hK.1 (hW.at (c := 3) (i := 0) Nat.zero_lt_one rfl) (ci := 0) (q0 := 0) rfl rfl, fun U hU hw => ⟨rfl, PB.at hW hK hZ hS hU hw⟩⟩ rfl rfl hsz rfl (lv_room h8) hdg hC) hS (fun _ _ h => h) (fun _ h => h) (fun r' u t H1 locs1 ht hvm hw hB hz1 hk1 hS1 => ?_)
  obtain ⟨rfl, rfl⟩ := hw
  rw [ht] at hB
  exact kk H1 locs1 hB hS1
def f_yX0_weighInto (M : Mem) (i1 : Nat) (x2 : Int32) (o3 : Option Nat) : Option (Int32 × Mem) := om o3 ((some (1, M))) (fun i3 => ob2 (f_yX4_weightOf M i3) (fun r2 M3 => ob1 (f_yX5_keep M3 i1 x2 r2) (fun M5 => (some (0, M5)))))
set_option maxRecDepth 100000 in
set_option maxHeartbeats 4000000 in
theorem c_yX0_weighInto (l : Launch) (E : Lay) (ad : Nat → Nat → Nat) (M N : Mem) (i1 : Nat) (x2 : Int32) (o3 : Option Nat) (w1 : i1 < 6) (w3 : om o3 True (fun i => i < (M 60 0 1).toNatClampNeg)) (r : Int32) (Mr : Mem) (hf : f_yX0_weighInto M i1 x2 o3 = some (r, Mr)) : Met l yX0_weighInto (Cond.code yX0_weighInto cX0_weighInto 4 (some .int) :: TB) (rmm 2 42) (va_Pc [.ref (ad 3 0), .ref (ad 6 i1), .int x2, va_rf (o3.map (ad 8))] (PB E ad (M, N))) (Qi E ad r (Mr, N)) 0 0 (ow E) := by
  refine Met.ofW (cc := cX0_weighInto) (maxL := 4) (ret := (some .int)) (by decide) rfl ?_
  intro p e s m args below meth c s₁ B hml hv
  obtain ⟨rfl, hW, hK, hZ⟩ := hv
  have hT : ∀ w ∈ TB, w.before _ s = true := fun w h => atoms_spec (ws := (Cond.code yX0_weighInto cX0_weighInto 4 (some .int) :: TB)) B.pre w (List.mem_cons_of_mem _ h)
  have X : CX p s m _ meth c cX0_weighInto 4 (some .int) RX0 := ⟨B.exec, B.bytes, hml, findClass_of_methodNamed B.named, hT, B.returns, B.notSynchronized⟩
  obtain ⟨hx, hb, hml, hown, hT, hr, hlk⟩ := id X
  have hS : va_S (ow E) s.heap s.heap [] := va_S.rf
  unfold f_yX0_weighInto at hf
  rcases o3 with _ | i3
  · rw [om_n] at hf
    refine W.eq (g2 := entryFrame m ([.ref (ad 3 0), .ref (ad 6 i1), .int x2, .null] : List Value).toArray 4) rfl ?_
    have hl := lv_entry ([.ref (ad 3 0), .ref (ad 6 i1), .int x2, .null]) (n := 4) (Nat.le_of_ble_eq_true rfl)
    rw [lg_entry_eq]
    generalize (lg_sl ([.ref (ad 3 0), .ref (ad 6 i1), .int x2, .null]) ++ List.replicate (4 - (lg_sl ([.ref (ad 3 0), .ref (ad 6 i1), .int x2, .null])).length) Slot.unset).toArray = ls at hl ⊢
    have hl : lv_has ls 4 [(0, .ref (ad 3 0)), (1, .ref (ad 6 i1)), (2, .int x2), (3, .null)] := hl
    refine lv_aload_nN hx hb dX0_weighInto_0 rfl (lv_at hl 3 rfl) ?_
    refine lv_ifnonnullN hx hb dX0_weighInto_1 ?_
    refine lv_iconst (v := 1) hx hb dX0_weighInto_4 (by decide) ?_
    obtain ⟨rfl, rfl⟩ := sp2 hf
    exact e_i ⟨hx, hb, hr, hlk⟩ hW hS dX0_weighInto_5
  · rw [om_s] at hf
    refine W.eq (g2 := entryFrame m ([.ref (ad 3 0), .ref (ad 6 i1), .int x2, .ref (ad 8 i3)] : List Value).toArray 4) rfl ?_
    have hl := lv_entry ([.ref (ad 3 0), .ref (ad 6 i1), .int x2, .ref (ad 8 i3)]) (n := 4) (Nat.le_of_ble_eq_true rfl)
    rw [lg_entry_eq]
    generalize (lg_sl ([.ref (ad 3 0), .ref (ad 6 i1), .int x2, .ref (ad 8 i3)]) ++ List.replicate (4 - (lg_sl ([.ref (ad 3 0), .ref (ad 6 i1), .int x2, .ref (ad 8 i3)])).length) Slot.unset).toArray = ls at hl ⊢
    have hl : lv_has ls 4 [(0, .ref (ad 3 0)), (1, .ref (ad 6 i1)), (2, .int x2), (3, .ref (ad 8 i3))] := hl
    refine lv_aload_n hx hb dX0_weighInto_0 rfl (lv_at hl 3 rfl) ?_
    refine lv_ifnonnull (tgt := 6) hx hb dX0_weighInto_1 (by decide) ?_
    refine lv_aload_n hx hb dX0_weighInto_6 rfl (lv_at hl 1 rfl) ?_
    refine lv_iload_n hx hb dX0_weighInto_7 rfl (lv_at hl 2 rfl) ?_
    refine lv_aload_n hx hb dX0_weighInto_8 rfl (lv_at hl 0 rfl) ?_
    refine g_0_0 X hK hW flRX0_9 dX0_weighInto_9 ?_
    refine lv_aload_n hx hb dX0_weighInto_12 rfl (lv_at hl 3 rfl) ?_
    obtain ⟨r2, M3, h1, hf⟩ := ob2_some hf
    refine k_yX4_weightOf X hK hZ hW hS hl.1 w3 h1 mlRX0_133 ⟨Nat.le_of_ble_eq_true rfl, Nat.le_of_ble_eq_true rfl⟩ ⟨Nat.le_of_ble_eq_true rfl, Nat.le_of_ble_eq_true rfl⟩ (Nat.le_of_ble_eq_true rfl) dX0_weighInto_13 (fun H locs hW hS => ?_)
    obtain ⟨M5, h4, hf⟩ := ob1_some hf
    refine k_yX5_keep X hK hZ hW hS hl.1 w1 h4 mlRX0_68 ⟨Nat.le_of_ble_eq_true rfl, Nat.le_of_ble_eq_true rfl⟩ ⟨Nat.le_of_ble_eq_true rfl, Nat.le_of_ble_eq_true rfl⟩ (Nat.le_of_ble_eq_true rfl) dX0_weighInto_16 (fun H locs hW hS => ?_)
    refine lv_iconst (v := 0) hx hb dX0_weighInto_19 (by decide) ?_
    obtain ⟨rfl, rfl⟩ := sp2 hf
    exact e_i ⟨hx, hb, hr, hlk⟩ hW hS dX0_weighInto_20
set_option maxRecDepth 100000 in
set_option maxHeartbeats 4000000 in
theorem k_yX0_weighInto {p : Program} {l : Launch} {e : Env} {R : Room} {s : State} {m : MethodId} {args : Array Value} {below : List Frame} {meth : Method} {c : Code} {H : Heap} {locs : List Loc} {cells slots : Nat} {Q : State → Prop} {cc : ByteArray} {pc nL index : Nat} {ret : Option FieldType} {own : String} {ls : Array Slot} {rest : List Value} {E : Lay} {ad : Nat → Nat → Nat} {M N : Mem} (X : CX p s m args meth c cc nL ret own) (hK : KK E s) (hZ : ZZ E s) (hW : WD E ad (M, N) H) (hS : va_S (ow E) s.heap H locs) (hsz : ls.size = nL) {i1 : Nat} {x2 : Int32} (w1 : i1 < 6) (o3 : Option Nat) (w3 : om o3 True (fun i => i < (M 60 0 1).toNatClampNeg)) {r : Int32} {Mr : Mem} (hf : f_yX0_weighInto M i1 x2 o3 = some (r, Mr)) (hn : Cond.methodLink own index yX0_weighInto ∈ TB) (hR : 2 + 1 ≤ R.frames ∧ 8 + (4 + 11) + 42 ≤ R.locals) (hC : cells ≤ R.cells ∧ slots ≤ R.slots) (h8 : (rest.map fun v => v.category).sum ≤ 8) (hdg : decode cc pc = .ok (.invokevirtual index, 3)) (kk : ∀ (H1 : Heap) (locs1 : List Loc), WD E ad (Mr, N) H1 → va_S (ow E) s.heap H1 locs1 → W p l e R s m args below meth c H1 locs1 cells slots Q (F0 m (pc + 3) ls (.int r :: rest))) : W p l e R s m args below meth c H locs cells slots Q (F0 m pc ls (va_rf (o3.map (ad 8)) :: .int x2 :: .ref (ad 6 i1) :: .ref (ad 3 0) :: rest)) := by
  refine va_calli (va_runV (C := RX0) (As := [.ref (ad 6 i1), .int x2, va_rf (o3.map (ad 8))]) (rest := rest) ⟨X.1, X.2.1, X.2.2.1, X.2.2.2.1, X.2.2.2.2.1⟩ (c_yX0_weighInto l E ad M N i1 x2 o3 w1 w3 r Mr hf) (cwV 3 X.2.2.2.2.1 (gV hn im_yX0_weighInto se_yX0_weighInto iniRX0 cd_yX0_weighInto) rfl rfl rfl (by decide +kernel) hR) ⟨fun a U g mk q => ⟨q.1, q.2.calling⟩, va_recv hK.1 (hW.at (c := 3) (i := 0) Nat.zero_lt_one rfl) (ci := 0) (q0 := 0) rfl rfl, fun U hU hw => ⟨rfl, PB.at hW hK hZ hS hU hw⟩⟩ rfl rfl hsz rfl (lv_room h8) hdg hC) hS (fun _ _ h => h) (fun _ h => h) (fun r' u t H1 locs1 ht hvm hw hB hz1 hk1 hS1 => ?_)
  obtain ⟨rfl, rfl⟩ := hw
  rw [ht] at hB
  exact kk H1 locs1 hB hS1
def f_yX0_readMark (M : Mem) (i1 : Nat) (x2 : Int32) (o3 : Option Nat) : Option (Int32 × Mem) := om o3 ((some (1, M))) (fun i3 => ob1 (f_yX7_isCrate M i3) (fun r2 => (if r2 = 0 then (some (3, M)) else ob1 (f_yX5_keep M i1 x2 5) (fun M5 => (some (0, M5))))))
set_option maxRecDepth 100000 in
set_option maxHeartbeats 4000000 in
theorem c_yX0_readMark (l : Launch) (E : Lay) (ad : Nat → Nat → Nat) (M N : Mem) (i1 : Nat) (x2 : Int32) (o3 : Option Nat) (w1 : i1 < 6) (w3 : om o3 True (fun i => i < (M 60 0 1).toNatClampNeg)) (r : Int32) (Mr : Mem) (hf : f_yX0_readMark M i1 x2 o3 = some (r, Mr)) : Met l yX0_readMark (Cond.code yX0_readMark cX0_readMark 4 (some .int) :: TB) (rmm 2 42) (va_Pc [.ref (ad 3 0), .ref (ad 6 i1), .int x2, va_rf (o3.map (ad 8))] (PB E ad (M, N))) (Qi E ad r (Mr, N)) 0 0 (ow E) := by
  refine Met.ofW (cc := cX0_readMark) (maxL := 4) (ret := (some .int)) (by decide) rfl ?_
  intro p e s m args below meth c s₁ B hml hv
  obtain ⟨rfl, hW, hK, hZ⟩ := hv
  have hT : ∀ w ∈ TB, w.before _ s = true := fun w h => atoms_spec (ws := (Cond.code yX0_readMark cX0_readMark 4 (some .int) :: TB)) B.pre w (List.mem_cons_of_mem _ h)
  have X : CX p s m _ meth c cX0_readMark 4 (some .int) RX0 := ⟨B.exec, B.bytes, hml, findClass_of_methodNamed B.named, hT, B.returns, B.notSynchronized⟩
  obtain ⟨hx, hb, hml, hown, hT, hr, hlk⟩ := id X
  have hS : va_S (ow E) s.heap s.heap [] := va_S.rf
  unfold f_yX0_readMark at hf
  rcases o3 with _ | i3
  · rw [om_n] at hf
    refine W.eq (g2 := entryFrame m ([.ref (ad 3 0), .ref (ad 6 i1), .int x2, .null] : List Value).toArray 4) rfl ?_
    have hl := lv_entry ([.ref (ad 3 0), .ref (ad 6 i1), .int x2, .null]) (n := 4) (Nat.le_of_ble_eq_true rfl)
    rw [lg_entry_eq]
    generalize (lg_sl ([.ref (ad 3 0), .ref (ad 6 i1), .int x2, .null]) ++ List.replicate (4 - (lg_sl ([.ref (ad 3 0), .ref (ad 6 i1), .int x2, .null])).length) Slot.unset).toArray = ls at hl ⊢
    have hl : lv_has ls 4 [(0, .ref (ad 3 0)), (1, .ref (ad 6 i1)), (2, .int x2), (3, .null)] := hl
    refine lv_aload_nN hx hb dX0_readMark_0 rfl (lv_at hl 3 rfl) ?_
    refine lv_ifnonnullN hx hb dX0_readMark_1 ?_
    refine lv_iconst (v := 1) hx hb dX0_readMark_4 (by decide) ?_
    obtain ⟨rfl, rfl⟩ := sp2 hf
    exact e_i ⟨hx, hb, hr, hlk⟩ hW hS dX0_readMark_5
  · rw [om_s] at hf
    refine W.eq (g2 := entryFrame m ([.ref (ad 3 0), .ref (ad 6 i1), .int x2, .ref (ad 8 i3)] : List Value).toArray 4) rfl ?_
    have hl := lv_entry ([.ref (ad 3 0), .ref (ad 6 i1), .int x2, .ref (ad 8 i3)]) (n := 4) (Nat.le_of_ble_eq_true rfl)
    rw [lg_entry_eq]
    generalize (lg_sl ([.ref (ad 3 0), .ref (ad 6 i1), .int x2, .ref (ad 8 i3)]) ++ List.replicate (4 - (lg_sl ([.ref (ad 3 0), .ref (ad 6 i1), .int x2, .ref (ad 8 i3)])).length) Slot.unset).toArray = ls at hl ⊢
    have hl : lv_has ls 4 [(0, .ref (ad 3 0)), (1, .ref (ad 6 i1)), (2, .int x2), (3, .ref (ad 8 i3))] := hl
    refine lv_aload_n hx hb dX0_readMark_0 rfl (lv_at hl 3 rfl) ?_
    refine lv_ifnonnull (tgt := 6) hx hb dX0_readMark_1 (by decide) ?_
    refine lv_aload_n hx hb dX0_readMark_6 rfl (lv_at hl 3 rfl) ?_
    obtain ⟨r2, h1, hf⟩ := ob1_some hf
    refine k_yX7_isCrate X hK hZ hW hS hl.1 w3 h1 mlRX0_137 ⟨Nat.le_of_ble_eq_true rfl, Nat.le_of_ble_eq_true rfl⟩ ⟨Nat.le_of_ble_eq_true rfl, Nat.le_of_ble_eq_true rfl⟩ (Nat.le_of_ble_eq_true rfl) dX0_readMark_7 (fun H locs hW hS => ?_)
    refine lv_if_ne (tgt := 15) hx hb dX0_readMark_10 (by decide) (fun c3 => ?_) (fun c3 => ?_)
    · rw [if_neg c3] at hf
      refine lv_aload_n hx hb dX0_readMark_15 rfl (lv_at hl 1 rfl) ?_
      refine lv_iload_n hx hb dX0_readMark_16 rfl (lv_at hl 2 rfl) ?_
      refine lv_iconst (v := 5) hx hb dX0_readMark_17 (by decide) ?_
      obtain ⟨M5, h4, hf⟩ := ob1_some hf
      refine k_yX5_keep X hK hZ hW hS hl.1 w1 h4 mlRX0_68 ⟨Nat.le_of_ble_eq_true rfl, Nat.le_of_ble_eq_true rfl⟩ ⟨Nat.le_of_ble_eq_true rfl, Nat.le_of_ble_eq_true rfl⟩ (Nat.le_of_ble_eq_true rfl) dX0_readMark_18 (fun H locs hW hS => ?_)
      refine lv_iconst (v := 0) hx hb dX0_readMark_21 (by decide) ?_
      obtain ⟨rfl, rfl⟩ := sp2 hf
      exact e_i ⟨hx, hb, hr, hlk⟩ hW hS dX0_readMark_22
    · rw [if_pos c3] at hf
      refine lv_iconst (v := 3) hx hb dX0_readMark_13 (by decide) ?_
      obtain ⟨rfl, rfl⟩ := sp2 hf
      exact e_i ⟨hx, hb, hr, hlk⟩ hW hS dX0_readMark_14
set_option maxRecDepth 100000 in
set_option maxHeartbeats 4000000 in
theorem k_yX0_readMark {p : Program} {l : Launch} {e : Env} {R : Room} {s : State} {m : MethodId} {args : Array Value} {below : List Frame} {meth : Method} {c : Code} {H : Heap} {locs : List Loc} {cells slots : Nat} {Q : State → Prop} {cc : ByteArray} {pc nL index : Nat} {ret : Option FieldType} {own : String} {ls : Array Slot} {rest : List Value} {E : Lay} {ad : Nat → Nat → Nat} {M N : Mem} (X : CX p s m args meth c cc nL ret own) (hK : KK E s) (hZ : ZZ E s) (hW : WD E ad (M, N) H) (hS : va_S (ow E) s.heap H locs) (hsz : ls.size = nL) {i1 : Nat} {x2 : Int32} (w1 : i1 < 6) (o3 : Option Nat) (w3 : om o3 True (fun i => i < (M 60 0 1).toNatClampNeg)) {r : Int32} {Mr : Mem} (hf : f_yX0_readMark M i1 x2 o3 = some (r, Mr)) (hn : Cond.methodLink own index yX0_readMark ∈ TB) (hR : 2 + 1 ≤ R.frames ∧ 8 + (4 + 11) + 42 ≤ R.locals) (hC : cells ≤ R.cells ∧ slots ≤ R.slots) (h8 : (rest.map fun v => v.category).sum ≤ 8) (hdg : decode cc pc = .ok (.invokevirtual index, 3)) (kk : ∀ (H1 : Heap) (locs1 : List Loc), WD E ad (Mr, N) H1 → va_S (ow E) s.heap H1 locs1 → W p l e R s m args below meth c H1 locs1 cells slots Q (F0 m (pc + 3) ls (.int r :: rest))) : W p l e R s m args below meth c H locs cells slots Q (F0 m pc ls (va_rf (o3.map (ad 8)) :: .int x2 :: .ref (ad 6 i1) :: .ref (ad 3 0) :: rest)) := by
  refine va_calli (va_runV (C := RX0) (As := [.ref (ad 6 i1), .int x2, va_rf (o3.map (ad 8))]) (rest := rest) ⟨X.1, X.2.1, X.2.2.1, X.2.2.2.1, X.2.2.2.2.1⟩ (c_yX0_readMark l E ad M N i1 x2 o3 w1 w3 r Mr hf) (cwV 3 X.2.2.2.2.1 (gV hn im_yX0_readMark se_yX0_readMark iniRX0 cd_yX0_readMark) rfl rfl rfl (by decide +kernel) hR) ⟨fun a U g mk q => ⟨q.1, q.2.calling⟩, va_recv hK.1 (hW.at (c := 3) (i := 0) Nat.zero_lt_one rfl) (ci := 0) (q0 := 0) rfl rfl, fun U hU hw => ⟨rfl, PB.at hW hK hZ hS hU hw⟩⟩ rfl rfl hsz rfl (lv_room h8) hdg hC) hS (fun _ _ h => h) (fun _ h => h) (fun r' u t H1 locs1 ht hvm hw hB hz1 hk1 hS1 => ?_)
  obtain ⟨rfl, rfl⟩ := hw
  rw [ht] at hB
  exact kk H1 locs1 hB hS1
def f_yX0_readSize (M : Mem) (i1 : Nat) (x2 : Int32) (o3 : Option Nat) : Option (Int32 × Mem) := om o3 ((some (1, M))) (fun i3 => ob1 (f_yX7_isRow M i3) (fun r2 => (if r2 = 0 then (some (3, M)) else ob1 (f_yX5_keep M i1 x2 (nI (M 8 i3 4).toNatClampNeg)) (fun M5 => (some (0, M5))))))
set_option maxRecDepth 100000 in
set_option maxHeartbeats 4000000 in
theorem c_yX0_readSize (l : Launch) (E : Lay) (ad : Nat → Nat → Nat) (M N : Mem) (i1 : Nat) (x2 : Int32) (o3 : Option Nat) (w1 : i1 < 6) (w3 : om o3 True (fun i => i < (M 60 0 1).toNatClampNeg)) (r : Int32) (Mr : Mem) (hf : f_yX0_readSize M i1 x2 o3 = some (r, Mr)) : Met l yX0_readSize (Cond.code yX0_readSize cX0_readSize 4 (some .int) :: TB) (rmm 2 42) (va_Pc [.ref (ad 3 0), .ref (ad 6 i1), .int x2, va_rf (o3.map (ad 8))] (PB E ad (M, N))) (Qi E ad r (Mr, N)) 0 0 (ow E) := by
  refine Met.ofW (cc := cX0_readSize) (maxL := 4) (ret := (some .int)) (by decide) rfl ?_
  intro p e s m args below meth c s₁ B hml hv
  obtain ⟨rfl, hW, hK, hZ⟩ := hv
  have hT : ∀ w ∈ TB, w.before _ s = true := fun w h => atoms_spec (ws := (Cond.code yX0_readSize cX0_readSize 4 (some .int) :: TB)) B.pre w (List.mem_cons_of_mem _ h)
  have X : CX p s m _ meth c cX0_readSize 4 (some .int) RX0 := ⟨B.exec, B.bytes, hml, findClass_of_methodNamed B.named, hT, B.returns, B.notSynchronized⟩
  obtain ⟨hx, hb, hml, hown, hT, hr, hlk⟩ := id X
  have hS : va_S (ow E) s.heap s.heap [] := va_S.rf
  unfold f_yX0_readSize at hf
  rcases o3 with _ | i3
  · rw [om_n] at hf
    refine W.eq (g2 := entryFrame m ([.ref (ad 3 0), .ref (ad 6 i1), .int x2, .null] : List Value).toArray 4) rfl ?_
    have hl := lv_entry ([.ref (ad 3 0), .ref (ad 6 i1), .int x2, .null]) (n := 4) (Nat.le_of_ble_eq_true rfl)
    rw [lg_entry_eq]
    generalize (lg_sl ([.ref (ad 3 0), .ref (ad 6 i1), .int x2, .null]) ++ List.replicate (4 - (lg_sl ([.ref (ad 3 0), .ref (ad 6 i1), .int x2, .null])).length) Slot.unset).toArray = ls at hl ⊢
    have hl : lv_has ls 4 [(0, .ref (ad 3 0)), (1, .ref (ad 6 i1)), (2, .int x2), (3, .null)] := hl
    refine lv_aload_nN hx hb dX0_readSize_0 rfl (lv_at hl 3 rfl) ?_
    refine lv_ifnonnullN hx hb dX0_readSize_1 ?_
    refine lv_iconst (v := 1) hx hb dX0_readSize_4 (by decide) ?_
    obtain ⟨rfl, rfl⟩ := sp2 hf
    exact e_i ⟨hx, hb, hr, hlk⟩ hW hS dX0_readSize_5
  · rw [om_s] at hf
    refine W.eq (g2 := entryFrame m ([.ref (ad 3 0), .ref (ad 6 i1), .int x2, .ref (ad 8 i3)] : List Value).toArray 4) rfl ?_
    have hl := lv_entry ([.ref (ad 3 0), .ref (ad 6 i1), .int x2, .ref (ad 8 i3)]) (n := 4) (Nat.le_of_ble_eq_true rfl)
    rw [lg_entry_eq]
    generalize (lg_sl ([.ref (ad 3 0), .ref (ad 6 i1), .int x2, .ref (ad 8 i3)]) ++ List.replicate (4 - (lg_sl ([.ref (ad 3 0), .ref (ad 6 i1), .int x2, .ref (ad 8 i3)])).length) Slot.unset).toArray = ls at hl ⊢
    have hl : lv_has ls 4 [(0, .ref (ad 3 0)), (1, .ref (ad 6 i1)), (2, .int x2), (3, .ref (ad 8 i3))] := hl
    refine lv_aload_n hx hb dX0_readSize_0 rfl (lv_at hl 3 rfl) ?_
    refine lv_ifnonnull (tgt := 6) hx hb dX0_readSize_1 (by decide) ?_
    refine lv_aload_n hx hb dX0_readSize_6 rfl (lv_at hl 3 rfl) ?_
    obtain ⟨r2, h1, hf⟩ := ob1_some hf
    refine k_yX7_isRow X hK hZ hW hS hl.1 w3 h1 mlRX0_161 ⟨Nat.le_of_ble_eq_true rfl, Nat.le_of_ble_eq_true rfl⟩ ⟨Nat.le_of_ble_eq_true rfl, Nat.le_of_ble_eq_true rfl⟩ (Nat.le_of_ble_eq_true rfl) dX0_readSize_7 (fun H locs hW hS => ?_)
    refine lv_if_ne (tgt := 15) hx hb dX0_readSize_10 (by decide) (fun c3 => ?_) (fun c3 => ?_)
    · rw [if_neg c3] at hf
      refine lv_aload_n hx hb dX0_readSize_15 rfl (lv_at hl 1 rfl) ?_
      refine lv_iload_n hx hb dX0_readSize_16 rfl (lv_at hl 2 rfl) ?_
      refine lv_aload_n hx hb dX0_readSize_17 rfl (lv_at hl 3 rfl) ?_
      refine g_7_2 X hK hW w3 flRX0_164 dX0_readSize_18 ?_
      refine an_19 X hK hW w3 dX0_readSize_21 ?_
      obtain ⟨M5, h4, hf⟩ := ob1_some hf
      refine k_yX5_keep X hK hZ hW hS hl.1 w1 h4 mlRX0_68 ⟨Nat.le_of_ble_eq_true rfl, Nat.le_of_ble_eq_true rfl⟩ ⟨Nat.le_of_ble_eq_true rfl, Nat.le_of_ble_eq_true rfl⟩ (Nat.le_of_ble_eq_true rfl) dX0_readSize_22 (fun H locs hW hS => ?_)
      refine lv_iconst (v := 0) hx hb dX0_readSize_25 (by decide) ?_
      obtain ⟨rfl, rfl⟩ := sp2 hf
      exact e_i ⟨hx, hb, hr, hlk⟩ hW hS dX0_readSize_26
    · rw [if_pos c3] at hf
      refine lv_iconst (v := 3) hx hb dX0_readSize_13 (by decide) ?_
      obtain ⟨rfl, rfl⟩ := sp2 hf
      exact e_i ⟨hx, hb, hr, hlk⟩ hW hS dX0_readSize_14
set_option maxRecDepth 100000 in
set_option maxHeartbeats 4000000 in
theorem k_yX0_readSize {p : Program} {l : Launch} {e : Env} {R : Room} {s : State} {m : MethodId} {args : Array Value} {below : List Frame} {meth : Method} {c : Code} {H : Heap} {locs : List Loc} {cells slots : Nat} {Q : State → Prop} {cc : ByteArray} {pc nL index : Nat} {ret : Option FieldType} {own : String} {ls : Array Slot} {rest : List Value} {E : Lay} {ad : Nat → Nat → Nat} {M N : Mem} (X : CX p s m args meth c cc nL ret own) (hK : KK E s) (hZ : ZZ E s) (hW : WD E ad (M, N) H) (hS : va_S (ow E) s.heap H locs) (hsz : ls.size = nL) {i1 : Nat} {x2 : Int32} (w1 : i1 < 6) (o3 : Option Nat) (w3 : om o3 True (fun i => i < (M 60 0 1).toNatClampNeg)) {r : Int32} {Mr : Mem} (hf : f_yX0_readSize M i1 x2 o3 = some (r, Mr)) (hn : Cond.methodLink own index yX0_readSize ∈ TB) (hR : 2 + 1 ≤ R.frames ∧ 8 + (4 + 11) + 42 ≤ R.locals) (hC : cells ≤ R.cells ∧ slots ≤ R.slots) (h8 : (rest.map fun v => v.category).sum ≤ 8) (hdg : decode cc pc = .ok (.invokevirtual index, 3)) (kk : ∀ (H1 : Heap) (locs1 : List Loc), WD E ad (Mr, N) H1 → va_S (ow E) s.heap H1 locs1 → W p l e R s m args below meth c H1 locs1 cells slots Q (F0 m (pc + 3) ls (.int r :: rest))) : W p l e R s m args below meth c H locs cells slots Q (F0 m pc ls (va_rf (o3.map (ad 8)) :: .int x2 :: .ref (ad 6 i1) :: .ref (ad 3 0) :: rest)) := by
  refine va_calli (va_runV (C := RX0) (As := [.ref (ad 6 i1), .int x2, va_rf (o3.map (ad 8))]) (rest := rest) ⟨X.1, X.2.1, X.2.2.1, X.2.2.2.1, X.2.2.2.2.1⟩ (c_yX0_readSize l E ad M N i1 x2 o3 w1 w3 r Mr hf) (cwV 3 X.2.2.2.2.1 (gV hn im_yX0_readSize se_yX0_readSize iniRX0 cd_yX0_readSize) rfl rfl rfl (by decide +kernel) hR) ⟨fun a U g mk q => ⟨q.1, q.2.calling⟩, va_recv hK.1 (hW.at (c := 3) (i := 0) Nat.zero_lt_one rfl) (ci := 0) (q0 := 0) rfl rfl, fun U hU hw => ⟨rfl, PB.at hW hK hZ hS hU hw⟩⟩ rfl rfl hsz rfl (lv_room h8) hdg hC) hS (fun _ _ h => h) (fun _ h => h) (fun r' u t H1 locs1 ht hvm hw hB hz1 hk1 hS1 => ?_)
  obtain ⟨rfl, rfl⟩ := hw
  rw [ht] at hB
  exact kk H1 locs1 hB hS1
def f_yX0_readNumber (M : Mem) (i1 : Nat) (x2 : Int32) (o3 : Option Nat) (x4 : Int32) : Option (Int32 × Mem) := om o3 ((some (1, M))) (fun i3 => ob1 (f_yX7_isRowOfNumbers M i3) (fun r2 => (if r2 = 0 then (some (3, M)) else ob1 (f_yX7_hasPlace M i3 x4) (fun r5 => (if r5 = 0 then (some (2, M)) else gd (¬ (x4 < 0 ∨ (M 8 i3 4).toNatClampNeg ≤ x4.toNatClampNeg)) (ob1 (f_yX5_keep M i1 x2 (M 19 i3 x4.toNatClampNeg)) (fun M9 => (some (0, M9)))))))))
set_option maxRecDepth 100000 in
set_option maxHeartbeats 4000000 in
theorem c_yX0_readNumber (l : Launch) (E : Lay) (ad : Nat → Nat → Nat) (M N : Mem) (i1 : Nat) (x2 : Int32) (o3 : Option Nat) (x4 : Int32) (w1 : i1 < 6) (w3 : om o3 True (fun i => i < (M 60 0 1).toNatClampNeg)) (r : Int32) (Mr : Mem) (hf : f_yX0_readNumber M i1 x2 o3 x4 = some (r, Mr)) : Met l yX0_readNumber (Cond.code yX0_readNumber cX0_readNumber 5 (some .int) :: TB) (rmm 2 42) (va_Pc [.ref (ad 3 0), .ref (ad 6 i1), .int x2, va_rf (o3.map (ad 8)), .int x4] (PB E ad (M, N))) (Qi E ad r (Mr, N)) 0 0 (ow E) := by
  refine Met.ofW (cc := cX0_readNumber) (maxL := 5) (ret := (some .int)) (by decide) rfl ?_
  intro p e s m args below meth c s₁ B hml hv
  obtain ⟨rfl, hW, hK, hZ⟩ := hv
  have hT : ∀ w ∈ TB, w.before _ s = true := fun w h => atoms_spec (ws := (Cond.code yX0_readNumber cX0_readNumber 5 (some .int) :: TB)) B.pre w (List.mem_cons_of_mem _ h)
  have X : CX p s m _ meth c cX0_readNumber 5 (some .int) RX0 := ⟨B.exec, B.bytes, hml, findClass_of_methodNamed B.named, hT, B.returns, B.notSynchronized⟩
  obtain ⟨hx, hb, hml, hown, hT, hr, hlk⟩ := id X
  have hS : va_S (ow E) s.heap s.heap [] := va_S.rf
  unfold f_yX0_readNumber at hf
  rcases o3 with _ | i3
  · rw [om_n] at hf
    refine W.eq (g2 := entryFrame m ([.ref (ad 3 0), .ref (ad 6 i1), .int x2, .null, .int x4] : List Value).toArray 5) rfl ?_
    have hl := lv_entry ([.ref (ad 3 0), .ref (ad 6 i1), .int x2, .null, .int x4]) (n := 5) (Nat.le_of_ble_eq_true rfl)
    rw [lg_entry_eq]
    generalize (lg_sl ([.ref (ad 3 0), .ref (ad 6 i1), .int x2, .null, .int x4]) ++ List.replicate (5 - (lg_sl ([.ref (ad 3 0), .ref (ad 6 i1), .int x2, .null, .int x4])).length) Slot.unset).toArray = ls at hl ⊢
    have hl : lv_has ls 5 [(0, .ref (ad 3 0)), (1, .ref (ad 6 i1)), (2, .int x2), (3, .null), (4, .int x4)] := hl
    refine lv_aload_nN hx hb dX0_readNumber_0 rfl (lv_at hl 3 rfl) ?_
    refine lv_ifnonnullN hx hb dX0_readNumber_1 ?_
    refine lv_iconst (v := 1) hx hb dX0_readNumber_4 (by decide) ?_
    obtain ⟨rfl, rfl⟩ := sp2 hf
    exact e_i ⟨hx, hb, hr, hlk⟩ hW hS dX0_readNumber_5
  · rw [om_s] at hf
    refine W.eq (g2 := entryFrame m ([.ref (ad 3 0), .ref (ad 6 i1), .int x2, .ref (ad 8 i3), .int x4] : List Value).toArray 5) rfl ?_
    have hl := lv_entry ([.ref (ad 3 0), .ref (ad 6 i1), .int x2, .ref (ad 8 i3), .int x4]) (n := 5) (Nat.le_of_ble_eq_true rfl)
    rw [lg_entry_eq]
    generalize (lg_sl ([.ref (ad 3 0), .ref (ad 6 i1), .int x2, .ref (ad 8 i3), .int x4]) ++ List.replicate (5 - (lg_sl ([.ref (ad 3 0), .ref (ad 6 i1), .int x2, .ref (ad 8 i3), .int x4])).length) Slot.unset).toArray = ls at hl ⊢
    have hl : lv_has ls 5 [(0, .ref (ad 3 0)), (1, .ref (ad 6 i1)), (2, .int x2), (3, .ref (ad 8 i3)), (4, .int x4)] := hl
    refine lv_aload_n hx hb dX0_readNumber_0 rfl (lv_at hl 3 rfl) ?_
    refine lv_ifnonnull (tgt := 6) hx hb dX0_readNumber_1 (by decide) ?_
    refine lv_aload_n hx hb dX0_readNumber_6 rfl (lv_at hl 3 rfl) ?_
    obtain ⟨r2, h1, hf⟩ := ob1_some hf
    refine k_yX7_isRowOfNumbers X hK hZ hW hS hl.1 w3 h1 mlRX0_168 ⟨Nat.le_of_ble_eq_true rfl, Nat.le_of_ble_eq_true rfl⟩ ⟨Nat.le_of_ble_eq_true rfl, Nat.le_of_ble_eq_true rfl⟩ (Nat.le_of_ble_eq_true rfl) dX0_readNumber_7 (fun H locs hW hS => ?_)
    refine lv_if_ne (tgt := 15) hx hb dX0_readNumber_10 (by decide) (fun c3 => ?_) (fun c3 => ?_)
    · rw [if_neg c3] at hf
      refine lv_aload_n hx hb dX0_readNumber_15 rfl (lv_at hl 3 rfl) ?_
      refine lv_iload hx hb dX0_readNumber_16 (lv_at hl 4 rfl) ?_
      obtain ⟨r5, h4, hf⟩ := ob1_some hf
      refine k_yX7_hasPlace X hK hZ hW hS hl.1 w3 h4 mlRX0_171 ⟨Nat.le_of_ble_eq_true rfl, Nat.le_of_ble_eq_true rfl⟩ ⟨Nat.le_of_ble_eq_true rfl, Nat.le_of_ble_eq_true rfl⟩ (Nat.le_of_ble_eq_true rfl) dX0_readNumber_18 (fun H locs hW hS => ?_)
      refine lv_if_ne (tgt := 26) hx hb dX0_readNumber_21 (by decide) (fun c6 => ?_) (fun c6 => ?_)
      · rw [if_neg c6] at hf
        refine lv_aload_n hx hb dX0_readNumber_26 rfl (lv_at hl 1 rfl) ?_
        refine lv_iload_n hx hb dX0_readNumber_27 rfl (lv_at hl 2 rfl) ?_
        refine lv_aload_n hx hb dX0_readNumber_28 rfl (lv_at hl 3 rfl) ?_
        refine g_7_2 X hK hW w3 flRX0_164 dX0_readNumber_29 ?_
        refine lv_iload hx hb dX0_readNumber_32 (lv_at hl 4 rfl) ?_
        obtain ⟨b7, hf⟩ := gd_some hf
        refine al_19 X hK hW w3 b7 dX0_readNumber_34 ?_
        obtain ⟨M9, h8, hf⟩ := ob1_some hf
        refine k_yX5_keep X hK hZ hW hS hl.1 w1 h8 mlRX0_68 ⟨Nat.le_of_ble_eq_true rfl, Nat.le_of_ble_eq_true rfl⟩ ⟨Nat.le_of_ble_eq_true rfl, Nat.le_of_ble_eq_true rfl⟩ (Nat.le_of_ble_eq_true rfl) dX0_readNumber_35 (fun H locs hW hS => ?_)
        refine lv_iconst (v := 0) hx hb dX0_readNumber_38 (by decide) ?_
        obtain ⟨rfl, rfl⟩ := sp2 hf
        exact e_i ⟨hx, hb, hr, hlk⟩ hW hS dX0_readNumber_39
      · rw [if_pos c6] at hf
        refine lv_iconst (v := 2) hx hb dX0_readNumber_24 (by decide) ?_
        obtain ⟨rfl, rfl⟩ := sp2 hf
        exact e_i ⟨hx, hb, hr, hlk⟩ hW hS dX0_readNumber_25
    · rw [if_pos c3] at hf
      refine lv_iconst (v := 3) hx hb dX0_readNumber_13 (by decide) ?_
      obtain ⟨rfl, rfl⟩ := sp2 hf
      exact e_i ⟨hx, hb, hr, hlk⟩ hW hS dX0_readNumber_14
set_option maxRecDepth 100000 in
set_option maxHeartbeats 4000000 in
theorem k_yX0_readNumber {p : Program} {l : Launch} {e : Env} {R : Room} {s : State} {m : MethodId} {args : Array Value} {below : List Frame} {meth : Method} {c : Code} {H : Heap} {locs : List Loc} {cells slots : Nat} {Q : State → Prop} {cc : ByteArray} {pc nL index : Nat} {ret : Option FieldType} {own : String} {ls : Array Slot} {rest : List Value} {E : Lay} {ad : Nat → Nat → Nat} {M N : Mem} (X : CX p s m args meth c cc nL ret own) (hK : KK E s) (hZ : ZZ E s) (hW : WD E ad (M, N) H) (hS : va_S (ow E) s.heap H locs) (hsz : ls.size = nL) {i1 : Nat} {x2 : Int32} {x4 : Int32} (w1 : i1 < 6) (o3 : Option Nat) (w3 : om o3 True (fun i => i < (M 60 0 1).toNatClampNeg)) {r : Int32} {Mr : Mem} (hf : f_yX0_readNumber M i1 x2 o3 x4 = some (r, Mr)) (hn : Cond.methodLink own index yX0_readNumber ∈ TB) (hR : 2 + 1 ≤ R.frames ∧ 8 + (5 + 11) + 42 ≤ R.locals) (hC : cells ≤ R.cells ∧ slots ≤ R.slots) (h8 : (rest.map fun v => v.category).sum ≤ 8) (hdg : decode cc pc = .ok (.invokevirtual index, 3)) (kk : ∀ (H1 : Heap) (locs1 : List Loc), WD E ad (Mr, N) H1 → va_S (ow E) s.heap H1 locs1 → W p l e R s m args below meth c H1 locs1 cells slots Q (F0 m (pc + 3) ls (.int r :: rest))) : W p l e R s m args below meth c H locs cells slots Q (F0 m pc ls (.int x4 :: va_rf (o3.map (ad 8)) :: .int x2 :: .ref (ad 6 i1) :: .ref (ad 3 0) :: rest)) := by
  refine va_calli (va_runV (C := RX0) (As := [.ref (ad 6 i1), .int x2, va_rf (o3.map (ad 8)), .int x4]) (rest := rest) ⟨X.1, X.2.1, X.2.2.1, X.2.2.2.1, X.2.2.2.2.1⟩ (c_yX0_readNumber l E ad M N i1 x2 o3 x4 w1 w3 r Mr hf) (cwV 4 X.2.2.2.2.1 (gV hn im_yX0_readNumber se_yX0_readNumber iniRX0 cd_yX0_readNumber) rfl rfl rfl (by decide +kernel) hR) ⟨fun a U g mk q => ⟨q.1, q.2.calling⟩, va_recv hK.1 (hW.at (c := 3) (i := 0) Nat.zero_lt_one rfl) (ci := 0) (q0 := 0) rfl rfl, fun U hU hw => ⟨rfl, PB.at hW hK hZ hS hU hw⟩⟩ rfl rfl hsz rfl (lv_room h8) hdg hC) hS (fun _ _ h => h) (fun _ h => h) (fun r' u t H1 locs1 ht hvm hw hB hz1 hk1 hS1 => ?_)
  obtain ⟨rfl, rfl⟩ := hw
  rw [ht] at hB
  exact kk H1 locs1 hB hS1
def f_yX0_writeNumber (M : Mem) (o1 : Option Nat) (x2 : Int32) (x3 : Int32) : Option (Int32 × Mem) := om o1 ((some (1, M))) (fun i1 => ob1 (f_yX7_isRowOfNumbers M i1) (fun r2 => (if r2 = 0 then (some (3, M)) else ob1 (f_yX7_hasPlace M i1 x2) (fun r5 => (if r5 = 0 then (some (2, M)) else (if (M 8 i1 0) = 5 then gd (¬ (x2 < 0 ∨ (M 8 i1 4).toNatClampNeg ≤ x2.toNatClampNeg)) (lt1 (mp M 19 i1 x2.toNatClampNeg x3.toInt8.toInt32) (fun M12 => (some (0, M12)))) else gd (¬ (x2 < 0 ∨ (M 8 i1 4).toNatClampNeg ≤ x2.toNatClampNeg)) (lt1 (mp M 19 i1 x2.toNatClampNeg x3) (fun M9 => (some (0, M9))))))))))
set_option maxRecDepth 100000 in
set_option maxHeartbeats 4000000 in
theorem c_yX0_writeNumber (l : Launch) (E : Lay) (ad : Nat → Nat → Nat) (M N : Mem) (o1 : Option Nat) (x2 : Int32) (x3 : Int32) (w1 : om o1 True (fun i => i < (M 60 0 1).toNatClampNeg)) (r : Int32) (Mr : Mem) (hf : f_yX0_writeNumber M o1 x2 x3 = some (r, Mr)) : Met l yX0_writeNumber (Cond.code yX0_writeNumber cX0_writeNumber 4 (some .int) :: TB) (rmm 1 21) (va_Pc [.ref (ad 3 0), va_rf (o1.map (ad 8)), .int x2, .int x3] (PB E ad (M, N))) (Qi E ad r (Mr, N)) 0 0 (ow E) := by
  refine Met.ofW (cc := cX0_writeNumber) (maxL := 4) (ret := (some .int)) (by decide) rfl ?_
  intro p e s m args below meth c s₁ B hml hv
  obtain ⟨rfl, hW, hK, hZ⟩ := hv
  have hT : ∀ w ∈ TB, w.before _ s = true := fun w h => atoms_spec (ws := (Cond.code yX0_writeNumber cX0_writeNumber 4 (some .int) :: TB)) B.pre w (List.mem_cons_of_mem _ h)
  have X : CX p s m _ meth c cX0_writeNumber 4 (some .int) RX0 := ⟨B.exec, B.bytes, hml, findClass_of_methodNamed B.named, hT, B.returns, B.notSynchronized⟩
  obtain ⟨hx, hb, hml, hown, hT, hr, hlk⟩ := id X
  have hS : va_S (ow E) s.heap s.heap [] := va_S.rf
  unfold f_yX0_writeNumber at hf
  rcases o1 with _ | i1
  · rw [om_n] at hf
    refine W.eq (g2 := entryFrame m ([.ref (ad 3 0), .null, .int x2, .int x3] : List Value).toArray 4) rfl ?_
    have hl := lv_entry ([.ref (ad 3 0), .null, .int x2, .int x3]) (n := 4) (Nat.le_of_ble_eq_true rfl)
    rw [lg_entry_eq]
    generalize (lg_sl ([.ref (ad 3 0), .null, .int x2, .int x3]) ++ List.replicate (4 - (lg_sl ([.ref (ad 3 0), .null, .int x2, .int x3])).length) Slot.unset).toArray = ls at hl ⊢
    have hl : lv_has ls 4 [(0, .ref (ad 3 0)), (1, .null), (2, .int x2), (3, .int x3)] := hl
    refine lv_aload_nN hx hb dX0_writeNumber_0 rfl (lv_at hl 1 rfl) ?_
    refine lv_ifnonnullN hx hb dX0_writeNumber_1 ?_
    refine lv_iconst (v := 1) hx hb dX0_writeNumber_4 (by decide) ?_
    obtain ⟨rfl, rfl⟩ := sp2 hf
    exact e_i ⟨hx, hb, hr, hlk⟩ hW hS dX0_writeNumber_5
  · rw [om_s] at hf
    refine W.eq (g2 := entryFrame m ([.ref (ad 3 0), .ref (ad 8 i1), .int x2, .int x3] : List Value).toArray 4) rfl ?_
    have hl := lv_entry ([.ref (ad 3 0), .ref (ad 8 i1), .int x2, .int x3]) (n := 4) (Nat.le_of_ble_eq_true rfl)
    rw [lg_entry_eq]
    generalize (lg_sl ([.ref (ad 3 0), .ref (ad 8 i1), .int x2, .int x3]) ++ List.replicate (4 - (lg_sl ([.ref (ad 3 0), .ref (ad 8 i1), .int x2, .int x3])).length) Slot.unset).toArray = ls at hl ⊢
    have hl : lv_has ls 4 [(0, .ref (ad 3 0)), (1, .ref (ad 8 i1)), (2, .int x2), (3, .int x3)] := hl
    refine lv_aload_n hx hb dX0_writeNumber_0 rfl (lv_at hl 1 rfl) ?_
    refine lv_ifnonnull (tgt := 6) hx hb dX0_writeNumber_1 (by decide) ?_
    refine lv_aload_n hx hb dX0_writeNumber_6 rfl (lv_at hl 1 rfl) ?_
    obtain ⟨r2, h1, hf⟩ := ob1_some hf
    refine k_yX7_isRowOfNumbers X hK hZ hW hS hl.1 w1 h1 mlRX0_168 ⟨Nat.le_of_ble_eq_true rfl, Nat.le_of_ble_eq_true rfl⟩ ⟨Nat.le_of_ble_eq_true rfl, Nat.le_of_ble_eq_true rfl⟩ (Nat.le_of_ble_eq_true rfl) dX0_writeNumber_7 (fun H locs hW hS => ?_)
    refine lv_if_ne (tgt := 15) hx hb dX0_writeNumber_10 (by decide) (fun c3 => ?_) (fun c3 => ?_)
    · rw [if_neg c3] at hf
      refine lv_aload_n hx hb dX0_writeNumber_15 rfl (lv_at hl 1 rfl) ?_
      refine lv_iload_n hx hb dX0_writeNumber_16 rfl (lv_at hl 2 rfl) ?_
      obtain ⟨r5, h4, hf⟩ := ob1_some hf
      refine k_yX7_hasPlace X hK hZ hW hS hl.1 w1 h4 mlRX0_171 ⟨Nat.le_of_ble_eq_true rfl, Nat.le_of_ble_eq_true rfl⟩ ⟨Nat.le_of_ble_eq_true rfl, Nat.le_of_ble_eq_true rfl⟩ (Nat.le_of_ble_eq_true rfl) dX0_writeNumber_17 (fun H locs hW hS => ?_)
      refine lv_if_ne (tgt := 25) hx hb dX0_writeNumber_20 (by decide) (fun c6 => ?_) (fun c6 => ?_)
      · rw [if_neg c6] at hf
        refine lv_aload_n hx hb dX0_writeNumber_25 rfl (lv_at hl 1 rfl) ?_
        refine g_7_2 X hK hW w1 flRX0_164 dX0_writeNumber_26 ?_
        refine lv_iload_n hx hb dX0_writeNumber_29 rfl (lv_at hl 2 rfl) ?_
        refine lv_aload_n hx hb dX0_writeNumber_30 rfl (lv_at hl 1 rfl) ?_
        refine g_7_1 X hK hW w1 flRX0_175 dX0_writeNumber_31 ?_
        refine lv_iconst (v := 5) hx hb dX0_writeNumber_34 (by decide) ?_
        refine lv_icmp_ne (tgt := 43) hx hb dX0_writeNumber_35 (by decide) (fun c7 => ?_) (fun c7 => ?_)
        · rw [if_neg c7] at hf
          refine lv_iload_n hx hb dX0_writeNumber_43 rfl (lv_at hl 3 rfl) ?_
          obtain ⟨b8, hf⟩ := gd_some hf
          obtain ⟨M9, hM9, hf⟩ := lt1_some hf
          have v10 : i1 < (M9 60 0 1).toNatClampNeg := by rw [hM9, mp_ne _ _ (fun q => absurd q.1 (by decide))]; exact w1
          refine as_19 X hK hW hS w1 b8 hM9 dX0_writeNumber_44 (fun H locs hW hS => ?_)
          refine lv_iconst (v := 0) hx hb dX0_writeNumber_45 (by decide) ?_
          obtain ⟨rfl, rfl⟩ := sp2 hf
          exact e_i ⟨hx, hb, hr, hlk⟩ hW hS dX0_writeNumber_46
        · rw [if_pos c7] at hf
          refine lv_iload_n hx hb dX0_writeNumber_38 rfl (lv_at hl 3 rfl) ?_
          refine lv_i2b (v := x3.toInt8.toInt32) hx hb dX0_writeNumber_39 rfl ?_
          refine lv_goto (tgt := 44) hx hb dX0_writeNumber_40 (by decide) ?_
          obtain ⟨b11, hf⟩ := gd_some hf
          obtain ⟨M12, hM12, hf⟩ := lt1_some hf
          have v13 : i1 < (M12 60 0 1).toNatClampNeg := by rw [hM12, mp_ne _ _ (fun q => absurd q.1 (by decide))]; exact w1
          refine as_19 X hK hW hS w1 b11 hM12 dX0_writeNumber_44 (fun H locs hW hS => ?_)
          refine lv_iconst (v := 0) hx hb dX0_writeNumber_45 (by decide) ?_
          obtain ⟨rfl, rfl⟩ := sp2 hf
          exact e_i ⟨hx, hb, hr, hlk⟩ hW hS dX0_writeNumber_46
      · rw [if_pos c6] at hf
        refine lv_iconst (v := 2) hx hb dX0_writeNumber_23 (by decide) ?_
        obtain ⟨rfl, rfl⟩ := sp2 hf
        exact e_i ⟨hx, hb, hr, hlk⟩ hW hS dX0_writeNumber_24
    · rw [if_pos c3] at hf
      refine lv_iconst (v := 3) hx hb dX0_writeNumber_13 (by decide) ?_
      obtain ⟨rfl, rfl⟩ := sp2 hf
      exact e_i ⟨hx, hb, hr, hlk⟩ hW hS dX0_writeNumber_14
set_option maxRecDepth 100000 in
set_option maxHeartbeats 4000000 in
theorem k_yX0_writeNumber {p : Program} {l : Launch} {e : Env} {R : Room} {s : State} {m : MethodId} {args : Array Value} {below : List Frame} {meth : Method} {c : Code} {H : Heap} {locs : List Loc} {cells slots : Nat} {Q : State → Prop} {cc : ByteArray} {pc nL index : Nat} {ret : Option FieldType} {own : String} {ls : Array Slot} {rest : List Value} {E : Lay} {ad : Nat → Nat → Nat} {M N : Mem} (X : CX p s m args meth c cc nL ret own) (hK : KK E s) (hZ : ZZ E s) (hW : WD E ad (M, N) H) (hS : va_S (ow E) s.heap H locs) (hsz : ls.size = nL) {x2 : Int32} {x3 : Int32} (o1 : Option Nat) (w1 : om o1 True (fun i => i < (M 60 0 1).toNatClampNeg)) {r : Int32} {Mr : Mem} (hf : f_yX0_writeNumber M o1 x2 x3 = some (r, Mr)) (hn : Cond.methodLink own index yX0_writeNumber ∈ TB) (hR : 1 + 1 ≤ R.frames ∧ 8 + (4 + 11) + 21 ≤ R.locals) (hC : cells ≤ R.cells ∧ slots ≤ R.slots) (h8 : (rest.map fun v => v.category).sum ≤ 8) (hdg : decode cc pc = .ok (.invokevirtual index, 3)) (kk : ∀ (H1 : Heap) (locs1 : List Loc), WD E ad (Mr, N) H1 → va_S (ow E) s.heap H1 locs1 → W p l e R s m args below meth c H1 locs1 cells slots Q (F0 m (pc + 3) ls (.int r :: rest))) : W p l e R s m args below meth c H locs cells slots Q (F0 m pc ls (.int x3 :: .int x2 :: va_rf (o1.map (ad 8)) :: .ref (ad 3 0) :: rest)) := by
  refine va_calli (va_runV (C := RX0) (As := [va_rf (o1.map (ad 8)), .int x2, .int x3]) (rest := rest) ⟨X.1, X.2.1, X.2.2.1, X.2.2.2.1, X.2.2.2.2.1⟩ (c_yX0_writeNumber l E ad M N o1 x2 x3 w1 r Mr hf) (cwV 3 X.2.2.2.2.1 (gV hn im_yX0_writeNumber se_yX0_writeNumber iniRX0 cd_yX0_writeNumber) rfl rfl rfl (by decide +kernel) hR) ⟨fun a U g mk q => ⟨q.1, q.2.calling⟩, va_recv hK.1 (hW.at (c := 3) (i := 0) Nat.zero_lt_one rfl) (ci := 0) (q0 := 0) rfl rfl, fun U hU hw => ⟨rfl, PB.at hW hK hZ hS hU hw⟩⟩ rfl rfl hsz rfl (lv_room h8) hdg hC) hS (fun _ _ h => h) (fun _ h => h) (fun r' u t H1 locs1 ht hvm hw hB hz1 hk1 hS1 => ?_)
  obtain ⟨rfl, rfl⟩ := hw
  rw [ht] at hB
  exact kk H1 locs1 hB hS1
def f_yX0_takeThing (M : Mem) (i1 : Nat) (x2 : Int32) (o3 : Option Nat) (x4 : Int32) : Option (Int32 × Mem) := om o3 ((some (1, M))) (fun i3 => ob1 (f_yX7_isRowOfThings M i3) (fun r2 => (if r2 = 0 then (some (3, M)) else ob1 (f_yX7_hasPlace M i3 x4) (fun r5 => (if r5 = 0 then (some (2, M)) else gd (¬ (x4 < 0 ∨ (M 8 i3 4).toNatClampNeg ≤ x4.toNatClampNeg)) (ob1 (f_yX5_grasp M i1 x2 (M 19 i3 x4.toNatClampNeg)) (fun M9 => (some (0, M9)))))))))
set_option maxRecDepth 100000 in
set_option maxHeartbeats 4000000 in
theorem c_yX0_takeThing (l : Launch) (E : Lay) (ad : Nat → Nat → Nat) (M N : Mem) (i1 : Nat) (x2 : Int32) (o3 : Option Nat) (x4 : Int32) (w1 : i1 < 6) (w3 : om o3 True (fun i => i < (M 60 0 1).toNatClampNeg)) (r : Int32) (Mr : Mem) (hf : f_yX0_takeThing M i1 x2 o3 x4 = some (r, Mr)) : Met l yX0_takeThing (Cond.code yX0_takeThing cX0_takeThing 5 (some .int) :: TB) (rmm 2 42) (va_Pc [.ref (ad 3 0), .ref (ad 6 i1), .int x2, va_rf (o3.map (ad 8)), .int x4] (PB E ad (M, N))) (Qi E ad r (Mr, N)) 0 0 (ow E) := by
  refine Met.ofW (cc := cX0_takeThing) (maxL := 5) (ret := (some .int)) (by decide) rfl ?_
  intro p e s m args below meth c s₁ B hml hv
  obtain ⟨rfl, hW, hK, hZ⟩ := hv
  have hT : ∀ w ∈ TB, w.before _ s = true := fun w h => atoms_spec (ws := (Cond.code yX0_takeThing cX0_takeThing 5 (some .int) :: TB)) B.pre w (List.mem_cons_of_mem _ h)
  have X : CX p s m _ meth c cX0_takeThing 5 (some .int) RX0 := ⟨B.exec, B.bytes, hml, findClass_of_methodNamed B.named, hT, B.returns, B.notSynchronized⟩
  obtain ⟨hx, hb, hml, hown, hT, hr, hlk⟩ := id X
  have hS : va_S (ow E) s.heap s.heap [] := va_S.rf
  unfold f_yX0_takeThing at hf
  rcases o3 with _ | i3
  · rw [om_n] at hf
    refine W.eq (g2 := entryFrame m ([.ref (ad 3 0), .ref (ad 6 i1), .int x2, .null, .int x4] : List Value).toArray 5) rfl ?_
    have hl := lv_entry ([.ref (ad 3 0), .ref (ad 6 i1), .int x2, .null, .int x4]) (n := 5) (Nat.le_of_ble_eq_true rfl)
    rw [lg_entry_eq]
    generalize (lg_sl ([.ref (ad 3 0), .ref (ad 6 i1), .int x2, .null, .int x4]) ++ List.replicate (5 - (lg_sl ([.ref (ad 3 0), .ref (ad 6 i1), .int x2, .null, .int x4])).length) Slot.unset).toArray = ls at hl ⊢
    have hl : lv_has ls 5 [(0, .ref (ad 3 0)), (1, .ref (ad 6 i1)), (2, .int x2), (3, .null), (4, .int x4)] := hl
    refine lv_aload_nN hx hb dX0_takeThing_0 rfl (lv_at hl 3 rfl) ?_
    refine lv_ifnonnullN hx hb dX0_takeThing_1 ?_
    refine lv_iconst (v := 1) hx hb dX0_takeThing_4 (by decide) ?_
    obtain ⟨rfl, rfl⟩ := sp2 hf
    exact e_i ⟨hx, hb, hr, hlk⟩ hW hS dX0_takeThing_5
  · rw [om_s] at hf
    refine W.eq (g2 := entryFrame m ([.ref (ad 3 0), .ref (ad 6 i1), .int x2, .ref (ad 8 i3), .int x4] : List Value).toArray 5) rfl ?_
    have hl := lv_entry ([.ref (ad 3 0), .ref (ad 6 i1), .int x2, .ref (ad 8 i3), .int x4]) (n := 5) (Nat.le_of_ble_eq_true rfl)
    rw [lg_entry_eq]
    generalize (lg_sl ([.ref (ad 3 0), .ref (ad 6 i1), .int x2, .ref (ad 8 i3), .int x4]) ++ List.replicate (5 - (lg_sl ([.ref (ad 3 0), .ref (ad 6 i1), .int x2, .ref (ad 8 i3), .int x4])).length) Slot.unset).toArray = ls at hl ⊢
    have hl : lv_has ls 5 [(0, .ref (ad 3 0)), (1, .ref (ad 6 i1)), (2, .int x2), (3, .ref (ad 8 i3)), (4, .int x4)] := hl
    refine lv_aload_n hx hb dX0_takeThing_0 rfl (lv_at hl 3 rfl) ?_
    refine lv_ifnonnull (tgt := 6) hx hb dX0_takeThing_1 (by decide) ?_
    refine lv_aload_n hx hb dX0_takeThing_6 rfl (lv_at hl 3 rfl) ?_
    obtain ⟨r2, h1, hf⟩ := ob1_some hf
    refine k_yX7_isRowOfThings X hK hZ hW hS hl.1 w3 h1 mlRX0_178 ⟨Nat.le_of_ble_eq_true rfl, Nat.le_of_ble_eq_true rfl⟩ ⟨Nat.le_of_ble_eq_true rfl, Nat.le_of_ble_eq_true rfl⟩ (Nat.le_of_ble_eq_true rfl) dX0_takeThing_7 (fun H locs hW hS => ?_)
    refine lv_if_ne (tgt := 15) hx hb dX0_takeThing_10 (by decide) (fun c3 => ?_) (fun c3 => ?_)
    · rw [if_neg c3] at hf
      refine lv_aload_n hx hb dX0_takeThing_15 rfl (lv_at hl 3 rfl) ?_
      refine lv_iload hx hb dX0_takeThing_16 (lv_at hl 4 rfl) ?_
      obtain ⟨r5, h4, hf⟩ := ob1_some hf
      refine k_yX7_hasPlace X hK hZ hW hS hl.1 w3 h4 mlRX0_171 ⟨Nat.le_of_ble_eq_true rfl, Nat.le_of_ble_eq_true rfl⟩ ⟨Nat.le_of_ble_eq_true rfl, Nat.le_of_ble_eq_true rfl⟩ (Nat.le_of_ble_eq_true rfl) dX0_takeThing_18 (fun H locs hW hS => ?_)
      refine lv_if_ne (tgt := 26) hx hb dX0_takeThing_21 (by decide) (fun c6 => ?_) (fun c6 => ?_)
      · rw [if_neg c6] at hf
        refine lv_aload_n hx hb dX0_takeThing_26 rfl (lv_at hl 1 rfl) ?_
        refine lv_iload_n hx hb dX0_takeThing_27 rfl (lv_at hl 2 rfl) ?_
        refine lv_aload_n hx hb dX0_takeThing_28 rfl (lv_at hl 3 rfl) ?_
        refine g_7_2 X hK hW w3 flRX0_164 dX0_takeThing_29 ?_
        refine lv_iload hx hb dX0_takeThing_32 (lv_at hl 4 rfl) ?_
        obtain ⟨b7, hf⟩ := gd_some hf
        refine al_19 X hK hW w3 b7 dX0_takeThing_34 ?_
        obtain ⟨M9, h8, hf⟩ := ob1_some hf
        refine k_yX5_grasp X hK hZ hW hS hl.1 w1 h8 mlRX0_92 ⟨Nat.le_of_ble_eq_true rfl, Nat.le_of_ble_eq_true rfl⟩ ⟨Nat.le_of_ble_eq_true rfl, Nat.le_of_ble_eq_true rfl⟩ (Nat.le_of_ble_eq_true rfl) dX0_takeThing_35 (fun H locs hW hS => ?_)
        refine lv_iconst (v := 0) hx hb dX0_takeThing_38 (by decide) ?_
        obtain ⟨rfl, rfl⟩ := sp2 hf
        exact e_i ⟨hx, hb, hr, hlk⟩ hW hS dX0_takeThing_39
      · rw [if_pos c6] at hf
        refine lv_iconst (v := 2) hx hb dX0_takeThing_24 (by decide) ?_
        obtain ⟨rfl, rfl⟩ := sp2 hf
        exact e_i ⟨hx, hb, hr, hlk⟩ hW hS dX0_takeThing_25
    · rw [if_pos c3] at hf
      refine lv_iconst (v := 3) hx hb dX0_takeThing_13 (by decide) ?_
      obtain ⟨rfl, rfl⟩ := sp2 hf
      exact e_i ⟨hx, hb, hr, hlk⟩ hW hS dX0_takeThing_14
set_option maxRecDepth 100000 in
set_option maxHeartbeats 4000000 in
theorem k_yX0_takeThing {p : Program} {l : Launch} {e : Env} {R : Room} {s : State} {m : MethodId} {args : Array Value} {below : List Frame} {meth : Method} {c : Code} {H : Heap} {locs : List Loc} {cells slots : Nat} {Q : State → Prop} {cc : ByteArray} {pc nL index : Nat} {ret : Option FieldType} {own : String} {ls : Array Slot} {rest : List Value} {E : Lay} {ad : Nat → Nat → Nat} {M N : Mem} (X : CX p s m args meth c cc nL ret own) (hK : KK E s) (hZ : ZZ E s) (hW : WD E ad (M, N) H) (hS : va_S (ow E) s.heap H locs) (hsz : ls.size = nL) {i1 : Nat} {x2 : Int32} {x4 : Int32} (w1 : i1 < 6) (o3 : Option Nat) (w3 : om o3 True (fun i => i < (M 60 0 1).toNatClampNeg)) {r : Int32} {Mr : Mem} (hf : f_yX0_takeThing M i1 x2 o3 x4 = some (r, Mr)) (hn : Cond.methodLink own index yX0_takeThing ∈ TB) (hR : 2 + 1 ≤ R.frames ∧ 8 + (5 + 11) + 42 ≤ R.locals) (hC : cells ≤ R.cells ∧ slots ≤ R.slots) (h8 : (rest.map fun v => v.category).sum ≤ 8) (hdg : decode cc pc = .ok (.invokevirtual index, 3)) (kk : ∀ (H1 : Heap) (locs1 : List Loc), WD E ad (Mr, N) H1 → va_S (ow E) s.heap H1 locs1 → W p l e R s m args below meth c H1 locs1 cells slots Q (F0 m (pc + 3) ls (.int r :: rest))) : W p l e R s m args below meth c H locs cells slots Q (F0 m pc ls (.int x4 :: va_rf (o3.map (ad 8)) :: .int x2 :: .ref (ad 6 i1) :: .ref (ad 3 0) :: rest)) := by
  refine va_calli (va_runV (C := RX0) (As := [.ref (ad 6 i1), .int x2, va_rf (o3.map (ad 8)), .int x4]) (rest := rest) ⟨X.1, X.2.1, X.2.2.1, X.2.2.2.1, X.2.2.2.2.1⟩ (c_yX0_takeThing l E ad M N i1 x2 o3 x4 w1 w3 r Mr hf) (cwV 4 X.2.2.2.2.1 (gV hn im_yX0_takeThing se_yX0_takeThing iniRX0 cd_yX0_takeThing) rfl rfl rfl (by decide +kernel) hR) ⟨fun a U g mk q => ⟨q.1, q.2.calling⟩, va_recv hK.1 (hW.at (c := 3) (i := 0) Nat.zero_lt_one rfl) (ci := 0) (q0 := 0) rfl rfl, fun U hU hw => ⟨rfl, PB.at hW hK hZ hS hU hw⟩⟩ rfl rfl hsz rfl (lv_room h8) hdg hC) hS (fun _ _ h => h) (fun _ h => h) (fun r' u t H1 locs1 ht hvm hw hB hz1 hk1 hS1 => ?_)
  obtain ⟨rfl, rfl⟩ := hw
  rw [ht] at hB
  exact kk H1 locs1 hB hS1
def f_yX0_join (M : Mem) (i1 : Nat) (i2 : Nat) : Option (Int32 × Mem) := ob1 (f_yX5_isUnderWay M i2) (fun r2 => (if r2 = 0 then (some (0, M)) else ob2 (f_yX5_takeFlag M i1) (fun r5 M6 => (if r5 = 0 then ob1 (f_yX5_become M6 i1 6 (nI i2) (-4)) (fun M9 => (some (0, M9))) else (some (9, M6))))))
set_option maxRecDepth 100000 in
set_option maxHeartbeats 4000000 in
theorem c_yX0_join (l : Launch) (E : Lay) (ad : Nat → Nat → Nat) (M N : Mem) (i1 : Nat) (i2 : Nat) (w1 : i1 < 6) (w2 : i2 < 6) (r : Int32) (Mr : Mem) (hf : f_yX0_join M i1 i2 = some (r, Mr)) : Met l yX0_join (Cond.code yX0_join cX0_join 3 (some .int) :: TB) (rmm 1 23) (va_Pc [.ref (ad 3 0), .ref (ad 6 i1), .ref (ad 6 i2)] (PB E ad (M, N))) (Qi E ad r (Mr, N)) 0 0 (ow E) := by
  refine Met.ofW (cc := cX0_join) (maxL := 3) (ret := (some .int)) (by decide) rfl ?_
  intro p e s m args below meth c s₁ B hml hv
  obtain ⟨rfl, hW, hK, hZ⟩ := hv
  have hT : ∀ w ∈ TB, w.before _ s = true := fun w h => atoms_spec (ws := (Cond.code yX0_join cX0_join 3 (some .int) :: TB)) B.pre w (List.mem_cons_of_mem _ h)
  have X : CX p s m _ meth c cX0_join 3 (some .int) RX0 := ⟨B.exec, B.bytes, hml, findClass_of_methodNamed B.named, hT, B.returns, B.notSynchronized⟩
  obtain ⟨hx, hb, hml, hown, hT, hr, hlk⟩ := id X
  have hS : va_S (ow E) s.heap s.heap [] := va_S.rf
  have hl := lv_entry ([.ref (ad 3 0), .ref (ad 6 i1), .ref (ad 6 i2)]) (n := 3) (Nat.le_of_ble_eq_true rfl)
  rw [lg_entry_eq]
  generalize (lg_sl ([.ref (ad 3 0), .ref (ad 6 i1), .ref (ad 6 i2)]) ++ List.replicate (3 - (lg_sl ([.ref (ad 3 0), .ref (ad 6 i1), .ref (ad 6 i2)])).length) Slot.unset).toArray = ls at hl ⊢
  have hl : lv_has ls 3 [(0, .ref (ad 3 0)), (1, .ref (ad 6 i1)), (2, .ref (ad 6 i2))] := hl
  unfold f_yX0_join at hf
  refine lv_aload_n hx hb dX0_join_0 rfl (lv_at hl 2 rfl) ?_
  obtain ⟨r2, h1, hf⟩ := ob1_some hf
  refine k_yX5_isUnderWay X hK hZ hW hS hl.1 w2 h1 mlRX0_257 ⟨Nat.le_of_ble_eq_true rfl, Nat.le_of_ble_eq_true rfl⟩ ⟨Nat.le_of_ble_eq_true rfl, Nat.le_of_ble_eq_true rfl⟩ (Nat.le_of_ble_eq_true rfl) dX0_join_1 (fun H locs hW hS => ?_)
  refine lv_if_ne (tgt := 9) hx hb dX0_join_4 (by decide) (fun c3 => ?_) (fun c3 => ?_)
  · rw [if_neg c3] at hf
    refine lv_aload_n hx hb dX0_join_9 rfl (lv_at hl 1 rfl) ?_
    obtain ⟨r5, M6, h4, hf⟩ := ob2_some hf
    refine k_yX5_takeFlag X hK hZ hW hS hl.1 w1 h4 mlRX0_225 ⟨Nat.le_of_ble_eq_true rfl, Nat.le_of_ble_eq_true rfl⟩ ⟨Nat.le_of_ble_eq_true rfl, Nat.le_of_ble_eq_true rfl⟩ (Nat.le_of_ble_eq_true rfl) dX0_join_10 (fun H locs hW hS => ?_)
    refine lv_if_eq (tgt := 19) hx hb dX0_join_13 (by decide) (fun c7 => ?_) (fun c7 => ?_)
    · rw [if_pos c7] at hf
      refine lv_aload_n hx hb dX0_join_19 rfl (lv_at hl 1 rfl) ?_
      refine lv_bipush (v := 6) hx hb dX0_join_20 (by decide) ?_
      refine lv_aload_n hx hb dX0_join_22 rfl (lv_at hl 2 rfl) ?_
      refine g_5_0 X hK hW w2 flRX0_192 dX0_join_23 ?_
      refine lv_bipush (v := -4) hx hb dX0_join_26 (by decide) ?_
      obtain ⟨M9, h8, hf⟩ := ob1_some hf
      refine k_yX5_become X hK hZ hW hS hl.1 w1 h8 mlRX0_253 ⟨Nat.le_of_ble_eq_true rfl, Nat.le_of_ble_eq_true rfl⟩ ⟨Nat.le_of_ble_eq_true rfl, Nat.le_of_ble_eq_true rfl⟩ (Nat.le_of_ble_eq_true rfl) dX0_join_28 (fun H locs hW hS => ?_)
      refine lv_iconst (v := 0) hx hb dX0_join_31 (by decide) ?_
      obtain ⟨rfl, rfl⟩ := sp2 hf
      exact e_i ⟨hx, hb, hr, hlk⟩ hW hS dX0_join_32
    · rw [if_neg c7] at hf
      refine lv_bipush (v := 9) hx hb dX0_join_16 (by decide) ?_
      obtain ⟨rfl, rfl⟩ := sp2 hf
      exact e_i ⟨hx, hb, hr, hlk⟩ hW hS dX0_join_18
  · rw [if_pos c3] at hf
    refine lv_iconst (v := 0) hx hb dX0_join_7 (by decide) ?_
    obtain ⟨rfl, rfl⟩ := sp2 hf
    exact e_i ⟨hx, hb, hr, hlk⟩ hW hS dX0_join_8
set_option maxRecDepth 100000 in
set_option maxHeartbeats 4000000 in
theorem k_yX0_join {p : Program} {l : Launch} {e : Env} {R : Room} {s : State} {m : MethodId} {args : Array Value} {below : List Frame} {meth : Method} {c : Code} {H : Heap} {locs : List Loc} {cells slots : Nat} {Q : State → Prop} {cc : ByteArray} {pc nL index : Nat} {ret : Option FieldType} {own : String} {ls : Array Slot} {rest : List Value} {E : Lay} {ad : Nat → Nat → Nat} {M N : Mem} (X : CX p s m args meth c cc nL ret own) (hK : KK E s) (hZ : ZZ E s) (hW : WD E ad (M, N) H) (hS : va_S (ow E) s.heap H locs) (hsz : ls.size = nL) {i1 : Nat} {i2 : Nat} (w1 : i1 < 6) (w2 : i2 < 6) {r : Int32} {Mr : Mem} (hf : f_yX0_join M i1 i2 = some (r, Mr)) (hn : Cond.methodLink own index yX0_join ∈ TB) (hR : 1 + 1 ≤ R.frames ∧ 8 + (3 + 11) + 23 ≤ R.locals) (hC : cells ≤ R.cells ∧ slots ≤ R.slots) (h8 : (rest.map fun v => v.category).sum ≤ 8) (hdg : decode cc pc = .ok (.invokevirtual index, 3)) (kk : ∀ (H1 : Heap) (locs1 : List Loc), WD E ad (Mr, N) H1 → va_S (ow E) s.heap H1 locs1 → W p l e R s m args below meth c H1 locs1 cells slots Q (F0 m (pc + 3) ls (.int r :: rest))) : W p l e R s m args below meth c H locs cells slots Q (F0 m pc ls (.ref (ad 6 i2) :: .ref (ad 6 i1) :: .ref (ad 3 0) :: rest)) := by
  refine va_calli (va_runV (C := RX0) (As := [.ref (ad 6 i1), .ref (ad 6 i2)]) (rest := rest) ⟨X.1, X.2.1, X.2.2.1, X.2.2.2.1, X.2.2.2.2.1⟩ (c_yX0_join l E ad M N i1 i2 w1 w2 r Mr hf) (cwV 2 X.2.2.2.2.1 (gV hn im_yX0_join se_yX0_join iniRX0 cd_yX0_join) rfl rfl rfl (by decide +kernel) hR) ⟨fun a U g mk q => ⟨q.1, q.2.calling⟩, va_recv hK.1 (hW.at (c := 3) (i := 0) Nat.zero_lt_one rfl) (ci := 0) (q0 := 0) rfl rfl, fun U hU hw => ⟨rfl, PB.at hW hK hZ hS hU hw⟩⟩ rfl rfl hsz rfl (lv_room h8) hdg hC) hS (fun _ _ h => h) (fun _ h => h) (fun r' u t H1 locs1 ht hvm hw hB hz1 hk1 hS1 => ?_)
  obtain ⟨rfl, rfl⟩ := hw
  rw [ht] at hB
  exact kk H1 locs1 hB hS1
def f_yX0_startNew (M : Mem) (i1 : Nat) : Option (Int32 × Mem) := (if (M 6 i1 0) = 1 then ob1 (f_yX5_become M i1 2 (-4) (-4)) (fun M3 => (some (0, M3))) else (some (10, M)))
set_option maxRecDepth 100000 in
set_option maxHeartbeats 4000000 in
theorem c_yX0_startNew (l : Launch) (E : Lay) (ad : Nat → Nat → Nat) (M N : Mem) (i1 : Nat) (w1 : i1 < 6) (r : Int32) (Mr : Mem) (hf : f_yX0_startNew M i1 = some (r, Mr)) : Met l yX0_startNew (Cond.code yX0_startNew cX0_startNew 2 (some .int) :: TB) (rmm 1 23) (va_Pc [.ref (ad 3 0), .ref (ad 6 i1)] (PB E ad (M, N))) (Qi E ad r (Mr, N)) 0 0 (ow E) := by
  refine Met.ofW (cc := cX0_startNew) (maxL := 2) (ret := (some .int)) (by decide) rfl ?_
  intro p e s m args below meth c s₁ B hml hv
  obtain ⟨rfl, hW, hK, hZ⟩ := hv
  have hT : ∀ w ∈ TB, w.before _ s = true := fun w h => atoms_spec (ws := (Cond.code yX0_startNew cX0_startNew 2 (some .int) :: TB)) B.pre w (List.mem_cons_of_mem _ h)
  have X : CX p s m _ meth c cX0_startNew 2 (some .int) RX0 := ⟨B.exec, B.bytes, hml, findClass_of_methodNamed B.named, hT, B.returns, B.notSynchronized⟩
  obtain ⟨hx, hb, hml, hown, hT, hr, hlk⟩ := id X
  have hS : va_S (ow E) s.heap s.heap [] := va_S.rf
  have hl := lv_entry ([.ref (ad 3 0), .ref (ad 6 i1)]) (n := 2) (Nat.le_of_ble_eq_true rfl)
  rw [lg_entry_eq]
  generalize (lg_sl ([.ref (ad 3 0), .ref (ad 6 i1)]) ++ List.replicate (2 - (lg_sl ([.ref (ad 3 0), .ref (ad 6 i1)])).length) Slot.unset).toArray = ls at hl ⊢
  have hl : lv_has ls 2 [(0, .ref (ad 3 0)), (1, .ref (ad 6 i1))] := hl
  unfold f_yX0_startNew at hf
  refine lv_aload_n hx hb dX0_startNew_0 rfl (lv_at hl 1 rfl) ?_
  refine g_5_4 X hK hW w1 flRX0_260 dX0_startNew_1 ?_
  refine lv_iconst (v := 1) hx hb dX0_startNew_4 (by decide) ?_
  refine lv_icmp_eq (tgt := 11) hx hb dX0_startNew_5 (by decide) (fun c1 => ?_) (fun c1 => ?_)
  · rw [if_pos c1] at hf
    refine lv_aload_n hx hb dX0_startNew_11 rfl (lv_at hl 1 rfl) ?_
    refine lv_iconst (v := 2) hx hb dX0_startNew_12 (by decide) ?_
    refine lv_bipush (v := -4) hx hb dX0_startNew_13 (by decide) ?_
    refine lv_bipush (v := -4) hx hb dX0_startNew_15 (by decide) ?_
    obtain ⟨M3, h2, hf⟩ := ob1_some hf
    refine k_yX5_become X hK hZ hW hS hl.1 w1 h2 mlRX0_253 ⟨Nat.le_of_ble_eq_true rfl, Nat.le_of_ble_eq_true rfl⟩ ⟨Nat.le_of_ble_eq_true rfl, Nat.le_of_ble_eq_true rfl⟩ (Nat.le_of_ble_eq_true rfl) dX0_startNew_17 (fun H locs hW hS => ?_)
    refine lv_iconst (v := 0) hx hb dX0_startNew_20 (by decide) ?_
    obtain ⟨rfl, rfl⟩ := sp2 hf
    exact e_i ⟨hx, hb, hr, hlk⟩ hW hS dX0_startNew_21
  · rw [if_neg c1] at hf
    refine lv_bipush (v := 10) hx hb dX0_startNew_8 (by decide) ?_
    obtain ⟨rfl, rfl⟩ := sp2 hf
    exact e_i ⟨hx, hb, hr, hlk⟩ hW hS dX0_startNew_10
set_option maxRecDepth 100000 in
set_option maxHeartbeats 4000000 in
theorem k_yX0_startNew {p : Program} {l : Launch} {e : Env} {R : Room} {s : State} {m : MethodId} {args : Array Value} {below : List Frame} {meth : Method} {c : Code} {H : Heap} {locs : List Loc} {cells slots : Nat} {Q : State → Prop} {cc : ByteArray} {pc nL index : Nat} {ret : Option FieldType} {own : String} {ls : Array Slot} {rest : List Value} {E : Lay} {ad : Nat → Nat → Nat} {M N : Mem} (X : CX p s m args meth c cc nL ret own) (hK : KK E s) (hZ : ZZ E s) (hW : WD E ad (M, N) H) (hS : va_S (ow E) s.heap H locs) (hsz : ls.size = nL) {i1 : Nat} (w1 : i1 < 6) {r : Int32} {Mr : Mem} (hf : f_yX0_startNew M i1 = some (r, Mr)) (hn : Cond.methodLink own index yX0_startNew ∈ TB) (hR : 1 + 1 ≤ R.frames ∧ 8 + (2 + 11) + 23 ≤ R.locals) (hC : cells ≤ R.cells ∧ slots ≤ R.slots) (h8 : (rest.map fun v => v.category).sum ≤ 8) (hdg : decode cc pc = .ok (.invokevirtual index, 3)) (kk : ∀ (H1 : Heap) (locs1 : List Loc), WD E ad (Mr, N) H1 → va_S (ow E) s.heap H1 locs1 → W p l e R s m args below meth c H1 locs1 cells slots Q (F0 m (pc + 3) ls (.int r :: rest))) : W p l e R s m args below meth c H locs cells slots Q (F0 m pc ls (.ref (ad 6 i1) :: .ref (ad 3 0) :: rest)) := by
  refine va_calli (va_runV (C := RX0) (As := [.ref (ad 6 i1)]) (rest := rest) ⟨X.1, X.2.1, X.2.2.1, X.2.2.2.1, X.2.2.2.2.1⟩ (c_yX0_startNew l E ad M N i1 w1 r Mr hf) (cwV 1 X.2.2.2.2.1 (gV hn im_yX0_startNew se_yX0_startNew iniRX0 cd_yX0_startNew) rfl rfl rfl (by decide +kernel) hR) ⟨fun a U g mk q => ⟨q.1, q.2.calling⟩, va_recv hK.1 (hW.at (c := 3) (i := 0) Nat.zero_lt_one rfl) (ci := 0) (q0 := 0) rfl rfl, fun U hU hw => ⟨rfl, PB.at hW hK hZ hS hU hw⟩⟩ rfl rfl hsz rfl (lv_room h8) hdg hC) hS (fun _ _ h => h) (fun _ h => h) (fun r' u t H1 locs1 ht hvm hw hB hz1 hk1 hS1 => ?_)
  obtain ⟨rfl, rfl⟩ := hw
  rw [ht] at hB
  exact kk H1 locs1 hB hS1
