def f_yX9_isUnderWay (N : Mem) (x1 : Int32) : Option (Int32) := gd (¬ (x1 < 0 ∨ 6 ≤ x1.toNatClampNeg)) (ob1 (f_yX9_in (N 31 0 x1.toNatClampNeg) 2 6) (fun r3 => gd (r3 = 0 ∨ r3 = 1) ((some r3))))
set_option maxRecDepth 100000 in
set_option maxHeartbeats 4000000 in
theorem c_yX9_isUnderWay (l : Launch) (E : Lay) (ad : Nat → Nat → Nat) (M N : Mem) (x1 : Int32) (r : Int32) (hf : f_yX9_isUnderWay N x1 = some r) : Met l yX9_isUnderWay (Cond.code yX9_isUnderWay cX9_isUnderWay 2 (some .boolean) :: TB) (rmm 1 22) (va_Pc [.ref (ad 20 0), .int x1] (PB E ad (M, N))) (Qi E ad r (M, N)) 0 0 (ow E) := by
  refine Met.ofW (cc := cX9_isUnderWay) (maxL := 2) (ret := (some .boolean)) (by decide) rfl ?_
  intro p e s m args below meth c s₁ B hml hv
  obtain ⟨rfl, hW, hK, hZ⟩ := hv
  have hT : ∀ w ∈ TB, w.before _ s = true := fun w h => atoms_spec (ws := (Cond.code yX9_isUnderWay cX9_isUnderWay 2 (some .boolean) :: TB)) B.pre w (List.mem_cons_of_mem _ h)
  have X : CX p s m _ meth c cX9_isUnderWay 2 (some .boolean) RX9 := ⟨B.exec, B.bytes, hml, findClass_of_methodNamed B.named, hT, B.returns, B.notSynchronized⟩
  obtain ⟨hx, hb, hml, hown, hT, hr, hlk⟩ := id X
  have hS : va_S (ow E) s.heap s.heap [] := va_S.rf
  have hl := lv_entry ([.ref (ad 20 0), .int x1]) (n := 2) (Nat.le_of_ble_eq_true rfl)
  rw [lg_entry_eq]
  generalize (lg_sl ([.ref (ad 20 0), .int x1]) ++ List.replicate (2 - (lg_sl ([.ref (ad 20 0), .int x1])).length) Slot.unset).toArray = ls at hl ⊢
  have hl : lv_has ls 2 [(0, .ref (ad 20 0)), (1, .int x1)] := hl
  unfold f_yX9_isUnderWay at hf
  refine lv_aload_n hx hb dX9_isUnderWay_0 rfl (lv_at hl 0 rfl) ?_
  refine g_9_12 X hK hW flRX9_40 dX9_isUnderWay_1 ?_
  refine lv_iload_n hx hb dX9_isUnderWay_4 rfl (lv_at hl 1 rfl) ?_
  obtain ⟨b1, hf⟩ := gd_some hf
  refine al_31 X hK hW b1 dX9_isUnderWay_5 ?_
  refine lv_iconst (v := 2) hx hb dX9_isUnderWay_6 (by decide) ?_
  refine lv_bipush (v := 6) hx hb dX9_isUnderWay_7 (by decide) ?_
  obtain ⟨r3, h2, hf⟩ := ob1_some hf
  refine k_yX9_in X hK hZ hW hS hl.1 h2 mlRX9_114 ⟨Nat.le_of_ble_eq_true rfl, Nat.le_of_ble_eq_true rfl⟩ ⟨Nat.le_of_ble_eq_true rfl, Nat.le_of_ble_eq_true rfl⟩ (Nat.le_of_ble_eq_true rfl) dX9_isUnderWay_9 (fun H locs hW hS => ?_)
  obtain ⟨z4, hf⟩ := gd_some hf
  obtain rfl := sp1 hf
  exact e_z ⟨hx, hb, hr, hlk⟩ (zn_ok z4) hW hS dX9_isUnderWay_12
set_option maxRecDepth 100000 in
set_option maxHeartbeats 4000000 in
theorem k_yX9_isUnderWay {p : Program} {l : Launch} {e : Env} {R : Room} {s : State} {m : MethodId} {args : Array Value} {below : List Frame} {meth : Method} {c : Code} {H : Heap} {locs : List Loc} {cells slots : Nat} {Q : State → Prop} {cc : ByteArray} {pc nL index : Nat} {ret : Option FieldType} {own : String} {ls : Array Slot} {rest : List Value} {E : Lay} {ad : Nat → Nat → Nat} {M N : Mem} (X : CX p s m args meth c cc nL ret own) (hK : KK E s) (hZ : ZZ E s) (hW : WD E ad (M, N) H) (hS : va_S (ow E) s.heap H locs) (hsz : ls.size = nL) {x1 : Int32} {r : Int32} (hf : f_yX9_isUnderWay N x1 = some r) (hn : Cond.methodLink own index yX9_isUnderWay ∈ TB) (hR : 1 + 1 ≤ R.frames ∧ 8 + (2 + 11) + 22 ≤ R.locals) (hC : cells ≤ R.cells ∧ slots ≤ R.slots) (h8 : (rest.map fun v => v.category).sum ≤ 8) (hdg : decode cc pc = .ok (.invokevirtual index, 3)) (kk : ∀ (H1 : Heap) (locs1 : List Loc), WD E ad (M, N) H1 → va_S (ow E) s.heap H1 locs1 → W p l e R s m args below meth c H1 locs1 cells slots Q (F0 m (pc + 3) ls (.int r :: rest))) : W p l e R s m args below meth c H locs cells slots Q (F0 m pc ls (.int x1 :: .ref (ad 20 0) :: rest)) := by
  refine va_calli (va_runV (C := RX9) (As := [.int x1]) (rest := rest) ⟨X.1, X.2.1, X.2.2.1, X.2.2.2.1, X.2.2.2.2.1⟩ (c_yX9_isUnderWay l E ad M N x1 r hf) (cwV 1 X.2.2.2.2.1 (gV hn im_yX9_isUnderWay se_yX9_isUnderWay iniRX9 cd_yX9_isUnderWay) rfl rfl rfl (by decide +kernel) hR) ⟨fun a U g mk q => ⟨q.1, q.2.calling⟩, va_recv hK.1 (hW.at (c := 20) (i := 0) Nat.zero_lt_one rfl) (ci := 9) (q0 := 0) rfl rfl, fun U hU hw => ⟨rfl, PB.at hW hK hZ hS hU hw⟩⟩ rfl rfl hsz rfl (lv_room h8) hdg hC) hS (fun _ _ h => h) (fun _ h => h) (fun r' u t H1 locs1 ht hvm hw hB hz1 hk1 hS1 => ?_)
  obtain ⟨rfl, rfl⟩ := hw
  rw [ht] at hB
  exact kk H1 locs1 hB hS1
def f_yX9_isInUse_L4 : Nat → Mem → Int32 → Int32 → Int32 → Option (Int32)
  | 0, _, _, _, _ => none
  | n + 1, N0, y1, y2, y3 => (if 6 ≤ y3 then gd (y2 = 0 ∨ y2 = 1) ((some y2)) else (if y2 = 0 then ob1 (f_yX9_isUnderWay N0 y3) (fun r5 => (if r5 = 0 then (f_yX9_isInUse_L4 n N0 y1 0 (y3 + 1)) else gd (¬ (y3 < 0 ∨ 6 ≤ y3.toNatClampNeg)) ((if (N0 32 0 y3.toNatClampNeg) = y1 then (f_yX9_isInUse_L4 n N0 y1 1 (y3 + 1)) else (f_yX9_isInUse_L4 n N0 y1 0 (y3 + 1)))))) else (f_yX9_isInUse_L4 n N0 y1 1 (y3 + 1))))
def f_yX9_isInUse (N : Mem) (x1 : Int32) : Option (Int32) := (f_yX9_isInUse_L4 70 N x1 0 0)
set_option maxRecDepth 100000 in
set_option maxHeartbeats 4000000 in
theorem l_yX9_isInUse_4 (l : Launch) (E : Lay) (ad : Nat → Nat → Nat) (M : Mem) {p : Program} {e : Env} {s : State} {m : MethodId} {args : Array Value} {below : List Frame} {meth : Method} {c : Code} (X : CX p s m args meth c cX9_isInUse 4 (some .boolean) RX9) (hK : KK E s) (hZ : ZZ E s) : ∀ (n : Nat) (N0 : Mem) (y1 : Int32) (y2 : Int32) (y3 : Int32) (r : Int32) (hf : f_yX9_isInUse_L4 n N0 y1 y2 y3 = some r) (H : Heap) (locs : List Loc) (ls : Array Slot), WD E ad (M, N0) H → va_S (ow E) s.heap H locs → lv_has ls 4 [(0, .ref (ad 20 0)), (1, .int y1), (2, .int y2), (3, .int y3)] → W p l e (rmm 2 43) s m args below meth c H locs 0 0 (MQ below (Qi E ad r (M, N0)) args s 0 0 (ow E)) (F0 m 4 ls []) := by
  obtain ⟨hx, hb, hml, hown, hT, hr, hlk⟩ := id X
  intro n
  induction n with
  | zero =>
    intro N0 y1 y2 y3 r hf
    rw [f_yX9_isInUse_L4] at hf
    cases hf
  | succ n ih =>
    intro N0 y1 y2 y3 r hf H locs ls hW hS hl
    rw [f_yX9_isInUse_L4] at hf
    refine lv_iload_n hx hb dX9_isInUse_4 rfl (lv_at hl 3 rfl) ?_
    refine lv_bipush (v := 6) hx hb dX9_isInUse_5 (by decide) ?_
    refine lv_icmp_ge (tgt := 44) hx hb dX9_isInUse_7 (by decide) (fun c1 => ?_) (fun c1 => ?_)
    · rw [if_pos c1] at hf
      refine lv_iload_n hx hb dX9_isInUse_44 rfl (lv_at hl 2 rfl) ?_
      obtain ⟨z2, hf⟩ := gd_some hf
      obtain rfl := sp1 hf
      exact e_z ⟨hx, hb, hr, hlk⟩ (zn_ok z2) hW hS dX9_isInUse_45
    · rw [if_neg c1] at hf
      refine lv_iload_n hx hb dX9_isInUse_10 rfl (lv_at hl 2 rfl) ?_
      refine lv_if_ne (tgt := 32) hx hb dX9_isInUse_11 (by decide) (fun c3 => ?_) (fun c3 => ?_)
      · rw [if_neg c3] at hf
        refine lv_iconst (v := 1) hx hb dX9_isInUse_32 (by decide) ?_
        refine lv_goto (tgt := 37) hx hb dX9_isInUse_33 (by decide) ?_
        refine lv_istore_n (lv' := [(2, .int 1), (0, .ref (ad 20 0)), (1, .int y1), (3, .int y3)]) hx hb dX9_isInUse_37 rfl hl (by decide) rfl (fun ls hl => ?_)
        refine lv_iinc (v := (y3 + 1)) (lv' := [(3, .int (y3 + 1)), (2, .int 1), (0, .ref (ad 20 0)), (1, .int y1)]) hx hb dX9_isInUse_38 hl (k := 3) rfl rfl (by decide) rfl (fun ls hl => ?_)
        refine lv_goto (tgt := 4) hx hb dX9_isInUse_41 (by decide) ?_
        exact ih _ _ _ _ _ hf _ _ _ hW hS (lv_sub hl [2, 3, 1, 0] rfl)
      · rw [if_pos c3] at hf
        refine lv_aload_n hx hb dX9_isInUse_14 rfl (lv_at hl 0 rfl) ?_
        refine lv_iload_n hx hb dX9_isInUse_15 rfl (lv_at hl 3 rfl) ?_
        obtain ⟨r5, h4, hf⟩ := ob1_some hf
        refine k_yX9_isUnderWay X hK hZ hW hS hl.1 h4 mlRX9_143 ⟨Nat.le_of_ble_eq_true rfl, Nat.le_of_ble_eq_true rfl⟩ ⟨Nat.le_of_ble_eq_true rfl, Nat.le_of_ble_eq_true rfl⟩ (Nat.le_of_ble_eq_true rfl) dX9_isInUse_16 (fun H locs hW hS => ?_)
        refine lv_if_eq (tgt := 36) hx hb dX9_isInUse_19 (by decide) (fun c6 => ?_) (fun c6 => ?_)
        · rw [if_pos c6] at hf
          refine lv_iconst (v := 0) hx hb dX9_isInUse_36 (by decide) ?_
          refine lv_istore_n (lv' := [(2, .int 0), (0, .ref (ad 20 0)), (1, .int y1), (3, .int y3)]) hx hb dX9_isInUse_37 rfl hl (by decide) rfl (fun ls hl => ?_)
          refine lv_iinc (v := (y3 + 1)) (lv' := [(3, .int (y3 + 1)), (2, .int 0), (0, .ref (ad 20 0)), (1, .int y1)]) hx hb dX9_isInUse_38 hl (k := 3) rfl rfl (by decide) rfl (fun ls hl => ?_)
          refine lv_goto (tgt := 4) hx hb dX9_isInUse_41 (by decide) ?_
          exact ih _ _ _ _ _ hf _ _ _ hW hS (lv_sub hl [2, 3, 1, 0] rfl)
        · rw [if_neg c6] at hf
          refine lv_aload_n hx hb dX9_isInUse_22 rfl (lv_at hl 0 rfl) ?_
          refine g_9_13 X hK hW flRX9_43 dX9_isInUse_23 ?_
          refine lv_iload_n hx hb dX9_isInUse_26 rfl (lv_at hl 3 rfl) ?_
          obtain ⟨b7, hf⟩ := gd_some hf
          refine al_32 X hK hW b7 dX9_isInUse_27 ?_
          refine lv_iload_n hx hb dX9_isInUse_28 rfl (lv_at hl 1 rfl) ?_
          refine lv_icmp_ne (tgt := 36) hx hb dX9_isInUse_29 (by decide) (fun c8 => ?_) (fun c8 => ?_)
          · rw [if_neg c8] at hf
            refine lv_iconst (v := 0) hx hb dX9_isInUse_36 (by decide) ?_
            refine lv_istore_n (lv' := [(2, .int 0), (0, .ref (ad 20 0)), (1, .int y1), (3, .int y3)]) hx hb dX9_isInUse_37 rfl hl (by decide) rfl (fun ls hl => ?_)
            refine lv_iinc (v := (y3 + 1)) (lv' := [(3, .int (y3 + 1)), (2, .int 0), (0, .ref (ad 20 0)), (1, .int y1)]) hx hb dX9_isInUse_38 hl (k := 3) rfl rfl (by decide) rfl (fun ls hl => ?_)
            refine lv_goto (tgt := 4) hx hb dX9_isInUse_41 (by decide) ?_
            exact ih _ _ _ _ _ hf _ _ _ hW hS (lv_sub hl [2, 3, 1, 0] rfl)
          · rw [if_pos c8] at hf
            refine lv_iconst (v := 1) hx hb dX9_isInUse_32 (by decide) ?_
            refine lv_goto (tgt := 37) hx hb dX9_isInUse_33 (by decide) ?_
            refine lv_istore_n (lv' := [(2, .int 1), (0, .ref (ad 20 0)), (1, .int y1), (3, .int y3)]) hx hb dX9_isInUse_37 rfl hl (by decide) rfl (fun ls hl => ?_)
            refine lv_iinc (v := (y3 + 1)) (lv' := [(3, .int (y3 + 1)), (2, .int 1), (0, .ref (ad 20 0)), (1, .int y1)]) hx hb dX9_isInUse_38 hl (k := 3) rfl rfl (by decide) rfl (fun ls hl => ?_)
            refine lv_goto (tgt := 4) hx hb dX9_isInUse_41 (by decide) ?_
            exact ih _ _ _ _ _ hf _ _ _ hW hS (lv_sub hl [2, 3, 1, 0] rfl)
set_option maxRecDepth 100000 in
set_option maxHeartbeats 4000000 in
theorem c_yX9_isInUse (l : Launch) (E : Lay) (ad : Nat → Nat → Nat) (M N : Mem) (x1 : Int32) (r : Int32) (hf : f_yX9_isInUse N x1 = some r) : Met l yX9_isInUse (Cond.code yX9_isInUse cX9_isInUse 4 (some .boolean) :: TB) (rmm 2 43) (va_Pc [.ref (ad 20 0), .int x1] (PB E ad (M, N))) (Qi E ad r (M, N)) 0 0 (ow E) := by
  refine Met.ofW (cc := cX9_isInUse) (maxL := 4) (ret := (some .boolean)) (by decide) rfl ?_
  intro p e s m args below meth c s₁ B hml hv
  obtain ⟨rfl, hW, hK, hZ⟩ := hv
  have hT : ∀ w ∈ TB, w.before _ s = true := fun w h => atoms_spec (ws := (Cond.code yX9_isInUse cX9_isInUse 4 (some .boolean) :: TB)) B.pre w (List.mem_cons_of_mem _ h)
  have X : CX p s m _ meth c cX9_isInUse 4 (some .boolean) RX9 := ⟨B.exec, B.bytes, hml, findClass_of_methodNamed B.named, hT, B.returns, B.notSynchronized⟩
  obtain ⟨hx, hb, hml, hown, hT, hr, hlk⟩ := id X
  have hS : va_S (ow E) s.heap s.heap [] := va_S.rf
  have hl := lv_entry ([.ref (ad 20 0), .int x1]) (n := 4) (Nat.le_of_ble_eq_true rfl)
  rw [lg_entry_eq]
  generalize (lg_sl ([.ref (ad 20 0), .int x1]) ++ List.replicate (4 - (lg_sl ([.ref (ad 20 0), .int x1])).length) Slot.unset).toArray = ls at hl ⊢
  have hl : lv_has ls 4 [(0, .ref (ad 20 0)), (1, .int x1)] := hl
  unfold f_yX9_isInUse at hf
  refine lv_iconst (v := 0) hx hb dX9_isInUse_0 (by decide) ?_
  refine lv_istore_n (lv' := [(2, .int 0), (0, .ref (ad 20 0)), (1, .int x1)]) hx hb dX9_isInUse_1 rfl hl (by decide) rfl (fun ls hl => ?_)
  refine lv_iconst (v := 0) hx hb dX9_isInUse_2 (by decide) ?_
  refine lv_istore_n (lv' := [(3, .int 0), (2, .int 0), (0, .ref (ad 20 0)), (1, .int x1)]) hx hb dX9_isInUse_3 rfl hl (by decide) rfl (fun ls hl => ?_)
  exact (l_yX9_isInUse_4 l E ad M X hK hZ 70) _ _ _ _ _ hf _ _ _ hW hS (lv_sub hl [2, 3, 1, 0] rfl)
set_option maxRecDepth 100000 in
set_option maxHeartbeats 4000000 in
theorem k_yX9_isInUse {p : Program} {l : Launch} {e : Env} {R : Room} {s : State} {m : MethodId} {args : Array Value} {below : List Frame} {meth : Method} {c : Code} {H : Heap} {locs : List Loc} {cells slots : Nat} {Q : State → Prop} {cc : ByteArray} {pc nL index : Nat} {ret : Option FieldType} {own : String} {ls : Array Slot} {rest : List Value} {E : Lay} {ad : Nat → Nat → Nat} {M N : Mem} (X : CX p s m args meth c cc nL ret own) (hK : KK E s) (hZ : ZZ E s) (hW : WD E ad (M, N) H) (hS : va_S (ow E) s.heap H locs) (hsz : ls.size = nL) {x1 : Int32} {r : Int32} (hf : f_yX9_isInUse N x1 = some r) (hn : Cond.methodLink own index yX9_isInUse ∈ TB) (hR : 2 + 1 ≤ R.frames ∧ 8 + (4 + 11) + 43 ≤ R.locals) (hC : cells ≤ R.cells ∧ slots ≤ R.slots) (h8 : (rest.map fun v => v.category).sum ≤ 8) (hdg : decode cc pc = .ok (.invokevirtual index, 3)) (kk : ∀ (H1 : Heap) (locs1 : List Loc), WD E ad (M, N) H1 → va_S (ow E) s.heap H1 locs1 → W p l e R s m args below meth c H1 locs1 cells slots Q (F0 m (pc + 3) ls (.int r :: rest))) : W p l e R s m args below meth c H locs cells slots Q (F0 m pc ls (.int x1 :: .ref (ad 20 0) :: rest)) := by
  refine va_calli (va_runV (C := RX9) (As := [.int x1]) (rest := rest) ⟨X.1, X.2.1, X.2.2.1, X.2.2.2.1, X.2.2.2.2.1⟩ (c_yX9_isInUse l E ad M N x1 r hf) (cwV 1 X.2.2.2.2.1 (gV hn im_yX9_isInUse se_yX9_isInUse iniRX9 cd_yX9_isInUse) rfl rfl rfl (by decide +kernel) hR) ⟨fun a U g mk q => ⟨q.1, q.2.calling⟩, va_recv hK.1 (hW.at (c := 20) (i := 0) Nat.zero_lt_one rfl) (ci := 9) (q0 := 0) rfl rfl, fun U hU hw => ⟨rfl, PB.at hW hK hZ hS hU hw⟩⟩ rfl rfl hsz rfl (lv_room h8) hdg hC) hS (fun _ _ h => h) (fun _ h => h) (fun r' u t H1 locs1 ht hvm hw hB hz1 hk1 hS1 => ?_)
  obtain ⟨rfl, rfl⟩ := hw
  rw [ht] at hB
  exact kk H1 locs1 hB hS1
def f_yX9_isWell (x0 : Int32) (x1 : Int32) : Option (Int32) := (if x0 = 0 then (some 1) else (if x0 = 1 then ob1 (f_yX9_in x1 0 5) (fun r15 => (if r15 = 0 then (some 0) else (some 1))) else (if x0 = 2 then ob1 (f_yX9_in x1 0 40) (fun r12 => (if r12 = 0 then (some 0) else (some 1))) else (if x0 = 3 then ob1 (f_yX9_in x1 0 7) (fun r9 => (if r9 = 0 then (some 0) else (some 1))) else ob1 (f_yX9_in x1 0 4095) (fun r6 => (if r6 = 0 then (some 0) else (some 1)))))))
set_option maxRecDepth 100000 in
set_option maxHeartbeats 4000000 in
theorem c_yX9_isWell (l : Launch) (E : Lay) (ad : Nat → Nat → Nat) (M N : Mem) (x0 : Int32) (x1 : Int32) (r : Int32) (hf : f_yX9_isWell x0 x1 = some r) : Met l yX9_isWell (Cond.code yX9_isWell cX9_isWell 2 (some .boolean) :: TB) (rmm 1 22) (va_Pc [.int x0, .int x1] (PB E ad (M, N))) (Qi E ad r (M, N)) 0 0 (ow E) := by
  refine Met.ofW (cc := cX9_isWell) (maxL := 2) (ret := (some .boolean)) (by decide) rfl ?_
  intro p e s m args below meth c s₁ B hml hv
  obtain ⟨rfl, hW, hK, hZ⟩ := hv
  have hT : ∀ w ∈ TB, w.before _ s = true := fun w h => atoms_spec (ws := (Cond.code yX9_isWell cX9_isWell 2 (some .boolean) :: TB)) B.pre w (List.mem_cons_of_mem _ h)
  have X : CX p s m _ meth c cX9_isWell 2 (some .boolean) RX9 := ⟨B.exec, B.bytes, hml, findClass_of_methodNamed B.named, hT, B.returns, B.notSynchronized⟩
  obtain ⟨hx, hb, hml, hown, hT, hr, hlk⟩ := id X
  have hS : va_S (ow E) s.heap s.heap [] := va_S.rf
  have hl := lv_entry ([.int x0, .int x1]) (n := 2) (Nat.le_of_ble_eq_true rfl)
  rw [lg_entry_eq]
  generalize (lg_sl ([.int x0, .int x1]) ++ List.replicate (2 - (lg_sl ([.int x0, .int x1])).length) Slot.unset).toArray = ls at hl ⊢
  have hl : lv_has ls 2 [(0, .int x0), (1, .int x1)] := hl
  unfold f_yX9_isWell at hf
  refine lv_iload_n hx hb dX9_isWell_0 rfl (lv_at hl 0 rfl) ?_
  refine lv_if_eq (tgt := 44) hx hb dX9_isWell_1 (by decide) (fun c1 => ?_) (fun c1 => ?_)
  · rw [if_pos c1] at hf
    refine lv_iconst (v := 1) hx hb dX9_isWell_44 (by decide) ?_
    refine lv_goto (tgt := 49) hx hb dX9_isWell_45 (by decide) ?_
    obtain rfl := sp1 hf
    exact e_z ⟨hx, hb, hr, hlk⟩ rfl hW hS dX9_isWell_49
  · rw [if_neg c1] at hf
    refine lv_iload_n hx hb dX9_isWell_4 rfl (lv_at hl 1 rfl) ?_
    refine lv_iconst (v := 0) hx hb dX9_isWell_5 (by decide) ?_
    refine lv_iload_n hx hb dX9_isWell_6 rfl (lv_at hl 0 rfl) ?_
    refine lv_iconst (v := 1) hx hb dX9_isWell_7 (by decide) ?_
    refine lv_icmp_ne (tgt := 15) hx hb dX9_isWell_8 (by decide) (fun c2 => ?_) (fun c2 => ?_)
    · rw [if_neg c2] at hf
      refine lv_iload_n hx hb dX9_isWell_15 rfl (lv_at hl 0 rfl) ?_
      refine lv_iconst (v := 2) hx hb dX9_isWell_16 (by decide) ?_
      refine lv_icmp_ne (tgt := 25) hx hb dX9_isWell_17 (by decide) (fun c3 => ?_) (fun c3 => ?_)
      · rw [if_neg c3] at hf
        refine lv_iload_n hx hb dX9_isWell_25 rfl (lv_at hl 0 rfl) ?_
        refine lv_iconst (v := 3) hx hb dX9_isWell_26 (by decide) ?_
        refine lv_icmp_ne (tgt := 35) hx hb dX9_isWell_27 (by decide) (fun c4 => ?_) (fun c4 => ?_)
        · rw [if_neg c4] at hf
          refine lv_sipush (v := 4095) hx hb dX9_isWell_35 (by decide) ?_
          obtain ⟨r6, h5, hf⟩ := ob1_some hf
          refine k_yX9_in X hK hZ hW hS hl.1 h5 mlRX9_114 ⟨Nat.le_of_ble_eq_true rfl, Nat.le_of_ble_eq_true rfl⟩ ⟨Nat.le_of_ble_eq_true rfl, Nat.le_of_ble_eq_true rfl⟩ (Nat.le_of_ble_eq_true rfl) dX9_isWell_38 (fun H locs hW hS => ?_)
          refine lv_if_eq (tgt := 48) hx hb dX9_isWell_41 (by decide) (fun c7 => ?_) (fun c7 => ?_)
          · rw [if_pos c7] at hf
            refine lv_iconst (v := 0) hx hb dX9_isWell_48 (by decide) ?_
            obtain rfl := sp1 hf
            exact e_z ⟨hx, hb, hr, hlk⟩ rfl hW hS dX9_isWell_49
          · rw [if_neg c7] at hf
            refine lv_iconst (v := 1) hx hb dX9_isWell_44 (by decide) ?_
            refine lv_goto (tgt := 49) hx hb dX9_isWell_45 (by decide) ?_
            obtain rfl := sp1 hf
            exact e_z ⟨hx, hb, hr, hlk⟩ rfl hW hS dX9_isWell_49
        · rw [if_pos c4] at hf
          refine lv_bipush (v := 7) hx hb dX9_isWell_30 (by decide) ?_
          refine lv_goto (tgt := 38) hx hb dX9_isWell_32 (by decide) ?_
          obtain ⟨r9, h8, hf⟩ := ob1_some hf
          refine k_yX9_in X hK hZ hW hS hl.1 h8 mlRX9_114 ⟨Nat.le_of_ble_eq_true rfl, Nat.le_of_ble_eq_true rfl⟩ ⟨Nat.le_of_ble_eq_true rfl, Nat.le_of_ble_eq_true rfl⟩ (Nat.le_of_ble_eq_true rfl) dX9_isWell_38 (fun H locs hW hS => ?_)
          refine lv_if_eq (tgt := 48) hx hb dX9_isWell_41 (by decide) (fun c10 => ?_) (fun c10 => ?_)
          · rw [if_pos c10] at hf
            refine lv_iconst (v := 0) hx hb dX9_isWell_48 (by decide) ?_
            obtain rfl := sp1 hf
            exact e_z ⟨hx, hb, hr, hlk⟩ rfl hW hS dX9_isWell_49
          · rw [if_neg c10] at hf
            refine lv_iconst (v := 1) hx hb dX9_isWell_44 (by decide) ?_
            refine lv_goto (tgt := 49) hx hb dX9_isWell_45 (by decide) ?_
            obtain rfl := sp1 hf
            exact e_z ⟨hx, hb, hr, hlk⟩ rfl hW hS dX9_isWell_49
      · rw [if_pos c3] at hf
        refine lv_bipush (v := 40) hx hb dX9_isWell_20 (by decide) ?_
        refine lv_goto (tgt := 38) hx hb dX9_isWell_22 (by decide) ?_
        obtain ⟨r12, h11, hf⟩ := ob1_some hf
        refine k_yX9_in X hK hZ hW hS hl.1 h11 mlRX9_114 ⟨Nat.le_of_ble_eq_true rfl, Nat.le_of_ble_eq_true rfl⟩ ⟨Nat.le_of_ble_eq_true rfl, Nat.le_of_ble_eq_true rfl⟩ (Nat.le_of_ble_eq_true rfl) dX9_isWell_38 (fun H locs hW hS => ?_)
        refine lv_if_eq (tgt := 48) hx hb dX9_isWell_41 (by decide) (fun c13 => ?_) (fun c13 => ?_)
        · rw [if_pos c13] at hf
          refine lv_iconst (v := 0) hx hb dX9_isWell_48 (by decide) ?_
          obtain rfl := sp1 hf
          exact e_z ⟨hx, hb, hr, hlk⟩ rfl hW hS dX9_isWell_49
        · rw [if_neg c13] at hf
          refine lv_iconst (v := 1) hx hb dX9_isWell_44 (by decide) ?_
          refine lv_goto (tgt := 49) hx hb dX9_isWell_45 (by decide) ?_
          obtain rfl := sp1 hf
          exact e_z ⟨hx, hb, hr, hlk⟩ rfl hW hS dX9_isWell_49
    · rw [if_pos c2] at hf
      refine lv_iconst (v := 5) hx hb dX9_isWell_11 (by decide) ?_
      refine lv_goto (tgt := 38) hx hb dX9_isWell_12 (by decide) ?_
      obtain ⟨r15, h14, hf⟩ := ob1_some hf
      refine k_yX9_in X hK hZ hW hS hl.1 h14 mlRX9_114 ⟨Nat.le_of_ble_eq_true rfl, Nat.le_of_ble_eq_true rfl⟩ ⟨Nat.le_of_ble_eq_true rfl, Nat.le_of_ble_eq_true rfl⟩ (Nat.le_of_ble_eq_true rfl) dX9_isWell_38 (fun H locs hW hS => ?_)
      refine lv_if_eq (tgt := 48) hx hb dX9_isWell_41 (by decide) (fun c16 => ?_) (fun c16 => ?_)
      · rw [if_pos c16] at hf
        refine lv_iconst (v := 0) hx hb dX9_isWell_48 (by decide) ?_
        obtain rfl := sp1 hf
        exact e_z ⟨hx, hb, hr, hlk⟩ rfl hW hS dX9_isWell_49
      · rw [if_neg c16] at hf
        refine lv_iconst (v := 1) hx hb dX9_isWell_44 (by decide) ?_
        refine lv_goto (tgt := 49) hx hb dX9_isWell_45 (by decide) ?_
        obtain rfl := sp1 hf
        exact e_z ⟨hx, hb, hr, hlk⟩ rfl hW hS dX9_isWell_49
set_option maxRecDepth 100000 in
set_option maxHeartbeats 4000000 in
theorem k_yX9_isWell {p : Program} {l : Launch} {e : Env} {R : Room} {s : State} {m : MethodId} {args : Array Value} {below : List Frame} {meth : Method} {c : Code} {H : Heap} {locs : List Loc} {cells slots : Nat} {Q : State → Prop} {cc : ByteArray} {pc nL index : Nat} {ret : Option FieldType} {own : String} {ls : Array Slot} {rest : List Value} {E : Lay} {ad : Nat → Nat → Nat} {M N : Mem} (X : CX p s m args meth c cc nL ret own) (hK : KK E s) (hZ : ZZ E s) (hW : WD E ad (M, N) H) (hS : va_S (ow E) s.heap H locs) (hsz : ls.size = nL) {x0 : Int32} {x1 : Int32} {r : Int32} (hf : f_yX9_isWell x0 x1 = some r) (hn : Cond.methodLink own index yX9_isWell ∈ TB) (hR : 1 + 1 ≤ R.frames ∧ 8 + (2 + 11) + 22 ≤ R.locals) (hC : cells ≤ R.cells ∧ slots ≤ R.slots) (h8 : (rest.map fun v => v.category).sum ≤ 8) (hdg : decode cc pc = .ok (.invokestatic index, 3)) (kk : ∀ (H1 : Heap) (locs1 : List Loc), WD E ad (M, N) H1 → va_S (ow E) s.heap H1 locs1 → W p l e R s m args below meth c H1 locs1 cells slots Q (F0 m (pc + 3) ls (.int r :: rest))) : W p l e R s m args below meth c H locs cells slots Q (F0 m pc ls (.int x1 :: .int x0 :: rest)) := by
  refine va_calli (va_runS (As := [.int x0, .int x1]) (rest := rest) ⟨X.1, X.2.1, X.2.2.1, X.2.2.2.1, X.2.2.2.2.1⟩ (c_yX9_isWell l E ad M N x0 x1 r hf) (va_cwS 2 X.2.2.2.2.1 (gS hn im_yX9_isWell iniRX9 cd_yX9_isWell) rfl rfl rfl (by decide +kernel) hR) ⟨fun a U g mk q => ⟨q.1, q.2.calling⟩, fun U hU hw => ⟨rfl, PB.at hW hK hZ hS hU hw⟩⟩ rfl rfl hsz rfl (lv_room h8) hdg hC) hS (fun _ _ h => h) (fun _ h => h) (fun r' u t H1 locs1 ht hvm hw hB hz1 hk1 hS1 => ?_)
  obtain ⟨rfl, rfl⟩ := hw
  rw [ht] at hB
  exact kk H1 locs1 hB hS1
def f_yX9_act (N : Mem) (x1 : Int32) (x2 : Int32) (x3 : Int32) (x4 : Int32) (x5 : Int32) : Option (Int32 × Mem) := ob1 (f_yX9_in x1 0 7) (fun r2 => (if r2 = 0 then (some ((-1), N)) else ob1 (f_yX9_in x2 0 36) (fun r5 => (if r5 = 0 then (some ((-1), N)) else gd (¬ (x2 < 0 ∨ 37 ≤ x2.toNatClampNeg)) (ob1 (f_yX9_isWell ((N 30 0 x2.toNatClampNeg) / 100) x3) (fun r9 => (if r9 = 0 then (some ((-1), N)) else ob1 (f_yX9_isWell (((N 30 0 x2.toNatClampNeg) / 10) - ((N 30 0 x2.toNatClampNeg) / 10) / 10 * 10) x4) (fun r12 => (if r12 = 0 then (some ((-1), N)) else ob1 (f_yX9_isWell ((N 30 0 x2.toNatClampNeg) - (N 30 0 x2.toNatClampNeg) / 10 * 10) x5) (fun r15 => (if r15 = 0 then (some ((-1), N)) else ob1 (f_yX9_isInUse N x1) (fun r18 => (if r18 = 0 then gd (¬ (x1 < 0 ∨ 8 ≤ x1.toNatClampNeg)) ((if (N 29 0 x1.toNatClampNeg) = 40 then (some ((-3), N)) else gd (¬ ((4 * ((40 * x1) + (N 29 0 x1.toNatClampNeg))) < 0 ∨ 1280 ≤ (4 * ((40 * x1) + (N 29 0 x1.toNatClampNeg))).toNatClampNeg)) (lt1 (mp N 28 0 (4 * ((40 * x1) + (N 29 0 x1.toNatClampNeg))).toNatClampNeg x2) (fun N23 => gd (¬ (((4 * ((40 * x1) + (N 29 0 x1.toNatClampNeg))) + 1) < 0 ∨ 1280 ≤ ((4 * ((40 * x1) + (N 29 0 x1.toNatClampNeg))) + 1).toNatClampNeg)) (lt1 (mp N23 28 0 ((4 * ((40 * x1) + (N 29 0 x1.toNatClampNeg))) + 1).toNatClampNeg x3) (fun N25 => gd (¬ (((4 * ((40 * x1) + (N 29 0 x1.toNatClampNeg))) + 2) < 0 ∨ 1280 ≤ ((4 * ((40 * x1) + (N 29 0 x1.toNatClampNeg))) + 2).toNatClampNeg)) (lt1 (mp N25 28 0 ((4 * ((40 * x1) + (N 29 0 x1.toNatClampNeg))) + 2).toNatClampNeg x4) (fun N27 => gd (¬ (((4 * ((40 * x1) + (N 29 0 x1.toNatClampNeg))) + 3) < 0 ∨ 1280 ≤ ((4 * ((40 * x1) + (N 29 0 x1.toNatClampNeg))) + 3).toNatClampNeg)) (lt1 (mp N27 28 0 ((4 * ((40 * x1) + (N 29 0 x1.toNatClampNeg))) + 3).toNatClampNeg x5) (fun N29 => lt1 (mp N29 29 0 x1.toNatClampNeg ((N29 29 0 x1.toNatClampNeg) + 1)) (fun N30 => (some ((N30 29 0 x1.toNatClampNeg), N30))))))))))))) else (some ((-2), N)))))))))))))))
set_option maxRecDepth 100000 in
set_option maxHeartbeats 4000000 in
theorem c_yX9_act (l : Launch) (E : Lay) (ad : Nat → Nat → Nat) (M N : Mem) (x1 : Int32) (x2 : Int32) (x3 : Int32) (x4 : Int32) (x5 : Int32) (r : Int32) (Nr : Mem) (hf : f_yX9_act N x1 x2 x3 x4 x5 = some (r, Nr)) : Met l yX9_act (Cond.code yX9_act cX9_act 7 (some .int) :: TB) (rmm 3 66) (va_Pc [.ref (ad 20 0), .int x1, .int x2, .int x3, .int x4, .int x5] (PB E ad (M, N))) (Qi E ad r (M, Nr)) 0 0 (ow E) := by
  refine Met.ofW (cc := cX9_act) (maxL := 7) (ret := (some .int)) (by decide) rfl ?_
  intro p e s m args below meth c s₁ B hml hv
  obtain ⟨rfl, hW, hK, hZ⟩ := hv
  have hT : ∀ w ∈ TB, w.before _ s = true := fun w h => atoms_spec (ws := (Cond.code yX9_act cX9_act 7 (some .int) :: TB)) B.pre w (List.mem_cons_of_mem _ h)
  have X : CX p s m _ meth c cX9_act 7 (some .int) RX9 := ⟨B.exec, B.bytes, hml, findClass_of_methodNamed B.named, hT, B.returns, B.notSynchronized⟩
  obtain ⟨hx, hb, hml, hown, hT, hr, hlk⟩ := id X
  have hS : va_S (ow E) s.heap s.heap [] := va_S.rf
  have hl := lv_entry ([.ref (ad 20 0), .int x1, .int x2, .int x3, .int x4, .int x5]) (n := 7) (Nat.le_of_ble_eq_true rfl)
  rw [lg_entry_eq]
  generalize (lg_sl ([.ref (ad 20 0), .int x1, .int x2, .int x3, .int x4, .int x5]) ++ List.replicate (7 - (lg_sl ([.ref (ad 20 0), .int x1, .int x2, .int x3, .int x4, .int x5])).length) Slot.unset).toArray = ls at hl ⊢
  have hl : lv_has ls 7 [(0, .ref (ad 20 0)), (1, .int x1), (2, .int x2), (3, .int x3), (4, .int x4), (5, .int x5)] := hl
  unfold f_yX9_act at hf
  refine lv_iload_n hx hb dX9_act_0 rfl (lv_at hl 1 rfl) ?_
  refine lv_iconst (v := 0) hx hb dX9_act_1 (by decide) ?_
  refine lv_bipush (v := 7) hx hb dX9_act_2 (by decide) ?_
  obtain ⟨r2, h1, hf⟩ := ob1_some hf
  refine k_yX9_in X hK hZ hW hS hl.1 h1 mlRX9_114 ⟨Nat.le_of_ble_eq_true rfl, Nat.le_of_ble_eq_true rfl⟩ ⟨Nat.le_of_ble_eq_true rfl, Nat.le_of_ble_eq_true rfl⟩ (Nat.le_of_ble_eq_true rfl) dX9_act_4 (fun H locs hW hS => ?_)
  refine lv_if_eq (tgt := 20) hx hb dX9_act_7 (by decide) (fun c3 => ?_) (fun c3 => ?_)
  · rw [if_pos c3] at hf
    refine lv_iconst (v := -1) hx hb dX9_act_20 (by decide) ?_
    obtain ⟨rfl, rfl⟩ := sp2 hf
    exact e_i ⟨hx, hb, hr, hlk⟩ hW hS dX9_act_21
  · rw [if_neg c3] at hf
    refine lv_iload_n hx hb dX9_act_10 rfl (lv_at hl 2 rfl) ?_
    refine lv_iconst (v := 0) hx hb dX9_act_11 (by decide) ?_
    refine lv_bipush (v := 36) hx hb dX9_act_12 (by decide) ?_
    obtain ⟨r5, h4, hf⟩ := ob1_some hf
    refine k_yX9_in X hK hZ hW hS hl.1 h4 mlRX9_114 ⟨Nat.le_of_ble_eq_true rfl, Nat.le_of_ble_eq_true rfl⟩ ⟨Nat.le_of_ble_eq_true rfl, Nat.le_of_ble_eq_true rfl⟩ (Nat.le_of_ble_eq_true rfl) dX9_act_14 (fun H locs hW hS => ?_)
    refine lv_if_ne (tgt := 22) hx hb dX9_act_17 (by decide) (fun c6 => ?_) (fun c6 => ?_)
    · rw [if_neg c6] at hf
      refine lv_aload_n hx hb dX9_act_22 rfl (lv_at hl 0 rfl) ?_
      refine g_9_11 X hK hW flRX9_37 dX9_act_23 ?_
      refine lv_iload_n hx hb dX9_act_26 rfl (lv_at hl 2 rfl) ?_
      obtain ⟨b7, hf⟩ := gd_some hf
      refine al_30 X hK hW b7 dX9_act_27 ?_
      refine lv_bipush (v := 100) hx hb dX9_act_28 (by decide) ?_
      refine lv_idiv hx hb dX9_act_30 (by decide) ?_
      refine lv_iload_n hx hb dX9_act_31 rfl (lv_at hl 3 rfl) ?_
      obtain ⟨r9, h8, hf⟩ := ob1_some hf
      refine k_yX9_isWell X hK hZ hW hS hl.1 h8 mlRX9_146 ⟨Nat.le_of_ble_eq_true rfl, Nat.le_of_ble_eq_true rfl⟩ ⟨Nat.le_of_ble_eq_true rfl, Nat.le_of_ble_eq_true rfl⟩ (Nat.le_of_ble_eq_true rfl) dX9_act_32 (fun H locs hW hS => ?_)
      refine lv_if_eq (tgt := 75) hx hb dX9_act_35 (by decide) (fun c10 => ?_) (fun c10 => ?_)
      · rw [if_pos c10] at hf
        refine lv_iconst (v := -1) hx hb dX9_act_75 (by decide) ?_
        obtain ⟨rfl, rfl⟩ := sp2 hf
        exact e_i ⟨hx, hb, hr, hlk⟩ hW hS dX9_act_76
      · rw [if_neg c10] at hf
        refine lv_aload_n hx hb dX9_act_38 rfl (lv_at hl 0 rfl) ?_
        refine g_9_11 X hK hW flRX9_37 dX9_act_39 ?_
        refine lv_iload_n hx hb dX9_act_42 rfl (lv_at hl 2 rfl) ?_
        refine al_30 X hK hW b7 dX9_act_43 ?_
        refine lv_bipush (v := 10) hx hb dX9_act_44 (by decide) ?_
        refine lv_idiv hx hb dX9_act_46 (by decide) ?_
        refine lv_bipush (v := 10) hx hb dX9_act_47 (by decide) ?_
        refine lv_irem hx hb dX9_act_49 (by decide) ?_
        refine lv_iload hx hb dX9_act_50 (lv_at hl 4 rfl) ?_
        obtain ⟨r12, h11, hf⟩ := ob1_some hf
        refine k_yX9_isWell X hK hZ hW hS hl.1 h11 mlRX9_146 ⟨Nat.le_of_ble_eq_true rfl, Nat.le_of_ble_eq_true rfl⟩ ⟨Nat.le_of_ble_eq_true rfl, Nat.le_of_ble_eq_true rfl⟩ (Nat.le_of_ble_eq_true rfl) dX9_act_52 (fun H locs hW hS => ?_)
        refine lv_if_eq (tgt := 75) hx hb dX9_act_55 (by decide) (fun c13 => ?_) (fun c13 => ?_)
        · rw [if_pos c13] at hf
          refine lv_iconst (v := -1) hx hb dX9_act_75 (by decide) ?_
          obtain ⟨rfl, rfl⟩ := sp2 hf
          exact e_i ⟨hx, hb, hr, hlk⟩ hW hS dX9_act_76
        · rw [if_neg c13] at hf
          refine lv_aload_n hx hb dX9_act_58 rfl (lv_at hl 0 rfl) ?_
          refine g_9_11 X hK hW flRX9_37 dX9_act_59 ?_
          refine lv_iload_n hx hb dX9_act_62 rfl (lv_at hl 2 rfl) ?_
          refine al_30 X hK hW b7 dX9_act_63 ?_
          refine lv_bipush (v := 10) hx hb dX9_act_64 (by decide) ?_
          refine lv_irem hx hb dX9_act_66 (by decide) ?_
          refine lv_iload hx hb dX9_act_67 (lv_at hl 5 rfl) ?_
          obtain ⟨r15, h14, hf⟩ := ob1_some hf
          refine k_yX9_isWell X hK hZ hW hS hl.1 h14 mlRX9_146 ⟨Nat.le_of_ble_eq_true rfl, Nat.le_of_ble_eq_true rfl⟩ ⟨Nat.le_of_ble_eq_true rfl, Nat.le_of_ble_eq_true rfl⟩ (Nat.le_of_ble_eq_true rfl) dX9_act_69 (fun H locs hW hS => ?_)
          refine lv_if_ne (tgt := 77) hx hb dX9_act_72 (by decide) (fun c16 => ?_) (fun c16 => ?_)
          · rw [if_neg c16] at hf
            refine lv_aload_n hx hb dX9_act_77 rfl (lv_at hl 0 rfl) ?_
            refine lv_iload_n hx hb dX9_act_78 rfl (lv_at hl 1 rfl) ?_
            obtain ⟨r18, h17, hf⟩ := ob1_some hf
            refine k_yX9_isInUse X hK hZ hW hS hl.1 h17 mlRX9_150 ⟨Nat.le_of_ble_eq_true rfl, Nat.le_of_ble_eq_true rfl⟩ ⟨Nat.le_of_ble_eq_true rfl, Nat.le_of_ble_eq_true rfl⟩ (Nat.le_of_ble_eq_true rfl) dX9_act_79 (fun H locs hW hS => ?_)
            refine lv_if_eq (tgt := 88) hx hb dX9_act_82 (by decide) (fun c19 => ?_) (fun c19 => ?_)
            · rw [if_pos c19] at hf
              refine lv_aload_n hx hb dX9_act_88 rfl (lv_at hl 0 rfl) ?_
              refine g_9_10 X hK hW flRX9_34 dX9_act_89 ?_
              refine lv_iload_n hx hb dX9_act_92 rfl (lv_at hl 1 rfl) ?_
              obtain ⟨b20, hf⟩ := gd_some hf
              refine al_29 X hK hW b20 dX9_act_93 ?_
              refine lv_bipush (v := 40) hx hb dX9_act_94 (by decide) ?_
              refine lv_icmp_ne (tgt := 102) hx hb dX9_act_96 (by decide) (fun c21 => ?_) (fun c21 => ?_)
              · rw [if_neg c21] at hf
                refine lv_iconst (v := 4) hx hb dX9_act_102 (by decide) ?_
                refine lv_bipush (v := 40) hx hb dX9_act_103 (by decide) ?_
                refine lv_iload_n hx hb dX9_act_105 rfl (lv_at hl 1 rfl) ?_
                refine lv_imul hx hb dX9_act_106 ?_
                refine lv_aload_n hx hb dX9_act_107 rfl (lv_at hl 0 rfl) ?_
                refine g_9_10 X hK hW flRX9_34 dX9_act_108 ?_
                refine lv_iload_n hx hb dX9_act_111 rfl (lv_at hl 1 rfl) ?_
                refine al_29 X hK hW b20 dX9_act_112 ?_
                refine lv_iadd hx hb dX9_act_113 ?_
                refine lv_imul hx hb dX9_act_114 ?_
                refine lv_istore (lv' := [(6, .int (4 * ((40 * x1) + (N 29 0 x1.toNatClampNeg)))), (0, .ref (ad 20 0)), (1, .int x1), (2, .int x2), (3, .int x3), (4, .int x4), (5, .int x5)]) hx hb dX9_act_115 hl (by decide) rfl (fun ls hl => ?_)
                refine lv_aload_n hx hb dX9_act_117 rfl (lv_at hl 1 rfl) ?_
                refine g_9_9 X hK hW flRX9_31 dX9_act_118 ?_
                refine lv_iload hx hb dX9_act_121 (lv_at hl 0 rfl) ?_
                refine lv_iload_n hx hb dX9_act_123 rfl (lv_at hl 3 rfl) ?_
                obtain ⟨b22, hf⟩ := gd_some hf
                obtain ⟨N23, hN23, hf⟩ := lt1_some hf
                refine as_28 X hK hW hS b22 hN23 dX9_act_124 (fun H locs hW hS => ?_)
                refine lv_aload_n hx hb dX9_act_125 rfl (lv_at hl 1 rfl) ?_
                refine g_9_9 X hK hW flRX9_31 dX9_act_126 ?_
                refine lv_iload hx hb dX9_act_129 (lv_at hl 0 rfl) ?_
                refine lv_iconst (v := 1) hx hb dX9_act_131 (by decide) ?_
                refine lv_iadd hx hb dX9_act_132 ?_
                refine lv_iload_n hx hb dX9_act_133 rfl (lv_at hl 4 rfl) ?_
                obtain ⟨b24, hf⟩ := gd_some hf
                obtain ⟨N25, hN25, hf⟩ := lt1_some hf
                refine as_28 X hK hW hS b24 hN25 dX9_act_134 (fun H locs hW hS => ?_)
                refine lv_aload_n hx hb dX9_act_135 rfl (lv_at hl 1 rfl) ?_
                refine g_9_9 X hK hW flRX9_31 dX9_act_136 ?_
                refine lv_iload hx hb dX9_act_139 (lv_at hl 0 rfl) ?_
                refine lv_iconst (v := 2) hx hb dX9_act_141 (by decide) ?_
                refine lv_iadd hx hb dX9_act_142 ?_
                refine lv_iload hx hb dX9_act_143 (lv_at hl 5 rfl) ?_
                obtain ⟨b26, hf⟩ := gd_some hf
                obtain ⟨N27, hN27, hf⟩ := lt1_some hf
                refine as_28 X hK hW hS b26 hN27 dX9_act_145 (fun H locs hW hS => ?_)
                refine lv_aload_n hx hb dX9_act_146 rfl (lv_at hl 1 rfl) ?_
                refine g_9_9 X hK hW flRX9_31 dX9_act_147 ?_
                refine lv_iload hx hb dX9_act_150 (lv_at hl 0 rfl) ?_
                refine lv_iconst (v := 3) hx hb dX9_act_152 (by decide) ?_
                refine lv_iadd hx hb dX9_act_153 ?_
                refine lv_iload hx hb dX9_act_154 (lv_at hl 6 rfl) ?_
                obtain ⟨b28, hf⟩ := gd_some hf
                obtain ⟨N29, hN29, hf⟩ := lt1_some hf
                refine as_28 X hK hW hS b28 hN29 dX9_act_156 (fun H locs hW hS => ?_)
                refine lv_aload_n hx hb dX9_act_157 rfl (lv_at hl 1 rfl) ?_
                refine g_9_10 X hK hW flRX9_34 dX9_act_158 ?_
                refine lv_iload_n hx hb dX9_act_161 rfl (lv_at hl 2 rfl) ?_
                refine lv_dup2_11 hx hb dX9_act_162 rfl rfl ?_
                refine al_29 X hK hW b20 dX9_act_163 ?_
                refine lv_iconst (v := 1) hx hb dX9_act_164 (by decide) ?_
                refine lv_iadd hx hb dX9_act_165 ?_
                obtain ⟨N30, hN30, hf⟩ := lt1_some hf
                refine as_29 X hK hW hS b20 hN30 dX9_act_166 (fun H locs hW hS => ?_)
                refine lv_aload_n hx hb dX9_act_167 rfl (lv_at hl 1 rfl) ?_
                refine g_9_10 X hK hW flRX9_34 dX9_act_168 ?_
                refine lv_iload_n hx hb dX9_act_171 rfl (lv_at hl 2 rfl) ?_
                refine al_29 X hK hW b20 dX9_act_172 ?_
                obtain ⟨rfl, rfl⟩ := sp2 hf
                exact e_i ⟨hx, hb, hr, hlk⟩ hW hS dX9_act_173
              · rw [if_pos c21] at hf
                refine lv_bipush (v := -3) hx hb dX9_act_99 (by decide) ?_
                obtain ⟨rfl, rfl⟩ := sp2 hf
                exact e_i ⟨hx, hb, hr, hlk⟩ hW hS dX9_act_101
            · rw [if_neg c19] at hf
              refine lv_bipush (v := -2) hx hb dX9_act_85 (by decide) ?_
              obtain ⟨rfl, rfl⟩ := sp2 hf
              exact e_i ⟨hx, hb, hr, hlk⟩ hW hS dX9_act_87
          · rw [if_pos c16] at hf
            refine lv_iconst (v := -1) hx hb dX9_act_75 (by decide) ?_
            obtain ⟨rfl, rfl⟩ := sp2 hf
            exact e_i ⟨hx, hb, hr, hlk⟩ hW hS dX9_act_76
    · rw [if_pos c6] at hf
      refine lv_iconst (v := -1) hx hb dX9_act_20 (by decide) ?_
      obtain ⟨rfl, rfl⟩ := sp2 hf
      exact e_i ⟨hx, hb, hr, hlk⟩ hW hS dX9_act_21
set_option maxRecDepth 100000 in
set_option maxHeartbeats 4000000 in
theorem k_yX9_act {p : Program} {l : Launch} {e : Env} {R : Room} {s : State} {m : MethodId} {args : Array Value} {below : List Frame} {meth : Method} {c : Code} {H : Heap} {locs : List Loc} {cells slots : Nat} {Q : State → Prop} {cc : ByteArray} {pc nL index : Nat} {ret : Option FieldType} {own : String} {ls : Array Slot} {rest : List Value} {E : Lay} {ad : Nat → Nat → Nat} {M N : Mem} (X : CX p s m args meth c cc nL ret own) (hK : KK E s) (hZ : ZZ E s) (hW : WD E ad (M, N) H) (hS : va_S (ow E) s.heap H locs) (hsz : ls.size = nL) {x1 : Int32} {x2 : Int32} {x3 : Int32} {x4 : Int32} {x5 : Int32} {r : Int32} {Nr : Mem} (hf : f_yX9_act N x1 x2 x3 x4 x5 = some (r, Nr)) (hn : Cond.methodLink own index yX9_act ∈ TB) (hR : 3 + 1 ≤ R.frames ∧ 8 + (7 + 11) + 66 ≤ R.locals) (hC : cells ≤ R.cells ∧ slots ≤ R.slots) (h8 : (rest.map fun v => v.category).sum ≤ 8) (hdg : decode cc pc = .ok (.invokevirtual index, 3)) (kk : ∀ (H1 : Heap) (locs1 : List Loc), WD E ad (M, Nr) H1 → va_S (ow E) s.heap H1 locs1 → W p l e R s m args below meth c H1 locs1 cells slots Q (F0 m (pc + 3) ls (.int r :: rest))) : W p l e R s m args below meth c H locs cells slots Q (F0 m pc ls (.int x5 :: .int x4 :: .int x3 :: .int x2 :: .int x1 :: .ref (ad 20 0) :: rest)) := by
  refine va_calli (va_runV (C := RX9) (As := [.int x1, .int x2, .int x3, .int x4, .int x5]) (rest := rest) ⟨X.1, X.2.1, X.2.2.1, X.2.2.2.1, X.2.2.2.2.1⟩ (c_yX9_act l E ad M N x1 x2 x3 x4 x5 r Nr hf) (cwV 5 X.2.2.2.2.1 (gV hn im_yX9_act se_yX9_act iniRX9 cd_yX9_act) rfl rfl rfl (by decide +kernel) hR) ⟨fun a U g mk q => ⟨q.1, q.2.calling⟩, va_recv hK.1 (hW.at (c := 20) (i := 0) Nat.zero_lt_one rfl) (ci := 9) (q0 := 0) rfl rfl, fun U hU hw => ⟨rfl, PB.at hW hK hZ hS hU hw⟩⟩ rfl rfl hsz rfl (lv_room h8) hdg hC) hS (fun _ _ h => h) (fun _ h => h) (fun r' u t H1 locs1 ht hvm hw hB hz1 hk1 hS1 => ?_)
  obtain ⟨rfl, rfl⟩ := hw
  rw [ht] at hB
  exact kk H1 locs1 hB hS1
def f_yX9_wipe (N : Mem) (x1 : Int32) : Option (Int32 × Mem) := ob1 (f_yX9_in x1 0 7) (fun r2 => (if r2 = 0 then (some ((-1), N)) else ob1 (f_yX9_isInUse N x1) (fun r5 => (if r5 = 0 then gd (¬ (x1 < 0 ∨ 8 ≤ x1.toNatClampNeg)) (lt1 (mp N 29 0 x1.toNatClampNeg 0) (fun N8 => (some ((N 29 0 x1.toNatClampNeg), N8)))) else (some ((-2), N))))))
set_option maxRecDepth 100000 in
set_option maxHeartbeats 4000000 in
theorem c_yX9_wipe (l : Launch) (E : Lay) (ad : Nat → Nat → Nat) (M N : Mem) (x1 : Int32) (r : Int32) (Nr : Mem) (hf : f_yX9_wipe N x1 = some (r, Nr)) : Met l yX9_wipe (Cond.code yX9_wipe cX9_wipe 3 (some .int) :: TB) (rmm 3 66) (va_Pc [.ref (ad 20 0), .int x1] (PB E ad (M, N))) (Qi E ad r (M, Nr)) 0 0 (ow E) := by
  refine Met.ofW (cc := cX9_wipe) (maxL := 3) (ret := (some .int)) (by decide) rfl ?_
  intro p e s m args below meth c s₁ B hml hv
  obtain ⟨rfl, hW, hK, hZ⟩ := hv
  have hT : ∀ w ∈ TB, w.before _ s = true := fun w h => atoms_spec (ws := (Cond.code yX9_wipe cX9_wipe 3 (some .int) :: TB)) B.pre w (List.mem_cons_of_mem _ h)
  have X : CX p s m _ meth c cX9_wipe 3 (some .int) RX9 := ⟨B.exec, B.bytes, hml, findClass_of_methodNamed B.named, hT, B.returns, B.notSynchronized⟩
  obtain ⟨hx, hb, hml, hown, hT, hr, hlk⟩ := id X
  have hS : va_S (ow E) s.heap s.heap [] := va_S.rf
  have hl := lv_entry ([.ref (ad 20 0), .int x1]) (n := 3) (Nat.le_of_ble_eq_true rfl)
  rw [lg_entry_eq]
  generalize (lg_sl ([.ref (ad 20 0), .int x1]) ++ List.replicate (3 - (lg_sl ([.ref (ad 20 0), .int x1])).length) Slot.unset).toArray = ls at hl ⊢
  have hl : lv_has ls 3 [(0, .ref (ad 20 0)), (1, .int x1)] := hl
  unfold f_yX9_wipe at hf
  refine lv_iload_n hx hb dX9_wipe_0 rfl (lv_at hl 1 rfl) ?_
  refine lv_iconst (v := 0) hx hb dX9_wipe_1 (by decide) ?_
  refine lv_bipush (v := 7) hx hb dX9_wipe_2 (by decide) ?_
  obtain ⟨r2, h1, hf⟩ := ob1_some hf
  refine k_yX9_in X hK hZ hW hS hl.1 h1 mlRX9_114 ⟨Nat.le_of_ble_eq_true rfl, Nat.le_of_ble_eq_true rfl⟩ ⟨Nat.le_of_ble_eq_true rfl, Nat.le_of_ble_eq_true rfl⟩ (Nat.le_of_ble_eq_true rfl) dX9_wipe_4 (fun H locs hW hS => ?_)
  refine lv_if_ne (tgt := 12) hx hb dX9_wipe_7 (by decide) (fun c3 => ?_) (fun c3 => ?_)
  · rw [if_neg c3] at hf
    refine lv_aload_n hx hb dX9_wipe_12 rfl (lv_at hl 0 rfl) ?_
    refine lv_iload_n hx hb dX9_wipe_13 rfl (lv_at hl 1 rfl) ?_
    obtain ⟨r5, h4, hf⟩ := ob1_some hf
    refine k_yX9_isInUse X hK hZ hW hS hl.1 h4 mlRX9_150 ⟨Nat.le_of_ble_eq_true rfl, Nat.le_of_ble_eq_true rfl⟩ ⟨Nat.le_of_ble_eq_true rfl, Nat.le_of_ble_eq_true rfl⟩ (Nat.le_of_ble_eq_true rfl) dX9_wipe_14 (fun H locs hW hS => ?_)
    refine lv_if_eq (tgt := 23) hx hb dX9_wipe_17 (by decide) (fun c6 => ?_) (fun c6 => ?_)
    · rw [if_pos c6] at hf
      refine lv_aload_n hx hb dX9_wipe_23 rfl (lv_at hl 0 rfl) ?_
      refine g_9_10 X hK hW flRX9_34 dX9_wipe_24 ?_
      refine lv_iload_n hx hb dX9_wipe_27 rfl (lv_at hl 1 rfl) ?_
      obtain ⟨b7, hf⟩ := gd_some hf
      refine al_29 X hK hW b7 dX9_wipe_28 ?_
      refine lv_istore_n (lv' := [(2, .int (N 29 0 x1.toNatClampNeg)), (0, .ref (ad 20 0)), (1, .int x1)]) hx hb dX9_wipe_29 rfl hl (by decide) rfl (fun ls hl => ?_)
      refine lv_aload_n hx hb dX9_wipe_30 rfl (lv_at hl 1 rfl) ?_
      refine g_9_10 X hK hW flRX9_34 dX9_wipe_31 ?_
      refine lv_iload_n hx hb dX9_wipe_34 rfl (lv_at hl 2 rfl) ?_
      refine lv_iconst (v := 0) hx hb dX9_wipe_35 (by decide) ?_
      obtain ⟨N8, hN8, hf⟩ := lt1_some hf
      refine as_29 X hK hW hS b7 hN8 dX9_wipe_36 (fun H locs hW hS => ?_)
      refine lv_iload_n hx hb dX9_wipe_37 rfl (lv_at hl 0 rfl) ?_
      obtain ⟨rfl, rfl⟩ := sp2 hf
      exact e_i ⟨hx, hb, hr, hlk⟩ hW hS dX9_wipe_38
    · rw [if_neg c6] at hf
      refine lv_bipush (v := -2) hx hb dX9_wipe_20 (by decide) ?_
      obtain ⟨rfl, rfl⟩ := sp2 hf
      exact e_i ⟨hx, hb, hr, hlk⟩ hW hS dX9_wipe_22
  · rw [if_pos c3] at hf
    refine lv_iconst (v := -1) hx hb dX9_wipe_10 (by decide) ?_
    obtain ⟨rfl, rfl⟩ := sp2 hf
    exact e_i ⟨hx, hb, hr, hlk⟩ hW hS dX9_wipe_11
set_option maxRecDepth 100000 in
set_option maxHeartbeats 4000000 in
theorem k_yX9_wipe {p : Program} {l : Launch} {e : Env} {R : Room} {s : State} {m : MethodId} {args : Array Value} {below : List Frame} {meth : Method} {c : Code} {H : Heap} {locs : List Loc} {cells slots : Nat} {Q : State → Prop} {cc : ByteArray} {pc nL index : Nat} {ret : Option FieldType} {own : String} {ls : Array Slot} {rest : List Value} {E : Lay} {ad : Nat → Nat → Nat} {M N : Mem} (X : CX p s m args meth c cc nL ret own) (hK : KK E s) (hZ : ZZ E s) (hW : WD E ad (M, N) H) (hS : va_S (ow E) s.heap H locs) (hsz : ls.size = nL) {x1 : Int32} {r : Int32} {Nr : Mem} (hf : f_yX9_wipe N x1 = some (r, Nr)) (hn : Cond.methodLink own index yX9_wipe ∈ TB) (hR : 3 + 1 ≤ R.frames ∧ 8 + (3 + 11) + 66 ≤ R.locals) (hC : cells ≤ R.cells ∧ slots ≤ R.slots) (h8 : (rest.map fun v => v.category).sum ≤ 8) (hdg : decode cc pc = .ok (.invokevirtual index, 3)) (kk : ∀ (H1 : Heap) (locs1 : List Loc), WD E ad (M, Nr) H1 → va_S (ow E) s.heap H1 locs1 → W p l e R s m args below meth c H1 locs1 cells slots Q (F0 m (pc + 3) ls (.int r :: rest))) : W p l e R s m args below meth c H locs cells slots Q (F0 m pc ls (.int x1 :: .ref (ad 20 0) :: rest)) := by
  refine va_calli (va_runV (C := RX9) (As := [.int x1]) (rest := rest) ⟨X.1, X.2.1, X.2.2.1, X.2.2.2.1, X.2.2.2.2.1⟩ (c_yX9_wipe l E ad M N x1 r Nr hf) (cwV 1 X.2.2.2.2.1 (gV hn im_yX9_wipe se_yX9_wipe iniRX9 cd_yX9_wipe) rfl rfl rfl (by decide +kernel) hR) ⟨fun a U g mk q => ⟨q.1, q.2.calling⟩, va_recv hK.1 (hW.at (c := 20) (i := 0) Nat.zero_lt_one rfl) (ci := 9) (q0 := 0) rfl rfl, fun U hU hw => ⟨rfl, PB.at hW hK hZ hS hU hw⟩⟩ rfl rfl hsz rfl (lv_room h8) hdg hC) hS (fun _ _ h => h) (fun _ h => h) (fun r' u t H1 locs1 ht hvm hw hB hz1 hk1 hS1 => ?_)
  obtain ⟨rfl, rfl⟩ := hw
  rw [ht] at hB
  exact kk H1 locs1 hB hS1
def f_yX9_thread_L145 : Nat → Mem → Int32 → Int32 → Option (Int32 × Mem)
  | 0, _, _, _ => none
  | n + 1, N0, y1, y4 => (if 6 ≤ y4 then (some (1, N0)) else gd (¬ (((6 * y1) + y4) < 0 ∨ 36 ≤ ((6 * y1) + y4).toNatClampNeg)) (lt1 (mp N0 49 0 ((6 * y1) + y4).toNatClampNeg 0) (fun N30 => lt1 (mp N30 50 0 ((6 * y1) + y4).toNatClampNeg (-4)) (fun N31 => (f_yX9_thread_L145 n N31 y1 (y4 + 1))))))
def f_yX9_thread (N : Mem) (x1 : Int32) (x2 : Int32) (x3 : Int32) : Option (Int32 × Mem) := ob1 (f_yX9_in x1 0 5) (fun r2 => (if r2 = 0 then (some ((-1), N)) else ob1 (f_yX9_in x2 0 7) (fun r5 => (if r5 = 0 then (some ((-1), N)) else ob1 (f_yX9_in x3 0 9) (fun r8 => (if r8 = 0 then (some ((-1), N)) else ob1 (f_yX9_isUnderWay N x1) (fun r11 => (if r11 = 0 then gd (¬ (x1 < 0 ∨ 6 ≤ x1.toNatClampNeg)) (lt1 (mp N 31 0 x1.toNatClampNeg 1) (fun N14 => lt1 (mp N14 32 0 x1.toNatClampNeg x2) (fun N15 => lt1 (mp N15 33 0 x1.toNatClampNeg x3) (fun N16 => lt1 (mp N16 34 0 x1.toNatClampNeg 0) (fun N17 => lt1 (mp N17 35 0 x1.toNatClampNeg 0) (fun N18 => lt1 (mp N18 36 0 x1.toNatClampNeg 0) (fun N19 => lt1 (mp N19 37 0 x1.toNatClampNeg 0) (fun N20 => lt1 (mp N20 38 0 x1.toNatClampNeg 0) (fun N21 => lt1 (mp N21 39 0 x1.toNatClampNeg (-4)) (fun N22 => lt1 (mp N22 40 0 x1.toNatClampNeg (-4)) (fun N23 => lt1 (mp N23 43 0 x1.toNatClampNeg 0) (fun N24 => lt1 (mp N24 44 0 x1.toNatClampNeg 0) (fun N25 => lt1 (mp N25 45 0 x1.toNatClampNeg 0) (fun N26 => lt1 (mp N26 46 0 x1.toNatClampNeg 0) (fun N27 => (f_yX9_thread_L145 70 N27 x1 0)))))))))))))))) else (some ((-2), N))))))))))
set_option maxRecDepth 100000 in
set_option maxHeartbeats 4000000 in
theorem l_yX9_thread_145 (l : Launch) (E : Lay) (ad : Nat → Nat → Nat) (M : Mem) {p : Program} {e : Env} {s : State} {m : MethodId} {args : Array Value} {below : List Frame} {meth : Method} {c : Code} (X : CX p s m args meth c cX9_thread 5 (some .int) RX9) (hK : KK E s) (hZ : ZZ E s) : ∀ (n : Nat) (N0 : Mem) (y1 : Int32) (y4 : Int32) (r : Int32) (Nr : Mem) (hf : f_yX9_thread_L145 n N0 y1 y4 = some (r, Nr)) (H : Heap) (locs : List Loc) (ls : Array Slot), WD E ad (M, N0) H → va_S (ow E) s.heap H locs → lv_has ls 5 [(0, .ref (ad 20 0)), (1, .int y1), (4, .int y4)] → W p l e (rmm 2 43) s m args below meth c H locs 0 0 (MQ below (Qi E ad r (M, Nr)) args s 0 0 (ow E)) (F0 m 145 ls []) := by
  obtain ⟨hx, hb, hml, hown, hT, hr, hlk⟩ := id X
  intro n
  induction n with
  | zero =>
    intro N0 y1 y4 r Nr hf
    rw [f_yX9_thread_L145] at hf
    cases hf
  | succ n ih =>
    intro N0 y1 y4 r Nr hf H locs ls hW hS hl
    rw [f_yX9_thread_L145] at hf
    refine lv_iload hx hb dX9_thread_145 (lv_at hl 2 rfl) ?_
    refine lv_bipush (v := 6) hx hb dX9_thread_147 (by decide) ?_
    refine lv_icmp_ge (tgt := 185) hx hb dX9_thread_149 (by decide) (fun c28 => ?_) (fun c28 => ?_)
    · rw [if_pos c28] at hf
      refine lv_iconst (v := 1) hx hb dX9_thread_185 (by decide) ?_
      obtain ⟨rfl, rfl⟩ := sp2 hf
      exact e_i ⟨hx, hb, hr, hlk⟩ hW hS dX9_thread_186
    · rw [if_neg c28] at hf
      refine lv_aload_n hx hb dX9_thread_152 rfl (lv_at hl 0 rfl) ?_
      refine g_9_30 X hK hW flRX9_95 dX9_thread_153 ?_
      refine lv_bipush (v := 6) hx hb dX9_thread_156 (by decide) ?_
      refine lv_iload_n hx hb dX9_thread_158 rfl (lv_at hl 1 rfl) ?_
      refine lv_imul hx hb dX9_thread_159 ?_
      refine lv_iload hx hb dX9_thread_160 (lv_at hl 2 rfl) ?_
      refine lv_iadd hx hb dX9_thread_162 ?_
      refine lv_iconst (v := 0) hx hb dX9_thread_163 (by decide) ?_
      obtain ⟨b29, hf⟩ := gd_some hf
      obtain ⟨N30, hN30, hf⟩ := lt1_some hf
      refine as_49 X hK hW hS b29 hN30 dX9_thread_164 (fun H locs hW hS => ?_)
      refine lv_aload_n hx hb dX9_thread_165 rfl (lv_at hl 0 rfl) ?_
      refine g_9_31 X hK hW flRX9_98 dX9_thread_166 ?_
      refine lv_bipush (v := 6) hx hb dX9_thread_169 (by decide) ?_
      refine lv_iload_n hx hb dX9_thread_171 rfl (lv_at hl 1 rfl) ?_
      refine lv_imul hx hb dX9_thread_172 ?_
      refine lv_iload hx hb dX9_thread_173 (lv_at hl 2 rfl) ?_
      refine lv_iadd hx hb dX9_thread_175 ?_
      refine lv_bipush (v := -4) hx hb dX9_thread_176 (by decide) ?_
      obtain ⟨N31, hN31, hf⟩ := lt1_some hf
      refine as_50 X hK hW hS b29 hN31 dX9_thread_178 (fun H locs hW hS => ?_)
      refine lv_iinc (v := (y4 + 1)) (lv' := [(4, .int (y4 + 1)), (0, .ref (ad 20 0)), (1, .int y1)]) hx hb dX9_thread_179 hl (k := 2) rfl rfl (by decide) rfl (fun ls hl => ?_)
      refine lv_goto (tgt := 145) hx hb dX9_thread_182 (by decide) ?_
      exact ih _ _ _ _ _ hf _ _ _ hW hS (lv_sub hl [1, 2, 0] rfl)
set_option maxRecDepth 100000 in
set_option maxHeartbeats 4000000 in
theorem c_yX9_thread (l : Launch) (E : Lay) (ad : Nat → Nat → Nat) (M N : Mem) (x1 : Int32) (x2 : Int32) (x3 : Int32) (r : Int32) (Nr : Mem) (hf : f_yX9_thread N x1 x2 x3 = some (r, Nr)) : Met l yX9_thread (Cond.code yX9_thread cX9_thread 5 (some .int) :: TB) (rmm 2 43) (va_Pc [.ref (ad 20 0), .int x1, .int x2, .int x3] (PB E ad (M, N))) (Qi E ad r (M, Nr)) 0 0 (ow E) := by
  refine Met.ofW (cc := cX9_thread) (maxL := 5) (ret := (some .int)) (by decide) rfl ?_
  intro p e s m args below meth c s₁ B hml hv
  obtain ⟨rfl, hW, hK, hZ⟩ := hv
  have hT : ∀ w ∈ TB, w.before _ s = true := fun w h => atoms_spec (ws := (Cond.code yX9_thread cX9_thread 5 (some .int) :: TB)) B.pre w (List.mem_cons_of_mem _ h)
  have X : CX p s m _ meth c cX9_thread 5 (some .int) RX9 := ⟨B.exec, B.bytes, hml, findClass_of_methodNamed B.named, hT, B.returns, B.notSynchronized⟩
  obtain ⟨hx, hb, hml, hown, hT, hr, hlk⟩ := id X
  have hS : va_S (ow E) s.heap s.heap [] := va_S.rf
  have hl := lv_entry ([.ref (ad 20 0), .int x1, .int x2, .int x3]) (n := 5) (Nat.le_of_ble_eq_true rfl)
  rw [lg_entry_eq]
  generalize (lg_sl ([.ref (ad 20 0), .int x1, .int x2, .int x3]) ++ List.replicate (5 - (lg_sl ([.ref (ad 20 0), .int x1, .int x2, .int x3])).length) Slot.unset).toArray = ls at hl ⊢
  have hl : lv_has ls 5 [(0, .ref (ad 20 0)), (1, .int x1), (2, .int x2), (3, .int x3)] := hl
  unfold f_yX9_thread at hf
  refine lv_iload_n hx hb dX9_thread_0 rfl (lv_at hl 1 rfl) ?_
  refine lv_iconst (v := 0) hx hb dX9_thread_1 (by decide) ?_
  refine lv_iconst (v := 5) hx hb dX9_thread_2 (by decide) ?_
  obtain ⟨r2, h1, hf⟩ := ob1_some hf
  refine k_yX9_in X hK hZ hW hS hl.1 h1 mlRX9_114 ⟨Nat.le_of_ble_eq_true rfl, Nat.le_of_ble_eq_true rfl⟩ ⟨Nat.le_of_ble_eq_true rfl, Nat.le_of_ble_eq_true rfl⟩ (Nat.le_of_ble_eq_true rfl) dX9_thread_3 (fun H locs hW hS => ?_)
  refine lv_if_eq (tgt := 29) hx hb dX9_thread_6 (by decide) (fun c3 => ?_) (fun c3 => ?_)
  · rw [if_pos c3] at hf
    refine lv_iconst (v := -1) hx hb dX9_thread_29 (by decide) ?_
    obtain ⟨rfl, rfl⟩ := sp2 hf
    exact e_i ⟨hx, hb, hr, hlk⟩ hW hS dX9_thread_30
  · rw [if_neg c3] at hf
    refine lv_iload_n hx hb dX9_thread_9 rfl (lv_at hl 2 rfl) ?_
    refine lv_iconst (v := 0) hx hb dX9_thread_10 (by decide) ?_
    refine lv_bipush (v := 7) hx hb dX9_thread_11 (by decide) ?_
    obtain ⟨r5, h4, hf⟩ := ob1_some hf
    refine k_yX9_in X hK hZ hW hS hl.1 h4 mlRX9_114 ⟨Nat.le_of_ble_eq_true rfl, Nat.le_of_ble_eq_true rfl⟩ ⟨Nat.le_of_ble_eq_true rfl, Nat.le_of_ble_eq_true rfl⟩ (Nat.le_of_ble_eq_true rfl) dX9_thread_13 (fun H locs hW hS => ?_)
    refine lv_if_eq (tgt := 29) hx hb dX9_thread_16 (by decide) (fun c6 => ?_) (fun c6 => ?_)
    · rw [if_pos c6] at hf
      refine lv_iconst (v := -1) hx hb dX9_thread_29 (by decide) ?_
      obtain ⟨rfl, rfl⟩ := sp2 hf
      exact e_i ⟨hx, hb, hr, hlk⟩ hW hS dX9_thread_30
    · rw [if_neg c6] at hf
      refine lv_iload_n hx hb dX9_thread_19 rfl (lv_at hl 3 rfl) ?_
      refine lv_iconst (v := 0) hx hb dX9_thread_20 (by decide) ?_
      refine lv_bipush (v := 9) hx hb dX9_thread_21 (by decide) ?_
      obtain ⟨r8, h7, hf⟩ := ob1_some hf
      refine k_yX9_in X hK hZ hW hS hl.1 h7 mlRX9_114 ⟨Nat.le_of_ble_eq_true rfl, Nat.le_of_ble_eq_true rfl⟩ ⟨Nat.le_of_ble_eq_true rfl, Nat.le_of_ble_eq_true rfl⟩ (Nat.le_of_ble_eq_true rfl) dX9_thread_23 (fun H locs hW hS => ?_)
      refine lv_if_ne (tgt := 31) hx hb dX9_thread_26 (by decide) (fun c9 => ?_) (fun c9 => ?_)
      · rw [if_neg c9] at hf
        refine lv_aload_n hx hb dX9_thread_31 rfl (lv_at hl 0 rfl) ?_
        refine lv_iload_n hx hb dX9_thread_32 rfl (lv_at hl 1 rfl) ?_
        obtain ⟨r11, h10, hf⟩ := ob1_some hf
        refine k_yX9_isUnderWay X hK hZ hW hS hl.1 h10 mlRX9_143 ⟨Nat.le_of_ble_eq_true rfl, Nat.le_of_ble_eq_true rfl⟩ ⟨Nat.le_of_ble_eq_true rfl, Nat.le_of_ble_eq_true rfl⟩ (Nat.le_of_ble_eq_true rfl) dX9_thread_33 (fun H locs hW hS => ?_)
        refine lv_if_eq (tgt := 42) hx hb dX9_thread_36 (by decide) (fun c12 => ?_) (fun c12 => ?_)
        · rw [if_pos c12] at hf
          refine lv_aload_n hx hb dX9_thread_42 rfl (lv_at hl 0 rfl) ?_
          refine g_9_12 X hK hW flRX9_40 dX9_thread_43 ?_
          refine lv_iload_n hx hb dX9_thread_46 rfl (lv_at hl 1 rfl) ?_
          refine lv_iconst (v := 1) hx hb dX9_thread_47 (by decide) ?_
          obtain ⟨b13, hf⟩ := gd_some hf
          obtain ⟨N14, hN14, hf⟩ := lt1_some hf
          refine as_31 X hK hW hS b13 hN14 dX9_thread_48 (fun H locs hW hS => ?_)
          refine lv_aload_n hx hb dX9_thread_49 rfl (lv_at hl 0 rfl) ?_
          refine g_9_13 X hK hW flRX9_43 dX9_thread_50 ?_
          refine lv_iload_n hx hb dX9_thread_53 rfl (lv_at hl 1 rfl) ?_
          refine lv_iload_n hx hb dX9_thread_54 rfl (lv_at hl 2 rfl) ?_
          obtain ⟨N15, hN15, hf⟩ := lt1_some hf
          refine as_32 X hK hW hS b13 hN15 dX9_thread_55 (fun H locs hW hS => ?_)
          refine lv_aload_n hx hb dX9_thread_56 rfl (lv_at hl 0 rfl) ?_
          refine g_9_14 X hK hW flRX9_46 dX9_thread_57 ?_
          refine lv_iload_n hx hb dX9_thread_60 rfl (lv_at hl 1 rfl) ?_
          refine lv_iload_n hx hb dX9_thread_61 rfl (lv_at hl 3 rfl) ?_
          obtain ⟨N16, hN16, hf⟩ := lt1_some hf
          refine as_33 X hK hW hS b13 hN16 dX9_thread_62 (fun H locs hW hS => ?_)
          refine lv_aload_n hx hb dX9_thread_63 rfl (lv_at hl 0 rfl) ?_
          refine g_9_15 X hK hW flRX9_49 dX9_thread_64 ?_
          refine lv_iload_n hx hb dX9_thread_67 rfl (lv_at hl 1 rfl) ?_
          refine lv_iconst (v := 0) hx hb dX9_thread_68 (by decide) ?_
          obtain ⟨N17, hN17, hf⟩ := lt1_some hf
          refine as_34 X hK hW hS b13 hN17 dX9_thread_69 (fun H locs hW hS => ?_)
          refine lv_aload_n hx hb dX9_thread_70 rfl (lv_at hl 0 rfl) ?_
          refine g_9_16 X hK hW flRX9_52 dX9_thread_71 ?_
          refine lv_iload_n hx hb dX9_thread_74 rfl (lv_at hl 1 rfl) ?_
          refine lv_iconst (v := 0) hx hb dX9_thread_75 (by decide) ?_
          obtain ⟨N18, hN18, hf⟩ := lt1_some hf
          refine as_35 X hK hW hS rfl b13 hN18 dX9_thread_76 (fun H locs hW hS => ?_)
          refine lv_aload_n hx hb dX9_thread_77 rfl (lv_at hl 0 rfl) ?_
          refine g_9_17 X hK hW flRX9_56 dX9_thread_78 ?_
          refine lv_iload_n hx hb dX9_thread_81 rfl (lv_at hl 1 rfl) ?_
          refine lv_iconst (v := 0) hx hb dX9_thread_82 (by decide) ?_
          obtain ⟨N19, hN19, hf⟩ := lt1_some hf
          refine as_36 X hK hW hS rfl b13 hN19 dX9_thread_83 (fun H locs hW hS => ?_)
          refine lv_aload_n hx hb dX9_thread_84 rfl (lv_at hl 0 rfl) ?_
          refine g_9_18 X hK hW flRX9_59 dX9_thread_85 ?_
          refine lv_iload_n hx hb dX9_thread_88 rfl (lv_at hl 1 rfl) ?_
          refine lv_iconst (v := 0) hx hb dX9_thread_89 (by decide) ?_
          obtain ⟨N20, hN20, hf⟩ := lt1_some hf
          refine as_37 X hK hW hS b13 hN20 dX9_thread_90 (fun H locs hW hS => ?_)
          refine lv_aload_n hx hb dX9_thread_91 rfl (lv_at hl 0 rfl) ?_
          refine g_9_19 X hK hW flRX9_62 dX9_thread_92 ?_
          refine lv_iload_n hx hb dX9_thread_95 rfl (lv_at hl 1 rfl) ?_
          refine lv_iconst (v := 0) hx hb dX9_thread_96 (by decide) ?_
          obtain ⟨N21, hN21, hf⟩ := lt1_some hf
          refine as_38 X hK hW hS b13 hN21 dX9_thread_97 (fun H locs hW hS => ?_)
          refine lv_aload_n hx hb dX9_thread_98 rfl (lv_at hl 0 rfl) ?_
          refine g_9_20 X hK hW flRX9_65 dX9_thread_99 ?_
          refine lv_iload_n hx hb dX9_thread_102 rfl (lv_at hl 1 rfl) ?_
          refine lv_bipush (v := -4) hx hb dX9_thread_103 (by decide) ?_
          obtain ⟨N22, hN22, hf⟩ := lt1_some hf
          refine as_39 X hK hW hS b13 hN22 dX9_thread_105 (fun H locs hW hS => ?_)
          refine lv_aload_n hx hb dX9_thread_106 rfl (lv_at hl 0 rfl) ?_
          refine g_9_21 X hK hW flRX9_68 dX9_thread_107 ?_
          refine lv_iload_n hx hb dX9_thread_110 rfl (lv_at hl 1 rfl) ?_
          refine lv_bipush (v := -4) hx hb dX9_thread_111 (by decide) ?_
          obtain ⟨N23, hN23, hf⟩ := lt1_some hf
          refine as_40 X hK hW hS b13 hN23 dX9_thread_113 (fun H locs hW hS => ?_)
          refine lv_aload_n hx hb dX9_thread_114 rfl (lv_at hl 0 rfl) ?_
          refine g_9_24 X hK hW flRX9_77 dX9_thread_115 ?_
          refine lv_iload_n hx hb dX9_thread_118 rfl (lv_at hl 1 rfl) ?_
          refine lv_iconst (v := 0) hx hb dX9_thread_119 (by decide) ?_
          obtain ⟨N24, hN24, hf⟩ := lt1_some hf
          refine as_43 X hK hW hS b13 hN24 dX9_thread_120 (fun H locs hW hS => ?_)
          refine lv_aload_n hx hb dX9_thread_121 rfl (lv_at hl 0 rfl) ?_
          refine g_9_25 X hK hW flRX9_80 dX9_thread_122 ?_
          refine lv_iload_n hx hb dX9_thread_125 rfl (lv_at hl 1 rfl) ?_
          refine lv_iconst (v := 0) hx hb dX9_thread_126 (by decide) ?_
          obtain ⟨N25, hN25, hf⟩ := lt1_some hf
          refine as_44 X hK hW hS b13 hN25 dX9_thread_127 (fun H locs hW hS => ?_)
          refine lv_aload_n hx hb dX9_thread_128 rfl (lv_at hl 0 rfl) ?_
          refine g_9_26 X hK hW flRX9_83 dX9_thread_129 ?_
          refine lv_iload_n hx hb dX9_thread_132 rfl (lv_at hl 1 rfl) ?_
          refine lv_iconst (v := 0) hx hb dX9_thread_133 (by decide) ?_
          obtain ⟨N26, hN26, hf⟩ := lt1_some hf
          refine as_45 X hK hW hS b13 hN26 dX9_thread_134 (fun H locs hW hS => ?_)
          refine lv_aload_n hx hb dX9_thread_135 rfl (lv_at hl 0 rfl) ?_
          refine g_9_27 X hK hW flRX9_86 dX9_thread_136 ?_
          refine lv_iload_n hx hb dX9_thread_139 rfl (lv_at hl 1 rfl) ?_
          refine lv_iconst (v := 0) hx hb dX9_thread_140 (by decide) ?_
          obtain ⟨N27, hN27, hf⟩ := lt1_some hf
          refine as_46 X hK hW hS b13 hN27 dX9_thread_141 (fun H locs hW hS => ?_)
          refine lv_iconst (v := 0) hx hb dX9_thread_142 (by decide) ?_
          refine lv_istore (lv' := [(4, .int 0), (0, .ref (ad 20 0)), (1, .int x1), (2, .int x2), (3, .int x3)]) hx hb dX9_thread_143 hl (by decide) rfl (fun ls hl => ?_)
          exact (l_yX9_thread_145 l E ad M X hK hZ 70) _ _ _ _ _ hf _ _ _ hW hS (lv_sub hl [1, 2, 0] rfl)
        · rw [if_neg c12] at hf
          refine lv_bipush (v := -2) hx hb dX9_thread_39 (by decide) ?_
          obtain ⟨rfl, rfl⟩ := sp2 hf
          exact e_i ⟨hx, hb, hr, hlk⟩ hW hS dX9_thread_41
      · rw [if_pos c9] at hf
        refine lv_iconst (v := -1) hx hb dX9_thread_29 (by decide) ?_
        obtain ⟨rfl, rfl⟩ := sp2 hf
        exact e_i ⟨hx, hb, hr, hlk⟩ hW hS dX9_thread_30
set_option maxRecDepth 100000 in
set_option maxHeartbeats 4000000 in
theorem k_yX9_thread {p : Program} {l : Launch} {e : Env} {R : Room} {s : State} {m : MethodId} {args : Array Value} {below : List Frame} {meth : Method} {c : Code} {H : Heap} {locs : List Loc} {cells slots : Nat} {Q : State → Prop} {cc : ByteArray} {pc nL index : Nat} {ret : Option FieldType} {own : String} {ls : Array Slot} {rest : List Value} {E : Lay} {ad : Nat → Nat → Nat} {M N : Mem} (X : CX p s m args meth c cc nL ret own) (hK : KK E s) (hZ : ZZ E s) (hW : WD E ad (M, N) H) (hS : va_S (ow E) s.heap H locs) (hsz : ls.size = nL) {x1 : Int32} {x2 : Int32} {x3 : Int32} {r : Int32} {Nr : Mem} (hf : f_yX9_thread N x1 x2 x3 = some (r, Nr)) (hn : Cond.methodLink own index yX9_thread ∈ TB) (hR : 2 + 1 ≤ R.frames ∧ 8 + (5 + 11) + 43 ≤ R.locals) (hC : cells ≤ R.cells ∧ slots ≤ R.slots) (h8 : (rest.map fun v => v.category).sum ≤ 8) (hdg : decode cc pc = .ok (.invokevirtual index, 3)) (kk : ∀ (H1 : Heap) (locs1 : List Loc), WD E ad (M, Nr) H1 → va_S (ow E) s.heap H1 locs1 → W p l e R s m args below meth c H1 locs1 cells slots Q (F0 m (pc + 3) ls (.int r :: rest))) : W p l e R s m args below meth c H locs cells slots Q (F0 m pc ls (.int x3 :: .int x2 :: .int x1 :: .ref (ad 20 0) :: rest)) := by
  refine va_calli (va_runV (C := RX9) (As := [.int x1, .int x2, .int x3]) (rest := rest) ⟨X.1, X.2.1, X.2.2.1, X.2.2.2.1, X.2.2.2.2.1⟩ (c_yX9_thread l E ad M N x1 x2 x3 r Nr hf) (cwV 3 X.2.2.2.2.1 (gV hn im_yX9_thread se_yX9_thread iniRX9 cd_yX9_thread) rfl rfl rfl (by decide +kernel) hR) ⟨fun a U g mk q => ⟨q.1, q.2.calling⟩, va_recv hK.1 (hW.at (c := 20) (i := 0) Nat.zero_lt_one rfl) (ci := 9) (q0 := 0) rfl rfl, fun U hU hw => ⟨rfl, PB.at hW hK hZ hS hU hw⟩⟩ rfl rfl hsz rfl (lv_room h8) hdg hC) hS (fun _ _ h => h) (fun _ h => h) (fun r' u t H1 locs1 ht hvm hw hB hz1 hk1 hS1 => ?_)
  obtain ⟨rfl, rfl⟩ := hw
  rw [ht] at hB
  exact kk H1 locs1 hB hS1
def f_yX9_isThread (N : Mem) (x1 : Int32) : Option (Int32) := ob1 (f_yX9_in x1 0 5) (fun r2 => (if r2 = 0 then (some 0) else gd (¬ (x1 < 0 ∨ 6 ≤ x1.toNatClampNeg)) ((if (N 31 0 x1.toNatClampNeg) = 0 then (some 0) else (some 1)))))
set_option maxRecDepth 100000 in
set_option maxHeartbeats 4000000 in
theorem c_yX9_isThread (l : Launch) (E : Lay) (ad : Nat → Nat → Nat) (M N : Mem) (x1 : Int32) (r : Int32) (hf : f_yX9_isThread N x1 = some r) : Met l yX9_isThread (Cond.code yX9_isThread cX9_isThread 2 (some .boolean) :: TB) (rmm 1 22) (va_Pc [.ref (ad 20 0), .int x1] (PB E ad (M, N))) (Qi E ad r (M, N)) 0 0 (ow E) := by
  refine Met.ofW (cc := cX9_isThread) (maxL := 2) (ret := (some .boolean)) (by decide) rfl ?_
  intro p e s m args below meth c s₁ B hml hv
  obtain ⟨rfl, hW, hK, hZ⟩ := hv
  have hT : ∀ w ∈ TB, w.before _ s = true := fun w h => atoms_spec (ws := (Cond.code yX9_isThread cX9_isThread 2 (some .boolean) :: TB)) B.pre w (List.mem_cons_of_mem _ h)
  have X : CX p s m _ meth c cX9_isThread 2 (some .boolean) RX9 := ⟨B.exec, B.bytes, hml, findClass_of_methodNamed B.named, hT, B.returns, B.notSynchronized⟩
  obtain ⟨hx, hb, hml, hown, hT, hr, hlk⟩ := id X
  have hS : va_S (ow E) s.heap s.heap [] := va_S.rf
  have hl := lv_entry ([.ref (ad 20 0), .int x1]) (n := 2) (Nat.le_of_ble_eq_true rfl)
  rw [lg_entry_eq]
  generalize (lg_sl ([.ref (ad 20 0), .int x1]) ++ List.replicate (2 - (lg_sl ([.ref (ad 20 0), .int x1])).length) Slot.unset).toArray = ls at hl ⊢
  have hl : lv_has ls 2 [(0, .ref (ad 20 0)), (1, .int x1)] := hl
  unfold f_yX9_isThread at hf
  refine lv_iload_n hx hb dX9_isThread_0 rfl (lv_at hl 1 rfl) ?_
  refine lv_iconst (v := 0) hx hb dX9_isThread_1 (by decide) ?_
  refine lv_iconst (v := 5) hx hb dX9_isThread_2 (by decide) ?_
  obtain ⟨r2, h1, hf⟩ := ob1_some hf
  refine k_yX9_in X hK hZ hW hS hl.1 h1 mlRX9_114 ⟨Nat.le_of_ble_eq_true rfl, Nat.le_of_ble_eq_true rfl⟩ ⟨Nat.le_of_ble_eq_true rfl, Nat.le_of_ble_eq_true rfl⟩ (Nat.le_of_ble_eq_true rfl) dX9_isThread_3 (fun H locs hW hS => ?_)
  refine lv_if_eq (tgt := 22) hx hb dX9_isThread_6 (by decide) (fun c3 => ?_) (fun c3 => ?_)
  · rw [if_pos c3] at hf
    refine lv_iconst (v := 0) hx hb dX9_isThread_22 (by decide) ?_
    obtain rfl := sp1 hf
    exact e_z ⟨hx, hb, hr, hlk⟩ rfl hW hS dX9_isThread_23
  · rw [if_neg c3] at hf
    refine lv_aload_n hx hb dX9_isThread_9 rfl (lv_at hl 0 rfl) ?_
    refine g_9_12 X hK hW flRX9_40 dX9_isThread_10 ?_
    refine lv_iload_n hx hb dX9_isThread_13 rfl (lv_at hl 1 rfl) ?_
    obtain ⟨b4, hf⟩ := gd_some hf
    refine al_31 X hK hW b4 dX9_isThread_14 ?_
    refine lv_if_eq (tgt := 22) hx hb dX9_isThread_15 (by decide) (fun c5 => ?_) (fun c5 => ?_)
    · rw [if_pos c5] at hf
      refine lv_iconst (v := 0) hx hb dX9_isThread_22 (by decide) ?_
      obtain rfl := sp1 hf
      exact e_z ⟨hx, hb, hr, hlk⟩ rfl hW hS dX9_isThread_23
    · rw [if_neg c5] at hf
      refine lv_iconst (v := 1) hx hb dX9_isThread_18 (by decide) ?_
      refine lv_goto (tgt := 23) hx hb dX9_isThread_19 (by decide) ?_
      obtain rfl := sp1 hf
      exact e_z ⟨hx, hb, hr, hlk⟩ rfl hW hS dX9_isThread_23
set_option maxRecDepth 100000 in
set_option maxHeartbeats 4000000 in
theorem k_yX9_isThread {p : Program} {l : Launch} {e : Env} {R : Room} {s : State} {m : MethodId} {args : Array Value} {below : List Frame} {meth : Method} {c : Code} {H : Heap} {locs : List Loc} {cells slots : Nat} {Q : State → Prop} {cc : ByteArray} {pc nL index : Nat} {ret : Option FieldType} {own : String} {ls : Array Slot} {rest : List Value} {E : Lay} {ad : Nat → Nat → Nat} {M N : Mem} (X : CX p s m args meth c cc nL ret own) (hK : KK E s) (hZ : ZZ E s) (hW : WD E ad (M, N) H) (hS : va_S (ow E) s.heap H locs) (hsz : ls.size = nL) {x1 : Int32} {r : Int32} (hf : f_yX9_isThread N x1 = some r) (hn : Cond.methodLink own index yX9_isThread ∈ TB) (hR : 1 + 1 ≤ R.frames ∧ 8 + (2 + 11) + 22 ≤ R.locals) (hC : cells ≤ R.cells ∧ slots ≤ R.slots) (h8 : (rest.map fun v => v.category).sum ≤ 8) (hdg : decode cc pc = .ok (.invokevirtual index, 3)) (kk : ∀ (H1 : Heap) (locs1 : List Loc), WD E ad (M, N) H1 → va_S (ow E) s.heap H1 locs1 → W p l e R s m args below meth c H1 locs1 cells slots Q (F0 m (pc + 3) ls (.int r :: rest))) : W p l e R s m args below meth c H locs cells slots Q (F0 m pc ls (.int x1 :: .ref (ad 20 0) :: rest)) := by
  refine va_calli (va_runV (C := RX9) (As := [.int x1]) (rest := rest) ⟨X.1, X.2.1, X.2.2.1, X.2.2.2.1, X.2.2.2.2.1⟩ (c_yX9_isThread l E ad M N x1 r hf) (cwV 1 X.2.2.2.2.1 (gV hn im_yX9_isThread se_yX9_isThread iniRX9 cd_yX9_isThread) rfl rfl rfl (by decide +kernel) hR) ⟨fun a U g mk q => ⟨q.1, q.2.calling⟩, va_recv hK.1 (hW.at (c := 20) (i := 0) Nat.zero_lt_one rfl) (ci := 9) (q0 := 0) rfl rfl, fun U hU hw => ⟨rfl, PB.at hW hK hZ hS hU hw⟩⟩ rfl rfl hsz rfl (lv_room h8) hdg hC) hS (fun _ _ h => h) (fun _ h => h) (fun r' u t H1 locs1 ht hvm hw hB hz1 hk1 hS1 => ?_)
  obtain ⟨rfl, rfl⟩ := hw
  rw [ht] at hB
  exact kk H1 locs1 hB hS1
def f_yX9_set (N : Mem) (x1 : Int32) (x2 : Int32) (x3 : Int32) : Option (Int32 × Mem) := ob1 (f_yX9_isThread N x1) (fun r2 => (if r2 = 0 then (some ((-1), N)) else ob1 (f_yX9_in x2 0 5) (fun r5 => (if r5 = 0 then (some ((-1), N)) else gd (¬ (((6 * x1) + x2) < 0 ∨ 36 ≤ ((6 * x1) + x2).toNatClampNeg)) (lt1 (mp N 49 0 ((6 * x1) + x2).toNatClampNeg x3) (fun N8 => (some (1, N8))))))))
set_option maxRecDepth 100000 in
set_option maxHeartbeats 4000000 in
theorem c_yX9_set (l : Launch) (E : Lay) (ad : Nat → Nat → Nat) (M N : Mem) (x1 : Int32) (x2 : Int32) (x3 : Int32) (r : Int32) (Nr : Mem) (hf : f_yX9_set N x1 x2 x3 = some (r, Nr)) : Met l yX9_set (Cond.code yX9_set cX9_set 4 (some .int) :: TB) (rmm 2 43) (va_Pc [.ref (ad 20 0), .int x1, .int x2, .int x3] (PB E ad (M, N))) (Qi E ad r (M, Nr)) 0 0 (ow E) := by
  refine Met.ofW (cc := cX9_set) (maxL := 4) (ret := (some .int)) (by decide) rfl ?_
  intro p e s m args below meth c s₁ B hml hv
  obtain ⟨rfl, hW, hK, hZ⟩ := hv
  have hT : ∀ w ∈ TB, w.before _ s = true := fun w h => atoms_spec (ws := (Cond.code yX9_set cX9_set 4 (some .int) :: TB)) B.pre w (List.mem_cons_of_mem _ h)
  have X : CX p s m _ meth c cX9_set 4 (some .int) RX9 := ⟨B.exec, B.bytes, hml, findClass_of_methodNamed B.named, hT, B.returns, B.notSynchronized⟩
  obtain ⟨hx, hb, hml, hown, hT, hr, hlk⟩ := id X
  have hS : va_S (ow E) s.heap s.heap [] := va_S.rf
  have hl := lv_entry ([.ref (ad 20 0), .int x1, .int x2, .int x3]) (n := 4) (Nat.le_of_ble_eq_true rfl)
  rw [lg_entry_eq]
  generalize (lg_sl ([.ref (ad 20 0), .int x1, .int x2, .int x3]) ++ List.replicate (4 - (lg_sl ([.ref (ad 20 0), .int x1, .int x2, .int x3])).length) Slot.unset).toArray = ls at hl ⊢
  have hl : lv_has ls 4 [(0, .ref (ad 20 0)), (1, .int x1), (2, .int x2), (3, .int x3)] := hl
  unfold f_yX9_set at hf
  refine lv_aload_n hx hb dX9_set_0 rfl (lv_at hl 0 rfl) ?_
  refine lv_iload_n hx hb dX9_set_1 rfl (lv_at hl 1 rfl) ?_
  obtain ⟨r2, h1, hf⟩ := ob1_some hf
  refine k_yX9_isThread X hK hZ hW hS hl.1 h1 mlRX9_153 ⟨Nat.le_of_ble_eq_true rfl, Nat.le_of_ble_eq_true rfl⟩ ⟨Nat.le_of_ble_eq_true rfl, Nat.le_of_ble_eq_true rfl⟩ (Nat.le_of_ble_eq_true rfl) dX9_set_2 (fun H locs hW hS => ?_)
  refine lv_if_eq (tgt := 17) hx hb dX9_set_5 (by decide) (fun c3 => ?_) (fun c3 => ?_)
  · rw [if_pos c3] at hf
    refine lv_iconst (v := -1) hx hb dX9_set_17 (by decide) ?_
    obtain ⟨rfl, rfl⟩ := sp2 hf
    exact e_i ⟨hx, hb, hr, hlk⟩ hW hS dX9_set_18
  · rw [if_neg c3] at hf
    refine lv_iload_n hx hb dX9_set_8 rfl (lv_at hl 2 rfl) ?_
    refine lv_iconst (v := 0) hx hb dX9_set_9 (by decide) ?_
    refine lv_iconst (v := 5) hx hb dX9_set_10 (by decide) ?_
    obtain ⟨r5, h4, hf⟩ := ob1_some hf
    refine k_yX9_in X hK hZ hW hS hl.1 h4 mlRX9_114 ⟨Nat.le_of_ble_eq_true rfl, Nat.le_of_ble_eq_true rfl⟩ ⟨Nat.le_of_ble_eq_true rfl, Nat.le_of_ble_eq_true rfl⟩ (Nat.le_of_ble_eq_true rfl) dX9_set_11 (fun H locs hW hS => ?_)
    refine lv_if_ne (tgt := 19) hx hb dX9_set_14 (by decide) (fun c6 => ?_) (fun c6 => ?_)
    · rw [if_neg c6] at hf
      refine lv_aload_n hx hb dX9_set_19 rfl (lv_at hl 0 rfl) ?_
      refine g_9_30 X hK hW flRX9_95 dX9_set_20 ?_
      refine lv_bipush (v := 6) hx hb dX9_set_23 (by decide) ?_
      refine lv_iload_n hx hb dX9_set_25 rfl (lv_at hl 1 rfl) ?_
      refine lv_imul hx hb dX9_set_26 ?_
      refine lv_iload_n hx hb dX9_set_27 rfl (lv_at hl 2 rfl) ?_
      refine lv_iadd hx hb dX9_set_28 ?_
      refine lv_iload_n hx hb dX9_set_29 rfl (lv_at hl 3 rfl) ?_
      obtain ⟨b7, hf⟩ := gd_some hf
      obtain ⟨N8, hN8, hf⟩ := lt1_some hf
      refine as_49 X hK hW hS b7 hN8 dX9_set_30 (fun H locs hW hS => ?_)
      refine lv_iconst (v := 1) hx hb dX9_set_31 (by decide) ?_
      obtain ⟨rfl, rfl⟩ := sp2 hf
      exact e_i ⟨hx, hb, hr, hlk⟩ hW hS dX9_set_32
    · rw [if_pos c6] at hf
      refine lv_iconst (v := -1) hx hb dX9_set_17 (by decide) ?_
      obtain ⟨rfl, rfl⟩ := sp2 hf
      exact e_i ⟨hx, hb, hr, hlk⟩ hW hS dX9_set_18
set_option maxRecDepth 100000 in
set_option maxHeartbeats 4000000 in
theorem k_yX9_set {p : Program} {l : Launch} {e : Env} {R : Room} {s : State} {m : MethodId} {args : Array Value} {below : List Frame} {meth : Method} {c : Code} {H : Heap} {locs : List Loc} {cells slots : Nat} {Q : State → Prop} {cc : ByteArray} {pc nL index : Nat} {ret : Option FieldType} {own : String} {ls : Array Slot} {rest : List Value} {E : Lay} {ad : Nat → Nat → Nat} {M N : Mem} (X : CX p s m args meth c cc nL ret own) (hK : KK E s) (hZ : ZZ E s) (hW : WD E ad (M, N) H) (hS : va_S (ow E) s.heap H locs) (hsz : ls.size = nL) {x1 : Int32} {x2 : Int32} {x3 : Int32} {r : Int32} {Nr : Mem} (hf : f_yX9_set N x1 x2 x3 = some (r, Nr)) (hn : Cond.methodLink own index yX9_set ∈ TB) (hR : 2 + 1 ≤ R.frames ∧ 8 + (4 + 11) + 43 ≤ R.locals) (hC : cells ≤ R.cells ∧ slots ≤ R.slots) (h8 : (rest.map fun v => v.category).sum ≤ 8) (hdg : decode cc pc = .ok (.invokevirtual index, 3)) (kk : ∀ (H1 : Heap) (locs1 : List Loc), WD E ad (M, Nr) H1 → va_S (ow E) s.heap H1 locs1 → W p l e R s m args below meth c H1 locs1 cells slots Q (F0 m (pc + 3) ls (.int r :: rest))) : W p l e R s m args below meth c H locs cells slots Q (F0 m pc ls (.int x3 :: .int x2 :: .int x1 :: .ref (ad 20 0) :: rest)) := by
  refine va_calli (va_runV (C := RX9) (As := [.int x1, .int x2, .int x3]) (rest := rest) ⟨X.1, X.2.1, X.2.2.1, X.2.2.2.1, X.2.2.2.2.1⟩ (c_yX9_set l E ad M N x1 x2 x3 r Nr hf) (cwV 3 X.2.2.2.2.1 (gV hn im_yX9_set se_yX9_set iniRX9 cd_yX9_set) rfl rfl rfl (by decide +kernel) hR) ⟨fun a U g mk q => ⟨q.1, q.2.calling⟩, va_recv hK.1 (hW.at (c := 20) (i := 0) Nat.zero_lt_one rfl) (ci := 9) (q0 := 0) rfl rfl, fun U hU hw => ⟨rfl, PB.at hW hK hZ hS hU hw⟩⟩ rfl rfl hsz rfl (lv_room h8) hdg hC) hS (fun _ _ h => h) (fun _ h => h) (fun r' u t H1 locs1 ht hvm hw hB hz1 hk1 hS1 => ?_)
  obtain ⟨rfl, rfl⟩ := hw
  rw [ht] at hB
  exact kk H1 locs1 hB hS1
def f_yX9_give (N : Mem) (x1 : Int32) (x2 : Int32) (x3 : Int32) : Option (Int32 × Mem) := ob1 (f_yX9_isThread N x1) (fun r2 => (if r2 = 0 then (some ((-1), N)) else ob1 (f_yX9_in x2 0 5) (fun r5 => (if r5 = 0 then (some ((-1), N)) else (if x3 = (-4) then gd (¬ (((6 * x1) + x2) < 0 ∨ 36 ≤ ((6 * x1) + x2).toNatClampNeg)) (lt1 (mp N 50 0 ((6 * x1) + x2).toNatClampNeg x3) (fun N9 => (some (1, N9)))) else ob1 (f_yX9_isThing N x3) (fun r11 => (if r11 = 0 then (some ((-1), N)) else gd (¬ (((6 * x1) + x2) < 0 ∨ 36 ≤ ((6 * x1) + x2).toNatClampNeg)) (lt1 (mp N 50 0 ((6 * x1) + x2).toNatClampNeg x3) (fun N14 => (some (1, N14)))))))))))
set_option maxRecDepth 100000 in
set_option maxHeartbeats 4000000 in
theorem c_yX9_give (l : Launch) (E : Lay) (ad : Nat → Nat → Nat) (M N : Mem) (x1 : Int32) (x2 : Int32) (x3 : Int32) (r : Int32) (Nr : Mem) (hf : f_yX9_give N x1 x2 x3 = some (r, Nr)) : Met l yX9_give (Cond.code yX9_give cX9_give 4 (some .int) :: TB) (rmm 2 43) (va_Pc [.ref (ad 20 0), .int x1, .int x2, .int x3] (PB E ad (M, N))) (Qi E ad r (M, Nr)) 0 0 (ow E) := by
  refine Met.ofW (cc := cX9_give) (maxL := 4) (ret := (some .int)) (by decide) rfl ?_
  intro p e s m args below meth c s₁ B hml hv
  obtain ⟨rfl, hW, hK, hZ⟩ := hv
  have hT : ∀ w ∈ TB, w.before _ s = true := fun w h => atoms_spec (ws := (Cond.code yX9_give cX9_give 4 (some .int) :: TB)) B.pre w (List.mem_cons_of_mem _ h)
  have X : CX p s m _ meth c cX9_give 4 (some .int) RX9 := ⟨B.exec, B.bytes, hml, findClass_of_methodNamed B.named, hT, B.returns, B.notSynchronized⟩
  obtain ⟨hx, hb, hml, hown, hT, hr, hlk⟩ := id X
  have hS : va_S (ow E) s.heap s.heap [] := va_S.rf
  have hl := lv_entry ([.ref (ad 20 0), .int x1, .int x2, .int x3]) (n := 4) (Nat.le_of_ble_eq_true rfl)
  rw [lg_entry_eq]
  generalize (lg_sl ([.ref (ad 20 0), .int x1, .int x2, .int x3]) ++ List.replicate (4 - (lg_sl ([.ref (ad 20 0), .int x1, .int x2, .int x3])).length) Slot.unset).toArray = ls at hl ⊢
  have hl : lv_has ls 4 [(0, .ref (ad 20 0)), (1, .int x1), (2, .int x2), (3, .int x3)] := hl
  unfold f_yX9_give at hf
  refine lv_aload_n hx hb dX9_give_0 rfl (lv_at hl 0 rfl) ?_
  refine lv_iload_n hx hb dX9_give_1 rfl (lv_at hl 1 rfl) ?_
  obtain ⟨r2, h1, hf⟩ := ob1_some hf
  refine k_yX9_isThread X hK hZ hW hS hl.1 h1 mlRX9_153 ⟨Nat.le_of_ble_eq_true rfl, Nat.le_of_ble_eq_true rfl⟩ ⟨Nat.le_of_ble_eq_true rfl, Nat.le_of_ble_eq_true rfl⟩ (Nat.le_of_ble_eq_true rfl) dX9_give_2 (fun H locs hW hS => ?_)
  refine lv_if_eq (tgt := 31) hx hb dX9_give_5 (by decide) (fun c3 => ?_) (fun c3 => ?_)
  · rw [if_pos c3] at hf
    refine lv_iconst (v := -1) hx hb dX9_give_31 (by decide) ?_
    obtain ⟨rfl, rfl⟩ := sp2 hf
    exact e_i ⟨hx, hb, hr, hlk⟩ hW hS dX9_give_32
  · rw [if_neg c3] at hf
    refine lv_iload_n hx hb dX9_give_8 rfl (lv_at hl 2 rfl) ?_
    refine lv_iconst (v := 0) hx hb dX9_give_9 (by decide) ?_
    refine lv_iconst (v := 5) hx hb dX9_give_10 (by decide) ?_
    obtain ⟨r5, h4, hf⟩ := ob1_some hf
    refine k_yX9_in X hK hZ hW hS hl.1 h4 mlRX9_114 ⟨Nat.le_of_ble_eq_true rfl, Nat.le_of_ble_eq_true rfl⟩ ⟨Nat.le_of_ble_eq_true rfl, Nat.le_of_ble_eq_true rfl⟩ (Nat.le_of_ble_eq_true rfl) dX9_give_11 (fun H locs hW hS => ?_)
    refine lv_if_eq (tgt := 31) hx hb dX9_give_14 (by decide) (fun c6 => ?_) (fun c6 => ?_)
    · rw [if_pos c6] at hf
      refine lv_iconst (v := -1) hx hb dX9_give_31 (by decide) ?_
      obtain ⟨rfl, rfl⟩ := sp2 hf
      exact e_i ⟨hx, hb, hr, hlk⟩ hW hS dX9_give_32
    · rw [if_neg c6] at hf
      refine lv_iload_n hx hb dX9_give_17 rfl (lv_at hl 3 rfl) ?_
      refine lv_bipush (v := -4) hx hb dX9_give_18 (by decide) ?_
      refine lv_icmp_eq (tgt := 33) hx hb dX9_give_20 (by decide) (fun c7 => ?_) (fun c7 => ?_)
      · rw [if_pos c7] at hf
        refine lv_aload_n hx hb dX9_give_33 rfl (lv_at hl 0 rfl) ?_
        refine g_9_31 X hK hW flRX9_98 dX9_give_34 ?_
        refine lv_bipush (v := 6) hx hb dX9_give_37 (by decide) ?_
        refine lv_iload_n hx hb dX9_give_39 rfl (lv_at hl 1 rfl) ?_
        refine lv_imul hx hb dX9_give_40 ?_
        refine lv_iload_n hx hb dX9_give_41 rfl (lv_at hl 2 rfl) ?_
        refine lv_iadd hx hb dX9_give_42 ?_
        refine lv_iload_n hx hb dX9_give_43 rfl (lv_at hl 3 rfl) ?_
        obtain ⟨b8, hf⟩ := gd_some hf
        obtain ⟨N9, hN9, hf⟩ := lt1_some hf
        refine as_50 X hK hW hS b8 hN9 dX9_give_44 (fun H locs hW hS => ?_)
        refine lv_iconst (v := 1) hx hb dX9_give_45 (by decide) ?_
        obtain ⟨rfl, rfl⟩ := sp2 hf
        exact e_i ⟨hx, hb, hr, hlk⟩ hW hS dX9_give_46
      · rw [if_neg c7] at hf
        refine lv_aload_n hx hb dX9_give_23 rfl (lv_at hl 0 rfl) ?_
        refine lv_iload_n hx hb dX9_give_24 rfl (lv_at hl 3 rfl) ?_
        obtain ⟨r11, h10, hf⟩ := ob1_some hf
        refine k_yX9_isThing X hK hZ hW hS hl.1 h10 mlRX9_122 ⟨Nat.le_of_ble_eq_true rfl, Nat.le_of_ble_eq_true rfl⟩ ⟨Nat.le_of_ble_eq_true rfl, Nat.le_of_ble_eq_true rfl⟩ (Nat.le_of_ble_eq_true rfl) dX9_give_25 (fun H locs hW hS => ?_)
        refine lv_if_ne (tgt := 33) hx hb dX9_give_28 (by decide) (fun c12 => ?_) (fun c12 => ?_)
        · rw [if_neg c12] at hf
          refine lv_aload_n hx hb dX9_give_33 rfl (lv_at hl 0 rfl) ?_
          refine g_9_31 X hK hW flRX9_98 dX9_give_34 ?_
          refine lv_bipush (v := 6) hx hb dX9_give_37 (by decide) ?_
          refine lv_iload_n hx hb dX9_give_39 rfl (lv_at hl 1 rfl) ?_
          refine lv_imul hx hb dX9_give_40 ?_
          refine lv_iload_n hx hb dX9_give_41 rfl (lv_at hl 2 rfl) ?_
          refine lv_iadd hx hb dX9_give_42 ?_
          refine lv_iload_n hx hb dX9_give_43 rfl (lv_at hl 3 rfl) ?_
          obtain ⟨b13, hf⟩ := gd_some hf
          obtain ⟨N14, hN14, hf⟩ := lt1_some hf
          refine as_50 X hK hW hS b13 hN14 dX9_give_44 (fun H locs hW hS => ?_)
          refine lv_iconst (v := 1) hx hb dX9_give_45 (by decide) ?_
          obtain ⟨rfl, rfl⟩ := sp2 hf
          exact e_i ⟨hx, hb, hr, hlk⟩ hW hS dX9_give_46
        · rw [if_pos c12] at hf
          refine lv_iconst (v := -1) hx hb dX9_give_31 (by decide) ?_
          obtain ⟨rfl, rfl⟩ := sp2 hf
          exact e_i ⟨hx, hb, hr, hlk⟩ hW hS dX9_give_32
set_option maxRecDepth 100000 in
set_option maxHeartbeats 4000000 in
theorem k_yX9_give {p : Program} {l : Launch} {e : Env} {R : Room} {s : State} {m : MethodId} {args : Array Value} {below : List Frame} {meth : Method} {c : Code} {H : Heap} {locs : List Loc} {cells slots : Nat} {Q : State → Prop} {cc : ByteArray} {pc nL index : Nat} {ret : Option FieldType} {own : String} {ls : Array Slot} {rest : List Value} {E : Lay} {ad : Nat → Nat → Nat} {M N : Mem} (X : CX p s m args meth c cc nL ret own) (hK : KK E s) (hZ : ZZ E s) (hW : WD E ad (M, N) H) (hS : va_S (ow E) s.heap H locs) (hsz : ls.size = nL) {x1 : Int32} {x2 : Int32} {x3 : Int32} {r : Int32} {Nr : Mem} (hf : f_yX9_give N x1 x2 x3 = some (r, Nr)) (hn : Cond.methodLink own index yX9_give ∈ TB) (hR : 2 + 1 ≤ R.frames ∧ 8 + (4 + 11) + 43 ≤ R.locals) (hC : cells ≤ R.cells ∧ slots ≤ R.slots) (h8 : (rest.map fun v => v.category).sum ≤ 8) (hdg : decode cc pc = .ok (.invokevirtual index, 3)) (kk : ∀ (H1 : Heap) (locs1 : List Loc), WD E ad (M, Nr) H1 → va_S (ow E) s.heap H1 locs1 → W p l e R s m args below meth c H1 locs1 cells slots Q (F0 m (pc + 3) ls (.int r :: rest))) : W p l e R s m args below meth c H locs cells slots Q (F0 m pc ls (.int x3 :: .int x2 :: .int x1 :: .ref (ad 20 0) :: rest)) := by
  refine va_calli (va_runV (C := RX9) (As := [.int x1, .int x2, .int x3]) (rest := rest) ⟨X.1, X.2.1, X.2.2.1, X.2.2.2.1, X.2.2.2.2.1⟩ (c_yX9_give l E ad M N x1 x2 x3 r Nr hf) (cwV 3 X.2.2.2.2.1 (gV hn im_yX9_give se_yX9_give iniRX9 cd_yX9_give) rfl rfl rfl (by decide +kernel) hR) ⟨fun a U g mk q => ⟨q.1, q.2.calling⟩, va_recv hK.1 (hW.at (c := 20) (i := 0) Nat.zero_lt_one rfl) (ci := 9) (q0 := 0) rfl rfl, fun U hU hw => ⟨rfl, PB.at hW hK hZ hS hU hw⟩⟩ rfl rfl hsz rfl (lv_room h8) hdg hC) hS (fun _ _ h => h) (fun _ h => h) (fun r' u t H1 locs1 ht hvm hw hB hz1 hk1 hS1 => ?_)
  obtain ⟨rfl, rfl⟩ := hw
  rw [ht] at hB
  exact kk H1 locs1 hB hS1
def f_yX9_start (N : Mem) (x1 : Int32) : Option (Int32 × Mem) := ob1 (f_yX9_in x1 0 5) (fun r2 => (if r2 = 0 then (some ((-1), N)) else gd (¬ (x1 < 0 ∨ 6 ≤ x1.toNatClampNeg)) ((if (N 31 0 x1.toNatClampNeg) = 1 then lt1 (mp N 31 0 x1.toNatClampNeg 2) (fun N6 => (some (1, N6))) else (some ((-2), N))))))
set_option maxRecDepth 100000 in
set_option maxHeartbeats 4000000 in
theorem c_yX9_start (l : Launch) (E : Lay) (ad : Nat → Nat → Nat) (M N : Mem) (x1 : Int32) (r : Int32) (Nr : Mem) (hf : f_yX9_start N x1 = some (r, Nr)) : Met l yX9_start (Cond.code yX9_start cX9_start 2 (some .int) :: TB) (rmm 1 22) (va_Pc [.ref (ad 20 0), .int x1] (PB E ad (M, N))) (Qi E ad r (M, Nr)) 0 0 (ow E) := by
  refine Met.ofW (cc := cX9_start) (maxL := 2) (ret := (some .int)) (by decide) rfl ?_
  intro p e s m args below meth c s₁ B hml hv
  obtain ⟨rfl, hW, hK, hZ⟩ := hv
  have hT : ∀ w ∈ TB, w.before _ s = true := fun w h => atoms_spec (ws := (Cond.code yX9_start cX9_start 2 (some .int) :: TB)) B.pre w (List.mem_cons_of_mem _ h)
  have X : CX p s m _ meth c cX9_start 2 (some .int) RX9 := ⟨B.exec, B.bytes, hml, findClass_of_methodNamed B.named, hT, B.returns, B.notSynchronized⟩
  obtain ⟨hx, hb, hml, hown, hT, hr, hlk⟩ := id X
  have hS : va_S (ow E) s.heap s.heap [] := va_S.rf
  have hl := lv_entry ([.ref (ad 20 0), .int x1]) (n := 2) (Nat.le_of_ble_eq_true rfl)
  rw [lg_entry_eq]
  generalize (lg_sl ([.ref (ad 20 0), .int x1]) ++ List.replicate (2 - (lg_sl ([.ref (ad 20 0), .int x1])).length) Slot.unset).toArray = ls at hl ⊢
  have hl : lv_has ls 2 [(0, .ref (ad 20 0)), (1, .int x1)] := hl
  unfold f_yX9_start at hf
  refine lv_iload_n hx hb dX9_start_0 rfl (lv_at hl 1 rfl) ?_
  refine lv_iconst (v := 0) hx hb dX9_start_1 (by decide) ?_
  refine lv_iconst (v := 5) hx hb dX9_start_2 (by decide) ?_
  obtain ⟨r2, h1, hf⟩ := ob1_some hf
  refine k_yX9_in X hK hZ hW hS hl.1 h1 mlRX9_114 ⟨Nat.le_of_ble_eq_true rfl, Nat.le_of_ble_eq_true rfl⟩ ⟨Nat.le_of_ble_eq_true rfl, Nat.le_of_ble_eq_true rfl⟩ (Nat.le_of_ble_eq_true rfl) dX9_start_3 (fun H locs hW hS => ?_)
  refine lv_if_ne (tgt := 11) hx hb dX9_start_6 (by decide) (fun c3 => ?_) (fun c3 => ?_)
  · rw [if_neg c3] at hf
    refine lv_aload_n hx hb dX9_start_11 rfl (lv_at hl 0 rfl) ?_
    refine g_9_12 X hK hW flRX9_40 dX9_start_12 ?_
    refine lv_iload_n hx hb dX9_start_15 rfl (lv_at hl 1 rfl) ?_
    obtain ⟨b4, hf⟩ := gd_some hf
    refine al_31 X hK hW b4 dX9_start_16 ?_
    refine lv_iconst (v := 1) hx hb dX9_start_17 (by decide) ?_
    refine lv_icmp_eq (tgt := 24) hx hb dX9_start_18 (by decide) (fun c5 => ?_) (fun c5 => ?_)
    · rw [if_pos c5] at hf
      refine lv_aload_n hx hb dX9_start_24 rfl (lv_at hl 0 rfl) ?_
      refine g_9_12 X hK hW flRX9_40 dX9_start_25 ?_
      refine lv_iload_n hx hb dX9_start_28 rfl (lv_at hl 1 rfl) ?_
      refine lv_iconst (v := 2) hx hb dX9_start_29 (by decide) ?_
      obtain ⟨N6, hN6, hf⟩ := lt1_some hf
      refine as_31 X hK hW hS b4 hN6 dX9_start_30 (fun H locs hW hS => ?_)
      refine lv_iconst (v := 1) hx hb dX9_start_31 (by decide) ?_
      obtain ⟨rfl, rfl⟩ := sp2 hf
      exact e_i ⟨hx, hb, hr, hlk⟩ hW hS dX9_start_32
    · rw [if_neg c5] at hf
      refine lv_bipush (v := -2) hx hb dX9_start_21 (by decide) ?_
      obtain ⟨rfl, rfl⟩ := sp2 hf
      exact e_i ⟨hx, hb, hr, hlk⟩ hW hS dX9_start_23
  · rw [if_pos c3] at hf
    refine lv_iconst (v := -1) hx hb dX9_start_9 (by decide) ?_
    obtain ⟨rfl, rfl⟩ := sp2 hf
    exact e_i ⟨hx, hb, hr, hlk⟩ hW hS dX9_start_10
set_option maxRecDepth 100000 in
set_option maxHeartbeats 4000000 in
theorem k_yX9_start {p : Program} {l : Launch} {e : Env} {R : Room} {s : State} {m : MethodId} {args : Array Value} {below : List Frame} {meth : Method} {c : Code} {H : Heap} {locs : List Loc} {cells slots : Nat} {Q : State → Prop} {cc : ByteArray} {pc nL index : Nat} {ret : Option FieldType} {own : String} {ls : Array Slot} {rest : List Value} {E : Lay} {ad : Nat → Nat → Nat} {M N : Mem} (X : CX p s m args meth c cc nL ret own) (hK : KK E s) (hZ : ZZ E s) (hW : WD E ad (M, N) H) (hS : va_S (ow E) s.heap H locs) (hsz : ls.size = nL) {x1 : Int32} {r : Int32} {Nr : Mem} (hf : f_yX9_start N x1 = some (r, Nr)) (hn : Cond.methodLink own index yX9_start ∈ TB) (hR : 1 + 1 ≤ R.frames ∧ 8 + (2 + 11) + 22 ≤ R.locals) (hC : cells ≤ R.cells ∧ slots ≤ R.slots) (h8 : (rest.map fun v => v.category).sum ≤ 8) (hdg : decode cc pc = .ok (.invokevirtual index, 3)) (kk : ∀ (H1 : Heap) (locs1 : List Loc), WD E ad (M, Nr) H1 → va_S (ow E) s.heap H1 locs1 → W p l e R s m args below meth c H1 locs1 cells slots Q (F0 m (pc + 3) ls (.int r :: rest))) : W p l e R s m args below meth c H locs cells slots Q (F0 m pc ls (.int x1 :: .ref (ad 20 0) :: rest)) := by
  refine va_calli (va_runV (C := RX9) (As := [.int x1]) (rest := rest) ⟨X.1, X.2.1, X.2.2.1, X.2.2.2.1, X.2.2.2.2.1⟩ (c_yX9_start l E ad M N x1 r Nr hf) (cwV 1 X.2.2.2.2.1 (gV hn im_yX9_start se_yX9_start iniRX9 cd_yX9_start) rfl rfl rfl (by decide +kernel) hR) ⟨fun a U g mk q => ⟨q.1, q.2.calling⟩, va_recv hK.1 (hW.at (c := 20) (i := 0) Nat.zero_lt_one rfl) (ci := 9) (q0 := 0) rfl rfl, fun U hU hw => ⟨rfl, PB.at hW hK hZ hS hU hw⟩⟩ rfl rfl hsz rfl (lv_room h8) hdg hC) hS (fun _ _ h => h) (fun _ h => h) (fun r' u t H1 locs1 ht hvm hw hB hz1 hk1 hS1 => ?_)
  obtain ⟨rfl, rfl⟩ := hw
  rw [ht] at hB
  exact kk H1 locs1 hB hS1
def f_yX9_getIn (N : Mem) (x1 : Int32) : Option Mem := gd (¬ (x1 < 0 ∨ 6 ≤ x1.toNatClampNeg)) (gd (¬ ((N 39 0 x1.toNatClampNeg) < 0 ∨ 32 ≤ (N 39 0 x1.toNatClampNeg).toNatClampNeg)) ((if (N 25 0 (N 39 0 x1.toNatClampNeg).toNatClampNeg) = (-4) then lt1 (mp N 25 0 (N 39 0 x1.toNatClampNeg).toNatClampNeg x1) (fun N7 => lt1 (mp N7 26 0 (N 39 0 x1.toNatClampNeg).toNatClampNeg (N7 41 0 x1.toNatClampNeg)) (fun N8 => lt1 (mp N8 31 0 x1.toNatClampNeg 2) (fun N9 => lt1 (mp N9 39 0 x1.toNatClampNeg (-4)) (fun N10 => (some N10))))) else lt1 (mp N 31 0 x1.toNatClampNeg 3) (fun N4 => lt1 (mp N4 42 0 x1.toNatClampNeg (N4 20 0 6)) (fun N5 => lt1 (mp N5 20 0 6 ((N5 20 0 6) + 1)) (fun N6 => (some N6)))))))
set_option maxRecDepth 100000 in
set_option maxHeartbeats 4000000 in
theorem c_yX9_getIn (l : Launch) (E : Lay) (ad : Nat → Nat → Nat) (M N : Mem) (x1 : Int32) (Nr : Mem) (hf : f_yX9_getIn N x1 = some Nr) : Met l yX9_getIn (Cond.code yX9_getIn cX9_getIn 3 none :: TB) (rmm 0 0) (va_Pc [.ref (ad 20 0), .int x1] (PB E ad (M, N))) (Qv E ad (M, Nr)) 0 0 (ow E) := by
  refine Met.ofW (cc := cX9_getIn) (maxL := 3) (ret := none) (by decide) rfl ?_
  intro p e s m args below meth c s₁ B hml hv
  obtain ⟨rfl, hW, hK, hZ⟩ := hv
  have hT : ∀ w ∈ TB, w.before _ s = true := fun w h => atoms_spec (ws := (Cond.code yX9_getIn cX9_getIn 3 none :: TB)) B.pre w (List.mem_cons_of_mem _ h)
  have X : CX p s m _ meth c cX9_getIn 3 none RX9 := ⟨B.exec, B.bytes, hml, findClass_of_methodNamed B.named, hT, B.returns, B.notSynchronized⟩
  obtain ⟨hx, hb, hml, hown, hT, hr, hlk⟩ := id X
  have hS : va_S (ow E) s.heap s.heap [] := va_S.rf
  have hl := lv_entry ([.ref (ad 20 0), .int x1]) (n := 3) (Nat.le_of_ble_eq_true rfl)
  rw [lg_entry_eq]
  generalize (lg_sl ([.ref (ad 20 0), .int x1]) ++ List.replicate (3 - (lg_sl ([.ref (ad 20 0), .int x1])).length) Slot.unset).toArray = ls at hl ⊢
  have hl : lv_has ls 3 [(0, .ref (ad 20 0)), (1, .int x1)] := hl
  unfold f_yX9_getIn at hf
  refine lv_aload_n hx hb dX9_getIn_0 rfl (lv_at hl 0 rfl) ?_
  refine g_9_20 X hK hW flRX9_65 dX9_getIn_1 ?_
  refine lv_iload_n hx hb dX9_getIn_4 rfl (lv_at hl 1 rfl) ?_
  obtain ⟨b1, hf⟩ := gd_some hf
  refine al_39 X hK hW b1 dX9_getIn_5 ?_
  refine lv_istore_n (lv' := [(2, .int (N 39 0 x1.toNatClampNeg)), (0, .ref (ad 20 0)), (1, .int x1)]) hx hb dX9_getIn_6 rfl hl (by decide) rfl (fun ls hl => ?_)
  refine lv_aload_n hx hb dX9_getIn_7 rfl (lv_at hl 1 rfl) ?_
  refine g_9_5 X hK hW flRX9_22 dX9_getIn_8 ?_
  refine lv_iload_n hx hb dX9_getIn_11 rfl (lv_at hl 0 rfl) ?_
  obtain ⟨b2, hf⟩ := gd_some hf
  refine al_25 X hK hW b2 dX9_getIn_12 ?_
  refine lv_bipush (v := -4) hx hb dX9_getIn_13 (by decide) ?_
  refine lv_icmp_ne (tgt := 53) hx hb dX9_getIn_15 (by decide) (fun c3 => ?_) (fun c3 => ?_)
  · rw [if_neg c3] at hf
    refine lv_aload_n hx hb dX9_getIn_53 rfl (lv_at hl 1 rfl) ?_
    refine g_9_12 X hK hW flRX9_40 dX9_getIn_54 ?_
    refine lv_iload_n hx hb dX9_getIn_57 rfl (lv_at hl 2 rfl) ?_
    refine lv_iconst (v := 3) hx hb dX9_getIn_58 (by decide) ?_
    obtain ⟨N4, hN4, hf⟩ := lt1_some hf
    refine as_31 X hK hW hS b1 hN4 dX9_getIn_59 (fun H locs hW hS => ?_)
    refine lv_aload_n hx hb dX9_getIn_60 rfl (lv_at hl 1 rfl) ?_
    refine g_9_23 X hK hW flRX9_74 dX9_getIn_61 ?_
    refine lv_iload_n hx hb dX9_getIn_64 rfl (lv_at hl 2 rfl) ?_
    refine lv_aload_n hx hb dX9_getIn_65 rfl (lv_at hl 1 rfl) ?_
    refine g_9_36 X hK hW flRX9_159 dX9_getIn_66 ?_
    obtain ⟨N5, hN5, hf⟩ := lt1_some hf
    refine as_42 X hK hW hS b1 hN5 dX9_getIn_69 (fun H locs hW hS => ?_)
    refine lv_aload_n hx hb dX9_getIn_70 rfl (lv_at hl 1 rfl) ?_
    refine lv_dup hx hb dX9_getIn_71 rfl ?_
    refine g_9_36 X hK hW flRX9_159 dX9_getIn_72 ?_
    refine lv_iconst (v := 1) hx hb dX9_getIn_75 (by decide) ?_
    refine lv_iadd hx hb dX9_getIn_76 ?_
    obtain ⟨N6, hN6, hf⟩ := lt1_some hf
    refine p_9_36 X hK hW hS hN6 flRX9_159 dX9_getIn_77 (fun H locs hW hS => ?_)
    obtain rfl := sp1 hf
    exact e_v ⟨hx, hb, hr, hlk⟩ hW hS dX9_getIn_80
  · rw [if_pos c3] at hf
    refine lv_aload_n hx hb dX9_getIn_18 rfl (lv_at hl 1 rfl) ?_
    refine g_9_5 X hK hW flRX9_22 dX9_getIn_19 ?_
    refine lv_iload_n hx hb dX9_getIn_22 rfl (lv_at hl 0 rfl) ?_
    refine lv_iload_n hx hb dX9_getIn_23 rfl (lv_at hl 2 rfl) ?_
    obtain ⟨N7, hN7, hf⟩ := lt1_some hf
    refine as_25 X hK hW hS b2 hN7 dX9_getIn_24 (fun H locs hW hS => ?_)
    refine lv_aload_n hx hb dX9_getIn_25 rfl (lv_at hl 1 rfl) ?_
    refine g_9_6 X hK hW flRX9_25 dX9_getIn_26 ?_
    refine lv_iload_n hx hb dX9_getIn_29 rfl (lv_at hl 0 rfl) ?_
    refine lv_aload_n hx hb dX9_getIn_30 rfl (lv_at hl 1 rfl) ?_
    refine g_9_22 X hK hW flRX9_71 dX9_getIn_31 ?_
    refine lv_iload_n hx hb dX9_getIn_34 rfl (lv_at hl 2 rfl) ?_
    refine al_41 X hK hW b1 dX9_getIn_35 ?_
    obtain ⟨N8, hN8, hf⟩ := lt1_some hf
    refine as_26 X hK hW hS b2 hN8 dX9_getIn_36 (fun H locs hW hS => ?_)
    refine lv_aload_n hx hb dX9_getIn_37 rfl (lv_at hl 1 rfl) ?_
    refine g_9_12 X hK hW flRX9_40 dX9_getIn_38 ?_
    refine lv_iload_n hx hb dX9_getIn_41 rfl (lv_at hl 2 rfl) ?_
    refine lv_iconst (v := 2) hx hb dX9_getIn_42 (by decide) ?_
    obtain ⟨N9, hN9, hf⟩ := lt1_some hf
    refine as_31 X hK hW hS b1 hN9 dX9_getIn_43 (fun H locs hW hS => ?_)
    refine lv_aload_n hx hb dX9_getIn_44 rfl (lv_at hl 1 rfl) ?_
    refine g_9_20 X hK hW flRX9_65 dX9_getIn_45 ?_
    refine lv_iload_n hx hb dX9_getIn_48 rfl (lv_at hl 2 rfl) ?_
    refine lv_bipush (v := -4) hx hb dX9_getIn_49 (by decide) ?_
    obtain ⟨N10, hN10, hf⟩ := lt1_some hf
    refine as_39 X hK hW hS b1 hN10 dX9_getIn_51 (fun H locs hW hS => ?_)
    obtain rfl := sp1 hf
    exact e_v ⟨hx, hb, hr, hlk⟩ hW hS dX9_getIn_52
set_option maxRecDepth 100000 in
set_option maxHeartbeats 4000000 in
theorem k_yX9_getIn {p : Program} {l : Launch} {e : Env} {R : Room} {s : State} {m : MethodId} {args : Array Value} {below : List Frame} {meth : Method} {c : Code} {H : Heap} {locs : List Loc} {cells slots : Nat} {Q : State → Prop} {cc : ByteArray} {pc nL index : Nat} {ret : Option FieldType} {own : String} {ls : Array Slot} {rest : List Value} {E : Lay} {ad : Nat → Nat → Nat} {M N : Mem} (X : CX p s m args meth c cc nL ret own) (hK : KK E s) (hZ : ZZ E s) (hW : WD E ad (M, N) H) (hS : va_S (ow E) s.heap H locs) (hsz : ls.size = nL) {x1 : Int32} {Nr : Mem} (hf : f_yX9_getIn N x1 = some Nr) (hn : Cond.methodLink own index yX9_getIn ∈ TB) (hR : 0 + 1 ≤ R.frames ∧ 8 + (3 + 11) + 0 ≤ R.locals) (hC : cells ≤ R.cells ∧ slots ≤ R.slots) (h8 : (rest.map fun v => v.category).sum ≤ 8) (hdg : decode cc pc = .ok (.invokevirtual index, 3)) (kk : ∀ (H1 : Heap) (locs1 : List Loc), WD E ad (M, Nr) H1 → va_S (ow E) s.heap H1 locs1 → W p l e R s m args below meth c H1 locs1 cells slots Q (F0 m (pc + 3) ls (rest))) : W p l e R s m args below meth c H locs cells slots Q (F0 m pc ls (.int x1 :: .ref (ad 20 0) :: rest)) := by
  refine va_callv (va_runV (C := RX9) (As := [.int x1]) (rest := rest) ⟨X.1, X.2.1, X.2.2.1, X.2.2.2.1, X.2.2.2.2.1⟩ (c_yX9_getIn l E ad M N x1 Nr hf) (cwV 1 X.2.2.2.2.1 (gV hn im_yX9_getIn se_yX9_getIn iniRX9 cd_yX9_getIn) rfl rfl rfl (by decide +kernel) hR) ⟨fun a U g mk q => ⟨q.1, q.2.calling⟩, va_recv hK.1 (hW.at (c := 20) (i := 0) Nat.zero_lt_one rfl) (ci := 9) (q0 := 0) rfl rfl, fun U hU hw => ⟨rfl, PB.at hW hK hZ hS hU hw⟩⟩ rfl rfl hsz rfl (lv_room h8) hdg hC) hS (fun _ _ h => h) (fun _ h => h) (fun u t H1 locs1 ht hvm hw hB hz1 hk1 hS1 => ?_)
  subst hw
  rw [ht] at hB
  exact kk H1 locs1 hB hS1
def f_yX9_next_L6 : Nat → Mem → Int32 → Int32 → Int32 → Int32 → Option (Int32)
  | 0, _, _, _, _, _ => none
  | n + 1, N0, y1, y2, y3, y4 => (if 6 ≤ y4 then (some y3) else gd (¬ (y4 < 0 ∨ 6 ≤ y4.toNatClampNeg)) ((if (N0 31 0 y4.toNatClampNeg) = y1 then (if (N0 39 0 y4.toNatClampNeg) = y2 then (if y3 = (-4) then (f_yX9_next_L6 n N0 y1 y2 y4 (y4 + 1)) else (if (N0 20 0 4) = 0 then gd (¬ (y3 < 0 ∨ 6 ≤ y3.toNatClampNeg)) ((if (N0 42 0 y4.toNatClampNeg) < (N0 42 0 y3.toNatClampNeg) then (f_yX9_next_L6 n N0 y1 y2 y4 (y4 + 1)) else (f_yX9_next_L6 n N0 y1 y2 y3 (y4 + 1)))) else (if (N0 20 0 4) = 1 then gd (¬ (y3 < 0 ∨ 6 ≤ y3.toNatClampNeg)) ((if (N0 42 0 y4.toNatClampNeg) ≤ (N0 42 0 y3.toNatClampNeg) then (f_yX9_next_L6 n N0 y1 y2 y3 (y4 + 1)) else (f_yX9_next_L6 n N0 y1 y2 y4 (y4 + 1)))) else (f_yX9_next_L6 n N0 y1 y2 y3 (y4 + 1))))) else (f_yX9_next_L6 n N0 y1 y2 y3 (y4 + 1))) else (f_yX9_next_L6 n N0 y1 y2 y3 (y4 + 1)))))
def f_yX9_next (N : Mem) (x1 : Int32) (x2 : Int32) : Option (Int32) := (f_yX9_next_L6 70 N x1 x2 (-4) 0)
set_option maxRecDepth 100000 in
set_option maxHeartbeats 4000000 in
theorem l_yX9_next_6 (l : Launch) (E : Lay) (ad : Nat → Nat → Nat) (M : Mem) {p : Program} {e : Env} {s : State} {m : MethodId} {args : Array Value} {below : List Frame} {meth : Method} {c : Code} (X : CX p s m args meth c cX9_next 6 (some .int) RX9) (hK : KK E s) (hZ : ZZ E s) : ∀ (n : Nat) (N0 : Mem) (y1 : Int32) (y2 : Int32) (y3 : Int32) (y4 : Int32) (r : Int32) (hf : f_yX9_next_L6 n N0 y1 y2 y3 y4 = some r) (H : Heap) (locs : List Loc) (ls : Array Slot), WD E ad (M, N0) H → va_S (ow E) s.heap H locs → lv_has ls 6 [(0, .ref (ad 20 0)), (1, .int y1), (2, .int y2), (3, .int y3), (4, .int y4)] → W p l e (rmm 0 0) s m args below meth c H locs 0 0 (MQ below (Qi E ad r (M, N0)) args s 0 0 (ow E)) (F0 m 6 ls []) := by
  obtain ⟨hx, hb, hml, hown, hT, hr, hlk⟩ := id X
  intro n
  induction n with
  | zero =>
    intro N0 y1 y2 y3 y4 r hf
    rw [f_yX9_next_L6] at hf
    cases hf
  | succ n ih =>
    intro N0 y1 y2 y3 y4 r hf H locs ls hW hS hl
    rw [f_yX9_next_L6] at hf
    refine lv_iload hx hb dX9_next_6 (lv_at hl 4 rfl) ?_
    refine lv_bipush (v := 6) hx hb dX9_next_8 (by decide) ?_
    refine lv_icmp_ge (tgt := 113) hx hb dX9_next_10 (by decide) (fun c1 => ?_) (fun c1 => ?_)
    · rw [if_pos c1] at hf
      refine lv_iload_n hx hb dX9_next_113 rfl (lv_at hl 3 rfl) ?_
      obtain rfl := sp1 hf
      exact e_i ⟨hx, hb, hr, hlk⟩ hW hS dX9_next_114
    · rw [if_neg c1] at hf
      refine lv_aload_n hx hb dX9_next_13 rfl (lv_at hl 0 rfl) ?_
      refine g_9_12 X hK hW flRX9_40 dX9_next_14 ?_
      refine lv_iload hx hb dX9_next_17 (lv_at hl 4 rfl) ?_
      obtain ⟨b2, hf⟩ := gd_some hf
      refine al_31 X hK hW b2 dX9_next_19 ?_
      refine lv_iload_n hx hb dX9_next_20 rfl (lv_at hl 1 rfl) ?_
      refine lv_icmp_ne (tgt := 107) hx hb dX9_next_21 (by decide) (fun c3 => ?_) (fun c3 => ?_)
      · rw [if_neg c3] at hf
        refine lv_iinc (v := (y4 + 1)) (lv' := [(4, .int (y4 + 1)), (0, .ref (ad 20 0)), (1, .int y1), (2, .int y2), (3, .int y3)]) hx hb dX9_next_107 hl (k := 4) rfl rfl (by decide) rfl (fun ls hl => ?_)
        refine lv_goto (tgt := 6) hx hb dX9_next_110 (by decide) ?_
        exact ih _ _ _ _ _ _ hf _ _ _ hW hS (lv_sub hl [1, 2, 3, 4, 0] rfl)
      · rw [if_pos c3] at hf
        refine lv_aload_n hx hb dX9_next_24 rfl (lv_at hl 0 rfl) ?_
        refine g_9_20 X hK hW flRX9_65 dX9_next_25 ?_
        refine lv_iload hx hb dX9_next_28 (lv_at hl 4 rfl) ?_
        refine al_39 X hK hW b2 dX9_next_30 ?_
        refine lv_iload_n hx hb dX9_next_31 rfl (lv_at hl 2 rfl) ?_
        refine lv_icmp_ne (tgt := 107) hx hb dX9_next_32 (by decide) (fun c4 => ?_) (fun c4 => ?_)
        · rw [if_neg c4] at hf
          refine lv_iinc (v := (y4 + 1)) (lv' := [(4, .int (y4 + 1)), (0, .ref (ad 20 0)), (1, .int y1), (2, .int y2), (3, .int y3)]) hx hb dX9_next_107 hl (k := 4) rfl rfl (by decide) rfl (fun ls hl => ?_)
          refine lv_goto (tgt := 6) hx hb dX9_next_110 (by decide) ?_
          exact ih _ _ _ _ _ _ hf _ _ _ hW hS (lv_sub hl [1, 2, 3, 4, 0] rfl)
        · rw [if_pos c4] at hf
          refine lv_iload_n hx hb dX9_next_35 rfl (lv_at hl 3 rfl) ?_
          refine lv_bipush (v := -4) hx hb dX9_next_36 (by decide) ?_
          refine lv_icmp_eq (tgt := 88) hx hb dX9_next_38 (by decide) (fun c5 => ?_) (fun c5 => ?_)
          · rw [if_pos c5] at hf
            refine lv_iconst (v := 1) hx hb dX9_next_88 (by decide) ?_
            refine lv_goto (tgt := 93) hx hb dX9_next_89 (by decide) ?_
            refine lv_istore (lv' := [(5, .int 1), (0, .ref (ad 20 0)), (1, .int y1), (2, .int y2), (3, .int y3), (4, .int y4)]) hx hb dX9_next_93 hl (by decide) rfl (fun ls hl => ?_)
            refine lv_iload hx hb dX9_next_95 (lv_at hl 0 rfl) ?_
            refine lv_if_eq (tgt := 105) hx hb dX9_next_97 (by decide) (fun c6 => ?_) (fun c6 => ?_)
            · exact absurd c6 (by decide)
            · skip
              refine lv_iload hx hb dX9_next_100 (lv_at hl 5 rfl) ?_
              refine lv_goto (tgt := 106) hx hb dX9_next_102 (by decide) ?_
              refine lv_istore_n (lv' := [(3, .int y4), (5, .int 1), (0, .ref (ad 20 0)), (1, .int y1), (2, .int y2), (4, .int y4)]) hx hb dX9_next_106 rfl hl (by decide) rfl (fun ls hl => ?_)
              refine lv_iinc (v := (y4 + 1)) (lv' := [(4, .int (y4 + 1)), (3, .int y4), (5, .int 1), (0, .ref (ad 20 0)), (1, .int y1), (2, .int y2)]) hx hb dX9_next_107 hl (k := 5) rfl rfl (by decide) rfl (fun ls hl => ?_)
              refine lv_goto (tgt := 6) hx hb dX9_next_110 (by decide) ?_
              exact ih _ _ _ _ _ _ hf _ _ _ hW hS (lv_sub hl [3, 4, 5, 1, 0] rfl)
          · rw [if_neg c5] at hf
            refine lv_aload_n hx hb dX9_next_41 rfl (lv_at hl 0 rfl) ?_
            refine g_9_34 X hK hW flRX9_162 dX9_next_42 ?_
            refine lv_if_ne (tgt := 64) hx hb dX9_next_45 (by decide) (fun c7 => ?_) (fun c7 => ?_)
            · rw [if_neg c7] at hf
              refine lv_aload_n hx hb dX9_next_64 rfl (lv_at hl 0 rfl) ?_
              refine g_9_34 X hK hW flRX9_162 dX9_next_65 ?_
              refine lv_iconst (v := 1) hx hb dX9_next_68 (by decide) ?_
              refine lv_icmp_ne (tgt := 92) hx hb dX9_next_69 (by decide) (fun c8 => ?_) (fun c8 => ?_)
              · rw [if_neg c8] at hf
                refine lv_iconst (v := 0) hx hb dX9_next_92 (by decide) ?_
                refine lv_istore (lv' := [(5, .int 0), (0, .ref (ad 20 0)), (1, .int y1), (2, .int y2), (3, .int y3), (4, .int y4)]) hx hb dX9_next_93 hl (by decide) rfl (fun ls hl => ?_)
                refine lv_iload hx hb dX9_next_95 (lv_at hl 0 rfl) ?_
                refine lv_if_eq (tgt := 105) hx hb dX9_next_97 (by decide) (fun c9 => ?_) (fun c9 => ?_)
                · skip
                  refine lv_iload_n hx hb dX9_next_105 rfl (lv_at hl 4 rfl) ?_
                  refine lv_istore_n (lv' := [(3, .int y3), (5, .int 0), (0, .ref (ad 20 0)), (1, .int y1), (2, .int y2), (4, .int y4)]) hx hb dX9_next_106 rfl hl (by decide) rfl (fun ls hl => ?_)
                  refine lv_iinc (v := (y4 + 1)) (lv' := [(4, .int (y4 + 1)), (3, .int y3), (5, .int 0), (0, .ref (ad 20 0)), (1, .int y1), (2, .int y2)]) hx hb dX9_next_107 hl (k := 5) rfl rfl (by decide) rfl (fun ls hl => ?_)
                  refine lv_goto (tgt := 6) hx hb dX9_next_110 (by decide) ?_
                  exact ih _ _ _ _ _ _ hf _ _ _ hW hS (lv_sub hl [3, 4, 5, 1, 0] rfl)
                · exact absurd c9 (by decide)
              · rw [if_pos c8] at hf
                refine lv_aload_n hx hb dX9_next_72 rfl (lv_at hl 0 rfl) ?_
                refine g_9_23 X hK hW flRX9_74 dX9_next_73 ?_
                refine lv_iload hx hb dX9_next_76 (lv_at hl 4 rfl) ?_
                refine al_42 X hK hW b2 dX9_next_78 ?_
                refine lv_aload_n hx hb dX9_next_79 rfl (lv_at hl 0 rfl) ?_
                refine g_9_23 X hK hW flRX9_74 dX9_next_80 ?_
                refine lv_iload_n hx hb dX9_next_83 rfl (lv_at hl 3 rfl) ?_
                obtain ⟨b10, hf⟩ := gd_some hf
                refine al_42 X hK hW b10 dX9_next_84 ?_
                refine lv_icmp_le (tgt := 92) hx hb dX9_next_85 (by decide) (fun c11 => ?_) (fun c11 => ?_)
                · rw [if_pos c11] at hf
                  refine lv_iconst (v := 0) hx hb dX9_next_92 (by decide) ?_
                  refine lv_istore (lv' := [(5, .int 0), (0, .ref (ad 20 0)), (1, .int y1), (2, .int y2), (3, .int y3), (4, .int y4)]) hx hb dX9_next_93 hl (by decide) rfl (fun ls hl => ?_)
                  refine lv_iload hx hb dX9_next_95 (lv_at hl 0 rfl) ?_
                  refine lv_if_eq (tgt := 105) hx hb dX9_next_97 (by decide) (fun c12 => ?_) (fun c12 => ?_)
                  · skip
                    refine lv_iload_n hx hb dX9_next_105 rfl (lv_at hl 4 rfl) ?_
                    refine lv_istore_n (lv' := [(3, .int y3), (5, .int 0), (0, .ref (ad 20 0)), (1, .int y1), (2, .int y2), (4, .int y4)]) hx hb dX9_next_106 rfl hl (by decide) rfl (fun ls hl => ?_)
                    refine lv_iinc (v := (y4 + 1)) (lv' := [(4, .int (y4 + 1)), (3, .int y3), (5, .int 0), (0, .ref (ad 20 0)), (1, .int y1), (2, .int y2)]) hx hb dX9_next_107 hl (k := 5) rfl rfl (by decide) rfl (fun ls hl => ?_)
                    refine lv_goto (tgt := 6) hx hb dX9_next_110 (by decide) ?_
                    exact ih _ _ _ _ _ _ hf _ _ _ hW hS (lv_sub hl [3, 4, 5, 1, 0] rfl)
                  · exact absurd c12 (by decide)
                · rw [if_neg c11] at hf
                  refine lv_iconst (v := 1) hx hb dX9_next_88 (by decide) ?_
                  refine lv_goto (tgt := 93) hx hb dX9_next_89 (by decide) ?_
                  refine lv_istore (lv' := [(5, .int 1), (0, .ref (ad 20 0)), (1, .int y1), (2, .int y2), (3, .int y3), (4, .int y4)]) hx hb dX9_next_93 hl (by decide) rfl (fun ls hl => ?_)
                  refine lv_iload hx hb dX9_next_95 (lv_at hl 0 rfl) ?_
                  refine lv_if_eq (tgt := 105) hx hb dX9_next_97 (by decide) (fun c13 => ?_) (fun c13 => ?_)
                  · exact absurd c13 (by decide)
                  · skip
                    refine lv_iload hx hb dX9_next_100 (lv_at hl 5 rfl) ?_
                    refine lv_goto (tgt := 106) hx hb dX9_next_102 (by decide) ?_
                    refine lv_istore_n (lv' := [(3, .int y4), (5, .int 1), (0, .ref (ad 20 0)), (1, .int y1), (2, .int y2), (4, .int y4)]) hx hb dX9_next_106 rfl hl (by decide) rfl (fun ls hl => ?_)
                    refine lv_iinc (v := (y4 + 1)) (lv' := [(4, .int (y4 + 1)), (3, .int y4), (5, .int 1), (0, .ref (ad 20 0)), (1, .int y1), (2, .int y2)]) hx hb dX9_next_107 hl (k := 5) rfl rfl (by decide) rfl (fun ls hl => ?_)
                    refine lv_goto (tgt := 6) hx hb dX9_next_110 (by decide) ?_
                    exact ih _ _ _ _ _ _ hf _ _ _ hW hS (lv_sub hl [3, 4, 5, 1, 0] rfl)
            · rw [if_pos c7] at hf
              refine lv_aload_n hx hb dX9_next_48 rfl (lv_at hl 0 rfl) ?_
              refine g_9_23 X hK hW flRX9_74 dX9_next_49 ?_
              refine lv_iload hx hb dX9_next_52 (lv_at hl 4 rfl) ?_
              refine al_42 X hK hW b2 dX9_next_54 ?_
              refine lv_aload_n hx hb dX9_next_55 rfl (lv_at hl 0 rfl) ?_
              refine g_9_23 X hK hW flRX9_74 dX9_next_56 ?_
              refine lv_iload_n hx hb dX9_next_59 rfl (lv_at hl 3 rfl) ?_
              obtain ⟨b14, hf⟩ := gd_some hf
              refine al_42 X hK hW b14 dX9_next_60 ?_
              refine lv_icmp_lt (tgt := 88) hx hb dX9_next_61 (by decide) (fun c15 => ?_) (fun c15 => ?_)
              · rw [if_pos c15] at hf
                refine lv_iconst (v := 1) hx hb dX9_next_88 (by decide) ?_
                refine lv_goto (tgt := 93) hx hb dX9_next_89 (by decide) ?_
                refine lv_istore (lv' := [(5, .int 1), (0, .ref (ad 20 0)), (1, .int y1), (2, .int y2), (3, .int y3), (4, .int y4)]) hx hb dX9_next_93 hl (by decide) rfl (fun ls hl => ?_)
                refine lv_iload hx hb dX9_next_95 (lv_at hl 0 rfl) ?_
                refine lv_if_eq (tgt := 105) hx hb dX9_next_97 (by decide) (fun c16 => ?_) (fun c16 => ?_)
                · exact absurd c16 (by decide)
                · skip
                  refine lv_iload hx hb dX9_next_100 (lv_at hl 5 rfl) ?_
                  refine lv_goto (tgt := 106) hx hb dX9_next_102 (by decide) ?_
                  refine lv_istore_n (lv' := [(3, .int y4), (5, .int 1), (0, .ref (ad 20 0)), (1, .int y1), (2, .int y2), (4, .int y4)]) hx hb dX9_next_106 rfl hl (by decide) rfl (fun ls hl => ?_)
                  refine lv_iinc (v := (y4 + 1)) (lv' := [(4, .int (y4 + 1)), (3, .int y4), (5, .int 1), (0, .ref (ad 20 0)), (1, .int y1), (2, .int y2)]) hx hb dX9_next_107 hl (k := 5) rfl rfl (by decide) rfl (fun ls hl => ?_)
                  refine lv_goto (tgt := 6) hx hb dX9_next_110 (by decide) ?_
                  exact ih _ _ _ _ _ _ hf _ _ _ hW hS (lv_sub hl [3, 4, 5, 1, 0] rfl)
              · rw [if_neg c15] at hf
                refine lv_aload_n hx hb dX9_next_64 rfl (lv_at hl 0 rfl) ?_
                refine g_9_34 X hK hW flRX9_162 dX9_next_65 ?_
                refine lv_iconst (v := 1) hx hb dX9_next_68 (by decide) ?_
                refine lv_icmp_ne (tgt := 92) hx hb dX9_next_69 (by decide) (fun c17 => ?_) (fun c17 => ?_)
                · skip
                  refine lv_iconst (v := 0) hx hb dX9_next_92 (by decide) ?_
                  refine lv_istore (lv' := [(5, .int 0), (0, .ref (ad 20 0)), (1, .int y1), (2, .int y2), (3, .int y3), (4, .int y4)]) hx hb dX9_next_93 hl (by decide) rfl (fun ls hl => ?_)
                  refine lv_iload hx hb dX9_next_95 (lv_at hl 0 rfl) ?_
                  refine lv_if_eq (tgt := 105) hx hb dX9_next_97 (by decide) (fun c18 => ?_) (fun c18 => ?_)
                  · skip
                    refine lv_iload_n hx hb dX9_next_105 rfl (lv_at hl 4 rfl) ?_
                    refine lv_istore_n (lv' := [(3, .int y3), (5, .int 0), (0, .ref (ad 20 0)), (1, .int y1), (2, .int y2), (4, .int y4)]) hx hb dX9_next_106 rfl hl (by decide) rfl (fun ls hl => ?_)
                    refine lv_iinc (v := (y4 + 1)) (lv' := [(4, .int (y4 + 1)), (3, .int y3), (5, .int 0), (0, .ref (ad 20 0)), (1, .int y1), (2, .int y2)]) hx hb dX9_next_107 hl (k := 5) rfl rfl (by decide) rfl (fun ls hl => ?_)
                    refine lv_goto (tgt := 6) hx hb dX9_next_110 (by decide) ?_
                    exact ih _ _ _ _ _ _ hf _ _ _ hW hS (lv_sub hl [3, 4, 5, 1, 0] rfl)
                  · exact absurd c18 (by decide)
                · exfalso; have := q_eq (b := 0) (by decide) c7; have := q_eq (b := 1) (by decide) c17; omega
set_option maxRecDepth 100000 in
set_option maxHeartbeats 4000000 in
theorem c_yX9_next (l : Launch) (E : Lay) (ad : Nat → Nat → Nat) (M N : Mem) (x1 : Int32) (x2 : Int32) (r : Int32) (hf : f_yX9_next N x1 x2 = some r) : Met l yX9_next (Cond.code yX9_next cX9_next 6 (some .int) :: TB) (rmm 0 0) (va_Pc [.ref (ad 20 0), .int x1, .int x2] (PB E ad (M, N))) (Qi E ad r (M, N)) 0 0 (ow E) := by
  refine Met.ofW (cc := cX9_next) (maxL := 6) (ret := (some .int)) (by decide) rfl ?_
  intro p e s m args below meth c s₁ B hml hv
  obtain ⟨rfl, hW, hK, hZ⟩ := hv
  have hT : ∀ w ∈ TB, w.before _ s = true := fun w h => atoms_spec (ws := (Cond.code yX9_next cX9_next 6 (some .int) :: TB)) B.pre w (List.mem_cons_of_mem _ h)
  have X : CX p s m _ meth c cX9_next 6 (some .int) RX9 := ⟨B.exec, B.bytes, hml, findClass_of_methodNamed B.named, hT, B.returns, B.notSynchronized⟩
  obtain ⟨hx, hb, hml, hown, hT, hr, hlk⟩ := id X
  have hS : va_S (ow E) s.heap s.heap [] := va_S.rf
  have hl := lv_entry ([.ref (ad 20 0), .int x1, .int x2]) (n := 6) (Nat.le_of_ble_eq_true rfl)
  rw [lg_entry_eq]
  generalize (lg_sl ([.ref (ad 20 0), .int x1, .int x2]) ++ List.replicate (6 - (lg_sl ([.ref (ad 20 0), .int x1, .int x2])).length) Slot.unset).toArray = ls at hl ⊢
  have hl : lv_has ls 6 [(0, .ref (ad 20 0)), (1, .int x1), (2, .int x2)] := hl
  unfold f_yX9_next at hf
  refine lv_bipush (v := -4) hx hb dX9_next_0 (by decide) ?_
  refine lv_istore_n (lv' := [(3, .int (-4)), (0, .ref (ad 20 0)), (1, .int x1), (2, .int x2)]) hx hb dX9_next_2 rfl hl (by decide) rfl (fun ls hl => ?_)
  refine lv_iconst (v := 0) hx hb dX9_next_3 (by decide) ?_
  refine lv_istore (lv' := [(4, .int 0), (3, .int (-4)), (0, .ref (ad 20 0)), (1, .int x1), (2, .int x2)]) hx hb dX9_next_4 hl (by decide) rfl (fun ls hl => ?_)
  exact (l_yX9_next_6 l E ad M X hK hZ 70) _ _ _ _ _ _ hf _ _ _ hW hS (lv_sub hl [2, 3, 4, 1, 0] rfl)
set_option maxRecDepth 100000 in
set_option maxHeartbeats 4000000 in
theorem k_yX9_next {p : Program} {l : Launch} {e : Env} {R : Room} {s : State} {m : MethodId} {args : Array Value} {below : List Frame} {meth : Method} {c : Code} {H : Heap} {locs : List Loc} {cells slots : Nat} {Q : State → Prop} {cc : ByteArray} {pc nL index : Nat} {ret : Option FieldType} {own : String} {ls : Array Slot} {rest : List Value} {E : Lay} {ad : Nat → Nat → Nat} {M N : Mem} (X : CX p s m args meth c cc nL ret own) (hK : KK E s) (hZ : ZZ E s) (hW : WD E ad (M, N) H) (hS : va_S (ow E) s.heap H locs) (hsz : ls.size = nL) {x1 : Int32} {x2 : Int32} {r : Int32} (hf : f_yX9_next N x1 x2 = some r) (hn : Cond.methodLink own index yX9_next ∈ TB) (hR : 0 + 1 ≤ R.frames ∧ 8 + (6 + 11) + 0 ≤ R.locals) (hC : cells ≤ R.cells ∧ slots ≤ R.slots) (h8 : (rest.map fun v => v.category).sum ≤ 8) (hdg : decode cc pc = .ok (.invokevirtual index, 3)) (kk : ∀ (H1 : Heap) (locs1 : List Loc), WD E ad (M, N) H1 → va_S (ow E) s.heap H1 locs1 → W p l e R s m args below meth c H1 locs1 cells slots Q (F0 m (pc + 3) ls (.int r :: rest))) : W p l e R s m args below meth c H locs cells slots Q (F0 m pc ls (.int x2 :: .int x1 :: .ref (ad 20 0) :: rest)) := by
  refine va_calli (va_runV (C := RX9) (As := [.int x1, .int x2]) (rest := rest) ⟨X.1, X.2.1, X.2.2.1, X.2.2.2.1, X.2.2.2.2.1⟩ (c_yX9_next l E ad M N x1 x2 r hf) (cwV 2 X.2.2.2.2.1 (gV hn im_yX9_next se_yX9_next iniRX9 cd_yX9_next) rfl rfl rfl (by decide +kernel) hR) ⟨fun a U g mk q => ⟨q.1, q.2.calling⟩, va_recv hK.1 (hW.at (c := 20) (i := 0) Nat.zero_lt_one rfl) (ci := 9) (q0 := 0) rfl rfl, fun U hU hw => ⟨rfl, PB.at hW hK hZ hS hU hw⟩⟩ rfl rfl hsz rfl (lv_room h8) hdg hC) hS (fun _ _ h => h) (fun _ h => h) (fun r' u t H1 locs1 ht hvm hw hB hz1 hk1 hS1 => ?_)
  obtain ⟨rfl, rfl⟩ := hw
  rw [ht] at hB
  exact kk H1 locs1 hB hS1
