def f_yX8_thing (M : Mem) (x1 : Int32) (x2 : Int32) : Option (Int32 × Mem) := (if x1 < 0 then (some ((-1), M)) else (if x1 ≤ 7 then (if x1 < 4 then ob1 (f_yX4_isFull M) (fun r6 => (if r6 = 0 then ob2 (f_yX4_make M x1 0) (fun r11 M12 => (some (r11, M12))) else (some ((-3), M)))) else (if x2 < 0 then (some ((-1), M)) else (if x2 ≤ 12 then ob1 (f_yX4_isFull M) (fun r17 => (if r17 = 0 then ob2 (f_yX4_make M x1 x2) (fun r22 M23 => (some (r22, M23))) else (some ((-3), M)))) else (some ((-1), M))))) else (some ((-1), M))))
set_option maxRecDepth 100000 in
set_option maxHeartbeats 4000000 in
theorem c_yX8_thing (l : Launch) (E : Lay) (ad : Nat → Nat → Nat) (M N : Mem) (x1 : Int32) (x2 : Int32) (r : Int32) (Mr : Mem) (hf : f_yX8_thing M x1 x2 = some (r, Mr)) : Met l yX8_thing (Cond.code yX8_thing cX8_thing 4 (some .int) :: TB) (rmg 3 58 2 18) (va_Pc [.ref (ad 0 0), .int x1, .int x2] (PB E ad (M, N))) (Gi E ad r (Mr, N)) 2 18 (ow E) := by
  refine Met.ofW (cc := cX8_thing) (maxL := 4) (ret := (some .int)) (by decide) rfl ?_
  intro p e s m args below meth c s₁ B hml hv
  obtain ⟨rfl, hW, hK, hZ⟩ := hv
  have hT : ∀ w ∈ TB, w.before _ s = true := fun w h => atoms_spec (ws := (Cond.code yX8_thing cX8_thing 4 (some .int) :: TB)) B.pre w (List.mem_cons_of_mem _ h)
  have X : CX p s m _ meth c cX8_thing 4 (some .int) RX8 := ⟨B.exec, B.bytes, hml, findClass_of_methodNamed B.named, hT, B.returns, B.notSynchronized⟩
  obtain ⟨hx, hb, hml, hown, hT, hr, hlk⟩ := id X
  have hS : va_S (ow E) s.heap s.heap [] := va_S.rf
  have hs0 := hW.low
  have hl := lv_entry ([.ref (ad 0 0), .int x1, .int x2]) (n := 4) (Nat.le_of_ble_eq_true rfl)
  rw [lg_entry_eq]
  generalize (lg_sl ([.ref (ad 0 0), .int x1, .int x2]) ++ List.replicate (4 - (lg_sl ([.ref (ad 0 0), .int x1, .int x2])).length) Slot.unset).toArray = ls at hl ⊢
  have hl : lv_has ls 4 [(0, .ref (ad 0 0)), (1, .int x1), (2, .int x2)] := hl
  unfold f_yX8_thing at hf
  refine lv_iload_n hx hb dX8_thing_0 rfl (lv_at hl 1 rfl) ?_
  refine lv_if_lt (tgt := 10) hx hb dX8_thing_1 (by decide) (fun c1 => ?_) (fun c1 => ?_)
  · rw [if_pos c1] at hf
    refine lv_iconst (v := -1) hx hb dX8_thing_10 (by decide) ?_
    obtain ⟨rfl, rfl⟩ := sp2 hf
    refine W.widen (k := 2) (n := 18) (by omega) (by omega) ?_
    exact eg_i ⟨hx, hb, hr, hlk⟩ ext.rf hW hS dX8_thing_11
  · rw [if_neg c1] at hf
    refine lv_iload_n hx hb dX8_thing_4 rfl (lv_at hl 1 rfl) ?_
    refine lv_bipush (v := 7) hx hb dX8_thing_5 (by decide) ?_
    refine lv_icmp_le (tgt := 12) hx hb dX8_thing_7 (by decide) (fun c2 => ?_) (fun c2 => ?_)
    · rw [if_pos c2] at hf
      refine lv_iload_n hx hb dX8_thing_12 rfl (lv_at hl 1 rfl) ?_
      refine lv_iconst (v := 4) hx hb dX8_thing_13 (by decide) ?_
      refine lv_icmp_lt (tgt := 21) hx hb dX8_thing_14 (by decide) (fun c3 => ?_) (fun c3 => ?_)
      · rw [if_pos c3] at hf
        refine lv_iconst (v := 0) hx hb dX8_thing_21 (by decide) ?_
        refine lv_istore_n (lv' := [(3, .int 0), (0, .ref (ad 0 0)), (1, .int x1), (2, .int x2)]) hx hb dX8_thing_22 rfl hl (by decide) rfl (fun ls hl => ?_)
        refine lv_iload_n hx hb dX8_thing_23 rfl (lv_at hl 0 rfl) ?_
        refine lv_if_eq (tgt := 39) hx hb dX8_thing_24 (by decide) (fun c4 => ?_) (fun c4 => ?_)
        · skip
          refine lv_aload_n hx hb dX8_thing_39 rfl (lv_at hl 1 rfl) ?_
          refine g_8_0 X hK hW flRX8_10 dX8_thing_40 ?_
          obtain ⟨r6, h5, hf⟩ := ob1_some hf
          refine k_yX4_isFull X hK hZ hW hS hl.1 h5 mlRX8_52 ⟨Nat.le_of_ble_eq_true rfl, Nat.le_of_ble_eq_true rfl⟩ ⟨Nat.le_of_ble_eq_true rfl, Nat.le_of_ble_eq_true rfl⟩ (Nat.le_of_ble_eq_true rfl) dX8_thing_43 (fun H locs hW hS => ?_)
          refine lv_if_eq (tgt := 54) hx hb dX8_thing_46 (by decide) (fun c7 => ?_) (fun c7 => ?_)
          · rw [if_pos c7] at hf
            refine lv_aload_n hx hb dX8_thing_54 rfl (lv_at hl 1 rfl) ?_
            refine g_8_0 X hK hW flRX8_10 dX8_thing_55 ?_
            refine lv_iload_n hx hb dX8_thing_58 rfl (lv_at hl 2 rfl) ?_
            refine lv_iload_n hx hb dX8_thing_59 rfl (lv_at hl 0 rfl) ?_
            refine lv_if_eq (tgt := 67) hx hb dX8_thing_60 (by decide) (fun c8 => ?_) (fun c8 => ?_)
            · skip
              refine lv_iconst (v := 0) hx hb dX8_thing_67 (by decide) ?_
              obtain ⟨r11, M12, h9, hf⟩ := ob2_some hf
              refine k_yX4_make X hK hZ hW hS hl.1 h9 mlRX8_56 ⟨Nat.le_of_ble_eq_true rfl, Nat.le_of_ble_eq_true rfl⟩ ⟨Nat.le_of_ble_eq_true rfl, Nat.le_of_ble_eq_true rfl⟩ (Nat.le_of_ble_eq_true rfl) dX8_thing_68 (fun ad10 H locs hEad10 hW hS => ?_)
              have hl : lv_has ls 4 [(3, .int 0), (0, .ref (ad10 0 0)), (1, .int x1), (2, .int x2)] := by rw [hEad10 0 0 (by decide) (by decide)]; exact hl
              obtain ⟨rfl, rfl⟩ := sp2 hf
              exact eg_i ⟨hx, hb, hr, hlk⟩ hEad10 hW hS dX8_thing_71
            · exact absurd c8 (by decide)
          · rw [if_neg c7] at hf
            refine lv_bipush (v := -3) hx hb dX8_thing_49 (by decide) ?_
            refine lv_goto (tgt := 71) hx hb dX8_thing_51 (by decide) ?_
            obtain ⟨rfl, rfl⟩ := sp2 hf
            refine W.widen (k := 2) (n := 18) (by omega) (by omega) ?_
            exact eg_i ⟨hx, hb, hr, hlk⟩ ext.rf hW hS dX8_thing_71
        · exact absurd c4 (by decide)
      · rw [if_neg c3] at hf
        refine lv_iconst (v := 1) hx hb dX8_thing_17 (by decide) ?_
        refine lv_goto (tgt := 22) hx hb dX8_thing_18 (by decide) ?_
        refine lv_istore_n (lv' := [(3, .int 1), (0, .ref (ad 0 0)), (1, .int x1), (2, .int x2)]) hx hb dX8_thing_22 rfl hl (by decide) rfl (fun ls hl => ?_)
        refine lv_iload_n hx hb dX8_thing_23 rfl (lv_at hl 0 rfl) ?_
        refine lv_if_eq (tgt := 39) hx hb dX8_thing_24 (by decide) (fun c13 => ?_) (fun c13 => ?_)
        · exact absurd c13 (by decide)
        · skip
          refine lv_iload_n hx hb dX8_thing_27 rfl (lv_at hl 3 rfl) ?_
          refine lv_if_lt (tgt := 37) hx hb dX8_thing_28 (by decide) (fun c14 => ?_) (fun c14 => ?_)
          · rw [if_pos c14] at hf
            refine lv_iconst (v := -1) hx hb dX8_thing_37 (by decide) ?_
            obtain ⟨rfl, rfl⟩ := sp2 hf
            refine W.widen (k := 2) (n := 18) (by omega) (by omega) ?_
            exact eg_i ⟨hx, hb, hr, hlk⟩ ext.rf hW hS dX8_thing_38
          · rw [if_neg c14] at hf
            refine lv_iload_n hx hb dX8_thing_31 rfl (lv_at hl 3 rfl) ?_
            refine lv_bipush (v := 12) hx hb dX8_thing_32 (by decide) ?_
            refine lv_icmp_le (tgt := 39) hx hb dX8_thing_34 (by decide) (fun c15 => ?_) (fun c15 => ?_)
            · rw [if_pos c15] at hf
              refine lv_aload_n hx hb dX8_thing_39 rfl (lv_at hl 1 rfl) ?_
              refine g_8_0 X hK hW flRX8_10 dX8_thing_40 ?_
              obtain ⟨r17, h16, hf⟩ := ob1_some hf
              refine k_yX4_isFull X hK hZ hW hS hl.1 h16 mlRX8_52 ⟨Nat.le_of_ble_eq_true rfl, Nat.le_of_ble_eq_true rfl⟩ ⟨Nat.le_of_ble_eq_true rfl, Nat.le_of_ble_eq_true rfl⟩ (Nat.le_of_ble_eq_true rfl) dX8_thing_43 (fun H locs hW hS => ?_)
              refine lv_if_eq (tgt := 54) hx hb dX8_thing_46 (by decide) (fun c18 => ?_) (fun c18 => ?_)
              · rw [if_pos c18] at hf
                refine lv_aload_n hx hb dX8_thing_54 rfl (lv_at hl 1 rfl) ?_
                refine g_8_0 X hK hW flRX8_10 dX8_thing_55 ?_
                refine lv_iload_n hx hb dX8_thing_58 rfl (lv_at hl 2 rfl) ?_
                refine lv_iload_n hx hb dX8_thing_59 rfl (lv_at hl 0 rfl) ?_
                refine lv_if_eq (tgt := 67) hx hb dX8_thing_60 (by decide) (fun c19 => ?_) (fun c19 => ?_)
                · exact absurd c19 (by decide)
                · skip
                  refine lv_iload_n hx hb dX8_thing_63 rfl (lv_at hl 3 rfl) ?_
                  refine lv_goto (tgt := 68) hx hb dX8_thing_64 (by decide) ?_
                  obtain ⟨r22, M23, h20, hf⟩ := ob2_some hf
                  refine k_yX4_make X hK hZ hW hS hl.1 h20 mlRX8_56 ⟨Nat.le_of_ble_eq_true rfl, Nat.le_of_ble_eq_true rfl⟩ ⟨Nat.le_of_ble_eq_true rfl, Nat.le_of_ble_eq_true rfl⟩ (Nat.le_of_ble_eq_true rfl) dX8_thing_68 (fun ad21 H locs hEad21 hW hS => ?_)
                  have hl : lv_has ls 4 [(3, .int 1), (0, .ref (ad21 0 0)), (1, .int x1), (2, .int x2)] := by rw [hEad21 0 0 (by decide) (by decide)]; exact hl
                  obtain ⟨rfl, rfl⟩ := sp2 hf
                  exact eg_i ⟨hx, hb, hr, hlk⟩ hEad21 hW hS dX8_thing_71
              · rw [if_neg c18] at hf
                refine lv_bipush (v := -3) hx hb dX8_thing_49 (by decide) ?_
                refine lv_goto (tgt := 71) hx hb dX8_thing_51 (by decide) ?_
                obtain ⟨rfl, rfl⟩ := sp2 hf
                refine W.widen (k := 2) (n := 18) (by omega) (by omega) ?_
                exact eg_i ⟨hx, hb, hr, hlk⟩ ext.rf hW hS dX8_thing_71
            · rw [if_neg c15] at hf
              refine lv_iconst (v := -1) hx hb dX8_thing_37 (by decide) ?_
              obtain ⟨rfl, rfl⟩ := sp2 hf
              refine W.widen (k := 2) (n := 18) (by omega) (by omega) ?_
              exact eg_i ⟨hx, hb, hr, hlk⟩ ext.rf hW hS dX8_thing_38
    · rw [if_neg c2] at hf
      refine lv_iconst (v := -1) hx hb dX8_thing_10 (by decide) ?_
      obtain ⟨rfl, rfl⟩ := sp2 hf
      refine W.widen (k := 2) (n := 18) (by omega) (by omega) ?_
      exact eg_i ⟨hx, hb, hr, hlk⟩ ext.rf hW hS dX8_thing_11
set_option maxRecDepth 100000 in
set_option maxHeartbeats 4000000 in
theorem k_yX8_thing {p : Program} {l : Launch} {e : Env} {R : Room} {s : State} {m : MethodId} {args : Array Value} {below : List Frame} {meth : Method} {c : Code} {H : Heap} {locs : List Loc} {cells slots : Nat} {Q : State → Prop} {cc : ByteArray} {pc nL index : Nat} {ret : Option FieldType} {own : String} {ls : Array Slot} {rest : List Value} {E : Lay} {ad : Nat → Nat → Nat} {M N : Mem} (X : CX p s m args meth c cc nL ret own) (hK : KK E s) (hZ : ZZ E s) (hW : WD E ad (M, N) H) (hS : va_S (ow E) s.heap H locs) (hsz : ls.size = nL) {x1 : Int32} {x2 : Int32} {r : Int32} {Mr : Mem} (hf : f_yX8_thing M x1 x2 = some (r, Mr)) (hn : Cond.methodLink own index yX8_thing ∈ TB) (hR : 3 + 1 ≤ R.frames ∧ 8 + (4 + 11) + 58 ≤ R.locals) (hC : cells + 2 ≤ R.cells ∧ slots + 18 ≤ R.slots) (h8 : (rest.map fun v => v.category).sum ≤ 8) (hdg : decode cc pc = .ok (.invokevirtual index, 3)) (kk : ∀ (ad1 : Nat → Nat → Nat) (H1 : Heap) (locs1 : List Loc), ext ad ad1 → WD E ad1 (Mr, N) H1 → va_S (ow E) s.heap H1 locs1 → W p l e R s m args below meth c H1 locs1 (cells + 2) (slots + 18) Q (F0 m (pc + 3) ls (.int r :: rest))) : W p l e R s m args below meth c H locs cells slots Q (F0 m pc ls (.int x2 :: .int x1 :: .ref (ad 0 0) :: rest)) := by
  refine va_calli (va_runV (C := RX8) (As := [.int x1, .int x2]) (rest := rest) ⟨X.1, X.2.1, X.2.2.1, X.2.2.2.1, X.2.2.2.2.1⟩ (c_yX8_thing l E ad M N x1 x2 r Mr hf) (cwV 2 X.2.2.2.2.1 (gV hn im_yX8_thing se_yX8_thing iniRX8 cd_yX8_thing) rfl rfl rfl (by decide +kernel) hR) ⟨fun a U g mk q => ⟨q.1, q.2.calling⟩, va_recv hK.1 (hW.at (c := 0) (i := 0) Nat.zero_lt_one rfl) (ci := 8) (q0 := 0) rfl rfl, fun U hU hw => ⟨rfl, PB.at hW hK hZ hS hU hw⟩⟩ rfl rfl hsz rfl (lv_room h8) hdg hC) hS (fun _ _ h => h) (fun _ h => h) (fun r' u t H1 locs1 ht hvm hw hB hz1 hk1 hS1 => ?_)
  obtain ⟨ad1, P1⟩ := u
  obtain ⟨rfl, hu, hE⟩ := hw
  dsimp only at hu hE hB
  subst hu
  rw [ht] at hB
  exact kk ad1 H1 locs1 hE hB hS1
def f_yX8_trace (M : Mem) (x1 : Int32) : Option (Int32) := ob1 (f_yX4_bodyThatBegan M x1) (fun r2 => (some r2))
set_option maxRecDepth 100000 in
set_option maxHeartbeats 4000000 in
theorem c_yX8_trace (l : Launch) (E : Lay) (ad : Nat → Nat → Nat) (M N : Mem) (x1 : Int32) (r : Int32) (hf : f_yX8_trace M x1 = some r) : Met l yX8_trace (Cond.code yX8_trace cX8_trace 2 (some .int) :: TB) (rmm 2 42) (va_Pc [.ref (ad 0 0), .int x1] (PB E ad (M, N))) (Qi E ad r (M, N)) 0 0 (ow E) := by
  refine Met.ofW (cc := cX8_trace) (maxL := 2) (ret := (some .int)) (by decide) rfl ?_
  intro p e s m args below meth c s₁ B hml hv
  obtain ⟨rfl, hW, hK, hZ⟩ := hv
  have hT : ∀ w ∈ TB, w.before _ s = true := fun w h => atoms_spec (ws := (Cond.code yX8_trace cX8_trace 2 (some .int) :: TB)) B.pre w (List.mem_cons_of_mem _ h)
  have X : CX p s m _ meth c cX8_trace 2 (some .int) RX8 := ⟨B.exec, B.bytes, hml, findClass_of_methodNamed B.named, hT, B.returns, B.notSynchronized⟩
  obtain ⟨hx, hb, hml, hown, hT, hr, hlk⟩ := id X
  have hS : va_S (ow E) s.heap s.heap [] := va_S.rf
  have hl := lv_entry ([.ref (ad 0 0), .int x1]) (n := 2) (Nat.le_of_ble_eq_true rfl)
  rw [lg_entry_eq]
  generalize (lg_sl ([.ref (ad 0 0), .int x1]) ++ List.replicate (2 - (lg_sl ([.ref (ad 0 0), .int x1])).length) Slot.unset).toArray = ls at hl ⊢
  have hl : lv_has ls 2 [(0, .ref (ad 0 0)), (1, .int x1)] := hl
  unfold f_yX8_trace at hf
  refine lv_aload_n hx hb dX8_trace_0 rfl (lv_at hl 0 rfl) ?_
  refine g_8_0 X hK hW flRX8_10 dX8_trace_1 ?_
  refine lv_iload_n hx hb dX8_trace_4 rfl (lv_at hl 1 rfl) ?_
  obtain ⟨r2, h1, hf⟩ := ob1_some hf
  refine k_yX4_bodyThatBegan X hK hZ hW hS hl.1 h1 mlRX8_99 ⟨Nat.le_of_ble_eq_true rfl, Nat.le_of_ble_eq_true rfl⟩ ⟨Nat.le_of_ble_eq_true rfl, Nat.le_of_ble_eq_true rfl⟩ (Nat.le_of_ble_eq_true rfl) dX8_trace_5 (fun H locs hW hS => ?_)
  obtain rfl := sp1 hf
  exact e_i ⟨hx, hb, hr, hlk⟩ hW hS dX8_trace_8
set_option maxRecDepth 100000 in
set_option maxHeartbeats 4000000 in
theorem k_yX8_trace {p : Program} {l : Launch} {e : Env} {R : Room} {s : State} {m : MethodId} {args : Array Value} {below : List Frame} {meth : Method} {c : Code} {H : Heap} {locs : List Loc} {cells slots : Nat} {Q : State → Prop} {cc : ByteArray} {pc nL index : Nat} {ret : Option FieldType} {own : String} {ls : Array Slot} {rest : List Value} {E : Lay} {ad : Nat → Nat → Nat} {M N : Mem} (X : CX p s m args meth c cc nL ret own) (hK : KK E s) (hZ : ZZ E s) (hW : WD E ad (M, N) H) (hS : va_S (ow E) s.heap H locs) (hsz : ls.size = nL) {x1 : Int32} {r : Int32} (hf : f_yX8_trace M x1 = some r) (hn : Cond.methodLink own index yX8_trace ∈ TB) (hR : 2 + 1 ≤ R.frames ∧ 8 + (2 + 11) + 42 ≤ R.locals) (hC : cells ≤ R.cells ∧ slots ≤ R.slots) (h8 : (rest.map fun v => v.category).sum ≤ 8) (hdg : decode cc pc = .ok (.invokevirtual index, 3)) (kk : ∀ (H1 : Heap) (locs1 : List Loc), WD E ad (M, N) H1 → va_S (ow E) s.heap H1 locs1 → W p l e R s m args below meth c H1 locs1 cells slots Q (F0 m (pc + 3) ls (.int r :: rest))) : W p l e R s m args below meth c H locs cells slots Q (F0 m pc ls (.int x1 :: .ref (ad 0 0) :: rest)) := by
  refine va_calli (va_runV (C := RX8) (As := [.int x1]) (rest := rest) ⟨X.1, X.2.1, X.2.2.1, X.2.2.2.1, X.2.2.2.2.1⟩ (c_yX8_trace l E ad M N x1 r hf) (cwV 1 X.2.2.2.2.1 (gV hn im_yX8_trace se_yX8_trace iniRX8 cd_yX8_trace) rfl rfl rfl (by decide +kernel) hR) ⟨fun a U g mk q => ⟨q.1, q.2.calling⟩, va_recv hK.1 (hW.at (c := 0) (i := 0) Nat.zero_lt_one rfl) (ci := 8) (q0 := 0) rfl rfl, fun U hU hw => ⟨rfl, PB.at hW hK hZ hS hU hw⟩⟩ rfl rfl hsz rfl (lv_room h8) hdg hC) hS (fun _ _ h => h) (fun _ h => h) (fun r' u t H1 locs1 ht hvm hw hB hz1 hk1 hS1 => ?_)
  obtain ⟨rfl, rfl⟩ := hw
  rw [ht] at hB
  exact kk H1 locs1 hB hS1
def f_yX8_act (M : Mem) (x1 : Int32) (x2 : Int32) (x3 : Int32) (x4 : Int32) (x5 : Int32) : Option (Int32 × Mem) := ob1 (f_yX8_programAt M x1) (fun r2 => om r2 ((some ((-1), M))) (fun j3 => ob1 (f_yX3_isWellNamed x2 x3 x4 x5) (fun r5 => (if r5 = 0 then (some ((-1), M)) else gd (j3 < 8) (ob1 (f_yX1_isInUse M j3) (fun r9 => (if r9 = 0 then (if (M 5 j3 0) < 40 then ob1 (f_yX3_append M j3 x2 x3 x4 x5) (fun M13 => (some ((M13 5 j3 0), M13))) else (some ((-3), M))) else (some ((-2), M)))))))))
set_option maxRecDepth 100000 in
set_option maxHeartbeats 4000000 in
theorem c_yX8_act (l : Launch) (E : Lay) (ad : Nat → Nat → Nat) (M N : Mem) (x1 : Int32) (x2 : Int32) (x3 : Int32) (x4 : Int32) (x5 : Int32) (r : Int32) (Mr : Mem) (hf : f_yX8_act M x1 x2 x3 x4 x5 = some (r, Mr)) : Met l yX8_act (Cond.code yX8_act cX8_act 7 (some .int) :: TB) (rmm 2 45) (va_Pc [.ref (ad 0 0), .int x1, .int x2, .int x3, .int x4, .int x5] (PB E ad (M, N))) (Qi E ad r (Mr, N)) 0 0 (ow E) := by
  refine Met.ofW (cc := cX8_act) (maxL := 7) (ret := (some .int)) (by decide) rfl ?_
  intro p e s m args below meth c s₁ B hml hv
  obtain ⟨rfl, hW, hK, hZ⟩ := hv
  have hT : ∀ w ∈ TB, w.before _ s = true := fun w h => atoms_spec (ws := (Cond.code yX8_act cX8_act 7 (some .int) :: TB)) B.pre w (List.mem_cons_of_mem _ h)
  have X : CX p s m _ meth c cX8_act 7 (some .int) RX8 := ⟨B.exec, B.bytes, hml, findClass_of_methodNamed B.named, hT, B.returns, B.notSynchronized⟩
  obtain ⟨hx, hb, hml, hown, hT, hr, hlk⟩ := id X
  have hS : va_S (ow E) s.heap s.heap [] := va_S.rf
  have hl := lv_entry ([.ref (ad 0 0), .int x1, .int x2, .int x3, .int x4, .int x5]) (n := 7) (Nat.le_of_ble_eq_true rfl)
  rw [lg_entry_eq]
  generalize (lg_sl ([.ref (ad 0 0), .int x1, .int x2, .int x3, .int x4, .int x5]) ++ List.replicate (7 - (lg_sl ([.ref (ad 0 0), .int x1, .int x2, .int x3, .int x4, .int x5])).length) Slot.unset).toArray = ls at hl ⊢
  have hl : lv_has ls 7 [(0, .ref (ad 0 0)), (1, .int x1), (2, .int x2), (3, .int x3), (4, .int x4), (5, .int x5)] := hl
  unfold f_yX8_act at hf
  refine lv_aload_n hx hb dX8_act_0 rfl (lv_at hl 0 rfl) ?_
  refine lv_iload_n hx hb dX8_act_1 rfl (lv_at hl 1 rfl) ?_
  obtain ⟨r2, h1, hf⟩ := ob1_some hf
  rcases r2 with _ | j3
  · rw [om_n] at hf
    refine k_yX8_programAtn X hK hZ hW hS hl.1 h1 mlRX8_103 ⟨Nat.le_of_ble_eq_true rfl, Nat.le_of_ble_eq_true rfl⟩ ⟨Nat.le_of_ble_eq_true rfl, Nat.le_of_ble_eq_true rfl⟩ (Nat.le_of_ble_eq_true rfl) dX8_act_2 (fun H locs hW hS => ?_)
    refine lv_astoreN (lv' := [(6, .null), (0, .ref (ad 0 0)), (1, .int x1), (2, .int x2), (3, .int x3), (4, .int x4), (5, .int x5)]) hx hb dX8_act_5 hl (by decide) rfl (fun ls hl => ?_)
    refine lv_aloadN hx hb dX8_act_7 (lv_at hl 0 rfl) ?_
    refine lv_ifnullN (tgt := 24) hx hb dX8_act_9 (by decide) ?_
    refine lv_iconst (v := -1) hx hb dX8_act_24 (by decide) ?_
    obtain ⟨rfl, rfl⟩ := sp2 hf
    exact e_i ⟨hx, hb, hr, hlk⟩ hW hS dX8_act_25
  · rw [om_s] at hf
    refine k_yX8_programAts X hK hZ hW hS hl.1 h1 mlRX8_103 ⟨Nat.le_of_ble_eq_true rfl, Nat.le_of_ble_eq_true rfl⟩ ⟨Nat.le_of_ble_eq_true rfl, Nat.le_of_ble_eq_true rfl⟩ (Nat.le_of_ble_eq_true rfl) dX8_act_2 (fun H locs hW hS => ?_)
    refine lv_astore (lv' := [(6, .ref (ad 5 j3)), (0, .ref (ad 0 0)), (1, .int x1), (2, .int x2), (3, .int x3), (4, .int x4), (5, .int x5)]) hx hb dX8_act_5 hl (by decide) rfl (fun ls hl => ?_)
    refine lv_aload hx hb dX8_act_7 (lv_at hl 0 rfl) ?_
    refine lv_ifnull hx hb dX8_act_9 ?_
    refine lv_iload_n hx hb dX8_act_12 rfl (lv_at hl 3 rfl) ?_
    refine lv_iload_n hx hb dX8_act_13 rfl (lv_at hl 4 rfl) ?_
    refine lv_iload hx hb dX8_act_14 (lv_at hl 5 rfl) ?_
    refine lv_iload hx hb dX8_act_16 (lv_at hl 6 rfl) ?_
    obtain ⟨r5, h4, hf⟩ := ob1_some hf
    refine k_yX3_isWellNamed X hK hZ hW hS hl.1 h4 mlRX8_107 ⟨Nat.le_of_ble_eq_true rfl, Nat.le_of_ble_eq_true rfl⟩ ⟨Nat.le_of_ble_eq_true rfl, Nat.le_of_ble_eq_true rfl⟩ (Nat.le_of_ble_eq_true rfl) dX8_act_18 (fun H locs hW hS => ?_)
    refine lv_if_ne (tgt := 26) hx hb dX8_act_21 (by decide) (fun c6 => ?_) (fun c6 => ?_)
    · rw [if_neg c6] at hf
      refine lv_aload_n hx hb dX8_act_26 rfl (lv_at hl 1 rfl) ?_
      refine g_8_1 X hK hW flRX8_21 dX8_act_27 ?_
      refine lv_aload hx hb dX8_act_30 (lv_at hl 0 rfl) ?_
      obtain ⟨v7, hf⟩ := gd_some hf
      obtain ⟨r9, h8, hf⟩ := ob1_some hf
      refine k_yX1_isInUse X hK hZ hW hS hl.1 v7 h8 mlRX8_111 ⟨Nat.le_of_ble_eq_true rfl, Nat.le_of_ble_eq_true rfl⟩ ⟨Nat.le_of_ble_eq_true rfl, Nat.le_of_ble_eq_true rfl⟩ (Nat.le_of_ble_eq_true rfl) dX8_act_32 (fun H locs hW hS => ?_)
      refine lv_if_eq (tgt := 41) hx hb dX8_act_35 (by decide) (fun c10 => ?_) (fun c10 => ?_)
      · rw [if_pos c10] at hf
        refine lv_aload hx hb dX8_act_41 (lv_at hl 0 rfl) ?_
        refine g_3_1 X hK hW v7 flRX8_115 dX8_act_43 ?_
        refine lv_bipush (v := 40) hx hb dX8_act_46 (by decide) ?_
        refine lv_icmp_lt (tgt := 54) hx hb dX8_act_48 (by decide) (fun c11 => ?_) (fun c11 => ?_)
        · rw [if_pos c11] at hf
          refine lv_aload hx hb dX8_act_54 (lv_at hl 0 rfl) ?_
          refine lv_iload_n hx hb dX8_act_56 rfl (lv_at hl 3 rfl) ?_
          refine lv_iload_n hx hb dX8_act_57 rfl (lv_at hl 4 rfl) ?_
          refine lv_iload hx hb dX8_act_58 (lv_at hl 5 rfl) ?_
          refine lv_iload hx hb dX8_act_60 (lv_at hl 6 rfl) ?_
          obtain ⟨M13, h12, hf⟩ := ob1_some hf
          refine k_yX3_append X hK hZ hW hS hl.1 v7 h12 mlRX8_118 ⟨Nat.le_of_ble_eq_true rfl, Nat.le_of_ble_eq_true rfl⟩ ⟨Nat.le_of_ble_eq_true rfl, Nat.le_of_ble_eq_true rfl⟩ (Nat.le_of_ble_eq_true rfl) dX8_act_62 (fun H locs hW hS => ?_)
          refine lv_aload hx hb dX8_act_65 (lv_at hl 0 rfl) ?_
          refine g_3_1 X hK hW v7 flRX8_115 dX8_act_67 ?_
          obtain ⟨rfl, rfl⟩ := sp2 hf
          exact e_i ⟨hx, hb, hr, hlk⟩ hW hS dX8_act_70
        · rw [if_neg c11] at hf
          refine lv_bipush (v := -3) hx hb dX8_act_51 (by decide) ?_
          obtain ⟨rfl, rfl⟩ := sp2 hf
          exact e_i ⟨hx, hb, hr, hlk⟩ hW hS dX8_act_53
      · rw [if_neg c10] at hf
        refine lv_bipush (v := -2) hx hb dX8_act_38 (by decide) ?_
        obtain ⟨rfl, rfl⟩ := sp2 hf
        exact e_i ⟨hx, hb, hr, hlk⟩ hW hS dX8_act_40
    · rw [if_pos c6] at hf
      refine lv_iconst (v := -1) hx hb dX8_act_24 (by decide) ?_
      obtain ⟨rfl, rfl⟩ := sp2 hf
      exact e_i ⟨hx, hb, hr, hlk⟩ hW hS dX8_act_25
set_option maxRecDepth 100000 in
set_option maxHeartbeats 4000000 in
theorem k_yX8_act {p : Program} {l : Launch} {e : Env} {R : Room} {s : State} {m : MethodId} {args : Array Value} {below : List Frame} {meth : Method} {c : Code} {H : Heap} {locs : List Loc} {cells slots : Nat} {Q : State → Prop} {cc : ByteArray} {pc nL index : Nat} {ret : Option FieldType} {own : String} {ls : Array Slot} {rest : List Value} {E : Lay} {ad : Nat → Nat → Nat} {M N : Mem} (X : CX p s m args meth c cc nL ret own) (hK : KK E s) (hZ : ZZ E s) (hW : WD E ad (M, N) H) (hS : va_S (ow E) s.heap H locs) (hsz : ls.size = nL) {x1 : Int32} {x2 : Int32} {x3 : Int32} {x4 : Int32} {x5 : Int32} {r : Int32} {Mr : Mem} (hf : f_yX8_act M x1 x2 x3 x4 x5 = some (r, Mr)) (hn : Cond.methodLink own index yX8_act ∈ TB) (hR : 2 + 1 ≤ R.frames ∧ 8 + (7 + 11) + 45 ≤ R.locals) (hC : cells ≤ R.cells ∧ slots ≤ R.slots) (h8 : (rest.map fun v => v.category).sum ≤ 8) (hdg : decode cc pc = .ok (.invokevirtual index, 3)) (kk : ∀ (H1 : Heap) (locs1 : List Loc), WD E ad (Mr, N) H1 → va_S (ow E) s.heap H1 locs1 → W p l e R s m args below meth c H1 locs1 cells slots Q (F0 m (pc + 3) ls (.int r :: rest))) : W p l e R s m args below meth c H locs cells slots Q (F0 m pc ls (.int x5 :: .int x4 :: .int x3 :: .int x2 :: .int x1 :: .ref (ad 0 0) :: rest)) := by
  refine va_calli (va_runV (C := RX8) (As := [.int x1, .int x2, .int x3, .int x4, .int x5]) (rest := rest) ⟨X.1, X.2.1, X.2.2.1, X.2.2.2.1, X.2.2.2.2.1⟩ (c_yX8_act l E ad M N x1 x2 x3 x4 x5 r Mr hf) (cwV 5 X.2.2.2.2.1 (gV hn im_yX8_act se_yX8_act iniRX8 cd_yX8_act) rfl rfl rfl (by decide +kernel) hR) ⟨fun a U g mk q => ⟨q.1, q.2.calling⟩, va_recv hK.1 (hW.at (c := 0) (i := 0) Nat.zero_lt_one rfl) (ci := 8) (q0 := 0) rfl rfl, fun U hU hw => ⟨rfl, PB.at hW hK hZ hS hU hw⟩⟩ rfl rfl hsz rfl (lv_room h8) hdg hC) hS (fun _ _ h => h) (fun _ h => h) (fun r' u t H1 locs1 ht hvm hw hB hz1 hk1 hS1 => ?_)
  obtain ⟨rfl, rfl⟩ := hw
  rw [ht] at hB
  exact kk H1 locs1 hB hS1
def f_yX8_wipe (M : Mem) (x1 : Int32) : Option (Int32 × Mem) := ob1 (f_yX8_programAt M x1) (fun r2 => om r2 ((some ((-1), M))) (fun j3 => gd (j3 < 8) (ob1 (f_yX1_isInUse M j3) (fun r6 => (if r6 = 0 then lt1 (mp M 5 j3 0 0) (fun M8 => (some ((M 5 j3 0), M8))) else (some ((-2), M)))))))
set_option maxRecDepth 100000 in
set_option maxHeartbeats 4000000 in
theorem c_yX8_wipe (l : Launch) (E : Lay) (ad : Nat → Nat → Nat) (M N : Mem) (x1 : Int32) (r : Int32) (Mr : Mem) (hf : f_yX8_wipe M x1 = some (r, Mr)) : Met l yX8_wipe (Cond.code yX8_wipe cX8_wipe 4 (some .int) :: TB) (rmm 2 45) (va_Pc [.ref (ad 0 0), .int x1] (PB E ad (M, N))) (Qi E ad r (Mr, N)) 0 0 (ow E) := by
  refine Met.ofW (cc := cX8_wipe) (maxL := 4) (ret := (some .int)) (by decide) rfl ?_
  intro p e s m args below meth c s₁ B hml hv
  obtain ⟨rfl, hW, hK, hZ⟩ := hv
  have hT : ∀ w ∈ TB, w.before _ s = true := fun w h => atoms_spec (ws := (Cond.code yX8_wipe cX8_wipe 4 (some .int) :: TB)) B.pre w (List.mem_cons_of_mem _ h)
  have X : CX p s m _ meth c cX8_wipe 4 (some .int) RX8 := ⟨B.exec, B.bytes, hml, findClass_of_methodNamed B.named, hT, B.returns, B.notSynchronized⟩
  obtain ⟨hx, hb, hml, hown, hT, hr, hlk⟩ := id X
  have hS : va_S (ow E) s.heap s.heap [] := va_S.rf
  have hl := lv_entry ([.ref (ad 0 0), .int x1]) (n := 4) (Nat.le_of_ble_eq_true rfl)
  rw [lg_entry_eq]
  generalize (lg_sl ([.ref (ad 0 0), .int x1]) ++ List.replicate (4 - (lg_sl ([.ref (ad 0 0), .int x1])).length) Slot.unset).toArray = ls at hl ⊢
  have hl : lv_has ls 4 [(0, .ref (ad 0 0)), (1, .int x1)] := hl
  unfold f_yX8_wipe at hf
  refine lv_aload_n hx hb dX8_wipe_0 rfl (lv_at hl 0 rfl) ?_
  refine lv_iload_n hx hb dX8_wipe_1 rfl (lv_at hl 1 rfl) ?_
  obtain ⟨r2, h1, hf⟩ := ob1_some hf
  rcases r2 with _ | j3
  · rw [om_n] at hf
    refine k_yX8_programAtn X hK hZ hW hS hl.1 h1 mlRX8_103 ⟨Nat.le_of_ble_eq_true rfl, Nat.le_of_ble_eq_true rfl⟩ ⟨Nat.le_of_ble_eq_true rfl, Nat.le_of_ble_eq_true rfl⟩ (Nat.le_of_ble_eq_true rfl) dX8_wipe_2 (fun H locs hW hS => ?_)
    refine lv_astore_nN (lv' := [(2, .null), (0, .ref (ad 0 0)), (1, .int x1)]) hx hb dX8_wipe_5 rfl hl (by decide) rfl (fun ls hl => ?_)
    refine lv_aload_nN hx hb dX8_wipe_6 rfl (lv_at hl 0 rfl) ?_
    refine lv_ifnonnullN hx hb dX8_wipe_7 ?_
    refine lv_iconst (v := -1) hx hb dX8_wipe_10 (by decide) ?_
    obtain ⟨rfl, rfl⟩ := sp2 hf
    exact e_i ⟨hx, hb, hr, hlk⟩ hW hS dX8_wipe_11
  · rw [om_s] at hf
    refine k_yX8_programAts X hK hZ hW hS hl.1 h1 mlRX8_103 ⟨Nat.le_of_ble_eq_true rfl, Nat.le_of_ble_eq_true rfl⟩ ⟨Nat.le_of_ble_eq_true rfl, Nat.le_of_ble_eq_true rfl⟩ (Nat.le_of_ble_eq_true rfl) dX8_wipe_2 (fun H locs hW hS => ?_)
    refine lv_astore_n (lv' := [(2, .ref (ad 5 j3)), (0, .ref (ad 0 0)), (1, .int x1)]) hx hb dX8_wipe_5 rfl hl (by decide) rfl (fun ls hl => ?_)
    refine lv_aload_n hx hb dX8_wipe_6 rfl (lv_at hl 0 rfl) ?_
    refine lv_ifnonnull (tgt := 12) hx hb dX8_wipe_7 (by decide) ?_
    refine lv_aload_n hx hb dX8_wipe_12 rfl (lv_at hl 1 rfl) ?_
    refine g_8_1 X hK hW flRX8_21 dX8_wipe_13 ?_
    refine lv_aload_n hx hb dX8_wipe_16 rfl (lv_at hl 0 rfl) ?_
    obtain ⟨v4, hf⟩ := gd_some hf
    obtain ⟨r6, h5, hf⟩ := ob1_some hf
    refine k_yX1_isInUse X hK hZ hW hS hl.1 v4 h5 mlRX8_111 ⟨Nat.le_of_ble_eq_true rfl, Nat.le_of_ble_eq_true rfl⟩ ⟨Nat.le_of_ble_eq_true rfl, Nat.le_of_ble_eq_true rfl⟩ (Nat.le_of_ble_eq_true rfl) dX8_wipe_17 (fun H locs hW hS => ?_)
    refine lv_if_eq (tgt := 26) hx hb dX8_wipe_20 (by decide) (fun c7 => ?_) (fun c7 => ?_)
    · rw [if_pos c7] at hf
      refine lv_aload_n hx hb dX8_wipe_26 rfl (lv_at hl 0 rfl) ?_
      refine g_3_1 X hK hW v4 flRX8_115 dX8_wipe_27 ?_
      refine lv_istore_n (lv' := [(3, .int (M 5 j3 0)), (2, .ref (ad 5 j3)), (0, .ref (ad 0 0)), (1, .int x1)]) hx hb dX8_wipe_30 rfl hl (by decide) rfl (fun ls hl => ?_)
      refine lv_aload_n hx hb dX8_wipe_31 rfl (lv_at hl 1 rfl) ?_
      refine lv_iconst (v := 0) hx hb dX8_wipe_32 (by decide) ?_
      obtain ⟨M8, hM8, hf⟩ := lt1_some hf
      refine p_3_1 X hK hW hS v4 hM8 flRX8_115 dX8_wipe_33 (fun H locs hW hS => ?_)
      refine lv_iload_n hx hb dX8_wipe_36 rfl (lv_at hl 0 rfl) ?_
      obtain ⟨rfl, rfl⟩ := sp2 hf
      exact e_i ⟨hx, hb, hr, hlk⟩ hW hS dX8_wipe_37
    · rw [if_neg c7] at hf
      refine lv_bipush (v := -2) hx hb dX8_wipe_23 (by decide) ?_
      obtain ⟨rfl, rfl⟩ := sp2 hf
      exact e_i ⟨hx, hb, hr, hlk⟩ hW hS dX8_wipe_25
set_option maxRecDepth 100000 in
set_option maxHeartbeats 4000000 in
theorem k_yX8_wipe {p : Program} {l : Launch} {e : Env} {R : Room} {s : State} {m : MethodId} {args : Array Value} {below : List Frame} {meth : Method} {c : Code} {H : Heap} {locs : List Loc} {cells slots : Nat} {Q : State → Prop} {cc : ByteArray} {pc nL index : Nat} {ret : Option FieldType} {own : String} {ls : Array Slot} {rest : List Value} {E : Lay} {ad : Nat → Nat → Nat} {M N : Mem} (X : CX p s m args meth c cc nL ret own) (hK : KK E s) (hZ : ZZ E s) (hW : WD E ad (M, N) H) (hS : va_S (ow E) s.heap H locs) (hsz : ls.size = nL) {x1 : Int32} {r : Int32} {Mr : Mem} (hf : f_yX8_wipe M x1 = some (r, Mr)) (hn : Cond.methodLink own index yX8_wipe ∈ TB) (hR : 2 + 1 ≤ R.frames ∧ 8 + (4 + 11) + 45 ≤ R.locals) (hC : cells ≤ R.cells ∧ slots ≤ R.slots) (h8 : (rest.map fun v => v.category).sum ≤ 8) (hdg : decode cc pc = .ok (.invokevirtual index, 3)) (kk : ∀ (H1 : Heap) (locs1 : List Loc), WD E ad (Mr, N) H1 → va_S (ow E) s.heap H1 locs1 → W p l e R s m args below meth c H1 locs1 cells slots Q (F0 m (pc + 3) ls (.int r :: rest))) : W p l e R s m args below meth c H locs cells slots Q (F0 m pc ls (.int x1 :: .ref (ad 0 0) :: rest)) := by
  refine va_calli (va_runV (C := RX8) (As := [.int x1]) (rest := rest) ⟨X.1, X.2.1, X.2.2.1, X.2.2.2.1, X.2.2.2.2.1⟩ (c_yX8_wipe l E ad M N x1 r Mr hf) (cwV 1 X.2.2.2.2.1 (gV hn im_yX8_wipe se_yX8_wipe iniRX8 cd_yX8_wipe) rfl rfl rfl (by decide +kernel) hR) ⟨fun a U g mk q => ⟨q.1, q.2.calling⟩, va_recv hK.1 (hW.at (c := 0) (i := 0) Nat.zero_lt_one rfl) (ci := 8) (q0 := 0) rfl rfl, fun U hU hw => ⟨rfl, PB.at hW hK hZ hS hU hw⟩⟩ rfl rfl hsz rfl (lv_room h8) hdg hC) hS (fun _ _ h => h) (fun _ h => h) (fun r' u t H1 locs1 ht hvm hw hB hz1 hk1 hS1 => ?_)
  obtain ⟨rfl, rfl⟩ := hw
  rw [ht] at hB
  exact kk H1 locs1 hB hS1
def f_yX8_thread (M : Mem) (x1 : Int32) (x2 : Int32) (x3 : Int32) : Option (Int32 × Mem) := ob1 (f_yX1_at M x1) (fun r2 => om r2 (ob1 (f_yX8_programAt M x2) (fun r5 => om r5 ((some ((-1), M))) (fun j6 => (some ((-1), M))))) (fun j3 => ob1 (f_yX8_programAt M x2) (fun r8 => om r8 ((some ((-1), M))) (fun j9 => (if x3 < 0 then (some ((-1), M)) else (if x3 ≤ 9 then gd (j3 < 6) (ob1 (f_yX5_isUnderWay M j3) (fun r14 => (if r14 = 0 then gd (j9 < 8) (ob1 (f_yX5_renew M j3 j9 x3) (fun M18 => (some (1, M18)))) else (some ((-2), M))))) else (some ((-1), M))))))))
set_option maxRecDepth 100000 in
set_option maxHeartbeats 4000000 in
theorem c_yX8_thread (l : Launch) (E : Lay) (ad : Nat → Nat → Nat) (M N : Mem) (x1 : Int32) (x2 : Int32) (x3 : Int32) (r : Int32) (Mr : Mem) (hf : f_yX8_thread M x1 x2 x3 = some (r, Mr)) : Met l yX8_thread (Cond.code yX8_thread cX8_thread 6 (some .int) :: TB) (rmm 2 45) (va_Pc [.ref (ad 0 0), .int x1, .int x2, .int x3] (PB E ad (M, N))) (Qi E ad r (Mr, N)) 0 0 (ow E) := by
  refine Met.ofW (cc := cX8_thread) (maxL := 6) (ret := (some .int)) (by decide) rfl ?_
  intro p e s m args below meth c s₁ B hml hv
  obtain ⟨rfl, hW, hK, hZ⟩ := hv
  have hT : ∀ w ∈ TB, w.before _ s = true := fun w h => atoms_spec (ws := (Cond.code yX8_thread cX8_thread 6 (some .int) :: TB)) B.pre w (List.mem_cons_of_mem _ h)
  have X : CX p s m _ meth c cX8_thread 6 (some .int) RX8 := ⟨B.exec, B.bytes, hml, findClass_of_methodNamed B.named, hT, B.returns, B.notSynchronized⟩
  obtain ⟨hx, hb, hml, hown, hT, hr, hlk⟩ := id X
  have hS : va_S (ow E) s.heap s.heap [] := va_S.rf
  have hl := lv_entry ([.ref (ad 0 0), .int x1, .int x2, .int x3]) (n := 6) (Nat.le_of_ble_eq_true rfl)
  rw [lg_entry_eq]
  generalize (lg_sl ([.ref (ad 0 0), .int x1, .int x2, .int x3]) ++ List.replicate (6 - (lg_sl ([.ref (ad 0 0), .int x1, .int x2, .int x3])).length) Slot.unset).toArray = ls at hl ⊢
  have hl : lv_has ls 6 [(0, .ref (ad 0 0)), (1, .int x1), (2, .int x2), (3, .int x3)] := hl
  unfold f_yX8_thread at hf
  refine lv_aload_n hx hb dX8_thread_0 rfl (lv_at hl 0 rfl) ?_
  refine g_8_1 X hK hW flRX8_21 dX8_thread_1 ?_
  refine lv_iload_n hx hb dX8_thread_4 rfl (lv_at hl 1 rfl) ?_
  obtain ⟨r2, h1, hf⟩ := ob1_some hf
  rcases r2 with _ | j3
  · rw [om_n] at hf
    refine k_yX1_atn X hK hZ hW hS hl.1 h1 mlRX8_122 ⟨Nat.le_of_ble_eq_true rfl, Nat.le_of_ble_eq_true rfl⟩ ⟨Nat.le_of_ble_eq_true rfl, Nat.le_of_ble_eq_true rfl⟩ (Nat.le_of_ble_eq_true rfl) dX8_thread_5 (fun H locs hW hS => ?_)
    refine lv_astoreN (lv' := [(4, .null), (0, .ref (ad 0 0)), (1, .int x1), (2, .int x2), (3, .int x3)]) hx hb dX8_thread_8 hl (by decide) rfl (fun ls hl => ?_)
    refine lv_aload_n hx hb dX8_thread_10 rfl (lv_at hl 1 rfl) ?_
    refine lv_iload_n hx hb dX8_thread_11 rfl (lv_at hl 3 rfl) ?_
    obtain ⟨r5, h4, hf⟩ := ob1_some hf
    rcases r5 with _ | j6
    · rw [om_n] at hf
      refine k_yX8_programAtn X hK hZ hW hS hl.1 h4 mlRX8_103 ⟨Nat.le_of_ble_eq_true rfl, Nat.le_of_ble_eq_true rfl⟩ ⟨Nat.le_of_ble_eq_true rfl, Nat.le_of_ble_eq_true rfl⟩ (Nat.le_of_ble_eq_true rfl) dX8_thread_12 (fun H locs hW hS => ?_)
      refine lv_astoreN (lv' := [(5, .null), (4, .null), (0, .ref (ad 0 0)), (1, .int x1), (2, .int x2), (3, .int x3)]) hx hb dX8_thread_15 hl (by decide) rfl (fun ls hl => ?_)
      refine lv_aloadN hx hb dX8_thread_17 (lv_at hl 1 rfl) ?_
      refine lv_ifnullN (tgt := 37) hx hb dX8_thread_19 (by decide) ?_
      refine lv_iconst (v := -1) hx hb dX8_thread_37 (by decide) ?_
      obtain ⟨rfl, rfl⟩ := sp2 hf
      exact e_i ⟨hx, hb, hr, hlk⟩ hW hS dX8_thread_38
    · rw [om_s] at hf
      refine k_yX8_programAts X hK hZ hW hS hl.1 h4 mlRX8_103 ⟨Nat.le_of_ble_eq_true rfl, Nat.le_of_ble_eq_true rfl⟩ ⟨Nat.le_of_ble_eq_true rfl, Nat.le_of_ble_eq_true rfl⟩ (Nat.le_of_ble_eq_true rfl) dX8_thread_12 (fun H locs hW hS => ?_)
      refine lv_astore (lv' := [(5, .ref (ad 5 j6)), (4, .null), (0, .ref (ad 0 0)), (1, .int x1), (2, .int x2), (3, .int x3)]) hx hb dX8_thread_15 hl (by decide) rfl (fun ls hl => ?_)
      refine lv_aloadN hx hb dX8_thread_17 (lv_at hl 1 rfl) ?_
      refine lv_ifnullN (tgt := 37) hx hb dX8_thread_19 (by decide) ?_
      refine lv_iconst (v := -1) hx hb dX8_thread_37 (by decide) ?_
      obtain ⟨rfl, rfl⟩ := sp2 hf
      exact e_i ⟨hx, hb, hr, hlk⟩ hW hS dX8_thread_38
  · rw [om_s] at hf
    refine k_yX1_ats X hK hZ hW hS hl.1 h1 mlRX8_122 ⟨Nat.le_of_ble_eq_true rfl, Nat.le_of_ble_eq_true rfl⟩ ⟨Nat.le_of_ble_eq_true rfl, Nat.le_of_ble_eq_true rfl⟩ (Nat.le_of_ble_eq_true rfl) dX8_thread_5 (fun H locs hW hS => ?_)
    refine lv_astore (lv' := [(4, .ref (ad 6 j3)), (0, .ref (ad 0 0)), (1, .int x1), (2, .int x2), (3, .int x3)]) hx hb dX8_thread_8 hl (by decide) rfl (fun ls hl => ?_)
    refine lv_aload_n hx hb dX8_thread_10 rfl (lv_at hl 1 rfl) ?_
    refine lv_iload_n hx hb dX8_thread_11 rfl (lv_at hl 3 rfl) ?_
    obtain ⟨r8, h7, hf⟩ := ob1_some hf
    rcases r8 with _ | j9
    · rw [om_n] at hf
      refine k_yX8_programAtn X hK hZ hW hS hl.1 h7 mlRX8_103 ⟨Nat.le_of_ble_eq_true rfl, Nat.le_of_ble_eq_true rfl⟩ ⟨Nat.le_of_ble_eq_true rfl, Nat.le_of_ble_eq_true rfl⟩ (Nat.le_of_ble_eq_true rfl) dX8_thread_12 (fun H locs hW hS => ?_)
      refine lv_astoreN (lv' := [(5, .null), (4, .ref (ad 6 j3)), (0, .ref (ad 0 0)), (1, .int x1), (2, .int x2), (3, .int x3)]) hx hb dX8_thread_15 hl (by decide) rfl (fun ls hl => ?_)
      refine lv_aload hx hb dX8_thread_17 (lv_at hl 1 rfl) ?_
      refine lv_ifnull hx hb dX8_thread_19 ?_
      refine lv_aloadN hx hb dX8_thread_22 (lv_at hl 0 rfl) ?_
      refine lv_ifnullN (tgt := 37) hx hb dX8_thread_24 (by decide) ?_
      refine lv_iconst (v := -1) hx hb dX8_thread_37 (by decide) ?_
      obtain ⟨rfl, rfl⟩ := sp2 hf
      exact e_i ⟨hx, hb, hr, hlk⟩ hW hS dX8_thread_38
    · rw [om_s] at hf
      refine k_yX8_programAts X hK hZ hW hS hl.1 h7 mlRX8_103 ⟨Nat.le_of_ble_eq_true rfl, Nat.le_of_ble_eq_true rfl⟩ ⟨Nat.le_of_ble_eq_true rfl, Nat.le_of_ble_eq_true rfl⟩ (Nat.le_of_ble_eq_true rfl) dX8_thread_12 (fun H locs hW hS => ?_)
      refine lv_astore (lv' := [(5, .ref (ad 5 j9)), (4, .ref (ad 6 j3)), (0, .ref (ad 0 0)), (1, .int x1), (2, .int x2), (3, .int x3)]) hx hb dX8_thread_15 hl (by decide) rfl (fun ls hl => ?_)
      refine lv_aload hx hb dX8_thread_17 (lv_at hl 1 rfl) ?_
      refine lv_ifnull hx hb dX8_thread_19 ?_
      refine lv_aload hx hb dX8_thread_22 (lv_at hl 0 rfl) ?_
      refine lv_ifnull hx hb dX8_thread_24 ?_
      refine lv_iload_n hx hb dX8_thread_27 rfl (lv_at hl 5 rfl) ?_
      refine lv_if_lt (tgt := 37) hx hb dX8_thread_28 (by decide) (fun c10 => ?_) (fun c10 => ?_)
      · rw [if_pos c10] at hf
        refine lv_iconst (v := -1) hx hb dX8_thread_37 (by decide) ?_
        obtain ⟨rfl, rfl⟩ := sp2 hf
        exact e_i ⟨hx, hb, hr, hlk⟩ hW hS dX8_thread_38
      · rw [if_neg c10] at hf
        refine lv_iload_n hx hb dX8_thread_31 rfl (lv_at hl 5 rfl) ?_
        refine lv_bipush (v := 9) hx hb dX8_thread_32 (by decide) ?_
        refine lv_icmp_le (tgt := 39) hx hb dX8_thread_34 (by decide) (fun c11 => ?_) (fun c11 => ?_)
        · rw [if_pos c11] at hf
          refine lv_aload hx hb dX8_thread_39 (lv_at hl 1 rfl) ?_
          obtain ⟨v12, hf⟩ := gd_some hf
          obtain ⟨r14, h13, hf⟩ := ob1_some hf
          refine k_yX5_isUnderWay X hK hZ hW hS hl.1 v12 h13 mlRX8_125 ⟨Nat.le_of_ble_eq_true rfl, Nat.le_of_ble_eq_true rfl⟩ ⟨Nat.le_of_ble_eq_true rfl, Nat.le_of_ble_eq_true rfl⟩ (Nat.le_of_ble_eq_true rfl) dX8_thread_41 (fun H locs hW hS => ?_)
          refine lv_if_eq (tgt := 50) hx hb dX8_thread_44 (by decide) (fun c15 => ?_) (fun c15 => ?_)
          · rw [if_pos c15] at hf
            refine lv_aload hx hb dX8_thread_50 (lv_at hl 1 rfl) ?_
            refine lv_aload hx hb dX8_thread_52 (lv_at hl 0 rfl) ?_
            refine lv_iload_n hx hb dX8_thread_54 rfl (lv_at hl 5 rfl) ?_
            obtain ⟨v16, hf⟩ := gd_some hf
            obtain ⟨M18, h17, hf⟩ := ob1_some hf
            refine k_yX5_renew X hK hZ hW hS hl.1 v12 v16 h17 mlRX8_130 ⟨Nat.le_of_ble_eq_true rfl, Nat.le_of_ble_eq_true rfl⟩ ⟨Nat.le_of_ble_eq_true rfl, Nat.le_of_ble_eq_true rfl⟩ (Nat.le_of_ble_eq_true rfl) dX8_thread_55 (fun H locs hW hS => ?_)
            refine lv_iconst (v := 1) hx hb dX8_thread_58 (by decide) ?_
            obtain ⟨rfl, rfl⟩ := sp2 hf
            exact e_i ⟨hx, hb, hr, hlk⟩ hW hS dX8_thread_59
          · rw [if_neg c15] at hf
            refine lv_bipush (v := -2) hx hb dX8_thread_47 (by decide) ?_
            obtain ⟨rfl, rfl⟩ := sp2 hf
            exact e_i ⟨hx, hb, hr, hlk⟩ hW hS dX8_thread_49
        · rw [if_neg c11] at hf
          refine lv_iconst (v := -1) hx hb dX8_thread_37 (by decide) ?_
          obtain ⟨rfl, rfl⟩ := sp2 hf
          exact e_i ⟨hx, hb, hr, hlk⟩ hW hS dX8_thread_38
set_option maxRecDepth 100000 in
set_option maxHeartbeats 4000000 in
theorem k_yX8_thread {p : Program} {l : Launch} {e : Env} {R : Room} {s : State} {m : MethodId} {args : Array Value} {below : List Frame} {meth : Method} {c : Code} {H : Heap} {locs : List Loc} {cells slots : Nat} {Q : State → Prop} {cc : ByteArray} {pc nL index : Nat} {ret : Option FieldType} {own : String} {ls : Array Slot} {rest : List Value} {E : Lay} {ad : Nat → Nat → Nat} {M N : Mem} (X : CX p s m args meth c cc nL ret own) (hK : KK E s) (hZ : ZZ E s) (hW : WD E ad (M, N) H) (hS : va_S (ow E) s.heap H locs) (hsz : ls.size = nL) {x1 : Int32} {x2 : Int32} {x3 : Int32} {r : Int32} {Mr : Mem} (hf : f_yX8_thread M x1 x2 x3 = some (r, Mr)) (hn : Cond.methodLink own index yX8_thread ∈ TB) (hR : 2 + 1 ≤ R.frames ∧ 8 + (6 + 11) + 45 ≤ R.locals) (hC : cells ≤ R.cells ∧ slots ≤ R.slots) (h8 : (rest.map fun v => v.category).sum ≤ 8) (hdg : decode cc pc = .ok (.invokevirtual index, 3)) (kk : ∀ (H1 : Heap) (locs1 : List Loc), WD E ad (Mr, N) H1 → va_S (ow E) s.heap H1 locs1 → W p l e R s m args below meth c H1 locs1 cells slots Q (F0 m (pc + 3) ls (.int r :: rest))) : W p l e R s m args below meth c H locs cells slots Q (F0 m pc ls (.int x3 :: .int x2 :: .int x1 :: .ref (ad 0 0) :: rest)) := by
  refine va_calli (va_runV (C := RX8) (As := [.int x1, .int x2, .int x3]) (rest := rest) ⟨X.1, X.2.1, X.2.2.1, X.2.2.2.1, X.2.2.2.2.1⟩ (c_yX8_thread l E ad M N x1 x2 x3 r Mr hf) (cwV 3 X.2.2.2.2.1 (gV hn im_yX8_thread se_yX8_thread iniRX8 cd_yX8_thread) rfl rfl rfl (by decide +kernel) hR) ⟨fun a U g mk q => ⟨q.1, q.2.calling⟩, va_recv hK.1 (hW.at (c := 0) (i := 0) Nat.zero_lt_one rfl) (ci := 8) (q0 := 0) rfl rfl, fun U hU hw => ⟨rfl, PB.at hW hK hZ hS hU hw⟩⟩ rfl rfl hsz rfl (lv_room h8) hdg hC) hS (fun _ _ h => h) (fun _ h => h) (fun r' u t H1 locs1 ht hvm hw hB hz1 hk1 hS1 => ?_)
  obtain ⟨rfl, rfl⟩ := hw
  rw [ht] at hB
  exact kk H1 locs1 hB hS1
def f_yX8_broken (M : Mem) (x1 : Int32) : Option (Int32 × Mem) := ob1 (f_yX1_at M x1) (fun r2 => om r2 ((some ((-1), M))) (fun j3 => gd (j3 < 6) (ob1 (f_yX5_isUnderWay M j3) (fun r6 => (if r6 = 0 then (some (0, M)) else ob1 (f_yX1_interrupt M j3) (fun M9 => (some (1, M9))))))))
set_option maxRecDepth 100000 in
set_option maxHeartbeats 4000000 in
theorem c_yX8_broken (l : Launch) (E : Lay) (ad : Nat → Nat → Nat) (M N : Mem) (x1 : Int32) (r : Int32) (Mr : Mem) (hf : f_yX8_broken M x1 = some (r, Mr)) : Met l yX8_broken (Cond.code yX8_broken cX8_broken 3 (some .int) :: TB) (rmm 3 67) (va_Pc [.ref (ad 0 0), .int x1] (PB E ad (M, N))) (Qi E ad r (Mr, N)) 0 0 (ow E) := by
  refine Met.ofW (cc := cX8_broken) (maxL := 3) (ret := (some .int)) (by decide) rfl ?_
  intro p e s m args below meth c s₁ B hml hv
  obtain ⟨rfl, hW, hK, hZ⟩ := hv
  have hT : ∀ w ∈ TB, w.before _ s = true := fun w h => atoms_spec (ws := (Cond.code yX8_broken cX8_broken 3 (some .int) :: TB)) B.pre w (List.mem_cons_of_mem _ h)
  have X : CX p s m _ meth c cX8_broken 3 (some .int) RX8 := ⟨B.exec, B.bytes, hml, findClass_of_methodNamed B.named, hT, B.returns, B.notSynchronized⟩
  obtain ⟨hx, hb, hml, hown, hT, hr, hlk⟩ := id X
  have hS : va_S (ow E) s.heap s.heap [] := va_S.rf
  have hl := lv_entry ([.ref (ad 0 0), .int x1]) (n := 3) (Nat.le_of_ble_eq_true rfl)
  rw [lg_entry_eq]
  generalize (lg_sl ([.ref (ad 0 0), .int x1]) ++ List.replicate (3 - (lg_sl ([.ref (ad 0 0), .int x1])).length) Slot.unset).toArray = ls at hl ⊢
  have hl : lv_has ls 3 [(0, .ref (ad 0 0)), (1, .int x1)] := hl
  unfold f_yX8_broken at hf
  refine lv_aload_n hx hb dX8_broken_0 rfl (lv_at hl 0 rfl) ?_
  refine g_8_1 X hK hW flRX8_21 dX8_broken_1 ?_
  refine lv_iload_n hx hb dX8_broken_4 rfl (lv_at hl 1 rfl) ?_
  obtain ⟨r2, h1, hf⟩ := ob1_some hf
  rcases r2 with _ | j3
  · rw [om_n] at hf
    refine k_yX1_atn X hK hZ hW hS hl.1 h1 mlRX8_122 ⟨Nat.le_of_ble_eq_true rfl, Nat.le_of_ble_eq_true rfl⟩ ⟨Nat.le_of_ble_eq_true rfl, Nat.le_of_ble_eq_true rfl⟩ (Nat.le_of_ble_eq_true rfl) dX8_broken_5 (fun H locs hW hS => ?_)
    refine lv_astore_nN (lv' := [(2, .null), (0, .ref (ad 0 0)), (1, .int x1)]) hx hb dX8_broken_8 rfl hl (by decide) rfl (fun ls hl => ?_)
    refine lv_aload_nN hx hb dX8_broken_9 rfl (lv_at hl 0 rfl) ?_
    refine lv_ifnonnullN hx hb dX8_broken_10 ?_
    refine lv_iconst (v := -1) hx hb dX8_broken_13 (by decide) ?_
    obtain ⟨rfl, rfl⟩ := sp2 hf
    exact e_i ⟨hx, hb, hr, hlk⟩ hW hS dX8_broken_14
  · rw [om_s] at hf
    refine k_yX1_ats X hK hZ hW hS hl.1 h1 mlRX8_122 ⟨Nat.le_of_ble_eq_true rfl, Nat.le_of_ble_eq_true rfl⟩ ⟨Nat.le_of_ble_eq_true rfl, Nat.le_of_ble_eq_true rfl⟩ (Nat.le_of_ble_eq_true rfl) dX8_broken_5 (fun H locs hW hS => ?_)
    refine lv_astore_n (lv' := [(2, .ref (ad 6 j3)), (0, .ref (ad 0 0)), (1, .int x1)]) hx hb dX8_broken_8 rfl hl (by decide) rfl (fun ls hl => ?_)
    refine lv_aload_n hx hb dX8_broken_9 rfl (lv_at hl 0 rfl) ?_
    refine lv_ifnonnull (tgt := 15) hx hb dX8_broken_10 (by decide) ?_
    refine lv_aload_n hx hb dX8_broken_15 rfl (lv_at hl 0 rfl) ?_
    obtain ⟨v4, hf⟩ := gd_some hf
    obtain ⟨r6, h5, hf⟩ := ob1_some hf
    refine k_yX5_isUnderWay X hK hZ hW hS hl.1 v4 h5 mlRX8_125 ⟨Nat.le_of_ble_eq_true rfl, Nat.le_of_ble_eq_true rfl⟩ ⟨Nat.le_of_ble_eq_true rfl, Nat.le_of_ble_eq_true rfl⟩ (Nat.le_of_ble_eq_true rfl) dX8_broken_16 (fun H locs hW hS => ?_)
    refine lv_if_ne (tgt := 24) hx hb dX8_broken_19 (by decide) (fun c7 => ?_) (fun c7 => ?_)
    · rw [if_neg c7] at hf
      refine lv_aload_n hx hb dX8_broken_24 rfl (lv_at hl 1 rfl) ?_
      refine g_8_1 X hK hW flRX8_21 dX8_broken_25 ?_
      refine lv_aload_n hx hb dX8_broken_28 rfl (lv_at hl 0 rfl) ?_
      obtain ⟨M9, h8, hf⟩ := ob1_some hf
      refine k_yX1_interrupt X hK hZ hW hS hl.1 v4 h8 mlRX8_151 ⟨Nat.le_of_ble_eq_true rfl, Nat.le_of_ble_eq_true rfl⟩ ⟨Nat.le_of_ble_eq_true rfl, Nat.le_of_ble_eq_true rfl⟩ (Nat.le_of_ble_eq_true rfl) dX8_broken_29 (fun H locs hW hS => ?_)
      refine lv_iconst (v := 1) hx hb dX8_broken_32 (by decide) ?_
      obtain ⟨rfl, rfl⟩ := sp2 hf
      exact e_i ⟨hx, hb, hr, hlk⟩ hW hS dX8_broken_33
    · rw [if_pos c7] at hf
      refine lv_iconst (v := 0) hx hb dX8_broken_22 (by decide) ?_
      obtain ⟨rfl, rfl⟩ := sp2 hf
      exact e_i ⟨hx, hb, hr, hlk⟩ hW hS dX8_broken_23
set_option maxRecDepth 100000 in
set_option maxHeartbeats 4000000 in
theorem k_yX8_broken {p : Program} {l : Launch} {e : Env} {R : Room} {s : State} {m : MethodId} {args : Array Value} {below : List Frame} {meth : Method} {c : Code} {H : Heap} {locs : List Loc} {cells slots : Nat} {Q : State → Prop} {cc : ByteArray} {pc nL index : Nat} {ret : Option FieldType} {own : String} {ls : Array Slot} {rest : List Value} {E : Lay} {ad : Nat → Nat → Nat} {M N : Mem} (X : CX p s m args meth c cc nL ret own) (hK : KK E s) (hZ : ZZ E s) (hW : WD E ad (M, N) H) (hS : va_S (ow E) s.heap H locs) (hsz : ls.size = nL) {x1 : Int32} {r : Int32} {Mr : Mem} (hf : f_yX8_broken M x1 = some (r, Mr)) (hn : Cond.methodLink own index yX8_broken ∈ TB) (hR : 3 + 1 ≤ R.frames ∧ 8 + (3 + 11) + 67 ≤ R.locals) (hC : cells ≤ R.cells ∧ slots ≤ R.slots) (h8 : (rest.map fun v => v.category).sum ≤ 8) (hdg : decode cc pc = .ok (.invokevirtual index, 3)) (kk : ∀ (H1 : Heap) (locs1 : List Loc), WD E ad (Mr, N) H1 → va_S (ow E) s.heap H1 locs1 → W p l e R s m args below meth c H1 locs1 cells slots Q (F0 m (pc + 3) ls (.int r :: rest))) : W p l e R s m args below meth c H locs cells slots Q (F0 m pc ls (.int x1 :: .ref (ad 0 0) :: rest)) := by
  refine va_calli (va_runV (C := RX8) (As := [.int x1]) (rest := rest) ⟨X.1, X.2.1, X.2.2.1, X.2.2.2.1, X.2.2.2.2.1⟩ (c_yX8_broken l E ad M N x1 r Mr hf) (cwV 1 X.2.2.2.2.1 (gV hn im_yX8_broken se_yX8_broken iniRX8 cd_yX8_broken) rfl rfl rfl (by decide +kernel) hR) ⟨fun a U g mk q => ⟨q.1, q.2.calling⟩, va_recv hK.1 (hW.at (c := 0) (i := 0) Nat.zero_lt_one rfl) (ci := 8) (q0 := 0) rfl rfl, fun U hU hw => ⟨rfl, PB.at hW hK hZ hS hU hw⟩⟩ rfl rfl hsz rfl (lv_room h8) hdg hC) hS (fun _ _ h => h) (fun _ h => h) (fun r' u t H1 locs1 ht hvm hw hB hz1 hk1 hS1 => ?_)
  obtain ⟨rfl, rfl⟩ := hw
  rw [ht] at hB
  exact kk H1 locs1 hB hS1
def f_yX8_log (M : Mem) (x1 : Int32) (x2 : Int32) : Option (Int32) := (if x1 < 0 then (some (-1)) else (if x2 < 0 then (some (-1)) else (if x2 ≤ 2 then ob1 (f_yX6_logged M x1 x2) (fun r5 => (some r5)) else (some (-1)))))
set_option maxRecDepth 100000 in
set_option maxHeartbeats 4000000 in
theorem c_yX8_log (l : Launch) (E : Lay) (ad : Nat → Nat → Nat) (M N : Mem) (x1 : Int32) (x2 : Int32) (r : Int32) (hf : f_yX8_log M x1 x2 = some r) : Met l yX8_log (Cond.code yX8_log cX8_log 3 (some .int) :: TB) (rmm 2 44) (va_Pc [.ref (ad 0 0), .int x1, .int x2] (PB E ad (M, N))) (Qi E ad r (M, N)) 0 0 (ow E) := by
  refine Met.ofW (cc := cX8_log) (maxL := 3) (ret := (some .int)) (by decide) rfl ?_
  intro p e s m args below meth c s₁ B hml hv
  obtain ⟨rfl, hW, hK, hZ⟩ := hv
  have hT : ∀ w ∈ TB, w.before _ s = true := fun w h => atoms_spec (ws := (Cond.code yX8_log cX8_log 3 (some .int) :: TB)) B.pre w (List.mem_cons_of_mem _ h)
  have X : CX p s m _ meth c cX8_log 3 (some .int) RX8 := ⟨B.exec, B.bytes, hml, findClass_of_methodNamed B.named, hT, B.returns, B.notSynchronized⟩
  obtain ⟨hx, hb, hml, hown, hT, hr, hlk⟩ := id X
  have hS : va_S (ow E) s.heap s.heap [] := va_S.rf
  have hl := lv_entry ([.ref (ad 0 0), .int x1, .int x2]) (n := 3) (Nat.le_of_ble_eq_true rfl)
  rw [lg_entry_eq]
  generalize (lg_sl ([.ref (ad 0 0), .int x1, .int x2]) ++ List.replicate (3 - (lg_sl ([.ref (ad 0 0), .int x1, .int x2])).length) Slot.unset).toArray = ls at hl ⊢
  have hl : lv_has ls 3 [(0, .ref (ad 0 0)), (1, .int x1), (2, .int x2)] := hl
  unfold f_yX8_log at hf
  refine lv_iload_n hx hb dX8_log_0 rfl (lv_at hl 1 rfl) ?_
  refine lv_if_lt (tgt := 13) hx hb dX8_log_1 (by decide) (fun c1 => ?_) (fun c1 => ?_)
  · rw [if_pos c1] at hf
    refine lv_iconst (v := -1) hx hb dX8_log_13 (by decide) ?_
    refine lv_goto (tgt := 26) hx hb dX8_log_14 (by decide) ?_
    obtain rfl := sp1 hf
    exact e_i ⟨hx, hb, hr, hlk⟩ hW hS dX8_log_26
  · rw [if_neg c1] at hf
    refine lv_iload_n hx hb dX8_log_4 rfl (lv_at hl 2 rfl) ?_
    refine lv_if_lt (tgt := 13) hx hb dX8_log_5 (by decide) (fun c2 => ?_) (fun c2 => ?_)
    · rw [if_pos c2] at hf
      refine lv_iconst (v := -1) hx hb dX8_log_13 (by decide) ?_
      refine lv_goto (tgt := 26) hx hb dX8_log_14 (by decide) ?_
      obtain rfl := sp1 hf
      exact e_i ⟨hx, hb, hr, hlk⟩ hW hS dX8_log_26
    · rw [if_neg c2] at hf
      refine lv_iload_n hx hb dX8_log_8 rfl (lv_at hl 2 rfl) ?_
      refine lv_iconst (v := 2) hx hb dX8_log_9 (by decide) ?_
      refine lv_icmp_le (tgt := 17) hx hb dX8_log_10 (by decide) (fun c3 => ?_) (fun c3 => ?_)
      · rw [if_pos c3] at hf
        refine lv_aload_n hx hb dX8_log_17 rfl (lv_at hl 0 rfl) ?_
        refine g_8_3 X hK hW flRX8_37 dX8_log_18 ?_
        refine lv_iload_n hx hb dX8_log_21 rfl (lv_at hl 1 rfl) ?_
        refine lv_iload_n hx hb dX8_log_22 rfl (lv_at hl 2 rfl) ?_
        obtain ⟨r5, h4, hf⟩ := ob1_some hf
        refine k_yX6_logged X hK hZ hW hS hl.1 h4 mlRX8_212 ⟨Nat.le_of_ble_eq_true rfl, Nat.le_of_ble_eq_true rfl⟩ ⟨Nat.le_of_ble_eq_true rfl, Nat.le_of_ble_eq_true rfl⟩ (Nat.le_of_ble_eq_true rfl) dX8_log_23 (fun H locs hW hS => ?_)
        obtain rfl := sp1 hf
        exact e_i ⟨hx, hb, hr, hlk⟩ hW hS dX8_log_26
      · rw [if_neg c3] at hf
        refine lv_iconst (v := -1) hx hb dX8_log_13 (by decide) ?_
        refine lv_goto (tgt := 26) hx hb dX8_log_14 (by decide) ?_
        obtain rfl := sp1 hf
        exact e_i ⟨hx, hb, hr, hlk⟩ hW hS dX8_log_26
set_option maxRecDepth 100000 in
set_option maxHeartbeats 4000000 in
theorem k_yX8_log {p : Program} {l : Launch} {e : Env} {R : Room} {s : State} {m : MethodId} {args : Array Value} {below : List Frame} {meth : Method} {c : Code} {H : Heap} {locs : List Loc} {cells slots : Nat} {Q : State → Prop} {cc : ByteArray} {pc nL index : Nat} {ret : Option FieldType} {own : String} {ls : Array Slot} {rest : List Value} {E : Lay} {ad : Nat → Nat → Nat} {M N : Mem} (X : CX p s m args meth c cc nL ret own) (hK : KK E s) (hZ : ZZ E s) (hW : WD E ad (M, N) H) (hS : va_S (ow E) s.heap H locs) (hsz : ls.size = nL) {x1 : Int32} {x2 : Int32} {r : Int32} (hf : f_yX8_log M x1 x2 = some r) (hn : Cond.methodLink own index yX8_log ∈ TB) (hR : 2 + 1 ≤ R.frames ∧ 8 + (3 + 11) + 44 ≤ R.locals) (hC : cells ≤ R.cells ∧ slots ≤ R.slots) (h8 : (rest.map fun v => v.category).sum ≤ 8) (hdg : decode cc pc = .ok (.invokevirtual index, 3)) (kk : ∀ (H1 : Heap) (locs1 : List Loc), WD E ad (M, N) H1 → va_S (ow E) s.heap H1 locs1 → W p l e R s m args below meth c H1 locs1 cells slots Q (F0 m (pc + 3) ls (.int r :: rest))) : W p l e R s m args below meth c H locs cells slots Q (F0 m pc ls (.int x2 :: .int x1 :: .ref (ad 0 0) :: rest)) := by
  refine va_calli (va_runV (C := RX8) (As := [.int x1, .int x2]) (rest := rest) ⟨X.1, X.2.1, X.2.2.1, X.2.2.2.1, X.2.2.2.2.1⟩ (c_yX8_log l E ad M N x1 x2 r hf) (cwV 2 X.2.2.2.2.1 (gV hn im_yX8_log se_yX8_log iniRX8 cd_yX8_log) rfl rfl rfl (by decide +kernel) hR) ⟨fun a U g mk q => ⟨q.1, q.2.calling⟩, va_recv hK.1 (hW.at (c := 0) (i := 0) Nat.zero_lt_one rfl) (ci := 8) (q0 := 0) rfl rfl, fun U hU hw => ⟨rfl, PB.at hW hK hZ hS hU hw⟩⟩ rfl rfl hsz rfl (lv_room h8) hdg hC) hS (fun _ _ h => h) (fun _ h => h) (fun r' u t H1 locs1 ht hvm hw hB hz1 hk1 hS1 => ?_)
  obtain ⟨rfl, rfl⟩ := hw
  rw [ht] at hB
  exact kk H1 locs1 hB hS1
def f_yX8_count (M : Mem) (x1 : Int32) : Option (Int32) := (if x1 < 1 then (if x1 = 0 then (some (M 2 0 0)) else (if x1 = 1 then (some (-1)) else (if x1 = 2 then (some (-1)) else (if x1 = 3 then (some (-1)) else (if x1 = 4 then (some (-1)) else (if x1 = 5 then (some (-1)) else (if x1 = 6 then (some (-1)) else (if x1 = 7 then (some (-1)) else (if x1 = 8 then (some (-1)) else (if x1 = 9 then (some (-1)) else (if x1 = 10 then (some (-1)) else (if x1 = 11 then (some (-1)) else (if x1 = 12 then (some (M 4 0 0)) else (if x1 = 13 then (some (M 1 0 0)) else (if x1 = 14 then ob1 (f_yX1_howManyUnderWay M) (fun r18 => (some r18)) else (if x1 = 15 then (some (M 3 0 0)) else (if x1 = 16 then (some (M 4 0 1)) else (some (-1))))))))))))))))))) else (if 11 < x1 then (if x1 = 0 then (some (M 2 0 0)) else (if x1 = 1 then (some (-1)) else (if x1 = 2 then (some (-1)) else (if x1 = 3 then (some (-1)) else (if x1 = 4 then (some (-1)) else (if x1 = 5 then (some (-1)) else (if x1 = 6 then (some (-1)) else (if x1 = 7 then (some (-1)) else (if x1 = 8 then (some (-1)) else (if x1 = 9 then (some (-1)) else (if x1 = 10 then (some (-1)) else (if x1 = 11 then (some (-1)) else (if x1 = 12 then (some (M 4 0 0)) else (if x1 = 13 then (some (M 1 0 0)) else (if x1 = 14 then ob1 (f_yX1_howManyUnderWay M) (fun r38 => (some r38)) else (if x1 = 15 then (some (M 3 0 0)) else (if x1 = 16 then (some (M 4 0 1)) else (some (-1))))))))))))))))))) else gd (¬ (x1 < 0 ∨ 12 ≤ x1.toNatClampNeg)) ((some (M 12 0 x1.toNatClampNeg)))))
set_option maxRecDepth 100000 in
set_option maxHeartbeats 4000000 in
theorem c_yX8_count (l : Launch) (E : Lay) (ad : Nat → Nat → Nat) (M N : Mem) (x1 : Int32) (r : Int32) (hf : f_yX8_count M x1 = some r) : Met l yX8_count (Cond.code yX8_count cX8_count 2 (some .int) :: TB) (rmm 2 45) (va_Pc [.ref (ad 0 0), .int x1] (PB E ad (M, N))) (Qi E ad r (M, N)) 0 0 (ow E) := by
  refine Met.ofW (cc := cX8_count) (maxL := 2) (ret := (some .int)) (by decide) rfl ?_
  intro p e s m args below meth c s₁ B hml hv
  obtain ⟨rfl, hW, hK, hZ⟩ := hv
  have hT : ∀ w ∈ TB, w.before _ s = true := fun w h => atoms_spec (ws := (Cond.code yX8_count cX8_count 2 (some .int) :: TB)) B.pre w (List.mem_cons_of_mem _ h)
  have X : CX p s m _ meth c cX8_count 2 (some .int) RX8 := ⟨B.exec, B.bytes, hml, findClass_of_methodNamed B.named, hT, B.returns, B.notSynchronized⟩
  obtain ⟨hx, hb, hml, hown, hT, hr, hlk⟩ := id X
  have hS : va_S (ow E) s.heap s.heap [] := va_S.rf
  have hl := lv_entry ([.ref (ad 0 0), .int x1]) (n := 2) (Nat.le_of_ble_eq_true rfl)
  rw [lg_entry_eq]
  generalize (lg_sl ([.ref (ad 0 0), .int x1]) ++ List.replicate (2 - (lg_sl ([.ref (ad 0 0), .int x1])).length) Slot.unset).toArray = ls at hl ⊢
  have hl : lv_has ls 2 [(0, .ref (ad 0 0)), (1, .int x1)] := hl
  unfold f_yX8_count at hf
  refine lv_iload_n hx hb dX8_count_0 rfl (lv_at hl 1 rfl) ?_
  refine lv_iconst (v := 1) hx hb dX8_count_1 (by decide) ?_
  refine lv_icmp_lt (tgt := 21) hx hb dX8_count_2 (by decide) (fun c1 => ?_) (fun c1 => ?_)
  · rw [if_pos c1] at hf
    refine lv_iload_n hx hb dX8_count_21 rfl (lv_at hl 1 rfl) ?_
    by_cases c2 : x1 = 0
    · rw [if_pos c2] at hf
      refine lv_tableIn (tgt := 104) hx hb dX8_count_22 (by rw [c2]; decide) (by rw [c2]; decide) (by rw [c2]; rfl) (by decide) ?_
      refine lv_aload_n hx hb dX8_count_104 rfl (lv_at hl 0 rfl) ?_
      refine g_8_1 X hK hW flRX8_21 dX8_count_105 ?_
      refine g_1_2 X hK hW flRX8_218 dX8_count_108 ?_
      obtain rfl := sp1 hf
      exact e_i ⟨hx, hb, hr, hlk⟩ hW hS dX8_count_111
    rw [if_neg c2] at hf
    by_cases c3 : x1 = 1
    · rw [if_pos c3] at hf
      refine lv_tableIn (tgt := 152) hx hb dX8_count_22 (by rw [c3]; decide) (by rw [c3]; decide) (by rw [c3]; rfl) (by decide) ?_
      refine lv_iconst (v := -1) hx hb dX8_count_152 (by decide) ?_
      obtain rfl := sp1 hf
      exact e_i ⟨hx, hb, hr, hlk⟩ hW hS dX8_count_153
    rw [if_neg c3] at hf
    by_cases c4 : x1 = 2
    · rw [if_pos c4] at hf
      refine lv_tableIn (tgt := 152) hx hb dX8_count_22 (by rw [c4]; decide) (by rw [c4]; decide) (by rw [c4]; rfl) (by decide) ?_
      refine lv_iconst (v := -1) hx hb dX8_count_152 (by decide) ?_
      obtain rfl := sp1 hf
      exact e_i ⟨hx, hb, hr, hlk⟩ hW hS dX8_count_153
    rw [if_neg c4] at hf
    by_cases c5 : x1 = 3
    · rw [if_pos c5] at hf
      refine lv_tableIn (tgt := 152) hx hb dX8_count_22 (by rw [c5]; decide) (by rw [c5]; decide) (by rw [c5]; rfl) (by decide) ?_
      refine lv_iconst (v := -1) hx hb dX8_count_152 (by decide) ?_
      obtain rfl := sp1 hf
      exact e_i ⟨hx, hb, hr, hlk⟩ hW hS dX8_count_153
    rw [if_neg c5] at hf
    by_cases c6 : x1 = 4
    · rw [if_pos c6] at hf
      refine lv_tableIn (tgt := 152) hx hb dX8_count_22 (by rw [c6]; decide) (by rw [c6]; decide) (by rw [c6]; rfl) (by decide) ?_
      refine lv_iconst (v := -1) hx hb dX8_count_152 (by decide) ?_
      obtain rfl := sp1 hf
      exact e_i ⟨hx, hb, hr, hlk⟩ hW hS dX8_count_153
    rw [if_neg c6] at hf
    by_cases c7 : x1 = 5
    · rw [if_pos c7] at hf
      refine lv_tableIn (tgt := 152) hx hb dX8_count_22 (by rw [c7]; decide) (by rw [c7]; decide) (by rw [c7]; rfl) (by decide) ?_
      refine lv_iconst (v := -1) hx hb dX8_count_152 (by decide) ?_
      obtain rfl := sp1 hf
      exact e_i ⟨hx, hb, hr, hlk⟩ hW hS dX8_count_153
    rw [if_neg c7] at hf
    by_cases c8 : x1 = 6
    · rw [if_pos c8] at hf
      refine lv_tableIn (tgt := 152) hx hb dX8_count_22 (by rw [c8]; decide) (by rw [c8]; decide) (by rw [c8]; rfl) (by decide) ?_
      refine lv_iconst (v := -1) hx hb dX8_count_152 (by decide) ?_
      obtain rfl := sp1 hf
      exact e_i ⟨hx, hb, hr, hlk⟩ hW hS dX8_count_153
    rw [if_neg c8] at hf
    by_cases c9 : x1 = 7
    · rw [if_pos c9] at hf
      refine lv_tableIn (tgt := 152) hx hb dX8_count_22 (by rw [c9]; decide) (by rw [c9]; decide) (by rw [c9]; rfl) (by decide) ?_
      refine lv_iconst (v := -1) hx hb dX8_count_152 (by decide) ?_
      obtain rfl := sp1 hf
      exact e_i ⟨hx, hb, hr, hlk⟩ hW hS dX8_count_153
    rw [if_neg c9] at hf
    by_cases c10 : x1 = 8
    · rw [if_pos c10] at hf
      refine lv_tableIn (tgt := 152) hx hb dX8_count_22 (by rw [c10]; decide) (by rw [c10]; decide) (by rw [c10]; rfl) (by decide) ?_
      refine lv_iconst (v := -1) hx hb dX8_count_152 (by decide) ?_
      obtain rfl := sp1 hf
      exact e_i ⟨hx, hb, hr, hlk⟩ hW hS dX8_count_153
    rw [if_neg c10] at hf
    by_cases c11 : x1 = 9
    · rw [if_pos c11] at hf
      refine lv_tableIn (tgt := 152) hx hb dX8_count_22 (by rw [c11]; decide) (by rw [c11]; decide) (by rw [c11]; rfl) (by decide) ?_
      refine lv_iconst (v := -1) hx hb dX8_count_152 (by decide) ?_
      obtain rfl := sp1 hf
      exact e_i ⟨hx, hb, hr, hlk⟩ hW hS dX8_count_153
    rw [if_neg c11] at hf
    by_cases c12 : x1 = 10
    · rw [if_pos c12] at hf
      refine lv_tableIn (tgt := 152) hx hb dX8_count_22 (by rw [c12]; decide) (by rw [c12]; decide) (by rw [c12]; rfl) (by decide) ?_
      refine lv_iconst (v := -1) hx hb dX8_count_152 (by decide) ?_
      obtain rfl := sp1 hf
      exact e_i ⟨hx, hb, hr, hlk⟩ hW hS dX8_count_153
    rw [if_neg c12] at hf
    by_cases c13 : x1 = 11
    · rw [if_pos c13] at hf
      refine lv_tableIn (tgt := 152) hx hb dX8_count_22 (by rw [c13]; decide) (by rw [c13]; decide) (by rw [c13]; rfl) (by decide) ?_
      refine lv_iconst (v := -1) hx hb dX8_count_152 (by decide) ?_
      obtain rfl := sp1 hf
      exact e_i ⟨hx, hb, hr, hlk⟩ hW hS dX8_count_153
    rw [if_neg c13] at hf
    by_cases c14 : x1 = 12
    · rw [if_pos c14] at hf
      refine lv_tableIn (tgt := 112) hx hb dX8_count_22 (by rw [c14]; decide) (by rw [c14]; decide) (by rw [c14]; rfl) (by decide) ?_
      refine lv_aload_n hx hb dX8_count_112 rfl (lv_at hl 0 rfl) ?_
      refine g_8_3 X hK hW flRX8_37 dX8_count_113 ?_
      refine g_6_2 X hK hW flRX8_161 dX8_count_116 ?_
      obtain rfl := sp1 hf
      exact e_i ⟨hx, hb, hr, hlk⟩ hW hS dX8_count_119
    rw [if_neg c14] at hf
    by_cases c15 : x1 = 13
    · rw [if_pos c15] at hf
      refine lv_tableIn (tgt := 120) hx hb dX8_count_22 (by rw [c15]; decide) (by rw [c15]; decide) (by rw [c15]; rfl) (by decide) ?_
      refine lv_aload_n hx hb dX8_count_120 rfl (lv_at hl 0 rfl) ?_
      refine g_8_0 X hK hW flRX8_10 dX8_count_121 ?_
      refine g_4_1 X hK hW flRX8_221 dX8_count_124 ?_
      obtain rfl := sp1 hf
      exact e_i ⟨hx, hb, hr, hlk⟩ hW hS dX8_count_127
    rw [if_neg c15] at hf
    by_cases c16 : x1 = 14
    · rw [if_pos c16] at hf
      refine lv_tableIn (tgt := 128) hx hb dX8_count_22 (by rw [c16]; decide) (by rw [c16]; decide) (by rw [c16]; rfl) (by decide) ?_
      refine lv_aload_n hx hb dX8_count_128 rfl (lv_at hl 0 rfl) ?_
      refine g_8_1 X hK hW flRX8_21 dX8_count_129 ?_
      obtain ⟨r18, h17, hf⟩ := ob1_some hf
      refine k_yX1_howManyUnderWay X hK hZ hW hS hl.1 h17 mlRX8_222 ⟨Nat.le_of_ble_eq_true rfl, Nat.le_of_ble_eq_true rfl⟩ ⟨Nat.le_of_ble_eq_true rfl, Nat.le_of_ble_eq_true rfl⟩ (Nat.le_of_ble_eq_true rfl) dX8_count_132 (fun H locs hW hS => ?_)
      obtain rfl := sp1 hf
      exact e_i ⟨hx, hb, hr, hlk⟩ hW hS dX8_count_135
    rw [if_neg c16] at hf
    by_cases c19 : x1 = 15
    · rw [if_pos c19] at hf
      refine lv_tableIn (tgt := 136) hx hb dX8_count_22 (by rw [c19]; decide) (by rw [c19]; decide) (by rw [c19]; rfl) (by decide) ?_
      refine lv_aload_n hx hb dX8_count_136 rfl (lv_at hl 0 rfl) ?_
      refine g_8_2 X hK hW flRX8_30 dX8_count_137 ?_
      refine g_0_2 X hK hW flRX8_225 dX8_count_140 ?_
      obtain rfl := sp1 hf
      exact e_i ⟨hx, hb, hr, hlk⟩ hW hS dX8_count_143
    rw [if_neg c19] at hf
    by_cases c20 : x1 = 16
    · rw [if_pos c20] at hf
      refine lv_tableIn (tgt := 144) hx hb dX8_count_22 (by rw [c20]; decide) (by rw [c20]; decide) (by rw [c20]; rfl) (by decide) ?_
      refine lv_aload_n hx hb dX8_count_144 rfl (lv_at hl 0 rfl) ?_
      refine g_8_3 X hK hW flRX8_37 dX8_count_145 ?_
      refine g_6_3 X hK hW flRX8_226 dX8_count_148 ?_
      obtain rfl := sp1 hf
      exact e_i ⟨hx, hb, hr, hlk⟩ hW hS dX8_count_151
    rw [if_neg c20] at hf
    refine lv_tableOut (tgt := 152) hx hb dX8_count_22 (by have := lv_neT (a := 0) c2 (by decide); have := lv_neT (a := 1) c3 (by decide); have := lv_neT (a := 2) c4 (by decide); have := lv_neT (a := 3) c5 (by decide); have := lv_neT (a := 4) c6 (by decide); have := lv_neT (a := 5) c7 (by decide); have := lv_neT (a := 6) c8 (by decide); have := lv_neT (a := 7) c9 (by decide); have := lv_neT (a := 8) c10 (by decide); have := lv_neT (a := 9) c11 (by decide); have := lv_neT (a := 10) c12 (by decide); have := lv_neT (a := 11) c13 (by decide); have := lv_neT (a := 12) c14 (by decide); have := lv_neT (a := 13) c15 (by decide); have := lv_neT (a := 14) c16 (by decide); have := lv_neT (a := 15) c19 (by decide); have := lv_neT (a := 16) c20 (by decide); omega) (by decide) ?_
    refine lv_iconst (v := -1) hx hb dX8_count_152 (by decide) ?_
    obtain rfl := sp1 hf
    exact e_i ⟨hx, hb, hr, hlk⟩ hW hS dX8_count_153
  · rw [if_neg c1] at hf
    refine lv_iload_n hx hb dX8_count_5 rfl (lv_at hl 1 rfl) ?_
    refine lv_bipush (v := 11) hx hb dX8_count_6 (by decide) ?_
    refine lv_icmp_gt (tgt := 21) hx hb dX8_count_8 (by decide) (fun c21 => ?_) (fun c21 => ?_)
    · rw [if_pos c21] at hf
      refine lv_iload_n hx hb dX8_count_21 rfl (lv_at hl 1 rfl) ?_
      by_cases c22 : x1 = 0
      · rw [if_pos c22] at hf
        refine lv_tableIn (tgt := 104) hx hb dX8_count_22 (by rw [c22]; decide) (by rw [c22]; decide) (by rw [c22]; rfl) (by decide) ?_
        refine lv_aload_n hx hb dX8_count_104 rfl (lv_at hl 0 rfl) ?_
        refine g_8_1 X hK hW flRX8_21 dX8_count_105 ?_
        refine g_1_2 X hK hW flRX8_218 dX8_count_108 ?_
        obtain rfl := sp1 hf
        exact e_i ⟨hx, hb, hr, hlk⟩ hW hS dX8_count_111
      rw [if_neg c22] at hf
      by_cases c23 : x1 = 1
      · rw [if_pos c23] at hf
        refine lv_tableIn (tgt := 152) hx hb dX8_count_22 (by rw [c23]; decide) (by rw [c23]; decide) (by rw [c23]; rfl) (by decide) ?_
        refine lv_iconst (v := -1) hx hb dX8_count_152 (by decide) ?_
        obtain rfl := sp1 hf
        exact e_i ⟨hx, hb, hr, hlk⟩ hW hS dX8_count_153
      rw [if_neg c23] at hf
      by_cases c24 : x1 = 2
      · rw [if_pos c24] at hf
        refine lv_tableIn (tgt := 152) hx hb dX8_count_22 (by rw [c24]; decide) (by rw [c24]; decide) (by rw [c24]; rfl) (by decide) ?_
        refine lv_iconst (v := -1) hx hb dX8_count_152 (by decide) ?_
        obtain rfl := sp1 hf
        exact e_i ⟨hx, hb, hr, hlk⟩ hW hS dX8_count_153
      rw [if_neg c24] at hf
      by_cases c25 : x1 = 3
      · rw [if_pos c25] at hf
        refine lv_tableIn (tgt := 152) hx hb dX8_count_22 (by rw [c25]; decide) (by rw [c25]; decide) (by rw [c25]; rfl) (by decide) ?_
        refine lv_iconst (v := -1) hx hb dX8_count_152 (by decide) ?_
        obtain rfl := sp1 hf
        exact e_i ⟨hx, hb, hr, hlk⟩ hW hS dX8_count_153
      rw [if_neg c25] at hf
      by_cases c26 : x1 = 4
      · rw [if_pos c26] at hf
        refine lv_tableIn (tgt := 152) hx hb dX8_count_22 (by rw [c26]; decide) (by rw [c26]; decide) (by rw [c26]; rfl) (by decide) ?_
        refine lv_iconst (v := -1) hx hb dX8_count_152 (by decide) ?_
        obtain rfl := sp1 hf
        exact e_i ⟨hx, hb, hr, hlk⟩ hW hS dX8_count_153
      rw [if_neg c26] at hf
      by_cases c27 : x1 = 5
      · rw [if_pos c27] at hf
        refine lv_tableIn (tgt := 152) hx hb dX8_count_22 (by rw [c27]; decide) (by rw [c27]; decide) (by rw [c27]; rfl) (by decide) ?_
        refine lv_iconst (v := -1) hx hb dX8_count_152 (by decide) ?_
        obtain rfl := sp1 hf
        exact e_i ⟨hx, hb, hr, hlk⟩ hW hS dX8_count_153
      rw [if_neg c27] at hf
      by_cases c28 : x1 = 6
      · rw [if_pos c28] at hf
        refine lv_tableIn (tgt := 152) hx hb dX8_count_22 (by rw [c28]; decide) (by rw [c28]; decide) (by rw [c28]; rfl) (by decide) ?_
        refine lv_iconst (v := -1) hx hb dX8_count_152 (by decide) ?_
        obtain rfl := sp1 hf
        exact e_i ⟨hx, hb, hr, hlk⟩ hW hS dX8_count_153
      rw [if_neg c28] at hf
      by_cases c29 : x1 = 7
      · rw [if_pos c29] at hf
        refine lv_tableIn (tgt := 152) hx hb dX8_count_22 (by rw [c29]; decide) (by rw [c29]; decide) (by rw [c29]; rfl) (by decide) ?_
        refine lv_iconst (v := -1) hx hb dX8_count_152 (by decide) ?_
        obtain rfl := sp1 hf
        exact e_i ⟨hx, hb, hr, hlk⟩ hW hS dX8_count_153
      rw [if_neg c29] at hf
      by_cases c30 : x1 = 8
      · rw [if_pos c30] at hf
        refine lv_tableIn (tgt := 152) hx hb dX8_count_22 (by rw [c30]; decide) (by rw [c30]; decide) (by rw [c30]; rfl) (by decide) ?_
        refine lv_iconst (v := -1) hx hb dX8_count_152 (by decide) ?_
        obtain rfl := sp1 hf
        exact e_i ⟨hx, hb, hr, hlk⟩ hW hS dX8_count_153
      rw [if_neg c30] at hf
      by_cases c31 : x1 = 9
      · rw [if_pos c31] at hf
        refine lv_tableIn (tgt := 152) hx hb dX8_count_22 (by rw [c31]; decide) (by rw [c31]; decide) (by rw [c31]; rfl) (by decide) ?_
        refine lv_iconst (v := -1) hx hb dX8_count_152 (by decide) ?_
        obtain rfl := sp1 hf
        exact e_i ⟨hx, hb, hr, hlk⟩ hW hS dX8_count_153
      rw [if_neg c31] at hf
      by_cases c32 : x1 = 10
      · rw [if_pos c32] at hf
        refine lv_tableIn (tgt := 152) hx hb dX8_count_22 (by rw [c32]; decide) (by rw [c32]; decide) (by rw [c32]; rfl) (by decide) ?_
        refine lv_iconst (v := -1) hx hb dX8_count_152 (by decide) ?_
        obtain rfl := sp1 hf
        exact e_i ⟨hx, hb, hr, hlk⟩ hW hS dX8_count_153
      rw [if_neg c32] at hf
      by_cases c33 : x1 = 11
      · rw [if_pos c33] at hf
        refine lv_tableIn (tgt := 152) hx hb dX8_count_22 (by rw [c33]; decide) (by rw [c33]; decide) (by rw [c33]; rfl) (by decide) ?_
        refine lv_iconst (v := -1) hx hb dX8_count_152 (by decide) ?_
        obtain rfl := sp1 hf
        exact e_i ⟨hx, hb, hr, hlk⟩ hW hS dX8_count_153
      rw [if_neg c33] at hf
      by_cases c34 : x1 = 12
      · rw [if_pos c34] at hf
        refine lv_tableIn (tgt := 112) hx hb dX8_count_22 (by rw [c34]; decide) (by rw [c34]; decide) (by rw [c34]; rfl) (by decide) ?_
        refine lv_aload_n hx hb dX8_count_112 rfl (lv_at hl 0 rfl) ?_
        refine g_8_3 X hK hW flRX8_37 dX8_count_113 ?_
        refine g_6_2 X hK hW flRX8_161 dX8_count_116 ?_
        obtain rfl := sp1 hf
        exact e_i ⟨hx, hb, hr, hlk⟩ hW hS dX8_count_119
      rw [if_neg c34] at hf
      by_cases c35 : x1 = 13
      · rw [if_pos c35] at hf
        refine lv_tableIn (tgt := 120) hx hb dX8_count_22 (by rw [c35]; decide) (by rw [c35]; decide) (by rw [c35]; rfl) (by decide) ?_
        refine lv_aload_n hx hb dX8_count_120 rfl (lv_at hl 0 rfl) ?_
        refine g_8_0 X hK hW flRX8_10 dX8_count_121 ?_
        refine g_4_1 X hK hW flRX8_221 dX8_count_124 ?_
        obtain rfl := sp1 hf
        exact e_i ⟨hx, hb, hr, hlk⟩ hW hS dX8_count_127
      rw [if_neg c35] at hf
      by_cases c36 : x1 = 14
      · rw [if_pos c36] at hf
        refine lv_tableIn (tgt := 128) hx hb dX8_count_22 (by rw [c36]; decide) (by rw [c36]; decide) (by rw [c36]; rfl) (by decide) ?_
        refine lv_aload_n hx hb dX8_count_128 rfl (lv_at hl 0 rfl) ?_
        refine g_8_1 X hK hW flRX8_21 dX8_count_129 ?_
        obtain ⟨r38, h37, hf⟩ := ob1_some hf
        refine k_yX1_howManyUnderWay X hK hZ hW hS hl.1 h37 mlRX8_222 ⟨Nat.le_of_ble_eq_true rfl, Nat.le_of_ble_eq_true rfl⟩ ⟨Nat.le_of_ble_eq_true rfl, Nat.le_of_ble_eq_true rfl⟩ (Nat.le_of_ble_eq_true rfl) dX8_count_132 (fun H locs hW hS => ?_)
        obtain rfl := sp1 hf
        exact e_i ⟨hx, hb, hr, hlk⟩ hW hS dX8_count_135
      rw [if_neg c36] at hf
      by_cases c39 : x1 = 15
      · rw [if_pos c39] at hf
        refine lv_tableIn (tgt := 136) hx hb dX8_count_22 (by rw [c39]; decide) (by rw [c39]; decide) (by rw [c39]; rfl) (by decide) ?_
        refine lv_aload_n hx hb dX8_count_136 rfl (lv_at hl 0 rfl) ?_
        refine g_8_2 X hK hW flRX8_30 dX8_count_137 ?_
        refine g_0_2 X hK hW flRX8_225 dX8_count_140 ?_
        obtain rfl := sp1 hf
        exact e_i ⟨hx, hb, hr, hlk⟩ hW hS dX8_count_143
      rw [if_neg c39] at hf
      by_cases c40 : x1 = 16
      · rw [if_pos c40] at hf
        refine lv_tableIn (tgt := 144) hx hb dX8_count_22 (by rw [c40]; decide) (by rw [c40]; decide) (by rw [c40]; rfl) (by decide) ?_
        refine lv_aload_n hx hb dX8_count_144 rfl (lv_at hl 0 rfl) ?_
        refine g_8_3 X hK hW flRX8_37 dX8_count_145 ?_
        refine g_6_3 X hK hW flRX8_226 dX8_count_148 ?_
        obtain rfl := sp1 hf
        exact e_i ⟨hx, hb, hr, hlk⟩ hW hS dX8_count_151
      rw [if_neg c40] at hf
      refine lv_tableOut (tgt := 152) hx hb dX8_count_22 (by have := lv_neT (a := 0) c22 (by decide); have := lv_neT (a := 1) c23 (by decide); have := lv_neT (a := 2) c24 (by decide); have := lv_neT (a := 3) c25 (by decide); have := lv_neT (a := 4) c26 (by decide); have := lv_neT (a := 5) c27 (by decide); have := lv_neT (a := 6) c28 (by decide); have := lv_neT (a := 7) c29 (by decide); have := lv_neT (a := 8) c30 (by decide); have := lv_neT (a := 9) c31 (by decide); have := lv_neT (a := 10) c32 (by decide); have := lv_neT (a := 11) c33 (by decide); have := lv_neT (a := 12) c34 (by decide); have := lv_neT (a := 13) c35 (by decide); have := lv_neT (a := 14) c36 (by decide); have := lv_neT (a := 15) c39 (by decide); have := lv_neT (a := 16) c40 (by decide); omega) (by decide) ?_
      refine lv_iconst (v := -1) hx hb dX8_count_152 (by decide) ?_
      obtain rfl := sp1 hf
      exact e_i ⟨hx, hb, hr, hlk⟩ hW hS dX8_count_153
    · rw [if_neg c21] at hf
      refine lv_aload_n hx hb dX8_count_11 rfl (lv_at hl 0 rfl) ?_
      refine g_8_3 X hK hW flRX8_37 dX8_count_12 ?_
      refine g_6_0 X hK hW flRX8_215 dX8_count_15 ?_
      refine lv_iload_n hx hb dX8_count_18 rfl (lv_at hl 1 rfl) ?_
      obtain ⟨b41, hf⟩ := gd_some hf
      refine al_12 X hK hW b41 dX8_count_19 ?_
      obtain rfl := sp1 hf
      exact e_i ⟨hx, hb, hr, hlk⟩ hW hS dX8_count_20
set_option maxRecDepth 100000 in
set_option maxHeartbeats 4000000 in
theorem k_yX8_count {p : Program} {l : Launch} {e : Env} {R : Room} {s : State} {m : MethodId} {args : Array Value} {below : List Frame} {meth : Method} {c : Code} {H : Heap} {locs : List Loc} {cells slots : Nat} {Q : State → Prop} {cc : ByteArray} {pc nL index : Nat} {ret : Option FieldType} {own : String} {ls : Array Slot} {rest : List Value} {E : Lay} {ad : Nat → Nat → Nat} {M N : Mem} (X : CX p s m args meth c cc nL ret own) (hK : KK E s) (hZ : ZZ E s) (hW : WD E ad (M, N) H) (hS : va_S (ow E) s.heap H locs) (hsz : ls.size = nL) {x1 : Int32} {r : Int32} (hf : f_yX8_count M x1 = some r) (hn : Cond.methodLink own index yX8_count ∈ TB) (hR : 2 + 1 ≤ R.frames ∧ 8 + (2 + 11) + 45 ≤ R.locals) (hC : cells ≤ R.cells ∧ slots ≤ R.slots) (h8 : (rest.map fun v => v.category).sum ≤ 8) (hdg : decode cc pc = .ok (.invokevirtual index, 3)) (kk : ∀ (H1 : Heap) (locs1 : List Loc), WD E ad (M, N) H1 → va_S (ow E) s.heap H1 locs1 → W p l e R s m args below meth c H1 locs1 cells slots Q (F0 m (pc + 3) ls (.int r :: rest))) : W p l e R s m args below meth c H locs cells slots Q (F0 m pc ls (.int x1 :: .ref (ad 0 0) :: rest)) := by
  refine va_calli (va_runV (C := RX8) (As := [.int x1]) (rest := rest) ⟨X.1, X.2.1, X.2.2.1, X.2.2.2.1, X.2.2.2.2.1⟩ (c_yX8_count l E ad M N x1 r hf) (cwV 1 X.2.2.2.2.1 (gV hn im_yX8_count se_yX8_count iniRX8 cd_yX8_count) rfl rfl rfl (by decide +kernel) hR) ⟨fun a U g mk q => ⟨q.1, q.2.calling⟩, va_recv hK.1 (hW.at (c := 0) (i := 0) Nat.zero_lt_one rfl) (ci := 8) (q0 := 0) rfl rfl, fun U hU hw => ⟨rfl, PB.at hW hK hZ hS hU hw⟩⟩ rfl rfl hsz rfl (lv_room h8) hdg hC) hS (fun _ _ h => h) (fun _ h => h) (fun r' u t H1 locs1 ht hvm hw hB hz1 hk1 hS1 => ?_)
  obtain ⟨rfl, rfl⟩ := hw
  rw [ht] at hB
  exact kk H1 locs1 hB hS1
def f_yX8_fail (M : Mem) (i1 : Nat) (x2 : Int32) : Option Mem := (if x2 = 7 then ob1 (f_yX2_latestFor M i1 x2) (fun r21 => (if r21 = (-4) then ob1 (f_yX6_countFailure M x2 0) (fun M24 => ob1 (f_yX1_end M24 i1 x2 (M 6 i1 6)) (fun M27 => (some M27))) else ob1 (f_yX6_countFailure M x2 1) (fun M29 => lt1 (mp M29 6 i1 7 x2) (fun M31 => lt1 (mp M31 6 i1 8 (M 6 i1 6)) (fun M32 => ob1 (f_yX2_placeOf M32 i1 r21) (fun r34 => ob1 (f_yX5_jump M32 i1 r34) (fun M36 => lt1 (mp M36 7 i1 0 r21) (fun M37 => (some M37))))))))) else ob1 (f_yX2_latestFor M i1 x2) (fun r3 => (if r3 = (-4) then ob1 (f_yX6_countFailure M x2 0) (fun M6 => ob1 (f_yX1_end M6 i1 x2 0) (fun M9 => (some M9))) else ob1 (f_yX6_countFailure M x2 1) (fun M11 => lt1 (mp M11 6 i1 7 x2) (fun M13 => lt1 (mp M13 6 i1 8 0) (fun M14 => ob1 (f_yX2_placeOf M14 i1 r3) (fun r16 => ob1 (f_yX5_jump M14 i1 r16) (fun M18 => lt1 (mp M18 7 i1 0 r3) (fun M19 => (some M19))))))))))
set_option maxRecDepth 100000 in
set_option maxHeartbeats 4000000 in
theorem c_yX8_fail (l : Launch) (E : Lay) (ad : Nat → Nat → Nat) (M N : Mem) (i1 : Nat) (x2 : Int32) (w1 : i1 < 6) (Mr : Mem) (hf : f_yX8_fail M i1 x2 = some Mr) : Met l yX8_fail (Cond.code yX8_fail cX8_fail 5 none :: TB) (rmm 3 77) (va_Pc [.ref (ad 0 0), .ref (ad 6 i1), .int x2] (PB E ad (M, N))) (Qv E ad (Mr, N)) 0 0 (ow E) := by
  refine Met.ofW (cc := cX8_fail) (maxL := 5) (ret := none) (by decide) rfl ?_
  intro p e s m args below meth c s₁ B hml hv
  obtain ⟨rfl, hW, hK, hZ⟩ := hv
  have hT : ∀ w ∈ TB, w.before _ s = true := fun w h => atoms_spec (ws := (Cond.code yX8_fail cX8_fail 5 none :: TB)) B.pre w (List.mem_cons_of_mem _ h)
  have X : CX p s m _ meth c cX8_fail 5 none RX8 := ⟨B.exec, B.bytes, hml, findClass_of_methodNamed B.named, hT, B.returns, B.notSynchronized⟩
  obtain ⟨hx, hb, hml, hown, hT, hr, hlk⟩ := id X
  have hS : va_S (ow E) s.heap s.heap [] := va_S.rf
  have hl := lv_entry ([.ref (ad 0 0), .ref (ad 6 i1), .int x2]) (n := 5) (Nat.le_of_ble_eq_true rfl)
  rw [lg_entry_eq]
  generalize (lg_sl ([.ref (ad 0 0), .ref (ad 6 i1), .int x2]) ++ List.replicate (5 - (lg_sl ([.ref (ad 0 0), .ref (ad 6 i1), .int x2])).length) Slot.unset).toArray = ls at hl ⊢
  have hl : lv_has ls 5 [(0, .ref (ad 0 0)), (1, .ref (ad 6 i1)), (2, .int x2)] := hl
  unfold f_yX8_fail at hf
  refine lv_iload_n hx hb dX8_fail_0 rfl (lv_at hl 2 rfl) ?_
  refine lv_bipush (v := 7) hx hb dX8_fail_1 (by decide) ?_
  refine lv_icmp_ne (tgt := 13) hx hb dX8_fail_3 (by decide) (fun c1 => ?_) (fun c1 => ?_)
  · rw [if_neg c1] at hf
    refine lv_iconst (v := 0) hx hb dX8_fail_13 (by decide) ?_
    refine lv_istore_n (lv' := [(3, .int 0), (0, .ref (ad 0 0)), (1, .ref (ad 6 i1)), (2, .int x2)]) hx hb dX8_fail_14 rfl hl (by decide) rfl (fun ls hl => ?_)
    refine lv_aload_n hx hb dX8_fail_15 rfl (lv_at hl 2 rfl) ?_
    refine g_5_3 X hK hW w1 flRX8_193 dX8_fail_16 ?_
    refine lv_iload_n hx hb dX8_fail_19 rfl (lv_at hl 3 rfl) ?_
    obtain ⟨r3, h2, hf⟩ := ob1_some hf
    refine k_yX2_latestFor X hK hZ hW hS hl.1 w1 h2 mlRX8_261 ⟨Nat.le_of_ble_eq_true rfl, Nat.le_of_ble_eq_true rfl⟩ ⟨Nat.le_of_ble_eq_true rfl, Nat.le_of_ble_eq_true rfl⟩ (Nat.le_of_ble_eq_true rfl) dX8_fail_20 (fun H locs hW hS => ?_)
    refine lv_istore (lv' := [(4, .int r3), (3, .int 0), (0, .ref (ad 0 0)), (1, .ref (ad 6 i1)), (2, .int x2)]) hx hb dX8_fail_23 hl (by decide) rfl (fun ls hl => ?_)
    refine lv_aload_n hx hb dX8_fail_25 rfl (lv_at hl 2 rfl) ?_
    refine g_8_3 X hK hW flRX8_37 dX8_fail_26 ?_
    refine lv_iload_n hx hb dX8_fail_29 rfl (lv_at hl 4 rfl) ?_
    refine lv_iload hx hb dX8_fail_30 (lv_at hl 0 rfl) ?_
    refine lv_bipush (v := -4) hx hb dX8_fail_32 (by decide) ?_
    refine lv_icmp_eq (tgt := 41) hx hb dX8_fail_34 (by decide) (fun c4 => ?_) (fun c4 => ?_)
    · rw [if_pos c4] at hf
      refine lv_iconst (v := 0) hx hb dX8_fail_41 (by decide) ?_
      obtain ⟨M6, h5, hf⟩ := ob1_some hf
      refine k_yX6_countFailure X hK hZ hW hS hl.1 h5 mlRX8_264 ⟨Nat.le_of_ble_eq_true rfl, Nat.le_of_ble_eq_true rfl⟩ ⟨Nat.le_of_ble_eq_true rfl, Nat.le_of_ble_eq_true rfl⟩ (Nat.le_of_ble_eq_true rfl) dX8_fail_42 (fun H locs hW hS => ?_)
      refine lv_iload hx hb dX8_fail_45 (lv_at hl 0 rfl) ?_
      refine lv_bipush (v := -4) hx hb dX8_fail_47 (by decide) ?_
      refine lv_icmp_ne (tgt := 63) hx hb dX8_fail_49 (by decide) (fun c7 => ?_) (fun c7 => ?_)
      · exfalso; have := q_eq (b := -4) (by decide) c4; have := q_ne (b := -4) (by decide) c7; omega
      · skip
        refine lv_aload_n hx hb dX8_fail_52 rfl (lv_at hl 2 rfl) ?_
        refine g_8_1 X hK hW flRX8_21 dX8_fail_53 ?_
        refine lv_aload_n hx hb dX8_fail_56 rfl (lv_at hl 3 rfl) ?_
        refine lv_iload_n hx hb dX8_fail_57 rfl (lv_at hl 4 rfl) ?_
        refine lv_iload_n hx hb dX8_fail_58 rfl (lv_at hl 1 rfl) ?_
        obtain ⟨M9, h8, hf⟩ := ob1_some hf
        refine k_yX1_end X hK hZ hW hS hl.1 w1 h8 mlRX8_254 ⟨Nat.le_of_ble_eq_true rfl, Nat.le_of_ble_eq_true rfl⟩ ⟨Nat.le_of_ble_eq_true rfl, Nat.le_of_ble_eq_true rfl⟩ (Nat.le_of_ble_eq_true rfl) dX8_fail_59 (fun H locs hW hS => ?_)
        obtain rfl := sp1 hf
        exact e_v ⟨hx, hb, hr, hlk⟩ hW hS dX8_fail_62
    · rw [if_neg c4] at hf
      refine lv_iconst (v := 1) hx hb dX8_fail_37 (by decide) ?_
      refine lv_goto (tgt := 42) hx hb dX8_fail_38 (by decide) ?_
      obtain ⟨M11, h10, hf⟩ := ob1_some hf
      refine k_yX6_countFailure X hK hZ hW hS hl.1 h10 mlRX8_264 ⟨Nat.le_of_ble_eq_true rfl, Nat.le_of_ble_eq_true rfl⟩ ⟨Nat.le_of_ble_eq_true rfl, Nat.le_of_ble_eq_true rfl⟩ (Nat.le_of_ble_eq_true rfl) dX8_fail_42 (fun H locs hW hS => ?_)
      refine lv_iload hx hb dX8_fail_45 (lv_at hl 0 rfl) ?_
      refine lv_bipush (v := -4) hx hb dX8_fail_47 (by decide) ?_
      refine lv_icmp_ne (tgt := 63) hx hb dX8_fail_49 (by decide) (fun c12 => ?_) (fun c12 => ?_)
      · skip
        refine lv_aload_n hx hb dX8_fail_63 rfl (lv_at hl 3 rfl) ?_
        refine lv_iload_n hx hb dX8_fail_64 rfl (lv_at hl 4 rfl) ?_
        obtain ⟨M13, hM13, hf⟩ := lt1_some hf
        refine p_5_11 X hK hW hS w1 hM13 flRX8_268 dX8_fail_65 (fun H locs hW hS => ?_)
        refine lv_aload_n hx hb dX8_fail_68 rfl (lv_at hl 3 rfl) ?_
        refine lv_iload_n hx hb dX8_fail_69 rfl (lv_at hl 1 rfl) ?_
        obtain ⟨M14, hM14, hf⟩ := lt1_some hf
        refine p_5_12 X hK hW hS w1 hM14 flRX8_271 dX8_fail_70 (fun H locs hW hS => ?_)
        refine lv_aload_n hx hb dX8_fail_73 rfl (lv_at hl 3 rfl) ?_
        refine lv_aload_n hx hb dX8_fail_74 rfl (lv_at hl 3 rfl) ?_
        refine g_5_3 X hK hW w1 flRX8_193 dX8_fail_75 ?_
        refine lv_iload hx hb dX8_fail_78 (lv_at hl 0 rfl) ?_
        obtain ⟨r16, h15, hf⟩ := ob1_some hf
        refine k_yX2_placeOf X hK hZ hW hS hl.1 w1 h15 mlRX8_274 ⟨Nat.le_of_ble_eq_true rfl, Nat.le_of_ble_eq_true rfl⟩ ⟨Nat.le_of_ble_eq_true rfl, Nat.le_of_ble_eq_true rfl⟩ (Nat.le_of_ble_eq_true rfl) dX8_fail_80 (fun H locs hW hS => ?_)
        obtain ⟨M18, h17, hf⟩ := ob1_some hf
        refine k_yX5_jump X hK hZ hW hS hl.1 w1 h17 mlRX8_277 ⟨Nat.le_of_ble_eq_true rfl, Nat.le_of_ble_eq_true rfl⟩ ⟨Nat.le_of_ble_eq_true rfl, Nat.le_of_ble_eq_true rfl⟩ (Nat.le_of_ble_eq_true rfl) dX8_fail_83 (fun H locs hW hS => ?_)
        refine lv_aload_n hx hb dX8_fail_86 rfl (lv_at hl 3 rfl) ?_
        refine g_5_3 X hK hW w1 flRX8_193 dX8_fail_87 ?_
        refine lv_iload hx hb dX8_fail_90 (lv_at hl 0 rfl) ?_
        obtain ⟨M19, hM19, hf⟩ := lt1_some hf
        refine p_2_2 X hK hW hS w1 hM19 flRX8_197 dX8_fail_92 (fun H locs hW hS => ?_)
        obtain rfl := sp1 hf
        exact e_v ⟨hx, hb, hr, hlk⟩ hW hS dX8_fail_95
      · exfalso; have := q_ne (b := -4) (by decide) c4; have := q_eq (b := -4) (by decide) c12; omega
  · rw [if_pos c1] at hf
    refine lv_aload_n hx hb dX8_fail_6 rfl (lv_at hl 1 rfl) ?_
    refine g_5_10 X hK hW w1 flRX8_258 dX8_fail_7 ?_
    refine lv_goto (tgt := 14) hx hb dX8_fail_10 (by decide) ?_
    refine lv_istore_n (lv' := [(3, .int (M 6 i1 6)), (0, .ref (ad 0 0)), (1, .ref (ad 6 i1)), (2, .int x2)]) hx hb dX8_fail_14 rfl hl (by decide) rfl (fun ls hl => ?_)
    refine lv_aload_n hx hb dX8_fail_15 rfl (lv_at hl 2 rfl) ?_
    refine g_5_3 X hK hW w1 flRX8_193 dX8_fail_16 ?_
    refine lv_iload_n hx hb dX8_fail_19 rfl (lv_at hl 3 rfl) ?_
    obtain ⟨r21, h20, hf⟩ := ob1_some hf
    refine k_yX2_latestFor X hK hZ hW hS hl.1 w1 h20 mlRX8_261 ⟨Nat.le_of_ble_eq_true rfl, Nat.le_of_ble_eq_true rfl⟩ ⟨Nat.le_of_ble_eq_true rfl, Nat.le_of_ble_eq_true rfl⟩ (Nat.le_of_ble_eq_true rfl) dX8_fail_20 (fun H locs hW hS => ?_)
    refine lv_istore (lv' := [(4, .int r21), (3, .int (M 6 i1 6)), (0, .ref (ad 0 0)), (1, .ref (ad 6 i1)), (2, .int x2)]) hx hb dX8_fail_23 hl (by decide) rfl (fun ls hl => ?_)
    refine lv_aload_n hx hb dX8_fail_25 rfl (lv_at hl 2 rfl) ?_
    refine g_8_3 X hK hW flRX8_37 dX8_fail_26 ?_
    refine lv_iload_n hx hb dX8_fail_29 rfl (lv_at hl 4 rfl) ?_
    refine lv_iload hx hb dX8_fail_30 (lv_at hl 0 rfl) ?_
    refine lv_bipush (v := -4) hx hb dX8_fail_32 (by decide) ?_
    refine lv_icmp_eq (tgt := 41) hx hb dX8_fail_34 (by decide) (fun c22 => ?_) (fun c22 => ?_)
    · rw [if_pos c22] at hf
      refine lv_iconst (v := 0) hx hb dX8_fail_41 (by decide) ?_
      obtain ⟨M24, h23, hf⟩ := ob1_some hf
      refine k_yX6_countFailure X hK hZ hW hS hl.1 h23 mlRX8_264 ⟨Nat.le_of_ble_eq_true rfl, Nat.le_of_ble_eq_true rfl⟩ ⟨Nat.le_of_ble_eq_true rfl, Nat.le_of_ble_eq_true rfl⟩ (Nat.le_of_ble_eq_true rfl) dX8_fail_42 (fun H locs hW hS => ?_)
      refine lv_iload hx hb dX8_fail_45 (lv_at hl 0 rfl) ?_
      refine lv_bipush (v := -4) hx hb dX8_fail_47 (by decide) ?_
      refine lv_icmp_ne (tgt := 63) hx hb dX8_fail_49 (by decide) (fun c25 => ?_) (fun c25 => ?_)
      · exfalso; have := q_eq (b := -4) (by decide) c22; have := q_ne (b := -4) (by decide) c25; omega
      · skip
        refine lv_aload_n hx hb dX8_fail_52 rfl (lv_at hl 2 rfl) ?_
        refine g_8_1 X hK hW flRX8_21 dX8_fail_53 ?_
        refine lv_aload_n hx hb dX8_fail_56 rfl (lv_at hl 3 rfl) ?_
        refine lv_iload_n hx hb dX8_fail_57 rfl (lv_at hl 4 rfl) ?_
        refine lv_iload_n hx hb dX8_fail_58 rfl (lv_at hl 1 rfl) ?_
        obtain ⟨M27, h26, hf⟩ := ob1_some hf
        refine k_yX1_end X hK hZ hW hS hl.1 w1 h26 mlRX8_254 ⟨Nat.le_of_ble_eq_true rfl, Nat.le_of_ble_eq_true rfl⟩ ⟨Nat.le_of_ble_eq_true rfl, Nat.le_of_ble_eq_true rfl⟩ (Nat.le_of_ble_eq_true rfl) dX8_fail_59 (fun H locs hW hS => ?_)
        obtain rfl := sp1 hf
        exact e_v ⟨hx, hb, hr, hlk⟩ hW hS dX8_fail_62
    · rw [if_neg c22] at hf
      refine lv_iconst (v := 1) hx hb dX8_fail_37 (by decide) ?_
      refine lv_goto (tgt := 42) hx hb dX8_fail_38 (by decide) ?_
      obtain ⟨M29, h28, hf⟩ := ob1_some hf
      refine k_yX6_countFailure X hK hZ hW hS hl.1 h28 mlRX8_264 ⟨Nat.le_of_ble_eq_true rfl, Nat.le_of_ble_eq_true rfl⟩ ⟨Nat.le_of_ble_eq_true rfl, Nat.le_of_ble_eq_true rfl⟩ (Nat.le_of_ble_eq_true rfl) dX8_fail_42 (fun H locs hW hS => ?_)
      refine lv_iload hx hb dX8_fail_45 (lv_at hl 0 rfl) ?_
      refine lv_bipush (v := -4) hx hb dX8_fail_47 (by decide) ?_
      refine lv_icmp_ne (tgt := 63) hx hb dX8_fail_49 (by decide) (fun c30 => ?_) (fun c30 => ?_)
      · skip
        refine lv_aload_n hx hb dX8_fail_63 rfl (lv_at hl 3 rfl) ?_
        refine lv_iload_n hx hb dX8_fail_64 rfl (lv_at hl 4 rfl) ?_
        obtain ⟨M31, hM31, hf⟩ := lt1_some hf
        refine p_5_11 X hK hW hS w1 hM31 flRX8_268 dX8_fail_65 (fun H locs hW hS => ?_)
        refine lv_aload_n hx hb dX8_fail_68 rfl (lv_at hl 3 rfl) ?_
        refine lv_iload_n hx hb dX8_fail_69 rfl (lv_at hl 1 rfl) ?_
        obtain ⟨M32, hM32, hf⟩ := lt1_some hf
        refine p_5_12 X hK hW hS w1 hM32 flRX8_271 dX8_fail_70 (fun H locs hW hS => ?_)
        refine lv_aload_n hx hb dX8_fail_73 rfl (lv_at hl 3 rfl) ?_
        refine lv_aload_n hx hb dX8_fail_74 rfl (lv_at hl 3 rfl) ?_
        refine g_5_3 X hK hW w1 flRX8_193 dX8_fail_75 ?_
        refine lv_iload hx hb dX8_fail_78 (lv_at hl 0 rfl) ?_
        obtain ⟨r34, h33, hf⟩ := ob1_some hf
        refine k_yX2_placeOf X hK hZ hW hS hl.1 w1 h33 mlRX8_274 ⟨Nat.le_of_ble_eq_true rfl, Nat.le_of_ble_eq_true rfl⟩ ⟨Nat.le_of_ble_eq_true rfl, Nat.le_of_ble_eq_true rfl⟩ (Nat.le_of_ble_eq_true rfl) dX8_fail_80 (fun H locs hW hS => ?_)
        obtain ⟨M36, h35, hf⟩ := ob1_some hf
        refine k_yX5_jump X hK hZ hW hS hl.1 w1 h35 mlRX8_277 ⟨Nat.le_of_ble_eq_true rfl, Nat.le_of_ble_eq_true rfl⟩ ⟨Nat.le_of_ble_eq_true rfl, Nat.le_of_ble_eq_true rfl⟩ (Nat.le_of_ble_eq_true rfl) dX8_fail_83 (fun H locs hW hS => ?_)
        refine lv_aload_n hx hb dX8_fail_86 rfl (lv_at hl 3 rfl) ?_
        refine g_5_3 X hK hW w1 flRX8_193 dX8_fail_87 ?_
        refine lv_iload hx hb dX8_fail_90 (lv_at hl 0 rfl) ?_
        obtain ⟨M37, hM37, hf⟩ := lt1_some hf
        refine p_2_2 X hK hW hS w1 hM37 flRX8_197 dX8_fail_92 (fun H locs hW hS => ?_)
        obtain rfl := sp1 hf
        exact e_v ⟨hx, hb, hr, hlk⟩ hW hS dX8_fail_95
      · exfalso; have := q_ne (b := -4) (by decide) c22; have := q_eq (b := -4) (by decide) c30; omega
set_option maxRecDepth 100000 in
set_option maxHeartbeats 4000000 in
theorem k_yX8_fail {p : Program} {l : Launch} {e : Env} {R : Room} {s : State} {m : MethodId} {args : Array Value} {below : List Frame} {meth : Method} {c : Code} {H : Heap} {locs : List Loc} {cells slots : Nat} {Q : State → Prop} {cc : ByteArray} {pc nL index : Nat} {ret : Option FieldType} {own : String} {ls : Array Slot} {rest : List Value} {E : Lay} {ad : Nat → Nat → Nat} {M N : Mem} (X : CX p s m args meth c cc nL ret own) (hK : KK E s) (hZ : ZZ E s) (hW : WD E ad (M, N) H) (hS : va_S (ow E) s.heap H locs) (hsz : ls.size = nL) {i1 : Nat} {x2 : Int32} (w1 : i1 < 6) {Mr : Mem} (hf : f_yX8_fail M i1 x2 = some Mr) (hn : Cond.methodLink own index yX8_fail ∈ TB) (hR : 3 + 1 ≤ R.frames ∧ 8 + (5 + 11) + 77 ≤ R.locals) (hC : cells ≤ R.cells ∧ slots ≤ R.slots) (h8 : (rest.map fun v => v.category).sum ≤ 8) (hdg : decode cc pc = .ok (.invokevirtual index, 3)) (kk : ∀ (H1 : Heap) (locs1 : List Loc), WD E ad (Mr, N) H1 → va_S (ow E) s.heap H1 locs1 → W p l e R s m args below meth c H1 locs1 cells slots Q (F0 m (pc + 3) ls (rest))) : W p l e R s m args below meth c H locs cells slots Q (F0 m pc ls (.int x2 :: .ref (ad 6 i1) :: .ref (ad 0 0) :: rest)) := by
  refine va_callv (va_runV (C := RX8) (As := [.ref (ad 6 i1), .int x2]) (rest := rest) ⟨X.1, X.2.1, X.2.2.1, X.2.2.2.1, X.2.2.2.2.1⟩ (c_yX8_fail l E ad M N i1 x2 w1 Mr hf) (cwV 2 X.2.2.2.2.1 (gV hn im_yX8_fail se_yX8_fail iniRX8 cd_yX8_fail) rfl rfl rfl (by decide +kernel) hR) ⟨fun a U g mk q => ⟨q.1, q.2.calling⟩, va_recv hK.1 (hW.at (c := 0) (i := 0) Nat.zero_lt_one rfl) (ci := 8) (q0 := 0) rfl rfl, fun U hU hw => ⟨rfl, PB.at hW hK hZ hS hU hw⟩⟩ rfl rfl hsz rfl (lv_room h8) hdg hC) hS (fun _ _ h => h) (fun _ h => h) (fun u t H1 locs1 ht hvm hw hB hz1 hk1 hS1 => ?_)
  subst hw
  rw [ht] at hB
  exact kk H1 locs1 hB hS1
def f_yX0_reckon (M : Mem) (i1 : Nat) (x2 : Int32) (x3 : Int32) (x4 : Int32) (x5 : Int32) : Option (Int32 × Mem) := (if x2 = 0 then ob1 (f_yX5_keep M i1 x3 x4) (fun M3 => (some (0, M3))) else (if x2 = 1 then ob1 (f_yX5_kept M i1 x3) (fun r6 => ob1 (f_yX5_kept M i1 x4) (fun r8 => ob1 (f_yX5_keep M i1 x3 (r6 + r8)) (fun M10 => (some (0, M10))))) else (if x2 = 2 then ob1 (f_yX5_kept M i1 x3) (fun r13 => ob1 (f_yX5_kept M i1 x4) (fun r15 => ob1 (f_yX5_keep M i1 x3 (r13 - r15)) (fun M17 => (some (0, M17))))) else (if x2 = 3 then ob1 (f_yX5_kept M i1 x3) (fun r20 => ob1 (f_yX5_kept M i1 x4) (fun r22 => ob1 (f_yX5_keep M i1 x3 (r20 * r22)) (fun M24 => (some (0, M24))))) else (if x2 = 4 then ob1 (f_yX5_kept M i1 x4) (fun r27 => ob2 (f_yX0_divide M i1 x3 r27) (fun r29 M30 => (some (r29, M30)))) else (if x2 = 5 then ob1 (f_yX5_kept M i1 x4) (fun r33 => ob1 (f_yX5_kept M i1 x5) (fun r35 => (if r35 ≤ r33 then ob1 (f_yX5_keep M i1 x3 0) (fun M38 => (some (0, M38))) else ob1 (f_yX5_keep M i1 x3 1) (fun M40 => (some (0, M40)))))) else (if x2 = 6 then ob1 (f_yX5_jump M i1 x3) (fun M43 => (some (0, M43))) else ob1 (f_yX5_kept M i1 x4) (fun r45 => (if r45 = 0 then ob1 (f_yX5_jump M i1 x3) (fun M48 => (some (0, M48))) else (some (0, M)))))))))))
set_option maxRecDepth 100000 in
set_option maxHeartbeats 4000000 in
theorem c_yX0_reckon (l : Launch) (E : Lay) (ad : Nat → Nat → Nat) (M N : Mem) (i1 : Nat) (x2 : Int32) (x3 : Int32) (x4 : Int32) (x5 : Int32) (w1 : i1 < 6) (r : Int32) (Mr : Mem) (hf : f_yX0_reckon M i1 x2 x3 x4 x5 = some (r, Mr)) : Met l yX0_reckon (Cond.code yX0_reckon cX0_reckon 6 (some .int) :: TB) (rmm 3 65) (va_Pc [.ref (ad 3 0), .ref (ad 6 i1), .int x2, .int x3, .int x4, .int x5] (PB E ad (M, N))) (Qi E ad r (Mr, N)) 0 0 (ow E) := by
  refine Met.ofW (cc := cX0_reckon) (maxL := 6) (ret := (some .int)) (by decide) rfl ?_
  intro p e s m args below meth c s₁ B hml hv
  obtain ⟨rfl, hW, hK, hZ⟩ := hv
  have hT : ∀ w ∈ TB, w.before _ s = true := fun w h => atoms_spec (ws := (Cond.code yX0_reckon cX0_reckon 6 (some .int) :: TB)) B.pre w (List.mem_cons_of_mem _ h)
  have X : CX p s m _ meth c cX0_reckon 6 (some .int) RX0 := ⟨B.exec, B.bytes, hml, findClass_of_methodNamed B.named, hT, B.returns, B.notSynchronized⟩
  obtain ⟨hx, hb, hml, hown, hT, hr, hlk⟩ := id X
  have hS : va_S (ow E) s.heap s.heap [] := va_S.rf
  have hl := lv_entry ([.ref (ad 3 0), .ref (ad 6 i1), .int x2, .int x3, .int x4, .int x5]) (n := 6) (Nat.le_of_ble_eq_true rfl)
  rw [lg_entry_eq]
  generalize (lg_sl ([.ref (ad 3 0), .ref (ad 6 i1), .int x2, .int x3, .int x4, .int x5]) ++ List.replicate (6 - (lg_sl ([.ref (ad 3 0), .ref (ad 6 i1), .int x2, .int x3, .int x4, .int x5])).length) Slot.unset).toArray = ls at hl ⊢
  have hl : lv_has ls 6 [(0, .ref (ad 3 0)), (1, .ref (ad 6 i1)), (2, .int x2), (3, .int x3), (4, .int x4), (5, .int x5)] := hl
  unfold f_yX0_reckon at hf
  refine lv_iload_n hx hb dX0_reckon_0 rfl (lv_at hl 2 rfl) ?_
  by_cases c1 : x2 = 0
  · rw [if_pos c1] at hf
    refine lv_tableIn (tgt := 44) hx hb dX0_reckon_1 (by rw [c1]; decide) (by rw [c1]; decide) (by rw [c1]; rfl) (by decide) ?_
    refine lv_aload_n hx hb dX0_reckon_44 rfl (lv_at hl 1 rfl) ?_
    refine lv_iload_n hx hb dX0_reckon_45 rfl (lv_at hl 3 rfl) ?_
    refine lv_iload hx hb dX0_reckon_46 (lv_at hl 4 rfl) ?_
    obtain ⟨M3, h2, hf⟩ := ob1_some hf
    refine k_yX5_keep X hK hZ hW hS hl.1 w1 h2 mlRX0_68 ⟨Nat.le_of_ble_eq_true rfl, Nat.le_of_ble_eq_true rfl⟩ ⟨Nat.le_of_ble_eq_true rfl, Nat.le_of_ble_eq_true rfl⟩ (Nat.le_of_ble_eq_true rfl) dX0_reckon_48 (fun H locs hW hS => ?_)
    refine lv_iconst (v := 0) hx hb dX0_reckon_51 (by decide) ?_
    obtain ⟨rfl, rfl⟩ := sp2 hf
    exact e_i ⟨hx, hb, hr, hlk⟩ hW hS dX0_reckon_52
  rw [if_neg c1] at hf
  by_cases c4 : x2 = 1
  · rw [if_pos c4] at hf
    refine lv_tableIn (tgt := 53) hx hb dX0_reckon_1 (by rw [c4]; decide) (by rw [c4]; decide) (by rw [c4]; rfl) (by decide) ?_
    refine lv_aload_n hx hb dX0_reckon_53 rfl (lv_at hl 1 rfl) ?_
    refine lv_iload_n hx hb dX0_reckon_54 rfl (lv_at hl 3 rfl) ?_
    refine lv_aload_n hx hb dX0_reckon_55 rfl (lv_at hl 1 rfl) ?_
    refine lv_iload_n hx hb dX0_reckon_56 rfl (lv_at hl 3 rfl) ?_
    obtain ⟨r6, h5, hf⟩ := ob1_some hf
    refine k_yX5_kept X hK hZ hW hS hl.1 w1 h5 mlRX0_72 ⟨Nat.le_of_ble_eq_true rfl, Nat.le_of_ble_eq_true rfl⟩ ⟨Nat.le_of_ble_eq_true rfl, Nat.le_of_ble_eq_true rfl⟩ (Nat.le_of_ble_eq_true rfl) dX0_reckon_57 (fun H locs hW hS => ?_)
    refine lv_aload_n hx hb dX0_reckon_60 rfl (lv_at hl 1 rfl) ?_
    refine lv_iload hx hb dX0_reckon_61 (lv_at hl 4 rfl) ?_
    obtain ⟨r8, h7, hf⟩ := ob1_some hf
    refine k_yX5_kept X hK hZ hW hS hl.1 w1 h7 mlRX0_72 ⟨Nat.le_of_ble_eq_true rfl, Nat.le_of_ble_eq_true rfl⟩ ⟨Nat.le_of_ble_eq_true rfl, Nat.le_of_ble_eq_true rfl⟩ (Nat.le_of_ble_eq_true rfl) dX0_reckon_63 (fun H locs hW hS => ?_)
    refine lv_iadd hx hb dX0_reckon_66 ?_
    obtain ⟨M10, h9, hf⟩ := ob1_some hf
    refine k_yX5_keep X hK hZ hW hS hl.1 w1 h9 mlRX0_68 ⟨Nat.le_of_ble_eq_true rfl, Nat.le_of_ble_eq_true rfl⟩ ⟨Nat.le_of_ble_eq_true rfl, Nat.le_of_ble_eq_true rfl⟩ (Nat.le_of_ble_eq_true rfl) dX0_reckon_67 (fun H locs hW hS => ?_)
    refine lv_iconst (v := 0) hx hb dX0_reckon_70 (by decide) ?_
    obtain ⟨rfl, rfl⟩ := sp2 hf
    exact e_i ⟨hx, hb, hr, hlk⟩ hW hS dX0_reckon_71
  rw [if_neg c4] at hf
  by_cases c11 : x2 = 2
  · rw [if_pos c11] at hf
    refine lv_tableIn (tgt := 72) hx hb dX0_reckon_1 (by rw [c11]; decide) (by rw [c11]; decide) (by rw [c11]; rfl) (by decide) ?_
    refine lv_aload_n hx hb dX0_reckon_72 rfl (lv_at hl 1 rfl) ?_
    refine lv_iload_n hx hb dX0_reckon_73 rfl (lv_at hl 3 rfl) ?_
    refine lv_aload_n hx hb dX0_reckon_74 rfl (lv_at hl 1 rfl) ?_
    refine lv_iload_n hx hb dX0_reckon_75 rfl (lv_at hl 3 rfl) ?_
    obtain ⟨r13, h12, hf⟩ := ob1_some hf
    refine k_yX5_kept X hK hZ hW hS hl.1 w1 h12 mlRX0_72 ⟨Nat.le_of_ble_eq_true rfl, Nat.le_of_ble_eq_true rfl⟩ ⟨Nat.le_of_ble_eq_true rfl, Nat.le_of_ble_eq_true rfl⟩ (Nat.le_of_ble_eq_true rfl) dX0_reckon_76 (fun H locs hW hS => ?_)
    refine lv_aload_n hx hb dX0_reckon_79 rfl (lv_at hl 1 rfl) ?_
    refine lv_iload hx hb dX0_reckon_80 (lv_at hl 4 rfl) ?_
    obtain ⟨r15, h14, hf⟩ := ob1_some hf
    refine k_yX5_kept X hK hZ hW hS hl.1 w1 h14 mlRX0_72 ⟨Nat.le_of_ble_eq_true rfl, Nat.le_of_ble_eq_true rfl⟩ ⟨Nat.le_of_ble_eq_true rfl, Nat.le_of_ble_eq_true rfl⟩ (Nat.le_of_ble_eq_true rfl) dX0_reckon_82 (fun H locs hW hS => ?_)
    refine lv_isub hx hb dX0_reckon_85 ?_
    obtain ⟨M17, h16, hf⟩ := ob1_some hf
    refine k_yX5_keep X hK hZ hW hS hl.1 w1 h16 mlRX0_68 ⟨Nat.le_of_ble_eq_true rfl, Nat.le_of_ble_eq_true rfl⟩ ⟨Nat.le_of_ble_eq_true rfl, Nat.le_of_ble_eq_true rfl⟩ (Nat.le_of_ble_eq_true rfl) dX0_reckon_86 (fun H locs hW hS => ?_)
    refine lv_iconst (v := 0) hx hb dX0_reckon_89 (by decide) ?_
    obtain ⟨rfl, rfl⟩ := sp2 hf
    exact e_i ⟨hx, hb, hr, hlk⟩ hW hS dX0_reckon_90
  rw [if_neg c11] at hf
  by_cases c18 : x2 = 3
  · rw [if_pos c18] at hf
    refine lv_tableIn (tgt := 91) hx hb dX0_reckon_1 (by rw [c18]; decide) (by rw [c18]; decide) (by rw [c18]; rfl) (by decide) ?_
    refine lv_aload_n hx hb dX0_reckon_91 rfl (lv_at hl 1 rfl) ?_
    refine lv_iload_n hx hb dX0_reckon_92 rfl (lv_at hl 3 rfl) ?_
    refine lv_aload_n hx hb dX0_reckon_93 rfl (lv_at hl 1 rfl) ?_
    refine lv_iload_n hx hb dX0_reckon_94 rfl (lv_at hl 3 rfl) ?_
    obtain ⟨r20, h19, hf⟩ := ob1_some hf
    refine k_yX5_kept X hK hZ hW hS hl.1 w1 h19 mlRX0_72 ⟨Nat.le_of_ble_eq_true rfl, Nat.le_of_ble_eq_true rfl⟩ ⟨Nat.le_of_ble_eq_true rfl, Nat.le_of_ble_eq_true rfl⟩ (Nat.le_of_ble_eq_true rfl) dX0_reckon_95 (fun H locs hW hS => ?_)
    refine lv_aload_n hx hb dX0_reckon_98 rfl (lv_at hl 1 rfl) ?_
    refine lv_iload hx hb dX0_reckon_99 (lv_at hl 4 rfl) ?_
    obtain ⟨r22, h21, hf⟩ := ob1_some hf
    refine k_yX5_kept X hK hZ hW hS hl.1 w1 h21 mlRX0_72 ⟨Nat.le_of_ble_eq_true rfl, Nat.le_of_ble_eq_true rfl⟩ ⟨Nat.le_of_ble_eq_true rfl, Nat.le_of_ble_eq_true rfl⟩ (Nat.le_of_ble_eq_true rfl) dX0_reckon_101 (fun H locs hW hS => ?_)
    refine lv_imul hx hb dX0_reckon_104 ?_
    obtain ⟨M24, h23, hf⟩ := ob1_some hf
    refine k_yX5_keep X hK hZ hW hS hl.1 w1 h23 mlRX0_68 ⟨Nat.le_of_ble_eq_true rfl, Nat.le_of_ble_eq_true rfl⟩ ⟨Nat.le_of_ble_eq_true rfl, Nat.le_of_ble_eq_true rfl⟩ (Nat.le_of_ble_eq_true rfl) dX0_reckon_105 (fun H locs hW hS => ?_)
    refine lv_iconst (v := 0) hx hb dX0_reckon_108 (by decide) ?_
    obtain ⟨rfl, rfl⟩ := sp2 hf
    exact e_i ⟨hx, hb, hr, hlk⟩ hW hS dX0_reckon_109
  rw [if_neg c18] at hf
  by_cases c25 : x2 = 4
  · rw [if_pos c25] at hf
    refine lv_tableIn (tgt := 110) hx hb dX0_reckon_1 (by rw [c25]; decide) (by rw [c25]; decide) (by rw [c25]; rfl) (by decide) ?_
    refine lv_aload_n hx hb dX0_reckon_110 rfl (lv_at hl 0 rfl) ?_
    refine lv_aload_n hx hb dX0_reckon_111 rfl (lv_at hl 1 rfl) ?_
    refine lv_iload_n hx hb dX0_reckon_112 rfl (lv_at hl 3 rfl) ?_
    refine lv_aload_n hx hb dX0_reckon_113 rfl (lv_at hl 1 rfl) ?_
    refine lv_iload hx hb dX0_reckon_114 (lv_at hl 4 rfl) ?_
    obtain ⟨r27, h26, hf⟩ := ob1_some hf
    refine k_yX5_kept X hK hZ hW hS hl.1 w1 h26 mlRX0_72 ⟨Nat.le_of_ble_eq_true rfl, Nat.le_of_ble_eq_true rfl⟩ ⟨Nat.le_of_ble_eq_true rfl, Nat.le_of_ble_eq_true rfl⟩ (Nat.le_of_ble_eq_true rfl) dX0_reckon_116 (fun H locs hW hS => ?_)
    obtain ⟨r29, M30, h28, hf⟩ := ob2_some hf
    refine k_yX0_divide X hK hZ hW hS hl.1 w1 h28 mlRX0_76 ⟨Nat.le_of_ble_eq_true rfl, Nat.le_of_ble_eq_true rfl⟩ ⟨Nat.le_of_ble_eq_true rfl, Nat.le_of_ble_eq_true rfl⟩ (Nat.le_of_ble_eq_true rfl) dX0_reckon_119 (fun H locs hW hS => ?_)
    obtain ⟨rfl, rfl⟩ := sp2 hf
    exact e_i ⟨hx, hb, hr, hlk⟩ hW hS dX0_reckon_122
  rw [if_neg c25] at hf
  by_cases c31 : x2 = 5
  · rw [if_pos c31] at hf
    refine lv_tableIn (tgt := 123) hx hb dX0_reckon_1 (by rw [c31]; decide) (by rw [c31]; decide) (by rw [c31]; rfl) (by decide) ?_
    refine lv_aload_n hx hb dX0_reckon_123 rfl (lv_at hl 1 rfl) ?_
    refine lv_iload_n hx hb dX0_reckon_124 rfl (lv_at hl 3 rfl) ?_
    refine lv_aload_n hx hb dX0_reckon_125 rfl (lv_at hl 1 rfl) ?_
    refine lv_iload hx hb dX0_reckon_126 (lv_at hl 4 rfl) ?_
    obtain ⟨r33, h32, hf⟩ := ob1_some hf
    refine k_yX5_kept X hK hZ hW hS hl.1 w1 h32 mlRX0_72 ⟨Nat.le_of_ble_eq_true rfl, Nat.le_of_ble_eq_true rfl⟩ ⟨Nat.le_of_ble_eq_true rfl, Nat.le_of_ble_eq_true rfl⟩ (Nat.le_of_ble_eq_true rfl) dX0_reckon_128 (fun H locs hW hS => ?_)
    refine lv_aload_n hx hb dX0_reckon_131 rfl (lv_at hl 1 rfl) ?_
    refine lv_iload hx hb dX0_reckon_132 (lv_at hl 5 rfl) ?_
    obtain ⟨r35, h34, hf⟩ := ob1_some hf
    refine k_yX5_kept X hK hZ hW hS hl.1 w1 h34 mlRX0_72 ⟨Nat.le_of_ble_eq_true rfl, Nat.le_of_ble_eq_true rfl⟩ ⟨Nat.le_of_ble_eq_true rfl, Nat.le_of_ble_eq_true rfl⟩ (Nat.le_of_ble_eq_true rfl) dX0_reckon_134 (fun H locs hW hS => ?_)
    refine lv_icmp_ge (tgt := 144) hx hb dX0_reckon_137 (by decide) (fun c36 => ?_) (fun c36 => ?_)
    · rw [if_pos c36] at hf
      refine lv_iconst (v := 0) hx hb dX0_reckon_144 (by decide) ?_
      obtain ⟨M38, h37, hf⟩ := ob1_some hf
      refine k_yX5_keep X hK hZ hW hS hl.1 w1 h37 mlRX0_68 ⟨Nat.le_of_ble_eq_true rfl, Nat.le_of_ble_eq_true rfl⟩ ⟨Nat.le_of_ble_eq_true rfl, Nat.le_of_ble_eq_true rfl⟩ (Nat.le_of_ble_eq_true rfl) dX0_reckon_145 (fun H locs hW hS => ?_)
      refine lv_iconst (v := 0) hx hb dX0_reckon_148 (by decide) ?_
      obtain ⟨rfl, rfl⟩ := sp2 hf
      exact e_i ⟨hx, hb, hr, hlk⟩ hW hS dX0_reckon_149
    · rw [if_neg c36] at hf
      refine lv_iconst (v := 1) hx hb dX0_reckon_140 (by decide) ?_
      refine lv_goto (tgt := 145) hx hb dX0_reckon_141 (by decide) ?_
      obtain ⟨M40, h39, hf⟩ := ob1_some hf
      refine k_yX5_keep X hK hZ hW hS hl.1 w1 h39 mlRX0_68 ⟨Nat.le_of_ble_eq_true rfl, Nat.le_of_ble_eq_true rfl⟩ ⟨Nat.le_of_ble_eq_true rfl, Nat.le_of_ble_eq_true rfl⟩ (Nat.le_of_ble_eq_true rfl) dX0_reckon_145 (fun H locs hW hS => ?_)
      refine lv_iconst (v := 0) hx hb dX0_reckon_148 (by decide) ?_
      obtain ⟨rfl, rfl⟩ := sp2 hf
      exact e_i ⟨hx, hb, hr, hlk⟩ hW hS dX0_reckon_149
  rw [if_neg c31] at hf
  by_cases c41 : x2 = 6
  · rw [if_pos c41] at hf
    refine lv_tableIn (tgt := 150) hx hb dX0_reckon_1 (by rw [c41]; decide) (by rw [c41]; decide) (by rw [c41]; rfl) (by decide) ?_
    refine lv_aload_n hx hb dX0_reckon_150 rfl (lv_at hl 1 rfl) ?_
    refine lv_iload_n hx hb dX0_reckon_151 rfl (lv_at hl 3 rfl) ?_
    obtain ⟨M43, h42, hf⟩ := ob1_some hf
    refine k_yX5_jump X hK hZ hW hS hl.1 w1 h42 mlRX0_79 ⟨Nat.le_of_ble_eq_true rfl, Nat.le_of_ble_eq_true rfl⟩ ⟨Nat.le_of_ble_eq_true rfl, Nat.le_of_ble_eq_true rfl⟩ (Nat.le_of_ble_eq_true rfl) dX0_reckon_152 (fun H locs hW hS => ?_)
    refine lv_iconst (v := 0) hx hb dX0_reckon_155 (by decide) ?_
    obtain ⟨rfl, rfl⟩ := sp2 hf
    exact e_i ⟨hx, hb, hr, hlk⟩ hW hS dX0_reckon_156
  rw [if_neg c41] at hf
  refine lv_tableOut (tgt := 157) hx hb dX0_reckon_1 (by have := lv_neT (a := 0) c1 (by decide); have := lv_neT (a := 1) c4 (by decide); have := lv_neT (a := 2) c11 (by decide); have := lv_neT (a := 3) c18 (by decide); have := lv_neT (a := 4) c25 (by decide); have := lv_neT (a := 5) c31 (by decide); have := lv_neT (a := 6) c41 (by decide); omega) (by decide) ?_
  refine lv_aload_n hx hb dX0_reckon_157 rfl (lv_at hl 1 rfl) ?_
  refine lv_iload hx hb dX0_reckon_158 (lv_at hl 4 rfl) ?_
  obtain ⟨r45, h44, hf⟩ := ob1_some hf
  refine k_yX5_kept X hK hZ hW hS hl.1 w1 h44 mlRX0_72 ⟨Nat.le_of_ble_eq_true rfl, Nat.le_of_ble_eq_true rfl⟩ ⟨Nat.le_of_ble_eq_true rfl, Nat.le_of_ble_eq_true rfl⟩ (Nat.le_of_ble_eq_true rfl) dX0_reckon_160 (fun H locs hW hS => ?_)
  refine lv_if_ne (tgt := 171) hx hb dX0_reckon_163 (by decide) (fun c46 => ?_) (fun c46 => ?_)
  · rw [if_neg c46] at hf
    refine lv_iconst (v := 0) hx hb dX0_reckon_171 (by decide) ?_
    obtain ⟨rfl, rfl⟩ := sp2 hf
    exact e_i ⟨hx, hb, hr, hlk⟩ hW hS dX0_reckon_172
  · rw [if_pos c46] at hf
    refine lv_aload_n hx hb dX0_reckon_166 rfl (lv_at hl 1 rfl) ?_
    refine lv_iload_n hx hb dX0_reckon_167 rfl (lv_at hl 3 rfl) ?_
    obtain ⟨M48, h47, hf⟩ := ob1_some hf
    refine k_yX5_jump X hK hZ hW hS hl.1 w1 h47 mlRX0_79 ⟨Nat.le_of_ble_eq_true rfl, Nat.le_of_ble_eq_true rfl⟩ ⟨Nat.le_of_ble_eq_true rfl, Nat.le_of_ble_eq_true rfl⟩ (Nat.le_of_ble_eq_true rfl) dX0_reckon_168 (fun H locs hW hS => ?_)
    refine lv_iconst (v := 0) hx hb dX0_reckon_171 (by decide) ?_
    obtain ⟨rfl, rfl⟩ := sp2 hf
    exact e_i ⟨hx, hb, hr, hlk⟩ hW hS dX0_reckon_172
set_option maxRecDepth 100000 in
set_option maxHeartbeats 4000000 in
theorem k_yX0_reckon {p : Program} {l : Launch} {e : Env} {R : Room} {s : State} {m : MethodId} {args : Array Value} {below : List Frame} {meth : Method} {c : Code} {H : Heap} {locs : List Loc} {cells slots : Nat} {Q : State → Prop} {cc : ByteArray} {pc nL index : Nat} {ret : Option FieldType} {own : String} {ls : Array Slot} {rest : List Value} {E : Lay} {ad : Nat → Nat → Nat} {M N : Mem} (X : CX p s m args meth c cc nL ret own) (hK : KK E s) (hZ : ZZ E s) (hW : WD E ad (M, N) H) (hS : va_S (ow E) s.heap H locs) (hsz : ls.size = nL) {i1 : Nat} {x2 : Int32} {x3 : Int32} {x4 : Int32} {x5 : Int32} (w1 : i1 < 6) {r : Int32} {Mr : Mem} (hf : f_yX0_reckon M i1 x2 x3 x4 x5 = some (r, Mr)) (hn : Cond.methodLink own index yX0_reckon ∈ TB) (hR : 3 + 1 ≤ R.frames ∧ 8 + (6 + 11) + 65 ≤ R.locals) (hC : cells ≤ R.cells ∧ slots ≤ R.slots) (h8 : (rest.map fun v => v.category).sum ≤ 8) (hdg : decode cc pc = .ok (.invokevirtual index, 3)) (kk : ∀ (H1 : Heap) (locs1 : List Loc), WD E ad (Mr, N) H1 → va_S (ow E) s.heap H1 locs1 → W p l e R s m args below meth c H1 locs1 cells slots Q (F0 m (pc + 3) ls (.int r :: rest))) : W p l e R s m args below meth c H locs cells slots Q (F0 m pc ls (.int x5 :: .int x4 :: .int x3 :: .int x2 :: .ref (ad 6 i1) :: .ref (ad 3 0) :: rest)) := by
  refine va_calli (va_runV (C := RX0) (As := [.ref (ad 6 i1), .int x2, .int x3, .int x4, .int x5]) (rest := rest) ⟨X.1, X.2.1, X.2.2.1, X.2.2.2.1, X.2.2.2.2.1⟩ (c_yX0_reckon l E ad M N i1 x2 x3 x4 x5 w1 r Mr hf) (cwV 5 X.2.2.2.2.1 (gV hn im_yX0_reckon se_yX0_reckon iniRX0 cd_yX0_reckon) rfl rfl rfl (by decide +kernel) hR) ⟨fun a U g mk q => ⟨q.1, q.2.calling⟩, va_recv hK.1 (hW.at (c := 3) (i := 0) Nat.zero_lt_one rfl) (ci := 0) (q0 := 0) rfl rfl, fun U hU hw => ⟨rfl, PB.at hW hK hZ hS hU hw⟩⟩ rfl rfl hsz rfl (lv_room h8) hdg hC) hS (fun _ _ h => h) (fun _ h => h) (fun r' u t H1 locs1 ht hvm hw hB hz1 hk1 hS1 => ?_)
  obtain ⟨rfl, rfl⟩ := hw
  rw [ht] at hB
  exact kk H1 locs1 hB hS1
def f_yX0_makeThing (M : Mem) (i1 : Nat) (x2 : Int32) (x3 : Int32) (x4 : Int32) : Option (Int32 × Mem) := (if x3 < 4 then ob1 (f_yX4_isFull M) (fun r3 => (if r3 = 0 then ob2 (f_yX4_make M x3 0) (fun r9 M10 => ob1 (f_yX5_grasp M10 i1 x2 r9) (fun M12 => (some (0, M12)))) else (some (11, M)))) else ob1 (f_yX4_isFull M) (fun r14 => (if r14 = 0 then (if x4 ≤ 12 then (if 0 ≤ x4 then ob2 (f_yX4_make M x3 x4) (fun r20 M21 => ob1 (f_yX5_grasp M21 i1 x2 r20) (fun M23 => (some (0, M23)))) else (some (5, M))) else (some (11, M))) else (some (11, M)))))
set_option maxRecDepth 100000 in
set_option maxHeartbeats 4000000 in
theorem c_yX0_makeThing (l : Launch) (E : Lay) (ad : Nat → Nat → Nat) (M N : Mem) (i1 : Nat) (x2 : Int32) (x3 : Int32) (x4 : Int32) (w1 : i1 < 6) (r : Int32) (Mr : Mem) (hf : f_yX0_makeThing M i1 x2 x3 x4 = some (r, Mr)) : Met l yX0_makeThing (Cond.code yX0_makeThing cX0_makeThing 6 (some .int) :: TB) (rmg 3 58 2 18) (va_Pc [.ref (ad 3 0), .ref (ad 6 i1), .int x2, .int x3, .int x4] (PB E ad (M, N))) (Gi E ad r (Mr, N)) 2 18 (ow E) := by
  refine Met.ofW (cc := cX0_makeThing) (maxL := 6) (ret := (some .int)) (by decide) rfl ?_
  intro p e s m args below meth c s₁ B hml hv
  obtain ⟨rfl, hW, hK, hZ⟩ := hv
  have hT : ∀ w ∈ TB, w.before _ s = true := fun w h => atoms_spec (ws := (Cond.code yX0_makeThing cX0_makeThing 6 (some .int) :: TB)) B.pre w (List.mem_cons_of_mem _ h)
  have X : CX p s m _ meth c cX0_makeThing 6 (some .int) RX0 := ⟨B.exec, B.bytes, hml, findClass_of_methodNamed B.named, hT, B.returns, B.notSynchronized⟩
  obtain ⟨hx, hb, hml, hown, hT, hr, hlk⟩ := id X
  have hS : va_S (ow E) s.heap s.heap [] := va_S.rf
  have hs0 := hW.low
  have hl := lv_entry ([.ref (ad 3 0), .ref (ad 6 i1), .int x2, .int x3, .int x4]) (n := 6) (Nat.le_of_ble_eq_true rfl)
  rw [lg_entry_eq]
  generalize (lg_sl ([.ref (ad 3 0), .ref (ad 6 i1), .int x2, .int x3, .int x4]) ++ List.replicate (6 - (lg_sl ([.ref (ad 3 0), .ref (ad 6 i1), .int x2, .int x3, .int x4])).length) Slot.unset).toArray = ls at hl ⊢
  have hl : lv_has ls 6 [(0, .ref (ad 3 0)), (1, .ref (ad 6 i1)), (2, .int x2), (3, .int x3), (4, .int x4)] := hl
  unfold f_yX0_makeThing at hf
  refine lv_iload_n hx hb dX0_makeThing_0 rfl (lv_at hl 3 rfl) ?_
  refine lv_iconst (v := 4) hx hb dX0_makeThing_1 (by decide) ?_
  refine lv_icmp_lt (tgt := 10) hx hb dX0_makeThing_2 (by decide) (fun c1 => ?_) (fun c1 => ?_)
  · rw [if_pos c1] at hf
    refine lv_iconst (v := 0) hx hb dX0_makeThing_10 (by decide) ?_
    refine lv_istore (lv' := [(5, .int 0), (0, .ref (ad 3 0)), (1, .ref (ad 6 i1)), (2, .int x2), (3, .int x3), (4, .int x4)]) hx hb dX0_makeThing_11 hl (by decide) rfl (fun ls hl => ?_)
    refine lv_aload_n hx hb dX0_makeThing_13 rfl (lv_at hl 1 rfl) ?_
    refine g_0_0 X hK hW flRX0_9 dX0_makeThing_14 ?_
    obtain ⟨r3, h2, hf⟩ := ob1_some hf
    refine k_yX4_isFull X hK hZ hW hS hl.1 h2 mlRX0_119 ⟨Nat.le_of_ble_eq_true rfl, Nat.le_of_ble_eq_true rfl⟩ ⟨Nat.le_of_ble_eq_true rfl, Nat.le_of_ble_eq_true rfl⟩ (Nat.le_of_ble_eq_true rfl) dX0_makeThing_17 (fun H locs hW hS => ?_)
    refine lv_if_ne (tgt := 30) hx hb dX0_makeThing_20 (by decide) (fun c4 => ?_) (fun c4 => ?_)
    · rw [if_neg c4] at hf
      refine lv_bipush (v := 11) hx hb dX0_makeThing_30 (by decide) ?_
      obtain ⟨rfl, rfl⟩ := sp2 hf
      refine W.widen (k := 2) (n := 18) (by omega) (by omega) ?_
      exact eg_i ⟨hx, hb, hr, hlk⟩ ext.rf hW hS dX0_makeThing_32
    · rw [if_pos c4] at hf
      refine lv_iload hx hb dX0_makeThing_23 (lv_at hl 0 rfl) ?_
      refine lv_bipush (v := 12) hx hb dX0_makeThing_25 (by decide) ?_
      refine lv_icmp_le (tgt := 33) hx hb dX0_makeThing_27 (by decide) (fun c5 => ?_) (fun c5 => ?_)
      · skip
        refine lv_iload hx hb dX0_makeThing_33 (lv_at hl 0 rfl) ?_
        refine lv_if_ge (tgt := 40) hx hb dX0_makeThing_35 (by decide) (fun c6 => ?_) (fun c6 => ?_)
        · skip
          refine lv_aload_n hx hb dX0_makeThing_40 rfl (lv_at hl 2 rfl) ?_
          refine lv_iload_n hx hb dX0_makeThing_41 rfl (lv_at hl 3 rfl) ?_
          refine lv_aload_n hx hb dX0_makeThing_42 rfl (lv_at hl 1 rfl) ?_
          refine g_0_0 X hK hW flRX0_9 dX0_makeThing_43 ?_
          refine lv_iload_n hx hb dX0_makeThing_46 rfl (lv_at hl 4 rfl) ?_
          refine lv_iload hx hb dX0_makeThing_47 (lv_at hl 0 rfl) ?_
          obtain ⟨r9, M10, h7, hf⟩ := ob2_some hf
          refine k_yX4_make X hK hZ hW hS hl.1 h7 mlRX0_122 ⟨Nat.le_of_ble_eq_true rfl, Nat.le_of_ble_eq_true rfl⟩ ⟨Nat.le_of_ble_eq_true rfl, Nat.le_of_ble_eq_true rfl⟩ (Nat.le_of_ble_eq_true rfl) dX0_makeThing_49 (fun ad8 H locs hEad8 hW hS => ?_)
          have hl : lv_has ls 6 [(5, .int 0), (0, .ref (ad8 3 0)), (1, .ref (ad8 6 i1)), (2, .int x2), (3, .int x3), (4, .int x4)] := by rw [hEad8 3 0 (by decide) (by decide), hEad8 6 i1 (by decide) (by decide)]; exact hl
          refine W.eq (g2 := F0 m 52 ls [.int r9, .int x2, .ref (ad8 6 i1)]) (by rw [hEad8 6 i1 (by decide) (by decide)]) ?_
          obtain ⟨M12, h11, hf⟩ := ob1_some hf
          refine k_yX5_grasp X hK hZ hW hS hl.1 w1 h11 mlRX0_92 ⟨Nat.le_of_ble_eq_true rfl, Nat.le_of_ble_eq_true rfl⟩ ⟨Nat.le_of_ble_eq_true rfl, Nat.le_of_ble_eq_true rfl⟩ (Nat.le_of_ble_eq_true rfl) dX0_makeThing_52 (fun H locs hW hS => ?_)
          refine lv_iconst (v := 0) hx hb dX0_makeThing_55 (by decide) ?_
          obtain ⟨rfl, rfl⟩ := sp2 hf
          exact eg_i ⟨hx, hb, hr, hlk⟩ hEad8 hW hS dX0_makeThing_56
        · exact absurd c6 (by decide)
      · exact absurd c5 (by decide)
  · rw [if_neg c1] at hf
    refine lv_iload hx hb dX0_makeThing_5 (lv_at hl 4 rfl) ?_
    refine lv_goto (tgt := 11) hx hb dX0_makeThing_7 (by decide) ?_
    refine lv_istore (lv' := [(5, .int x4), (0, .ref (ad 3 0)), (1, .ref (ad 6 i1)), (2, .int x2), (3, .int x3), (4, .int x4)]) hx hb dX0_makeThing_11 hl (by decide) rfl (fun ls hl => ?_)
    refine lv_aload_n hx hb dX0_makeThing_13 rfl (lv_at hl 1 rfl) ?_
    refine g_0_0 X hK hW flRX0_9 dX0_makeThing_14 ?_
    obtain ⟨r14, h13, hf⟩ := ob1_some hf
    refine k_yX4_isFull X hK hZ hW hS hl.1 h13 mlRX0_119 ⟨Nat.le_of_ble_eq_true rfl, Nat.le_of_ble_eq_true rfl⟩ ⟨Nat.le_of_ble_eq_true rfl, Nat.le_of_ble_eq_true rfl⟩ (Nat.le_of_ble_eq_true rfl) dX0_makeThing_17 (fun H locs hW hS => ?_)
    refine lv_if_ne (tgt := 30) hx hb dX0_makeThing_20 (by decide) (fun c15 => ?_) (fun c15 => ?_)
    · rw [if_neg c15] at hf
      refine lv_bipush (v := 11) hx hb dX0_makeThing_30 (by decide) ?_
      obtain ⟨rfl, rfl⟩ := sp2 hf
      refine W.widen (k := 2) (n := 18) (by omega) (by omega) ?_
      exact eg_i ⟨hx, hb, hr, hlk⟩ ext.rf hW hS dX0_makeThing_32
    · rw [if_pos c15] at hf
      refine lv_iload hx hb dX0_makeThing_23 (lv_at hl 0 rfl) ?_
      refine lv_bipush (v := 12) hx hb dX0_makeThing_25 (by decide) ?_
      refine lv_icmp_le (tgt := 33) hx hb dX0_makeThing_27 (by decide) (fun c16 => ?_) (fun c16 => ?_)
      · rw [if_pos c16] at hf
        refine lv_iload hx hb dX0_makeThing_33 (lv_at hl 0 rfl) ?_
        refine lv_if_ge (tgt := 40) hx hb dX0_makeThing_35 (by decide) (fun c17 => ?_) (fun c17 => ?_)
        · rw [if_pos c17] at hf
          refine lv_aload_n hx hb dX0_makeThing_40 rfl (lv_at hl 2 rfl) ?_
          refine lv_iload_n hx hb dX0_makeThing_41 rfl (lv_at hl 3 rfl) ?_
          refine lv_aload_n hx hb dX0_makeThing_42 rfl (lv_at hl 1 rfl) ?_
          refine g_0_0 X hK hW flRX0_9 dX0_makeThing_43 ?_
          refine lv_iload_n hx hb dX0_makeThing_46 rfl (lv_at hl 4 rfl) ?_
          refine lv_iload hx hb dX0_makeThing_47 (lv_at hl 0 rfl) ?_
          obtain ⟨r20, M21, h18, hf⟩ := ob2_some hf
          refine k_yX4_make X hK hZ hW hS hl.1 h18 mlRX0_122 ⟨Nat.le_of_ble_eq_true rfl, Nat.le_of_ble_eq_true rfl⟩ ⟨Nat.le_of_ble_eq_true rfl, Nat.le_of_ble_eq_true rfl⟩ (Nat.le_of_ble_eq_true rfl) dX0_makeThing_49 (fun ad19 H locs hEad19 hW hS => ?_)
          have hl : lv_has ls 6 [(5, .int x4), (0, .ref (ad19 3 0)), (1, .ref (ad19 6 i1)), (2, .int x2), (3, .int x3), (4, .int x4)] := by rw [hEad19 3 0 (by decide) (by decide), hEad19 6 i1 (by decide) (by decide)]; exact hl
          refine W.eq (g2 := F0 m 52 ls [.int r20, .int x2, .ref (ad19 6 i1)]) (by rw [hEad19 6 i1 (by decide) (by decide)]) ?_
          obtain ⟨M23, h22, hf⟩ := ob1_some hf
          refine k_yX5_grasp X hK hZ hW hS hl.1 w1 h22 mlRX0_92 ⟨Nat.le_of_ble_eq_true rfl, Nat.le_of_ble_eq_true rfl⟩ ⟨Nat.le_of_ble_eq_true rfl, Nat.le_of_ble_eq_true rfl⟩ (Nat.le_of_ble_eq_true rfl) dX0_makeThing_52 (fun H locs hW hS => ?_)
          refine lv_iconst (v := 0) hx hb dX0_makeThing_55 (by decide) ?_
          obtain ⟨rfl, rfl⟩ := sp2 hf
          exact eg_i ⟨hx, hb, hr, hlk⟩ hEad19 hW hS dX0_makeThing_56
        · rw [if_neg c17] at hf
          refine lv_iconst (v := 5) hx hb dX0_makeThing_38 (by decide) ?_
          obtain ⟨rfl, rfl⟩ := sp2 hf
          refine W.widen (k := 2) (n := 18) (by omega) (by omega) ?_
          exact eg_i ⟨hx, hb, hr, hlk⟩ ext.rf hW hS dX0_makeThing_39
      · rw [if_neg c16] at hf
        refine lv_bipush (v := 11) hx hb dX0_makeThing_30 (by decide) ?_
        obtain ⟨rfl, rfl⟩ := sp2 hf
        refine W.widen (k := 2) (n := 18) (by omega) (by omega) ?_
        exact eg_i ⟨hx, hb, hr, hlk⟩ ext.rf hW hS dX0_makeThing_32
set_option maxRecDepth 100000 in
set_option maxHeartbeats 4000000 in
theorem k_yX0_makeThing {p : Program} {l : Launch} {e : Env} {R : Room} {s : State} {m : MethodId} {args : Array Value} {below : List Frame} {meth : Method} {c : Code} {H : Heap} {locs : List Loc} {cells slots : Nat} {Q : State → Prop} {cc : ByteArray} {pc nL index : Nat} {ret : Option FieldType} {own : String} {ls : Array Slot} {rest : List Value} {E : Lay} {ad : Nat → Nat → Nat} {M N : Mem} (X : CX p s m args meth c cc nL ret own) (hK : KK E s) (hZ : ZZ E s) (hW : WD E ad (M, N) H) (hS : va_S (ow E) s.heap H locs) (hsz : ls.size = nL) {i1 : Nat} {x2 : Int32} {x3 : Int32} {x4 : Int32} (w1 : i1 < 6) {r : Int32} {Mr : Mem} (hf : f_yX0_makeThing M i1 x2 x3 x4 = some (r, Mr)) (hn : Cond.methodLink own index yX0_makeThing ∈ TB) (hR : 3 + 1 ≤ R.frames ∧ 8 + (6 + 11) + 58 ≤ R.locals) (hC : cells + 2 ≤ R.cells ∧ slots + 18 ≤ R.slots) (h8 : (rest.map fun v => v.category).sum ≤ 8) (hdg : decode cc pc = .ok (.invokevirtual index, 3)) (kk : ∀ (ad1 : Nat → Nat → Nat) (H1 : Heap) (locs1 : List Loc), ext ad ad1 → WD E ad1 (Mr, N) H1 → va_S (ow E) s.heap H1 locs1 → W p l e R s m args below meth c H1 locs1 (cells + 2) (slots + 18) Q (F0 m (pc + 3) ls (.int r :: rest))) : W p l e R s m args below meth c H locs cells slots Q (F0 m pc ls (.int x4 :: .int x3 :: .int x2 :: .ref (ad 6 i1) :: .ref (ad 3 0) :: rest)) := by
  refine va_calli (va_runV (C := RX0) (As := [.ref (ad 6 i1), .int x2, .int x3, .int x4]) (rest := rest) ⟨X.1, X.2.1, X.2.2.1, X.2.2.2.1, X.2.2.2.2.1⟩ (c_yX0_makeThing l E ad M N i1 x2 x3 x4 w1 r Mr hf) (cwV 4 X.2.2.2.2.1 (gV hn im_yX0_makeThing se_yX0_makeThing iniRX0 cd_yX0_makeThing) rfl rfl rfl (by decide +kernel) hR) ⟨fun a U g mk q => ⟨q.1, q.2.calling⟩, va_recv hK.1 (hW.at (c := 3) (i := 0) Nat.zero_lt_one rfl) (ci := 0) (q0 := 0) rfl rfl, fun U hU hw => ⟨rfl, PB.at hW hK hZ hS hU hw⟩⟩ rfl rfl hsz rfl (lv_room h8) hdg hC) hS (fun _ _ h => h) (fun _ h => h) (fun r' u t H1 locs1 ht hvm hw hB hz1 hk1 hS1 => ?_)
  obtain ⟨ad1, P1⟩ := u
  obtain ⟨rfl, hu, hE⟩ := hw
  dsimp only at hu hE hB
  subst hu
  rw [ht] at hB
  exact kk ad1 H1 locs1 hE hB hS1
def f_yX0_putThing (M : Mem) (o1 : Option Nat) (x2 : Int32) (x3 : Int32) : Option (Int32 × Mem) := om o1 ((some (1, M))) (fun i1 => ob1 (f_yX7_isRowOfThings M i1) (fun r2 => (if r2 = 0 then (some (3, M)) else ob1 (f_yX7_hasPlace M i1 x2) (fun r5 => (if r5 = 0 then (some (2, M)) else ob1 (f_yX4_fits M x3 i1) (fun r8 => (if r8 = 0 then (some (4, M)) else gd (¬ (x2 < 0 ∨ (M 8 i1 4).toNatClampNeg ≤ x2.toNatClampNeg)) (lt1 (mp M 19 i1 x2.toNatClampNeg x3) (fun M11 => (some (0, M11)))))))))))
set_option maxRecDepth 100000 in
set_option maxHeartbeats 4000000 in
theorem c_yX0_putThing (l : Launch) (E : Lay) (ad : Nat → Nat → Nat) (M N : Mem) (o1 : Option Nat) (x2 : Int32) (x3 : Int32) (w1 : om o1 True (fun i => i < (M 60 0 1).toNatClampNeg)) (r : Int32) (Mr : Mem) (hf : f_yX0_putThing M o1 x2 x3 = some (r, Mr)) : Met l yX0_putThing (Cond.code yX0_putThing cX0_putThing 4 (some .int) :: TB) (rmm 2 44) (va_Pc [.ref (ad 3 0), va_rf (o1.map (ad 8)), .int x2, .int x3] (PB E ad (M, N))) (Qi E ad r (Mr, N)) 0 0 (ow E) := by
  refine Met.ofW (cc := cX0_putThing) (maxL := 4) (ret := (some .int)) (by decide) rfl ?_
  intro p e s m args below meth c s₁ B hml hv
  obtain ⟨rfl, hW, hK, hZ⟩ := hv
  have hT : ∀ w ∈ TB, w.before _ s = true := fun w h => atoms_spec (ws := (Cond.code yX0_putThing cX0_putThing 4 (some .int) :: TB)) B.pre w (List.mem_cons_of_mem _ h)
  have X : CX p s m _ meth c cX0_putThing 4 (some .int) RX0 := ⟨B.exec, B.bytes, hml, findClass_of_methodNamed B.named, hT, B.returns, B.notSynchronized⟩
  obtain ⟨hx, hb, hml, hown, hT, hr, hlk⟩ := id X
  have hS : va_S (ow E) s.heap s.heap [] := va_S.rf
  unfold f_yX0_putThing at hf
  rcases o1 with _ | i1
  · rw [om_n] at hf
    refine W.eq (g2 := entryFrame m ([.ref (ad 3 0), .null, .int x2, .int x3] : List Value).toArray 4) rfl ?_
    have hl := lv_entry ([.ref (ad 3 0), .null, .int x2, .int x3]) (n := 4) (Nat.le_of_ble_eq_true rfl)
    rw [lg_entry_eq]
    generalize (lg_sl ([.ref (ad 3 0), .null, .int x2, .int x3]) ++ List.replicate (4 - (lg_sl ([.ref (ad 3 0), .null, .int x2, .int x3])).length) Slot.unset).toArray = ls at hl ⊢
    have hl : lv_has ls 4 [(0, .ref (ad 3 0)), (1, .null), (2, .int x2), (3, .int x3)] := hl
    refine lv_aload_nN hx hb dX0_putThing_0 rfl (lv_at hl 1 rfl) ?_
    refine lv_ifnonnullN hx hb dX0_putThing_1 ?_
    refine lv_iconst (v := 1) hx hb dX0_putThing_4 (by decide) ?_
    obtain ⟨rfl, rfl⟩ := sp2 hf
    exact e_i ⟨hx, hb, hr, hlk⟩ hW hS dX0_putThing_5
  · rw [om_s] at hf
    refine W.eq (g2 := entryFrame m ([.ref (ad 3 0), .ref (ad 8 i1), .int x2, .int x3] : List Value).toArray 4) rfl ?_
    have hl := lv_entry ([.ref (ad 3 0), .ref (ad 8 i1), .int x2, .int x3]) (n := 4) (Nat.le_of_ble_eq_true rfl)
    rw [lg_entry_eq]
    generalize (lg_sl ([.ref (ad 3 0), .ref (ad 8 i1), .int x2, .int x3]) ++ List.replicate (4 - (lg_sl ([.ref (ad 3 0), .ref (ad 8 i1), .int x2, .int x3])).length) Slot.unset).toArray = ls at hl ⊢
    have hl : lv_has ls 4 [(0, .ref (ad 3 0)), (1, .ref (ad 8 i1)), (2, .int x2), (3, .int x3)] := hl
    refine lv_aload_n hx hb dX0_putThing_0 rfl (lv_at hl 1 rfl) ?_
    refine lv_ifnonnull (tgt := 6) hx hb dX0_putThing_1 (by decide) ?_
    refine lv_aload_n hx hb dX0_putThing_6 rfl (lv_at hl 1 rfl) ?_
    obtain ⟨r2, h1, hf⟩ := ob1_some hf
    refine k_yX7_isRowOfThings X hK hZ hW hS hl.1 w1 h1 mlRX0_178 ⟨Nat.le_of_ble_eq_true rfl, Nat.le_of_ble_eq_true rfl⟩ ⟨Nat.le_of_ble_eq_true rfl, Nat.le_of_ble_eq_true rfl⟩ (Nat.le_of_ble_eq_true rfl) dX0_putThing_7 (fun H locs hW hS => ?_)
    refine lv_if_ne (tgt := 15) hx hb dX0_putThing_10 (by decide) (fun c3 => ?_) (fun c3 => ?_)
    · rw [if_neg c3] at hf
      refine lv_aload_n hx hb dX0_putThing_15 rfl (lv_at hl 1 rfl) ?_
      refine lv_iload_n hx hb dX0_putThing_16 rfl (lv_at hl 2 rfl) ?_
      obtain ⟨r5, h4, hf⟩ := ob1_some hf
      refine k_yX7_hasPlace X hK hZ hW hS hl.1 w1 h4 mlRX0_171 ⟨Nat.le_of_ble_eq_true rfl, Nat.le_of_ble_eq_true rfl⟩ ⟨Nat.le_of_ble_eq_true rfl, Nat.le_of_ble_eq_true rfl⟩ (Nat.le_of_ble_eq_true rfl) dX0_putThing_17 (fun H locs hW hS => ?_)
      refine lv_if_ne (tgt := 25) hx hb dX0_putThing_20 (by decide) (fun c6 => ?_) (fun c6 => ?_)
      · rw [if_neg c6] at hf
        refine lv_aload_n hx hb dX0_putThing_25 rfl (lv_at hl 0 rfl) ?_
        refine g_0_0 X hK hW flRX0_9 dX0_putThing_26 ?_
        refine lv_iload_n hx hb dX0_putThing_29 rfl (lv_at hl 3 rfl) ?_
        refine lv_aload_n hx hb dX0_putThing_30 rfl (lv_at hl 1 rfl) ?_
        obtain ⟨r8, h7, hf⟩ := ob1_some hf
        refine k_yX4_fits X hK hZ hW hS hl.1 w1 h7 mlRX0_181 ⟨Nat.le_of_ble_eq_true rfl, Nat.le_of_ble_eq_true rfl⟩ ⟨Nat.le_of_ble_eq_true rfl, Nat.le_of_ble_eq_true rfl⟩ (Nat.le_of_ble_eq_true rfl) dX0_putThing_31 (fun H locs hW hS => ?_)
        refine lv_if_ne (tgt := 39) hx hb dX0_putThing_34 (by decide) (fun c9 => ?_) (fun c9 => ?_)
        · rw [if_neg c9] at hf
          refine lv_aload_n hx hb dX0_putThing_39 rfl (lv_at hl 1 rfl) ?_
          refine g_7_2 X hK hW w1 flRX0_164 dX0_putThing_40 ?_
          refine lv_iload_n hx hb dX0_putThing_43 rfl (lv_at hl 2 rfl) ?_
          refine lv_iload_n hx hb dX0_putThing_44 rfl (lv_at hl 3 rfl) ?_
          obtain ⟨b10, hf⟩ := gd_some hf
          obtain ⟨M11, hM11, hf⟩ := lt1_some hf
          have v12 : i1 < (M11 60 0 1).toNatClampNeg := by rw [hM11, mp_ne _ _ (fun q => absurd q.1 (by decide))]; exact w1
          refine as_19 X hK hW hS w1 b10 hM11 dX0_putThing_45 (fun H locs hW hS => ?_)
          refine lv_iconst (v := 0) hx hb dX0_putThing_46 (by decide) ?_
          obtain ⟨rfl, rfl⟩ := sp2 hf
          exact e_i ⟨hx, hb, hr, hlk⟩ hW hS dX0_putThing_47
        · rw [if_pos c9] at hf
          refine lv_iconst (v := 4) hx hb dX0_putThing_37 (by decide) ?_
          obtain ⟨rfl, rfl⟩ := sp2 hf
          exact e_i ⟨hx, hb, hr, hlk⟩ hW hS dX0_putThing_38
      · rw [if_pos c6] at hf
        refine lv_iconst (v := 2) hx hb dX0_putThing_23 (by decide) ?_
        obtain ⟨rfl, rfl⟩ := sp2 hf
        exact e_i ⟨hx, hb, hr, hlk⟩ hW hS dX0_putThing_24
    · rw [if_pos c3] at hf
      refine lv_iconst (v := 3) hx hb dX0_putThing_13 (by decide) ?_
      obtain ⟨rfl, rfl⟩ := sp2 hf
      exact e_i ⟨hx, hb, hr, hlk⟩ hW hS dX0_putThing_14
set_option maxRecDepth 100000 in
set_option maxHeartbeats 4000000 in
theorem k_yX0_putThing {p : Program} {l : Launch} {e : Env} {R : Room} {s : State} {m : MethodId} {args : Array Value} {below : List Frame} {meth : Method} {c : Code} {H : Heap} {locs : List Loc} {cells slots : Nat} {Q : State → Prop} {cc : ByteArray} {pc nL index : Nat} {ret : Option FieldType} {own : String} {ls : Array Slot} {rest : List Value} {E : Lay} {ad : Nat → Nat → Nat} {M N : Mem} (X : CX p s m args meth c cc nL ret own) (hK : KK E s) (hZ : ZZ E s) (hW : WD E ad (M, N) H) (hS : va_S (ow E) s.heap H locs) (hsz : ls.size = nL) {x2 : Int32} {x3 : Int32} (o1 : Option Nat) (w1 : om o1 True (fun i => i < (M 60 0 1).toNatClampNeg)) {r : Int32} {Mr : Mem} (hf : f_yX0_putThing M o1 x2 x3 = some (r, Mr)) (hn : Cond.methodLink own index yX0_putThing ∈ TB) (hR : 2 + 1 ≤ R.frames ∧ 8 + (4 + 11) + 44 ≤ R.locals) (hC : cells ≤ R.cells ∧ slots ≤ R.slots) (h8 : (rest.map fun v => v.category).sum ≤ 8) (hdg : decode cc pc = .ok (.invokevirtual index, 3)) (kk : ∀ (H1 : Heap) (locs1 : List Loc), WD E ad (Mr, N) H1 → va_S (ow E) s.heap H1 locs1 → W p l e R s m args below meth c H1 locs1 cells slots Q (F0 m (pc + 3) ls (.int r :: rest))) : W p l e R s m args below meth c H locs cells slots Q (F0 m pc ls (.int x3 :: .int x2 :: va_rf (o1.map (ad 8)) :: .ref (ad 3 0) :: rest)) := by
  refine va_calli (va_runV (C := RX0) (As := [va_rf (o1.map (ad 8)), .int x2, .int x3]) (rest := rest) ⟨X.1, X.2.1, X.2.2.1, X.2.2.2.1, X.2.2.2.2.1⟩ (c_yX0_putThing l E ad M N o1 x2 x3 w1 r Mr hf) (cwV 3 X.2.2.2.2.1 (gV hn im_yX0_putThing se_yX0_putThing iniRX0 cd_yX0_putThing) rfl rfl rfl (by decide +kernel) hR) ⟨fun a U g mk q => ⟨q.1, q.2.calling⟩, va_recv hK.1 (hW.at (c := 3) (i := 0) Nat.zero_lt_one rfl) (ci := 0) (q0 := 0) rfl rfl, fun U hU hw => ⟨rfl, PB.at hW hK hZ hS hU hw⟩⟩ rfl rfl hsz rfl (lv_room h8) hdg hC) hS (fun _ _ h => h) (fun _ h => h) (fun r' u t H1 locs1 ht hvm hw hB hz1 hk1 hS1 => ?_)
  obtain ⟨rfl, rfl⟩ := hw
  rw [ht] at hB
  exact kk H1 locs1 hB hS1
