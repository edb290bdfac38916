def f_yX0_copy_L37 : Nat → Mem → Nat → Nat → Int32 → Int32 → Option (Int32 × Mem)
  | 0, _, _, _, _, _ => none
  | n + 1, M0, k1, k2, y3, y4 => (if (nI (M0 8 k1 4).toNatClampNeg) ≤ y4 then (some (0, M0)) else ob1 (f_yX7_hasPlace M0 k2 (y3 + y4)) (fun r15 => (if r15 = 0 then (some (2, M0)) else gd (¬ (y4 < 0 ∨ (M0 8 k1 4).toNatClampNeg ≤ y4.toNatClampNeg)) (ob1 (f_yX7_takesFrom M0 k2 k1) (fun r19 => (if r19 = 0 then (some (4, M0)) else ob1 (f_yX7_isRowOfThings M0 k2) (fun r22 => (if r22 = 0 then gd (¬ ((y3 + y4) < 0 ∨ (M0 8 k2 4).toNatClampNeg ≤ (y3 + y4).toNatClampNeg)) (lt1 (mp M0 19 k2 (y3 + y4).toNatClampNeg (M0 19 k1 y4.toNatClampNeg)) (fun M25 => (f_yX0_copy_L37 n M25 k1 k2 y3 (y4 + 1)))) else ob1 (f_yX4_fits M0 (M0 19 k1 y4.toNatClampNeg) k2) (fun r29 => (if r29 = 0 then (some (4, M0)) else gd (¬ ((y3 + y4) < 0 ∨ (M0 8 k2 4).toNatClampNeg ≤ (y3 + y4).toNatClampNeg)) (lt1 (mp M0 19 k2 (y3 + y4).toNatClampNeg (M0 19 k1 y4.toNatClampNeg)) (fun M32 => (f_yX0_copy_L37 n M32 k1 k2 y3 (y4 + 1))))))))))))))
def f_yX0_copy (M : Mem) (o1 : Option Nat) (o2 : Option Nat) (x3 : Int32) : Option (Int32 × Mem) := om o1 (om o2 ((some (1, M))) (fun i2 => ob1 (f_yX7_isRow M i2) (fun r2 => (if r2 = 0 then (some (3, M)) else (some (1, M)))))) (fun i1 => om o2 (ob1 (f_yX7_isRow M i1) (fun r5 => (if r5 = 0 then (some (3, M)) else (some (1, M))))) (fun i2 => ob1 (f_yX7_isRow M i1) (fun r8 => (if r8 = 0 then (some (3, M)) else ob1 (f_yX7_isRow M i2) (fun r11 => (if r11 = 0 then (some (3, M)) else (f_yX0_copy_L37 70 M i1 i2 x3 0)))))))
set_option maxRecDepth 100000 in
set_option maxHeartbeats 4000000 in
theorem l_yX0_copy_37 (l : Launch) (E : Lay) (ad : Nat → Nat → Nat) (N : Mem) {p : Program} {e : Env} {s : State} {m : MethodId} {args : Array Value} {below : List Frame} {meth : Method} {c : Code} (X : CX p s m args meth c cX0_copy 7 (some .int) RX0) (hK : KK E s) (hZ : ZZ E s) : ∀ (n : Nat) (M0 : Mem) (k1 : Nat) (k2 : Nat) (y3 : Int32) (y4 : Int32) (r : Int32) (Mr : Mem) (hf : f_yX0_copy_L37 n M0 k1 k2 y3 y4 = some (r, Mr)) (w1 : k1 < (M0 60 0 1).toNatClampNeg) (w2 : k2 < (M0 60 0 1).toNatClampNeg) (H : Heap) (locs : List Loc) (ls : Array Slot), WD E ad (M0, N) H → va_S (ow E) s.heap H locs → lv_has ls 7 [(0, .ref (ad 3 0)), (1, .ref (ad 8 k1)), (2, .ref (ad 8 k2)), (3, .int y3), (4, .int y4)] → W p l e (rmm 2 44) s m args below meth c H locs 0 0 (MQ below (Qi E ad r (Mr, N)) args s 0 0 (ow E)) (F0 m 37 ls []) := by
  obtain ⟨hx, hb, hml, hown, hT, hr, hlk⟩ := id X
  intro n
  induction n with
  | zero =>
    intro M0 k1 k2 y3 y4 r Mr hf
    rw [f_yX0_copy_L37] at hf
    cases hf
  | succ n ih =>
    intro M0 k1 k2 y3 y4 r Mr hf w1 w2 H locs ls hW hS hl
    rw [f_yX0_copy_L37] at hf
    refine lv_iload hx hb dX0_copy_37 (lv_at hl 4 rfl) ?_
    refine lv_aload_n hx hb dX0_copy_39 rfl (lv_at hl 1 rfl) ?_
    refine g_7_2 X hK hW w1 flRX0_164 dX0_copy_40 ?_
    refine an_19 X hK hW w1 dX0_copy_43 ?_
    refine lv_icmp_ge (tgt := 118) hx hb dX0_copy_44 (by decide) (fun c13 => ?_) (fun c13 => ?_)
    · rw [if_pos c13] at hf
      refine lv_iconst (v := 0) hx hb dX0_copy_118 (by decide) ?_
      obtain ⟨rfl, rfl⟩ := sp2 hf
      exact e_i ⟨hx, hb, hr, hlk⟩ hW hS dX0_copy_119
    · rw [if_neg c13] at hf
      refine lv_iload_n hx hb dX0_copy_47 rfl (lv_at hl 3 rfl) ?_
      refine lv_iload hx hb dX0_copy_48 (lv_at hl 4 rfl) ?_
      refine lv_iadd hx hb dX0_copy_50 ?_
      refine lv_istore (lv' := [(5, .int (y3 + y4)), (0, .ref (ad 3 0)), (1, .ref (ad 8 k1)), (2, .ref (ad 8 k2)), (3, .int y3), (4, .int y4)]) hx hb dX0_copy_51 hl (by decide) rfl (fun ls hl => ?_)
      refine lv_aload_n hx hb dX0_copy_53 rfl (lv_at hl 3 rfl) ?_
      refine lv_iload hx hb dX0_copy_54 (lv_at hl 0 rfl) ?_
      obtain ⟨r15, h14, hf⟩ := ob1_some hf
      refine k_yX7_hasPlace X hK hZ hW hS hl.1 w2 h14 mlRX0_171 ⟨Nat.le_of_ble_eq_true rfl, Nat.le_of_ble_eq_true rfl⟩ ⟨Nat.le_of_ble_eq_true rfl, Nat.le_of_ble_eq_true rfl⟩ (Nat.le_of_ble_eq_true rfl) dX0_copy_56 (fun H locs hW hS => ?_)
      refine lv_if_ne (tgt := 64) hx hb dX0_copy_59 (by decide) (fun c16 => ?_) (fun c16 => ?_)
      · rw [if_neg c16] at hf
        refine lv_aload_n hx hb dX0_copy_64 rfl (lv_at hl 2 rfl) ?_
        refine g_7_2 X hK hW w1 flRX0_164 dX0_copy_65 ?_
        refine lv_iload hx hb dX0_copy_68 (lv_at hl 5 rfl) ?_
        obtain ⟨b17, hf⟩ := gd_some hf
        refine al_19 X hK hW w1 b17 dX0_copy_70 ?_
        refine lv_istore (lv' := [(6, .int (M0 19 k1 y4.toNatClampNeg)), (5, .int (y3 + y4)), (0, .ref (ad 3 0)), (1, .ref (ad 8 k1)), (2, .ref (ad 8 k2)), (3, .int y3), (4, .int y4)]) hx hb dX0_copy_71 hl (by decide) rfl (fun ls hl => ?_)
        refine lv_aload_n hx hb dX0_copy_73 rfl (lv_at hl 4 rfl) ?_
        refine lv_aload_n hx hb dX0_copy_74 rfl (lv_at hl 3 rfl) ?_
        obtain ⟨r19, h18, hf⟩ := ob1_some hf
        refine k_yX7_takesFrom X hK hZ hW hS hl.1 w2 w1 h18 mlRX0_185 ⟨Nat.le_of_ble_eq_true rfl, Nat.le_of_ble_eq_true rfl⟩ ⟨Nat.le_of_ble_eq_true rfl, Nat.le_of_ble_eq_true rfl⟩ (Nat.le_of_ble_eq_true rfl) dX0_copy_75 (fun H locs hW hS => ?_)
        refine lv_if_eq (tgt := 101) hx hb dX0_copy_78 (by decide) (fun c20 => ?_) (fun c20 => ?_)
        · rw [if_pos c20] at hf
          refine lv_iconst (v := 4) hx hb dX0_copy_101 (by decide) ?_
          obtain ⟨rfl, rfl⟩ := sp2 hf
          exact e_i ⟨hx, hb, hr, hlk⟩ hW hS dX0_copy_102
        · rw [if_neg c20] at hf
          refine lv_aload_n hx hb dX0_copy_81 rfl (lv_at hl 4 rfl) ?_
          obtain ⟨r22, h21, hf⟩ := ob1_some hf
          refine k_yX7_isRowOfThings X hK hZ hW hS hl.1 w2 h21 mlRX0_178 ⟨Nat.le_of_ble_eq_true rfl, Nat.le_of_ble_eq_true rfl⟩ ⟨Nat.le_of_ble_eq_true rfl, Nat.le_of_ble_eq_true rfl⟩ (Nat.le_of_ble_eq_true rfl) dX0_copy_82 (fun H locs hW hS => ?_)
          refine lv_if_eq (tgt := 103) hx hb dX0_copy_85 (by decide) (fun c23 => ?_) (fun c23 => ?_)
          · rw [if_pos c23] at hf
            refine lv_aload_n hx hb dX0_copy_103 rfl (lv_at hl 4 rfl) ?_
            refine g_7_2 X hK hW w2 flRX0_164 dX0_copy_104 ?_
            refine lv_iload hx hb dX0_copy_107 (lv_at hl 1 rfl) ?_
            refine lv_iload hx hb dX0_copy_109 (lv_at hl 0 rfl) ?_
            obtain ⟨b24, hf⟩ := gd_some hf
            obtain ⟨M25, hM25, hf⟩ := lt1_some hf
            have v26 : k1 < (M25 60 0 1).toNatClampNeg := by rw [hM25, mp_ne _ _ (fun q => absurd q.1 (by decide))]; exact w1
            have v27 : k2 < (M25 60 0 1).toNatClampNeg := by rw [hM25, mp_ne _ _ (fun q => absurd q.1 (by decide))]; exact w2
            refine as_19 X hK hW hS w2 b24 hM25 dX0_copy_111 (fun H locs hW hS => ?_)
            refine lv_iinc (v := (y4 + 1)) (lv' := [(4, .int (y4 + 1)), (6, .int (M0 19 k1 y4.toNatClampNeg)), (5, .int (y3 + y4)), (0, .ref (ad 3 0)), (1, .ref (ad 8 k1)), (2, .ref (ad 8 k2)), (3, .int y3)]) hx hb dX0_copy_112 hl (k := 6) rfl rfl (by decide) rfl (fun ls hl => ?_)
            refine lv_goto (tgt := 37) hx hb dX0_copy_115 (by decide) ?_
            exact ih _ _ _ _ _ _ _ hf v26 v27 _ _ _ hW hS (lv_sub hl [3, 4, 5, 6, 0] rfl)
          · rw [if_neg c23] at hf
            refine lv_aload_n hx hb dX0_copy_88 rfl (lv_at hl 2 rfl) ?_
            refine g_0_0 X hK hW flRX0_9 dX0_copy_89 ?_
            refine lv_iload hx hb dX0_copy_92 (lv_at hl 0 rfl) ?_
            refine lv_aload_n hx hb dX0_copy_94 rfl (lv_at hl 4 rfl) ?_
            obtain ⟨r29, h28, hf⟩ := ob1_some hf
            refine k_yX4_fits X hK hZ hW hS hl.1 w2 h28 mlRX0_181 ⟨Nat.le_of_ble_eq_true rfl, Nat.le_of_ble_eq_true rfl⟩ ⟨Nat.le_of_ble_eq_true rfl, Nat.le_of_ble_eq_true rfl⟩ (Nat.le_of_ble_eq_true rfl) dX0_copy_95 (fun H locs hW hS => ?_)
            refine lv_if_ne (tgt := 103) hx hb dX0_copy_98 (by decide) (fun c30 => ?_) (fun c30 => ?_)
            · rw [if_neg c30] at hf
              refine lv_aload_n hx hb dX0_copy_103 rfl (lv_at hl 4 rfl) ?_
              refine g_7_2 X hK hW w2 flRX0_164 dX0_copy_104 ?_
              refine lv_iload hx hb dX0_copy_107 (lv_at hl 1 rfl) ?_
              refine lv_iload hx hb dX0_copy_109 (lv_at hl 0 rfl) ?_
              obtain ⟨b31, hf⟩ := gd_some hf
              obtain ⟨M32, hM32, hf⟩ := lt1_some hf
              have v33 : k1 < (M32 60 0 1).toNatClampNeg := by rw [hM32, mp_ne _ _ (fun q => absurd q.1 (by decide))]; exact w1
              have v34 : k2 < (M32 60 0 1).toNatClampNeg := by rw [hM32, mp_ne _ _ (fun q => absurd q.1 (by decide))]; exact w2
              refine as_19 X hK hW hS w2 b31 hM32 dX0_copy_111 (fun H locs hW hS => ?_)
              refine lv_iinc (v := (y4 + 1)) (lv' := [(4, .int (y4 + 1)), (6, .int (M0 19 k1 y4.toNatClampNeg)), (5, .int (y3 + y4)), (0, .ref (ad 3 0)), (1, .ref (ad 8 k1)), (2, .ref (ad 8 k2)), (3, .int y3)]) hx hb dX0_copy_112 hl (k := 6) rfl rfl (by decide) rfl (fun ls hl => ?_)
              refine lv_goto (tgt := 37) hx hb dX0_copy_115 (by decide) ?_
              exact ih _ _ _ _ _ _ _ hf v33 v34 _ _ _ hW hS (lv_sub hl [3, 4, 5, 6, 0] rfl)
            · rw [if_pos c30] at hf
              refine lv_iconst (v := 4) hx hb dX0_copy_101 (by decide) ?_
              obtain ⟨rfl, rfl⟩ := sp2 hf
              exact e_i ⟨hx, hb, hr, hlk⟩ hW hS dX0_copy_102
      · rw [if_pos c16] at hf
        refine lv_iconst (v := 2) hx hb dX0_copy_62 (by decide) ?_
        obtain ⟨rfl, rfl⟩ := sp2 hf
        exact e_i ⟨hx, hb, hr, hlk⟩ hW hS dX0_copy_63
set_option maxRecDepth 100000 in
set_option maxHeartbeats 4000000 in
theorem c_yX0_copy (l : Launch) (E : Lay) (ad : Nat → Nat → Nat) (M N : Mem) (o1 : Option Nat) (o2 : Option Nat) (x3 : Int32) (w1 : om o1 True (fun i => i < (M 60 0 1).toNatClampNeg)) (w2 : om o2 True (fun i => i < (M 60 0 1).toNatClampNeg)) (r : Int32) (Mr : Mem) (hf : f_yX0_copy M o1 o2 x3 = some (r, Mr)) : Met l yX0_copy (Cond.code yX0_copy cX0_copy 7 (some .int) :: TB) (rmm 2 44) (va_Pc [.ref (ad 3 0), va_rf (o1.map (ad 8)), va_rf (o2.map (ad 8)), .int x3] (PB E ad (M, N))) (Qi E ad r (Mr, N)) 0 0 (ow E) := by
  refine Met.ofW (cc := cX0_copy) (maxL := 7) (ret := (some .int)) (by decide) rfl ?_
  intro p e s m args below meth c s₁ B hml hv
  obtain ⟨rfl, hW, hK, hZ⟩ := hv
  have hT : ∀ w ∈ TB, w.before _ s = true := fun w h => atoms_spec (ws := (Cond.code yX0_copy cX0_copy 7 (some .int) :: TB)) B.pre w (List.mem_cons_of_mem _ h)
  have X : CX p s m _ meth c cX0_copy 7 (some .int) RX0 := ⟨B.exec, B.bytes, hml, findClass_of_methodNamed B.named, hT, B.returns, B.notSynchronized⟩
  obtain ⟨hx, hb, hml, hown, hT, hr, hlk⟩ := id X
  have hS : va_S (ow E) s.heap s.heap [] := va_S.rf
  unfold f_yX0_copy at hf
  rcases o1 with _ | i1
  · rw [om_n] at hf
    rcases o2 with _ | i2
    · rw [om_n] at hf
      refine W.eq (g2 := entryFrame m ([.ref (ad 3 0), .null, .null, .int x3] : List Value).toArray 7) rfl ?_
      have hl := lv_entry ([.ref (ad 3 0), .null, .null, .int x3]) (n := 7) (Nat.le_of_ble_eq_true rfl)
      rw [lg_entry_eq]
      generalize (lg_sl ([.ref (ad 3 0), .null, .null, .int x3]) ++ List.replicate (7 - (lg_sl ([.ref (ad 3 0), .null, .null, .int x3])).length) Slot.unset).toArray = ls at hl ⊢
      have hl : lv_has ls 7 [(0, .ref (ad 3 0)), (1, .null), (2, .null), (3, .int x3)] := hl
      refine lv_aload_nN hx hb dX0_copy_0 rfl (lv_at hl 1 rfl) ?_
      refine lv_ifnullN (tgt := 11) hx hb dX0_copy_1 (by decide) ?_
      refine lv_aload_nN hx hb dX0_copy_11 rfl (lv_at hl 2 rfl) ?_
      refine lv_ifnullN (tgt := 24) hx hb dX0_copy_12 (by decide) ?_
      refine lv_aload_nN hx hb dX0_copy_24 rfl (lv_at hl 1 rfl) ?_
      refine lv_ifnullN (tgt := 32) hx hb dX0_copy_25 (by decide) ?_
      refine lv_iconst (v := 1) hx hb dX0_copy_32 (by decide) ?_
      obtain ⟨rfl, rfl⟩ := sp2 hf
      exact e_i ⟨hx, hb, hr, hlk⟩ hW hS dX0_copy_33
    · rw [om_s] at hf
      refine W.eq (g2 := entryFrame m ([.ref (ad 3 0), .null, .ref (ad 8 i2), .int x3] : List Value).toArray 7) rfl ?_
      have hl := lv_entry ([.ref (ad 3 0), .null, .ref (ad 8 i2), .int x3]) (n := 7) (Nat.le_of_ble_eq_true rfl)
      rw [lg_entry_eq]
      generalize (lg_sl ([.ref (ad 3 0), .null, .ref (ad 8 i2), .int x3]) ++ List.replicate (7 - (lg_sl ([.ref (ad 3 0), .null, .ref (ad 8 i2), .int x3])).length) Slot.unset).toArray = ls at hl ⊢
      have hl : lv_has ls 7 [(0, .ref (ad 3 0)), (1, .null), (2, .ref (ad 8 i2)), (3, .int x3)] := hl
      refine lv_aload_nN hx hb dX0_copy_0 rfl (lv_at hl 1 rfl) ?_
      refine lv_ifnullN (tgt := 11) hx hb dX0_copy_1 (by decide) ?_
      refine lv_aload_n hx hb dX0_copy_11 rfl (lv_at hl 2 rfl) ?_
      refine lv_ifnull hx hb dX0_copy_12 ?_
      refine lv_aload_n hx hb dX0_copy_15 rfl (lv_at hl 2 rfl) ?_
      obtain ⟨r2, h1, hf⟩ := ob1_some hf
      refine k_yX7_isRow X hK hZ hW hS hl.1 w2 h1 mlRX0_161 ⟨Nat.le_of_ble_eq_true rfl, Nat.le_of_ble_eq_true rfl⟩ ⟨Nat.le_of_ble_eq_true rfl, Nat.le_of_ble_eq_true rfl⟩ (Nat.le_of_ble_eq_true rfl) dX0_copy_16 (fun H locs hW hS => ?_)
      refine lv_if_ne (tgt := 24) hx hb dX0_copy_19 (by decide) (fun c3 => ?_) (fun c3 => ?_)
      · rw [if_neg c3] at hf
        refine lv_aload_nN hx hb dX0_copy_24 rfl (lv_at hl 1 rfl) ?_
        refine lv_ifnullN (tgt := 32) hx hb dX0_copy_25 (by decide) ?_
        refine lv_iconst (v := 1) hx hb dX0_copy_32 (by decide) ?_
        obtain ⟨rfl, rfl⟩ := sp2 hf
        exact e_i ⟨hx, hb, hr, hlk⟩ hW hS dX0_copy_33
      · rw [if_pos c3] at hf
        refine lv_iconst (v := 3) hx hb dX0_copy_22 (by decide) ?_
        obtain ⟨rfl, rfl⟩ := sp2 hf
        exact e_i ⟨hx, hb, hr, hlk⟩ hW hS dX0_copy_23
  · rw [om_s] at hf
    rcases o2 with _ | i2
    · rw [om_n] at hf
      refine W.eq (g2 := entryFrame m ([.ref (ad 3 0), .ref (ad 8 i1), .null, .int x3] : List Value).toArray 7) rfl ?_
      have hl := lv_entry ([.ref (ad 3 0), .ref (ad 8 i1), .null, .int x3]) (n := 7) (Nat.le_of_ble_eq_true rfl)
      rw [lg_entry_eq]
      generalize (lg_sl ([.ref (ad 3 0), .ref (ad 8 i1), .null, .int x3]) ++ List.replicate (7 - (lg_sl ([.ref (ad 3 0), .ref (ad 8 i1), .null, .int x3])).length) Slot.unset).toArray = ls at hl ⊢
      have hl : lv_has ls 7 [(0, .ref (ad 3 0)), (1, .ref (ad 8 i1)), (2, .null), (3, .int x3)] := hl
      refine lv_aload_n hx hb dX0_copy_0 rfl (lv_at hl 1 rfl) ?_
      refine lv_ifnull hx hb dX0_copy_1 ?_
      refine lv_aload_n hx hb dX0_copy_4 rfl (lv_at hl 1 rfl) ?_
      obtain ⟨r5, h4, hf⟩ := ob1_some hf
      refine k_yX7_isRow X hK hZ hW hS hl.1 w1 h4 mlRX0_161 ⟨Nat.le_of_ble_eq_true rfl, Nat.le_of_ble_eq_true rfl⟩ ⟨Nat.le_of_ble_eq_true rfl, Nat.le_of_ble_eq_true rfl⟩ (Nat.le_of_ble_eq_true rfl) dX0_copy_5 (fun H locs hW hS => ?_)
      refine lv_if_eq (tgt := 22) hx hb dX0_copy_8 (by decide) (fun c6 => ?_) (fun c6 => ?_)
      · rw [if_pos c6] at hf
        refine lv_iconst (v := 3) hx hb dX0_copy_22 (by decide) ?_
        obtain ⟨rfl, rfl⟩ := sp2 hf
        exact e_i ⟨hx, hb, hr, hlk⟩ hW hS dX0_copy_23
      · rw [if_neg c6] at hf
        refine lv_aload_nN hx hb dX0_copy_11 rfl (lv_at hl 2 rfl) ?_
        refine lv_ifnullN (tgt := 24) hx hb dX0_copy_12 (by decide) ?_
        refine lv_aload_n hx hb dX0_copy_24 rfl (lv_at hl 1 rfl) ?_
        refine lv_ifnull hx hb dX0_copy_25 ?_
        refine lv_aload_nN hx hb dX0_copy_28 rfl (lv_at hl 2 rfl) ?_
        refine lv_ifnonnullN hx hb dX0_copy_29 ?_
        refine lv_iconst (v := 1) hx hb dX0_copy_32 (by decide) ?_
        obtain ⟨rfl, rfl⟩ := sp2 hf
        exact e_i ⟨hx, hb, hr, hlk⟩ hW hS dX0_copy_33
    · rw [om_s] at hf
      refine W.eq (g2 := entryFrame m ([.ref (ad 3 0), .ref (ad 8 i1), .ref (ad 8 i2), .int x3] : List Value).toArray 7) rfl ?_
      have hl := lv_entry ([.ref (ad 3 0), .ref (ad 8 i1), .ref (ad 8 i2), .int x3]) (n := 7) (Nat.le_of_ble_eq_true rfl)
      rw [lg_entry_eq]
      generalize (lg_sl ([.ref (ad 3 0), .ref (ad 8 i1), .ref (ad 8 i2), .int x3]) ++ List.replicate (7 - (lg_sl ([.ref (ad 3 0), .ref (ad 8 i1), .ref (ad 8 i2), .int x3])).length) Slot.unset).toArray = ls at hl ⊢
      have hl : lv_has ls 7 [(0, .ref (ad 3 0)), (1, .ref (ad 8 i1)), (2, .ref (ad 8 i2)), (3, .int x3)] := hl
      refine lv_aload_n hx hb dX0_copy_0 rfl (lv_at hl 1 rfl) ?_
      refine lv_ifnull hx hb dX0_copy_1 ?_
      refine lv_aload_n hx hb dX0_copy_4 rfl (lv_at hl 1 rfl) ?_
      obtain ⟨r8, h7, hf⟩ := ob1_some hf
      refine k_yX7_isRow X hK hZ hW hS hl.1 w1 h7 mlRX0_161 ⟨Nat.le_of_ble_eq_true rfl, Nat.le_of_ble_eq_true rfl⟩ ⟨Nat.le_of_ble_eq_true rfl, Nat.le_of_ble_eq_true rfl⟩ (Nat.le_of_ble_eq_true rfl) dX0_copy_5 (fun H locs hW hS => ?_)
      refine lv_if_eq (tgt := 22) hx hb dX0_copy_8 (by decide) (fun c9 => ?_) (fun c9 => ?_)
      · rw [if_pos c9] at hf
        refine lv_iconst (v := 3) hx hb dX0_copy_22 (by decide) ?_
        obtain ⟨rfl, rfl⟩ := sp2 hf
        exact e_i ⟨hx, hb, hr, hlk⟩ hW hS dX0_copy_23
      · rw [if_neg c9] at hf
        refine lv_aload_n hx hb dX0_copy_11 rfl (lv_at hl 2 rfl) ?_
        refine lv_ifnull hx hb dX0_copy_12 ?_
        refine lv_aload_n hx hb dX0_copy_15 rfl (lv_at hl 2 rfl) ?_
        obtain ⟨r11, h10, hf⟩ := ob1_some hf
        refine k_yX7_isRow X hK hZ hW hS hl.1 w2 h10 mlRX0_161 ⟨Nat.le_of_ble_eq_true rfl, Nat.le_of_ble_eq_true rfl⟩ ⟨Nat.le_of_ble_eq_true rfl, Nat.le_of_ble_eq_true rfl⟩ (Nat.le_of_ble_eq_true rfl) dX0_copy_16 (fun H locs hW hS => ?_)
        refine lv_if_ne (tgt := 24) hx hb dX0_copy_19 (by decide) (fun c12 => ?_) (fun c12 => ?_)
        · rw [if_neg c12] at hf
          refine lv_aload_n hx hb dX0_copy_24 rfl (lv_at hl 1 rfl) ?_
          refine lv_ifnull hx hb dX0_copy_25 ?_
          refine lv_aload_n hx hb dX0_copy_28 rfl (lv_at hl 2 rfl) ?_
          refine lv_ifnonnull (tgt := 34) hx hb dX0_copy_29 (by decide) ?_
          refine lv_iconst (v := 0) hx hb dX0_copy_34 (by decide) ?_
          refine lv_istore (lv' := [(4, .int 0), (0, .ref (ad 3 0)), (1, .ref (ad 8 i1)), (2, .ref (ad 8 i2)), (3, .int x3)]) hx hb dX0_copy_35 hl (by decide) rfl (fun ls hl => ?_)
          exact (l_yX0_copy_37 l E ad N X hK hZ 70) _ _ _ _ _ _ _ hf w1 w2 _ _ _ hW hS (lv_sub hl [1, 2, 3, 4, 0] rfl)
        · rw [if_pos c12] at hf
          refine lv_iconst (v := 3) hx hb dX0_copy_22 (by decide) ?_
          obtain ⟨rfl, rfl⟩ := sp2 hf
          exact e_i ⟨hx, hb, hr, hlk⟩ hW hS dX0_copy_23
set_option maxRecDepth 100000 in
set_option maxHeartbeats 4000000 in
theorem k_yX0_copy {p : Program} {l : Launch} {e : Env} {R : Room} {s : State} {m : MethodId} {args : Array Value} {below : List Frame} {meth : Method} {c : Code} {H : Heap} {locs : List Loc} {cells slots : Nat} {Q : State → Prop} {cc : ByteArray} {pc nL index : Nat} {ret : Option FieldType} {own : String} {ls : Array Slot} {rest : List Value} {E : Lay} {ad : Nat → Nat → Nat} {M N : Mem} (X : CX p s m args meth c cc nL ret own) (hK : KK E s) (hZ : ZZ E s) (hW : WD E ad (M, N) H) (hS : va_S (ow E) s.heap H locs) (hsz : ls.size = nL) {x3 : Int32} (o1 : Option Nat) (w1 : om o1 True (fun i => i < (M 60 0 1).toNatClampNeg)) (o2 : Option Nat) (w2 : om o2 True (fun i => i < (M 60 0 1).toNatClampNeg)) {r : Int32} {Mr : Mem} (hf : f_yX0_copy M o1 o2 x3 = some (r, Mr)) (hn : Cond.methodLink own index yX0_copy ∈ TB) (hR : 2 + 1 ≤ R.frames ∧ 8 + (7 + 11) + 44 ≤ R.locals) (hC : cells ≤ R.cells ∧ slots ≤ R.slots) (h8 : (rest.map fun v => v.category).sum ≤ 8) (hdg : decode cc pc = .ok (.invokevirtual index, 3)) (kk : ∀ (H1 : Heap) (locs1 : List Loc), WD E ad (Mr, N) H1 → va_S (ow E) s.heap H1 locs1 → W p l e R s m args below meth c H1 locs1 cells slots Q (F0 m (pc + 3) ls (.int r :: rest))) : W p l e R s m args below meth c H locs cells slots Q (F0 m pc ls (.int x3 :: va_rf (o2.map (ad 8)) :: va_rf (o1.map (ad 8)) :: .ref (ad 3 0) :: rest)) := by
  refine va_calli (va_runV (C := RX0) (As := [va_rf (o1.map (ad 8)), va_rf (o2.map (ad 8)), .int x3]) (rest := rest) ⟨X.1, X.2.1, X.2.2.1, X.2.2.2.1, X.2.2.2.2.1⟩ (c_yX0_copy l E ad M N o1 o2 x3 w1 w2 r Mr hf) (cwV 3 X.2.2.2.2.1 (gV hn im_yX0_copy se_yX0_copy iniRX0 cd_yX0_copy) rfl rfl rfl (by decide +kernel) hR) ⟨fun a U g mk q => ⟨q.1, q.2.calling⟩, va_recv hK.1 (hW.at (c := 3) (i := 0) Nat.zero_lt_one rfl) (ci := 0) (q0 := 0) rfl rfl, fun U hU hw => ⟨rfl, PB.at hW hK hZ hS hU hw⟩⟩ rfl rfl hsz rfl (lv_room h8) hdg hC) hS (fun _ _ h => h) (fun _ h => h) (fun r' u t H1 locs1 ht hvm hw hB hz1 hk1 hS1 => ?_)
  obtain ⟨rfl, rfl⟩ := hw
  rw [ht] at hB
  exact kk H1 locs1 hB hS1
def f_yX0_enter (M : Mem) (i1 : Nat) (i2 : Nat) (x3 : Int32) : Option (Int32 × Mem) := (if x3 = 0 then ob1 (f_yX1_getIn M i1 (some i2) 1) (fun M3 => (some (0, M3))) else lt1 (mp M 8 i2 3 ((M 8 i2 3) + 1)) (fun M4 => (some (0, M4))))
set_option maxRecDepth 100000 in
set_option maxHeartbeats 4000000 in
theorem c_yX0_enter (l : Launch) (E : Lay) (ad : Nat → Nat → Nat) (M N : Mem) (i1 : Nat) (i2 : Nat) (x3 : Int32) (w1 : i1 < 6) (w2 : i2 < (M 60 0 1).toNatClampNeg) (r : Int32) (Mr : Mem) (hf : f_yX0_enter M i1 i2 x3 = some (r, Mr)) : Met l yX0_enter (Cond.code yX0_enter cX0_enter 4 (some .int) :: TB) (rmm 2 46) (va_Pc [.ref (ad 3 0), .ref (ad 6 i1), .ref (ad 8 i2), .int x3] (PB E ad (M, N))) (Qi E ad r (Mr, N)) 0 0 (ow E) := by
  refine Met.ofW (cc := cX0_enter) (maxL := 4) (ret := (some .int)) (by decide) rfl ?_
  intro p e s m args below meth c s₁ B hml hv
  obtain ⟨rfl, hW, hK, hZ⟩ := hv
  have hT : ∀ w ∈ TB, w.before _ s = true := fun w h => atoms_spec (ws := (Cond.code yX0_enter cX0_enter 4 (some .int) :: TB)) B.pre w (List.mem_cons_of_mem _ h)
  have X : CX p s m _ meth c cX0_enter 4 (some .int) RX0 := ⟨B.exec, B.bytes, hml, findClass_of_methodNamed B.named, hT, B.returns, B.notSynchronized⟩
  obtain ⟨hx, hb, hml, hown, hT, hr, hlk⟩ := id X
  have hS : va_S (ow E) s.heap s.heap [] := va_S.rf
  have hl := lv_entry ([.ref (ad 3 0), .ref (ad 6 i1), .ref (ad 8 i2), .int x3]) (n := 4) (Nat.le_of_ble_eq_true rfl)
  rw [lg_entry_eq]
  generalize (lg_sl ([.ref (ad 3 0), .ref (ad 6 i1), .ref (ad 8 i2), .int x3]) ++ List.replicate (4 - (lg_sl ([.ref (ad 3 0), .ref (ad 6 i1), .ref (ad 8 i2), .int x3])).length) Slot.unset).toArray = ls at hl ⊢
  have hl : lv_has ls 4 [(0, .ref (ad 3 0)), (1, .ref (ad 6 i1)), (2, .ref (ad 8 i2)), (3, .int x3)] := hl
  unfold f_yX0_enter at hf
  refine lv_iload_n hx hb dX0_enter_0 rfl (lv_at hl 3 rfl) ?_
  refine lv_if_eq (tgt := 17) hx hb dX0_enter_1 (by decide) (fun c1 => ?_) (fun c1 => ?_)
  · rw [if_pos c1] at hf
    refine lv_aload_n hx hb dX0_enter_17 rfl (lv_at hl 0 rfl) ?_
    refine g_0_1 X hK hW flRX0_15 dX0_enter_18 ?_
    refine lv_aload_n hx hb dX0_enter_21 rfl (lv_at hl 1 rfl) ?_
    refine lv_aload_n hx hb dX0_enter_22 rfl (lv_at hl 2 rfl) ?_
    refine lv_iconst (v := 1) hx hb dX0_enter_23 (by decide) ?_
    obtain ⟨M3, h2, hf⟩ := ob1_some hf
    refine k_yX1_getIn X hK hZ hW hS hl.1 w1 (some i2) w2 h2 mlRX0_218 ⟨Nat.le_of_ble_eq_true rfl, Nat.le_of_ble_eq_true rfl⟩ ⟨Nat.le_of_ble_eq_true rfl, Nat.le_of_ble_eq_true rfl⟩ (Nat.le_of_ble_eq_true rfl) dX0_enter_24 (fun H locs hW hS => ?_)
    refine lv_iconst (v := 0) hx hb dX0_enter_27 (by decide) ?_
    obtain ⟨rfl, rfl⟩ := sp2 hf
    exact e_i ⟨hx, hb, hr, hlk⟩ hW hS dX0_enter_28
  · rw [if_neg c1] at hf
    refine lv_aload_n hx hb dX0_enter_4 rfl (lv_at hl 2 rfl) ?_
    refine lv_dup hx hb dX0_enter_5 rfl ?_
    refine g_7_5 X hK hW w2 flRX0_215 dX0_enter_6 ?_
    refine lv_iconst (v := 1) hx hb dX0_enter_9 (by decide) ?_
    refine lv_iadd hx hb dX0_enter_10 ?_
    obtain ⟨M4, hM4, hf⟩ := lt1_some hf
    have v5 : i2 < (M4 60 0 1).toNatClampNeg := by rw [hM4, mp_ne _ _ (fun q => absurd q.1 (by decide))]; exact w2
    refine p_7_5 X hK hW hS w2 hM4 flRX0_215 dX0_enter_11 (fun H locs hW hS => ?_)
    refine lv_goto (tgt := 27) hx hb dX0_enter_14 (by decide) ?_
    refine lv_iconst (v := 0) hx hb dX0_enter_27 (by decide) ?_
    obtain ⟨rfl, rfl⟩ := sp2 hf
    exact e_i ⟨hx, hb, hr, hlk⟩ hW hS dX0_enter_28
set_option maxRecDepth 100000 in
set_option maxHeartbeats 4000000 in
theorem k_yX0_enter {p : Program} {l : Launch} {e : Env} {R : Room} {s : State} {m : MethodId} {args : Array Value} {below : List Frame} {meth : Method} {c : Code} {H : Heap} {locs : List Loc} {cells slots : Nat} {Q : State → Prop} {cc : ByteArray} {pc nL index : Nat} {ret : Option FieldType} {own : String} {ls : Array Slot} {rest : List Value} {E : Lay} {ad : Nat → Nat → Nat} {M N : Mem} (X : CX p s m args meth c cc nL ret own) (hK : KK E s) (hZ : ZZ E s) (hW : WD E ad (M, N) H) (hS : va_S (ow E) s.heap H locs) (hsz : ls.size = nL) {i1 : Nat} {i2 : Nat} {x3 : Int32} (w1 : i1 < 6) (w2 : i2 < (M 60 0 1).toNatClampNeg) {r : Int32} {Mr : Mem} (hf : f_yX0_enter M i1 i2 x3 = some (r, Mr)) (hn : Cond.methodLink own index yX0_enter ∈ TB) (hR : 2 + 1 ≤ R.frames ∧ 8 + (4 + 11) + 46 ≤ R.locals) (hC : cells ≤ R.cells ∧ slots ≤ R.slots) (h8 : (rest.map fun v => v.category).sum ≤ 8) (hdg : decode cc pc = .ok (.invokevirtual index, 3)) (kk : ∀ (H1 : Heap) (locs1 : List Loc), WD E ad (Mr, N) H1 → va_S (ow E) s.heap H1 locs1 → W p l e R s m args below meth c H1 locs1 cells slots Q (F0 m (pc + 3) ls (.int r :: rest))) : W p l e R s m args below meth c H locs cells slots Q (F0 m pc ls (.int x3 :: .ref (ad 8 i2) :: .ref (ad 6 i1) :: .ref (ad 3 0) :: rest)) := by
  refine va_calli (va_runV (C := RX0) (As := [.ref (ad 6 i1), .ref (ad 8 i2), .int x3]) (rest := rest) ⟨X.1, X.2.1, X.2.2.1, X.2.2.2.1, X.2.2.2.2.1⟩ (c_yX0_enter l E ad M N i1 i2 x3 w1 w2 r Mr hf) (cwV 3 X.2.2.2.2.1 (gV hn im_yX0_enter se_yX0_enter iniRX0 cd_yX0_enter) rfl rfl rfl (by decide +kernel) hR) ⟨fun a U g mk q => ⟨q.1, q.2.calling⟩, va_recv hK.1 (hW.at (c := 3) (i := 0) Nat.zero_lt_one rfl) (ci := 0) (q0 := 0) rfl rfl, fun U hU hw => ⟨rfl, PB.at hW hK hZ hS hU hw⟩⟩ rfl rfl hsz rfl (lv_room h8) hdg hC) hS (fun _ _ h => h) (fun _ h => h) (fun r' u t H1 locs1 ht hvm hw hB hz1 hk1 hS1 => ?_)
  obtain ⟨rfl, rfl⟩ := hw
  rw [ht] at hB
  exact kk H1 locs1 hB hS1
def f_yX0_leave (M : Mem) (i1 : Nat) : Option (Int32 × Mem) := lt1 (mp M 8 i1 3 ((M 8 i1 3) - 1)) (fun M1 => (if (M1 8 i1 3) = 0 then ob1 (f_yX1_vacate M1 i1) (fun M5 => (some (0, M5))) else (some (0, M1))))
set_option maxRecDepth 100000 in
set_option maxHeartbeats 4000000 in
theorem c_yX0_leave (l : Launch) (E : Lay) (ad : Nat → Nat → Nat) (M N : Mem) (i1 : Nat) (w1 : i1 < (M 60 0 1).toNatClampNeg) (r : Int32) (Mr : Mem) (hf : f_yX0_leave M i1 = some (r, Mr)) : Met l yX0_leave (Cond.code yX0_leave cX0_leave 2 (some .int) :: TB) (rmm 2 50) (va_Pc [.ref (ad 3 0), .ref (ad 8 i1)] (PB E ad (M, N))) (Qi E ad r (Mr, N)) 0 0 (ow E) := by
  refine Met.ofW (cc := cX0_leave) (maxL := 2) (ret := (some .int)) (by decide) rfl ?_
  intro p e s m args below meth c s₁ B hml hv
  obtain ⟨rfl, hW, hK, hZ⟩ := hv
  have hT : ∀ w ∈ TB, w.before _ s = true := fun w h => atoms_spec (ws := (Cond.code yX0_leave cX0_leave 2 (some .int) :: TB)) B.pre w (List.mem_cons_of_mem _ h)
  have X : CX p s m _ meth c cX0_leave 2 (some .int) RX0 := ⟨B.exec, B.bytes, hml, findClass_of_methodNamed B.named, hT, B.returns, B.notSynchronized⟩
  obtain ⟨hx, hb, hml, hown, hT, hr, hlk⟩ := id X
  have hS : va_S (ow E) s.heap s.heap [] := va_S.rf
  have hl := lv_entry ([.ref (ad 3 0), .ref (ad 8 i1)]) (n := 2) (Nat.le_of_ble_eq_true rfl)
  rw [lg_entry_eq]
  generalize (lg_sl ([.ref (ad 3 0), .ref (ad 8 i1)]) ++ List.replicate (2 - (lg_sl ([.ref (ad 3 0), .ref (ad 8 i1)])).length) Slot.unset).toArray = ls at hl ⊢
  have hl : lv_has ls 2 [(0, .ref (ad 3 0)), (1, .ref (ad 8 i1))] := hl
  unfold f_yX0_leave at hf
  refine lv_aload_n hx hb dX0_leave_0 rfl (lv_at hl 1 rfl) ?_
  refine lv_dup hx hb dX0_leave_1 rfl ?_
  refine g_7_5 X hK hW w1 flRX0_215 dX0_leave_2 ?_
  refine lv_iconst (v := 1) hx hb dX0_leave_5 (by decide) ?_
  refine lv_isub hx hb dX0_leave_6 ?_
  obtain ⟨M1, hM1, hf⟩ := lt1_some hf
  have v2 : i1 < (M1 60 0 1).toNatClampNeg := by rw [hM1, mp_ne _ _ (fun q => absurd q.1 (by decide))]; exact w1
  refine p_7_5 X hK hW hS w1 hM1 flRX0_215 dX0_leave_7 (fun H locs hW hS => ?_)
  refine lv_aload_n hx hb dX0_leave_10 rfl (lv_at hl 1 rfl) ?_
  refine g_7_5 X hK hW v2 flRX0_215 dX0_leave_11 ?_
  refine lv_if_ne (tgt := 25) hx hb dX0_leave_14 (by decide) (fun c3 => ?_) (fun c3 => ?_)
  · rw [if_neg c3] at hf
    refine lv_iconst (v := 0) hx hb dX0_leave_25 (by decide) ?_
    obtain ⟨rfl, rfl⟩ := sp2 hf
    exact e_i ⟨hx, hb, hr, hlk⟩ hW hS dX0_leave_26
  · rw [if_pos c3] at hf
    refine lv_aload_n hx hb dX0_leave_17 rfl (lv_at hl 0 rfl) ?_
    refine g_0_1 X hK hW flRX0_15 dX0_leave_18 ?_
    refine lv_aload_n hx hb dX0_leave_21 rfl (lv_at hl 1 rfl) ?_
    obtain ⟨M5, h4, hf⟩ := ob1_some hf
    refine k_yX1_vacate X hK hZ hW hS hl.1 v2 h4 mlRX0_222 ⟨Nat.le_of_ble_eq_true rfl, Nat.le_of_ble_eq_true rfl⟩ ⟨Nat.le_of_ble_eq_true rfl, Nat.le_of_ble_eq_true rfl⟩ (Nat.le_of_ble_eq_true rfl) dX0_leave_22 (fun H locs hW hS => ?_)
    refine lv_iconst (v := 0) hx hb dX0_leave_25 (by decide) ?_
    obtain ⟨rfl, rfl⟩ := sp2 hf
    exact e_i ⟨hx, hb, hr, hlk⟩ hW hS dX0_leave_26
set_option maxRecDepth 100000 in
set_option maxHeartbeats 4000000 in
theorem k_yX0_leave {p : Program} {l : Launch} {e : Env} {R : Room} {s : State} {m : MethodId} {args : Array Value} {below : List Frame} {meth : Method} {c : Code} {H : Heap} {locs : List Loc} {cells slots : Nat} {Q : State → Prop} {cc : ByteArray} {pc nL index : Nat} {ret : Option FieldType} {own : String} {ls : Array Slot} {rest : List Value} {E : Lay} {ad : Nat → Nat → Nat} {M N : Mem} (X : CX p s m args meth c cc nL ret own) (hK : KK E s) (hZ : ZZ E s) (hW : WD E ad (M, N) H) (hS : va_S (ow E) s.heap H locs) (hsz : ls.size = nL) {i1 : Nat} (w1 : i1 < (M 60 0 1).toNatClampNeg) {r : Int32} {Mr : Mem} (hf : f_yX0_leave M i1 = some (r, Mr)) (hn : Cond.methodLink own index yX0_leave ∈ TB) (hR : 2 + 1 ≤ R.frames ∧ 8 + (2 + 11) + 50 ≤ R.locals) (hC : cells ≤ R.cells ∧ slots ≤ R.slots) (h8 : (rest.map fun v => v.category).sum ≤ 8) (hdg : decode cc pc = .ok (.invokevirtual index, 3)) (kk : ∀ (H1 : Heap) (locs1 : List Loc), WD E ad (Mr, N) H1 → va_S (ow E) s.heap H1 locs1 → W p l e R s m args below meth c H1 locs1 cells slots Q (F0 m (pc + 3) ls (.int r :: rest))) : W p l e R s m args below meth c H locs cells slots Q (F0 m pc ls (.ref (ad 8 i1) :: .ref (ad 3 0) :: rest)) := by
  refine va_calli (va_runV (C := RX0) (As := [.ref (ad 8 i1)]) (rest := rest) ⟨X.1, X.2.1, X.2.2.1, X.2.2.2.1, X.2.2.2.2.1⟩ (c_yX0_leave l E ad M N i1 w1 r Mr hf) (cwV 1 X.2.2.2.2.1 (gV hn im_yX0_leave se_yX0_leave iniRX0 cd_yX0_leave) rfl rfl rfl (by decide +kernel) hR) ⟨fun a U g mk q => ⟨q.1, q.2.calling⟩, va_recv hK.1 (hW.at (c := 3) (i := 0) Nat.zero_lt_one rfl) (ci := 0) (q0 := 0) rfl rfl, fun U hU hw => ⟨rfl, PB.at hW hK hZ hS hU hw⟩⟩ rfl rfl hsz rfl (lv_room h8) hdg hC) hS (fun _ _ h => h) (fun _ h => h) (fun r' u t H1 locs1 ht hvm hw hB hz1 hk1 hS1 => ?_)
  obtain ⟨rfl, rfl⟩ := hw
  rw [ht] at hB
  exact kk H1 locs1 hB hS1
def f_yX0_waitOn (M : Mem) (i1 : Nat) (i2 : Nat) (x3 : Int32) : Option (Int32 × Mem) := ob2 (f_yX5_takeFlag M i1) (fun r2 M3 => (if r2 = 0 then (if x3 ≤ 0 then gd (i2 < (M3 60 0 1).toNatClampNeg) (ob1 (f_yX1_await M3 i1 i2 (-4)) (fun M8 => gd (i2 < (M8 60 0 1).toNatClampNeg) (ob1 (f_yX1_vacate M8 i2) (fun M11 => (some (0, M11)))))) else ob1 (f_yX1_timeAfter M3 x3) (fun r13 => gd (i2 < (M3 60 0 1).toNatClampNeg) (ob1 (f_yX1_await M3 i1 i2 r13) (fun M16 => gd (i2 < (M16 60 0 1).toNatClampNeg) (ob1 (f_yX1_vacate M16 i2) (fun M19 => (some (0, M19)))))))) else (some (9, M3))))
set_option maxRecDepth 100000 in
set_option maxHeartbeats 4000000 in
theorem c_yX0_waitOn (l : Launch) (E : Lay) (ad : Nat → Nat → Nat) (M N : Mem) (i1 : Nat) (i2 : Nat) (x3 : Int32) (w1 : i1 < 6) (w2 : i2 < (M 60 0 1).toNatClampNeg) (r : Int32) (Mr : Mem) (hf : f_yX0_waitOn M i1 i2 x3 = some (r, Mr)) : Met l yX0_waitOn (Cond.code yX0_waitOn cX0_waitOn 4 (some .int) :: TB) (rmm 2 50) (va_Pc [.ref (ad 3 0), .ref (ad 6 i1), .ref (ad 8 i2), .int x3] (PB E ad (M, N))) (Qi E ad r (Mr, N)) 0 0 (ow E) := by
  refine Met.ofW (cc := cX0_waitOn) (maxL := 4) (ret := (some .int)) (by decide) rfl ?_
  intro p e s m args below meth c s₁ B hml hv
  obtain ⟨rfl, hW, hK, hZ⟩ := hv
  have hT : ∀ w ∈ TB, w.before _ s = true := fun w h => atoms_spec (ws := (Cond.code yX0_waitOn cX0_waitOn 4 (some .int) :: TB)) B.pre w (List.mem_cons_of_mem _ h)
  have X : CX p s m _ meth c cX0_waitOn 4 (some .int) RX0 := ⟨B.exec, B.bytes, hml, findClass_of_methodNamed B.named, hT, B.returns, B.notSynchronized⟩
  obtain ⟨hx, hb, hml, hown, hT, hr, hlk⟩ := id X
  have hS : va_S (ow E) s.heap s.heap [] := va_S.rf
  have hl := lv_entry ([.ref (ad 3 0), .ref (ad 6 i1), .ref (ad 8 i2), .int x3]) (n := 4) (Nat.le_of_ble_eq_true rfl)
  rw [lg_entry_eq]
  generalize (lg_sl ([.ref (ad 3 0), .ref (ad 6 i1), .ref (ad 8 i2), .int x3]) ++ List.replicate (4 - (lg_sl ([.ref (ad 3 0), .ref (ad 6 i1), .ref (ad 8 i2), .int x3])).length) Slot.unset).toArray = ls at hl ⊢
  have hl : lv_has ls 4 [(0, .ref (ad 3 0)), (1, .ref (ad 6 i1)), (2, .ref (ad 8 i2)), (3, .int x3)] := hl
  unfold f_yX0_waitOn at hf
  refine lv_aload_n hx hb dX0_waitOn_0 rfl (lv_at hl 1 rfl) ?_
  obtain ⟨r2, M3, h1, hf⟩ := ob2_some hf
  refine k_yX5_takeFlag X hK hZ hW hS hl.1 w1 h1 mlRX0_225 ⟨Nat.le_of_ble_eq_true rfl, Nat.le_of_ble_eq_true rfl⟩ ⟨Nat.le_of_ble_eq_true rfl, Nat.le_of_ble_eq_true rfl⟩ (Nat.le_of_ble_eq_true rfl) dX0_waitOn_1 (fun H locs hW hS => ?_)
  refine lv_if_eq (tgt := 10) hx hb dX0_waitOn_4 (by decide) (fun c4 => ?_) (fun c4 => ?_)
  · rw [if_pos c4] at hf
    refine lv_aload_n hx hb dX0_waitOn_10 rfl (lv_at hl 0 rfl) ?_
    refine g_0_1 X hK hW flRX0_15 dX0_waitOn_11 ?_
    refine lv_aload_n hx hb dX0_waitOn_14 rfl (lv_at hl 1 rfl) ?_
    refine lv_aload_n hx hb dX0_waitOn_15 rfl (lv_at hl 2 rfl) ?_
    refine lv_iload_n hx hb dX0_waitOn_16 rfl (lv_at hl 3 rfl) ?_
    refine lv_if_le (tgt := 31) hx hb dX0_waitOn_17 (by decide) (fun c5 => ?_) (fun c5 => ?_)
    · rw [if_pos c5] at hf
      refine lv_bipush (v := -4) hx hb dX0_waitOn_31 (by decide) ?_
      obtain ⟨v6, hf⟩ := gd_some hf
      obtain ⟨M8, h7, hf⟩ := ob1_some hf
      refine k_yX1_await X hK hZ hW hS hl.1 w1 v6 h7 mlRX0_231 ⟨Nat.le_of_ble_eq_true rfl, Nat.le_of_ble_eq_true rfl⟩ ⟨Nat.le_of_ble_eq_true rfl, Nat.le_of_ble_eq_true rfl⟩ (Nat.le_of_ble_eq_true rfl) dX0_waitOn_33 (fun H locs hW hS => ?_)
      refine lv_aload_n hx hb dX0_waitOn_36 rfl (lv_at hl 0 rfl) ?_
      refine g_0_1 X hK hW flRX0_15 dX0_waitOn_37 ?_
      refine lv_aload_n hx hb dX0_waitOn_40 rfl (lv_at hl 2 rfl) ?_
      obtain ⟨v9, hf⟩ := gd_some hf
      obtain ⟨M11, h10, hf⟩ := ob1_some hf
      refine k_yX1_vacate X hK hZ hW hS hl.1 v9 h10 mlRX0_222 ⟨Nat.le_of_ble_eq_true rfl, Nat.le_of_ble_eq_true rfl⟩ ⟨Nat.le_of_ble_eq_true rfl, Nat.le_of_ble_eq_true rfl⟩ (Nat.le_of_ble_eq_true rfl) dX0_waitOn_41 (fun H locs hW hS => ?_)
      refine lv_iconst (v := 0) hx hb dX0_waitOn_44 (by decide) ?_
      obtain ⟨rfl, rfl⟩ := sp2 hf
      exact e_i ⟨hx, hb, hr, hlk⟩ hW hS dX0_waitOn_45
    · rw [if_neg c5] at hf
      refine lv_aload_n hx hb dX0_waitOn_20 rfl (lv_at hl 0 rfl) ?_
      refine g_0_1 X hK hW flRX0_15 dX0_waitOn_21 ?_
      refine lv_iload_n hx hb dX0_waitOn_24 rfl (lv_at hl 3 rfl) ?_
      obtain ⟨r13, h12, hf⟩ := ob1_some hf
      refine k_yX1_timeAfter X hK hZ hW hS hl.1 h12 mlRX0_228 ⟨Nat.le_of_ble_eq_true rfl, Nat.le_of_ble_eq_true rfl⟩ ⟨Nat.le_of_ble_eq_true rfl, Nat.le_of_ble_eq_true rfl⟩ (Nat.le_of_ble_eq_true rfl) dX0_waitOn_25 (fun H locs hW hS => ?_)
      refine lv_goto (tgt := 33) hx hb dX0_waitOn_28 (by decide) ?_
      obtain ⟨v14, hf⟩ := gd_some hf
      obtain ⟨M16, h15, hf⟩ := ob1_some hf
      refine k_yX1_await X hK hZ hW hS hl.1 w1 v14 h15 mlRX0_231 ⟨Nat.le_of_ble_eq_true rfl, Nat.le_of_ble_eq_true rfl⟩ ⟨Nat.le_of_ble_eq_true rfl, Nat.le_of_ble_eq_true rfl⟩ (Nat.le_of_ble_eq_true rfl) dX0_waitOn_33 (fun H locs hW hS => ?_)
      refine lv_aload_n hx hb dX0_waitOn_36 rfl (lv_at hl 0 rfl) ?_
      refine g_0_1 X hK hW flRX0_15 dX0_waitOn_37 ?_
      refine lv_aload_n hx hb dX0_waitOn_40 rfl (lv_at hl 2 rfl) ?_
      obtain ⟨v17, hf⟩ := gd_some hf
      obtain ⟨M19, h18, hf⟩ := ob1_some hf
      refine k_yX1_vacate X hK hZ hW hS hl.1 v17 h18 mlRX0_222 ⟨Nat.le_of_ble_eq_true rfl, Nat.le_of_ble_eq_true rfl⟩ ⟨Nat.le_of_ble_eq_true rfl, Nat.le_of_ble_eq_true rfl⟩ (Nat.le_of_ble_eq_true rfl) dX0_waitOn_41 (fun H locs hW hS => ?_)
      refine lv_iconst (v := 0) hx hb dX0_waitOn_44 (by decide) ?_
      obtain ⟨rfl, rfl⟩ := sp2 hf
      exact e_i ⟨hx, hb, hr, hlk⟩ hW hS dX0_waitOn_45
  · rw [if_neg c4] at hf
    refine lv_bipush (v := 9) hx hb dX0_waitOn_7 (by decide) ?_
    obtain ⟨rfl, rfl⟩ := sp2 hf
    exact e_i ⟨hx, hb, hr, hlk⟩ hW hS dX0_waitOn_9
set_option maxRecDepth 100000 in
set_option maxHeartbeats 4000000 in
theorem k_yX0_waitOn {p : Program} {l : Launch} {e : Env} {R : Room} {s : State} {m : MethodId} {args : Array Value} {below : List Frame} {meth : Method} {c : Code} {H : Heap} {locs : List Loc} {cells slots : Nat} {Q : State → Prop} {cc : ByteArray} {pc nL index : Nat} {ret : Option FieldType} {own : String} {ls : Array Slot} {rest : List Value} {E : Lay} {ad : Nat → Nat → Nat} {M N : Mem} (X : CX p s m args meth c cc nL ret own) (hK : KK E s) (hZ : ZZ E s) (hW : WD E ad (M, N) H) (hS : va_S (ow E) s.heap H locs) (hsz : ls.size = nL) {i1 : Nat} {i2 : Nat} {x3 : Int32} (w1 : i1 < 6) (w2 : i2 < (M 60 0 1).toNatClampNeg) {r : Int32} {Mr : Mem} (hf : f_yX0_waitOn M i1 i2 x3 = some (r, Mr)) (hn : Cond.methodLink own index yX0_waitOn ∈ TB) (hR : 2 + 1 ≤ R.frames ∧ 8 + (4 + 11) + 50 ≤ R.locals) (hC : cells ≤ R.cells ∧ slots ≤ R.slots) (h8 : (rest.map fun v => v.category).sum ≤ 8) (hdg : decode cc pc = .ok (.invokevirtual index, 3)) (kk : ∀ (H1 : Heap) (locs1 : List Loc), WD E ad (Mr, N) H1 → va_S (ow E) s.heap H1 locs1 → W p l e R s m args below meth c H1 locs1 cells slots Q (F0 m (pc + 3) ls (.int r :: rest))) : W p l e R s m args below meth c H locs cells slots Q (F0 m pc ls (.int x3 :: .ref (ad 8 i2) :: .ref (ad 6 i1) :: .ref (ad 3 0) :: rest)) := by
  refine va_calli (va_runV (C := RX0) (As := [.ref (ad 6 i1), .ref (ad 8 i2), .int x3]) (rest := rest) ⟨X.1, X.2.1, X.2.2.1, X.2.2.2.1, X.2.2.2.2.1⟩ (c_yX0_waitOn l E ad M N i1 i2 x3 w1 w2 r Mr hf) (cwV 3 X.2.2.2.2.1 (gV hn im_yX0_waitOn se_yX0_waitOn iniRX0 cd_yX0_waitOn) rfl rfl rfl (by decide +kernel) hR) ⟨fun a U g mk q => ⟨q.1, q.2.calling⟩, va_recv hK.1 (hW.at (c := 3) (i := 0) Nat.zero_lt_one rfl) (ci := 0) (q0 := 0) rfl rfl, fun U hU hw => ⟨rfl, PB.at hW hK hZ hS hU hw⟩⟩ rfl rfl hsz rfl (lv_room h8) hdg hC) hS (fun _ _ h => h) (fun _ h => h) (fun r' u t H1 locs1 ht hvm hw hB hz1 hk1 hS1 => ?_)
  obtain ⟨rfl, rfl⟩ := hw
  rw [ht] at hB
  exact kk H1 locs1 hB hS1
def f_yX0_sleep (M : Mem) (i1 : Nat) (x2 : Int32) : Option (Int32 × Mem) := ob2 (f_yX5_takeFlag M i1) (fun r2 M3 => (if r2 = 0 then (if x2 ≤ 0 then (some (0, M3)) else ob1 (f_yX1_timeAfter M3 x2) (fun r7 => ob1 (f_yX5_become M3 i1 5 (-4) r7) (fun M9 => (some (0, M9))))) else (some (9, M3))))
set_option maxRecDepth 100000 in
set_option maxHeartbeats 4000000 in
theorem c_yX0_sleep (l : Launch) (E : Lay) (ad : Nat → Nat → Nat) (M N : Mem) (i1 : Nat) (x2 : Int32) (w1 : i1 < 6) (r : Int32) (Mr : Mem) (hf : f_yX0_sleep M i1 x2 = some (r, Mr)) : Met l yX0_sleep (Cond.code yX0_sleep cX0_sleep 3 (some .int) :: TB) (rmm 2 42) (va_Pc [.ref (ad 3 0), .ref (ad 6 i1), .int x2] (PB E ad (M, N))) (Qi E ad r (Mr, N)) 0 0 (ow E) := by
  refine Met.ofW (cc := cX0_sleep) (maxL := 3) (ret := (some .int)) (by decide) rfl ?_
  intro p e s m args below meth c s₁ B hml hv
  obtain ⟨rfl, hW, hK, hZ⟩ := hv
  have hT : ∀ w ∈ TB, w.before _ s = true := fun w h => atoms_spec (ws := (Cond.code yX0_sleep cX0_sleep 3 (some .int) :: TB)) B.pre w (List.mem_cons_of_mem _ h)
  have X : CX p s m _ meth c cX0_sleep 3 (some .int) RX0 := ⟨B.exec, B.bytes, hml, findClass_of_methodNamed B.named, hT, B.returns, B.notSynchronized⟩
  obtain ⟨hx, hb, hml, hown, hT, hr, hlk⟩ := id X
  have hS : va_S (ow E) s.heap s.heap [] := va_S.rf
  have hl := lv_entry ([.ref (ad 3 0), .ref (ad 6 i1), .int x2]) (n := 3) (Nat.le_of_ble_eq_true rfl)
  rw [lg_entry_eq]
  generalize (lg_sl ([.ref (ad 3 0), .ref (ad 6 i1), .int x2]) ++ List.replicate (3 - (lg_sl ([.ref (ad 3 0), .ref (ad 6 i1), .int x2])).length) Slot.unset).toArray = ls at hl ⊢
  have hl : lv_has ls 3 [(0, .ref (ad 3 0)), (1, .ref (ad 6 i1)), (2, .int x2)] := hl
  unfold f_yX0_sleep at hf
  refine lv_aload_n hx hb dX0_sleep_0 rfl (lv_at hl 1 rfl) ?_
  obtain ⟨r2, M3, h1, hf⟩ := ob2_some hf
  refine k_yX5_takeFlag X hK hZ hW hS hl.1 w1 h1 mlRX0_225 ⟨Nat.le_of_ble_eq_true rfl, Nat.le_of_ble_eq_true rfl⟩ ⟨Nat.le_of_ble_eq_true rfl, Nat.le_of_ble_eq_true rfl⟩ (Nat.le_of_ble_eq_true rfl) dX0_sleep_1 (fun H locs hW hS => ?_)
  refine lv_if_eq (tgt := 10) hx hb dX0_sleep_4 (by decide) (fun c4 => ?_) (fun c4 => ?_)
  · rw [if_pos c4] at hf
    refine lv_iload_n hx hb dX0_sleep_10 rfl (lv_at hl 2 rfl) ?_
    refine lv_if_le (tgt := 29) hx hb dX0_sleep_11 (by decide) (fun c5 => ?_) (fun c5 => ?_)
    · rw [if_pos c5] at hf
      refine lv_iconst (v := 0) hx hb dX0_sleep_29 (by decide) ?_
      obtain ⟨rfl, rfl⟩ := sp2 hf
      exact e_i ⟨hx, hb, hr, hlk⟩ hW hS dX0_sleep_30
    · rw [if_neg c5] at hf
      refine lv_aload_n hx hb dX0_sleep_14 rfl (lv_at hl 1 rfl) ?_
      refine lv_iconst (v := 5) hx hb dX0_sleep_15 (by decide) ?_
      refine lv_bipush (v := -4) hx hb dX0_sleep_16 (by decide) ?_
      refine lv_aload_n hx hb dX0_sleep_18 rfl (lv_at hl 0 rfl) ?_
      refine g_0_1 X hK hW flRX0_15 dX0_sleep_19 ?_
      refine lv_iload_n hx hb dX0_sleep_22 rfl (lv_at hl 2 rfl) ?_
      obtain ⟨r7, h6, hf⟩ := ob1_some hf
      refine k_yX1_timeAfter X hK hZ hW hS hl.1 h6 mlRX0_228 ⟨Nat.le_of_ble_eq_true rfl, Nat.le_of_ble_eq_true rfl⟩ ⟨Nat.le_of_ble_eq_true rfl, Nat.le_of_ble_eq_true rfl⟩ (Nat.le_of_ble_eq_true rfl) dX0_sleep_23 (fun H locs hW hS => ?_)
      obtain ⟨M9, h8, hf⟩ := ob1_some hf
      refine k_yX5_become X hK hZ hW hS hl.1 w1 h8 mlRX0_253 ⟨Nat.le_of_ble_eq_true rfl, Nat.le_of_ble_eq_true rfl⟩ ⟨Nat.le_of_ble_eq_true rfl, Nat.le_of_ble_eq_true rfl⟩ (Nat.le_of_ble_eq_true rfl) dX0_sleep_26 (fun H locs hW hS => ?_)
      refine lv_iconst (v := 0) hx hb dX0_sleep_29 (by decide) ?_
      obtain ⟨rfl, rfl⟩ := sp2 hf
      exact e_i ⟨hx, hb, hr, hlk⟩ hW hS dX0_sleep_30
  · rw [if_neg c4] at hf
    refine lv_bipush (v := 9) hx hb dX0_sleep_7 (by decide) ?_
    obtain ⟨rfl, rfl⟩ := sp2 hf
    exact e_i ⟨hx, hb, hr, hlk⟩ hW hS dX0_sleep_9
set_option maxRecDepth 100000 in
set_option maxHeartbeats 4000000 in
theorem k_yX0_sleep {p : Program} {l : Launch} {e : Env} {R : Room} {s : State} {m : MethodId} {args : Array Value} {below : List Frame} {meth : Method} {c : Code} {H : Heap} {locs : List Loc} {cells slots : Nat} {Q : State → Prop} {cc : ByteArray} {pc nL index : Nat} {ret : Option FieldType} {own : String} {ls : Array Slot} {rest : List Value} {E : Lay} {ad : Nat → Nat → Nat} {M N : Mem} (X : CX p s m args meth c cc nL ret own) (hK : KK E s) (hZ : ZZ E s) (hW : WD E ad (M, N) H) (hS : va_S (ow E) s.heap H locs) (hsz : ls.size = nL) {i1 : Nat} {x2 : Int32} (w1 : i1 < 6) {r : Int32} {Mr : Mem} (hf : f_yX0_sleep M i1 x2 = some (r, Mr)) (hn : Cond.methodLink own index yX0_sleep ∈ TB) (hR : 2 + 1 ≤ R.frames ∧ 8 + (3 + 11) + 42 ≤ R.locals) (hC : cells ≤ R.cells ∧ slots ≤ R.slots) (h8 : (rest.map fun v => v.category).sum ≤ 8) (hdg : decode cc pc = .ok (.invokevirtual index, 3)) (kk : ∀ (H1 : Heap) (locs1 : List Loc), WD E ad (Mr, N) H1 → va_S (ow E) s.heap H1 locs1 → W p l e R s m args below meth c H1 locs1 cells slots Q (F0 m (pc + 3) ls (.int r :: rest))) : W p l e R s m args below meth c H locs cells slots Q (F0 m pc ls (.int x2 :: .ref (ad 6 i1) :: .ref (ad 3 0) :: rest)) := by
  refine va_calli (va_runV (C := RX0) (As := [.ref (ad 6 i1), .int x2]) (rest := rest) ⟨X.1, X.2.1, X.2.2.1, X.2.2.2.1, X.2.2.2.2.1⟩ (c_yX0_sleep l E ad M N i1 x2 w1 r Mr hf) (cwV 2 X.2.2.2.2.1 (gV hn im_yX0_sleep se_yX0_sleep iniRX0 cd_yX0_sleep) rfl rfl rfl (by decide +kernel) hR) ⟨fun a U g mk q => ⟨q.1, q.2.calling⟩, va_recv hK.1 (hW.at (c := 3) (i := 0) Nat.zero_lt_one rfl) (ci := 0) (q0 := 0) rfl rfl, fun U hU hw => ⟨rfl, PB.at hW hK hZ hS hU hw⟩⟩ rfl rfl hsz rfl (lv_room h8) hdg hC) hS (fun _ _ h => h) (fun _ h => h) (fun r' u t H1 locs1 ht hvm hw hB hz1 hk1 hS1 => ?_)
  obtain ⟨rfl, rfl⟩ := hw
  rw [ht] at hB
  exact kk H1 locs1 hB hS1
def f_yX1_passTime_L20 : Nat → Mem → Int32 → Int32 → Option Mem
  | 0, _, _, _ => none
  | n + 1, M0, y2, y3 => (if y2 ≤ y3 then (some M0) else gd (¬ (y3 < 0 ∨ 6 ≤ y3.toNatClampNeg)) ((if (M0 6 y3.toNatClampNeg 12) = (-4) then (f_yX1_passTime_L20 n M0 y2 (y3 + 1)) else (if (M0 6 y3.toNatClampNeg 12) ≤ (M0 2 0 0) then (if (M0 6 y3.toNatClampNeg 0) = 4 then ob1 (f_yX4_at M0 (M0 6 y3.toNatClampNeg 11)) (fun r11 => om r11 (ob1 (f_yX1_getIn M0 y3.toNatClampNeg none (M0 6 y3.toNatClampNeg 13)) (fun M14 => (f_yX1_passTime_L20 n M14 y2 (y3 + 1)))) (fun j12 => gd (j12 < (M0 60 0 1).toNatClampNeg) (ob1 (f_yX1_getIn M0 y3.toNatClampNeg (some j12) (M0 6 y3.toNatClampNeg 13)) (fun M17 => (f_yX1_passTime_L20 n M17 y2 (y3 + 1)))))) else ob1 (f_yX5_become M0 y3.toNatClampNeg 2 (-4) (-4)) (fun M9 => (f_yX1_passTime_L20 n M9 y2 (y3 + 1)))) else (f_yX1_passTime_L20 n M0 y2 (y3 + 1))))))
def f_yX1_passTime (M : Mem) : Option Mem := lt1 (mp M 2 0 0 ((M 2 0 0) + 1)) (fun M1 => (f_yX1_passTime_L20 70 M1 6 0))
set_option maxRecDepth 100000 in
set_option maxHeartbeats 4000000 in
theorem l_yX1_passTime_20 (l : Launch) (E : Lay) (ad : Nat → Nat → Nat) (N : Mem) {p : Program} {e : Env} {s : State} {m : MethodId} {args : Array Value} {below : List Frame} {meth : Method} {c : Code} (X : CX p s m args meth c cX1_passTime 5 none RX1) (hK : KK E s) (hZ : ZZ E s) : ∀ (n : Nat) (M0 : Mem) (y2 : Int32) (y3 : Int32) (Mr : Mem) (hf : f_yX1_passTime_L20 n M0 y2 y3 = some Mr) (H : Heap) (locs : List Loc) (ls : Array Slot), WD E ad (M0, N) H → va_S (ow E) s.heap H locs → lv_has ls 5 [(0, .ref (ad 2 0)), (1, .ref (ad 10 0)), (2, .int y2), (3, .int y3)] → W p l e (rmm 2 46) s m args below meth c H locs 0 0 (MQ below (Qv E ad (Mr, N)) args s 0 0 (ow E)) (F0 m 20 ls []) := by
  obtain ⟨hx, hb, hml, hown, hT, hr, hlk⟩ := id X
  intro n
  induction n with
  | zero =>
    intro M0 y2 y3 Mr hf
    rw [f_yX1_passTime_L20] at hf
    cases hf
  | succ n ih =>
    intro M0 y2 y3 Mr hf H locs ls hW hS hl
    rw [f_yX1_passTime_L20] at hf
    refine lv_iload_n hx hb dX1_passTime_20 rfl (lv_at hl 3 rfl) ?_
    refine lv_iload_n hx hb dX1_passTime_21 rfl (lv_at hl 2 rfl) ?_
    refine lv_icmp_ge (tgt := 106) hx hb dX1_passTime_22 (by decide) (fun c2 => ?_) (fun c2 => ?_)
    · rw [if_pos c2] at hf
      obtain rfl := sp1 hf
      exact e_v ⟨hx, hb, hr, hlk⟩ hW hS dX1_passTime_106
    · rw [if_neg c2] at hf
      refine lv_aload_n hx hb dX1_passTime_25 rfl (lv_at hl 1 rfl) ?_
      refine lv_iload_n hx hb dX1_passTime_26 rfl (lv_at hl 3 rfl) ?_
      obtain ⟨b3, hf⟩ := gd_some hf
      have v4 : y3.toNatClampNeg < 6 := Nat.not_le.mp fun z => b3 (Or.inr z)
      refine al_10 X hK hW b3 dX1_passTime_27 ?_
      refine lv_astore (lv' := [(4, .ref (ad 6 y3.toNatClampNeg)), (0, .ref (ad 2 0)), (1, .ref (ad 10 0)), (2, .int y2), (3, .int y3)]) hx hb dX1_passTime_28 hl (by decide) rfl (fun ls hl => ?_)
      refine lv_aload hx hb dX1_passTime_30 (lv_at hl 0 rfl) ?_
      refine g_5_16 X hK hW v4 flRX1_43 dX1_passTime_32 ?_
      refine lv_bipush (v := -4) hx hb dX1_passTime_35 (by decide) ?_
      refine lv_icmp_eq (tgt := 100) hx hb dX1_passTime_37 (by decide) (fun c5 => ?_) (fun c5 => ?_)
      · rw [if_pos c5] at hf
        refine lv_iinc (v := (y3 + 1)) (lv' := [(3, .int (y3 + 1)), (4, .ref (ad 6 y3.toNatClampNeg)), (0, .ref (ad 2 0)), (1, .ref (ad 10 0)), (2, .int y2)]) hx hb dX1_passTime_100 hl (k := 4) rfl rfl (by decide) rfl (fun ls hl => ?_)
        refine lv_goto (tgt := 20) hx hb dX1_passTime_103 (by decide) ?_
        exact ih _ _ _ _ hf _ _ _ hW hS (lv_sub hl [2, 3, 4, 0] rfl)
      · rw [if_neg c5] at hf
        refine lv_aload hx hb dX1_passTime_40 (lv_at hl 0 rfl) ?_
        refine g_5_16 X hK hW v4 flRX1_43 dX1_passTime_42 ?_
        refine lv_aload_n hx hb dX1_passTime_45 rfl (lv_at hl 1 rfl) ?_
        refine g_1_2 X hK hW flRX1_49 dX1_passTime_46 ?_
        refine lv_icmp_le (tgt := 55) hx hb dX1_passTime_49 (by decide) (fun c6 => ?_) (fun c6 => ?_)
        · rw [if_pos c6] at hf
          refine lv_aload hx hb dX1_passTime_55 (lv_at hl 0 rfl) ?_
          refine g_5_4 X hK hW v4 flRX1_32 dX1_passTime_57 ?_
          refine lv_iconst (v := 4) hx hb dX1_passTime_60 (by decide) ?_
          refine lv_icmp_ne (tgt := 90) hx hb dX1_passTime_61 (by decide) (fun c7 => ?_) (fun c7 => ?_)
          · rw [if_neg c7] at hf
            refine lv_aload hx hb dX1_passTime_90 (lv_at hl 0 rfl) ?_
            refine lv_iconst (v := 2) hx hb dX1_passTime_92 (by decide) ?_
            refine lv_bipush (v := -4) hx hb dX1_passTime_93 (by decide) ?_
            refine lv_bipush (v := -4) hx hb dX1_passTime_95 (by decide) ?_
            obtain ⟨M9, h8, hf⟩ := ob1_some hf
            refine k_yX5_become X hK hZ hW hS hl.1 v4 h8 mlRX1_65 ⟨Nat.le_of_ble_eq_true rfl, Nat.le_of_ble_eq_true rfl⟩ ⟨Nat.le_of_ble_eq_true rfl, Nat.le_of_ble_eq_true rfl⟩ (Nat.le_of_ble_eq_true rfl) dX1_passTime_97 (fun H locs hW hS => ?_)
            refine lv_iinc (v := (y3 + 1)) (lv' := [(3, .int (y3 + 1)), (4, .ref (ad 6 y3.toNatClampNeg)), (0, .ref (ad 2 0)), (1, .ref (ad 10 0)), (2, .int y2)]) hx hb dX1_passTime_100 hl (k := 4) rfl rfl (by decide) rfl (fun ls hl => ?_)
            refine lv_goto (tgt := 20) hx hb dX1_passTime_103 (by decide) ?_
            exact ih _ _ _ _ hf _ _ _ hW hS (lv_sub hl [2, 3, 4, 0] rfl)
          · rw [if_pos c7] at hf
            refine lv_aload_n hx hb dX1_passTime_64 rfl (lv_at hl 1 rfl) ?_
            refine lv_aload hx hb dX1_passTime_65 (lv_at hl 0 rfl) ?_
            refine lv_aload_n hx hb dX1_passTime_67 rfl (lv_at hl 1 rfl) ?_
            refine g_1_0 X hK hW flRX1_17 dX1_passTime_68 ?_
            refine lv_aload hx hb dX1_passTime_71 (lv_at hl 0 rfl) ?_
            refine g_5_15 X hK hW v4 flRX1_36 dX1_passTime_73 ?_
            obtain ⟨r11, h10, hf⟩ := ob1_some hf
            rcases r11 with _ | j12
            · rw [om_n] at hf
              refine k_yX4_atn X hK hZ hW hS hl.1 h10 mlRX1_52 ⟨Nat.le_of_ble_eq_true rfl, Nat.le_of_ble_eq_true rfl⟩ ⟨Nat.le_of_ble_eq_true rfl, Nat.le_of_ble_eq_true rfl⟩ (Nat.le_of_ble_eq_true rfl) dX1_passTime_76 (fun H locs hW hS => ?_)
              refine lv_aload hx hb dX1_passTime_79 (lv_at hl 0 rfl) ?_
              refine g_5_17 X hK hW v4 flRX1_58 dX1_passTime_81 ?_
              obtain ⟨M14, h13, hf⟩ := ob1_some hf
              refine k_yX1_getIn X hK hZ hW hS hl.1 v4 none trivial h13 mlRX1_61 ⟨Nat.le_of_ble_eq_true rfl, Nat.le_of_ble_eq_true rfl⟩ ⟨Nat.le_of_ble_eq_true rfl, Nat.le_of_ble_eq_true rfl⟩ (Nat.le_of_ble_eq_true rfl) dX1_passTime_84 (fun H locs hW hS => ?_)
              refine lv_goto (tgt := 100) hx hb dX1_passTime_87 (by decide) ?_
              refine lv_iinc (v := (y3 + 1)) (lv' := [(3, .int (y3 + 1)), (4, .ref (ad 6 y3.toNatClampNeg)), (0, .ref (ad 2 0)), (1, .ref (ad 10 0)), (2, .int y2)]) hx hb dX1_passTime_100 hl (k := 4) rfl rfl (by decide) rfl (fun ls hl => ?_)
              refine lv_goto (tgt := 20) hx hb dX1_passTime_103 (by decide) ?_
              exact ih _ _ _ _ hf _ _ _ hW hS (lv_sub hl [2, 3, 4, 0] rfl)
            · rw [om_s] at hf
              refine k_yX4_ats X hK hZ hW hS hl.1 h10 mlRX1_52 ⟨Nat.le_of_ble_eq_true rfl, Nat.le_of_ble_eq_true rfl⟩ ⟨Nat.le_of_ble_eq_true rfl, Nat.le_of_ble_eq_true rfl⟩ (Nat.le_of_ble_eq_true rfl) dX1_passTime_76 (fun H locs hW hS => ?_)
              refine lv_aload hx hb dX1_passTime_79 (lv_at hl 0 rfl) ?_
              refine g_5_17 X hK hW v4 flRX1_58 dX1_passTime_81 ?_
              obtain ⟨v15, hf⟩ := gd_some hf
              obtain ⟨M17, h16, hf⟩ := ob1_some hf
              refine k_yX1_getIn X hK hZ hW hS hl.1 v4 (some j12) v15 h16 mlRX1_61 ⟨Nat.le_of_ble_eq_true rfl, Nat.le_of_ble_eq_true rfl⟩ ⟨Nat.le_of_ble_eq_true rfl, Nat.le_of_ble_eq_true rfl⟩ (Nat.le_of_ble_eq_true rfl) dX1_passTime_84 (fun H locs hW hS => ?_)
              refine lv_goto (tgt := 100) hx hb dX1_passTime_87 (by decide) ?_
              refine lv_iinc (v := (y3 + 1)) (lv' := [(3, .int (y3 + 1)), (4, .ref (ad 6 y3.toNatClampNeg)), (0, .ref (ad 2 0)), (1, .ref (ad 10 0)), (2, .int y2)]) hx hb dX1_passTime_100 hl (k := 4) rfl rfl (by decide) rfl (fun ls hl => ?_)
              refine lv_goto (tgt := 20) hx hb dX1_passTime_103 (by decide) ?_
              exact ih _ _ _ _ hf _ _ _ hW hS (lv_sub hl [2, 3, 4, 0] rfl)
        · rw [if_neg c6] at hf
          refine lv_goto (tgt := 100) hx hb dX1_passTime_52 (by decide) ?_
          refine lv_iinc (v := (y3 + 1)) (lv' := [(3, .int (y3 + 1)), (4, .ref (ad 6 y3.toNatClampNeg)), (0, .ref (ad 2 0)), (1, .ref (ad 10 0)), (2, .int y2)]) hx hb dX1_passTime_100 hl (k := 4) rfl rfl (by decide) rfl (fun ls hl => ?_)
          refine lv_goto (tgt := 20) hx hb dX1_passTime_103 (by decide) ?_
          exact ih _ _ _ _ hf _ _ _ hW hS (lv_sub hl [2, 3, 4, 0] rfl)
set_option maxRecDepth 100000 in
set_option maxHeartbeats 4000000 in
theorem c_yX1_passTime (l : Launch) (E : Lay) (ad : Nat → Nat → Nat) (M N : Mem) (Mr : Mem) (hf : f_yX1_passTime M = some Mr) : Met l yX1_passTime (Cond.code yX1_passTime cX1_passTime 5 none :: TB) (rmm 2 46) (va_Pc [.ref (ad 2 0)] (PB E ad (M, N))) (Qv E ad (Mr, N)) 0 0 (ow E) := by
  refine Met.ofW (cc := cX1_passTime) (maxL := 5) (ret := none) (by decide) rfl ?_
  intro p e s m args below meth c s₁ B hml hv
  obtain ⟨rfl, hW, hK, hZ⟩ := hv
  have hT : ∀ w ∈ TB, w.before _ s = true := fun w h => atoms_spec (ws := (Cond.code yX1_passTime cX1_passTime 5 none :: TB)) B.pre w (List.mem_cons_of_mem _ h)
  have X : CX p s m _ meth c cX1_passTime 5 none RX1 := ⟨B.exec, B.bytes, hml, findClass_of_methodNamed B.named, hT, B.returns, B.notSynchronized⟩
  obtain ⟨hx, hb, hml, hown, hT, hr, hlk⟩ := id X
  have hS : va_S (ow E) s.heap s.heap [] := va_S.rf
  have hl := lv_entry ([.ref (ad 2 0)]) (n := 5) (Nat.le_of_ble_eq_true rfl)
  rw [lg_entry_eq]
  generalize (lg_sl ([.ref (ad 2 0)]) ++ List.replicate (5 - (lg_sl ([.ref (ad 2 0)])).length) Slot.unset).toArray = ls at hl ⊢
  have hl : lv_has ls 5 [(0, .ref (ad 2 0))] := hl
  unfold f_yX1_passTime at hf
  refine lv_aload_n hx hb dX1_passTime_0 rfl (lv_at hl 0 rfl) ?_
  refine lv_dup hx hb dX1_passTime_1 rfl ?_
  refine g_1_2 X hK hW flRX1_49 dX1_passTime_2 ?_
  refine lv_iconst (v := 1) hx hb dX1_passTime_5 (by decide) ?_
  refine lv_iadd hx hb dX1_passTime_6 ?_
  obtain ⟨M1, hM1, hf⟩ := lt1_some hf
  refine p_1_2 X hK hW hS hM1 flRX1_49 dX1_passTime_7 (fun H locs hW hS => ?_)
  refine lv_aload_n hx hb dX1_passTime_10 rfl (lv_at hl 0 rfl) ?_
  refine g_1_1 X hK hW flRX1_11 dX1_passTime_11 ?_
  refine lv_astore_n (lv' := [(1, .ref (ad 10 0)), (0, .ref (ad 2 0))]) hx hb dX1_passTime_14 rfl hl (by decide) rfl (fun ls hl => ?_)
  refine lv_aload_n hx hb dX1_passTime_15 rfl (lv_at hl 0 rfl) ?_
  refine an_10 X hK hW dX1_passTime_16 ?_
  refine lv_istore_n (lv' := [(2, .int 6), (1, .ref (ad 10 0)), (0, .ref (ad 2 0))]) hx hb dX1_passTime_17 rfl hl (by decide) rfl (fun ls hl => ?_)
  refine lv_iconst (v := 0) hx hb dX1_passTime_18 (by decide) ?_
  refine lv_istore_n (lv' := [(3, .int 0), (2, .int 6), (1, .ref (ad 10 0)), (0, .ref (ad 2 0))]) hx hb dX1_passTime_19 rfl hl (by decide) rfl (fun ls hl => ?_)
  exact (l_yX1_passTime_20 l E ad N X hK hZ 70) _ _ _ _ hf _ _ _ hW hS (lv_sub hl [3, 2, 1, 0] rfl)
set_option maxRecDepth 100000 in
set_option maxHeartbeats 4000000 in
theorem k_yX1_passTime {p : Program} {l : Launch} {e : Env} {R : Room} {s : State} {m : MethodId} {args : Array Value} {below : List Frame} {meth : Method} {c : Code} {H : Heap} {locs : List Loc} {cells slots : Nat} {Q : State → Prop} {cc : ByteArray} {pc nL index : Nat} {ret : Option FieldType} {own : String} {ls : Array Slot} {rest : List Value} {E : Lay} {ad : Nat → Nat → Nat} {M N : Mem} (X : CX p s m args meth c cc nL ret own) (hK : KK E s) (hZ : ZZ E s) (hW : WD E ad (M, N) H) (hS : va_S (ow E) s.heap H locs) (hsz : ls.size = nL) {Mr : Mem} (hf : f_yX1_passTime M = some Mr) (hn : Cond.methodLink own index yX1_passTime ∈ TB) (hR : 2 + 1 ≤ R.frames ∧ 8 + (5 + 11) + 46 ≤ R.locals) (hC : cells ≤ R.cells ∧ slots ≤ R.slots) (h8 : (rest.map fun v => v.category).sum ≤ 8) (hdg : decode cc pc = .ok (.invokevirtual index, 3)) (kk : ∀ (H1 : Heap) (locs1 : List Loc), WD E ad (Mr, N) H1 → va_S (ow E) s.heap H1 locs1 → W p l e R s m args below meth c H1 locs1 cells slots Q (F0 m (pc + 3) ls (rest))) : W p l e R s m args below meth c H locs cells slots Q (F0 m pc ls (.ref (ad 2 0) :: rest)) := by
  refine va_callv (va_runV (C := RX1) (As := []) (rest := rest) ⟨X.1, X.2.1, X.2.2.1, X.2.2.2.1, X.2.2.2.2.1⟩ (c_yX1_passTime l E ad M N Mr hf) (cwV 0 X.2.2.2.2.1 (gV hn im_yX1_passTime se_yX1_passTime iniRX1 cd_yX1_passTime) rfl rfl rfl (by decide +kernel) hR) ⟨fun a U g mk q => ⟨q.1, q.2.calling⟩, va_recv hK.1 (hW.at (c := 2) (i := 0) Nat.zero_lt_one rfl) (ci := 1) (q0 := 0) rfl rfl, fun U hU hw => ⟨rfl, PB.at hW hK hZ hS hU hw⟩⟩ rfl rfl hsz rfl (lv_room h8) hdg hC) hS (fun _ _ h => h) (fun _ h => h) (fun u t H1 locs1 ht hvm hw hB hz1 hk1 hS1 => ?_)
  subst hw
  rw [ht] at hB
  exact kk H1 locs1 hB hS1
def f_yX1_follow_L5 : Nat → Mem → Int32 → Int32 → Int32 → Option (Int32)
  | 0, _, _, _, _ => none
  | n + 1, M0, y2, y3, y4 => (if y2 ≤ y4 then (some y3) else ob1 (f_yX1_hangsOn M0 y3) (fun r3 => (f_yX1_follow_L5 n M0 y2 r3 (y4 + 1))))
def f_yX1_follow (M : Mem) (x1 : Int32) (x2 : Int32) : Option (Int32) := (f_yX1_follow_L5 70 M x2 x1 0)
set_option maxRecDepth 100000 in
set_option maxHeartbeats 4000000 in
theorem l_yX1_follow_5 (l : Launch) (E : Lay) (ad : Nat → Nat → Nat) (N : Mem) {p : Program} {e : Env} {s : State} {m : MethodId} {args : Array Value} {below : List Frame} {meth : Method} {c : Code} (X : CX p s m args meth c cX1_follow 5 (some .int) RX1) (hK : KK E s) (hZ : ZZ E s) : ∀ (n : Nat) (M0 : Mem) (y2 : Int32) (y3 : Int32) (y4 : Int32) (r : Int32) (hf : f_yX1_follow_L5 n M0 y2 y3 y4 = some r) (H : Heap) (locs : List Loc) (ls : Array Slot), WD E ad (M0, N) H → va_S (ow E) s.heap H locs → lv_has ls 5 [(0, .ref (ad 2 0)), (2, .int y2), (3, .int y3), (4, .int y4)] → W p l e (rmm 2 44) s m args below meth c H locs 0 0 (MQ below (Qi E ad r (M0, N)) args s 0 0 (ow E)) (F0 m 5 ls []) := by
  obtain ⟨hx, hb, hml, hown, hT, hr, hlk⟩ := id X
  intro n
  induction n with
  | zero =>
    intro M0 y2 y3 y4 r hf
    rw [f_yX1_follow_L5] at hf
    cases hf
  | succ n ih =>
    intro M0 y2 y3 y4 r hf H locs ls hW hS hl
    rw [f_yX1_follow_L5] at hf
    refine lv_iload hx hb dX1_follow_5 (lv_at hl 3 rfl) ?_
    refine lv_iload_n hx hb dX1_follow_7 rfl (lv_at hl 1 rfl) ?_
    refine lv_icmp_ge (tgt := 23) hx hb dX1_follow_8 (by decide) (fun c1 => ?_) (fun c1 => ?_)
    · rw [if_pos c1] at hf
      refine lv_iload_n hx hb dX1_follow_23 rfl (lv_at hl 2 rfl) ?_
      obtain rfl := sp1 hf
      exact e_i ⟨hx, hb, hr, hlk⟩ hW hS dX1_follow_24
    · rw [if_neg c1] at hf
      refine lv_aload_n hx hb dX1_follow_11 rfl (lv_at hl 0 rfl) ?_
      refine lv_iload_n hx hb dX1_follow_12 rfl (lv_at hl 2 rfl) ?_
      obtain ⟨r3, h2, hf⟩ := ob1_some hf
      refine k_yX1_hangsOn X hK hZ hW hS hl.1 h2 mlRX1_142 ⟨Nat.le_of_ble_eq_true rfl, Nat.le_of_ble_eq_true rfl⟩ ⟨Nat.le_of_ble_eq_true rfl, Nat.le_of_ble_eq_true rfl⟩ (Nat.le_of_ble_eq_true rfl) dX1_follow_13 (fun H locs hW hS => ?_)
      refine lv_istore_n (lv' := [(3, .int r3), (0, .ref (ad 2 0)), (2, .int y2), (4, .int y4)]) hx hb dX1_follow_16 rfl hl (by decide) rfl (fun ls hl => ?_)
      refine lv_iinc (v := (y4 + 1)) (lv' := [(4, .int (y4 + 1)), (3, .int r3), (0, .ref (ad 2 0)), (2, .int y2)]) hx hb dX1_follow_17 hl (k := 3) rfl rfl (by decide) rfl (fun ls hl => ?_)
      refine lv_goto (tgt := 5) hx hb dX1_follow_20 (by decide) ?_
      exact ih _ _ _ _ _ hf _ _ _ hW hS (lv_sub hl [2, 3, 1, 0] rfl)
set_option maxRecDepth 100000 in
set_option maxHeartbeats 4000000 in
theorem c_yX1_follow (l : Launch) (E : Lay) (ad : Nat → Nat → Nat) (M N : Mem) (x1 : Int32) (x2 : Int32) (r : Int32) (hf : f_yX1_follow M x1 x2 = some r) : Met l yX1_follow (Cond.code yX1_follow cX1_follow 5 (some .int) :: TB) (rmm 2 44) (va_Pc [.ref (ad 2 0), .int x1, .int x2] (PB E ad (M, N))) (Qi E ad r (M, N)) 0 0 (ow E) := by
  refine Met.ofW (cc := cX1_follow) (maxL := 5) (ret := (some .int)) (by decide) rfl ?_
  intro p e s m args below meth c s₁ B hml hv
  obtain ⟨rfl, hW, hK, hZ⟩ := hv
  have hT : ∀ w ∈ TB, w.before _ s = true := fun w h => atoms_spec (ws := (Cond.code yX1_follow cX1_follow 5 (some .int) :: TB)) B.pre w (List.mem_cons_of_mem _ h)
  have X : CX p s m _ meth c cX1_follow 5 (some .int) RX1 := ⟨B.exec, B.bytes, hml, findClass_of_methodNamed B.named, hT, B.returns, B.notSynchronized⟩
  obtain ⟨hx, hb, hml, hown, hT, hr, hlk⟩ := id X
  have hS : va_S (ow E) s.heap s.heap [] := va_S.rf
  have hl := lv_entry ([.ref (ad 2 0), .int x1, .int x2]) (n := 5) (Nat.le_of_ble_eq_true rfl)
  rw [lg_entry_eq]
  generalize (lg_sl ([.ref (ad 2 0), .int x1, .int x2]) ++ List.replicate (5 - (lg_sl ([.ref (ad 2 0), .int x1, .int x2])).length) Slot.unset).toArray = ls at hl ⊢
  have hl : lv_has ls 5 [(0, .ref (ad 2 0)), (1, .int x1), (2, .int x2)] := hl
  unfold f_yX1_follow at hf
  refine lv_iload_n hx hb dX1_follow_0 rfl (lv_at hl 1 rfl) ?_
  refine lv_istore_n (lv' := [(3, .int x1), (0, .ref (ad 2 0)), (1, .int x1), (2, .int x2)]) hx hb dX1_follow_1 rfl hl (by decide) rfl (fun ls hl => ?_)
  refine lv_iconst (v := 0) hx hb dX1_follow_2 (by decide) ?_
  refine lv_istore (lv' := [(4, .int 0), (3, .int x1), (0, .ref (ad 2 0)), (1, .int x1), (2, .int x2)]) hx hb dX1_follow_3 hl (by decide) rfl (fun ls hl => ?_)
  exact (l_yX1_follow_5 l E ad N X hK hZ 70) _ _ _ _ _ hf _ _ _ hW hS (lv_sub hl [2, 4, 1, 0] rfl)
set_option maxRecDepth 100000 in
set_option maxHeartbeats 4000000 in
theorem k_yX1_follow {p : Program} {l : Launch} {e : Env} {R : Room} {s : State} {m : MethodId} {args : Array Value} {below : List Frame} {meth : Method} {c : Code} {H : Heap} {locs : List Loc} {cells slots : Nat} {Q : State → Prop} {cc : ByteArray} {pc nL index : Nat} {ret : Option FieldType} {own : String} {ls : Array Slot} {rest : List Value} {E : Lay} {ad : Nat → Nat → Nat} {M N : Mem} (X : CX p s m args meth c cc nL ret own) (hK : KK E s) (hZ : ZZ E s) (hW : WD E ad (M, N) H) (hS : va_S (ow E) s.heap H locs) (hsz : ls.size = nL) {x1 : Int32} {x2 : Int32} {r : Int32} (hf : f_yX1_follow M x1 x2 = some r) (hn : Cond.methodLink own index yX1_follow ∈ TB) (hR : 2 + 1 ≤ R.frames ∧ 8 + (5 + 11) + 44 ≤ R.locals) (hC : cells ≤ R.cells ∧ slots ≤ R.slots) (h8 : (rest.map fun v => v.category).sum ≤ 8) (hdg : decode cc pc = .ok (.invokevirtual index, 3)) (kk : ∀ (H1 : Heap) (locs1 : List Loc), WD E ad (M, N) H1 → va_S (ow E) s.heap H1 locs1 → W p l e R s m args below meth c H1 locs1 cells slots Q (F0 m (pc + 3) ls (.int r :: rest))) : W p l e R s m args below meth c H locs cells slots Q (F0 m pc ls (.int x2 :: .int x1 :: .ref (ad 2 0) :: rest)) := by
  refine va_calli (va_runV (C := RX1) (As := [.int x1, .int x2]) (rest := rest) ⟨X.1, X.2.1, X.2.2.1, X.2.2.2.1, X.2.2.2.2.1⟩ (c_yX1_follow l E ad M N x1 x2 r hf) (cwV 2 X.2.2.2.2.1 (gV hn im_yX1_follow se_yX1_follow iniRX1 cd_yX1_follow) rfl rfl rfl (by decide +kernel) hR) ⟨fun a U g mk q => ⟨q.1, q.2.calling⟩, va_recv hK.1 (hW.at (c := 2) (i := 0) Nat.zero_lt_one rfl) (ci := 1) (q0 := 0) rfl rfl, fun U hU hw => ⟨rfl, PB.at hW hK hZ hS hU hw⟩⟩ rfl rfl hsz rfl (lv_room h8) hdg hC) hS (fun _ _ h => h) (fun _ h => h) (fun r' u t H1 locs1 ht hvm hw hB hz1 hk1 hS1 => ?_)
  obtain ⟨rfl, rfl⟩ := hw
  rw [ht] at hB
  exact kk H1 locs1 hB hS1
def f_yX0_useThings (M : Mem) (i1 : Nat) (x2 : Int32) (x3 : Int32) (x4 : Int32) (x5 : Int32) : Option (Int32 × Mem) := (if x2 = 8 then ob1 (f_yX5_kept M i1 x4) (fun r3 => ob2 (f_yX0_holdNumber M i1 x3 r3) (fun r5 M6 => (some (r5, M6)))) else (if x2 = 9 then ob1 (f_yX5_kept M i1 x5) (fun r9 => ob2 (f_yX0_makeThing M i1 x3 x4 r9) (fun r12 M13 => (some (r12, M13)))) else (if x2 = 10 then ob1 (f_yX5_held M i1 x4) (fun r16 => ob1 (f_yX5_held M i1 x5) (fun r18 => (if r16 = r18 then ob1 (f_yX5_keep M i1 x3 1) (fun M23 => (some (0, M23))) else ob1 (f_yX5_keep M i1 x3 0) (fun M21 => (some (0, M21)))))) else (if x2 = 11 then ob1 (f_yX5_held M i1 x4) (fun r26 => ob1 (f_yX5_grasp M i1 x3 r26) (fun M28 => (some (0, M28)))) else (if x2 = 12 then ob1 (f_yX0_inHand M i1 x4) (fun r31 => om r31 (ob2 (f_yX0_readCount M i1 x3 none) (fun r34 M35 => (some (r34, M35)))) (fun j32 => gd (j32 < (M 60 0 1).toNatClampNeg) (ob2 (f_yX0_readCount M i1 x3 (some j32)) (fun r38 M39 => (some (r38, M39)))))) else (if x2 = 13 then ob1 (f_yX0_inHand M i1 x3) (fun r42 => om r42 (ob1 (f_yX5_kept M i1 x4) (fun r45 => ob2 (f_yX0_bump M none r45) (fun r47 M48 => (some (r47, M48))))) (fun j43 => ob1 (f_yX5_kept M i1 x4) (fun r50 => gd (j43 < (M 60 0 1).toNatClampNeg) (ob2 (f_yX0_bump M (some j43) r50) (fun r53 M54 => (some (r53, M54))))))) else (if x2 = 14 then ob1 (f_yX0_inHand M i1 x4) (fun r57 => om r57 (ob2 (f_yX0_weighInto M i1 x3 none) (fun r60 M61 => (some (r60, M61)))) (fun j58 => gd (j58 < (M 60 0 1).toNatClampNeg) (ob2 (f_yX0_weighInto M i1 x3 (some j58)) (fun r64 M65 => (some (r64, M65)))))) else ob1 (f_yX0_inHand M i1 x4) (fun r67 => om r67 (ob2 (f_yX0_readMark M i1 x3 none) (fun r70 M71 => (some (r70, M71)))) (fun j68 => gd (j68 < (M 60 0 1).toNatClampNeg) (ob2 (f_yX0_readMark M i1 x3 (some j68)) (fun r74 M75 => (some (r74, M75)))))))))))))
set_option maxRecDepth 100000 in
set_option maxHeartbeats 4000000 in
theorem c_yX0_useThings (l : Launch) (E : Lay) (ad : Nat → Nat → Nat) (M N : Mem) (i1 : Nat) (x2 : Int32) (x3 : Int32) (x4 : Int32) (x5 : Int32) (w1 : i1 < 6) (r : Int32) (Mr : Mem) (hf : f_yX0_useThings M i1 x2 x3 x4 x5 = some (r, Mr)) : Met l yX0_useThings (Cond.code yX0_useThings cX0_useThings 6 (some .int) :: TB) (rmg 4 83 2 18) (va_Pc [.ref (ad 3 0), .ref (ad 6 i1), .int x2, .int x3, .int x4, .int x5] (PB E ad (M, N))) (Gi E ad r (Mr, N)) 2 18 (ow E) := by
  refine Met.ofW (cc := cX0_useThings) (maxL := 6) (ret := (some .int)) (by decide) rfl ?_
  intro p e s m args below meth c s₁ B hml hv
  obtain ⟨rfl, hW, hK, hZ⟩ := hv
  have hT : ∀ w ∈ TB, w.before _ s = true := fun w h => atoms_spec (ws := (Cond.code yX0_useThings cX0_useThings 6 (some .int) :: TB)) B.pre w (List.mem_cons_of_mem _ h)
  have X : CX p s m _ meth c cX0_useThings 6 (some .int) RX0 := ⟨B.exec, B.bytes, hml, findClass_of_methodNamed B.named, hT, B.returns, B.notSynchronized⟩
  obtain ⟨hx, hb, hml, hown, hT, hr, hlk⟩ := id X
  have hS : va_S (ow E) s.heap s.heap [] := va_S.rf
  have hs0 := hW.low
  have hl := lv_entry ([.ref (ad 3 0), .ref (ad 6 i1), .int x2, .int x3, .int x4, .int x5]) (n := 6) (Nat.le_of_ble_eq_true rfl)
  rw [lg_entry_eq]
  generalize (lg_sl ([.ref (ad 3 0), .ref (ad 6 i1), .int x2, .int x3, .int x4, .int x5]) ++ List.replicate (6 - (lg_sl ([.ref (ad 3 0), .ref (ad 6 i1), .int x2, .int x3, .int x4, .int x5])).length) Slot.unset).toArray = ls at hl ⊢
  have hl : lv_has ls 6 [(0, .ref (ad 3 0)), (1, .ref (ad 6 i1)), (2, .int x2), (3, .int x3), (4, .int x4), (5, .int x5)] := hl
  unfold f_yX0_useThings at hf
  refine lv_iload_n hx hb dX0_useThings_0 rfl (lv_at hl 2 rfl) ?_
  by_cases c1 : x2 = 8
  · rw [if_pos c1] at hf
    refine lv_tableIn (tgt := 44) hx hb dX0_useThings_1 (by rw [c1]; decide) (by rw [c1]; decide) (by rw [c1]; rfl) (by decide) ?_
    refine lv_aload_n hx hb dX0_useThings_44 rfl (lv_at hl 0 rfl) ?_
    refine lv_aload_n hx hb dX0_useThings_45 rfl (lv_at hl 1 rfl) ?_
    refine lv_iload_n hx hb dX0_useThings_46 rfl (lv_at hl 3 rfl) ?_
    refine lv_aload_n hx hb dX0_useThings_47 rfl (lv_at hl 1 rfl) ?_
    refine lv_iload hx hb dX0_useThings_48 (lv_at hl 4 rfl) ?_
    obtain ⟨r3, h2, hf⟩ := ob1_some hf
    refine k_yX5_kept X hK hZ hW hS hl.1 w1 h2 mlRX0_72 ⟨Nat.le_of_ble_eq_true rfl, Nat.le_of_ble_eq_true rfl⟩ ⟨Nat.le_of_ble_eq_true rfl, Nat.le_of_ble_eq_true rfl⟩ (Nat.le_of_ble_eq_true rfl) dX0_useThings_50 (fun H locs hW hS => ?_)
    obtain ⟨r5, M6, h4, hf⟩ := ob2_some hf
    refine k_yX0_holdNumber X hK hZ hW hS hl.1 w1 h4 mlRX0_83 ⟨Nat.le_of_ble_eq_true rfl, Nat.le_of_ble_eq_true rfl⟩ ⟨Nat.le_of_ble_eq_true rfl, Nat.le_of_ble_eq_true rfl⟩ (Nat.le_of_ble_eq_true rfl) dX0_useThings_53 (fun H locs hW hS => ?_)
    obtain ⟨rfl, rfl⟩ := sp2 hf
    refine W.widen (k := 2) (n := 18) (by omega) (by omega) ?_
    exact eg_i ⟨hx, hb, hr, hlk⟩ ext.rf hW hS dX0_useThings_56
  rw [if_neg c1] at hf
  by_cases c7 : x2 = 9
  · rw [if_pos c7] at hf
    refine lv_tableIn (tgt := 57) hx hb dX0_useThings_1 (by rw [c7]; decide) (by rw [c7]; decide) (by rw [c7]; rfl) (by decide) ?_
    refine lv_aload_n hx hb dX0_useThings_57 rfl (lv_at hl 0 rfl) ?_
    refine lv_aload_n hx hb dX0_useThings_58 rfl (lv_at hl 1 rfl) ?_
    refine lv_iload_n hx hb dX0_useThings_59 rfl (lv_at hl 3 rfl) ?_
    refine lv_iload hx hb dX0_useThings_60 (lv_at hl 4 rfl) ?_
    refine lv_aload_n hx hb dX0_useThings_62 rfl (lv_at hl 1 rfl) ?_
    refine lv_iload hx hb dX0_useThings_63 (lv_at hl 5 rfl) ?_
    obtain ⟨r9, h8, hf⟩ := ob1_some hf
    refine k_yX5_kept X hK hZ hW hS hl.1 w1 h8 mlRX0_72 ⟨Nat.le_of_ble_eq_true rfl, Nat.le_of_ble_eq_true rfl⟩ ⟨Nat.le_of_ble_eq_true rfl, Nat.le_of_ble_eq_true rfl⟩ (Nat.le_of_ble_eq_true rfl) dX0_useThings_65 (fun H locs hW hS => ?_)
    obtain ⟨r12, M13, h10, hf⟩ := ob2_some hf
    refine k_yX0_makeThing X hK hZ hW hS hl.1 w1 h10 mlRX0_86 ⟨Nat.le_of_ble_eq_true rfl, Nat.le_of_ble_eq_true rfl⟩ ⟨Nat.le_of_ble_eq_true rfl, Nat.le_of_ble_eq_true rfl⟩ (Nat.le_of_ble_eq_true rfl) dX0_useThings_68 (fun ad11 H locs hEad11 hW hS => ?_)
    have hl : lv_has ls 6 [(0, .ref (ad11 3 0)), (1, .ref (ad11 6 i1)), (2, .int x2), (3, .int x3), (4, .int x4), (5, .int x5)] := by rw [hEad11 3 0 (by decide) (by decide), hEad11 6 i1 (by decide) (by decide)]; exact hl
    obtain ⟨rfl, rfl⟩ := sp2 hf
    exact eg_i ⟨hx, hb, hr, hlk⟩ hEad11 hW hS dX0_useThings_71
  rw [if_neg c7] at hf
  by_cases c14 : x2 = 10
  · rw [if_pos c14] at hf
    refine lv_tableIn (tgt := 72) hx hb dX0_useThings_1 (by rw [c14]; decide) (by rw [c14]; decide) (by rw [c14]; rfl) (by decide) ?_
    refine lv_aload_n hx hb dX0_useThings_72 rfl (lv_at hl 1 rfl) ?_
    refine lv_iload_n hx hb dX0_useThings_73 rfl (lv_at hl 3 rfl) ?_
    refine lv_aload_n hx hb dX0_useThings_74 rfl (lv_at hl 1 rfl) ?_
    refine lv_iload hx hb dX0_useThings_75 (lv_at hl 4 rfl) ?_
    obtain ⟨r16, h15, hf⟩ := ob1_some hf
    refine k_yX5_held X hK hZ hW hS hl.1 w1 h15 mlRX0_89 ⟨Nat.le_of_ble_eq_true rfl, Nat.le_of_ble_eq_true rfl⟩ ⟨Nat.le_of_ble_eq_true rfl, Nat.le_of_ble_eq_true rfl⟩ (Nat.le_of_ble_eq_true rfl) dX0_useThings_77 (fun H locs hW hS => ?_)
    refine lv_aload_n hx hb dX0_useThings_80 rfl (lv_at hl 1 rfl) ?_
    refine lv_iload hx hb dX0_useThings_81 (lv_at hl 5 rfl) ?_
    obtain ⟨r18, h17, hf⟩ := ob1_some hf
    refine k_yX5_held X hK hZ hW hS hl.1 w1 h17 mlRX0_89 ⟨Nat.le_of_ble_eq_true rfl, Nat.le_of_ble_eq_true rfl⟩ ⟨Nat.le_of_ble_eq_true rfl, Nat.le_of_ble_eq_true rfl⟩ (Nat.le_of_ble_eq_true rfl) dX0_useThings_83 (fun H locs hW hS => ?_)
    refine lv_icmp_ne (tgt := 93) hx hb dX0_useThings_86 (by decide) (fun c19 => ?_) (fun c19 => ?_)
    · rw [if_neg c19] at hf
      refine lv_iconst (v := 0) hx hb dX0_useThings_93 (by decide) ?_
      obtain ⟨M21, h20, hf⟩ := ob1_some hf
      refine k_yX5_keep X hK hZ hW hS hl.1 w1 h20 mlRX0_68 ⟨Nat.le_of_ble_eq_true rfl, Nat.le_of_ble_eq_true rfl⟩ ⟨Nat.le_of_ble_eq_true rfl, Nat.le_of_ble_eq_true rfl⟩ (Nat.le_of_ble_eq_true rfl) dX0_useThings_94 (fun H locs hW hS => ?_)
      refine lv_iconst (v := 0) hx hb dX0_useThings_97 (by decide) ?_
      obtain ⟨rfl, rfl⟩ := sp2 hf
      refine W.widen (k := 2) (n := 18) (by omega) (by omega) ?_
      exact eg_i ⟨hx, hb, hr, hlk⟩ ext.rf hW hS dX0_useThings_98
    · rw [if_pos c19] at hf
      refine lv_iconst (v := 1) hx hb dX0_useThings_89 (by decide) ?_
      refine lv_goto (tgt := 94) hx hb dX0_useThings_90 (by decide) ?_
      obtain ⟨M23, h22, hf⟩ := ob1_some hf
      refine k_yX5_keep X hK hZ hW hS hl.1 w1 h22 mlRX0_68 ⟨Nat.le_of_ble_eq_true rfl, Nat.le_of_ble_eq_true rfl⟩ ⟨Nat.le_of_ble_eq_true rfl, Nat.le_of_ble_eq_true rfl⟩ (Nat.le_of_ble_eq_true rfl) dX0_useThings_94 (fun H locs hW hS => ?_)
      refine lv_iconst (v := 0) hx hb dX0_useThings_97 (by decide) ?_
      obtain ⟨rfl, rfl⟩ := sp2 hf
      refine W.widen (k := 2) (n := 18) (by omega) (by omega) ?_
      exact eg_i ⟨hx, hb, hr, hlk⟩ ext.rf hW hS dX0_useThings_98
  rw [if_neg c14] at hf
  by_cases c24 : x2 = 11
  · rw [if_pos c24] at hf
    refine lv_tableIn (tgt := 99) hx hb dX0_useThings_1 (by rw [c24]; decide) (by rw [c24]; decide) (by rw [c24]; rfl) (by decide) ?_
    refine lv_aload_n hx hb dX0_useThings_99 rfl (lv_at hl 1 rfl) ?_
    refine lv_iload_n hx hb dX0_useThings_100 rfl (lv_at hl 3 rfl) ?_
    refine lv_aload_n hx hb dX0_useThings_101 rfl (lv_at hl 1 rfl) ?_
    refine lv_iload hx hb dX0_useThings_102 (lv_at hl 4 rfl) ?_
    obtain ⟨r26, h25, hf⟩ := ob1_some hf
    refine k_yX5_held X hK hZ hW hS hl.1 w1 h25 mlRX0_89 ⟨Nat.le_of_ble_eq_true rfl, Nat.le_of_ble_eq_true rfl⟩ ⟨Nat.le_of_ble_eq_true rfl, Nat.le_of_ble_eq_true rfl⟩ (Nat.le_of_ble_eq_true rfl) dX0_useThings_104 (fun H locs hW hS => ?_)
    obtain ⟨M28, h27, hf⟩ := ob1_some hf
    refine k_yX5_grasp X hK hZ hW hS hl.1 w1 h27 mlRX0_92 ⟨Nat.le_of_ble_eq_true rfl, Nat.le_of_ble_eq_true rfl⟩ ⟨Nat.le_of_ble_eq_true rfl, Nat.le_of_ble_eq_true rfl⟩ (Nat.le_of_ble_eq_true rfl) dX0_useThings_107 (fun H locs hW hS => ?_)
    refine lv_iconst (v := 0) hx hb dX0_useThings_110 (by decide) ?_
    obtain ⟨rfl, rfl⟩ := sp2 hf
    refine W.widen (k := 2) (n := 18) (by omega) (by omega) ?_
    exact eg_i ⟨hx, hb, hr, hlk⟩ ext.rf hW hS dX0_useThings_111
  rw [if_neg c24] at hf
  by_cases c29 : x2 = 12
  · rw [if_pos c29] at hf
    refine lv_tableIn (tgt := 112) hx hb dX0_useThings_1 (by rw [c29]; decide) (by rw [c29]; decide) (by rw [c29]; rfl) (by decide) ?_
    refine lv_aload_n hx hb dX0_useThings_112 rfl (lv_at hl 0 rfl) ?_
    refine lv_aload_n hx hb dX0_useThings_113 rfl (lv_at hl 1 rfl) ?_
    refine lv_iload_n hx hb dX0_useThings_114 rfl (lv_at hl 3 rfl) ?_
    refine lv_aload_n hx hb dX0_useThings_115 rfl (lv_at hl 0 rfl) ?_
    refine lv_aload_n hx hb dX0_useThings_116 rfl (lv_at hl 1 rfl) ?_
    refine lv_iload hx hb dX0_useThings_117 (lv_at hl 4 rfl) ?_
    obtain ⟨r31, h30, hf⟩ := ob1_some hf
    rcases r31 with _ | j32
    · rw [om_n] at hf
      refine k_yX0_inHandn X hK hZ hW hS hl.1 w1 h30 mlRX0_95 ⟨Nat.le_of_ble_eq_true rfl, Nat.le_of_ble_eq_true rfl⟩ ⟨Nat.le_of_ble_eq_true rfl, Nat.le_of_ble_eq_true rfl⟩ (Nat.le_of_ble_eq_true rfl) dX0_useThings_119 (fun H locs hW hS => ?_)
      obtain ⟨r34, M35, h33, hf⟩ := ob2_some hf
      refine k_yX0_readCount X hK hZ hW hS hl.1 w1 none trivial h33 mlRX0_99 ⟨Nat.le_of_ble_eq_true rfl, Nat.le_of_ble_eq_true rfl⟩ ⟨Nat.le_of_ble_eq_true rfl, Nat.le_of_ble_eq_true rfl⟩ (Nat.le_of_ble_eq_true rfl) dX0_useThings_122 (fun H locs hW hS => ?_)
      obtain ⟨rfl, rfl⟩ := sp2 hf
      refine W.widen (k := 2) (n := 18) (by omega) (by omega) ?_
      exact eg_i ⟨hx, hb, hr, hlk⟩ ext.rf hW hS dX0_useThings_125
    · rw [om_s] at hf
      refine k_yX0_inHands X hK hZ hW hS hl.1 w1 h30 mlRX0_95 ⟨Nat.le_of_ble_eq_true rfl, Nat.le_of_ble_eq_true rfl⟩ ⟨Nat.le_of_ble_eq_true rfl, Nat.le_of_ble_eq_true rfl⟩ (Nat.le_of_ble_eq_true rfl) dX0_useThings_119 (fun H locs hW hS => ?_)
      obtain ⟨v36, hf⟩ := gd_some hf
      obtain ⟨r38, M39, h37, hf⟩ := ob2_some hf
      refine k_yX0_readCount X hK hZ hW hS hl.1 w1 (some j32) v36 h37 mlRX0_99 ⟨Nat.le_of_ble_eq_true rfl, Nat.le_of_ble_eq_true rfl⟩ ⟨Nat.le_of_ble_eq_true rfl, Nat.le_of_ble_eq_true rfl⟩ (Nat.le_of_ble_eq_true rfl) dX0_useThings_122 (fun H locs hW hS => ?_)
      obtain ⟨rfl, rfl⟩ := sp2 hf
      refine W.widen (k := 2) (n := 18) (by omega) (by omega) ?_
      exact eg_i ⟨hx, hb, hr, hlk⟩ ext.rf hW hS dX0_useThings_125
  rw [if_neg c29] at hf
  by_cases c40 : x2 = 13
  · rw [if_pos c40] at hf
    refine lv_tableIn (tgt := 126) hx hb dX0_useThings_1 (by rw [c40]; decide) (by rw [c40]; decide) (by rw [c40]; rfl) (by decide) ?_
    refine lv_aload_n hx hb dX0_useThings_126 rfl (lv_at hl 0 rfl) ?_
    refine lv_aload_n hx hb dX0_useThings_127 rfl (lv_at hl 0 rfl) ?_
    refine lv_aload_n hx hb dX0_useThings_128 rfl (lv_at hl 1 rfl) ?_
    refine lv_iload_n hx hb dX0_useThings_129 rfl (lv_at hl 3 rfl) ?_
    obtain ⟨r42, h41, hf⟩ := ob1_some hf
    rcases r42 with _ | j43
    · rw [om_n] at hf
      refine k_yX0_inHandn X hK hZ hW hS hl.1 w1 h41 mlRX0_95 ⟨Nat.le_of_ble_eq_true rfl, Nat.le_of_ble_eq_true rfl⟩ ⟨Nat.le_of_ble_eq_true rfl, Nat.le_of_ble_eq_true rfl⟩ (Nat.le_of_ble_eq_true rfl) dX0_useThings_130 (fun H locs hW hS => ?_)
      refine lv_aload_n hx hb dX0_useThings_133 rfl (lv_at hl 1 rfl) ?_
      refine lv_iload hx hb dX0_useThings_134 (lv_at hl 4 rfl) ?_
      obtain ⟨r45, h44, hf⟩ := ob1_some hf
      refine k_yX5_kept X hK hZ hW hS hl.1 w1 h44 mlRX0_72 ⟨Nat.le_of_ble_eq_true rfl, Nat.le_of_ble_eq_true rfl⟩ ⟨Nat.le_of_ble_eq_true rfl, Nat.le_of_ble_eq_true rfl⟩ (Nat.le_of_ble_eq_true rfl) dX0_useThings_136 (fun H locs hW hS => ?_)
      obtain ⟨r47, M48, h46, hf⟩ := ob2_some hf
      refine k_yX0_bump X hK hZ hW hS hl.1 none trivial h46 mlRX0_103 ⟨Nat.le_of_ble_eq_true rfl, Nat.le_of_ble_eq_true rfl⟩ ⟨Nat.le_of_ble_eq_true rfl, Nat.le_of_ble_eq_true rfl⟩ (Nat.le_of_ble_eq_true rfl) dX0_useThings_139 (fun H locs hW hS => ?_)
      obtain ⟨rfl, rfl⟩ := sp2 hf
      refine W.widen (k := 2) (n := 18) (by omega) (by omega) ?_
      exact eg_i ⟨hx, hb, hr, hlk⟩ ext.rf hW hS dX0_useThings_142
    · rw [om_s] at hf
      refine k_yX0_inHands X hK hZ hW hS hl.1 w1 h41 mlRX0_95 ⟨Nat.le_of_ble_eq_true rfl, Nat.le_of_ble_eq_true rfl⟩ ⟨Nat.le_of_ble_eq_true rfl, Nat.le_of_ble_eq_true rfl⟩ (Nat.le_of_ble_eq_true rfl) dX0_useThings_130 (fun H locs hW hS => ?_)
      refine lv_aload_n hx hb dX0_useThings_133 rfl (lv_at hl 1 rfl) ?_
      refine lv_iload hx hb dX0_useThings_134 (lv_at hl 4 rfl) ?_
      obtain ⟨r50, h49, hf⟩ := ob1_some hf
      refine k_yX5_kept X hK hZ hW hS hl.1 w1 h49 mlRX0_72 ⟨Nat.le_of_ble_eq_true rfl, Nat.le_of_ble_eq_true rfl⟩ ⟨Nat.le_of_ble_eq_true rfl, Nat.le_of_ble_eq_true rfl⟩ (Nat.le_of_ble_eq_true rfl) dX0_useThings_136 (fun H locs hW hS => ?_)
      obtain ⟨v51, hf⟩ := gd_some hf
      obtain ⟨r53, M54, h52, hf⟩ := ob2_some hf
      refine k_yX0_bump X hK hZ hW hS hl.1 (some j43) v51 h52 mlRX0_103 ⟨Nat.le_of_ble_eq_true rfl, Nat.le_of_ble_eq_true rfl⟩ ⟨Nat.le_of_ble_eq_true rfl, Nat.le_of_ble_eq_true rfl⟩ (Nat.le_of_ble_eq_true rfl) dX0_useThings_139 (fun H locs hW hS => ?_)
      obtain ⟨rfl, rfl⟩ := sp2 hf
      refine W.widen (k := 2) (n := 18) (by omega) (by omega) ?_
      exact eg_i ⟨hx, hb, hr, hlk⟩ ext.rf hW hS dX0_useThings_142
  rw [if_neg c40] at hf
  by_cases c55 : x2 = 14
  · rw [if_pos c55] at hf
    refine lv_tableIn (tgt := 143) hx hb dX0_useThings_1 (by rw [c55]; decide) (by rw [c55]; decide) (by rw [c55]; rfl) (by decide) ?_
    refine lv_aload_n hx hb dX0_useThings_143 rfl (lv_at hl 0 rfl) ?_
    refine lv_aload_n hx hb dX0_useThings_144 rfl (lv_at hl 1 rfl) ?_
    refine lv_iload_n hx hb dX0_useThings_145 rfl (lv_at hl 3 rfl) ?_
    refine lv_aload_n hx hb dX0_useThings_146 rfl (lv_at hl 0 rfl) ?_
    refine lv_aload_n hx hb dX0_useThings_147 rfl (lv_at hl 1 rfl) ?_
    refine lv_iload hx hb dX0_useThings_148 (lv_at hl 4 rfl) ?_
    obtain ⟨r57, h56, hf⟩ := ob1_some hf
    rcases r57 with _ | j58
    · rw [om_n] at hf
      refine k_yX0_inHandn X hK hZ hW hS hl.1 w1 h56 mlRX0_95 ⟨Nat.le_of_ble_eq_true rfl, Nat.le_of_ble_eq_true rfl⟩ ⟨Nat.le_of_ble_eq_true rfl, Nat.le_of_ble_eq_true rfl⟩ (Nat.le_of_ble_eq_true rfl) dX0_useThings_150 (fun H locs hW hS => ?_)
      obtain ⟨r60, M61, h59, hf⟩ := ob2_some hf
      refine k_yX0_weighInto X hK hZ hW hS hl.1 w1 none trivial h59 mlRX0_107 ⟨Nat.le_of_ble_eq_true rfl, Nat.le_of_ble_eq_true rfl⟩ ⟨Nat.le_of_ble_eq_true rfl, Nat.le_of_ble_eq_true rfl⟩ (Nat.le_of_ble_eq_true rfl) dX0_useThings_153 (fun H locs hW hS => ?_)
      obtain ⟨rfl, rfl⟩ := sp2 hf
      refine W.widen (k := 2) (n := 18) (by omega) (by omega) ?_
      exact eg_i ⟨hx, hb, hr, hlk⟩ ext.rf hW hS dX0_useThings_156
    · rw [om_s] at hf
      refine k_yX0_inHands X hK hZ hW hS hl.1 w1 h56 mlRX0_95 ⟨Nat.le_of_ble_eq_true rfl, Nat.le_of_ble_eq_true rfl⟩ ⟨Nat.le_of_ble_eq_true rfl, Nat.le_of_ble_eq_true rfl⟩ (Nat.le_of_ble_eq_true rfl) dX0_useThings_150 (fun H locs hW hS => ?_)
      obtain ⟨v62, hf⟩ := gd_some hf
      obtain ⟨r64, M65, h63, hf⟩ := ob2_some hf
      refine k_yX0_weighInto X hK hZ hW hS hl.1 w1 (some j58) v62 h63 mlRX0_107 ⟨Nat.le_of_ble_eq_true rfl, Nat.le_of_ble_eq_true rfl⟩ ⟨Nat.le_of_ble_eq_true rfl, Nat.le_of_ble_eq_true rfl⟩ (Nat.le_of_ble_eq_true rfl) dX0_useThings_153 (fun H locs hW hS => ?_)
      obtain ⟨rfl, rfl⟩ := sp2 hf
      refine W.widen (k := 2) (n := 18) (by omega) (by omega) ?_
      exact eg_i ⟨hx, hb, hr, hlk⟩ ext.rf hW hS dX0_useThings_156
  rw [if_neg c55] at hf
  refine lv_tableOut (tgt := 157) hx hb dX0_useThings_1 (by have := lv_neT (a := 8) c1 (by decide); have := lv_neT (a := 9) c7 (by decide); have := lv_neT (a := 10) c14 (by decide); have := lv_neT (a := 11) c24 (by decide); have := lv_neT (a := 12) c29 (by decide); have := lv_neT (a := 13) c40 (by decide); have := lv_neT (a := 14) c55 (by decide); omega) (by decide) ?_
  refine lv_aload_n hx hb dX0_useThings_157 rfl (lv_at hl 0 rfl) ?_
  refine lv_aload_n hx hb dX0_useThings_158 rfl (lv_at hl 1 rfl) ?_
  refine lv_iload_n hx hb dX0_useThings_159 rfl (lv_at hl 3 rfl) ?_
  refine lv_aload_n hx hb dX0_useThings_160 rfl (lv_at hl 0 rfl) ?_
  refine lv_aload_n hx hb dX0_useThings_161 rfl (lv_at hl 1 rfl) ?_
  refine lv_iload hx hb dX0_useThings_162 (lv_at hl 4 rfl) ?_
  obtain ⟨r67, h66, hf⟩ := ob1_some hf
  rcases r67 with _ | j68
  · rw [om_n] at hf
    refine k_yX0_inHandn X hK hZ hW hS hl.1 w1 h66 mlRX0_95 ⟨Nat.le_of_ble_eq_true rfl, Nat.le_of_ble_eq_true rfl⟩ ⟨Nat.le_of_ble_eq_true rfl, Nat.le_of_ble_eq_true rfl⟩ (Nat.le_of_ble_eq_true rfl) dX0_useThings_164 (fun H locs hW hS => ?_)
    obtain ⟨r70, M71, h69, hf⟩ := ob2_some hf
    refine k_yX0_readMark X hK hZ hW hS hl.1 w1 none trivial h69 mlRX0_110 ⟨Nat.le_of_ble_eq_true rfl, Nat.le_of_ble_eq_true rfl⟩ ⟨Nat.le_of_ble_eq_true rfl, Nat.le_of_ble_eq_true rfl⟩ (Nat.le_of_ble_eq_true rfl) dX0_useThings_167 (fun H locs hW hS => ?_)
    obtain ⟨rfl, rfl⟩ := sp2 hf
    refine W.widen (k := 2) (n := 18) (by omega) (by omega) ?_
    exact eg_i ⟨hx, hb, hr, hlk⟩ ext.rf hW hS dX0_useThings_170
  · rw [om_s] at hf
    refine k_yX0_inHands X hK hZ hW hS hl.1 w1 h66 mlRX0_95 ⟨Nat.le_of_ble_eq_true rfl, Nat.le_of_ble_eq_true rfl⟩ ⟨Nat.le_of_ble_eq_true rfl, Nat.le_of_ble_eq_true rfl⟩ (Nat.le_of_ble_eq_true rfl) dX0_useThings_164 (fun H locs hW hS => ?_)
    obtain ⟨v72, hf⟩ := gd_some hf
    obtain ⟨r74, M75, h73, hf⟩ := ob2_some hf
    refine k_yX0_readMark X hK hZ hW hS hl.1 w1 (some j68) v72 h73 mlRX0_110 ⟨Nat.le_of_ble_eq_true rfl, Nat.le_of_ble_eq_true rfl⟩ ⟨Nat.le_of_ble_eq_true rfl, Nat.le_of_ble_eq_true rfl⟩ (Nat.le_of_ble_eq_true rfl) dX0_useThings_167 (fun H locs hW hS => ?_)
    obtain ⟨rfl, rfl⟩ := sp2 hf
    refine W.widen (k := 2) (n := 18) (by omega) (by omega) ?_
    exact eg_i ⟨hx, hb, hr, hlk⟩ ext.rf hW hS dX0_useThings_170
set_option maxRecDepth 100000 in
set_option maxHeartbeats 4000000 in
theorem k_yX0_useThings {p : Program} {l : Launch} {e : Env} {R : Room} {s : State} {m : MethodId} {args : Array Value} {below : List Frame} {meth : Method} {c : Code} {H : Heap} {locs : List Loc} {cells slots : Nat} {Q : State → Prop} {cc : ByteArray} {pc nL index : Nat} {ret : Option FieldType} {own : String} {ls : Array Slot} {rest : List Value} {E : Lay} {ad : Nat → Nat → Nat} {M N : Mem} (X : CX p s m args meth c cc nL ret own) (hK : KK E s) (hZ : ZZ E s) (hW : WD E ad (M, N) H) (hS : va_S (ow E) s.heap H locs) (hsz : ls.size = nL) {i1 : Nat} {x2 : Int32} {x3 : Int32} {x4 : Int32} {x5 : Int32} (w1 : i1 < 6) {r : Int32} {Mr : Mem} (hf : f_yX0_useThings M i1 x2 x3 x4 x5 = some (r, Mr)) (hn : Cond.methodLink own index yX0_useThings ∈ TB) (hR : 4 + 1 ≤ R.frames ∧ 8 + (6 + 11) + 83 ≤ R.locals) (hC : cells + 2 ≤ R.cells ∧ slots + 18 ≤ R.slots) (h8 : (rest.map fun v => v.category).sum ≤ 8) (hdg : decode cc pc = .ok (.invokevirtual index, 3)) (kk : ∀ (ad1 : Nat → Nat → Nat) (H1 : Heap) (locs1 : List Loc), ext ad ad1 → WD E ad1 (Mr, N) H1 → va_S (ow E) s.heap H1 locs1 → W p l e R s m args below meth c H1 locs1 (cells + 2) (slots + 18) Q (F0 m (pc + 3) ls (.int r :: rest))) : W p l e R s m args below meth c H locs cells slots Q (F0 m pc ls (.int x5 :: .int x4 :: .int x3 :: .int x2 :: .ref (ad 6 i1) :: .ref (ad 3 0) :: rest)) := by
  refine va_calli (va_runV (C := RX0) (As := [.ref (ad 6 i1), .int x2, .int x3, .int x4, .int x5]) (rest := rest) ⟨X.1, X.2.1, X.2.2.1, X.2.2.2.1, X.2.2.2.2.1⟩ (c_yX0_useThings l E ad M N i1 x2 x3 x4 x5 w1 r Mr hf) (cwV 5 X.2.2.2.2.1 (gV hn im_yX0_useThings se_yX0_useThings iniRX0 cd_yX0_useThings) rfl rfl rfl (by decide +kernel) hR) ⟨fun a U g mk q => ⟨q.1, q.2.calling⟩, va_recv hK.1 (hW.at (c := 3) (i := 0) Nat.zero_lt_one rfl) (ci := 0) (q0 := 0) rfl rfl, fun U hU hw => ⟨rfl, PB.at hW hK hZ hS hU hw⟩⟩ rfl rfl hsz rfl (lv_room h8) hdg hC) hS (fun _ _ h => h) (fun _ h => h) (fun r' u t H1 locs1 ht hvm hw hB hz1 hk1 hS1 => ?_)
  obtain ⟨ad1, P1⟩ := u
  obtain ⟨rfl, hu, hE⟩ := hw
  dsimp only at hu hE hB
  subst hu
  rw [ht] at hB
  exact kk ad1 H1 locs1 hE hB hS1
def f_yX0_useRows (M : Mem) (i1 : Nat) (x2 : Int32) (x3 : Int32) (x4 : Int32) (x5 : Int32) : Option (Int32 × Mem) := (if x2 = 16 then ob1 (f_yX0_inHand M i1 x4) (fun r3 => om r3 (ob2 (f_yX0_readSize M i1 x3 none) (fun r6 M7 => (some (r6, M7)))) (fun j4 => gd (j4 < (M 60 0 1).toNatClampNeg) (ob2 (f_yX0_readSize M i1 x3 (some j4)) (fun r10 M11 => (some (r10, M11)))))) else (if x2 = 17 then ob1 (f_yX0_inHand M i1 x4) (fun r14 => om r14 (ob1 (f_yX5_kept M i1 x5) (fun r17 => ob2 (f_yX0_readNumber M i1 x3 none r17) (fun r19 M20 => (some (r19, M20))))) (fun j15 => ob1 (f_yX5_kept M i1 x5) (fun r22 => gd (j15 < (M 60 0 1).toNatClampNeg) (ob2 (f_yX0_readNumber M i1 x3 (some j15) r22) (fun r25 M26 => (some (r25, M26))))))) else (if x2 = 18 then ob1 (f_yX0_inHand M i1 x3) (fun r29 => om r29 (ob1 (f_yX5_kept M i1 x4) (fun r32 => ob1 (f_yX5_kept M i1 x5) (fun r34 => ob2 (f_yX0_writeNumber M none r32 r34) (fun r36 M37 => (some (r36, M37)))))) (fun j30 => ob1 (f_yX5_kept M i1 x4) (fun r39 => ob1 (f_yX5_kept M i1 x5) (fun r41 => gd (j30 < (M 60 0 1).toNatClampNeg) (ob2 (f_yX0_writeNumber M (some j30) r39 r41) (fun r44 M45 => (some (r44, M45)))))))) else (if x2 = 19 then ob1 (f_yX0_inHand M i1 x4) (fun r48 => om r48 (ob1 (f_yX5_kept M i1 x5) (fun r51 => ob2 (f_yX0_takeThing M i1 x3 none r51) (fun r53 M54 => (some (r53, M54))))) (fun j49 => ob1 (f_yX5_kept M i1 x5) (fun r56 => gd (j49 < (M 60 0 1).toNatClampNeg) (ob2 (f_yX0_takeThing M i1 x3 (some j49) r56) (fun r59 M60 => (some (r59, M60))))))) else (if x2 = 20 then ob1 (f_yX0_inHand M i1 x3) (fun r63 => om r63 (ob1 (f_yX5_kept M i1 x4) (fun r66 => ob1 (f_yX5_held M i1 x5) (fun r68 => ob2 (f_yX0_putThing M none r66 r68) (fun r70 M71 => (some (r70, M71)))))) (fun j64 => ob1 (f_yX5_kept M i1 x4) (fun r73 => ob1 (f_yX5_held M i1 x5) (fun r75 => gd (j64 < (M 60 0 1).toNatClampNeg) (ob2 (f_yX0_putThing M (some j64) r73 r75) (fun r78 M79 => (some (r78, M79)))))))) else ob1 (f_yX0_inHand M i1 x3) (fun r81 => om r81 (ob1 (f_yX0_inHand M i1 x4) (fun r84 => om r84 (ob1 (f_yX5_kept M i1 x5) (fun r87 => ob2 (f_yX0_copy M none none r87) (fun r89 M90 => (some (r89, M90))))) (fun j85 => ob1 (f_yX5_kept M i1 x5) (fun r92 => gd (j85 < (M 60 0 1).toNatClampNeg) (ob2 (f_yX0_copy M none (some j85) r92) (fun r95 M96 => (some (r95, M96)))))))) (fun j82 => ob1 (f_yX0_inHand M i1 x4) (fun r98 => om r98 (ob1 (f_yX5_kept M i1 x5) (fun r101 => gd (j82 < (M 60 0 1).toNatClampNeg) (ob2 (f_yX0_copy M (some j82) none r101) (fun r104 M105 => (some (r104, M105)))))) (fun j99 => ob1 (f_yX5_kept M i1 x5) (fun r107 => gd (j82 < (M 60 0 1).toNatClampNeg) (gd (j99 < (M 60 0 1).toNatClampNeg) (ob2 (f_yX0_copy M (some j82) (some j99) r107) (fun r111 M112 => (some (r111, M112)))))))))))))))
set_option maxRecDepth 100000 in
set_option maxHeartbeats 4000000 in
theorem c_yX0_useRows (l : Launch) (E : Lay) (ad : Nat → Nat → Nat) (M N : Mem) (i1 : Nat) (x2 : Int32) (x3 : Int32) (x4 : Int32) (x5 : Int32) (w1 : i1 < 6) (r : Int32) (Mr : Mem) (hf : f_yX0_useRows M i1 x2 x3 x4 x5 = some (r, Mr)) : Met l yX0_useRows (Cond.code yX0_useRows cX0_useRows 6 (some .int) :: TB) (rmm 3 70) (va_Pc [.ref (ad 3 0), .ref (ad 6 i1), .int x2, .int x3, .int x4, .int x5] (PB E ad (M, N))) (Qi E ad r (Mr, N)) 0 0 (ow E) := by
  refine Met.ofW (cc := cX0_useRows) (maxL := 6) (ret := (some .int)) (by decide) rfl ?_
  intro p e s m args below meth c s₁ B hml hv
  obtain ⟨rfl, hW, hK, hZ⟩ := hv
  have hT : ∀ w ∈ TB, w.before _ s = true := fun w h => atoms_spec (ws := (Cond.code yX0_useRows cX0_useRows 6 (some .int) :: TB)) B.pre w (List.mem_cons_of_mem _ h)
  have X : CX p s m _ meth c cX0_useRows 6 (some .int) RX0 := ⟨B.exec, B.bytes, hml, findClass_of_methodNamed B.named, hT, B.returns, B.notSynchronized⟩
  obtain ⟨hx, hb, hml, hown, hT, hr, hlk⟩ := id X
  have hS : va_S (ow E) s.heap s.heap [] := va_S.rf
  have hl := lv_entry ([.ref (ad 3 0), .ref (ad 6 i1), .int x2, .int x3, .int x4, .int x5]) (n := 6) (Nat.le_of_ble_eq_true rfl)
  rw [lg_entry_eq]
  generalize (lg_sl ([.ref (ad 3 0), .ref (ad 6 i1), .int x2, .int x3, .int x4, .int x5]) ++ List.replicate (6 - (lg_sl ([.ref (ad 3 0), .ref (ad 6 i1), .int x2, .int x3, .int x4, .int x5])).length) Slot.unset).toArray = ls at hl ⊢
  have hl : lv_has ls 6 [(0, .ref (ad 3 0)), (1, .ref (ad 6 i1)), (2, .int x2), (3, .int x3), (4, .int x4), (5, .int x5)] := hl
  unfold f_yX0_useRows at hf
  refine lv_iload_n hx hb dX0_useRows_0 rfl (lv_at hl 2 rfl) ?_
  by_cases c1 : x2 = 16
  · rw [if_pos c1] at hf
    refine lv_tableIn (tgt := 36) hx hb dX0_useRows_1 (by rw [c1]; decide) (by rw [c1]; decide) (by rw [c1]; rfl) (by decide) ?_
    refine lv_aload_n hx hb dX0_useRows_36 rfl (lv_at hl 0 rfl) ?_
    refine lv_aload_n hx hb dX0_useRows_37 rfl (lv_at hl 1 rfl) ?_
    refine lv_iload_n hx hb dX0_useRows_38 rfl (lv_at hl 3 rfl) ?_
    refine lv_aload_n hx hb dX0_useRows_39 rfl (lv_at hl 0 rfl) ?_
    refine lv_aload_n hx hb dX0_useRows_40 rfl (lv_at hl 1 rfl) ?_
    refine lv_iload hx hb dX0_useRows_41 (lv_at hl 4 rfl) ?_
    obtain ⟨r3, h2, hf⟩ := ob1_some hf
    rcases r3 with _ | j4
    · rw [om_n] at hf
      refine k_yX0_inHandn X hK hZ hW hS hl.1 w1 h2 mlRX0_95 ⟨Nat.le_of_ble_eq_true rfl, Nat.le_of_ble_eq_true rfl⟩ ⟨Nat.le_of_ble_eq_true rfl, Nat.le_of_ble_eq_true rfl⟩ (Nat.le_of_ble_eq_true rfl) dX0_useRows_43 (fun H locs hW hS => ?_)
      obtain ⟨r6, M7, h5, hf⟩ := ob2_some hf
      refine k_yX0_readSize X hK hZ hW hS hl.1 w1 none trivial h5 mlRX0_140 ⟨Nat.le_of_ble_eq_true rfl, Nat.le_of_ble_eq_true rfl⟩ ⟨Nat.le_of_ble_eq_true rfl, Nat.le_of_ble_eq_true rfl⟩ (Nat.le_of_ble_eq_true rfl) dX0_useRows_46 (fun H locs hW hS => ?_)
      obtain ⟨rfl, rfl⟩ := sp2 hf
      exact e_i ⟨hx, hb, hr, hlk⟩ hW hS dX0_useRows_49
    · rw [om_s] at hf
      refine k_yX0_inHands X hK hZ hW hS hl.1 w1 h2 mlRX0_95 ⟨Nat.le_of_ble_eq_true rfl, Nat.le_of_ble_eq_true rfl⟩ ⟨Nat.le_of_ble_eq_true rfl, Nat.le_of_ble_eq_true rfl⟩ (Nat.le_of_ble_eq_true rfl) dX0_useRows_43 (fun H locs hW hS => ?_)
      obtain ⟨v8, hf⟩ := gd_some hf
      obtain ⟨r10, M11, h9, hf⟩ := ob2_some hf
      refine k_yX0_readSize X hK hZ hW hS hl.1 w1 (some j4) v8 h9 mlRX0_140 ⟨Nat.le_of_ble_eq_true rfl, Nat.le_of_ble_eq_true rfl⟩ ⟨Nat.le_of_ble_eq_true rfl, Nat.le_of_ble_eq_true rfl⟩ (Nat.le_of_ble_eq_true rfl) dX0_useRows_46 (fun H locs hW hS => ?_)
      obtain ⟨rfl, rfl⟩ := sp2 hf
      exact e_i ⟨hx, hb, hr, hlk⟩ hW hS dX0_useRows_49
  rw [if_neg c1] at hf
  by_cases c12 : x2 = 17
  · rw [if_pos c12] at hf
    refine lv_tableIn (tgt := 50) hx hb dX0_useRows_1 (by rw [c12]; decide) (by rw [c12]; decide) (by rw [c12]; rfl) (by decide) ?_
    refine lv_aload_n hx hb dX0_useRows_50 rfl (lv_at hl 0 rfl) ?_
    refine lv_aload_n hx hb dX0_useRows_51 rfl (lv_at hl 1 rfl) ?_
    refine lv_iload_n hx hb dX0_useRows_52 rfl (lv_at hl 3 rfl) ?_
    refine lv_aload_n hx hb dX0_useRows_53 rfl (lv_at hl 0 rfl) ?_
    refine lv_aload_n hx hb dX0_useRows_54 rfl (lv_at hl 1 rfl) ?_
    refine lv_iload hx hb dX0_useRows_55 (lv_at hl 4 rfl) ?_
    obtain ⟨r14, h13, hf⟩ := ob1_some hf
    rcases r14 with _ | j15
    · rw [om_n] at hf
      refine k_yX0_inHandn X hK hZ hW hS hl.1 w1 h13 mlRX0_95 ⟨Nat.le_of_ble_eq_true rfl, Nat.le_of_ble_eq_true rfl⟩ ⟨Nat.le_of_ble_eq_true rfl, Nat.le_of_ble_eq_true rfl⟩ (Nat.le_of_ble_eq_true rfl) dX0_useRows_57 (fun H locs hW hS => ?_)
      refine lv_aload_n hx hb dX0_useRows_60 rfl (lv_at hl 1 rfl) ?_
      refine lv_iload hx hb dX0_useRows_61 (lv_at hl 5 rfl) ?_
      obtain ⟨r17, h16, hf⟩ := ob1_some hf
      refine k_yX5_kept X hK hZ hW hS hl.1 w1 h16 mlRX0_72 ⟨Nat.le_of_ble_eq_true rfl, Nat.le_of_ble_eq_true rfl⟩ ⟨Nat.le_of_ble_eq_true rfl, Nat.le_of_ble_eq_true rfl⟩ (Nat.le_of_ble_eq_true rfl) dX0_useRows_63 (fun H locs hW hS => ?_)
      obtain ⟨r19, M20, h18, hf⟩ := ob2_some hf
      refine k_yX0_readNumber X hK hZ hW hS hl.1 w1 none trivial h18 mlRX0_143 ⟨Nat.le_of_ble_eq_true rfl, Nat.le_of_ble_eq_true rfl⟩ ⟨Nat.le_of_ble_eq_true rfl, Nat.le_of_ble_eq_true rfl⟩ (Nat.le_of_ble_eq_true rfl) dX0_useRows_66 (fun H locs hW hS => ?_)
      obtain ⟨rfl, rfl⟩ := sp2 hf
      exact e_i ⟨hx, hb, hr, hlk⟩ hW hS dX0_useRows_69
    · rw [om_s] at hf
      refine k_yX0_inHands X hK hZ hW hS hl.1 w1 h13 mlRX0_95 ⟨Nat.le_of_ble_eq_true rfl, Nat.le_of_ble_eq_true rfl⟩ ⟨Nat.le_of_ble_eq_true rfl, Nat.le_of_ble_eq_true rfl⟩ (Nat.le_of_ble_eq_true rfl) dX0_useRows_57 (fun H locs hW hS => ?_)
      refine lv_aload_n hx hb dX0_useRows_60 rfl (lv_at hl 1 rfl) ?_
      refine lv_iload hx hb dX0_useRows_61 (lv_at hl 5 rfl) ?_
      obtain ⟨r22, h21, hf⟩ := ob1_some hf
      refine k_yX5_kept X hK hZ hW hS hl.1 w1 h21 mlRX0_72 ⟨Nat.le_of_ble_eq_true rfl, Nat.le_of_ble_eq_true rfl⟩ ⟨Nat.le_of_ble_eq_true rfl, Nat.le_of_ble_eq_true rfl⟩ (Nat.le_of_ble_eq_true rfl) dX0_useRows_63 (fun H locs hW hS => ?_)
      obtain ⟨v23, hf⟩ := gd_some hf
      obtain ⟨r25, M26, h24, hf⟩ := ob2_some hf
      refine k_yX0_readNumber X hK hZ hW hS hl.1 w1 (some j15) v23 h24 mlRX0_143 ⟨Nat.le_of_ble_eq_true rfl, Nat.le_of_ble_eq_true rfl⟩ ⟨Nat.le_of_ble_eq_true rfl, Nat.le_of_ble_eq_true rfl⟩ (Nat.le_of_ble_eq_true rfl) dX0_useRows_66 (fun H locs hW hS => ?_)
      obtain ⟨rfl, rfl⟩ := sp2 hf
      exact e_i ⟨hx, hb, hr, hlk⟩ hW hS dX0_useRows_69
  rw [if_neg c12] at hf
  by_cases c27 : x2 = 18
  · rw [if_pos c27] at hf
    refine lv_tableIn (tgt := 70) hx hb dX0_useRows_1 (by rw [c27]; decide) (by rw [c27]; decide) (by rw [c27]; rfl) (by decide) ?_
    refine lv_aload_n hx hb dX0_useRows_70 rfl (lv_at hl 0 rfl) ?_
    refine lv_aload_n hx hb dX0_useRows_71 rfl (lv_at hl 0 rfl) ?_
    refine lv_aload_n hx hb dX0_useRows_72 rfl (lv_at hl 1 rfl) ?_
    refine lv_iload_n hx hb dX0_useRows_73 rfl (lv_at hl 3 rfl) ?_
    obtain ⟨r29, h28, hf⟩ := ob1_some hf
    rcases r29 with _ | j30
    · rw [om_n] at hf
      refine k_yX0_inHandn X hK hZ hW hS hl.1 w1 h28 mlRX0_95 ⟨Nat.le_of_ble_eq_true rfl, Nat.le_of_ble_eq_true rfl⟩ ⟨Nat.le_of_ble_eq_true rfl, Nat.le_of_ble_eq_true rfl⟩ (Nat.le_of_ble_eq_true rfl) dX0_useRows_74 (fun H locs hW hS => ?_)
      refine lv_aload_n hx hb dX0_useRows_77 rfl (lv_at hl 1 rfl) ?_
      refine lv_iload hx hb dX0_useRows_78 (lv_at hl 4 rfl) ?_
      obtain ⟨r32, h31, hf⟩ := ob1_some hf
      refine k_yX5_kept X hK hZ hW hS hl.1 w1 h31 mlRX0_72 ⟨Nat.le_of_ble_eq_true rfl, Nat.le_of_ble_eq_true rfl⟩ ⟨Nat.le_of_ble_eq_true rfl, Nat.le_of_ble_eq_true rfl⟩ (Nat.le_of_ble_eq_true rfl) dX0_useRows_80 (fun H locs hW hS => ?_)
      refine lv_aload_n hx hb dX0_useRows_83 rfl (lv_at hl 1 rfl) ?_
      refine lv_iload hx hb dX0_useRows_84 (lv_at hl 5 rfl) ?_
      obtain ⟨r34, h33, hf⟩ := ob1_some hf
      refine k_yX5_kept X hK hZ hW hS hl.1 w1 h33 mlRX0_72 ⟨Nat.le_of_ble_eq_true rfl, Nat.le_of_ble_eq_true rfl⟩ ⟨Nat.le_of_ble_eq_true rfl, Nat.le_of_ble_eq_true rfl⟩ (Nat.le_of_ble_eq_true rfl) dX0_useRows_86 (fun H locs hW hS => ?_)
      obtain ⟨r36, M37, h35, hf⟩ := ob2_some hf
      refine k_yX0_writeNumber X hK hZ hW hS hl.1 none trivial h35 mlRX0_147 ⟨Nat.le_of_ble_eq_true rfl, Nat.le_of_ble_eq_true rfl⟩ ⟨Nat.le_of_ble_eq_true rfl, Nat.le_of_ble_eq_true rfl⟩ (Nat.le_of_ble_eq_true rfl) dX0_useRows_89 (fun H locs hW hS => ?_)
      obtain ⟨rfl, rfl⟩ := sp2 hf
      exact e_i ⟨hx, hb, hr, hlk⟩ hW hS dX0_useRows_92
    · rw [om_s] at hf
      refine k_yX0_inHands X hK hZ hW hS hl.1 w1 h28 mlRX0_95 ⟨Nat.le_of_ble_eq_true rfl, Nat.le_of_ble_eq_true rfl⟩ ⟨Nat.le_of_ble_eq_true rfl, Nat.le_of_ble_eq_true rfl⟩ (Nat.le_of_ble_eq_true rfl) dX0_useRows_74 (fun H locs hW hS => ?_)
      refine lv_aload_n hx hb dX0_useRows_77 rfl (lv_at hl 1 rfl) ?_
      refine lv_iload hx hb dX0_useRows_78 (lv_at hl 4 rfl) ?_
      obtain ⟨r39, h38, hf⟩ := ob1_some hf
      refine k_yX5_kept X hK hZ hW hS hl.1 w1 h38 mlRX0_72 ⟨Nat.le_of_ble_eq_true rfl, Nat.le_of_ble_eq_true rfl⟩ ⟨Nat.le_of_ble_eq_true rfl, Nat.le_of_ble_eq_true rfl⟩ (Nat.le_of_ble_eq_true rfl) dX0_useRows_80 (fun H locs hW hS => ?_)
      refine lv_aload_n hx hb dX0_useRows_83 rfl (lv_at hl 1 rfl) ?_
      refine lv_iload hx hb dX0_useRows_84 (lv_at hl 5 rfl) ?_
      obtain ⟨r41, h40, hf⟩ := ob1_some hf
      refine k_yX5_kept X hK hZ hW hS hl.1 w1 h40 mlRX0_72 ⟨Nat.le_of_ble_eq_true rfl, Nat.le_of_ble_eq_true rfl⟩ ⟨Nat.le_of_ble_eq_true rfl, Nat.le_of_ble_eq_true rfl⟩ (Nat.le_of_ble_eq_true rfl) dX0_useRows_86 (fun H locs hW hS => ?_)
      obtain ⟨v42, hf⟩ := gd_some hf
      obtain ⟨r44, M45, h43, hf⟩ := ob2_some hf
      refine k_yX0_writeNumber X hK hZ hW hS hl.1 (some j30) v42 h43 mlRX0_147 ⟨Nat.le_of_ble_eq_true rfl, Nat.le_of_ble_eq_true rfl⟩ ⟨Nat.le_of_ble_eq_true rfl, Nat.le_of_ble_eq_true rfl⟩ (Nat.le_of_ble_eq_true rfl) dX0_useRows_89 (fun H locs hW hS => ?_)
      obtain ⟨rfl, rfl⟩ := sp2 hf
      exact e_i ⟨hx, hb, hr, hlk⟩ hW hS dX0_useRows_92
  rw [if_neg c27] at hf
  by_cases c46 : x2 = 19
  · rw [if_pos c46] at hf
    refine lv_tableIn (tgt := 93) hx hb dX0_useRows_1 (by rw [c46]; decide) (by rw [c46]; decide) (by rw [c46]; rfl) (by decide) ?_
    refine lv_aload_n hx hb dX0_useRows_93 rfl (lv_at hl 0 rfl) ?_
    refine lv_aload_n hx hb dX0_useRows_94 rfl (lv_at hl 1 rfl) ?_
    refine lv_iload_n hx hb dX0_useRows_95 rfl (lv_at hl 3 rfl) ?_
    refine lv_aload_n hx hb dX0_useRows_96 rfl (lv_at hl 0 rfl) ?_
    refine lv_aload_n hx hb dX0_useRows_97 rfl (lv_at hl 1 rfl) ?_
    refine lv_iload hx hb dX0_useRows_98 (lv_at hl 4 rfl) ?_
    obtain ⟨r48, h47, hf⟩ := ob1_some hf
    rcases r48 with _ | j49
    · rw [om_n] at hf
      refine k_yX0_inHandn X hK hZ hW hS hl.1 w1 h47 mlRX0_95 ⟨Nat.le_of_ble_eq_true rfl, Nat.le_of_ble_eq_true rfl⟩ ⟨Nat.le_of_ble_eq_true rfl, Nat.le_of_ble_eq_true rfl⟩ (Nat.le_of_ble_eq_true rfl) dX0_useRows_100 (fun H locs hW hS => ?_)
      refine lv_aload_n hx hb dX0_useRows_103 rfl (lv_at hl 1 rfl) ?_
      refine lv_iload hx hb dX0_useRows_104 (lv_at hl 5 rfl) ?_
      obtain ⟨r51, h50, hf⟩ := ob1_some hf
      refine k_yX5_kept X hK hZ hW hS hl.1 w1 h50 mlRX0_72 ⟨Nat.le_of_ble_eq_true rfl, Nat.le_of_ble_eq_true rfl⟩ ⟨Nat.le_of_ble_eq_true rfl, Nat.le_of_ble_eq_true rfl⟩ (Nat.le_of_ble_eq_true rfl) dX0_useRows_106 (fun H locs hW hS => ?_)
      obtain ⟨r53, M54, h52, hf⟩ := ob2_some hf
      refine k_yX0_takeThing X hK hZ hW hS hl.1 w1 none trivial h52 mlRX0_151 ⟨Nat.le_of_ble_eq_true rfl, Nat.le_of_ble_eq_true rfl⟩ ⟨Nat.le_of_ble_eq_true rfl, Nat.le_of_ble_eq_true rfl⟩ (Nat.le_of_ble_eq_true rfl) dX0_useRows_109 (fun H locs hW hS => ?_)
      obtain ⟨rfl, rfl⟩ := sp2 hf
      exact e_i ⟨hx, hb, hr, hlk⟩ hW hS dX0_useRows_112
    · rw [om_s] at hf
      refine k_yX0_inHands X hK hZ hW hS hl.1 w1 h47 mlRX0_95 ⟨Nat.le_of_ble_eq_true rfl, Nat.le_of_ble_eq_true rfl⟩ ⟨Nat.le_of_ble_eq_true rfl, Nat.le_of_ble_eq_true rfl⟩ (Nat.le_of_ble_eq_true rfl) dX0_useRows_100 (fun H locs hW hS => ?_)
      refine lv_aload_n hx hb dX0_useRows_103 rfl (lv_at hl 1 rfl) ?_
      refine lv_iload hx hb dX0_useRows_104 (lv_at hl 5 rfl) ?_
      obtain ⟨r56, h55, hf⟩ := ob1_some hf
      refine k_yX5_kept X hK hZ hW hS hl.1 w1 h55 mlRX0_72 ⟨Nat.le_of_ble_eq_true rfl, Nat.le_of_ble_eq_true rfl⟩ ⟨Nat.le_of_ble_eq_true rfl, Nat.le_of_ble_eq_true rfl⟩ (Nat.le_of_ble_eq_true rfl) dX0_useRows_106 (fun H locs hW hS => ?_)
      obtain ⟨v57, hf⟩ := gd_some hf
      obtain ⟨r59, M60, h58, hf⟩ := ob2_some hf
      refine k_yX0_takeThing X hK hZ hW hS hl.1 w1 (some j49) v57 h58 mlRX0_151 ⟨Nat.le_of_ble_eq_true rfl, Nat.le_of_ble_eq_true rfl⟩ ⟨Nat.le_of_ble_eq_true rfl, Nat.le_of_ble_eq_true rfl⟩ (Nat.le_of_ble_eq_true rfl) dX0_useRows_109 (fun H locs hW hS => ?_)
      obtain ⟨rfl, rfl⟩ := sp2 hf
      exact e_i ⟨hx, hb, hr, hlk⟩ hW hS dX0_useRows_112
  rw [if_neg c46] at hf
  by_cases c61 : x2 = 20
  · rw [if_pos c61] at hf
    refine lv_tableIn (tgt := 113) hx hb dX0_useRows_1 (by rw [c61]; decide) (by rw [c61]; decide) (by rw [c61]; rfl) (by decide) ?_
    refine lv_aload_n hx hb dX0_useRows_113 rfl (lv_at hl 0 rfl) ?_
    refine lv_aload_n hx hb dX0_useRows_114 rfl (lv_at hl 0 rfl) ?_
    refine lv_aload_n hx hb dX0_useRows_115 rfl (lv_at hl 1 rfl) ?_
    refine lv_iload_n hx hb dX0_useRows_116 rfl (lv_at hl 3 rfl) ?_
    obtain ⟨r63, h62, hf⟩ := ob1_some hf
    rcases r63 with _ | j64
    · rw [om_n] at hf
      refine k_yX0_inHandn X hK hZ hW hS hl.1 w1 h62 mlRX0_95 ⟨Nat.le_of_ble_eq_true rfl, Nat.le_of_ble_eq_true rfl⟩ ⟨Nat.le_of_ble_eq_true rfl, Nat.le_of_ble_eq_true rfl⟩ (Nat.le_of_ble_eq_true rfl) dX0_useRows_117 (fun H locs hW hS => ?_)
      refine lv_aload_n hx hb dX0_useRows_120 rfl (lv_at hl 1 rfl) ?_
      refine lv_iload hx hb dX0_useRows_121 (lv_at hl 4 rfl) ?_
      obtain ⟨r66, h65, hf⟩ := ob1_some hf
      refine k_yX5_kept X hK hZ hW hS hl.1 w1 h65 mlRX0_72 ⟨Nat.le_of_ble_eq_true rfl, Nat.le_of_ble_eq_true rfl⟩ ⟨Nat.le_of_ble_eq_true rfl, Nat.le_of_ble_eq_true rfl⟩ (Nat.le_of_ble_eq_true rfl) dX0_useRows_123 (fun H locs hW hS => ?_)
      refine lv_aload_n hx hb dX0_useRows_126 rfl (lv_at hl 1 rfl) ?_
      refine lv_iload hx hb dX0_useRows_127 (lv_at hl 5 rfl) ?_
      obtain ⟨r68, h67, hf⟩ := ob1_some hf
      refine k_yX5_held X hK hZ hW hS hl.1 w1 h67 mlRX0_89 ⟨Nat.le_of_ble_eq_true rfl, Nat.le_of_ble_eq_true rfl⟩ ⟨Nat.le_of_ble_eq_true rfl, Nat.le_of_ble_eq_true rfl⟩ (Nat.le_of_ble_eq_true rfl) dX0_useRows_129 (fun H locs hW hS => ?_)
      obtain ⟨r70, M71, h69, hf⟩ := ob2_some hf
      refine k_yX0_putThing X hK hZ hW hS hl.1 none trivial h69 mlRX0_154 ⟨Nat.le_of_ble_eq_true rfl, Nat.le_of_ble_eq_true rfl⟩ ⟨Nat.le_of_ble_eq_true rfl, Nat.le_of_ble_eq_true rfl⟩ (Nat.le_of_ble_eq_true rfl) dX0_useRows_132 (fun H locs hW hS => ?_)
      obtain ⟨rfl, rfl⟩ := sp2 hf
      exact e_i ⟨hx, hb, hr, hlk⟩ hW hS dX0_useRows_135
    · rw [om_s] at hf
      refine k_yX0_inHands X hK hZ hW hS hl.1 w1 h62 mlRX0_95 ⟨Nat.le_of_ble_eq_true rfl, Nat.le_of_ble_eq_true rfl⟩ ⟨Nat.le_of_ble_eq_true rfl, Nat.le_of_ble_eq_true rfl⟩ (Nat.le_of_ble_eq_true rfl) dX0_useRows_117 (fun H locs hW hS => ?_)
      refine lv_aload_n hx hb dX0_useRows_120 rfl (lv_at hl 1 rfl) ?_
      refine lv_iload hx hb dX0_useRows_121 (lv_at hl 4 rfl) ?_
      obtain ⟨r73, h72, hf⟩ := ob1_some hf
      refine k_yX5_kept X hK hZ hW hS hl.1 w1 h72 mlRX0_72 ⟨Nat.le_of_ble_eq_true rfl, Nat.le_of_ble_eq_true rfl⟩ ⟨Nat.le_of_ble_eq_true rfl, Nat.le_of_ble_eq_true rfl⟩ (Nat.le_of_ble_eq_true rfl) dX0_useRows_123 (fun H locs hW hS => ?_)
      refine lv_aload_n hx hb dX0_useRows_126 rfl (lv_at hl 1 rfl) ?_
      refine lv_iload hx hb dX0_useRows_127 (lv_at hl 5 rfl) ?_
      obtain ⟨r75, h74, hf⟩ := ob1_some hf
      refine k_yX5_held X hK hZ hW hS hl.1 w1 h74 mlRX0_89 ⟨Nat.le_of_ble_eq_true rfl, Nat.le_of_ble_eq_true rfl⟩ ⟨Nat.le_of_ble_eq_true rfl, Nat.le_of_ble_eq_true rfl⟩ (Nat.le_of_ble_eq_true rfl) dX0_useRows_129 (fun H locs hW hS => ?_)
      obtain ⟨v76, hf⟩ := gd_some hf
      obtain ⟨r78, M79, h77, hf⟩ := ob2_some hf
      refine k_yX0_putThing X hK hZ hW hS hl.1 (some j64) v76 h77 mlRX0_154 ⟨Nat.le_of_ble_eq_true rfl, Nat.le_of_ble_eq_true rfl⟩ ⟨Nat.le_of_ble_eq_true rfl, Nat.le_of_ble_eq_true rfl⟩ (Nat.le_of_ble_eq_true rfl) dX0_useRows_132 (fun H locs hW hS => ?_)
      obtain ⟨rfl, rfl⟩ := sp2 hf
      exact e_i ⟨hx, hb, hr, hlk⟩ hW hS dX0_useRows_135
  rw [if_neg c61] at hf
  refine lv_tableOut (tgt := 136) hx hb dX0_useRows_1 (by have := lv_neT (a := 16) c1 (by decide); have := lv_neT (a := 17) c12 (by decide); have := lv_neT (a := 18) c27 (by decide); have := lv_neT (a := 19) c46 (by decide); have := lv_neT (a := 20) c61 (by decide); omega) (by decide) ?_
  refine lv_aload_n hx hb dX0_useRows_136 rfl (lv_at hl 0 rfl) ?_
  refine lv_aload_n hx hb dX0_useRows_137 rfl (lv_at hl 0 rfl) ?_
  refine lv_aload_n hx hb dX0_useRows_138 rfl (lv_at hl 1 rfl) ?_
  refine lv_iload_n hx hb dX0_useRows_139 rfl (lv_at hl 3 rfl) ?_
  obtain ⟨r81, h80, hf⟩ := ob1_some hf
  rcases r81 with _ | j82
  · rw [om_n] at hf
    refine k_yX0_inHandn X hK hZ hW hS hl.1 w1 h80 mlRX0_95 ⟨Nat.le_of_ble_eq_true rfl, Nat.le_of_ble_eq_true rfl⟩ ⟨Nat.le_of_ble_eq_true rfl, Nat.le_of_ble_eq_true rfl⟩ (Nat.le_of_ble_eq_true rfl) dX0_useRows_140 (fun H locs hW hS => ?_)
    refine lv_aload_n hx hb dX0_useRows_143 rfl (lv_at hl 0 rfl) ?_
    refine lv_aload_n hx hb dX0_useRows_144 rfl (lv_at hl 1 rfl) ?_
    refine lv_iload hx hb dX0_useRows_145 (lv_at hl 4 rfl) ?_
    obtain ⟨r84, h83, hf⟩ := ob1_some hf
    rcases r84 with _ | j85
    · rw [om_n] at hf
      refine k_yX0_inHandn X hK hZ hW hS hl.1 w1 h83 mlRX0_95 ⟨Nat.le_of_ble_eq_true rfl, Nat.le_of_ble_eq_true rfl⟩ ⟨Nat.le_of_ble_eq_true rfl, Nat.le_of_ble_eq_true rfl⟩ (Nat.le_of_ble_eq_true rfl) dX0_useRows_147 (fun H locs hW hS => ?_)
      refine lv_aload_n hx hb dX0_useRows_150 rfl (lv_at hl 1 rfl) ?_
      refine lv_iload hx hb dX0_useRows_151 (lv_at hl 5 rfl) ?_
      obtain ⟨r87, h86, hf⟩ := ob1_some hf
      refine k_yX5_kept X hK hZ hW hS hl.1 w1 h86 mlRX0_72 ⟨Nat.le_of_ble_eq_true rfl, Nat.le_of_ble_eq_true rfl⟩ ⟨Nat.le_of_ble_eq_true rfl, Nat.le_of_ble_eq_true rfl⟩ (Nat.le_of_ble_eq_true rfl) dX0_useRows_153 (fun H locs hW hS => ?_)
      obtain ⟨r89, M90, h88, hf⟩ := ob2_some hf
      refine k_yX0_copy X hK hZ hW hS hl.1 none trivial none trivial h88 mlRX0_157 ⟨Nat.le_of_ble_eq_true rfl, Nat.le_of_ble_eq_true rfl⟩ ⟨Nat.le_of_ble_eq_true rfl, Nat.le_of_ble_eq_true rfl⟩ (Nat.le_of_ble_eq_true rfl) dX0_useRows_156 (fun H locs hW hS => ?_)
      obtain ⟨rfl, rfl⟩ := sp2 hf
      exact e_i ⟨hx, hb, hr, hlk⟩ hW hS dX0_useRows_159
    · rw [om_s] at hf
      refine k_yX0_inHands X hK hZ hW hS hl.1 w1 h83 mlRX0_95 ⟨Nat.le_of_ble_eq_true rfl, Nat.le_of_ble_eq_true rfl⟩ ⟨Nat.le_of_ble_eq_true rfl, Nat.le_of_ble_eq_true rfl⟩ (Nat.le_of_ble_eq_true rfl) dX0_useRows_147 (fun H locs hW hS => ?_)
      refine lv_aload_n hx hb dX0_useRows_150 rfl (lv_at hl 1 rfl) ?_
      refine lv_iload hx hb dX0_useRows_151 (lv_at hl 5 rfl) ?_
      obtain ⟨r92, h91, hf⟩ := ob1_some hf
      refine k_yX5_kept X hK hZ hW hS hl.1 w1 h91 mlRX0_72 ⟨Nat.le_of_ble_eq_true rfl, Nat.le_of_ble_eq_true rfl⟩ ⟨Nat.le_of_ble_eq_true rfl, Nat.le_of_ble_eq_true rfl⟩ (Nat.le_of_ble_eq_true rfl) dX0_useRows_153 (fun H locs hW hS => ?_)
      obtain ⟨v93, hf⟩ := gd_some hf
      obtain ⟨r95, M96, h94, hf⟩ := ob2_some hf
      refine k_yX0_copy X hK hZ hW hS hl.1 none trivial (some j85) v93 h94 mlRX0_157 ⟨Nat.le_of_ble_eq_true rfl, Nat.le_of_ble_eq_true rfl⟩ ⟨Nat.le_of_ble_eq_true rfl, Nat.le_of_ble_eq_true rfl⟩ (Nat.le_of_ble_eq_true rfl) dX0_useRows_156 (fun H locs hW hS => ?_)
      obtain ⟨rfl, rfl⟩ := sp2 hf
      exact e_i ⟨hx, hb, hr, hlk⟩ hW hS dX0_useRows_159
  · rw [om_s] at hf
    refine k_yX0_inHands X hK hZ hW hS hl.1 w1 h80 mlRX0_95 ⟨Nat.le_of_ble_eq_true rfl, Nat.le_of_ble_eq_true rfl⟩ ⟨Nat.le_of_ble_eq_true rfl, Nat.le_of_ble_eq_true rfl⟩ (Nat.le_of_ble_eq_true rfl) dX0_useRows_140 (fun H locs hW hS => ?_)
    refine lv_aload_n hx hb dX0_useRows_143 rfl (lv_at hl 0 rfl) ?_
    refine lv_aload_n hx hb dX0_useRows_144 rfl (lv_at hl 1 rfl) ?_
    refine lv_iload hx hb dX0_useRows_145 (lv_at hl 4 rfl) ?_
    obtain ⟨r98, h97, hf⟩ := ob1_some hf
    rcases r98 with _ | j99
    · rw [om_n] at hf
      refine k_yX0_inHandn X hK hZ hW hS hl.1 w1 h97 mlRX0_95 ⟨Nat.le_of_ble_eq_true rfl, Nat.le_of_ble_eq_true rfl⟩ ⟨Nat.le_of_ble_eq_true rfl, Nat.le_of_ble_eq_true rfl⟩ (Nat.le_of_ble_eq_true rfl) dX0_useRows_147 (fun H locs hW hS => ?_)
      refine lv_aload_n hx hb dX0_useRows_150 rfl (lv_at hl 1 rfl) ?_
      refine lv_iload hx hb dX0_useRows_151 (lv_at hl 5 rfl) ?_
      obtain ⟨r101, h100, hf⟩ := ob1_some hf
      refine k_yX5_kept X hK hZ hW hS hl.1 w1 h100 mlRX0_72 ⟨Nat.le_of_ble_eq_true rfl, Nat.le_of_ble_eq_true rfl⟩ ⟨Nat.le_of_ble_eq_true rfl, Nat.le_of_ble_eq_true rfl⟩ (Nat.le_of_ble_eq_true rfl) dX0_useRows_153 (fun H locs hW hS => ?_)
      obtain ⟨v102, hf⟩ := gd_some hf
      obtain ⟨r104, M105, h103, hf⟩ := ob2_some hf
      refine k_yX0_copy X hK hZ hW hS hl.1 (some j82) v102 none trivial h103 mlRX0_157 ⟨Nat.le_of_ble_eq_true rfl, Nat.le_of_ble_eq_true rfl⟩ ⟨Nat.le_of_ble_eq_true rfl, Nat.le_of_ble_eq_true rfl⟩ (Nat.le_of_ble_eq_true rfl) dX0_useRows_156 (fun H locs hW hS => ?_)
      obtain ⟨rfl, rfl⟩ := sp2 hf
      exact e_i ⟨hx, hb, hr, hlk⟩ hW hS dX0_useRows_159
    · rw [om_s] at hf
      refine k_yX0_inHands X hK hZ hW hS hl.1 w1 h97 mlRX0_95 ⟨Nat.le_of_ble_eq_true rfl, Nat.le_of_ble_eq_true rfl⟩ ⟨Nat.le_of_ble_eq_true rfl, Nat.le_of_ble_eq_true rfl⟩ (Nat.le_of_ble_eq_true rfl) dX0_useRows_147 (fun H locs hW hS => ?_)
      refine lv_aload_n hx hb dX0_useRows_150 rfl (lv_at hl 1 rfl) ?_
      refine lv_iload hx hb dX0_useRows_151 (lv_at hl 5 rfl) ?_
      obtain ⟨r107, h106, hf⟩ := ob1_some hf
      refine k_yX5_kept X hK hZ hW hS hl.1 w1 h106 mlRX0_72 ⟨Nat.le_of_ble_eq_true rfl, Nat.le_of_ble_eq_true rfl⟩ ⟨Nat.le_of_ble_eq_true rfl, Nat.le_of_ble_eq_true rfl⟩ (Nat.le_of_ble_eq_true rfl) dX0_useRows_153 (fun H locs hW hS => ?_)
      obtain ⟨v108, hf⟩ := gd_some hf
      obtain ⟨v109, hf⟩ := gd_some hf
      obtain ⟨r111, M112, h110, hf⟩ := ob2_some hf
      refine k_yX0_copy X hK hZ hW hS hl.1 (some j82) v108 (some j99) v109 h110 mlRX0_157 ⟨Nat.le_of_ble_eq_true rfl, Nat.le_of_ble_eq_true rfl⟩ ⟨Nat.le_of_ble_eq_true rfl, Nat.le_of_ble_eq_true rfl⟩ (Nat.le_of_ble_eq_true rfl) dX0_useRows_156 (fun H locs hW hS => ?_)
      obtain ⟨rfl, rfl⟩ := sp2 hf
      exact e_i ⟨hx, hb, hr, hlk⟩ hW hS dX0_useRows_159
set_option maxRecDepth 100000 in
set_option maxHeartbeats 4000000 in
theorem k_yX0_useRows {p : Program} {l : Launch} {e : Env} {R : Room} {s : State} {m : MethodId} {args : Array Value} {below : List Frame} {meth : Method} {c : Code} {H : Heap} {locs : List Loc} {cells slots : Nat} {Q : State → Prop} {cc : ByteArray} {pc nL index : Nat} {ret : Option FieldType} {own : String} {ls : Array Slot} {rest : List Value} {E : Lay} {ad : Nat → Nat → Nat} {M N : Mem} (X : CX p s m args meth c cc nL ret own) (hK : KK E s) (hZ : ZZ E s) (hW : WD E ad (M, N) H) (hS : va_S (ow E) s.heap H locs) (hsz : ls.size = nL) {i1 : Nat} {x2 : Int32} {x3 : Int32} {x4 : Int32} {x5 : Int32} (w1 : i1 < 6) {r : Int32} {Mr : Mem} (hf : f_yX0_useRows M i1 x2 x3 x4 x5 = some (r, Mr)) (hn : Cond.methodLink own index yX0_useRows ∈ TB) (hR : 3 + 1 ≤ R.frames ∧ 8 + (6 + 11) + 70 ≤ R.locals) (hC : cells ≤ R.cells ∧ slots ≤ R.slots) (h8 : (rest.map fun v => v.category).sum ≤ 8) (hdg : decode cc pc = .ok (.invokevirtual index, 3)) (kk : ∀ (H1 : Heap) (locs1 : List Loc), WD E ad (Mr, N) H1 → va_S (ow E) s.heap H1 locs1 → W p l e R s m args below meth c H1 locs1 cells slots Q (F0 m (pc + 3) ls (.int r :: rest))) : W p l e R s m args below meth c H locs cells slots Q (F0 m pc ls (.int x5 :: .int x4 :: .int x3 :: .int x2 :: .ref (ad 6 i1) :: .ref (ad 3 0) :: rest)) := by
  refine va_calli (va_runV (C := RX0) (As := [.ref (ad 6 i1), .int x2, .int x3, .int x4, .int x5]) (rest := rest) ⟨X.1, X.2.1, X.2.2.1, X.2.2.2.1, X.2.2.2.2.1⟩ (c_yX0_useRows l E ad M N i1 x2 x3 x4 x5 w1 r Mr hf) (cwV 5 X.2.2.2.2.1 (gV hn im_yX0_useRows se_yX0_useRows iniRX0 cd_yX0_useRows) rfl rfl rfl (by decide +kernel) hR) ⟨fun a U g mk q => ⟨q.1, q.2.calling⟩, va_recv hK.1 (hW.at (c := 3) (i := 0) Nat.zero_lt_one rfl) (ci := 0) (q0 := 0) rfl rfl, fun U hU hw => ⟨rfl, PB.at hW hK hZ hS hU hw⟩⟩ rfl rfl hsz rfl (lv_room h8) hdg hC) hS (fun _ _ h => h) (fun _ h => h) (fun r' u t H1 locs1 ht hvm hw hB hz1 hk1 hS1 => ?_)
  obtain ⟨rfl, rfl⟩ := hw
  rw [ht] at hB
  exact kk H1 locs1 hB hS1
def f_yX0_useMonitors (M : Mem) (i1 : Nat) (x2 : Int32) (x3 : Int32) (x4 : Int32) : Option (Int32 × Mem) := ob1 (f_yX0_inHand M i1 x3) (fun r2 => om r2 ((some (1, M))) (fun j3 => gd (j3 < (M 60 0 1).toNatClampNeg) ((if (M 8 j3 2) = (nI i1) then (if x2 = 22 then ob2 (f_yX0_enter M i1 j3 1) (fun r29 M30 => (some (r29, M30))) else (if x2 = 23 then ob2 (f_yX0_leave M j3) (fun r15 M16 => (some (r15, M16))) else (if x2 = 24 then ob1 (f_yX5_kept M i1 x4) (fun r19 => ob2 (f_yX0_waitOn M i1 j3 r19) (fun r21 M22 => (some (r21, M22)))) else (if x2 = 25 then ob1 (f_yX1_tellNext M j3) (fun M25 => (some (0, M25))) else ob1 (f_yX1_tellEach M j3) (fun M27 => (some (0, M27))))))) else (if x2 = 22 then ob2 (f_yX0_enter M i1 j3 0) (fun r9 M10 => (some (r9, M10))) else (some (8, M)))))))
set_option maxRecDepth 100000 in
set_option maxHeartbeats 4000000 in
theorem c_yX0_useMonitors (l : Launch) (E : Lay) (ad : Nat → Nat → Nat) (M N : Mem) (i1 : Nat) (x2 : Int32) (x3 : Int32) (x4 : Int32) (w1 : i1 < 6) (r : Int32) (Mr : Mem) (hf : f_yX0_useMonitors M i1 x2 x3 x4 = some (r, Mr)) : Met l yX0_useMonitors (Cond.code yX0_useMonitors cX0_useMonitors 7 (some .int) :: TB) (rmm 3 73) (va_Pc [.ref (ad 3 0), .ref (ad 6 i1), .int x2, .int x3, .int x4] (PB E ad (M, N))) (Qi E ad r (Mr, N)) 0 0 (ow E) := by
  refine Met.ofW (cc := cX0_useMonitors) (maxL := 7) (ret := (some .int)) (by decide) rfl ?_
  intro p e s m args below meth c s₁ B hml hv
  obtain ⟨rfl, hW, hK, hZ⟩ := hv
  have hT : ∀ w ∈ TB, w.before _ s = true := fun w h => atoms_spec (ws := (Cond.code yX0_useMonitors cX0_useMonitors 7 (some .int) :: TB)) B.pre w (List.mem_cons_of_mem _ h)
  have X : CX p s m _ meth c cX0_useMonitors 7 (some .int) RX0 := ⟨B.exec, B.bytes, hml, findClass_of_methodNamed B.named, hT, B.returns, B.notSynchronized⟩
  obtain ⟨hx, hb, hml, hown, hT, hr, hlk⟩ := id X
  have hS : va_S (ow E) s.heap s.heap [] := va_S.rf
  have hl := lv_entry ([.ref (ad 3 0), .ref (ad 6 i1), .int x2, .int x3, .int x4]) (n := 7) (Nat.le_of_ble_eq_true rfl)
  rw [lg_entry_eq]
  generalize (lg_sl ([.ref (ad 3 0), .ref (ad 6 i1), .int x2, .int x3, .int x4]) ++ List.replicate (7 - (lg_sl ([.ref (ad 3 0), .ref (ad 6 i1), .int x2, .int x3, .int x4])).length) Slot.unset).toArray = ls at hl ⊢
  have hl : lv_has ls 7 [(0, .ref (ad 3 0)), (1, .ref (ad 6 i1)), (2, .int x2), (3, .int x3), (4, .int x4)] := hl
  unfold f_yX0_useMonitors at hf
  refine lv_aload_n hx hb dX0_useMonitors_0 rfl (lv_at hl 0 rfl) ?_
  refine lv_aload_n hx hb dX0_useMonitors_1 rfl (lv_at hl 1 rfl) ?_
  refine lv_iload_n hx hb dX0_useMonitors_2 rfl (lv_at hl 3 rfl) ?_
  obtain ⟨r2, h1, hf⟩ := ob1_some hf
  rcases r2 with _ | j3
  · rw [om_n] at hf
    refine k_yX0_inHandn X hK hZ hW hS hl.1 w1 h1 mlRX0_95 ⟨Nat.le_of_ble_eq_true rfl, Nat.le_of_ble_eq_true rfl⟩ ⟨Nat.le_of_ble_eq_true rfl, Nat.le_of_ble_eq_true rfl⟩ (Nat.le_of_ble_eq_true rfl) dX0_useMonitors_3 (fun H locs hW hS => ?_)
    refine lv_astoreN (lv' := [(5, .null), (0, .ref (ad 3 0)), (1, .ref (ad 6 i1)), (2, .int x2), (3, .int x3), (4, .int x4)]) hx hb dX0_useMonitors_6 hl (by decide) rfl (fun ls hl => ?_)
    refine lv_aloadN hx hb dX0_useMonitors_8 (lv_at hl 0 rfl) ?_
    refine lv_ifnonnullN hx hb dX0_useMonitors_10 ?_
    refine lv_iconst (v := 1) hx hb dX0_useMonitors_13 (by decide) ?_
    obtain ⟨rfl, rfl⟩ := sp2 hf
    exact e_i ⟨hx, hb, hr, hlk⟩ hW hS dX0_useMonitors_14
  · rw [om_s] at hf
    refine k_yX0_inHands X hK hZ hW hS hl.1 w1 h1 mlRX0_95 ⟨Nat.le_of_ble_eq_true rfl, Nat.le_of_ble_eq_true rfl⟩ ⟨Nat.le_of_ble_eq_true rfl, Nat.le_of_ble_eq_true rfl⟩ (Nat.le_of_ble_eq_true rfl) dX0_useMonitors_3 (fun H locs hW hS => ?_)
    refine lv_astore (lv' := [(5, .ref (ad 8 j3)), (0, .ref (ad 3 0)), (1, .ref (ad 6 i1)), (2, .int x2), (3, .int x3), (4, .int x4)]) hx hb dX0_useMonitors_6 hl (by decide) rfl (fun ls hl => ?_)
    refine lv_aload hx hb dX0_useMonitors_8 (lv_at hl 0 rfl) ?_
    refine lv_ifnonnull (tgt := 15) hx hb dX0_useMonitors_10 (by decide) ?_
    refine lv_aload hx hb dX0_useMonitors_15 (lv_at hl 0 rfl) ?_
    obtain ⟨v4, hf⟩ := gd_some hf
    refine g_7_4 X hK hW v4 flRX0_189 dX0_useMonitors_17 ?_
    refine lv_aload_n hx hb dX0_useMonitors_20 rfl (lv_at hl 2 rfl) ?_
    refine g_5_0 X hK hW w1 flRX0_192 dX0_useMonitors_21 ?_
    refine lv_icmp_ne (tgt := 31) hx hb dX0_useMonitors_24 (by decide) (fun c5 => ?_) (fun c5 => ?_)
    · rw [if_neg c5] at hf
      refine lv_iconst (v := 0) hx hb dX0_useMonitors_31 (by decide) ?_
      refine lv_istore (lv' := [(6, .int 0), (5, .ref (ad 8 j3)), (0, .ref (ad 3 0)), (1, .ref (ad 6 i1)), (2, .int x2), (3, .int x3), (4, .int x4)]) hx hb dX0_useMonitors_32 hl (by decide) rfl (fun ls hl => ?_)
      refine lv_iload_n hx hb dX0_useMonitors_34 rfl (lv_at hl 4 rfl) ?_
      refine lv_bipush (v := 22) hx hb dX0_useMonitors_35 (by decide) ?_
      refine lv_icmp_ne (tgt := 50) hx hb dX0_useMonitors_37 (by decide) (fun c6 => ?_) (fun c6 => ?_)
      · rw [if_neg c6] at hf
        refine lv_iload hx hb dX0_useMonitors_50 (lv_at hl 0 rfl) ?_
        refine lv_if_ne (tgt := 58) hx hb dX0_useMonitors_52 (by decide) (fun c7 => ?_) (fun c7 => ?_)
        · exact absurd c7 (by decide)
        · skip
          refine lv_bipush (v := 8) hx hb dX0_useMonitors_55 (by decide) ?_
          obtain ⟨rfl, rfl⟩ := sp2 hf
          exact e_i ⟨hx, hb, hr, hlk⟩ hW hS dX0_useMonitors_57
      · rw [if_pos c6] at hf
        refine lv_aload_n hx hb dX0_useMonitors_40 rfl (lv_at hl 2 rfl) ?_
        refine lv_aload_n hx hb dX0_useMonitors_41 rfl (lv_at hl 3 rfl) ?_
        refine lv_aload hx hb dX0_useMonitors_42 (lv_at hl 1 rfl) ?_
        refine lv_iload hx hb dX0_useMonitors_44 (lv_at hl 0 rfl) ?_
        obtain ⟨r9, M10, h8, hf⟩ := ob2_some hf
        refine k_yX0_enter X hK hZ hW hS hl.1 w1 v4 h8 mlRX0_195 ⟨Nat.le_of_ble_eq_true rfl, Nat.le_of_ble_eq_true rfl⟩ ⟨Nat.le_of_ble_eq_true rfl, Nat.le_of_ble_eq_true rfl⟩ (Nat.le_of_ble_eq_true rfl) dX0_useMonitors_46 (fun H locs hW hS => ?_)
        obtain ⟨rfl, rfl⟩ := sp2 hf
        exact e_i ⟨hx, hb, hr, hlk⟩ hW hS dX0_useMonitors_49
    · rw [if_pos c5] at hf
      refine lv_iconst (v := 1) hx hb dX0_useMonitors_27 (by decide) ?_
      refine lv_goto (tgt := 32) hx hb dX0_useMonitors_28 (by decide) ?_
      refine lv_istore (lv' := [(6, .int 1), (5, .ref (ad 8 j3)), (0, .ref (ad 3 0)), (1, .ref (ad 6 i1)), (2, .int x2), (3, .int x3), (4, .int x4)]) hx hb dX0_useMonitors_32 hl (by decide) rfl (fun ls hl => ?_)
      refine lv_iload_n hx hb dX0_useMonitors_34 rfl (lv_at hl 4 rfl) ?_
      refine lv_bipush (v := 22) hx hb dX0_useMonitors_35 (by decide) ?_
      refine lv_icmp_ne (tgt := 50) hx hb dX0_useMonitors_37 (by decide) (fun c11 => ?_) (fun c11 => ?_)
      · rw [if_neg c11] at hf
        refine lv_iload hx hb dX0_useMonitors_50 (lv_at hl 0 rfl) ?_
        refine lv_if_ne (tgt := 58) hx hb dX0_useMonitors_52 (by decide) (fun c12 => ?_) (fun c12 => ?_)
        · skip
          refine lv_iload_n hx hb dX0_useMonitors_58 rfl (lv_at hl 4 rfl) ?_
          by_cases c13 : x2 = 23
          · rw [if_pos c13] at hf
            refine lv_tableIn (tgt := 84) hx hb dX0_useMonitors_59 (by rw [c13]; decide) (by rw [c13]; decide) (by rw [c13]; rfl) (by decide) ?_
            refine lv_aload_n hx hb dX0_useMonitors_84 rfl (lv_at hl 2 rfl) ?_
            refine lv_aload hx hb dX0_useMonitors_85 (lv_at hl 1 rfl) ?_
            obtain ⟨r15, M16, h14, hf⟩ := ob2_some hf
            refine k_yX0_leave X hK hZ hW hS hl.1 v4 h14 mlRX0_199 ⟨Nat.le_of_ble_eq_true rfl, Nat.le_of_ble_eq_true rfl⟩ ⟨Nat.le_of_ble_eq_true rfl, Nat.le_of_ble_eq_true rfl⟩ (Nat.le_of_ble_eq_true rfl) dX0_useMonitors_87 (fun H locs hW hS => ?_)
            obtain ⟨rfl, rfl⟩ := sp2 hf
            exact e_i ⟨hx, hb, hr, hlk⟩ hW hS dX0_useMonitors_90
          rw [if_neg c13] at hf
          by_cases c17 : x2 = 24
          · rw [if_pos c17] at hf
            refine lv_tableIn (tgt := 91) hx hb dX0_useMonitors_59 (by rw [c17]; decide) (by rw [c17]; decide) (by rw [c17]; rfl) (by decide) ?_
            refine lv_aload_n hx hb dX0_useMonitors_91 rfl (lv_at hl 2 rfl) ?_
            refine lv_aload_n hx hb dX0_useMonitors_92 rfl (lv_at hl 3 rfl) ?_
            refine lv_aload hx hb dX0_useMonitors_93 (lv_at hl 1 rfl) ?_
            refine lv_aload_n hx hb dX0_useMonitors_95 rfl (lv_at hl 3 rfl) ?_
            refine lv_iload hx hb dX0_useMonitors_96 (lv_at hl 6 rfl) ?_
            obtain ⟨r19, h18, hf⟩ := ob1_some hf
            refine k_yX5_kept X hK hZ hW hS hl.1 w1 h18 mlRX0_72 ⟨Nat.le_of_ble_eq_true rfl, Nat.le_of_ble_eq_true rfl⟩ ⟨Nat.le_of_ble_eq_true rfl, Nat.le_of_ble_eq_true rfl⟩ (Nat.le_of_ble_eq_true rfl) dX0_useMonitors_98 (fun H locs hW hS => ?_)
            obtain ⟨r21, M22, h20, hf⟩ := ob2_some hf
            refine k_yX0_waitOn X hK hZ hW hS hl.1 w1 v4 h20 mlRX0_202 ⟨Nat.le_of_ble_eq_true rfl, Nat.le_of_ble_eq_true rfl⟩ ⟨Nat.le_of_ble_eq_true rfl, Nat.le_of_ble_eq_true rfl⟩ (Nat.le_of_ble_eq_true rfl) dX0_useMonitors_101 (fun H locs hW hS => ?_)
            obtain ⟨rfl, rfl⟩ := sp2 hf
            exact e_i ⟨hx, hb, hr, hlk⟩ hW hS dX0_useMonitors_104
          rw [if_neg c17] at hf
          by_cases c23 : x2 = 25
          · rw [if_pos c23] at hf
            refine lv_tableIn (tgt := 105) hx hb dX0_useMonitors_59 (by rw [c23]; decide) (by rw [c23]; decide) (by rw [c23]; rfl) (by decide) ?_
            refine lv_aload_n hx hb dX0_useMonitors_105 rfl (lv_at hl 2 rfl) ?_
            refine g_0_1 X hK hW flRX0_15 dX0_useMonitors_106 ?_
            refine lv_aload hx hb dX0_useMonitors_109 (lv_at hl 1 rfl) ?_
            obtain ⟨M25, h24, hf⟩ := ob1_some hf
            refine k_yX1_tellNext X hK hZ hW hS hl.1 v4 h24 mlRX0_206 ⟨Nat.le_of_ble_eq_true rfl, Nat.le_of_ble_eq_true rfl⟩ ⟨Nat.le_of_ble_eq_true rfl, Nat.le_of_ble_eq_true rfl⟩ (Nat.le_of_ble_eq_true rfl) dX0_useMonitors_111 (fun H locs hW hS => ?_)
            refine lv_iconst (v := 0) hx hb dX0_useMonitors_114 (by decide) ?_
            obtain ⟨rfl, rfl⟩ := sp2 hf
            exact e_i ⟨hx, hb, hr, hlk⟩ hW hS dX0_useMonitors_115
          rw [if_neg c23] at hf
          refine lv_tableOut (tgt := 116) hx hb dX0_useMonitors_59 (by have := lv_neT (a := 23) c13 (by decide); have := lv_neT (a := 24) c17 (by decide); have := lv_neT (a := 25) c23 (by decide); omega) (by decide) ?_
          refine lv_aload_n hx hb dX0_useMonitors_116 rfl (lv_at hl 2 rfl) ?_
          refine g_0_1 X hK hW flRX0_15 dX0_useMonitors_117 ?_
          refine lv_aload hx hb dX0_useMonitors_120 (lv_at hl 1 rfl) ?_
          obtain ⟨M27, h26, hf⟩ := ob1_some hf
          refine k_yX1_tellEach X hK hZ hW hS hl.1 v4 h26 mlRX0_212 ⟨Nat.le_of_ble_eq_true rfl, Nat.le_of_ble_eq_true rfl⟩ ⟨Nat.le_of_ble_eq_true rfl, Nat.le_of_ble_eq_true rfl⟩ (Nat.le_of_ble_eq_true rfl) dX0_useMonitors_122 (fun H locs hW hS => ?_)
          refine lv_iconst (v := 0) hx hb dX0_useMonitors_125 (by decide) ?_
          obtain ⟨rfl, rfl⟩ := sp2 hf
          exact e_i ⟨hx, hb, hr, hlk⟩ hW hS dX0_useMonitors_126
        · exact absurd c12 (by decide)
      · rw [if_pos c11] at hf
        refine lv_aload_n hx hb dX0_useMonitors_40 rfl (lv_at hl 2 rfl) ?_
        refine lv_aload_n hx hb dX0_useMonitors_41 rfl (lv_at hl 3 rfl) ?_
        refine lv_aload hx hb dX0_useMonitors_42 (lv_at hl 1 rfl) ?_
        refine lv_iload hx hb dX0_useMonitors_44 (lv_at hl 0 rfl) ?_
        obtain ⟨r29, M30, h28, hf⟩ := ob2_some hf
        refine k_yX0_enter X hK hZ hW hS hl.1 w1 v4 h28 mlRX0_195 ⟨Nat.le_of_ble_eq_true rfl, Nat.le_of_ble_eq_true rfl⟩ ⟨Nat.le_of_ble_eq_true rfl, Nat.le_of_ble_eq_true rfl⟩ (Nat.le_of_ble_eq_true rfl) dX0_useMonitors_46 (fun H locs hW hS => ?_)
        obtain ⟨rfl, rfl⟩ := sp2 hf
        exact e_i ⟨hx, hb, hr, hlk⟩ hW hS dX0_useMonitors_49
set_option maxRecDepth 100000 in
set_option maxHeartbeats 4000000 in
theorem k_yX0_useMonitors {p : Program} {l : Launch} {e : Env} {R : Room} {s : State} {m : MethodId} {args : Array Value} {below : List Frame} {meth : Method} {c : Code} {H : Heap} {locs : List Loc} {cells slots : Nat} {Q : State → Prop} {cc : ByteArray} {pc nL index : Nat} {ret : Option FieldType} {own : String} {ls : Array Slot} {rest : List Value} {E : Lay} {ad : Nat → Nat → Nat} {M N : Mem} (X : CX p s m args meth c cc nL ret own) (hK : KK E s) (hZ : ZZ E s) (hW : WD E ad (M, N) H) (hS : va_S (ow E) s.heap H locs) (hsz : ls.size = nL) {i1 : Nat} {x2 : Int32} {x3 : Int32} {x4 : Int32} (w1 : i1 < 6) {r : Int32} {Mr : Mem} (hf : f_yX0_useMonitors M i1 x2 x3 x4 = some (r, Mr)) (hn : Cond.methodLink own index yX0_useMonitors ∈ TB) (hR : 3 + 1 ≤ R.frames ∧ 8 + (7 + 11) + 73 ≤ R.locals) (hC : cells ≤ R.cells ∧ slots ≤ R.slots) (h8 : (rest.map fun v => v.category).sum ≤ 8) (hdg : decode cc pc = .ok (.invokevirtual index, 3)) (kk : ∀ (H1 : Heap) (locs1 : List Loc), WD E ad (Mr, N) H1 → va_S (ow E) s.heap H1 locs1 → W p l e R s m args below meth c H1 locs1 cells slots Q (F0 m (pc + 3) ls (.int r :: rest))) : W p l e R s m args below meth c H locs cells slots Q (F0 m pc ls (.int x4 :: .int x3 :: .int x2 :: .ref (ad 6 i1) :: .ref (ad 3 0) :: rest)) := by
  refine va_calli (va_runV (C := RX0) (As := [.ref (ad 6 i1), .int x2, .int x3, .int x4]) (rest := rest) ⟨X.1, X.2.1, X.2.2.1, X.2.2.2.1, X.2.2.2.2.1⟩ (c_yX0_useMonitors l E ad M N i1 x2 x3 x4 w1 r Mr hf) (cwV 4 X.2.2.2.2.1 (gV hn im_yX0_useMonitors se_yX0_useMonitors iniRX0 cd_yX0_useMonitors) rfl rfl rfl (by decide +kernel) hR) ⟨fun a U g mk q => ⟨q.1, q.2.calling⟩, va_recv hK.1 (hW.at (c := 3) (i := 0) Nat.zero_lt_one rfl) (ci := 0) (q0 := 0) rfl rfl, fun U hU hw => ⟨rfl, PB.at hW hK hZ hS hU hw⟩⟩ rfl rfl hsz rfl (lv_room h8) hdg hC) hS (fun _ _ h => h) (fun _ h => h) (fun r' u t H1 locs1 ht hvm hw hB hz1 hk1 hS1 => ?_)
  obtain ⟨rfl, rfl⟩ := hw
  rw [ht] at hB
  exact kk H1 locs1 hB hS1
def f_yX0_useThreads (M : Mem) (i1 : Nat) (x2 : Int32) (x3 : Int32) : Option (Int32 × Mem) := ob1 (f_yX5_kept M i1 x3) (fun r2 => (if x2 = 27 then ob2 (f_yX0_sleep M i1 r2) (fun r21 M22 => (some (r21, M22))) else ob1 (f_yX1_at M r2) (fun r5 => om r5 ((some (2, M))) (fun j6 => (if x2 = 28 then gd (j6 < 6) (ob2 (f_yX0_join M i1 j6) (fun r10 M11 => (some (r10, M11)))) else (if x2 = 29 then gd (j6 < 6) (ob2 (f_yX0_startNew M j6) (fun r15 M16 => (some (r15, M16)))) else gd (j6 < 6) (ob1 (f_yX1_interrupt M j6) (fun M19 => (some (0, M19))))))))))
set_option maxRecDepth 100000 in
set_option maxHeartbeats 4000000 in
theorem c_yX0_useThreads (l : Launch) (E : Lay) (ad : Nat → Nat → Nat) (M N : Mem) (i1 : Nat) (x2 : Int32) (x3 : Int32) (w1 : i1 < 6) (r : Int32) (Mr : Mem) (hf : f_yX0_useThreads M i1 x2 x3 = some (r, Mr)) : Met l yX0_useThreads (Cond.code yX0_useThreads cX0_useThreads 6 (some .int) :: TB) (rmm 3 67) (va_Pc [.ref (ad 3 0), .ref (ad 6 i1), .int x2, .int x3] (PB E ad (M, N))) (Qi E ad r (Mr, N)) 0 0 (ow E) := by
  refine Met.ofW (cc := cX0_useThreads) (maxL := 6) (ret := (some .int)) (by decide) rfl ?_
  intro p e s m args below meth c s₁ B hml hv
  obtain ⟨rfl, hW, hK, hZ⟩ := hv
  have hT : ∀ w ∈ TB, w.before _ s = true := fun w h => atoms_spec (ws := (Cond.code yX0_useThreads cX0_useThreads 6 (some .int) :: TB)) B.pre w (List.mem_cons_of_mem _ h)
  have X : CX p s m _ meth c cX0_useThreads 6 (some .int) RX0 := ⟨B.exec, B.bytes, hml, findClass_of_methodNamed B.named, hT, B.returns, B.notSynchronized⟩
  obtain ⟨hx, hb, hml, hown, hT, hr, hlk⟩ := id X
  have hS : va_S (ow E) s.heap s.heap [] := va_S.rf
  have hl := lv_entry ([.ref (ad 3 0), .ref (ad 6 i1), .int x2, .int x3]) (n := 6) (Nat.le_of_ble_eq_true rfl)
  rw [lg_entry_eq]
  generalize (lg_sl ([.ref (ad 3 0), .ref (ad 6 i1), .int x2, .int x3]) ++ List.replicate (6 - (lg_sl ([.ref (ad 3 0), .ref (ad 6 i1), .int x2, .int x3])).length) Slot.unset).toArray = ls at hl ⊢
  have hl : lv_has ls 6 [(0, .ref (ad 3 0)), (1, .ref (ad 6 i1)), (2, .int x2), (3, .int x3)] := hl
  unfold f_yX0_useThreads at hf
  refine lv_aload_n hx hb dX0_useThreads_0 rfl (lv_at hl 1 rfl) ?_
  refine lv_iload_n hx hb dX0_useThreads_1 rfl (lv_at hl 3 rfl) ?_
  obtain ⟨r2, h1, hf⟩ := ob1_some hf
  refine k_yX5_kept X hK hZ hW hS hl.1 w1 h1 mlRX0_72 ⟨Nat.le_of_ble_eq_true rfl, Nat.le_of_ble_eq_true rfl⟩ ⟨Nat.le_of_ble_eq_true rfl, Nat.le_of_ble_eq_true rfl⟩ (Nat.le_of_ble_eq_true rfl) dX0_useThreads_2 (fun H locs hW hS => ?_)
  refine lv_istore (lv' := [(4, .int r2), (0, .ref (ad 3 0)), (1, .ref (ad 6 i1)), (2, .int x2), (3, .int x3)]) hx hb dX0_useThreads_5 hl (by decide) rfl (fun ls hl => ?_)
  refine lv_iload_n hx hb dX0_useThreads_7 rfl (lv_at hl 3 rfl) ?_
  refine lv_bipush (v := 27) hx hb dX0_useThreads_8 (by decide) ?_
  refine lv_icmp_ne (tgt := 21) hx hb dX0_useThreads_10 (by decide) (fun c3 => ?_) (fun c3 => ?_)
  · rw [if_neg c3] at hf
    refine lv_aload_n hx hb dX0_useThreads_21 rfl (lv_at hl 1 rfl) ?_
    refine g_0_1 X hK hW flRX0_15 dX0_useThreads_22 ?_
    refine lv_iload hx hb dX0_useThreads_25 (lv_at hl 0 rfl) ?_
    obtain ⟨r5, h4, hf⟩ := ob1_some hf
    rcases r5 with _ | j6
    · rw [om_n] at hf
      refine k_yX1_atn X hK hZ hW hS hl.1 h4 mlRX0_238 ⟨Nat.le_of_ble_eq_true rfl, Nat.le_of_ble_eq_true rfl⟩ ⟨Nat.le_of_ble_eq_true rfl, Nat.le_of_ble_eq_true rfl⟩ (Nat.le_of_ble_eq_true rfl) dX0_useThreads_27 (fun H locs hW hS => ?_)
      refine lv_astoreN (lv' := [(5, .null), (4, .int r2), (0, .ref (ad 3 0)), (1, .ref (ad 6 i1)), (2, .int x2), (3, .int x3)]) hx hb dX0_useThreads_30 hl (by decide) rfl (fun ls hl => ?_)
      refine lv_aloadN hx hb dX0_useThreads_32 (lv_at hl 0 rfl) ?_
      refine lv_ifnonnullN hx hb dX0_useThreads_34 ?_
      refine lv_iconst (v := 2) hx hb dX0_useThreads_37 (by decide) ?_
      obtain ⟨rfl, rfl⟩ := sp2 hf
      exact e_i ⟨hx, hb, hr, hlk⟩ hW hS dX0_useThreads_38
    · rw [om_s] at hf
      refine k_yX1_ats X hK hZ hW hS hl.1 h4 mlRX0_238 ⟨Nat.le_of_ble_eq_true rfl, Nat.le_of_ble_eq_true rfl⟩ ⟨Nat.le_of_ble_eq_true rfl, Nat.le_of_ble_eq_true rfl⟩ (Nat.le_of_ble_eq_true rfl) dX0_useThreads_27 (fun H locs hW hS => ?_)
      refine lv_astore (lv' := [(5, .ref (ad 6 j6)), (4, .int r2), (0, .ref (ad 3 0)), (1, .ref (ad 6 i1)), (2, .int x2), (3, .int x3)]) hx hb dX0_useThreads_30 hl (by decide) rfl (fun ls hl => ?_)
      refine lv_aload hx hb dX0_useThreads_32 (lv_at hl 0 rfl) ?_
      refine lv_ifnonnull (tgt := 39) hx hb dX0_useThreads_34 (by decide) ?_
      refine lv_iload_n hx hb dX0_useThreads_39 rfl (lv_at hl 4 rfl) ?_
      by_cases c7 : x2 = 28
      · rw [if_pos c7] at hf
        refine lv_lookup (tgt := 68) (off := 28) hx hb dX0_useThreads_40 (by decide) (by rw [c7] <;> rfl) (by decide) ?_
        refine lv_aload_n hx hb dX0_useThreads_68 rfl (lv_at hl 2 rfl) ?_
        refine lv_aload_n hx hb dX0_useThreads_69 rfl (lv_at hl 3 rfl) ?_
        refine lv_aload hx hb dX0_useThreads_70 (lv_at hl 0 rfl) ?_
        obtain ⟨v8, hf⟩ := gd_some hf
        obtain ⟨r10, M11, h9, hf⟩ := ob2_some hf
        refine k_yX0_join X hK hZ hW hS hl.1 w1 v8 h9 mlRX0_241 ⟨Nat.le_of_ble_eq_true rfl, Nat.le_of_ble_eq_true rfl⟩ ⟨Nat.le_of_ble_eq_true rfl, Nat.le_of_ble_eq_true rfl⟩ (Nat.le_of_ble_eq_true rfl) dX0_useThreads_72 (fun H locs hW hS => ?_)
        obtain ⟨rfl, rfl⟩ := sp2 hf
        exact e_i ⟨hx, hb, hr, hlk⟩ hW hS dX0_useThreads_75
      rw [if_neg c7] at hf
      by_cases c12 : x2 = 29
      · rw [if_pos c12] at hf
        refine lv_lookup (tgt := 76) (off := 36) hx hb dX0_useThreads_40 (by decide) (by rw [c12] <;> rfl) (by decide) ?_
        refine lv_aload_n hx hb dX0_useThreads_76 rfl (lv_at hl 2 rfl) ?_
        refine lv_aload hx hb dX0_useThreads_77 (lv_at hl 0 rfl) ?_
        obtain ⟨v13, hf⟩ := gd_some hf
        obtain ⟨r15, M16, h14, hf⟩ := ob2_some hf
        refine k_yX0_startNew X hK hZ hW hS hl.1 v13 h14 mlRX0_245 ⟨Nat.le_of_ble_eq_true rfl, Nat.le_of_ble_eq_true rfl⟩ ⟨Nat.le_of_ble_eq_true rfl, Nat.le_of_ble_eq_true rfl⟩ (Nat.le_of_ble_eq_true rfl) dX0_useThreads_79 (fun H locs hW hS => ?_)
        obtain ⟨rfl, rfl⟩ := sp2 hf
        exact e_i ⟨hx, hb, hr, hlk⟩ hW hS dX0_useThreads_82
      rw [if_neg c12] at hf
      refine lv_lookup (tgt := 83) (off := 43) hx hb dX0_useThreads_40 (by decide) (show Op.lookupswitch.offset [(28, 28), (29, 36)] 43 (x2).toInt = 43 from by rw [lv_osw (a := 28) c7 (by decide), lv_osw (a := 29) c12 (by decide)] <;> rfl) (by decide) ?_
      refine lv_aload_n hx hb dX0_useThreads_83 rfl (lv_at hl 2 rfl) ?_
      refine g_0_1 X hK hW flRX0_15 dX0_useThreads_84 ?_
      refine lv_aload hx hb dX0_useThreads_87 (lv_at hl 0 rfl) ?_
      obtain ⟨v17, hf⟩ := gd_some hf
      obtain ⟨M19, h18, hf⟩ := ob1_some hf
      refine k_yX1_interrupt X hK hZ hW hS hl.1 v17 h18 mlRX0_249 ⟨Nat.le_of_ble_eq_true rfl, Nat.le_of_ble_eq_true rfl⟩ ⟨Nat.le_of_ble_eq_true rfl, Nat.le_of_ble_eq_true rfl⟩ (Nat.le_of_ble_eq_true rfl) dX0_useThreads_89 (fun H locs hW hS => ?_)
      refine lv_iconst (v := 0) hx hb dX0_useThreads_92 (by decide) ?_
      obtain ⟨rfl, rfl⟩ := sp2 hf
      exact e_i ⟨hx, hb, hr, hlk⟩ hW hS dX0_useThreads_93
  · rw [if_pos c3] at hf
    refine lv_aload_n hx hb dX0_useThreads_13 rfl (lv_at hl 1 rfl) ?_
    refine lv_aload_n hx hb dX0_useThreads_14 rfl (lv_at hl 2 rfl) ?_
    refine lv_iload hx hb dX0_useThreads_15 (lv_at hl 0 rfl) ?_
    obtain ⟨r21, M22, h20, hf⟩ := ob2_some hf
    refine k_yX0_sleep X hK hZ hW hS hl.1 w1 h20 mlRX0_234 ⟨Nat.le_of_ble_eq_true rfl, Nat.le_of_ble_eq_true rfl⟩ ⟨Nat.le_of_ble_eq_true rfl, Nat.le_of_ble_eq_true rfl⟩ (Nat.le_of_ble_eq_true rfl) dX0_useThreads_17 (fun H locs hW hS => ?_)
    obtain ⟨rfl, rfl⟩ := sp2 hf
    exact e_i ⟨hx, hb, hr, hlk⟩ hW hS dX0_useThreads_20
set_option maxRecDepth 100000 in
set_option maxHeartbeats 4000000 in
theorem k_yX0_useThreads {p : Program} {l : Launch} {e : Env} {R : Room} {s : State} {m : MethodId} {args : Array Value} {below : List Frame} {meth : Method} {c : Code} {H : Heap} {locs : List Loc} {cells slots : Nat} {Q : State → Prop} {cc : ByteArray} {pc nL index : Nat} {ret : Option FieldType} {own : String} {ls : Array Slot} {rest : List Value} {E : Lay} {ad : Nat → Nat → Nat} {M N : Mem} (X : CX p s m args meth c cc nL ret own) (hK : KK E s) (hZ : ZZ E s) (hW : WD E ad (M, N) H) (hS : va_S (ow E) s.heap H locs) (hsz : ls.size = nL) {i1 : Nat} {x2 : Int32} {x3 : Int32} (w1 : i1 < 6) {r : Int32} {Mr : Mem} (hf : f_yX0_useThreads M i1 x2 x3 = some (r, Mr)) (hn : Cond.methodLink own index yX0_useThreads ∈ TB) (hR : 3 + 1 ≤ R.frames ∧ 8 + (6 + 11) + 67 ≤ R.locals) (hC : cells ≤ R.cells ∧ slots ≤ R.slots) (h8 : (rest.map fun v => v.category).sum ≤ 8) (hdg : decode cc pc = .ok (.invokevirtual index, 3)) (kk : ∀ (H1 : Heap) (locs1 : List Loc), WD E ad (Mr, N) H1 → va_S (ow E) s.heap H1 locs1 → W p l e R s m args below meth c H1 locs1 cells slots Q (F0 m (pc + 3) ls (.int r :: rest))) : W p l e R s m args below meth c H locs cells slots Q (F0 m pc ls (.int x3 :: .int x2 :: .ref (ad 6 i1) :: .ref (ad 3 0) :: rest)) := by
  refine va_calli (va_runV (C := RX0) (As := [.ref (ad 6 i1), .int x2, .int x3]) (rest := rest) ⟨X.1, X.2.1, X.2.2.1, X.2.2.2.1, X.2.2.2.2.1⟩ (c_yX0_useThreads l E ad M N i1 x2 x3 w1 r Mr hf) (cwV 3 X.2.2.2.2.1 (gV hn im_yX0_useThreads se_yX0_useThreads iniRX0 cd_yX0_useThreads) rfl rfl rfl (by decide +kernel) hR) ⟨fun a U g mk q => ⟨q.1, q.2.calling⟩, va_recv hK.1 (hW.at (c := 3) (i := 0) Nat.zero_lt_one rfl) (ci := 0) (q0 := 0) rfl rfl, fun U hU hw => ⟨rfl, PB.at hW hK hZ hS hU hw⟩⟩ rfl rfl hsz rfl (lv_room h8) hdg hC) hS (fun _ _ h => h) (fun _ h => h) (fun r' u t H1 locs1 ht hvm hw hB hz1 hk1 hS1 => ?_)
  obtain ⟨rfl, rfl⟩ := hw
  rw [ht] at hB
  exact kk H1 locs1 hB hS1
def f_yX1_wayBackTo_L2 : Nat → Mem → Int32 → Int32 → Option (Int32)
  | 0, _, _, _ => none
  | n + 1, M0, y1, y2 => (if 6 < y2 then (some 0) else ob1 (f_yX1_follow M0 y1 y2) (fun r3 => (if r3 = y1 then (some y2) else (f_yX1_wayBackTo_L2 n M0 y1 (y2 + 1)))))
def f_yX1_wayBackTo (M : Mem) (x1 : Int32) : Option (Int32) := (f_yX1_wayBackTo_L2 70 M x1 1)
set_option maxRecDepth 100000 in
set_option maxHeartbeats 4000000 in
theorem l_yX1_wayBackTo_2 (l : Launch) (E : Lay) (ad : Nat → Nat → Nat) (N : Mem) {p : Program} {e : Env} {s : State} {m : MethodId} {args : Array Value} {below : List Frame} {meth : Method} {c : Code} (X : CX p s m args meth c cX1_wayBackTo 3 (some .int) RX1) (hK : KK E s) (hZ : ZZ E s) : ∀ (n : Nat) (M0 : Mem) (y1 : Int32) (y2 : Int32) (r : Int32) (hf : f_yX1_wayBackTo_L2 n M0 y1 y2 = some r) (H : Heap) (locs : List Loc) (ls : Array Slot), WD E ad (M0, N) H → va_S (ow E) s.heap H locs → lv_has ls 3 [(0, .ref (ad 2 0)), (1, .int y1), (2, .int y2)] → W p l e (rmm 3 68) s m args below meth c H locs 0 0 (MQ below (Qi E ad r (M0, N)) args s 0 0 (ow E)) (F0 m 2 ls []) := by
  obtain ⟨hx, hb, hml, hown, hT, hr, hlk⟩ := id X
  intro n
  induction n with
  | zero =>
    intro M0 y1 y2 r hf
    rw [f_yX1_wayBackTo_L2] at hf
    cases hf
  | succ n ih =>
    intro M0 y1 y2 r hf H locs ls hW hS hl
    rw [f_yX1_wayBackTo_L2] at hf
    refine lv_iload_n hx hb dX1_wayBackTo_2 rfl (lv_at hl 2 rfl) ?_
    refine lv_bipush (v := 6) hx hb dX1_wayBackTo_3 (by decide) ?_
    refine lv_icmp_gt (tgt := 26) hx hb dX1_wayBackTo_5 (by decide) (fun c1 => ?_) (fun c1 => ?_)
    · rw [if_pos c1] at hf
      refine lv_iconst (v := 0) hx hb dX1_wayBackTo_26 (by decide) ?_
      obtain rfl := sp1 hf
      exact e_i ⟨hx, hb, hr, hlk⟩ hW hS dX1_wayBackTo_27
    · rw [if_neg c1] at hf
      refine lv_aload_n hx hb dX1_wayBackTo_8 rfl (lv_at hl 0 rfl) ?_
      refine lv_iload_n hx hb dX1_wayBackTo_9 rfl (lv_at hl 1 rfl) ?_
      refine lv_iload_n hx hb dX1_wayBackTo_10 rfl (lv_at hl 2 rfl) ?_
      obtain ⟨r3, h2, hf⟩ := ob1_some hf
      refine k_yX1_follow X hK hZ hW hS hl.1 h2 mlRX1_139 ⟨Nat.le_of_ble_eq_true rfl, Nat.le_of_ble_eq_true rfl⟩ ⟨Nat.le_of_ble_eq_true rfl, Nat.le_of_ble_eq_true rfl⟩ (Nat.le_of_ble_eq_true rfl) dX1_wayBackTo_11 (fun H locs hW hS => ?_)
      refine lv_iload_n hx hb dX1_wayBackTo_14 rfl (lv_at hl 1 rfl) ?_
      refine lv_icmp_ne (tgt := 20) hx hb dX1_wayBackTo_15 (by decide) (fun c4 => ?_) (fun c4 => ?_)
      · rw [if_neg c4] at hf
        refine lv_iinc (v := (y2 + 1)) (lv' := [(2, .int (y2 + 1)), (0, .ref (ad 2 0)), (1, .int y1)]) hx hb dX1_wayBackTo_20 hl (k := 2) rfl rfl (by decide) rfl (fun ls hl => ?_)
        refine lv_goto (tgt := 2) hx hb dX1_wayBackTo_23 (by decide) ?_
        exact ih _ _ _ _ hf _ _ _ hW hS (lv_sub hl [1, 2, 0] rfl)
      · rw [if_pos c4] at hf
        refine lv_iload_n hx hb dX1_wayBackTo_18 rfl (lv_at hl 2 rfl) ?_
        obtain rfl := sp1 hf
        exact e_i ⟨hx, hb, hr, hlk⟩ hW hS dX1_wayBackTo_19
set_option maxRecDepth 100000 in
set_option maxHeartbeats 4000000 in
theorem c_yX1_wayBackTo (l : Launch) (E : Lay) (ad : Nat → Nat → Nat) (M N : Mem) (x1 : Int32) (r : Int32) (hf : f_yX1_wayBackTo M x1 = some r) : Met l yX1_wayBackTo (Cond.code yX1_wayBackTo cX1_wayBackTo 3 (some .int) :: TB) (rmm 3 68) (va_Pc [.ref (ad 2 0), .int x1] (PB E ad (M, N))) (Qi E ad r (M, N)) 0 0 (ow E) := by
  refine Met.ofW (cc := cX1_wayBackTo) (maxL := 3) (ret := (some .int)) (by decide) rfl ?_
  intro p e s m args below meth c s₁ B hml hv
  obtain ⟨rfl, hW, hK, hZ⟩ := hv
  have hT : ∀ w ∈ TB, w.before _ s = true := fun w h => atoms_spec (ws := (Cond.code yX1_wayBackTo cX1_wayBackTo 3 (some .int) :: TB)) B.pre w (List.mem_cons_of_mem _ h)
  have X : CX p s m _ meth c cX1_wayBackTo 3 (some .int) RX1 := ⟨B.exec, B.bytes, hml, findClass_of_methodNamed B.named, hT, B.returns, B.notSynchronized⟩
  obtain ⟨hx, hb, hml, hown, hT, hr, hlk⟩ := id X
  have hS : va_S (ow E) s.heap s.heap [] := va_S.rf
  have hl := lv_entry ([.ref (ad 2 0), .int x1]) (n := 3) (Nat.le_of_ble_eq_true rfl)
  rw [lg_entry_eq]
  generalize (lg_sl ([.ref (ad 2 0), .int x1]) ++ List.replicate (3 - (lg_sl ([.ref (ad 2 0), .int x1])).length) Slot.unset).toArray = ls at hl ⊢
  have hl : lv_has ls 3 [(0, .ref (ad 2 0)), (1, .int x1)] := hl
  unfold f_yX1_wayBackTo at hf
  refine lv_iconst (v := 1) hx hb dX1_wayBackTo_0 (by decide) ?_
  refine lv_istore_n (lv' := [(2, .int 1), (0, .ref (ad 2 0)), (1, .int x1)]) hx hb dX1_wayBackTo_1 rfl hl (by decide) rfl (fun ls hl => ?_)
  exact (l_yX1_wayBackTo_2 l E ad N X hK hZ 70) _ _ _ _ hf _ _ _ hW hS (lv_sub hl [1, 2, 0] rfl)
set_option maxRecDepth 100000 in
set_option maxHeartbeats 4000000 in
theorem k_yX1_wayBackTo {p : Program} {l : Launch} {e : Env} {R : Room} {s : State} {m : MethodId} {args : Array Value} {below : List Frame} {meth : Method} {c : Code} {H : Heap} {locs : List Loc} {cells slots : Nat} {Q : State → Prop} {cc : ByteArray} {pc nL index : Nat} {ret : Option FieldType} {own : String} {ls : Array Slot} {rest : List Value} {E : Lay} {ad : Nat → Nat → Nat} {M N : Mem} (X : CX p s m args meth c cc nL ret own) (hK : KK E s) (hZ : ZZ E s) (hW : WD E ad (M, N) H) (hS : va_S (ow E) s.heap H locs) (hsz : ls.size = nL) {x1 : Int32} {r : Int32} (hf : f_yX1_wayBackTo M x1 = some r) (hn : Cond.methodLink own index yX1_wayBackTo ∈ TB) (hR : 3 + 1 ≤ R.frames ∧ 8 + (3 + 11) + 68 ≤ R.locals) (hC : cells ≤ R.cells ∧ slots ≤ R.slots) (h8 : (rest.map fun v => v.category).sum ≤ 8) (hdg : decode cc pc = .ok (.invokevirtual index, 3)) (kk : ∀ (H1 : Heap) (locs1 : List Loc), WD E ad (M, N) H1 → va_S (ow E) s.heap H1 locs1 → W p l e R s m args below meth c H1 locs1 cells slots Q (F0 m (pc + 3) ls (.int r :: rest))) : W p l e R s m args below meth c H locs cells slots Q (F0 m pc ls (.int x1 :: .ref (ad 2 0) :: rest)) := by
  refine va_calli (va_runV (C := RX1) (As := [.int x1]) (rest := rest) ⟨X.1, X.2.1, X.2.2.1, X.2.2.2.1, X.2.2.2.2.1⟩ (c_yX1_wayBackTo l E ad M N x1 r hf) (cwV 1 X.2.2.2.2.1 (gV hn im_yX1_wayBackTo se_yX1_wayBackTo iniRX1 cd_yX1_wayBackTo) rfl rfl rfl (by decide +kernel) hR) ⟨fun a U g mk q => ⟨q.1, q.2.calling⟩, va_recv hK.1 (hW.at (c := 2) (i := 0) Nat.zero_lt_one rfl) (ci := 1) (q0 := 0) rfl rfl, fun U hU hw => ⟨rfl, PB.at hW hK hZ hS hU hw⟩⟩ rfl rfl hsz rfl (lv_room h8) hdg hC) hS (fun _ _ h => h) (fun _ h => h) (fun r' u t H1 locs1 ht hvm hw hB hz1 hk1 hS1 => ?_)
  obtain ⟨rfl, rfl⟩ := hw
  rw [ht] at hB
  exact kk H1 locs1 hB hS1
