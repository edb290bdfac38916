def f_yX0_perform (M : Mem) (i1 : Nat) : Option (Int32 × Mem) := (if (M 6 i1 5) = 0 then (if M 6 i1 1 < 0 then (some (0, M)) else ob1 (f_yX5_isAtEnd M i1) (fun r4 => (if r4 = 0 then gd ((M 6 i1 1).toNatClampNeg < 8) (ob1 (f_yX3_numberAt M ((M 6 i1 1).toNatClampNeg) (M 6 i1 3) 0) (fun r8 => ob1 (f_yX3_numberAt M ((M 6 i1 1).toNatClampNeg) (M 6 i1 3) 1) (fun r10 => ob1 (f_yX3_numberAt M ((M 6 i1 1).toNatClampNeg) (M 6 i1 3) 2) (fun r12 => ob1 (f_yX3_numberAt M ((M 6 i1 1).toNatClampNeg) (M 6 i1 3) 3) (fun r14 => lt1 (mp M 3 0 0 ((M 3 0 0) + 1)) (fun M15 => lt1 (mp M15 6 i1 15 ((M15 6 i1 15) + 1)) (fun M16 => lt1 (mp M16 6 i1 3 ((M16 6 i1 3) + 1)) (fun M17 => (if 7 < r8 then (if 15 < r8 then (if 21 < r8 then (if 26 < r8 then (if 30 < r8 then ob2 (f_yX0_useHandlers M17 i1 r8 r10 r12) (fun r24 M25 => (some (r24, M25))) else ob2 (f_yX0_useThreads M17 i1 r8 r10) (fun r27 M28 => (some (r27, M28)))) else ob2 (f_yX0_useMonitors M17 i1 r8 r10 r12) (fun r30 M31 => (some (r30, M31)))) else ob2 (f_yX0_useRows M17 i1 r8 r10 r12 r14) (fun r33 M34 => (some (r33, M34)))) else ob2 (f_yX0_useThings M17 i1 r8 r10 r12 r14) (fun r37 M38 => (some (r37, M38)))) else ob2 (f_yX0_reckon M17 i1 r8 r10 r12 r14) (fun r40 M41 => (some (r40, M41)))))))))))) else (some (0, M))))) else lt1 (mp M 6 i1 5 0) (fun M42 => (some (9, M42))))
set_option maxRecDepth 100000 in
set_option maxHeartbeats 4000000 in
theorem c_yX0_perform (l : Launch) (E : Lay) (ad : Nat → Nat → Nat) (M N : Mem) (i1 : Nat) (w1 : i1 < 6) (r : Int32) (Mr : Mem) (hf : f_yX0_perform M i1 = some (r, Mr)) : Met l yX0_perform (Cond.code yX0_perform cX0_perform 7 (some .int) :: TB) (rmg 5 108 2 18) (va_Pc [.ref (ad 3 0), .ref (ad 6 i1)] (PB E ad (M, N))) (Gi E ad r (Mr, N)) 2 18 (ow E) := by
  refine Met.ofW (cc := cX0_perform) (maxL := 7) (ret := (some .int)) (by decide) rfl ?_
  intro p e s m args below meth c s₁ B hml hv
  obtain ⟨rfl, hW, hK, hZ⟩ := hv
  have hT : ∀ w ∈ TB, w.before _ s = true := fun w h => atoms_spec (ws := (Cond.code yX0_perform cX0_perform 7 (some .int) :: TB)) B.pre w (List.mem_cons_of_mem _ h)
  have X : CX p s m _ meth c cX0_perform 7 (some .int) RX0 := ⟨B.exec, B.bytes, hml, findClass_of_methodNamed B.named, hT, B.returns, B.notSynchronized⟩
  obtain ⟨hx, hb, hml, hown, hT, hr, hlk⟩ := id X
  have hS : va_S (ow E) s.heap s.heap [] := va_S.rf
  have hs0 := hW.low
  have hl := lv_entry ([.ref (ad 3 0), .ref (ad 6 i1)]) (n := 7) (Nat.le_of_ble_eq_true rfl)
  rw [lg_entry_eq]
  generalize (lg_sl ([.ref (ad 3 0), .ref (ad 6 i1)]) ++ List.replicate (7 - (lg_sl ([.ref (ad 3 0), .ref (ad 6 i1)])).length) Slot.unset).toArray = ls at hl ⊢
  have hl : lv_has ls 7 [(0, .ref (ad 3 0)), (1, .ref (ad 6 i1))] := hl
  unfold f_yX0_perform at hf
  refine lv_aload_n hx hb dX0_perform_0 rfl (lv_at hl 1 rfl) ?_
  refine g_5_9 X hK hW w1 flRX0_19 dX0_perform_1 ?_
  refine lv_if_eq (tgt := 15) hx hb dX0_perform_4 (by decide) (fun c1 => ?_) (fun c1 => ?_)
  · rw [if_pos c1] at hf
    refine lv_aload_n hx hb dX0_perform_15 rfl (lv_at hl 1 rfl) ?_
    by_cases c2 : M 6 i1 1 < 0
    · rw [if_pos c2] at hf
      refine g_5_5n X hK hW w1 flRX0_25 dX0_perform_16 c2 ?_
      refine lv_astore_nN (lv' := [(2, .null), (0, .ref (ad 3 0)), (1, .ref (ad 6 i1))]) hx hb dX0_perform_19 rfl hl (by decide) rfl (fun ls hl => ?_)
      refine lv_aload_nN hx hb dX0_perform_20 rfl (lv_at hl 0 rfl) ?_
      refine lv_ifnullN (tgt := 31) hx hb dX0_perform_21 (by decide) ?_
      refine lv_iconst (v := 0) hx hb dX0_perform_31 (by decide) ?_
      obtain ⟨rfl, rfl⟩ := sp2 hf
      refine W.widen (k := 2) (n := 18) (by omega) (by omega) ?_
      exact eg_i ⟨hx, hb, hr, hlk⟩ ext.rf hW hS dX0_perform_32
    · rw [if_neg c2] at hf
      refine g_5_5s X hK hW w1 flRX0_25 dX0_perform_16 c2 ?_
      refine lv_astore_n (lv' := [(2, .ref (ad 5 (M 6 i1 1).toNatClampNeg)), (0, .ref (ad 3 0)), (1, .ref (ad 6 i1))]) hx hb dX0_perform_19 rfl hl (by decide) rfl (fun ls hl => ?_)
      refine lv_aload_n hx hb dX0_perform_20 rfl (lv_at hl 0 rfl) ?_
      refine lv_ifnull hx hb dX0_perform_21 ?_
      refine lv_aload_n hx hb dX0_perform_24 rfl (lv_at hl 2 rfl) ?_
      obtain ⟨r4, h3, hf⟩ := ob1_some hf
      refine k_yX5_isAtEnd X hK hZ hW hS hl.1 w1 h3 mlRX0_29 ⟨Nat.le_of_ble_eq_true rfl, Nat.le_of_ble_eq_true rfl⟩ ⟨Nat.le_of_ble_eq_true rfl, Nat.le_of_ble_eq_true rfl⟩ (Nat.le_of_ble_eq_true rfl) dX0_perform_25 (fun H locs hW hS => ?_)
      refine lv_if_eq (tgt := 33) hx hb dX0_perform_28 (by decide) (fun c5 => ?_) (fun c5 => ?_)
      · rw [if_pos c5] at hf
        refine lv_aload_n hx hb dX0_perform_33 rfl (lv_at hl 0 rfl) ?_
        refine lv_aload_n hx hb dX0_perform_34 rfl (lv_at hl 2 rfl) ?_
        refine g_5_7 X hK hW w1 flRX0_33 dX0_perform_35 ?_
        refine lv_iconst (v := 0) hx hb dX0_perform_38 (by decide) ?_
        obtain ⟨v6, hf⟩ := gd_some hf
        obtain ⟨r8, h7, hf⟩ := ob1_some hf
        refine k_yX3_numberAt X hK hZ hW hS hl.1 v6 h7 mlRX0_37 ⟨Nat.le_of_ble_eq_true rfl, Nat.le_of_ble_eq_true rfl⟩ ⟨Nat.le_of_ble_eq_true rfl, Nat.le_of_ble_eq_true rfl⟩ (Nat.le_of_ble_eq_true rfl) dX0_perform_39 (fun H locs hW hS => ?_)
        refine lv_istore_n (lv' := [(3, .int r8), (2, .ref (ad 5 (M 6 i1 1).toNatClampNeg)), (0, .ref (ad 3 0)), (1, .ref (ad 6 i1))]) hx hb dX0_perform_42 rfl hl (by decide) rfl (fun ls hl => ?_)
        refine lv_aload_n hx hb dX0_perform_43 rfl (lv_at hl 1 rfl) ?_
        refine lv_aload_n hx hb dX0_perform_44 rfl (lv_at hl 3 rfl) ?_
        refine g_5_7 X hK hW w1 flRX0_33 dX0_perform_45 ?_
        refine lv_iconst (v := 1) hx hb dX0_perform_48 (by decide) ?_
        obtain ⟨r10, h9, hf⟩ := ob1_some hf
        refine k_yX3_numberAt X hK hZ hW hS hl.1 v6 h9 mlRX0_37 ⟨Nat.le_of_ble_eq_true rfl, Nat.le_of_ble_eq_true rfl⟩ ⟨Nat.le_of_ble_eq_true rfl, Nat.le_of_ble_eq_true rfl⟩ (Nat.le_of_ble_eq_true rfl) dX0_perform_49 (fun H locs hW hS => ?_)
        refine lv_istore (lv' := [(4, .int r10), (3, .int r8), (2, .ref (ad 5 (M 6 i1 1).toNatClampNeg)), (0, .ref (ad 3 0)), (1, .ref (ad 6 i1))]) hx hb dX0_perform_52 hl (by decide) rfl (fun ls hl => ?_)
        refine lv_aload_n hx hb dX0_perform_54 rfl (lv_at hl 2 rfl) ?_
        refine lv_aload_n hx hb dX0_perform_55 rfl (lv_at hl 4 rfl) ?_
        refine g_5_7 X hK hW w1 flRX0_33 dX0_perform_56 ?_
        refine lv_iconst (v := 2) hx hb dX0_perform_59 (by decide) ?_
        obtain ⟨r12, h11, hf⟩ := ob1_some hf
        refine k_yX3_numberAt X hK hZ hW hS hl.1 v6 h11 mlRX0_37 ⟨Nat.le_of_ble_eq_true rfl, Nat.le_of_ble_eq_true rfl⟩ ⟨Nat.le_of_ble_eq_true rfl, Nat.le_of_ble_eq_true rfl⟩ (Nat.le_of_ble_eq_true rfl) dX0_perform_60 (fun H locs hW hS => ?_)
        refine lv_istore (lv' := [(5, .int r12), (4, .int r10), (3, .int r8), (2, .ref (ad 5 (M 6 i1 1).toNatClampNeg)), (0, .ref (ad 3 0)), (1, .ref (ad 6 i1))]) hx hb dX0_perform_63 hl (by decide) rfl (fun ls hl => ?_)
        refine lv_aload_n hx hb dX0_perform_65 rfl (lv_at hl 3 rfl) ?_
        refine lv_aload_n hx hb dX0_perform_66 rfl (lv_at hl 5 rfl) ?_
        refine g_5_7 X hK hW w1 flRX0_33 dX0_perform_67 ?_
        refine lv_iconst (v := 3) hx hb dX0_perform_70 (by decide) ?_
        obtain ⟨r14, h13, hf⟩ := ob1_some hf
        refine k_yX3_numberAt X hK hZ hW hS hl.1 v6 h13 mlRX0_37 ⟨Nat.le_of_ble_eq_true rfl, Nat.le_of_ble_eq_true rfl⟩ ⟨Nat.le_of_ble_eq_true rfl, Nat.le_of_ble_eq_true rfl⟩ (Nat.le_of_ble_eq_true rfl) dX0_perform_71 (fun H locs hW hS => ?_)
        refine lv_istore (lv' := [(6, .int r14), (5, .int r12), (4, .int r10), (3, .int r8), (2, .ref (ad 5 (M 6 i1 1).toNatClampNeg)), (0, .ref (ad 3 0)), (1, .ref (ad 6 i1))]) hx hb dX0_perform_74 hl (by decide) rfl (fun ls hl => ?_)
        refine lv_aload_n hx hb dX0_perform_76 rfl (lv_at hl 5 rfl) ?_
        refine lv_dup hx hb dX0_perform_77 rfl ?_
        refine g_0_2 X hK hW flRX0_43 dX0_perform_78 ?_
        refine lv_iconst (v := 1) hx hb dX0_perform_81 (by decide) ?_
        refine lv_iadd hx hb dX0_perform_82 ?_
        obtain ⟨M15, hM15, hf⟩ := lt1_some hf
        refine p_0_2 X hK hW hS hM15 flRX0_43 dX0_perform_83 (fun H locs hW hS => ?_)
        refine lv_aload_n hx hb dX0_perform_86 rfl (lv_at hl 6 rfl) ?_
        refine lv_dup hx hb dX0_perform_87 rfl ?_
        refine g_5_19 X hK hW w1 flRX0_46 dX0_perform_88 ?_
        refine lv_iconst (v := 1) hx hb dX0_perform_91 (by decide) ?_
        refine lv_iadd hx hb dX0_perform_92 ?_
        obtain ⟨M16, hM16, hf⟩ := lt1_some hf
        refine p_5_19 X hK hW hS w1 hM16 flRX0_46 dX0_perform_93 (fun H locs hW hS => ?_)
        refine lv_aload_n hx hb dX0_perform_96 rfl (lv_at hl 6 rfl) ?_
        refine lv_dup hx hb dX0_perform_97 rfl ?_
        refine g_5_7 X hK hW w1 flRX0_33 dX0_perform_98 ?_
        refine lv_iconst (v := 1) hx hb dX0_perform_101 (by decide) ?_
        refine lv_iadd hx hb dX0_perform_102 ?_
        obtain ⟨M17, hM17, hf⟩ := lt1_some hf
        refine p_5_7 X hK hW hS w1 hM17 flRX0_33 dX0_perform_103 (fun H locs hW hS => ?_)
        refine lv_iload_n hx hb dX0_perform_106 rfl (lv_at hl 3 rfl) ?_
        refine lv_bipush (v := 7) hx hb dX0_perform_107 (by decide) ?_
        refine lv_icmp_gt (tgt := 125) hx hb dX0_perform_109 (by decide) (fun c18 => ?_) (fun c18 => ?_)
        · rw [if_pos c18] at hf
          refine lv_iload_n hx hb dX0_perform_125 rfl (lv_at hl 3 rfl) ?_
          refine lv_bipush (v := 15) hx hb dX0_perform_126 (by decide) ?_
          refine lv_icmp_gt (tgt := 144) hx hb dX0_perform_128 (by decide) (fun c19 => ?_) (fun c19 => ?_)
          · rw [if_pos c19] at hf
            refine lv_iload_n hx hb dX0_perform_144 rfl (lv_at hl 3 rfl) ?_
            refine lv_bipush (v := 21) hx hb dX0_perform_145 (by decide) ?_
            refine lv_icmp_gt (tgt := 163) hx hb dX0_perform_147 (by decide) (fun c20 => ?_) (fun c20 => ?_)
            · rw [if_pos c20] at hf
              refine lv_iload_n hx hb dX0_perform_163 rfl (lv_at hl 3 rfl) ?_
              refine lv_bipush (v := 26) hx hb dX0_perform_164 (by decide) ?_
              refine lv_icmp_gt (tgt := 180) hx hb dX0_perform_166 (by decide) (fun c21 => ?_) (fun c21 => ?_)
              · rw [if_pos c21] at hf
                refine lv_iload_n hx hb dX0_perform_180 rfl (lv_at hl 3 rfl) ?_
                refine lv_bipush (v := 30) hx hb dX0_perform_181 (by decide) ?_
                refine lv_icmp_gt (tgt := 197) hx hb dX0_perform_183 (by decide) (fun c22 => ?_) (fun c22 => ?_)
                · rw [if_pos c22] at hf
                  refine lv_aload_n hx hb dX0_perform_197 rfl (lv_at hl 5 rfl) ?_
                  refine lv_aload_n hx hb dX0_perform_198 rfl (lv_at hl 6 rfl) ?_
                  refine lv_iload_n hx hb dX0_perform_199 rfl (lv_at hl 3 rfl) ?_
                  refine lv_iload hx hb dX0_perform_200 (lv_at hl 2 rfl) ?_
                  refine lv_iload hx hb dX0_perform_202 (lv_at hl 1 rfl) ?_
                  obtain ⟨r24, M25, h23, hf⟩ := ob2_some hf
                  refine k_yX0_useHandlers X hK hZ hW hS hl.1 w1 h23 mlRX0_65 ⟨Nat.le_of_ble_eq_true rfl, Nat.le_of_ble_eq_true rfl⟩ ⟨Nat.le_of_ble_eq_true rfl, Nat.le_of_ble_eq_true rfl⟩ (Nat.le_of_ble_eq_true rfl) dX0_perform_204 (fun H locs hW hS => ?_)
                  obtain ⟨rfl, rfl⟩ := sp2 hf
                  refine W.widen (k := 2) (n := 18) (by omega) (by omega) ?_
                  exact eg_i ⟨hx, hb, hr, hlk⟩ ext.rf hW hS dX0_perform_207
                · rw [if_neg c22] at hf
                  refine lv_aload_n hx hb dX0_perform_186 rfl (lv_at hl 5 rfl) ?_
                  refine lv_aload_n hx hb dX0_perform_187 rfl (lv_at hl 6 rfl) ?_
                  refine lv_iload_n hx hb dX0_perform_188 rfl (lv_at hl 3 rfl) ?_
                  refine lv_iload hx hb dX0_perform_189 (lv_at hl 2 rfl) ?_
                  obtain ⟨r27, M28, h26, hf⟩ := ob2_some hf
                  refine k_yX0_useThreads X hK hZ hW hS hl.1 w1 h26 mlRX0_61 ⟨Nat.le_of_ble_eq_true rfl, Nat.le_of_ble_eq_true rfl⟩ ⟨Nat.le_of_ble_eq_true rfl, Nat.le_of_ble_eq_true rfl⟩ (Nat.le_of_ble_eq_true rfl) dX0_perform_191 (fun H locs hW hS => ?_)
                  refine lv_goto (tgt := 207) hx hb dX0_perform_194 (by decide) ?_
                  obtain ⟨rfl, rfl⟩ := sp2 hf
                  refine W.widen (k := 2) (n := 18) (by omega) (by omega) ?_
                  exact eg_i ⟨hx, hb, hr, hlk⟩ ext.rf hW hS dX0_perform_207
              · rw [if_neg c21] at hf
                refine lv_aload_n hx hb dX0_perform_169 rfl (lv_at hl 5 rfl) ?_
                refine lv_aload_n hx hb dX0_perform_170 rfl (lv_at hl 6 rfl) ?_
                refine lv_iload_n hx hb dX0_perform_171 rfl (lv_at hl 3 rfl) ?_
                refine lv_iload hx hb dX0_perform_172 (lv_at hl 2 rfl) ?_
                refine lv_iload hx hb dX0_perform_174 (lv_at hl 1 rfl) ?_
                obtain ⟨r30, M31, h29, hf⟩ := ob2_some hf
                refine k_yX0_useMonitors X hK hZ hW hS hl.1 w1 h29 mlRX0_57 ⟨Nat.le_of_ble_eq_true rfl, Nat.le_of_ble_eq_true rfl⟩ ⟨Nat.le_of_ble_eq_true rfl, Nat.le_of_ble_eq_true rfl⟩ (Nat.le_of_ble_eq_true rfl) dX0_perform_176 (fun H locs hW hS => ?_)
                obtain ⟨rfl, rfl⟩ := sp2 hf
                refine W.widen (k := 2) (n := 18) (by omega) (by omega) ?_
                exact eg_i ⟨hx, hb, hr, hlk⟩ ext.rf hW hS dX0_perform_179
            · rw [if_neg c20] at hf
              refine lv_aload_n hx hb dX0_perform_150 rfl (lv_at hl 5 rfl) ?_
              refine lv_aload_n hx hb dX0_perform_151 rfl (lv_at hl 6 rfl) ?_
              refine lv_iload_n hx hb dX0_perform_152 rfl (lv_at hl 3 rfl) ?_
              refine lv_iload hx hb dX0_perform_153 (lv_at hl 2 rfl) ?_
              refine lv_iload hx hb dX0_perform_155 (lv_at hl 1 rfl) ?_
              refine lv_iload hx hb dX0_perform_157 (lv_at hl 0 rfl) ?_
              obtain ⟨r33, M34, h32, hf⟩ := ob2_some hf
              refine k_yX0_useRows X hK hZ hW hS hl.1 w1 h32 mlRX0_54 ⟨Nat.le_of_ble_eq_true rfl, Nat.le_of_ble_eq_true rfl⟩ ⟨Nat.le_of_ble_eq_true rfl, Nat.le_of_ble_eq_true rfl⟩ (Nat.le_of_ble_eq_true rfl) dX0_perform_159 (fun H locs hW hS => ?_)
              obtain ⟨rfl, rfl⟩ := sp2 hf
              refine W.widen (k := 2) (n := 18) (by omega) (by omega) ?_
              exact eg_i ⟨hx, hb, hr, hlk⟩ ext.rf hW hS dX0_perform_162
          · rw [if_neg c19] at hf
            refine lv_aload_n hx hb dX0_perform_131 rfl (lv_at hl 5 rfl) ?_
            refine lv_aload_n hx hb dX0_perform_132 rfl (lv_at hl 6 rfl) ?_
            refine lv_iload_n hx hb dX0_perform_133 rfl (lv_at hl 3 rfl) ?_
            refine lv_iload hx hb dX0_perform_134 (lv_at hl 2 rfl) ?_
            refine lv_iload hx hb dX0_perform_136 (lv_at hl 1 rfl) ?_
            refine lv_iload hx hb dX0_perform_138 (lv_at hl 0 rfl) ?_
            obtain ⟨r37, M38, h35, hf⟩ := ob2_some hf
            refine k_yX0_useThings X hK hZ hW hS hl.1 w1 h35 mlRX0_51 ⟨Nat.le_of_ble_eq_true rfl, Nat.le_of_ble_eq_true rfl⟩ ⟨Nat.le_of_ble_eq_true rfl, Nat.le_of_ble_eq_true rfl⟩ (Nat.le_of_ble_eq_true rfl) dX0_perform_140 (fun ad36 H locs hEad36 hW hS => ?_)
            have hl : lv_has ls 7 [(6, .int r14), (5, .int r12), (4, .int r10), (3, .int r8), (2, .ref (ad36 5 (M 6 i1 1).toNatClampNeg)), (0, .ref (ad36 3 0)), (1, .ref (ad36 6 i1))] := by rw [hEad36 5 (M 6 i1 1).toNatClampNeg (by decide) (by decide), hEad36 3 0 (by decide) (by decide), hEad36 6 i1 (by decide) (by decide)]; exact hl
            obtain ⟨rfl, rfl⟩ := sp2 hf
            exact eg_i ⟨hx, hb, hr, hlk⟩ hEad36 hW hS dX0_perform_143
        · rw [if_neg c18] at hf
          refine lv_aload_n hx hb dX0_perform_112 rfl (lv_at hl 5 rfl) ?_
          refine lv_aload_n hx hb dX0_perform_113 rfl (lv_at hl 6 rfl) ?_
          refine lv_iload_n hx hb dX0_perform_114 rfl (lv_at hl 3 rfl) ?_
          refine lv_iload hx hb dX0_perform_115 (lv_at hl 2 rfl) ?_
          refine lv_iload hx hb dX0_perform_117 (lv_at hl 1 rfl) ?_
          refine lv_iload hx hb dX0_perform_119 (lv_at hl 0 rfl) ?_
          obtain ⟨r40, M41, h39, hf⟩ := ob2_some hf
          refine k_yX0_reckon X hK hZ hW hS hl.1 w1 h39 mlRX0_47 ⟨Nat.le_of_ble_eq_true rfl, Nat.le_of_ble_eq_true rfl⟩ ⟨Nat.le_of_ble_eq_true rfl, Nat.le_of_ble_eq_true rfl⟩ (Nat.le_of_ble_eq_true rfl) dX0_perform_121 (fun H locs hW hS => ?_)
          obtain ⟨rfl, rfl⟩ := sp2 hf
          refine W.widen (k := 2) (n := 18) (by omega) (by omega) ?_
          exact eg_i ⟨hx, hb, hr, hlk⟩ ext.rf hW hS dX0_perform_124
      · rw [if_neg c5] at hf
        refine lv_iconst (v := 0) hx hb dX0_perform_31 (by decide) ?_
        obtain ⟨rfl, rfl⟩ := sp2 hf
        refine W.widen (k := 2) (n := 18) (by omega) (by omega) ?_
        exact eg_i ⟨hx, hb, hr, hlk⟩ ext.rf hW hS dX0_perform_32
  · rw [if_neg c1] at hf
    refine lv_aload_n hx hb dX0_perform_7 rfl (lv_at hl 1 rfl) ?_
    refine lv_iconst (v := 0) hx hb dX0_perform_8 (by decide) ?_
    obtain ⟨M42, hM42, hf⟩ := lt1_some hf
    refine p_5_9 X hK hW hS w1 rfl rfl hM42 flRX0_19 dX0_perform_9 (fun H locs hW hS => ?_)
    refine lv_bipush (v := 9) hx hb dX0_perform_12 (by decide) ?_
    obtain ⟨rfl, rfl⟩ := sp2 hf
    refine W.widen (k := 2) (n := 18) (by omega) (by omega) ?_
    exact eg_i ⟨hx, hb, hr, hlk⟩ ext.rf hW hS dX0_perform_14
set_option maxRecDepth 100000 in
set_option maxHeartbeats 4000000 in
theorem k_yX0_perform {p : Program} {l : Launch} {e : Env} {R : Room} {s : State} {m : MethodId} {args : Array Value} {below : List Frame} {meth : Method} {c : Code} {H : Heap} {locs : List Loc} {cells slots : Nat} {Q : State → Prop} {cc : ByteArray} {pc nL index : Nat} {ret : Option FieldType} {own : String} {ls : Array Slot} {rest : List Value} {E : Lay} {ad : Nat → Nat → Nat} {M N : Mem} (X : CX p s m args meth c cc nL ret own) (hK : KK E s) (hZ : ZZ E s) (hW : WD E ad (M, N) H) (hS : va_S (ow E) s.heap H locs) (hsz : ls.size = nL) {i1 : Nat} (w1 : i1 < 6) {r : Int32} {Mr : Mem} (hf : f_yX0_perform M i1 = some (r, Mr)) (hn : Cond.methodLink own index yX0_perform ∈ TB) (hR : 5 + 1 ≤ R.frames ∧ 8 + (7 + 11) + 108 ≤ R.locals) (hC : cells + 2 ≤ R.cells ∧ slots + 18 ≤ R.slots) (h8 : (rest.map fun v => v.category).sum ≤ 8) (hdg : decode cc pc = .ok (.invokevirtual index, 3)) (kk : ∀ (ad1 : Nat → Nat → Nat) (H1 : Heap) (locs1 : List Loc), ext ad ad1 → WD E ad1 (Mr, N) H1 → va_S (ow E) s.heap H1 locs1 → W p l e R s m args below meth c H1 locs1 (cells + 2) (slots + 18) Q (F0 m (pc + 3) ls (.int r :: rest))) : W p l e R s m args below meth c H locs cells slots Q (F0 m pc ls (.ref (ad 6 i1) :: .ref (ad 3 0) :: rest)) := by
  refine va_calli (va_runV (C := RX0) (As := [.ref (ad 6 i1)]) (rest := rest) ⟨X.1, X.2.1, X.2.2.1, X.2.2.2.1, X.2.2.2.2.1⟩ (c_yX0_perform l E ad M N i1 w1 r Mr hf) (cwV 1 X.2.2.2.2.1 (gV hn im_yX0_perform se_yX0_perform iniRX0 cd_yX0_perform) rfl rfl rfl (by decide +kernel) hR) ⟨fun a U g mk q => ⟨q.1, q.2.calling⟩, va_recv hK.1 (hW.at (c := 3) (i := 0) Nat.zero_lt_one rfl) (ci := 0) (q0 := 0) rfl rfl, fun U hU hw => ⟨rfl, PB.at hW hK hZ hS hU hw⟩⟩ rfl rfl hsz rfl (lv_room h8) hdg hC) hS (fun _ _ h => h) (fun _ h => h) (fun r' u t H1 locs1 ht hvm hw hB hz1 hk1 hS1 => ?_)
  obtain ⟨ad1, P1⟩ := u
  obtain ⟨rfl, hu, hE⟩ := hw
  dsimp only at hu hE hB
  subst hu
  rw [ht] at hB
  exact kk ad1 H1 locs1 hE hB hS1
def f_yX1_inRing_L2 : Nat → Mem → Int32 → Int32 → Option (Int32)
  | 0, _, _, _ => none
  | n + 1, M0, y1, y2 => (if 6 ≤ y2 then (some (-4)) else ob1 (f_yX1_wayBackTo M0 y2) (fun r3 => (if r3 ≤ 0 then (f_yX1_inRing_L2 n M0 y1 (y2 + 1)) else (if r3 ≤ y1 then (some (-4)) else ob1 (f_yX1_follow M0 y2 y1) (fun r7 => (some r7))))))
def f_yX1_inRing (M : Mem) (x1 : Int32) : Option (Int32) := (f_yX1_inRing_L2 70 M x1 0)
set_option maxRecDepth 100000 in
set_option maxHeartbeats 4000000 in
theorem l_yX1_inRing_2 (l : Launch) (E : Lay) (ad : Nat → Nat → Nat) (N : Mem) {p : Program} {e : Env} {s : State} {m : MethodId} {args : Array Value} {below : List Frame} {meth : Method} {c : Code} (X : CX p s m args meth c cX1_inRing 4 (some .int) RX1) (hK : KK E s) (hZ : ZZ E s) : ∀ (n : Nat) (M0 : Mem) (y1 : Int32) (y2 : Int32) (r : Int32) (hf : f_yX1_inRing_L2 n M0 y1 y2 = some r) (H : Heap) (locs : List Loc) (ls : Array Slot), WD E ad (M0, N) H → va_S (ow E) s.heap H locs → lv_has ls 4 [(0, .ref (ad 2 0)), (1, .int y1), (2, .int y2)] → W p l e (rmm 4 90) s m args below meth c H locs 0 0 (MQ below (Qi E ad r (M0, N)) args s 0 0 (ow E)) (F0 m 2 ls []) := by
  obtain ⟨hx, hb, hml, hown, hT, hr, hlk⟩ := id X
  intro n
  induction n with
  | zero =>
    intro M0 y1 y2 r hf
    rw [f_yX1_inRing_L2] at hf
    cases hf
  | succ n ih =>
    intro M0 y1 y2 r hf H locs ls hW hS hl
    rw [f_yX1_inRing_L2] at hf
    refine lv_iload_n hx hb dX1_inRing_2 rfl (lv_at hl 2 rfl) ?_
    refine lv_bipush (v := 6) hx hb dX1_inRing_3 (by decide) ?_
    refine lv_icmp_ge (tgt := 41) hx hb dX1_inRing_5 (by decide) (fun c1 => ?_) (fun c1 => ?_)
    · rw [if_pos c1] at hf
      refine lv_bipush (v := -4) hx hb dX1_inRing_41 (by decide) ?_
      obtain rfl := sp1 hf
      exact e_i ⟨hx, hb, hr, hlk⟩ hW hS dX1_inRing_43
    · rw [if_neg c1] at hf
      refine lv_aload_n hx hb dX1_inRing_8 rfl (lv_at hl 0 rfl) ?_
      refine lv_iload_n hx hb dX1_inRing_9 rfl (lv_at hl 2 rfl) ?_
      obtain ⟨r3, h2, hf⟩ := ob1_some hf
      refine k_yX1_wayBackTo X hK hZ hW hS hl.1 h2 mlRX1_135 ⟨Nat.le_of_ble_eq_true rfl, Nat.le_of_ble_eq_true rfl⟩ ⟨Nat.le_of_ble_eq_true rfl, Nat.le_of_ble_eq_true rfl⟩ (Nat.le_of_ble_eq_true rfl) dX1_inRing_10 (fun H locs hW hS => ?_)
      refine lv_istore_n (lv' := [(3, .int r3), (0, .ref (ad 2 0)), (1, .int y1), (2, .int y2)]) hx hb dX1_inRing_13 rfl hl (by decide) rfl (fun ls hl => ?_)
      refine lv_iload_n hx hb dX1_inRing_14 rfl (lv_at hl 0 rfl) ?_
      refine lv_if_le (tgt := 35) hx hb dX1_inRing_15 (by decide) (fun c4 => ?_) (fun c4 => ?_)
      · rw [if_pos c4] at hf
        refine lv_iinc (v := (y2 + 1)) (lv' := [(2, .int (y2 + 1)), (3, .int r3), (0, .ref (ad 2 0)), (1, .int y1)]) hx hb dX1_inRing_35 hl (k := 3) rfl rfl (by decide) rfl (fun ls hl => ?_)
        refine lv_goto (tgt := 2) hx hb dX1_inRing_38 (by decide) ?_
        exact ih _ _ _ _ hf _ _ _ hW hS (lv_sub hl [2, 3, 0] rfl)
      · rw [if_neg c4] at hf
        refine lv_iload_n hx hb dX1_inRing_18 rfl (lv_at hl 2 rfl) ?_
        refine lv_iload_n hx hb dX1_inRing_19 rfl (lv_at hl 0 rfl) ?_
        refine lv_icmp_ge (tgt := 32) hx hb dX1_inRing_20 (by decide) (fun c5 => ?_) (fun c5 => ?_)
        · rw [if_pos c5] at hf
          refine lv_bipush (v := -4) hx hb dX1_inRing_32 (by decide) ?_
          obtain rfl := sp1 hf
          exact e_i ⟨hx, hb, hr, hlk⟩ hW hS dX1_inRing_34
        · rw [if_neg c5] at hf
          refine lv_aload_n hx hb dX1_inRing_23 rfl (lv_at hl 1 rfl) ?_
          refine lv_iload_n hx hb dX1_inRing_24 rfl (lv_at hl 3 rfl) ?_
          refine lv_iload_n hx hb dX1_inRing_25 rfl (lv_at hl 2 rfl) ?_
          obtain ⟨r7, h6, hf⟩ := ob1_some hf
          refine k_yX1_follow X hK hZ hW hS hl.1 h6 mlRX1_139 ⟨Nat.le_of_ble_eq_true rfl, Nat.le_of_ble_eq_true rfl⟩ ⟨Nat.le_of_ble_eq_true rfl, Nat.le_of_ble_eq_true rfl⟩ (Nat.le_of_ble_eq_true rfl) dX1_inRing_26 (fun H locs hW hS => ?_)
          refine lv_goto (tgt := 34) hx hb dX1_inRing_29 (by decide) ?_
          obtain rfl := sp1 hf
          exact e_i ⟨hx, hb, hr, hlk⟩ hW hS dX1_inRing_34
set_option maxRecDepth 100000 in
set_option maxHeartbeats 4000000 in
theorem c_yX1_inRing (l : Launch) (E : Lay) (ad : Nat → Nat → Nat) (M N : Mem) (x1 : Int32) (r : Int32) (hf : f_yX1_inRing M x1 = some r) : Met l yX1_inRing (Cond.code yX1_inRing cX1_inRing 4 (some .int) :: TB) (rmm 4 90) (va_Pc [.ref (ad 2 0), .int x1] (PB E ad (M, N))) (Qi E ad r (M, N)) 0 0 (ow E) := by
  refine Met.ofW (cc := cX1_inRing) (maxL := 4) (ret := (some .int)) (by decide) rfl ?_
  intro p e s m args below meth c s₁ B hml hv
  obtain ⟨rfl, hW, hK, hZ⟩ := hv
  have hT : ∀ w ∈ TB, w.before _ s = true := fun w h => atoms_spec (ws := (Cond.code yX1_inRing cX1_inRing 4 (some .int) :: TB)) B.pre w (List.mem_cons_of_mem _ h)
  have X : CX p s m _ meth c cX1_inRing 4 (some .int) RX1 := ⟨B.exec, B.bytes, hml, findClass_of_methodNamed B.named, hT, B.returns, B.notSynchronized⟩
  obtain ⟨hx, hb, hml, hown, hT, hr, hlk⟩ := id X
  have hS : va_S (ow E) s.heap s.heap [] := va_S.rf
  have hl := lv_entry ([.ref (ad 2 0), .int x1]) (n := 4) (Nat.le_of_ble_eq_true rfl)
  rw [lg_entry_eq]
  generalize (lg_sl ([.ref (ad 2 0), .int x1]) ++ List.replicate (4 - (lg_sl ([.ref (ad 2 0), .int x1])).length) Slot.unset).toArray = ls at hl ⊢
  have hl : lv_has ls 4 [(0, .ref (ad 2 0)), (1, .int x1)] := hl
  unfold f_yX1_inRing at hf
  refine lv_iconst (v := 0) hx hb dX1_inRing_0 (by decide) ?_
  refine lv_istore_n (lv' := [(2, .int 0), (0, .ref (ad 2 0)), (1, .int x1)]) hx hb dX1_inRing_1 rfl hl (by decide) rfl (fun ls hl => ?_)
  exact (l_yX1_inRing_2 l E ad N X hK hZ 70) _ _ _ _ hf _ _ _ hW hS (lv_sub hl [1, 2, 0] rfl)
set_option maxRecDepth 100000 in
set_option maxHeartbeats 4000000 in
theorem k_yX1_inRing {p : Program} {l : Launch} {e : Env} {R : Room} {s : State} {m : MethodId} {args : Array Value} {below : List Frame} {meth : Method} {c : Code} {H : Heap} {locs : List Loc} {cells slots : Nat} {Q : State → Prop} {cc : ByteArray} {pc nL index : Nat} {ret : Option FieldType} {own : String} {ls : Array Slot} {rest : List Value} {E : Lay} {ad : Nat → Nat → Nat} {M N : Mem} (X : CX p s m args meth c cc nL ret own) (hK : KK E s) (hZ : ZZ E s) (hW : WD E ad (M, N) H) (hS : va_S (ow E) s.heap H locs) (hsz : ls.size = nL) {x1 : Int32} {r : Int32} (hf : f_yX1_inRing M x1 = some r) (hn : Cond.methodLink own index yX1_inRing ∈ TB) (hR : 4 + 1 ≤ R.frames ∧ 8 + (4 + 11) + 90 ≤ R.locals) (hC : cells ≤ R.cells ∧ slots ≤ R.slots) (h8 : (rest.map fun v => v.category).sum ≤ 8) (hdg : decode cc pc = .ok (.invokevirtual index, 3)) (kk : ∀ (H1 : Heap) (locs1 : List Loc), WD E ad (M, N) H1 → va_S (ow E) s.heap H1 locs1 → W p l e R s m args below meth c H1 locs1 cells slots Q (F0 m (pc + 3) ls (.int r :: rest))) : W p l e R s m args below meth c H locs cells slots Q (F0 m pc ls (.int x1 :: .ref (ad 2 0) :: rest)) := by
  refine va_calli (va_runV (C := RX1) (As := [.int x1]) (rest := rest) ⟨X.1, X.2.1, X.2.2.1, X.2.2.2.1, X.2.2.2.2.1⟩ (c_yX1_inRing l E ad M N x1 r hf) (cwV 1 X.2.2.2.2.1 (gV hn im_yX1_inRing se_yX1_inRing iniRX1 cd_yX1_inRing) rfl rfl rfl (by decide +kernel) hR) ⟨fun a U g mk q => ⟨q.1, q.2.calling⟩, va_recv hK.1 (hW.at (c := 2) (i := 0) Nat.zero_lt_one rfl) (ci := 1) (q0 := 0) rfl rfl, fun U hU hw => ⟨rfl, PB.at hW hK hZ hS hU hw⟩⟩ rfl rfl hsz rfl (lv_room h8) hdg hC) hS (fun _ _ h => h) (fun _ h => h) (fun r' u t H1 locs1 ht hvm hw hB hz1 hk1 hS1 => ?_)
  obtain ⟨rfl, rfl⟩ := hw
  rw [ht] at hB
  exact kk H1 locs1 hB hS1
def f_yX8_ring (M : Mem) (x1 : Int32) : Option (Int32) := (if 0 ≤ x1 then ob1 (f_yX1_inRing M x1) (fun r3 => (some r3)) else (some (-1)))
set_option maxRecDepth 100000 in
set_option maxHeartbeats 4000000 in
theorem c_yX8_ring (l : Launch) (E : Lay) (ad : Nat → Nat → Nat) (M N : Mem) (x1 : Int32) (r : Int32) (hf : f_yX8_ring M x1 = some r) : Met l yX8_ring (Cond.code yX8_ring cX8_ring 2 (some .int) :: TB) (rmm 5 113) (va_Pc [.ref (ad 0 0), .int x1] (PB E ad (M, N))) (Qi E ad r (M, N)) 0 0 (ow E) := by
  refine Met.ofW (cc := cX8_ring) (maxL := 2) (ret := (some .int)) (by decide) rfl ?_
  intro p e s m args below meth c s₁ B hml hv
  obtain ⟨rfl, hW, hK, hZ⟩ := hv
  have hT : ∀ w ∈ TB, w.before _ s = true := fun w h => atoms_spec (ws := (Cond.code yX8_ring cX8_ring 2 (some .int) :: TB)) B.pre w (List.mem_cons_of_mem _ h)
  have X : CX p s m _ meth c cX8_ring 2 (some .int) RX8 := ⟨B.exec, B.bytes, hml, findClass_of_methodNamed B.named, hT, B.returns, B.notSynchronized⟩
  obtain ⟨hx, hb, hml, hown, hT, hr, hlk⟩ := id X
  have hS : va_S (ow E) s.heap s.heap [] := va_S.rf
  have hl := lv_entry ([.ref (ad 0 0), .int x1]) (n := 2) (Nat.le_of_ble_eq_true rfl)
  rw [lg_entry_eq]
  generalize (lg_sl ([.ref (ad 0 0), .int x1]) ++ List.replicate (2 - (lg_sl ([.ref (ad 0 0), .int x1])).length) Slot.unset).toArray = ls at hl ⊢
  have hl : lv_has ls 2 [(0, .ref (ad 0 0)), (1, .int x1)] := hl
  unfold f_yX8_ring at hf
  refine lv_iload_n hx hb dX8_ring_0 rfl (lv_at hl 1 rfl) ?_
  refine lv_if_ge (tgt := 8) hx hb dX8_ring_1 (by decide) (fun c1 => ?_) (fun c1 => ?_)
  · rw [if_pos c1] at hf
    refine lv_aload_n hx hb dX8_ring_8 rfl (lv_at hl 0 rfl) ?_
    refine g_8_1 X hK hW flRX8_21 dX8_ring_9 ?_
    refine lv_iload_n hx hb dX8_ring_12 rfl (lv_at hl 1 rfl) ?_
    obtain ⟨r3, h2, hf⟩ := ob1_some hf
    refine k_yX1_inRing X hK hZ hW hS hl.1 h2 mlRX8_209 ⟨Nat.le_of_ble_eq_true rfl, Nat.le_of_ble_eq_true rfl⟩ ⟨Nat.le_of_ble_eq_true rfl, Nat.le_of_ble_eq_true rfl⟩ (Nat.le_of_ble_eq_true rfl) dX8_ring_13 (fun H locs hW hS => ?_)
    obtain rfl := sp1 hf
    exact e_i ⟨hx, hb, hr, hlk⟩ hW hS dX8_ring_16
  · rw [if_neg c1] at hf
    refine lv_iconst (v := -1) hx hb dX8_ring_4 (by decide) ?_
    refine lv_goto (tgt := 16) hx hb dX8_ring_5 (by decide) ?_
    obtain rfl := sp1 hf
    exact e_i ⟨hx, hb, hr, hlk⟩ hW hS dX8_ring_16
set_option maxRecDepth 100000 in
set_option maxHeartbeats 4000000 in
theorem k_yX8_ring {p : Program} {l : Launch} {e : Env} {R : Room} {s : State} {m : MethodId} {args : Array Value} {below : List Frame} {meth : Method} {c : Code} {H : Heap} {locs : List Loc} {cells slots : Nat} {Q : State → Prop} {cc : ByteArray} {pc nL index : Nat} {ret : Option FieldType} {own : String} {ls : Array Slot} {rest : List Value} {E : Lay} {ad : Nat → Nat → Nat} {M N : Mem} (X : CX p s m args meth c cc nL ret own) (hK : KK E s) (hZ : ZZ E s) (hW : WD E ad (M, N) H) (hS : va_S (ow E) s.heap H locs) (hsz : ls.size = nL) {x1 : Int32} {r : Int32} (hf : f_yX8_ring M x1 = some r) (hn : Cond.methodLink own index yX8_ring ∈ TB) (hR : 5 + 1 ≤ R.frames ∧ 8 + (2 + 11) + 113 ≤ R.locals) (hC : cells ≤ R.cells ∧ slots ≤ R.slots) (h8 : (rest.map fun v => v.category).sum ≤ 8) (hdg : decode cc pc = .ok (.invokevirtual index, 3)) (kk : ∀ (H1 : Heap) (locs1 : List Loc), WD E ad (M, N) H1 → va_S (ow E) s.heap H1 locs1 → W p l e R s m args below meth c H1 locs1 cells slots Q (F0 m (pc + 3) ls (.int r :: rest))) : W p l e R s m args below meth c H locs cells slots Q (F0 m pc ls (.int x1 :: .ref (ad 0 0) :: rest)) := by
  refine va_calli (va_runV (C := RX8) (As := [.int x1]) (rest := rest) ⟨X.1, X.2.1, X.2.2.1, X.2.2.2.1, X.2.2.2.2.1⟩ (c_yX8_ring l E ad M N x1 r hf) (cwV 1 X.2.2.2.2.1 (gV hn im_yX8_ring se_yX8_ring iniRX8 cd_yX8_ring) rfl rfl rfl (by decide +kernel) hR) ⟨fun a U g mk q => ⟨q.1, q.2.calling⟩, va_recv hK.1 (hW.at (c := 0) (i := 0) Nat.zero_lt_one rfl) (ci := 8) (q0 := 0) rfl rfl, fun U hU hw => ⟨rfl, PB.at hW hK hZ hS hU hw⟩⟩ rfl rfl hsz rfl (lv_room h8) hdg hC) hS (fun _ _ h => h) (fun _ h => h) (fun r' u t H1 locs1 ht hvm hw hB hz1 hk1 hS1 => ?_)
  obtain ⟨rfl, rfl⟩ := hw
  rw [ht] at hB
  exact kk H1 locs1 hB hS1
def f_yX8_takeTurn (M : Mem) : Option (Int32 × Mem) := ob1 (f_yX1_passTime M) (fun M2 => (if (M2 0 0 0) = 0 then ob1 (f_yX1_firstReadyBehind M2 (M2 0 0 1)) (fun r32 => om r32 ((some ((-5), M2))) (fun j33 => gd (j33 < 6) (lt1 (mp M2 0 0 1 (nI j33)) (fun M35 => ob2 (f_yX0_perform M35 j33) (fun r38 M39 => ob1 (f_yX6_note M39 (nI j33) (M35 6 j33 3) r38) (fun M41 => (if r38 = 0 then (if (M41 6 j33 0) = 2 then ob1 (f_yX5_isAtEnd M41 j33) (fun r45 => (if r45 = 0 then (some ((nI j33), M41)) else ob1 (f_yX1_end M41 j33 0 0) (fun M48 => (some ((nI j33), M48))))) else (some ((nI j33), M41))) else lt1 (mp M41 6 j33 3 (M35 6 j33 3)) (fun M49 => ob1 (f_yX8_fail M49 j33 r38) (fun M51 => (if (M51 6 j33 0) = 2 then ob1 (f_yX5_isAtEnd M51 j33) (fun r54 => (if r54 = 0 then (some ((nI j33), M51)) else ob1 (f_yX1_end M51 j33 0 0) (fun M57 => (some ((nI j33), M57))))) else (some ((nI j33), M51)))))))))))) else ob1 (f_yX1_readyOfGreatestRank M2) (fun r5 => om r5 ((some ((-5), M2))) (fun j6 => gd (j6 < 6) (lt1 (mp M2 0 0 1 (nI j6)) (fun M8 => ob2 (f_yX0_perform M8 j6) (fun r11 M12 => ob1 (f_yX6_note M12 (nI j6) (M8 6 j6 3) r11) (fun M14 => (if r11 = 0 then (if (M14 6 j6 0) = 2 then ob1 (f_yX5_isAtEnd M14 j6) (fun r18 => (if r18 = 0 then (some ((nI j6), M14)) else ob1 (f_yX1_end M14 j6 0 0) (fun M21 => (some ((nI j6), M21))))) else (some ((nI j6), M14))) else lt1 (mp M14 6 j6 3 (M8 6 j6 3)) (fun M22 => ob1 (f_yX8_fail M22 j6 r11) (fun M24 => (if (M24 6 j6 0) = 2 then ob1 (f_yX5_isAtEnd M24 j6) (fun r27 => (if r27 = 0 then (some ((nI j6), M24)) else ob1 (f_yX1_end M24 j6 0 0) (fun M30 => (some ((nI j6), M30))))) else (some ((nI j6), M24))))))))))))))
set_option maxRecDepth 100000 in
set_option maxHeartbeats 4000000 in
theorem c_yX8_takeTurn (l : Launch) (E : Lay) (ad : Nat → Nat → Nat) (M N : Mem) (r : Int32) (Mr : Mem) (hf : f_yX8_takeTurn M = some (r, Mr)) : Met l yX8_takeTurn (Cond.code yX8_takeTurn cX8_takeTurn 4 (some .int) :: TB) (rmg 6 134 2 18) (va_Pc [.ref (ad 0 0)] (PB E ad (M, N))) (Gi E ad r (Mr, N)) 2 18 (ow E) := by
  refine Met.ofW (cc := cX8_takeTurn) (maxL := 4) (ret := (some .int)) (by decide) rfl ?_
  intro p e s m args below meth c s₁ B hml hv
  obtain ⟨rfl, hW, hK, hZ⟩ := hv
  have hT : ∀ w ∈ TB, w.before _ s = true := fun w h => atoms_spec (ws := (Cond.code yX8_takeTurn cX8_takeTurn 4 (some .int) :: TB)) B.pre w (List.mem_cons_of_mem _ h)
  have X : CX p s m _ meth c cX8_takeTurn 4 (some .int) RX8 := ⟨B.exec, B.bytes, hml, findClass_of_methodNamed B.named, hT, B.returns, B.notSynchronized⟩
  obtain ⟨hx, hb, hml, hown, hT, hr, hlk⟩ := id X
  have hS : va_S (ow E) s.heap s.heap [] := va_S.rf
  have hs0 := hW.low
  have hl := lv_entry ([.ref (ad 0 0)]) (n := 4) (Nat.le_of_ble_eq_true rfl)
  rw [lg_entry_eq]
  generalize (lg_sl ([.ref (ad 0 0)]) ++ List.replicate (4 - (lg_sl ([.ref (ad 0 0)])).length) Slot.unset).toArray = ls at hl ⊢
  have hl : lv_has ls 4 [(0, .ref (ad 0 0))] := hl
  unfold f_yX8_takeTurn at hf
  refine lv_aload_n hx hb dX8_takeTurn_0 rfl (lv_at hl 0 rfl) ?_
  refine g_8_1 X hK hW flRX8_21 dX8_takeTurn_1 ?_
  obtain ⟨M2, h1, hf⟩ := ob1_some hf
  refine k_yX1_passTime X hK hZ hW hS hl.1 h1 mlRX8_229 ⟨Nat.le_of_ble_eq_true rfl, Nat.le_of_ble_eq_true rfl⟩ ⟨Nat.le_of_ble_eq_true rfl, Nat.le_of_ble_eq_true rfl⟩ (Nat.le_of_ble_eq_true rfl) dX8_takeTurn_4 (fun H locs hW hS => ?_)
  refine lv_aload_n hx hb dX8_takeTurn_7 rfl (lv_at hl 0 rfl) ?_
  refine g_8_5 X hK hW flRX8_155 dX8_takeTurn_8 ?_
  refine lv_if_ne (tgt := 28) hx hb dX8_takeTurn_11 (by decide) (fun c3 => ?_) (fun c3 => ?_)
  · rw [if_neg c3] at hf
    refine lv_aload_n hx hb dX8_takeTurn_28 rfl (lv_at hl 0 rfl) ?_
    refine g_8_1 X hK hW flRX8_21 dX8_takeTurn_29 ?_
    obtain ⟨r5, h4, hf⟩ := ob1_some hf
    rcases r5 with _ | j6
    · rw [om_n] at hf
      refine k_yX1_readyOfGreatestRankn X hK hZ hW hS hl.1 h4 mlRX8_235 ⟨Nat.le_of_ble_eq_true rfl, Nat.le_of_ble_eq_true rfl⟩ ⟨Nat.le_of_ble_eq_true rfl, Nat.le_of_ble_eq_true rfl⟩ (Nat.le_of_ble_eq_true rfl) dX8_takeTurn_32 (fun H locs hW hS => ?_)
      refine lv_astore_nN (lv' := [(1, .null), (0, .ref (ad 0 0))]) hx hb dX8_takeTurn_35 rfl hl (by decide) rfl (fun ls hl => ?_)
      refine lv_aload_nN hx hb dX8_takeTurn_36 rfl (lv_at hl 0 rfl) ?_
      refine lv_ifnonnullN hx hb dX8_takeTurn_37 ?_
      refine lv_bipush (v := -5) hx hb dX8_takeTurn_40 (by decide) ?_
      obtain ⟨rfl, rfl⟩ := sp2 hf
      refine W.widen (k := 2) (n := 18) (by omega) (by omega) ?_
      exact eg_i ⟨hx, hb, hr, hlk⟩ ext.rf hW hS dX8_takeTurn_42
    · rw [om_s] at hf
      refine k_yX1_readyOfGreatestRanks X hK hZ hW hS hl.1 h4 mlRX8_235 ⟨Nat.le_of_ble_eq_true rfl, Nat.le_of_ble_eq_true rfl⟩ ⟨Nat.le_of_ble_eq_true rfl, Nat.le_of_ble_eq_true rfl⟩ (Nat.le_of_ble_eq_true rfl) dX8_takeTurn_32 (fun H locs hW hS => ?_)
      refine lv_astore_n (lv' := [(1, .ref (ad 6 j6)), (0, .ref (ad 0 0))]) hx hb dX8_takeTurn_35 rfl hl (by decide) rfl (fun ls hl => ?_)
      refine lv_aload_n hx hb dX8_takeTurn_36 rfl (lv_at hl 0 rfl) ?_
      refine lv_ifnonnull (tgt := 43) hx hb dX8_takeTurn_37 (by decide) ?_
      refine lv_aload_n hx hb dX8_takeTurn_43 rfl (lv_at hl 1 rfl) ?_
      refine lv_aload_n hx hb dX8_takeTurn_44 rfl (lv_at hl 0 rfl) ?_
      obtain ⟨v7, hf⟩ := gd_some hf
      refine g_5_0 X hK hW v7 flRX8_239 dX8_takeTurn_45 ?_
      obtain ⟨M8, hM8, hf⟩ := lt1_some hf
      refine p_8_6 X hK hW hS hM8 flRX8_48 dX8_takeTurn_48 (fun H locs hW hS => ?_)
      refine lv_aload_n hx hb dX8_takeTurn_51 rfl (lv_at hl 0 rfl) ?_
      refine g_5_7 X hK hW v7 flRX8_174 dX8_takeTurn_52 ?_
      refine lv_istore_n (lv' := [(2, .int (M8 6 j6 3)), (1, .ref (ad 6 j6)), (0, .ref (ad 0 0))]) hx hb dX8_takeTurn_55 rfl hl (by decide) rfl (fun ls hl => ?_)
      refine lv_aload_n hx hb dX8_takeTurn_56 rfl (lv_at hl 2 rfl) ?_
      refine g_8_2 X hK hW flRX8_30 dX8_takeTurn_57 ?_
      refine lv_aload_n hx hb dX8_takeTurn_60 rfl (lv_at hl 1 rfl) ?_
      obtain ⟨r11, M12, h9, hf⟩ := ob2_some hf
      refine k_yX0_perform X hK hZ hW hS hl.1 v7 h9 mlRX8_240 ⟨Nat.le_of_ble_eq_true rfl, Nat.le_of_ble_eq_true rfl⟩ ⟨Nat.le_of_ble_eq_true rfl, Nat.le_of_ble_eq_true rfl⟩ (Nat.le_of_ble_eq_true rfl) dX8_takeTurn_61 (fun ad10 H locs hEad10 hW hS => ?_)
      have hl : lv_has ls 4 [(2, .int (M8 6 j6 3)), (1, .ref (ad10 6 j6)), (0, .ref (ad10 0 0))] := by rw [hEad10 6 j6 (by decide) (by decide), hEad10 0 0 (by decide) (by decide)]; exact hl
      refine lv_istore_n (lv' := [(3, .int r11), (2, .int (M8 6 j6 3)), (1, .ref (ad10 6 j6)), (0, .ref (ad10 0 0))]) hx hb dX8_takeTurn_64 rfl hl (by decide) rfl (fun ls hl => ?_)
      refine lv_aload_n hx hb dX8_takeTurn_65 rfl (lv_at hl 3 rfl) ?_
      refine g_8_3 X hK hW flRX8_37 dX8_takeTurn_66 ?_
      refine lv_aload_n hx hb dX8_takeTurn_69 rfl (lv_at hl 2 rfl) ?_
      refine g_5_0 X hK hW v7 flRX8_239 dX8_takeTurn_70 ?_
      refine lv_iload_n hx hb dX8_takeTurn_73 rfl (lv_at hl 1 rfl) ?_
      refine lv_iload_n hx hb dX8_takeTurn_74 rfl (lv_at hl 0 rfl) ?_
      obtain ⟨M14, h13, hf⟩ := ob1_some hf
      refine k_yX6_note X hK hZ hW hS hl.1 h13 mlRX8_244 ⟨Nat.le_of_ble_eq_true rfl, Nat.le_of_ble_eq_true rfl⟩ ⟨Nat.le_of_ble_eq_true rfl, Nat.le_of_ble_eq_true rfl⟩ (Nat.le_of_ble_eq_true rfl) dX8_takeTurn_75 (fun H locs hW hS => ?_)
      refine lv_iload_n hx hb dX8_takeTurn_78 rfl (lv_at hl 0 rfl) ?_
      refine lv_if_eq (tgt := 93) hx hb dX8_takeTurn_79 (by decide) (fun c15 => ?_) (fun c15 => ?_)
      · rw [if_pos c15] at hf
        refine lv_aload_n hx hb dX8_takeTurn_93 rfl (lv_at hl 2 rfl) ?_
        refine g_5_4 X hK hW v7 flRX8_134 dX8_takeTurn_94 ?_
        refine lv_iconst (v := 2) hx hb dX8_takeTurn_97 (by decide) ?_
        refine lv_icmp_ne (tgt := 118) hx hb dX8_takeTurn_98 (by decide) (fun c16 => ?_) (fun c16 => ?_)
        · rw [if_neg c16] at hf
          refine lv_aload_n hx hb dX8_takeTurn_118 rfl (lv_at hl 2 rfl) ?_
          refine g_5_0 X hK hW v7 flRX8_239 dX8_takeTurn_119 ?_
          obtain ⟨rfl, rfl⟩ := sp2 hf
          exact eg_i ⟨hx, hb, hr, hlk⟩ hEad10 hW hS dX8_takeTurn_122
        · rw [if_pos c16] at hf
          refine lv_aload_n hx hb dX8_takeTurn_101 rfl (lv_at hl 2 rfl) ?_
          obtain ⟨r18, h17, hf⟩ := ob1_some hf
          refine k_yX5_isAtEnd X hK hZ hW hS hl.1 v7 h17 mlRX8_251 ⟨Nat.le_of_ble_eq_true rfl, Nat.le_of_ble_eq_true rfl⟩ ⟨Nat.le_of_ble_eq_true rfl, Nat.le_of_ble_eq_true rfl⟩ (Nat.le_of_ble_eq_true rfl) dX8_takeTurn_102 (fun H locs hW hS => ?_)
          refine lv_if_eq (tgt := 118) hx hb dX8_takeTurn_105 (by decide) (fun c19 => ?_) (fun c19 => ?_)
          · rw [if_pos c19] at hf
            refine lv_aload_n hx hb dX8_takeTurn_118 rfl (lv_at hl 2 rfl) ?_
            refine g_5_0 X hK hW v7 flRX8_239 dX8_takeTurn_119 ?_
            obtain ⟨rfl, rfl⟩ := sp2 hf
            exact eg_i ⟨hx, hb, hr, hlk⟩ hEad10 hW hS dX8_takeTurn_122
          · rw [if_neg c19] at hf
            refine lv_aload_n hx hb dX8_takeTurn_108 rfl (lv_at hl 3 rfl) ?_
            refine g_8_1 X hK hW flRX8_21 dX8_takeTurn_109 ?_
            refine lv_aload_n hx hb dX8_takeTurn_112 rfl (lv_at hl 2 rfl) ?_
            refine lv_iconst (v := 0) hx hb dX8_takeTurn_113 (by decide) ?_
            refine lv_iconst (v := 0) hx hb dX8_takeTurn_114 (by decide) ?_
            obtain ⟨M21, h20, hf⟩ := ob1_some hf
            refine k_yX1_end X hK hZ hW hS hl.1 v7 h20 mlRX8_254 ⟨Nat.le_of_ble_eq_true rfl, Nat.le_of_ble_eq_true rfl⟩ ⟨Nat.le_of_ble_eq_true rfl, Nat.le_of_ble_eq_true rfl⟩ (Nat.le_of_ble_eq_true rfl) dX8_takeTurn_115 (fun H locs hW hS => ?_)
            refine lv_aload_n hx hb dX8_takeTurn_118 rfl (lv_at hl 2 rfl) ?_
            refine g_5_0 X hK hW v7 flRX8_239 dX8_takeTurn_119 ?_
            obtain ⟨rfl, rfl⟩ := sp2 hf
            exact eg_i ⟨hx, hb, hr, hlk⟩ hEad10 hW hS dX8_takeTurn_122
      · rw [if_neg c15] at hf
        refine lv_aload_n hx hb dX8_takeTurn_82 rfl (lv_at hl 2 rfl) ?_
        refine lv_iload_n hx hb dX8_takeTurn_83 rfl (lv_at hl 1 rfl) ?_
        obtain ⟨M22, hM22, hf⟩ := lt1_some hf
        refine p_5_7 X hK hW hS v7 hM22 flRX8_174 dX8_takeTurn_84 (fun H locs hW hS => ?_)
        refine lv_aload_n hx hb dX8_takeTurn_87 rfl (lv_at hl 3 rfl) ?_
        refine lv_aload_n hx hb dX8_takeTurn_88 rfl (lv_at hl 2 rfl) ?_
        refine lv_iload_n hx hb dX8_takeTurn_89 rfl (lv_at hl 0 rfl) ?_
        obtain ⟨M24, h23, hf⟩ := ob1_some hf
        refine k_yX8_fail X hK hZ hW hS hl.1 v7 h23 mlRX8_247 ⟨Nat.le_of_ble_eq_true rfl, Nat.le_of_ble_eq_true rfl⟩ ⟨Nat.le_of_ble_eq_true rfl, Nat.le_of_ble_eq_true rfl⟩ (Nat.le_of_ble_eq_true rfl) dX8_takeTurn_90 (fun H locs hW hS => ?_)
        refine lv_aload_n hx hb dX8_takeTurn_93 rfl (lv_at hl 2 rfl) ?_
        refine g_5_4 X hK hW v7 flRX8_134 dX8_takeTurn_94 ?_
        refine lv_iconst (v := 2) hx hb dX8_takeTurn_97 (by decide) ?_
        refine lv_icmp_ne (tgt := 118) hx hb dX8_takeTurn_98 (by decide) (fun c25 => ?_) (fun c25 => ?_)
        · rw [if_neg c25] at hf
          refine lv_aload_n hx hb dX8_takeTurn_118 rfl (lv_at hl 2 rfl) ?_
          refine g_5_0 X hK hW v7 flRX8_239 dX8_takeTurn_119 ?_
          obtain ⟨rfl, rfl⟩ := sp2 hf
          exact eg_i ⟨hx, hb, hr, hlk⟩ hEad10 hW hS dX8_takeTurn_122
        · rw [if_pos c25] at hf
          refine lv_aload_n hx hb dX8_takeTurn_101 rfl (lv_at hl 2 rfl) ?_
          obtain ⟨r27, h26, hf⟩ := ob1_some hf
          refine k_yX5_isAtEnd X hK hZ hW hS hl.1 v7 h26 mlRX8_251 ⟨Nat.le_of_ble_eq_true rfl, Nat.le_of_ble_eq_true rfl⟩ ⟨Nat.le_of_ble_eq_true rfl, Nat.le_of_ble_eq_true rfl⟩ (Nat.le_of_ble_eq_true rfl) dX8_takeTurn_102 (fun H locs hW hS => ?_)
          refine lv_if_eq (tgt := 118) hx hb dX8_takeTurn_105 (by decide) (fun c28 => ?_) (fun c28 => ?_)
          · rw [if_pos c28] at hf
            refine lv_aload_n hx hb dX8_takeTurn_118 rfl (lv_at hl 2 rfl) ?_
            refine g_5_0 X hK hW v7 flRX8_239 dX8_takeTurn_119 ?_
            obtain ⟨rfl, rfl⟩ := sp2 hf
            exact eg_i ⟨hx, hb, hr, hlk⟩ hEad10 hW hS dX8_takeTurn_122
          · rw [if_neg c28] at hf
            refine lv_aload_n hx hb dX8_takeTurn_108 rfl (lv_at hl 3 rfl) ?_
            refine g_8_1 X hK hW flRX8_21 dX8_takeTurn_109 ?_
            refine lv_aload_n hx hb dX8_takeTurn_112 rfl (lv_at hl 2 rfl) ?_
            refine lv_iconst (v := 0) hx hb dX8_takeTurn_113 (by decide) ?_
            refine lv_iconst (v := 0) hx hb dX8_takeTurn_114 (by decide) ?_
            obtain ⟨M30, h29, hf⟩ := ob1_some hf
            refine k_yX1_end X hK hZ hW hS hl.1 v7 h29 mlRX8_254 ⟨Nat.le_of_ble_eq_true rfl, Nat.le_of_ble_eq_true rfl⟩ ⟨Nat.le_of_ble_eq_true rfl, Nat.le_of_ble_eq_true rfl⟩ (Nat.le_of_ble_eq_true rfl) dX8_takeTurn_115 (fun H locs hW hS => ?_)
            refine lv_aload_n hx hb dX8_takeTurn_118 rfl (lv_at hl 2 rfl) ?_
            refine g_5_0 X hK hW v7 flRX8_239 dX8_takeTurn_119 ?_
            obtain ⟨rfl, rfl⟩ := sp2 hf
            exact eg_i ⟨hx, hb, hr, hlk⟩ hEad10 hW hS dX8_takeTurn_122
  · rw [if_pos c3] at hf
    refine lv_aload_n hx hb dX8_takeTurn_14 rfl (lv_at hl 0 rfl) ?_
    refine g_8_1 X hK hW flRX8_21 dX8_takeTurn_15 ?_
    refine lv_aload_n hx hb dX8_takeTurn_18 rfl (lv_at hl 0 rfl) ?_
    refine g_8_6 X hK hW flRX8_48 dX8_takeTurn_19 ?_
    obtain ⟨r32, h31, hf⟩ := ob1_some hf
    rcases r32 with _ | j33
    · rw [om_n] at hf
      refine k_yX1_firstReadyBehindn X hK hZ hW hS hl.1 h31 mlRX8_232 ⟨Nat.le_of_ble_eq_true rfl, Nat.le_of_ble_eq_true rfl⟩ ⟨Nat.le_of_ble_eq_true rfl, Nat.le_of_ble_eq_true rfl⟩ (Nat.le_of_ble_eq_true rfl) dX8_takeTurn_22 (fun H locs hW hS => ?_)
      refine lv_goto (tgt := 35) hx hb dX8_takeTurn_25 (by decide) ?_
      refine lv_astore_nN (lv' := [(1, .null), (0, .ref (ad 0 0))]) hx hb dX8_takeTurn_35 rfl hl (by decide) rfl (fun ls hl => ?_)
      refine lv_aload_nN hx hb dX8_takeTurn_36 rfl (lv_at hl 0 rfl) ?_
      refine lv_ifnonnullN hx hb dX8_takeTurn_37 ?_
      refine lv_bipush (v := -5) hx hb dX8_takeTurn_40 (by decide) ?_
      obtain ⟨rfl, rfl⟩ := sp2 hf
      refine W.widen (k := 2) (n := 18) (by omega) (by omega) ?_
      exact eg_i ⟨hx, hb, hr, hlk⟩ ext.rf hW hS dX8_takeTurn_42
    · rw [om_s] at hf
      refine k_yX1_firstReadyBehinds X hK hZ hW hS hl.1 h31 mlRX8_232 ⟨Nat.le_of_ble_eq_true rfl, Nat.le_of_ble_eq_true rfl⟩ ⟨Nat.le_of_ble_eq_true rfl, Nat.le_of_ble_eq_true rfl⟩ (Nat.le_of_ble_eq_true rfl) dX8_takeTurn_22 (fun H locs hW hS => ?_)
      refine lv_goto (tgt := 35) hx hb dX8_takeTurn_25 (by decide) ?_
      refine lv_astore_n (lv' := [(1, .ref (ad 6 j33)), (0, .ref (ad 0 0))]) hx hb dX8_takeTurn_35 rfl hl (by decide) rfl (fun ls hl => ?_)
      refine lv_aload_n hx hb dX8_takeTurn_36 rfl (lv_at hl 0 rfl) ?_
      refine lv_ifnonnull (tgt := 43) hx hb dX8_takeTurn_37 (by decide) ?_
      refine lv_aload_n hx hb dX8_takeTurn_43 rfl (lv_at hl 1 rfl) ?_
      refine lv_aload_n hx hb dX8_takeTurn_44 rfl (lv_at hl 0 rfl) ?_
      obtain ⟨v34, hf⟩ := gd_some hf
      refine g_5_0 X hK hW v34 flRX8_239 dX8_takeTurn_45 ?_
      obtain ⟨M35, hM35, hf⟩ := lt1_some hf
      refine p_8_6 X hK hW hS hM35 flRX8_48 dX8_takeTurn_48 (fun H locs hW hS => ?_)
      refine lv_aload_n hx hb dX8_takeTurn_51 rfl (lv_at hl 0 rfl) ?_
      refine g_5_7 X hK hW v34 flRX8_174 dX8_takeTurn_52 ?_
      refine lv_istore_n (lv' := [(2, .int (M35 6 j33 3)), (1, .ref (ad 6 j33)), (0, .ref (ad 0 0))]) hx hb dX8_takeTurn_55 rfl hl (by decide) rfl (fun ls hl => ?_)
      refine lv_aload_n hx hb dX8_takeTurn_56 rfl (lv_at hl 2 rfl) ?_
      refine g_8_2 X hK hW flRX8_30 dX8_takeTurn_57 ?_
      refine lv_aload_n hx hb dX8_takeTurn_60 rfl (lv_at hl 1 rfl) ?_
      obtain ⟨r38, M39, h36, hf⟩ := ob2_some hf
      refine k_yX0_perform X hK hZ hW hS hl.1 v34 h36 mlRX8_240 ⟨Nat.le_of_ble_eq_true rfl, Nat.le_of_ble_eq_true rfl⟩ ⟨Nat.le_of_ble_eq_true rfl, Nat.le_of_ble_eq_true rfl⟩ (Nat.le_of_ble_eq_true rfl) dX8_takeTurn_61 (fun ad37 H locs hEad37 hW hS => ?_)
      have hl : lv_has ls 4 [(2, .int (M35 6 j33 3)), (1, .ref (ad37 6 j33)), (0, .ref (ad37 0 0))] := by rw [hEad37 6 j33 (by decide) (by decide), hEad37 0 0 (by decide) (by decide)]; exact hl
      refine lv_istore_n (lv' := [(3, .int r38), (2, .int (M35 6 j33 3)), (1, .ref (ad37 6 j33)), (0, .ref (ad37 0 0))]) hx hb dX8_takeTurn_64 rfl hl (by decide) rfl (fun ls hl => ?_)
      refine lv_aload_n hx hb dX8_takeTurn_65 rfl (lv_at hl 3 rfl) ?_
      refine g_8_3 X hK hW flRX8_37 dX8_takeTurn_66 ?_
      refine lv_aload_n hx hb dX8_takeTurn_69 rfl (lv_at hl 2 rfl) ?_
      refine g_5_0 X hK hW v34 flRX8_239 dX8_takeTurn_70 ?_
      refine lv_iload_n hx hb dX8_takeTurn_73 rfl (lv_at hl 1 rfl) ?_
      refine lv_iload_n hx hb dX8_takeTurn_74 rfl (lv_at hl 0 rfl) ?_
      obtain ⟨M41, h40, hf⟩ := ob1_some hf
      refine k_yX6_note X hK hZ hW hS hl.1 h40 mlRX8_244 ⟨Nat.le_of_ble_eq_true rfl, Nat.le_of_ble_eq_true rfl⟩ ⟨Nat.le_of_ble_eq_true rfl, Nat.le_of_ble_eq_true rfl⟩ (Nat.le_of_ble_eq_true rfl) dX8_takeTurn_75 (fun H locs hW hS => ?_)
      refine lv_iload_n hx hb dX8_takeTurn_78 rfl (lv_at hl 0 rfl) ?_
      refine lv_if_eq (tgt := 93) hx hb dX8_takeTurn_79 (by decide) (fun c42 => ?_) (fun c42 => ?_)
      · rw [if_pos c42] at hf
        refine lv_aload_n hx hb dX8_takeTurn_93 rfl (lv_at hl 2 rfl) ?_
        refine g_5_4 X hK hW v34 flRX8_134 dX8_takeTurn_94 ?_
        refine lv_iconst (v := 2) hx hb dX8_takeTurn_97 (by decide) ?_
        refine lv_icmp_ne (tgt := 118) hx hb dX8_takeTurn_98 (by decide) (fun c43 => ?_) (fun c43 => ?_)
        · rw [if_neg c43] at hf
          refine lv_aload_n hx hb dX8_takeTurn_118 rfl (lv_at hl 2 rfl) ?_
          refine g_5_0 X hK hW v34 flRX8_239 dX8_takeTurn_119 ?_
          obtain ⟨rfl, rfl⟩ := sp2 hf
          exact eg_i ⟨hx, hb, hr, hlk⟩ hEad37 hW hS dX8_takeTurn_122
        · rw [if_pos c43] at hf
          refine lv_aload_n hx hb dX8_takeTurn_101 rfl (lv_at hl 2 rfl) ?_
          obtain ⟨r45, h44, hf⟩ := ob1_some hf
          refine k_yX5_isAtEnd X hK hZ hW hS hl.1 v34 h44 mlRX8_251 ⟨Nat.le_of_ble_eq_true rfl, Nat.le_of_ble_eq_true rfl⟩ ⟨Nat.le_of_ble_eq_true rfl, Nat.le_of_ble_eq_true rfl⟩ (Nat.le_of_ble_eq_true rfl) dX8_takeTurn_102 (fun H locs hW hS => ?_)
          refine lv_if_eq (tgt := 118) hx hb dX8_takeTurn_105 (by decide) (fun c46 => ?_) (fun c46 => ?_)
          · rw [if_pos c46] at hf
            refine lv_aload_n hx hb dX8_takeTurn_118 rfl (lv_at hl 2 rfl) ?_
            refine g_5_0 X hK hW v34 flRX8_239 dX8_takeTurn_119 ?_
            obtain ⟨rfl, rfl⟩ := sp2 hf
            exact eg_i ⟨hx, hb, hr, hlk⟩ hEad37 hW hS dX8_takeTurn_122
          · rw [if_neg c46] at hf
            refine lv_aload_n hx hb dX8_takeTurn_108 rfl (lv_at hl 3 rfl) ?_
            refine g_8_1 X hK hW flRX8_21 dX8_takeTurn_109 ?_
            refine lv_aload_n hx hb dX8_takeTurn_112 rfl (lv_at hl 2 rfl) ?_
            refine lv_iconst (v := 0) hx hb dX8_takeTurn_113 (by decide) ?_
            refine lv_iconst (v := 0) hx hb dX8_takeTurn_114 (by decide) ?_
            obtain ⟨M48, h47, hf⟩ := ob1_some hf
            refine k_yX1_end X hK hZ hW hS hl.1 v34 h47 mlRX8_254 ⟨Nat.le_of_ble_eq_true rfl, Nat.le_of_ble_eq_true rfl⟩ ⟨Nat.le_of_ble_eq_true rfl, Nat.le_of_ble_eq_true rfl⟩ (Nat.le_of_ble_eq_true rfl) dX8_takeTurn_115 (fun H locs hW hS => ?_)
            refine lv_aload_n hx hb dX8_takeTurn_118 rfl (lv_at hl 2 rfl) ?_
            refine g_5_0 X hK hW v34 flRX8_239 dX8_takeTurn_119 ?_
            obtain ⟨rfl, rfl⟩ := sp2 hf
            exact eg_i ⟨hx, hb, hr, hlk⟩ hEad37 hW hS dX8_takeTurn_122
      · rw [if_neg c42] at hf
        refine lv_aload_n hx hb dX8_takeTurn_82 rfl (lv_at hl 2 rfl) ?_
        refine lv_iload_n hx hb dX8_takeTurn_83 rfl (lv_at hl 1 rfl) ?_
        obtain ⟨M49, hM49, hf⟩ := lt1_some hf
        refine p_5_7 X hK hW hS v34 hM49 flRX8_174 dX8_takeTurn_84 (fun H locs hW hS => ?_)
        refine lv_aload_n hx hb dX8_takeTurn_87 rfl (lv_at hl 3 rfl) ?_
        refine lv_aload_n hx hb dX8_takeTurn_88 rfl (lv_at hl 2 rfl) ?_
        refine lv_iload_n hx hb dX8_takeTurn_89 rfl (lv_at hl 0 rfl) ?_
        obtain ⟨M51, h50, hf⟩ := ob1_some hf
        refine k_yX8_fail X hK hZ hW hS hl.1 v34 h50 mlRX8_247 ⟨Nat.le_of_ble_eq_true rfl, Nat.le_of_ble_eq_true rfl⟩ ⟨Nat.le_of_ble_eq_true rfl, Nat.le_of_ble_eq_true rfl⟩ (Nat.le_of_ble_eq_true rfl) dX8_takeTurn_90 (fun H locs hW hS => ?_)
        refine lv_aload_n hx hb dX8_takeTurn_93 rfl (lv_at hl 2 rfl) ?_
        refine g_5_4 X hK hW v34 flRX8_134 dX8_takeTurn_94 ?_
        refine lv_iconst (v := 2) hx hb dX8_takeTurn_97 (by decide) ?_
        refine lv_icmp_ne (tgt := 118) hx hb dX8_takeTurn_98 (by decide) (fun c52 => ?_) (fun c52 => ?_)
        · rw [if_neg c52] at hf
          refine lv_aload_n hx hb dX8_takeTurn_118 rfl (lv_at hl 2 rfl) ?_
          refine g_5_0 X hK hW v34 flRX8_239 dX8_takeTurn_119 ?_
          obtain ⟨rfl, rfl⟩ := sp2 hf
          exact eg_i ⟨hx, hb, hr, hlk⟩ hEad37 hW hS dX8_takeTurn_122
        · rw [if_pos c52] at hf
          refine lv_aload_n hx hb dX8_takeTurn_101 rfl (lv_at hl 2 rfl) ?_
          obtain ⟨r54, h53, hf⟩ := ob1_some hf
          refine k_yX5_isAtEnd X hK hZ hW hS hl.1 v34 h53 mlRX8_251 ⟨Nat.le_of_ble_eq_true rfl, Nat.le_of_ble_eq_true rfl⟩ ⟨Nat.le_of_ble_eq_true rfl, Nat.le_of_ble_eq_true rfl⟩ (Nat.le_of_ble_eq_true rfl) dX8_takeTurn_102 (fun H locs hW hS => ?_)
          refine lv_if_eq (tgt := 118) hx hb dX8_takeTurn_105 (by decide) (fun c55 => ?_) (fun c55 => ?_)
          · rw [if_pos c55] at hf
            refine lv_aload_n hx hb dX8_takeTurn_118 rfl (lv_at hl 2 rfl) ?_
            refine g_5_0 X hK hW v34 flRX8_239 dX8_takeTurn_119 ?_
            obtain ⟨rfl, rfl⟩ := sp2 hf
            exact eg_i ⟨hx, hb, hr, hlk⟩ hEad37 hW hS dX8_takeTurn_122
          · rw [if_neg c55] at hf
            refine lv_aload_n hx hb dX8_takeTurn_108 rfl (lv_at hl 3 rfl) ?_
            refine g_8_1 X hK hW flRX8_21 dX8_takeTurn_109 ?_
            refine lv_aload_n hx hb dX8_takeTurn_112 rfl (lv_at hl 2 rfl) ?_
            refine lv_iconst (v := 0) hx hb dX8_takeTurn_113 (by decide) ?_
            refine lv_iconst (v := 0) hx hb dX8_takeTurn_114 (by decide) ?_
            obtain ⟨M57, h56, hf⟩ := ob1_some hf
            refine k_yX1_end X hK hZ hW hS hl.1 v34 h56 mlRX8_254 ⟨Nat.le_of_ble_eq_true rfl, Nat.le_of_ble_eq_true rfl⟩ ⟨Nat.le_of_ble_eq_true rfl, Nat.le_of_ble_eq_true rfl⟩ (Nat.le_of_ble_eq_true rfl) dX8_takeTurn_115 (fun H locs hW hS => ?_)
            refine lv_aload_n hx hb dX8_takeTurn_118 rfl (lv_at hl 2 rfl) ?_
            refine g_5_0 X hK hW v34 flRX8_239 dX8_takeTurn_119 ?_
            obtain ⟨rfl, rfl⟩ := sp2 hf
            exact eg_i ⟨hx, hb, hr, hlk⟩ hEad37 hW hS dX8_takeTurn_122
set_option maxRecDepth 100000 in
set_option maxHeartbeats 4000000 in
theorem k_yX8_takeTurn {p : Program} {l : Launch} {e : Env} {R : Room} {s : State} {m : MethodId} {args : Array Value} {below : List Frame} {meth : Method} {c : Code} {H : Heap} {locs : List Loc} {cells slots : Nat} {Q : State → Prop} {cc : ByteArray} {pc nL index : Nat} {ret : Option FieldType} {own : String} {ls : Array Slot} {rest : List Value} {E : Lay} {ad : Nat → Nat → Nat} {M N : Mem} (X : CX p s m args meth c cc nL ret own) (hK : KK E s) (hZ : ZZ E s) (hW : WD E ad (M, N) H) (hS : va_S (ow E) s.heap H locs) (hsz : ls.size = nL) {r : Int32} {Mr : Mem} (hf : f_yX8_takeTurn M = some (r, Mr)) (hn : Cond.methodLink own index yX8_takeTurn ∈ TB) (hR : 6 + 1 ≤ R.frames ∧ 8 + (4 + 11) + 134 ≤ R.locals) (hC : cells + 2 ≤ R.cells ∧ slots + 18 ≤ R.slots) (h8 : (rest.map fun v => v.category).sum ≤ 8) (hdg : decode cc pc = .ok (.invokevirtual index, 3)) (kk : ∀ (ad1 : Nat → Nat → Nat) (H1 : Heap) (locs1 : List Loc), ext ad ad1 → WD E ad1 (Mr, N) H1 → va_S (ow E) s.heap H1 locs1 → W p l e R s m args below meth c H1 locs1 (cells + 2) (slots + 18) Q (F0 m (pc + 3) ls (.int r :: rest))) : W p l e R s m args below meth c H locs cells slots Q (F0 m pc ls (.ref (ad 0 0) :: rest)) := by
  refine va_calli (va_runV (C := RX8) (As := []) (rest := rest) ⟨X.1, X.2.1, X.2.2.1, X.2.2.2.1, X.2.2.2.2.1⟩ (c_yX8_takeTurn l E ad M N r Mr hf) (cwV 0 X.2.2.2.2.1 (gV hn im_yX8_takeTurn se_yX8_takeTurn iniRX8 cd_yX8_takeTurn) rfl rfl rfl (by decide +kernel) hR) ⟨fun a U g mk q => ⟨q.1, q.2.calling⟩, va_recv hK.1 (hW.at (c := 0) (i := 0) Nat.zero_lt_one rfl) (ci := 8) (q0 := 0) rfl rfl, fun U hU hw => ⟨rfl, PB.at hW hK hZ hS hU hw⟩⟩ rfl rfl hsz rfl (lv_room h8) hdg hC) hS (fun _ _ h => h) (fun _ h => h) (fun r' u t H1 locs1 ht hvm hw hB hz1 hk1 hS1 => ?_)
  obtain ⟨ad1, P1⟩ := u
  obtain ⟨rfl, hu, hE⟩ := hw
  dsimp only at hu hE hB
  subst hu
  rw [ht] at hB
  exact kk ad1 H1 locs1 hE hB hS1
def f_yX8_turn (M : Mem) : Option (Int32 × Mem) := (if (M 4 0 0) < 3000 then ob1 (f_yX1_isOver M) (fun r3 => (if r3 = 0 then ob1 (f_yX1_isStuck M) (fun r6 => (if r6 = 0 then ob2 (f_yX8_takeTurn M) (fun r10 M11 => (some (r10, M11))) else (some ((-6), M)))) else (some ((-7), M)))) else (some ((-3), M)))
set_option maxRecDepth 100000 in
set_option maxHeartbeats 4000000 in
theorem c_yX8_turn (l : Launch) (E : Lay) (ad : Nat → Nat → Nat) (M N : Mem) (r : Int32) (Mr : Mem) (hf : f_yX8_turn M = some (r, Mr)) : Met l yX8_turn (Cond.code yX8_turn cX8_turn 1 (some .int) :: TB) (rmg 7 157 2 18) (va_Pc [.ref (ad 0 0)] (PB E ad (M, N))) (Gi E ad r (Mr, N)) 2 18 (ow E) := by
  refine Met.ofW (cc := cX8_turn) (maxL := 1) (ret := (some .int)) (by decide) rfl ?_
  intro p e s m args below meth c s₁ B hml hv
  obtain ⟨rfl, hW, hK, hZ⟩ := hv
  have hT : ∀ w ∈ TB, w.before _ s = true := fun w h => atoms_spec (ws := (Cond.code yX8_turn cX8_turn 1 (some .int) :: TB)) B.pre w (List.mem_cons_of_mem _ h)
  have X : CX p s m _ meth c cX8_turn 1 (some .int) RX8 := ⟨B.exec, B.bytes, hml, findClass_of_methodNamed B.named, hT, B.returns, B.notSynchronized⟩
  obtain ⟨hx, hb, hml, hown, hT, hr, hlk⟩ := id X
  have hS : va_S (ow E) s.heap s.heap [] := va_S.rf
  have hs0 := hW.low
  have hl := lv_entry ([.ref (ad 0 0)]) (n := 1) (Nat.le_of_ble_eq_true rfl)
  rw [lg_entry_eq]
  generalize (lg_sl ([.ref (ad 0 0)]) ++ List.replicate (1 - (lg_sl ([.ref (ad 0 0)])).length) Slot.unset).toArray = ls at hl ⊢
  have hl : lv_has ls 1 [(0, .ref (ad 0 0))] := hl
  unfold f_yX8_turn at hf
  refine lv_aload_n hx hb dX8_turn_0 rfl (lv_at hl 0 rfl) ?_
  refine g_8_3 X hK hW flRX8_37 dX8_turn_1 ?_
  refine g_6_2 X hK hW flRX8_161 dX8_turn_4 ?_
  refine lv_sipush (v := 3000) hx hb dX8_turn_7 (by decide) ?_
  refine lv_icmp_lt (tgt := 16) hx hb dX8_turn_10 (by decide) (fun c1 => ?_) (fun c1 => ?_)
  · rw [if_pos c1] at hf
    refine lv_aload_n hx hb dX8_turn_16 rfl (lv_at hl 0 rfl) ?_
    refine g_8_1 X hK hW flRX8_21 dX8_turn_17 ?_
    obtain ⟨r3, h2, hf⟩ := ob1_some hf
    refine k_yX1_isOver X hK hZ hW hS hl.1 h2 mlRX8_164 ⟨Nat.le_of_ble_eq_true rfl, Nat.le_of_ble_eq_true rfl⟩ ⟨Nat.le_of_ble_eq_true rfl, Nat.le_of_ble_eq_true rfl⟩ (Nat.le_of_ble_eq_true rfl) dX8_turn_20 (fun H locs hW hS => ?_)
    refine lv_if_eq (tgt := 29) hx hb dX8_turn_23 (by decide) (fun c4 => ?_) (fun c4 => ?_)
    · rw [if_pos c4] at hf
      refine lv_aload_n hx hb dX8_turn_29 rfl (lv_at hl 0 rfl) ?_
      refine g_8_1 X hK hW flRX8_21 dX8_turn_30 ?_
      obtain ⟨r6, h5, hf⟩ := ob1_some hf
      refine k_yX1_isStuck X hK hZ hW hS hl.1 h5 mlRX8_167 ⟨Nat.le_of_ble_eq_true rfl, Nat.le_of_ble_eq_true rfl⟩ ⟨Nat.le_of_ble_eq_true rfl, Nat.le_of_ble_eq_true rfl⟩ (Nat.le_of_ble_eq_true rfl) dX8_turn_33 (fun H locs hW hS => ?_)
      refine lv_if_eq (tgt := 44) hx hb dX8_turn_36 (by decide) (fun c7 => ?_) (fun c7 => ?_)
      · rw [if_pos c7] at hf
        refine lv_aload_n hx hb dX8_turn_44 rfl (lv_at hl 0 rfl) ?_
        obtain ⟨r10, M11, h8, hf⟩ := ob2_some hf
        refine k_yX8_takeTurn X hK hZ hW hS hl.1 h8 mlRX8_170 ⟨Nat.le_of_ble_eq_true rfl, Nat.le_of_ble_eq_true rfl⟩ ⟨Nat.le_of_ble_eq_true rfl, Nat.le_of_ble_eq_true rfl⟩ (Nat.le_of_ble_eq_true rfl) dX8_turn_45 (fun ad9 H locs hEad9 hW hS => ?_)
        have hl : lv_has ls 1 [(0, .ref (ad9 0 0))] := by rw [hEad9 0 0 (by decide) (by decide)]; exact hl
        obtain ⟨rfl, rfl⟩ := sp2 hf
        exact eg_i ⟨hx, hb, hr, hlk⟩ hEad9 hW hS dX8_turn_48
      · rw [if_neg c7] at hf
        refine lv_bipush (v := -6) hx hb dX8_turn_39 (by decide) ?_
        refine lv_goto (tgt := 48) hx hb dX8_turn_41 (by decide) ?_
        obtain ⟨rfl, rfl⟩ := sp2 hf
        refine W.widen (k := 2) (n := 18) (by omega) (by omega) ?_
        exact eg_i ⟨hx, hb, hr, hlk⟩ ext.rf hW hS dX8_turn_48
    · rw [if_neg c4] at hf
      refine lv_bipush (v := -7) hx hb dX8_turn_26 (by decide) ?_
      obtain ⟨rfl, rfl⟩ := sp2 hf
      refine W.widen (k := 2) (n := 18) (by omega) (by omega) ?_
      exact eg_i ⟨hx, hb, hr, hlk⟩ ext.rf hW hS dX8_turn_28
  · rw [if_neg c1] at hf
    refine lv_bipush (v := -3) hx hb dX8_turn_13 (by decide) ?_
    obtain ⟨rfl, rfl⟩ := sp2 hf
    refine W.widen (k := 2) (n := 18) (by omega) (by omega) ?_
    exact eg_i ⟨hx, hb, hr, hlk⟩ ext.rf hW hS dX8_turn_15
set_option maxRecDepth 100000 in
set_option maxHeartbeats 4000000 in
theorem k_yX8_turn {p : Program} {l : Launch} {e : Env} {R : Room} {s : State} {m : MethodId} {args : Array Value} {below : List Frame} {meth : Method} {c : Code} {H : Heap} {locs : List Loc} {cells slots : Nat} {Q : State → Prop} {cc : ByteArray} {pc nL index : Nat} {ret : Option FieldType} {own : String} {ls : Array Slot} {rest : List Value} {E : Lay} {ad : Nat → Nat → Nat} {M N : Mem} (X : CX p s m args meth c cc nL ret own) (hK : KK E s) (hZ : ZZ E s) (hW : WD E ad (M, N) H) (hS : va_S (ow E) s.heap H locs) (hsz : ls.size = nL) {r : Int32} {Mr : Mem} (hf : f_yX8_turn M = some (r, Mr)) (hn : Cond.methodLink own index yX8_turn ∈ TB) (hR : 7 + 1 ≤ R.frames ∧ 8 + (1 + 11) + 157 ≤ R.locals) (hC : cells + 2 ≤ R.cells ∧ slots + 18 ≤ R.slots) (h8 : (rest.map fun v => v.category).sum ≤ 8) (hdg : decode cc pc = .ok (.invokevirtual index, 3)) (kk : ∀ (ad1 : Nat → Nat → Nat) (H1 : Heap) (locs1 : List Loc), ext ad ad1 → WD E ad1 (Mr, N) H1 → va_S (ow E) s.heap H1 locs1 → W p l e R s m args below meth c H1 locs1 (cells + 2) (slots + 18) Q (F0 m (pc + 3) ls (.int r :: rest))) : W p l e R s m args below meth c H locs cells slots Q (F0 m pc ls (.ref (ad 0 0) :: rest)) := by
  refine va_calli (va_runV (C := RX8) (As := []) (rest := rest) ⟨X.1, X.2.1, X.2.2.1, X.2.2.2.1, X.2.2.2.2.1⟩ (c_yX8_turn l E ad M N r Mr hf) (cwV 0 X.2.2.2.2.1 (gV hn im_yX8_turn se_yX8_turn iniRX8 cd_yX8_turn) rfl rfl rfl (by decide +kernel) hR) ⟨fun a U g mk q => ⟨q.1, q.2.calling⟩, va_recv hK.1 (hW.at (c := 0) (i := 0) Nat.zero_lt_one rfl) (ci := 8) (q0 := 0) rfl rfl, fun U hU hw => ⟨rfl, PB.at hW hK hZ hS hU hw⟩⟩ rfl rfl hsz rfl (lv_room h8) hdg hC) hS (fun _ _ h => h) (fun _ h => h) (fun r' u t H1 locs1 ht hvm hw hB hz1 hk1 hS1 => ?_)
  obtain ⟨ad1, P1⟩ := u
  obtain ⟨rfl, hu, hE⟩ := hw
  dsimp only at hu hE hB
  subst hu
  rw [ht] at hB
  exact kk ad1 H1 locs1 hE hB hS1
def f_yX8_run_L31 : Nat → Mem → Int32 → Int32 → Option (Int32 × Mem)
  | 0, _, _, _ => none
  | n + 1, M0, y1, y2 => (if y1 ≤ y2 then (some (y2, M0)) else ob1 (f_yX1_isOver M0) (fun r6 => (if r6 = 0 then ob1 (f_yX1_isStuck M0) (fun r9 => (if r9 = 0 then ob2 (f_yX8_takeTurn M0) (fun r13 M14 => (f_yX8_run_L31 n M14 y1 (y2 + 1))) else (some (y2, M0)))) else (some (y2, M0)))))
def f_yX8_run (M : Mem) (x1 : Int32) : Option (Int32 × Mem) := (if x1 < 1 then (some ((-1), M)) else (if x1 ≤ 60 then (if (M 4 0 0) < 3000 then (f_yX8_run_L31 61 M x1 0) else (some ((-3), M))) else (some ((-1), M))))
set_option maxRecDepth 100000 in
set_option maxHeartbeats 4000000 in
theorem l_yX8_run_31 (l : Launch) (E : Lay) (ad : Nat → Nat → Nat) (N : Mem) {p : Program} {e : Env} {s : State} {m : MethodId} {args : Array Value} {below : List Frame} {meth : Method} {c : Code} (X : CX p s m args meth c cX8_run 3 (some .int) RX8) (hK : KK E s) (hZ : ZZ E s) : ∀ (n : Nat) (hn : n ≤ 61) (ad0 : Nat → Nat → Nat) (hE0 : ext ad ad0) (M0 : Mem) (y1 : Int32) (y2 : Int32) (r : Int32) (Mr : Mem) (hf : f_yX8_run_L31 n M0 y1 y2 = some (r, Mr)) (H : Heap) (locs : List Loc) (ls : Array Slot), WD E ad0 (M0, N) H → va_S (ow E) s.heap H locs → lv_has ls 3 [(0, .ref (ad0 0 0)), (1, .int y1), (2, .int y2)] → W p l e (rmg 7 157 122 1098) s m args below meth c H locs (2 * (61 - n)) (18 * (61 - n)) (MQ below (Gi E ad r (Mr, N)) args s 122 1098 (ow E)) (F0 m 31 ls []) := by
  obtain ⟨hx, hb, hml, hown, hT, hr, hlk⟩ := id X
  intro n
  induction n with
  | zero =>
    intro hn ad0 hE0 M0 y1 y2 r Mr hf
    rw [f_yX8_run_L31] at hf
    cases hf
  | succ n ih =>
    intro hn ad0 hE0 M0 y1 y2 r Mr hf H locs ls hW hS hl
    rw [f_yX8_run_L31] at hf
    refine lv_iload_n hx hb dX8_run_31 rfl (lv_at hl 2 rfl) ?_
    refine lv_iload_n hx hb dX8_run_32 rfl (lv_at hl 1 rfl) ?_
    refine lv_icmp_ge (tgt := 67) hx hb dX8_run_33 (by decide) (fun c4 => ?_) (fun c4 => ?_)
    · rw [if_pos c4] at hf
      refine lv_iload_n hx hb dX8_run_67 rfl (lv_at hl 2 rfl) ?_
      obtain ⟨rfl, rfl⟩ := sp2 hf
      refine W.widen (k := 122) (n := 1098) (by omega) (by omega) ?_
      exact eg_i ⟨hx, hb, hr, hlk⟩ hE0 hW hS dX8_run_68
    · rw [if_neg c4] at hf
      refine lv_aload_n hx hb dX8_run_36 rfl (lv_at hl 0 rfl) ?_
      refine g_8_1 X hK hW flRX8_21 dX8_run_37 ?_
      obtain ⟨r6, h5, hf⟩ := ob1_some hf
      refine k_yX1_isOver X hK hZ hW hS hl.1 h5 mlRX8_164 ⟨Nat.le_of_ble_eq_true rfl, Nat.le_of_ble_eq_true rfl⟩ ⟨by show 2 * (61 - (n + 1)) ≤ 122; omega, by show 18 * (61 - (n + 1)) ≤ 1098; omega⟩ (Nat.le_of_ble_eq_true rfl) dX8_run_40 (fun H locs hW hS => ?_)
      refine lv_if_ne (tgt := 67) hx hb dX8_run_43 (by decide) (fun c7 => ?_) (fun c7 => ?_)
      · rw [if_neg c7] at hf
        refine lv_iload_n hx hb dX8_run_67 rfl (lv_at hl 2 rfl) ?_
        obtain ⟨rfl, rfl⟩ := sp2 hf
        refine W.widen (k := 122) (n := 1098) (by omega) (by omega) ?_
        exact eg_i ⟨hx, hb, hr, hlk⟩ hE0 hW hS dX8_run_68
      · rw [if_pos c7] at hf
        refine lv_aload_n hx hb dX8_run_46 rfl (lv_at hl 0 rfl) ?_
        refine g_8_1 X hK hW flRX8_21 dX8_run_47 ?_
        obtain ⟨r9, h8, hf⟩ := ob1_some hf
        refine k_yX1_isStuck X hK hZ hW hS hl.1 h8 mlRX8_167 ⟨Nat.le_of_ble_eq_true rfl, Nat.le_of_ble_eq_true rfl⟩ ⟨by show 2 * (61 - (n + 1)) ≤ 122; omega, by show 18 * (61 - (n + 1)) ≤ 1098; omega⟩ (Nat.le_of_ble_eq_true rfl) dX8_run_50 (fun H locs hW hS => ?_)
        refine lv_if_ne (tgt := 67) hx hb dX8_run_53 (by decide) (fun c10 => ?_) (fun c10 => ?_)
        · rw [if_neg c10] at hf
          refine lv_iload_n hx hb dX8_run_67 rfl (lv_at hl 2 rfl) ?_
          obtain ⟨rfl, rfl⟩ := sp2 hf
          refine W.widen (k := 122) (n := 1098) (by omega) (by omega) ?_
          exact eg_i ⟨hx, hb, hr, hlk⟩ hE0 hW hS dX8_run_68
        · rw [if_pos c10] at hf
          refine lv_aload_n hx hb dX8_run_56 rfl (lv_at hl 0 rfl) ?_
          obtain ⟨r13, M14, h11, hf⟩ := ob2_some hf
          refine k_yX8_takeTurn X hK hZ hW hS hl.1 h11 mlRX8_170 ⟨Nat.le_of_ble_eq_true rfl, Nat.le_of_ble_eq_true rfl⟩ ⟨by show 2 * (61 - (n + 1)) + 2 ≤ 122; omega, by show 18 * (61 - (n + 1)) + 18 ≤ 1098; omega⟩ (Nat.le_of_ble_eq_true rfl) dX8_run_57 (fun ad12 H locs hEad12 hW hS => ?_)
          have hl : lv_has ls 3 [(0, .ref (ad12 0 0)), (1, .int y1), (2, .int y2)] := by rw [hEad12 0 0 (by decide) (by decide)]; exact hl
          refine lv_pop hx hb dX8_run_60 rfl ?_
          refine lv_iinc (v := (y2 + 1)) (lv' := [(2, .int (y2 + 1)), (0, .ref (ad12 0 0)), (1, .int y1)]) hx hb dX8_run_61 hl (k := 2) rfl rfl (by decide) rfl (fun ls hl => ?_)
          refine lv_goto (tgt := 31) hx hb dX8_run_64 (by decide) ?_
          refine W.widen (k := 2 * (61 - n)) (n := 18 * (61 - n)) (by omega) (by omega) ?_
          exact ih (by omega) ad12 (hE0.tr hEad12) _ _ _ _ _ hf _ _ _ hW hS (lv_sub hl [1, 2, 0] rfl)
set_option maxRecDepth 100000 in
set_option maxHeartbeats 4000000 in
theorem c_yX8_run (l : Launch) (E : Lay) (ad : Nat → Nat → Nat) (M N : Mem) (x1 : Int32) (r : Int32) (Mr : Mem) (hf : f_yX8_run M x1 = some (r, Mr)) : Met l yX8_run (Cond.code yX8_run cX8_run 3 (some .int) :: TB) (rmg 7 157 122 1098) (va_Pc [.ref (ad 0 0), .int x1] (PB E ad (M, N))) (Gi E ad r (Mr, N)) 122 1098 (ow E) := by
  refine Met.ofW (cc := cX8_run) (maxL := 3) (ret := (some .int)) (by decide) rfl ?_
  intro p e s m args below meth c s₁ B hml hv
  obtain ⟨rfl, hW, hK, hZ⟩ := hv
  have hT : ∀ w ∈ TB, w.before _ s = true := fun w h => atoms_spec (ws := (Cond.code yX8_run cX8_run 3 (some .int) :: TB)) B.pre w (List.mem_cons_of_mem _ h)
  have X : CX p s m _ meth c cX8_run 3 (some .int) RX8 := ⟨B.exec, B.bytes, hml, findClass_of_methodNamed B.named, hT, B.returns, B.notSynchronized⟩
  obtain ⟨hx, hb, hml, hown, hT, hr, hlk⟩ := id X
  have hS : va_S (ow E) s.heap s.heap [] := va_S.rf
  have hs0 := hW.low
  have hl := lv_entry ([.ref (ad 0 0), .int x1]) (n := 3) (Nat.le_of_ble_eq_true rfl)
  rw [lg_entry_eq]
  generalize (lg_sl ([.ref (ad 0 0), .int x1]) ++ List.replicate (3 - (lg_sl ([.ref (ad 0 0), .int x1])).length) Slot.unset).toArray = ls at hl ⊢
  have hl : lv_has ls 3 [(0, .ref (ad 0 0)), (1, .int x1)] := hl
  unfold f_yX8_run at hf
  refine lv_iload_n hx hb dX8_run_0 rfl (lv_at hl 1 rfl) ?_
  refine lv_iconst (v := 1) hx hb dX8_run_1 (by decide) ?_
  refine lv_icmp_lt (tgt := 11) hx hb dX8_run_2 (by decide) (fun c1 => ?_) (fun c1 => ?_)
  · rw [if_pos c1] at hf
    refine lv_iconst (v := -1) hx hb dX8_run_11 (by decide) ?_
    obtain ⟨rfl, rfl⟩ := sp2 hf
    refine W.widen (k := 122) (n := 1098) (by omega) (by omega) ?_
    exact eg_i ⟨hx, hb, hr, hlk⟩ ext.rf hW hS dX8_run_12
  · rw [if_neg c1] at hf
    refine lv_iload_n hx hb dX8_run_5 rfl (lv_at hl 1 rfl) ?_
    refine lv_bipush (v := 60) hx hb dX8_run_6 (by decide) ?_
    refine lv_icmp_le (tgt := 13) hx hb dX8_run_8 (by decide) (fun c2 => ?_) (fun c2 => ?_)
    · rw [if_pos c2] at hf
      refine lv_aload_n hx hb dX8_run_13 rfl (lv_at hl 0 rfl) ?_
      refine g_8_3 X hK hW flRX8_37 dX8_run_14 ?_
      refine g_6_2 X hK hW flRX8_161 dX8_run_17 ?_
      refine lv_sipush (v := 3000) hx hb dX8_run_20 (by decide) ?_
      refine lv_icmp_lt (tgt := 29) hx hb dX8_run_23 (by decide) (fun c3 => ?_) (fun c3 => ?_)
      · rw [if_pos c3] at hf
        refine lv_iconst (v := 0) hx hb dX8_run_29 (by decide) ?_
        refine lv_istore_n (lv' := [(2, .int 0), (0, .ref (ad 0 0)), (1, .int x1)]) hx hb dX8_run_30 rfl hl (by decide) rfl (fun ls hl => ?_)
        exact (l_yX8_run_31 l E ad N X hK hZ 61) (by omega) ad ext.rf _ _ _ _ _ hf _ _ _ hW hS (lv_sub hl [1, 2, 0] rfl)
      · rw [if_neg c3] at hf
        refine lv_bipush (v := -3) hx hb dX8_run_26 (by decide) ?_
        obtain ⟨rfl, rfl⟩ := sp2 hf
        refine W.widen (k := 122) (n := 1098) (by omega) (by omega) ?_
        exact eg_i ⟨hx, hb, hr, hlk⟩ ext.rf hW hS dX8_run_28
    · rw [if_neg c2] at hf
      refine lv_iconst (v := -1) hx hb dX8_run_11 (by decide) ?_
      obtain ⟨rfl, rfl⟩ := sp2 hf
      refine W.widen (k := 122) (n := 1098) (by omega) (by omega) ?_
      exact eg_i ⟨hx, hb, hr, hlk⟩ ext.rf hW hS dX8_run_12
set_option maxRecDepth 100000 in
set_option maxHeartbeats 4000000 in
theorem k_yX8_run {p : Program} {l : Launch} {e : Env} {R : Room} {s : State} {m : MethodId} {args : Array Value} {below : List Frame} {meth : Method} {c : Code} {H : Heap} {locs : List Loc} {cells slots : Nat} {Q : State → Prop} {cc : ByteArray} {pc nL index : Nat} {ret : Option FieldType} {own : String} {ls : Array Slot} {rest : List Value} {E : Lay} {ad : Nat → Nat → Nat} {M N : Mem} (X : CX p s m args meth c cc nL ret own) (hK : KK E s) (hZ : ZZ E s) (hW : WD E ad (M, N) H) (hS : va_S (ow E) s.heap H locs) (hsz : ls.size = nL) {x1 : Int32} {r : Int32} {Mr : Mem} (hf : f_yX8_run M x1 = some (r, Mr)) (hn : Cond.methodLink own index yX8_run ∈ TB) (hR : 7 + 1 ≤ R.frames ∧ 8 + (3 + 11) + 157 ≤ R.locals) (hC : cells + 122 ≤ R.cells ∧ slots + 1098 ≤ R.slots) (h8 : (rest.map fun v => v.category).sum ≤ 8) (hdg : decode cc pc = .ok (.invokevirtual index, 3)) (kk : ∀ (ad1 : Nat → Nat → Nat) (H1 : Heap) (locs1 : List Loc), ext ad ad1 → WD E ad1 (Mr, N) H1 → va_S (ow E) s.heap H1 locs1 → W p l e R s m args below meth c H1 locs1 (cells + 122) (slots + 1098) Q (F0 m (pc + 3) ls (.int r :: rest))) : W p l e R s m args below meth c H locs cells slots Q (F0 m pc ls (.int x1 :: .ref (ad 0 0) :: rest)) := by
  refine va_calli (va_runV (C := RX8) (As := [.int x1]) (rest := rest) ⟨X.1, X.2.1, X.2.2.1, X.2.2.2.1, X.2.2.2.2.1⟩ (c_yX8_run l E ad M N x1 r Mr hf) (cwV 1 X.2.2.2.2.1 (gV hn im_yX8_run se_yX8_run iniRX8 cd_yX8_run) rfl rfl rfl (by decide +kernel) hR) ⟨fun a U g mk q => ⟨q.1, q.2.calling⟩, va_recv hK.1 (hW.at (c := 0) (i := 0) Nat.zero_lt_one rfl) (ci := 8) (q0 := 0) rfl rfl, fun U hU hw => ⟨rfl, PB.at hW hK hZ hS hU hw⟩⟩ rfl rfl hsz rfl (lv_room h8) hdg hC) hS (fun _ _ h => h) (fun _ h => h) (fun r' u t H1 locs1 ht hvm hw hB hz1 hk1 hS1 => ?_)
  obtain ⟨ad1, P1⟩ := u
  obtain ⟨rfl, hu, hE⟩ := hw
  dsimp only at hu hE hB
  subst hu
  rw [ht] at hB
  exact kk ad1 H1 locs1 hE hB hS1
