section RF
variable {p : Program} {l : Launch} {e : Env} {R : Room} {s : State} {m : MethodId} {args : Array Value} {below : List Frame} {meth : Method} {c : Code} {H : Heap} {locs : List Loc} {cells slots : Nat} {Q : State → Prop}
variable {cc : ByteArray} {pc nL index : Nat} {ret : Option FieldType} {own : String} {ls : Array Slot} {rest : List Value} {E : Lay} {ad : Nat → Nat → Nat} {M N : Mem} {H0 : Heap}
theorem g_8_0 (X : CX p s m args meth c cc nL ret own) (hK : KK E s) (hW : WD E ad (M, N) H) (hl : Cond.fieldLink own index "MonitorTurns" "shelf" "LMonitorTurns$Shelf;" ∈ TB) (hdg : decode cc pc = .ok (.getfield index, 3)) (kk : W p l e R s m args below meth c H locs cells slots Q (F0 m (pc + 3) ls (.ref (ad 1 0) :: rest))) : W p l e R s m args below meth c H locs cells slots Q (F0 m pc ls (.ref (ad 0 0) :: rest)) :=
  r_get X.1 X.2.1 X.2.2.2.2.1 inX8 X.2.2.2.1 hK hW (cp := 0) (i := 0) Nat.zero_lt_one rfl rfl 0 (by decide) hl rfl hdg kk
theorem g_8_1 (X : CX p s m args meth c cc nL ret own) (hK : KK E s) (hW : WD E ad (M, N) H) (hl : Cond.fieldLink own index "MonitorTurns" "crew" "LMonitorTurns$Crew;" ∈ TB) (hdg : decode cc pc = .ok (.getfield index, 3)) (kk : W p l e R s m args below meth c H locs cells slots Q (F0 m (pc + 3) ls (.ref (ad 2 0) :: rest))) : W p l e R s m args below meth c H locs cells slots Q (F0 m pc ls (.ref (ad 0 0) :: rest)) :=
  r_get X.1 X.2.1 X.2.2.2.2.1 inX8 X.2.2.2.1 hK hW (cp := 0) (i := 0) Nat.zero_lt_one rfl rfl 1 (by decide) hl rfl hdg kk
theorem g_8_2 (X : CX p s m args meth c cc nL ret own) (hK : KK E s) (hW : WD E ad (M, N) H) (hl : Cond.fieldLink own index "MonitorTurns" "acts" "LMonitorTurns$Acts;" ∈ TB) (hdg : decode cc pc = .ok (.getfield index, 3)) (kk : W p l e R s m args below meth c H locs cells slots Q (F0 m (pc + 3) ls (.ref (ad 3 0) :: rest))) : W p l e R s m args below meth c H locs cells slots Q (F0 m pc ls (.ref (ad 0 0) :: rest)) :=
  r_get X.1 X.2.1 X.2.2.2.2.1 inX8 X.2.2.2.1 hK hW (cp := 0) (i := 0) Nat.zero_lt_one rfl rfl 2 (by decide) hl rfl hdg kk
theorem g_8_3 (X : CX p s m args meth c cc nL ret own) (hK : KK E s) (hW : WD E ad (M, N) H) (hl : Cond.fieldLink own index "MonitorTurns" "tally" "LMonitorTurns$Tally;" ∈ TB) (hdg : decode cc pc = .ok (.getfield index, 3)) (kk : W p l e R s m args below meth c H locs cells slots Q (F0 m (pc + 3) ls (.ref (ad 4 0) :: rest))) : W p l e R s m args below meth c H locs cells slots Q (F0 m pc ls (.ref (ad 0 0) :: rest)) :=
  r_get X.1 X.2.1 X.2.2.2.2.1 inX8 X.2.2.2.1 hK hW (cp := 0) (i := 0) Nat.zero_lt_one rfl rfl 3 (by decide) hl rfl hdg kk
theorem g_8_4 (X : CX p s m args meth c cc nL ret own) (hK : KK E s) (hW : WD E ad (M, N) H) (hl : Cond.fieldLink own index "MonitorTurns" "programs" "[LMonitorTurns$Program;" ∈ TB) (hdg : decode cc pc = .ok (.getfield index, 3)) (kk : W p l e R s m args below meth c H locs cells slots Q (F0 m (pc + 3) ls (.ref (ad 11 0) :: rest))) : W p l e R s m args below meth c H locs cells slots Q (F0 m pc ls (.ref (ad 0 0) :: rest)) :=
  r_get X.1 X.2.1 X.2.2.2.2.1 inX8 X.2.2.2.1 hK hW (cp := 0) (i := 0) Nat.zero_lt_one rfl rfl 4 (by decide) hl rfl hdg kk
theorem g_8_5 (X : CX p s m args meth c cc nL ret own) (hK : KK E s) (hW : WD E ad (M, N) H) (hl : Cond.fieldLink own index "MonitorTurns" "ruleInForce" "I" ∈ TB) (hdg : decode cc pc = .ok (.getfield index, 3)) (kk : W p l e R s m args below meth c H locs cells slots Q (F0 m (pc + 3) ls (.int (M 0 0 0) :: rest))) : W p l e R s m args below meth c H locs cells slots Q (F0 m pc ls (.ref (ad 0 0) :: rest)) :=
  r_get X.1 X.2.1 X.2.2.2.2.1 inX8 X.2.2.2.1 hK hW (cp := 0) (i := 0) Nat.zero_lt_one rfl rfl 5 (by decide) hl rfl hdg kk
theorem p_8_5 (X : CX p s m args meth c cc nL ret own) (hK : KK E s) (hW : WD E ad (M, N) H) (hS : va_S (ow E) H0 H locs) {x : Int32} {M1 : Mem} (hM : M1 = mp M 0 0 0 x) (hl : Cond.fieldLink own index "MonitorTurns" "ruleInForce" "I" ∈ TB) (hdg : decode cc pc = .ok (.putfield index, 3)) (kk : ∀ (H1 : Heap) (locs1 : List Loc), WD E ad (M1, N) H1 → va_S (ow E) H0 H1 locs1 → W p l e R s m args below meth c H1 locs1 cells slots Q (F0 m (pc + 3) ls rest)) : W p l e R s m args below meth c H locs cells slots Q (F0 m pc ls (.int x :: .ref (ad 0 0) :: rest)) := by
  subst hM
  refine r_put X.1 X.2.1 X.2.2.2.2.1 inX8 tyX8 tyX8_ok nmX8 X.2.2.2.1 hK hW hS (cp := 0) (i := 0) (k' := 0) (x := x) Nat.zero_lt_one (by unfold okp; decide) rfl 5 ?_ rfl (by decide) hl rfl (ty := .int) (by decide +kernel) rfl rfl (by simp) hdg kk
  have e1 : mp M 0 0 0 x 0 0 = upd (M 0 0) 0 x := mp_upd M 0 0 0 x
  show Sum.inr (8, List.map (sv ad (mp M 0 0 0 x) 0 0) _) = _
  simp only [kd, List.map, sv, e1, upd, List.set]
  rfl
theorem g_8_6 (X : CX p s m args meth c cc nL ret own) (hK : KK E s) (hW : WD E ad (M, N) H) (hl : Cond.fieldLink own index "MonitorTurns" "latest" "I" ∈ TB) (hdg : decode cc pc = .ok (.getfield index, 3)) (kk : W p l e R s m args below meth c H locs cells slots Q (F0 m (pc + 3) ls (.int (M 0 0 1) :: rest))) : W p l e R s m args below meth c H locs cells slots Q (F0 m pc ls (.ref (ad 0 0) :: rest)) :=
  r_get X.1 X.2.1 X.2.2.2.2.1 inX8 X.2.2.2.1 hK hW (cp := 0) (i := 0) Nat.zero_lt_one rfl rfl 6 (by decide) hl rfl hdg kk
theorem p_8_6 (X : CX p s m args meth c cc nL ret own) (hK : KK E s) (hW : WD E ad (M, N) H) (hS : va_S (ow E) H0 H locs) {x : Int32} {M1 : Mem} (hM : M1 = mp M 0 0 1 x) (hl : Cond.fieldLink own index "MonitorTurns" "latest" "I" ∈ TB) (hdg : decode cc pc = .ok (.putfield index, 3)) (kk : ∀ (H1 : Heap) (locs1 : List Loc), WD E ad (M1, N) H1 → va_S (ow E) H0 H1 locs1 → W p l e R s m args below meth c H1 locs1 cells slots Q (F0 m (pc + 3) ls rest)) : W p l e R s m args below meth c H locs cells slots Q (F0 m pc ls (.int x :: .ref (ad 0 0) :: rest)) := by
  subst hM
  refine r_put X.1 X.2.1 X.2.2.2.2.1 inX8 tyX8 tyX8_ok nmX8 X.2.2.2.1 hK hW hS (cp := 0) (i := 0) (k' := 1) (x := x) Nat.zero_lt_one (by unfold okp; decide) rfl 6 ?_ rfl (by decide) hl rfl (ty := .int) (by decide +kernel) rfl rfl (by simp) hdg kk
  have e1 : mp M 0 0 1 x 0 0 = upd (M 0 0) 1 x := mp_upd M 0 0 1 x
  show Sum.inr (8, List.map (sv ad (mp M 0 0 1 x) 0 0) _) = _
  simp only [kd, List.map, sv, e1, upd, List.set]
  rfl
theorem g_4_0 (X : CX p s m args meth c cc nL ret own) (hK : KK E s) (hW : WD E ad (M, N) H) (hl : Cond.fieldLink own index "MonitorTurns$Shelf" "things" "[LMonitorTurns$Thing;" ∈ TB) (hdg : decode cc pc = .ok (.getfield index, 3)) (kk : W p l e R s m args below meth c H locs cells slots Q (F0 m (pc + 3) ls (.ref (ad 9 0) :: rest))) : W p l e R s m args below meth c H locs cells slots Q (F0 m pc ls (.ref (ad 1 0) :: rest)) :=
  r_get X.1 X.2.1 X.2.2.2.2.1 inX4 X.2.2.2.1 hK hW (cp := 1) (i := 0) Nat.zero_lt_one rfl rfl 0 (by decide) hl rfl hdg kk
theorem g_4_1 (X : CX p s m args meth c cc nL ret own) (hK : KK E s) (hW : WD E ad (M, N) H) (hl : Cond.fieldLink own index "MonitorTurns$Shelf" "size" "I" ∈ TB) (hdg : decode cc pc = .ok (.getfield index, 3)) (kk : W p l e R s m args below meth c H locs cells slots Q (F0 m (pc + 3) ls (.int (M 1 0 0) :: rest))) : W p l e R s m args below meth c H locs cells slots Q (F0 m pc ls (.ref (ad 1 0) :: rest)) :=
  r_get X.1 X.2.1 X.2.2.2.2.1 inX4 X.2.2.2.1 hK hW (cp := 1) (i := 0) Nat.zero_lt_one rfl rfl 1 (by decide) hl rfl hdg kk
theorem p_4_1 (X : CX p s m args meth c cc nL ret own) (hK : KK E s) (hW : WD E ad (M, N) H) (hS : va_S (ow E) H0 H locs) {x : Int32} {M1 : Mem} (hM : M1 = mp M 1 0 0 x) (hl : Cond.fieldLink own index "MonitorTurns$Shelf" "size" "I" ∈ TB) (hdg : decode cc pc = .ok (.putfield index, 3)) (kk : ∀ (H1 : Heap) (locs1 : List Loc), WD E ad (M1, N) H1 → va_S (ow E) H0 H1 locs1 → W p l e R s m args below meth c H1 locs1 cells slots Q (F0 m (pc + 3) ls rest)) : W p l e R s m args below meth c H locs cells slots Q (F0 m pc ls (.int x :: .ref (ad 1 0) :: rest)) := by
  subst hM
  refine r_put X.1 X.2.1 X.2.2.2.2.1 inX4 tyX4 tyX4_ok nmX4 X.2.2.2.1 hK hW hS (cp := 1) (i := 0) (k' := 0) (x := x) Nat.zero_lt_one (by unfold okp; decide) rfl 1 ?_ rfl (by decide) hl rfl (ty := .int) (by decide +kernel) rfl rfl (by simp) hdg kk
  have e1 : mp M 1 0 0 x 1 0 = upd (M 1 0) 0 x := mp_upd M 1 0 0 x
  show Sum.inr (4, List.map (sv ad (mp M 1 0 0 x) 1 0) _) = _
  simp only [kd, List.map, sv, e1, upd, List.set]
  rfl
theorem g_4_2 (X : CX p s m args meth c cc nL ret own) (hK : KK E s) (hW : WD E ad (M, N) H) (hl : Cond.fieldLink own index "MonitorTurns$Shelf" "weighedKind" "I" ∈ TB) (hdg : decode cc pc = .ok (.getfield index, 3)) (kk : W p l e R s m args below meth c H locs cells slots Q (F0 m (pc + 3) ls (.int (M 1 0 1) :: rest))) : W p l e R s m args below meth c H locs cells slots Q (F0 m pc ls (.ref (ad 1 0) :: rest)) :=
  r_get X.1 X.2.1 X.2.2.2.2.1 inX4 X.2.2.2.1 hK hW (cp := 1) (i := 0) Nat.zero_lt_one rfl rfl 2 (by decide) hl rfl hdg kk
theorem p_4_2 (X : CX p s m args meth c cc nL ret own) (hK : KK E s) (hW : WD E ad (M, N) H) (hS : va_S (ow E) H0 H locs) {x : Int32} {M1 : Mem} (hM : M1 = mp M 1 0 1 x) (hl : Cond.fieldLink own index "MonitorTurns$Shelf" "weighedKind" "I" ∈ TB) (hdg : decode cc pc = .ok (.putfield index, 3)) (kk : ∀ (H1 : Heap) (locs1 : List Loc), WD E ad (M1, N) H1 → va_S (ow E) H0 H1 locs1 → W p l e R s m args below meth c H1 locs1 cells slots Q (F0 m (pc + 3) ls rest)) : W p l e R s m args below meth c H locs cells slots Q (F0 m pc ls (.int x :: .ref (ad 1 0) :: rest)) := by
  subst hM
  refine r_put X.1 X.2.1 X.2.2.2.2.1 inX4 tyX4 tyX4_ok nmX4 X.2.2.2.1 hK hW hS (cp := 1) (i := 0) (k' := 1) (x := x) Nat.zero_lt_one (by unfold okp; decide) rfl 2 ?_ rfl (by decide) hl rfl (ty := .int) (by decide +kernel) rfl rfl (by simp) hdg kk
  have e1 : mp M 1 0 1 x 1 0 = upd (M 1 0) 1 x := mp_upd M 1 0 1 x
  show Sum.inr (4, List.map (sv ad (mp M 1 0 1 x) 1 0) _) = _
  simp only [kd, List.map, sv, e1, upd, List.set]
  rfl
theorem g_1_0 (X : CX p s m args meth c cc nL ret own) (hK : KK E s) (hW : WD E ad (M, N) H) (hl : Cond.fieldLink own index "MonitorTurns$Crew" "shelf" "LMonitorTurns$Shelf;" ∈ TB) (hdg : decode cc pc = .ok (.getfield index, 3)) (kk : W p l e R s m args below meth c H locs cells slots Q (F0 m (pc + 3) ls (.ref (ad 1 0) :: rest))) : W p l e R s m args below meth c H locs cells slots Q (F0 m pc ls (.ref (ad 2 0) :: rest)) :=
  r_get X.1 X.2.1 X.2.2.2.2.1 inX1 X.2.2.2.1 hK hW (cp := 2) (i := 0) Nat.zero_lt_one rfl rfl 0 (by decide) hl rfl hdg kk
theorem g_1_1 (X : CX p s m args meth c cc nL ret own) (hK : KK E s) (hW : WD E ad (M, N) H) (hl : Cond.fieldLink own index "MonitorTurns$Crew" "strands" "[LMonitorTurns$Strand;" ∈ TB) (hdg : decode cc pc = .ok (.getfield index, 3)) (kk : W p l e R s m args below meth c H locs cells slots Q (F0 m (pc + 3) ls (.ref (ad 10 0) :: rest))) : W p l e R s m args below meth c H locs cells slots Q (F0 m pc ls (.ref (ad 2 0) :: rest)) :=
  r_get X.1 X.2.1 X.2.2.2.2.1 inX1 X.2.2.2.1 hK hW (cp := 2) (i := 0) Nat.zero_lt_one rfl rfl 1 (by decide) hl rfl hdg kk
theorem g_1_2 (X : CX p s m args meth c cc nL ret own) (hK : KK E s) (hW : WD E ad (M, N) H) (hl : Cond.fieldLink own index "MonitorTurns$Crew" "time" "I" ∈ TB) (hdg : decode cc pc = .ok (.getfield index, 3)) (kk : W p l e R s m args below meth c H locs cells slots Q (F0 m (pc + 3) ls (.int (M 2 0 0) :: rest))) : W p l e R s m args below meth c H locs cells slots Q (F0 m pc ls (.ref (ad 2 0) :: rest)) :=
  r_get X.1 X.2.1 X.2.2.2.2.1 inX1 X.2.2.2.1 hK hW (cp := 2) (i := 0) Nat.zero_lt_one rfl rfl 2 (by decide) hl rfl hdg kk
theorem p_1_2 (X : CX p s m args meth c cc nL ret own) (hK : KK E s) (hW : WD E ad (M, N) H) (hS : va_S (ow E) H0 H locs) {x : Int32} {M1 : Mem} (hM : M1 = mp M 2 0 0 x) (hl : Cond.fieldLink own index "MonitorTurns$Crew" "time" "I" ∈ TB) (hdg : decode cc pc = .ok (.putfield index, 3)) (kk : ∀ (H1 : Heap) (locs1 : List Loc), WD E ad (M1, N) H1 → va_S (ow E) H0 H1 locs1 → W p l e R s m args below meth c H1 locs1 cells slots Q (F0 m (pc + 3) ls rest)) : W p l e R s m args below meth c H locs cells slots Q (F0 m pc ls (.int x :: .ref (ad 2 0) :: rest)) := by
  subst hM
  refine r_put X.1 X.2.1 X.2.2.2.2.1 inX1 tyX1 tyX1_ok nmX1 X.2.2.2.1 hK hW hS (cp := 2) (i := 0) (k' := 0) (x := x) Nat.zero_lt_one (by unfold okp; decide) rfl 2 ?_ rfl (by decide) hl rfl (ty := .int) (by decide +kernel) rfl rfl (by simp) hdg kk
  have e1 : mp M 2 0 0 x 2 0 = upd (M 2 0) 0 x := mp_upd M 2 0 0 x
  show Sum.inr (1, List.map (sv ad (mp M 2 0 0 x) 2 0) _) = _
  simp only [kd, List.map, sv, e1, upd, List.set]
  rfl
theorem g_1_3 (X : CX p s m args meth c cc nL ret own) (hK : KK E s) (hW : WD E ad (M, N) H) (hl : Cond.fieldLink own index "MonitorTurns$Crew" "orderInForce" "I" ∈ TB) (hdg : decode cc pc = .ok (.getfield index, 3)) (kk : W p l e R s m args below meth c H locs cells slots Q (F0 m (pc + 3) ls (.int (M 2 0 1) :: rest))) : W p l e R s m args below meth c H locs cells slots Q (F0 m pc ls (.ref (ad 2 0) :: rest)) :=
  r_get X.1 X.2.1 X.2.2.2.2.1 inX1 X.2.2.2.1 hK hW (cp := 2) (i := 0) Nat.zero_lt_one rfl rfl 3 (by decide) hl rfl hdg kk
theorem p_1_3 (X : CX p s m args meth c cc nL ret own) (hK : KK E s) (hW : WD E ad (M, N) H) (hS : va_S (ow E) H0 H locs) {x : Int32} {M1 : Mem} (hM : M1 = mp M 2 0 1 x) (hl : Cond.fieldLink own index "MonitorTurns$Crew" "orderInForce" "I" ∈ TB) (hdg : decode cc pc = .ok (.putfield index, 3)) (kk : ∀ (H1 : Heap) (locs1 : List Loc), WD E ad (M1, N) H1 → va_S (ow E) H0 H1 locs1 → W p l e R s m args below meth c H1 locs1 cells slots Q (F0 m (pc + 3) ls rest)) : W p l e R s m args below meth c H locs cells slots Q (F0 m pc ls (.int x :: .ref (ad 2 0) :: rest)) := by
  subst hM
  refine r_put X.1 X.2.1 X.2.2.2.2.1 inX1 tyX1 tyX1_ok nmX1 X.2.2.2.1 hK hW hS (cp := 2) (i := 0) (k' := 1) (x := x) Nat.zero_lt_one (by unfold okp; decide) rfl 3 ?_ rfl (by decide) hl rfl (ty := .int) (by decide +kernel) rfl rfl (by simp) hdg kk
  have e1 : mp M 2 0 1 x 2 0 = upd (M 2 0) 1 x := mp_upd M 2 0 1 x
  show Sum.inr (1, List.map (sv ad (mp M 2 0 1 x) 2 0) _) = _
  simp only [kd, List.map, sv, e1, upd, List.set]
  rfl
theorem g_1_4 (X : CX p s m args meth c cc nL ret own) (hK : KK E s) (hW : WD E ad (M, N) H) (hl : Cond.fieldLink own index "MonitorTurns$Crew" "stamps" "I" ∈ TB) (hdg : decode cc pc = .ok (.getfield index, 3)) (kk : W p l e R s m args below meth c H locs cells slots Q (F0 m (pc + 3) ls (.int (M 2 0 2) :: rest))) : W p l e R s m args below meth c H locs cells slots Q (F0 m pc ls (.ref (ad 2 0) :: rest)) :=
  r_get X.1 X.2.1 X.2.2.2.2.1 inX1 X.2.2.2.1 hK hW (cp := 2) (i := 0) Nat.zero_lt_one rfl rfl 4 (by decide) hl rfl hdg kk
theorem p_1_4 (X : CX p s m args meth c cc nL ret own) (hK : KK E s) (hW : WD E ad (M, N) H) (hS : va_S (ow E) H0 H locs) {x : Int32} {M1 : Mem} (hM : M1 = mp M 2 0 2 x) (hl : Cond.fieldLink own index "MonitorTurns$Crew" "stamps" "I" ∈ TB) (hdg : decode cc pc = .ok (.putfield index, 3)) (kk : ∀ (H1 : Heap) (locs1 : List Loc), WD E ad (M1, N) H1 → va_S (ow E) H0 H1 locs1 → W p l e R s m args below meth c H1 locs1 cells slots Q (F0 m (pc + 3) ls rest)) : W p l e R s m args below meth c H locs cells slots Q (F0 m pc ls (.int x :: .ref (ad 2 0) :: rest)) := by
  subst hM
  refine r_put X.1 X.2.1 X.2.2.2.2.1 inX1 tyX1 tyX1_ok nmX1 X.2.2.2.1 hK hW hS (cp := 2) (i := 0) (k' := 2) (x := x) Nat.zero_lt_one (by unfold okp; decide) rfl 4 ?_ rfl (by decide) hl rfl (ty := .int) (by decide +kernel) rfl rfl (by simp) hdg kk
  have e1 : mp M 2 0 2 x 2 0 = upd (M 2 0) 2 x := mp_upd M 2 0 2 x
  show Sum.inr (1, List.map (sv ad (mp M 2 0 2 x) 2 0) _) = _
  simp only [kd, List.map, sv, e1, upd, List.set]
  rfl
theorem g_0_0 (X : CX p s m args meth c cc nL ret own) (hK : KK E s) (hW : WD E ad (M, N) H) (hl : Cond.fieldLink own index "MonitorTurns$Acts" "shelf" "LMonitorTurns$Shelf;" ∈ TB) (hdg : decode cc pc = .ok (.getfield index, 3)) (kk : W p l e R s m args below meth c H locs cells slots Q (F0 m (pc + 3) ls (.ref (ad 1 0) :: rest))) : W p l e R s m args below meth c H locs cells slots Q (F0 m pc ls (.ref (ad 3 0) :: rest)) :=
  r_get X.1 X.2.1 X.2.2.2.2.1 inX0 X.2.2.2.1 hK hW (cp := 3) (i := 0) Nat.zero_lt_one rfl rfl 0 (by decide) hl rfl hdg kk
theorem g_0_1 (X : CX p s m args meth c cc nL ret own) (hK : KK E s) (hW : WD E ad (M, N) H) (hl : Cond.fieldLink own index "MonitorTurns$Acts" "crew" "LMonitorTurns$Crew;" ∈ TB) (hdg : decode cc pc = .ok (.getfield index, 3)) (kk : W p l e R s m args below meth c H locs cells slots Q (F0 m (pc + 3) ls (.ref (ad 2 0) :: rest))) : W p l e R s m args below meth c H locs cells slots Q (F0 m pc ls (.ref (ad 3 0) :: rest)) :=
  r_get X.1 X.2.1 X.2.2.2.2.1 inX0 X.2.2.2.1 hK hW (cp := 3) (i := 0) Nat.zero_lt_one rfl rfl 1 (by decide) hl rfl hdg kk
theorem g_0_2 (X : CX p s m args meth c cc nL ret own) (hK : KK E s) (hW : WD E ad (M, N) H) (hl : Cond.fieldLink own index "MonitorTurns$Acts" "begun" "I" ∈ TB) (hdg : decode cc pc = .ok (.getfield index, 3)) (kk : W p l e R s m args below meth c H locs cells slots Q (F0 m (pc + 3) ls (.int (M 3 0 0) :: rest))) : W p l e R s m args below meth c H locs cells slots Q (F0 m pc ls (.ref (ad 3 0) :: rest)) :=
  r_get X.1 X.2.1 X.2.2.2.2.1 inX0 X.2.2.2.1 hK hW (cp := 3) (i := 0) Nat.zero_lt_one rfl rfl 2 (by decide) hl rfl hdg kk
theorem p_0_2 (X : CX p s m args meth c cc nL ret own) (hK : KK E s) (hW : WD E ad (M, N) H) (hS : va_S (ow E) H0 H locs) {x : Int32} {M1 : Mem} (hM : M1 = mp M 3 0 0 x) (hl : Cond.fieldLink own index "MonitorTurns$Acts" "begun" "I" ∈ TB) (hdg : decode cc pc = .ok (.putfield index, 3)) (kk : ∀ (H1 : Heap) (locs1 : List Loc), WD E ad (M1, N) H1 → va_S (ow E) H0 H1 locs1 → W p l e R s m args below meth c H1 locs1 cells slots Q (F0 m (pc + 3) ls rest)) : W p l e R s m args below meth c H locs cells slots Q (F0 m pc ls (.int x :: .ref (ad 3 0) :: rest)) := by
  subst hM
  refine r_put X.1 X.2.1 X.2.2.2.2.1 inX0 tyX0 tyX0_ok nmX0 X.2.2.2.1 hK hW hS (cp := 3) (i := 0) (k' := 0) (x := x) Nat.zero_lt_one (by unfold okp; decide) rfl 2 ?_ rfl (by decide) hl rfl (ty := .int) (by decide +kernel) rfl rfl (by simp) hdg kk
  have e1 : mp M 3 0 0 x 3 0 = upd (M 3 0) 0 x := mp_upd M 3 0 0 x
  show Sum.inr (0, List.map (sv ad (mp M 3 0 0 x) 3 0) _) = _
  simp only [kd, List.map, sv, e1, upd, List.set]
  rfl
theorem g_6_0 (X : CX p s m args meth c cc nL ret own) (hK : KK E s) (hW : WD E ad (M, N) H) (hl : Cond.fieldLink own index "MonitorTurns$Tally" "failures" "[I" ∈ TB) (hdg : decode cc pc = .ok (.getfield index, 3)) (kk : W p l e R s m args below meth c H locs cells slots Q (F0 m (pc + 3) ls (.ref (ad 12 0) :: rest))) : W p l e R s m args below meth c H locs cells slots Q (F0 m pc ls (.ref (ad 4 0) :: rest)) :=
  r_get X.1 X.2.1 X.2.2.2.2.1 inX6 X.2.2.2.1 hK hW (cp := 4) (i := 0) Nat.zero_lt_one rfl rfl 0 (by decide) hl rfl hdg kk
theorem g_6_1 (X : CX p s m args meth c cc nL ret own) (hK : KK E s) (hW : WD E ad (M, N) H) (hl : Cond.fieldLink own index "MonitorTurns$Tally" "turns" "[I" ∈ TB) (hdg : decode cc pc = .ok (.getfield index, 3)) (kk : W p l e R s m args below meth c H locs cells slots Q (F0 m (pc + 3) ls (.ref (ad 13 0) :: rest))) : W p l e R s m args below meth c H locs cells slots Q (F0 m pc ls (.ref (ad 4 0) :: rest)) :=
  r_get X.1 X.2.1 X.2.2.2.2.1 inX6 X.2.2.2.1 hK hW (cp := 4) (i := 0) Nat.zero_lt_one rfl rfl 1 (by decide) hl rfl hdg kk
theorem g_6_2 (X : CX p s m args meth c cc nL ret own) (hK : KK E s) (hW : WD E ad (M, N) H) (hl : Cond.fieldLink own index "MonitorTurns$Tally" "allFailures" "I" ∈ TB) (hdg : decode cc pc = .ok (.getfield index, 3)) (kk : W p l e R s m args below meth c H locs cells slots Q (F0 m (pc + 3) ls (.int (M 4 0 0) :: rest))) : W p l e R s m args below meth c H locs cells slots Q (F0 m pc ls (.ref (ad 4 0) :: rest)) :=
  r_get X.1 X.2.1 X.2.2.2.2.1 inX6 X.2.2.2.1 hK hW (cp := 4) (i := 0) Nat.zero_lt_one rfl rfl 2 (by decide) hl rfl hdg kk
theorem p_6_2 (X : CX p s m args meth c cc nL ret own) (hK : KK E s) (hW : WD E ad (M, N) H) (hS : va_S (ow E) H0 H locs) {x : Int32} {M1 : Mem} (hM : M1 = mp M 4 0 0 x) (hl : Cond.fieldLink own index "MonitorTurns$Tally" "allFailures" "I" ∈ TB) (hdg : decode cc pc = .ok (.putfield index, 3)) (kk : ∀ (H1 : Heap) (locs1 : List Loc), WD E ad (M1, N) H1 → va_S (ow E) H0 H1 locs1 → W p l e R s m args below meth c H1 locs1 cells slots Q (F0 m (pc + 3) ls rest)) : W p l e R s m args below meth c H locs cells slots Q (F0 m pc ls (.int x :: .ref (ad 4 0) :: rest)) := by
  subst hM
  refine r_put X.1 X.2.1 X.2.2.2.2.1 inX6 tyX6 tyX6_ok nmX6 X.2.2.2.1 hK hW hS (cp := 4) (i := 0) (k' := 0) (x := x) Nat.zero_lt_one (by unfold okp; decide) rfl 2 ?_ rfl (by decide) hl rfl (ty := .int) (by decide +kernel) rfl rfl (by simp) hdg kk
  have e1 : mp M 4 0 0 x 4 0 = upd (M 4 0) 0 x := mp_upd M 4 0 0 x
  show Sum.inr (6, List.map (sv ad (mp M 4 0 0 x) 4 0) _) = _
  simp only [kd, List.map, sv, e1, upd, List.set]
  rfl
theorem g_6_3 (X : CX p s m args meth c cc nL ret own) (hK : KK E s) (hW : WD E ad (M, N) H) (hl : Cond.fieldLink own index "MonitorTurns$Tally" "met" "I" ∈ TB) (hdg : decode cc pc = .ok (.getfield index, 3)) (kk : W p l e R s m args below meth c H locs cells slots Q (F0 m (pc + 3) ls (.int (M 4 0 1) :: rest))) : W p l e R s m args below meth c H locs cells slots Q (F0 m pc ls (.ref (ad 4 0) :: rest)) :=
  r_get X.1 X.2.1 X.2.2.2.2.1 inX6 X.2.2.2.1 hK hW (cp := 4) (i := 0) Nat.zero_lt_one rfl rfl 3 (by decide) hl rfl hdg kk
theorem p_6_3 (X : CX p s m args meth c cc nL ret own) (hK : KK E s) (hW : WD E ad (M, N) H) (hS : va_S (ow E) H0 H locs) {x : Int32} {M1 : Mem} (hM : M1 = mp M 4 0 1 x) (hl : Cond.fieldLink own index "MonitorTurns$Tally" "met" "I" ∈ TB) (hdg : decode cc pc = .ok (.putfield index, 3)) (kk : ∀ (H1 : Heap) (locs1 : List Loc), WD E ad (M1, N) H1 → va_S (ow E) H0 H1 locs1 → W p l e R s m args below meth c H1 locs1 cells slots Q (F0 m (pc + 3) ls rest)) : W p l e R s m args below meth c H locs cells slots Q (F0 m pc ls (.int x :: .ref (ad 4 0) :: rest)) := by
  subst hM
  refine r_put X.1 X.2.1 X.2.2.2.2.1 inX6 tyX6 tyX6_ok nmX6 X.2.2.2.1 hK hW hS (cp := 4) (i := 0) (k' := 1) (x := x) Nat.zero_lt_one (by unfold okp; decide) rfl 3 ?_ rfl (by decide) hl rfl (ty := .int) (by decide +kernel) rfl rfl (by simp) hdg kk
  have e1 : mp M 4 0 1 x 4 0 = upd (M 4 0) 1 x := mp_upd M 4 0 1 x
  show Sum.inr (6, List.map (sv ad (mp M 4 0 1 x) 4 0) _) = _
  simp only [kd, List.map, sv, e1, upd, List.set]
  rfl
theorem g_6_4 (X : CX p s m args meth c cc nL ret own) (hK : KK E s) (hW : WD E ad (M, N) H) (hl : Cond.fieldLink own index "MonitorTurns$Tally" "turnsNoted" "I" ∈ TB) (hdg : decode cc pc = .ok (.getfield index, 3)) (kk : W p l e R s m args below meth c H locs cells slots Q (F0 m (pc + 3) ls (.int (M 4 0 2) :: rest))) : W p l e R s m args below meth c H locs cells slots Q (F0 m pc ls (.ref (ad 4 0) :: rest)) :=
  r_get X.1 X.2.1 X.2.2.2.2.1 inX6 X.2.2.2.1 hK hW (cp := 4) (i := 0) Nat.zero_lt_one rfl rfl 4 (by decide) hl rfl hdg kk
theorem p_6_4 (X : CX p s m args meth c cc nL ret own) (hK : KK E s) (hW : WD E ad (M, N) H) (hS : va_S (ow E) H0 H locs) {x : Int32} {M1 : Mem} (hM : M1 = mp M 4 0 2 x) (hl : Cond.fieldLink own index "MonitorTurns$Tally" "turnsNoted" "I" ∈ TB) (hdg : decode cc pc = .ok (.putfield index, 3)) (kk : ∀ (H1 : Heap) (locs1 : List Loc), WD E ad (M1, N) H1 → va_S (ow E) H0 H1 locs1 → W p l e R s m args below meth c H1 locs1 cells slots Q (F0 m (pc + 3) ls rest)) : W p l e R s m args below meth c H locs cells slots Q (F0 m pc ls (.int x :: .ref (ad 4 0) :: rest)) := by
  subst hM
  refine r_put X.1 X.2.1 X.2.2.2.2.1 inX6 tyX6 tyX6_ok nmX6 X.2.2.2.1 hK hW hS (cp := 4) (i := 0) (k' := 2) (x := x) Nat.zero_lt_one (by unfold okp; decide) rfl 4 ?_ rfl (by decide) hl rfl (ty := .int) (by decide +kernel) rfl rfl (by simp) hdg kk
  have e1 : mp M 4 0 2 x 4 0 = upd (M 4 0) 2 x := mp_upd M 4 0 2 x
  show Sum.inr (6, List.map (sv ad (mp M 4 0 2 x) 4 0) _) = _
  simp only [kd, List.map, sv, e1, upd, List.set]
  rfl
theorem g_3_0 (X : CX p s m args meth c cc nL ret own) (hK : KK E s) (hW : WD E ad (M, N) H) {i : Nat} (hv : i < 8) (hl : Cond.fieldLink own index "MonitorTurns$Program" "numbers" "[I" ∈ TB) (hdg : decode cc pc = .ok (.getfield index, 3)) (kk : W p l e R s m args below meth c H locs cells slots Q (F0 m (pc + 3) ls (.ref (ad 14 i) :: rest))) : W p l e R s m args below meth c H locs cells slots Q (F0 m pc ls (.ref (ad 5 i) :: rest)) :=
  r_get X.1 X.2.1 X.2.2.2.2.1 inX3 X.2.2.2.1 hK hW (cp := 5) (i := i) hv rfl rfl 0 (by decide) hl rfl hdg kk
theorem g_3_1 (X : CX p s m args meth c cc nL ret own) (hK : KK E s) (hW : WD E ad (M, N) H) {i : Nat} (hv : i < 8) (hl : Cond.fieldLink own index "MonitorTurns$Program" "size" "I" ∈ TB) (hdg : decode cc pc = .ok (.getfield index, 3)) (kk : W p l e R s m args below meth c H locs cells slots Q (F0 m (pc + 3) ls (.int (M 5 i 0) :: rest))) : W p l e R s m args below meth c H locs cells slots Q (F0 m pc ls (.ref (ad 5 i) :: rest)) :=
  r_get X.1 X.2.1 X.2.2.2.2.1 inX3 X.2.2.2.1 hK hW (cp := 5) (i := i) hv rfl rfl 1 (by decide) hl rfl hdg kk
theorem p_3_1 (X : CX p s m args meth c cc nL ret own) (hK : KK E s) (hW : WD E ad (M, N) H) (hS : va_S (ow E) H0 H locs) {i : Nat} (hv : i < 8) {x : Int32} {M1 : Mem} (hM : M1 = mp M 5 i 0 x) (hl : Cond.fieldLink own index "MonitorTurns$Program" "size" "I" ∈ TB) (hdg : decode cc pc = .ok (.putfield index, 3)) (kk : ∀ (H1 : Heap) (locs1 : List Loc), WD E ad (M1, N) H1 → va_S (ow E) H0 H1 locs1 → W p l e R s m args below meth c H1 locs1 cells slots Q (F0 m (pc + 3) ls rest)) : W p l e R s m args below meth c H locs cells slots Q (F0 m pc ls (.int x :: .ref (ad 5 i) :: rest)) := by
  subst hM
  refine r_put X.1 X.2.1 X.2.2.2.2.1 inX3 tyX3 tyX3_ok nmX3 X.2.2.2.1 hK hW hS (cp := 5) (i := i) (k' := 0) (x := x) hv (by unfold okp; decide) rfl 1 ?_ rfl (by decide) hl rfl (ty := .int) (by decide +kernel) rfl rfl (by simp) hdg kk
  have e1 : mp M 5 i 0 x 5 i = upd (M 5 i) 0 x := mp_upd M 5 i 0 x
  show Sum.inr (3, List.map (sv ad (mp M 5 i 0 x) 5 i) _) = _
  simp only [kd, List.map, sv, e1, upd, List.set]
  rfl
theorem g_5_0 (X : CX p s m args meth c cc nL ret own) (hK : KK E s) (hW : WD E ad (M, N) H) {i : Nat} (hv : i < 6) (hl : Cond.fieldLink own index "MonitorTurns$Strand" "number" "I" ∈ TB) (hdg : decode cc pc = .ok (.getfield index, 3)) (kk : W p l e R s m args below meth c H locs cells slots Q (F0 m (pc + 3) ls (.int (nI i) :: rest))) : W p l e R s m args below meth c H locs cells slots Q (F0 m pc ls (.ref (ad 6 i) :: rest)) :=
  r_get X.1 X.2.1 X.2.2.2.2.1 inX5 X.2.2.2.1 hK hW (cp := 6) (i := i) hv rfl rfl 0 (by decide) hl rfl hdg kk
theorem g_5_1 (X : CX p s m args meth c cc nL ret own) (hK : KK E s) (hW : WD E ad (M, N) H) {i : Nat} (hv : i < 6) (hl : Cond.fieldLink own index "MonitorTurns$Strand" "registers" "[I" ∈ TB) (hdg : decode cc pc = .ok (.getfield index, 3)) (kk : W p l e R s m args below meth c H locs cells slots Q (F0 m (pc + 3) ls (.ref (ad 15 i) :: rest))) : W p l e R s m args below meth c H locs cells slots Q (F0 m pc ls (.ref (ad 6 i) :: rest)) :=
  r_get X.1 X.2.1 X.2.2.2.2.1 inX5 X.2.2.2.1 hK hW (cp := 6) (i := i) hv rfl rfl 1 (by decide) hl rfl hdg kk
theorem g_5_2 (X : CX p s m args meth c cc nL ret own) (hK : KK E s) (hW : WD E ad (M, N) H) {i : Nat} (hv : i < 6) (hl : Cond.fieldLink own index "MonitorTurns$Strand" "hands" "[I" ∈ TB) (hdg : decode cc pc = .ok (.getfield index, 3)) (kk : W p l e R s m args below meth c H locs cells slots Q (F0 m (pc + 3) ls (.ref (ad 16 i) :: rest))) : W p l e R s m args below meth c H locs cells slots Q (F0 m pc ls (.ref (ad 6 i) :: rest)) :=
  r_get X.1 X.2.1 X.2.2.2.2.1 inX5 X.2.2.2.1 hK hW (cp := 6) (i := i) hv rfl rfl 2 (by decide) hl rfl hdg kk
theorem g_5_3 (X : CX p s m args meth c cc nL ret own) (hK : KK E s) (hW : WD E ad (M, N) H) {i : Nat} (hv : i < 6) (hl : Cond.fieldLink own index "MonitorTurns$Strand" "handlers" "LMonitorTurns$Handlers;" ∈ TB) (hdg : decode cc pc = .ok (.getfield index, 3)) (kk : W p l e R s m args below meth c H locs cells slots Q (F0 m (pc + 3) ls (.ref (ad 7 i) :: rest))) : W p l e R s m args below meth c H locs cells slots Q (F0 m pc ls (.ref (ad 6 i) :: rest)) :=
  r_get X.1 X.2.1 X.2.2.2.2.1 inX5 X.2.2.2.1 hK hW (cp := 6) (i := i) hv rfl rfl 3 (by decide) hl rfl hdg kk
theorem g_5_4 (X : CX p s m args meth c cc nL ret own) (hK : KK E s) (hW : WD E ad (M, N) H) {i : Nat} (hv : i < 6) (hl : Cond.fieldLink own index "MonitorTurns$Strand" "state" "I" ∈ TB) (hdg : decode cc pc = .ok (.getfield index, 3)) (kk : W p l e R s m args below meth c H locs cells slots Q (F0 m (pc + 3) ls (.int (M 6 i 0) :: rest))) : W p l e R s m args below meth c H locs cells slots Q (F0 m pc ls (.ref (ad 6 i) :: rest)) :=
  r_get X.1 X.2.1 X.2.2.2.2.1 inX5 X.2.2.2.1 hK hW (cp := 6) (i := i) hv rfl rfl 4 (by decide) hl rfl hdg kk
theorem p_5_4 (X : CX p s m args meth c cc nL ret own) (hK : KK E s) (hW : WD E ad (M, N) H) (hS : va_S (ow E) H0 H locs) {i : Nat} (hv : i < 6) {x : Int32} {M1 : Mem} (hM : M1 = mp M 6 i 0 x) (hl : Cond.fieldLink own index "MonitorTurns$Strand" "state" "I" ∈ TB) (hdg : decode cc pc = .ok (.putfield index, 3)) (kk : ∀ (H1 : Heap) (locs1 : List Loc), WD E ad (M1, N) H1 → va_S (ow E) H0 H1 locs1 → W p l e R s m args below meth c H1 locs1 cells slots Q (F0 m (pc + 3) ls rest)) : W p l e R s m args below meth c H locs cells slots Q (F0 m pc ls (.int x :: .ref (ad 6 i) :: rest)) := by
  subst hM
  refine r_put X.1 X.2.1 X.2.2.2.2.1 inX5 tyX5 tyX5_ok nmX5 X.2.2.2.1 hK hW hS (cp := 6) (i := i) (k' := 0) (x := x) hv (by unfold okp; decide) rfl 4 ?_ rfl (by decide) hl rfl (ty := .int) (by decide +kernel) rfl rfl (by simp) hdg kk
  have e1 : mp M 6 i 0 x 6 i = upd (M 6 i) 0 x := mp_upd M 6 i 0 x
  show Sum.inr (5, List.map (sv ad (mp M 6 i 0 x) 6 i) _) = _
  simp only [kd, List.map, sv, e1, upd, List.set]
  rfl
theorem g_5_5n (X : CX p s m args meth c cc nL ret own) (hK : KK E s) (hW : WD E ad (M, N) H) {i : Nat} (hv : i < 6) (hl : Cond.fieldLink own index "MonitorTurns$Strand" "program" "LMonitorTurns$Program;" ∈ TB) (hdg : decode cc pc = .ok (.getfield index, 3)) (hq : M 6 i 1 < 0) (kk : W p l e R s m args below meth c H locs cells slots Q (F0 m (pc + 3) ls (.null :: rest))) : W p l e R s m args below meth c H locs cells slots Q (F0 m pc ls (.ref (ad 6 i) :: rest)) := by
  refine r_get X.1 X.2.1 X.2.2.2.2.1 inX5 X.2.2.2.1 hK hW (cp := 6) (i := i) hv rfl rfl 5 (by decide) hl rfl hdg ?_
  refine W.eq (g2 := F0 m (pc + 3) ls (.null :: rest)) ?_ kk
  show F0 m (pc + 3) ls (va_rf (pr ad (M 6 i 1)) :: rest) = _
  rw [pr, if_pos hq]; rfl
theorem g_5_5s (X : CX p s m args meth c cc nL ret own) (hK : KK E s) (hW : WD E ad (M, N) H) {i : Nat} (hv : i < 6) (hl : Cond.fieldLink own index "MonitorTurns$Strand" "program" "LMonitorTurns$Program;" ∈ TB) (hdg : decode cc pc = .ok (.getfield index, 3)) (hq : ¬ M 6 i 1 < 0) (kk : W p l e R s m args below meth c H locs cells slots Q (F0 m (pc + 3) ls (.ref (ad 5 (M 6 i 1).toNatClampNeg) :: rest))) : W p l e R s m args below meth c H locs cells slots Q (F0 m pc ls (.ref (ad 6 i) :: rest)) := by
  refine r_get X.1 X.2.1 X.2.2.2.2.1 inX5 X.2.2.2.1 hK hW (cp := 6) (i := i) hv rfl rfl 5 (by decide) hl rfl hdg ?_
  refine W.eq (g2 := F0 m (pc + 3) ls (.ref (ad 5 (M 6 i 1).toNatClampNeg) :: rest)) ?_ kk
  show F0 m (pc + 3) ls (va_rf (pr ad (M 6 i 1)) :: rest) = _
  rw [pr, if_neg hq]; rfl
theorem p_5_5 (X : CX p s m args meth c cc nL ret own) (hK : KK E s) (hW : WD E ad (M, N) H) (hS : va_S (ow E) H0 H locs) {i : Nat} (hv : i < 6) {j : Nat} (hj : j < 8) {M1 : Mem} (hM : M1 = mp M 6 i 1 (nI j)) (hl : Cond.fieldLink own index "MonitorTurns$Strand" "program" "LMonitorTurns$Program;" ∈ TB) (hdg : decode cc pc = .ok (.putfield index, 3)) (kk : ∀ (H1 : Heap) (locs1 : List Loc), WD E ad (M1, N) H1 → va_S (ow E) H0 H1 locs1 → W p l e R s m args below meth c H1 locs1 cells slots Q (F0 m (pc + 3) ls rest)) : W p l e R s m args below meth c H locs cells slots Q (F0 m pc ls (.ref (ad 5 j) :: .ref (ad 6 i) :: rest)) := by
  subst hM
  refine r_put X.1 X.2.1 X.2.2.2.2.1 inX5 tyX5 tyX5_ok nmX5 X.2.2.2.1 hK hW hS (cp := 6) (i := i) (k' := 1) (x := nI j) hv (by unfold okp; decide) rfl 5 ?_ rfl (by decide) hl rfl (ty := .object RX3) (by decide +kernel) rfl rfl (by simp) hdg kk
  have e1 : mp M 6 i 1 (nI j) 6 i = upd (M 6 i) 1 (nI j) := mp_upd M 6 i 1 (nI j)
  have e2 : va_rf (pr ad (nI j)) = .ref (ad 5 j) := by rw [pr, if_neg (nI_pos (by omega)), nI_clamp (by omega)]; rfl
  rw [← e2]
  show Sum.inr (5, List.map (sv ad (mp M 6 i 1 (nI j)) 6 i) _) = _
  simp only [kd, List.map, sv, e1, upd, List.set]
  rfl
theorem g_5_6 (X : CX p s m args meth c cc nL ret own) (hK : KK E s) (hW : WD E ad (M, N) H) {i : Nat} (hv : i < 6) (hl : Cond.fieldLink own index "MonitorTurns$Strand" "rank" "I" ∈ TB) (hdg : decode cc pc = .ok (.getfield index, 3)) (kk : W p l e R s m args below meth c H locs cells slots Q (F0 m (pc + 3) ls (.int (M 6 i 2) :: rest))) : W p l e R s m args below meth c H locs cells slots Q (F0 m pc ls (.ref (ad 6 i) :: rest)) :=
  r_get X.1 X.2.1 X.2.2.2.2.1 inX5 X.2.2.2.1 hK hW (cp := 6) (i := i) hv rfl rfl 6 (by decide) hl rfl hdg kk
theorem p_5_6 (X : CX p s m args meth c cc nL ret own) (hK : KK E s) (hW : WD E ad (M, N) H) (hS : va_S (ow E) H0 H locs) {i : Nat} (hv : i < 6) {x : Int32} {M1 : Mem} (hM : M1 = mp M 6 i 2 x) (hl : Cond.fieldLink own index "MonitorTurns$Strand" "rank" "I" ∈ TB) (hdg : decode cc pc = .ok (.putfield index, 3)) (kk : ∀ (H1 : Heap) (locs1 : List Loc), WD E ad (M1, N) H1 → va_S (ow E) H0 H1 locs1 → W p l e R s m args below meth c H1 locs1 cells slots Q (F0 m (pc + 3) ls rest)) : W p l e R s m args below meth c H locs cells slots Q (F0 m pc ls (.int x :: .ref (ad 6 i) :: rest)) := by
  subst hM
  refine r_put X.1 X.2.1 X.2.2.2.2.1 inX5 tyX5 tyX5_ok nmX5 X.2.2.2.1 hK hW hS (cp := 6) (i := i) (k' := 2) (x := x) hv (by unfold okp; decide) rfl 6 ?_ rfl (by decide) hl rfl (ty := .int) (by decide +kernel) rfl rfl (by simp) hdg kk
  have e1 : mp M 6 i 2 x 6 i = upd (M 6 i) 2 x := mp_upd M 6 i 2 x
  show Sum.inr (5, List.map (sv ad (mp M 6 i 2 x) 6 i) _) = _
  simp only [kd, List.map, sv, e1, upd, List.set]
  rfl
theorem g_5_7 (X : CX p s m args meth c cc nL ret own) (hK : KK E s) (hW : WD E ad (M, N) H) {i : Nat} (hv : i < 6) (hl : Cond.fieldLink own index "MonitorTurns$Strand" "place" "I" ∈ TB) (hdg : decode cc pc = .ok (.getfield index, 3)) (kk : W p l e R s m args below meth c H locs cells slots Q (F0 m (pc + 3) ls (.int (M 6 i 3) :: rest))) : W p l e R s m args below meth c H locs cells slots Q (F0 m pc ls (.ref (ad 6 i) :: rest)) :=
  r_get X.1 X.2.1 X.2.2.2.2.1 inX5 X.2.2.2.1 hK hW (cp := 6) (i := i) hv rfl rfl 7 (by decide) hl rfl hdg kk
theorem p_5_7 (X : CX p s m args meth c cc nL ret own) (hK : KK E s) (hW : WD E ad (M, N) H) (hS : va_S (ow E) H0 H locs) {i : Nat} (hv : i < 6) {x : Int32} {M1 : Mem} (hM : M1 = mp M 6 i 3 x) (hl : Cond.fieldLink own index "MonitorTurns$Strand" "place" "I" ∈ TB) (hdg : decode cc pc = .ok (.putfield index, 3)) (kk : ∀ (H1 : Heap) (locs1 : List Loc), WD E ad (M1, N) H1 → va_S (ow E) H0 H1 locs1 → W p l e R s m args below meth c H1 locs1 cells slots Q (F0 m (pc + 3) ls rest)) : W p l e R s m args below meth c H locs cells slots Q (F0 m pc ls (.int x :: .ref (ad 6 i) :: rest)) := by
  subst hM
  refine r_put X.1 X.2.1 X.2.2.2.2.1 inX5 tyX5 tyX5_ok nmX5 X.2.2.2.1 hK hW hS (cp := 6) (i := i) (k' := 3) (x := x) hv (by unfold okp; decide) rfl 7 ?_ rfl (by decide) hl rfl (ty := .int) (by decide +kernel) rfl rfl (by simp) hdg kk
  have e1 : mp M 6 i 3 x 6 i = upd (M 6 i) 3 x := mp_upd M 6 i 3 x
  show Sum.inr (5, List.map (sv ad (mp M 6 i 3 x) 6 i) _) = _
  simp only [kd, List.map, sv, e1, upd, List.set]
  rfl
theorem g_5_8 (X : CX p s m args meth c cc nL ret own) (hK : KK E s) (hW : WD E ad (M, N) H) {i : Nat} (hv : i < 6) (hl : Cond.fieldLink own index "MonitorTurns$Strand" "flag" "Z" ∈ TB) (hdg : decode cc pc = .ok (.getfield index, 3)) (kk : W p l e R s m args below meth c H locs cells slots Q (F0 m (pc + 3) ls (.int (M 6 i 4) :: rest))) : W p l e R s m args below meth c H locs cells slots Q (F0 m pc ls (.ref (ad 6 i) :: rest)) :=
  r_get X.1 X.2.1 X.2.2.2.2.1 inX5 X.2.2.2.1 hK hW (cp := 6) (i := i) hv rfl rfl 8 (by decide) hl rfl hdg kk
theorem p_5_8 (X : CX p s m args meth c cc nL ret own) (hK : KK E s) (hW : WD E ad (M, N) H) (hS : va_S (ow E) H0 H locs) {i : Nat} (hv : i < 6) {x : Int32} (hx : narrow .boolean (.int x) = .int x) (hx2 : fits .boolean (.int x) = true) {M1 : Mem} (hM : M1 = mp M 6 i 4 x) (hl : Cond.fieldLink own index "MonitorTurns$Strand" "flag" "Z" ∈ TB) (hdg : decode cc pc = .ok (.putfield index, 3)) (kk : ∀ (H1 : Heap) (locs1 : List Loc), WD E ad (M1, N) H1 → va_S (ow E) H0 H1 locs1 → W p l e R s m args below meth c H1 locs1 cells slots Q (F0 m (pc + 3) ls rest)) : W p l e R s m args below meth c H locs cells slots Q (F0 m pc ls (.int x :: .ref (ad 6 i) :: rest)) := by
  subst hM
  refine r_put X.1 X.2.1 X.2.2.2.2.1 inX5 tyX5 tyX5_ok nmX5 X.2.2.2.1 hK hW hS (cp := 6) (i := i) (k' := 4) (x := x) hv (by unfold okp; decide) rfl 8 ?_ rfl (by decide) hl rfl (ty := .boolean) (by decide +kernel) hx hx2 (by simp) hdg kk
  have e1 : mp M 6 i 4 x 6 i = upd (M 6 i) 4 x := mp_upd M 6 i 4 x
  show Sum.inr (5, List.map (sv ad (mp M 6 i 4 x) 6 i) _) = _
  simp only [kd, List.map, sv, e1, upd, List.set]
  rfl
theorem g_5_9 (X : CX p s m args meth c cc nL ret own) (hK : KK E s) (hW : WD E ad (M, N) H) {i : Nat} (hv : i < 6) (hl : Cond.fieldLink own index "MonitorTurns$Strand" "breaks" "Z" ∈ TB) (hdg : decode cc pc = .ok (.getfield index, 3)) (kk : W p l e R s m args below meth c H locs cells slots Q (F0 m (pc + 3) ls (.int (M 6 i 5) :: rest))) : W p l e R s m args below meth c H locs cells slots Q (F0 m pc ls (.ref (ad 6 i) :: rest)) :=
  r_get X.1 X.2.1 X.2.2.2.2.1 inX5 X.2.2.2.1 hK hW (cp := 6) (i := i) hv rfl rfl 9 (by decide) hl rfl hdg kk
theorem p_5_9 (X : CX p s m args meth c cc nL ret own) (hK : KK E s) (hW : WD E ad (M, N) H) (hS : va_S (ow E) H0 H locs) {i : Nat} (hv : i < 6) {x : Int32} (hx : narrow .boolean (.int x) = .int x) (hx2 : fits .boolean (.int x) = true) {M1 : Mem} (hM : M1 = mp M 6 i 5 x) (hl : Cond.fieldLink own index "MonitorTurns$Strand" "breaks" "Z" ∈ TB) (hdg : decode cc pc = .ok (.putfield index, 3)) (kk : ∀ (H1 : Heap) (locs1 : List Loc), WD E ad (M1, N) H1 → va_S (ow E) H0 H1 locs1 → W p l e R s m args below meth c H1 locs1 cells slots Q (F0 m (pc + 3) ls rest)) : W p l e R s m args below meth c H locs cells slots Q (F0 m pc ls (.int x :: .ref (ad 6 i) :: rest)) := by
  subst hM
  refine r_put X.1 X.2.1 X.2.2.2.2.1 inX5 tyX5 tyX5_ok nmX5 X.2.2.2.1 hK hW hS (cp := 6) (i := i) (k' := 5) (x := x) hv (by unfold okp; decide) rfl 9 ?_ rfl (by decide) hl rfl (ty := .boolean) (by decide +kernel) hx hx2 (by simp) hdg kk
  have e1 : mp M 6 i 5 x 6 i = upd (M 6 i) 5 x := mp_upd M 6 i 5 x
  show Sum.inr (5, List.map (sv ad (mp M 6 i 5 x) 6 i) _) = _
  simp only [kd, List.map, sv, e1, upd, List.set]
  rfl
theorem g_5_10 (X : CX p s m args meth c cc nL ret own) (hK : KK E s) (hW : WD E ad (M, N) H) {i : Nat} (hv : i < 6) (hl : Cond.fieldLink own index "MonitorTurns$Strand" "raised" "I" ∈ TB) (hdg : decode cc pc = .ok (.getfield index, 3)) (kk : W p l e R s m args below meth c H locs cells slots Q (F0 m (pc + 3) ls (.int (M 6 i 6) :: rest))) : W p l e R s m args below meth c H locs cells slots Q (F0 m pc ls (.ref (ad 6 i) :: rest)) :=
  r_get X.1 X.2.1 X.2.2.2.2.1 inX5 X.2.2.2.1 hK hW (cp := 6) (i := i) hv rfl rfl 10 (by decide) hl rfl hdg kk
theorem p_5_10 (X : CX p s m args meth c cc nL ret own) (hK : KK E s) (hW : WD E ad (M, N) H) (hS : va_S (ow E) H0 H locs) {i : Nat} (hv : i < 6) {x : Int32} {M1 : Mem} (hM : M1 = mp M 6 i 6 x) (hl : Cond.fieldLink own index "MonitorTurns$Strand" "raised" "I" ∈ TB) (hdg : decode cc pc = .ok (.putfield index, 3)) (kk : ∀ (H1 : Heap) (locs1 : List Loc), WD E ad (M1, N) H1 → va_S (ow E) H0 H1 locs1 → W p l e R s m args below meth c H1 locs1 cells slots Q (F0 m (pc + 3) ls rest)) : W p l e R s m args below meth c H locs cells slots Q (F0 m pc ls (.int x :: .ref (ad 6 i) :: rest)) := by
  subst hM
  refine r_put X.1 X.2.1 X.2.2.2.2.1 inX5 tyX5 tyX5_ok nmX5 X.2.2.2.1 hK hW hS (cp := 6) (i := i) (k' := 6) (x := x) hv (by unfold okp; decide) rfl 10 ?_ rfl (by decide) hl rfl (ty := .int) (by decide +kernel) rfl rfl (by simp) hdg kk
  have e1 : mp M 6 i 6 x 6 i = upd (M 6 i) 6 x := mp_upd M 6 i 6 x
  show Sum.inr (5, List.map (sv ad (mp M 6 i 6 x) 6 i) _) = _
  simp only [kd, List.map, sv, e1, upd, List.set]
  rfl
theorem g_5_11 (X : CX p s m args meth c cc nL ret own) (hK : KK E s) (hW : WD E ad (M, N) H) {i : Nat} (hv : i < 6) (hl : Cond.fieldLink own index "MonitorTurns$Strand" "caughtKind" "I" ∈ TB) (hdg : decode cc pc = .ok (.getfield index, 3)) (kk : W p l e R s m args below meth c H locs cells slots Q (F0 m (pc + 3) ls (.int (M 6 i 7) :: rest))) : W p l e R s m args below meth c H locs cells slots Q (F0 m pc ls (.ref (ad 6 i) :: rest)) :=
  r_get X.1 X.2.1 X.2.2.2.2.1 inX5 X.2.2.2.1 hK hW (cp := 6) (i := i) hv rfl rfl 11 (by decide) hl rfl hdg kk
theorem p_5_11 (X : CX p s m args meth c cc nL ret own) (hK : KK E s) (hW : WD E ad (M, N) H) (hS : va_S (ow E) H0 H locs) {i : Nat} (hv : i < 6) {x : Int32} {M1 : Mem} (hM : M1 = mp M 6 i 7 x) (hl : Cond.fieldLink own index "MonitorTurns$Strand" "caughtKind" "I" ∈ TB) (hdg : decode cc pc = .ok (.putfield index, 3)) (kk : ∀ (H1 : Heap) (locs1 : List Loc), WD E ad (M1, N) H1 → va_S (ow E) H0 H1 locs1 → W p l e R s m args below meth c H1 locs1 cells slots Q (F0 m (pc + 3) ls rest)) : W p l e R s m args below meth c H locs cells slots Q (F0 m pc ls (.int x :: .ref (ad 6 i) :: rest)) := by
  subst hM
  refine r_put X.1 X.2.1 X.2.2.2.2.1 inX5 tyX5 tyX5_ok nmX5 X.2.2.2.1 hK hW hS (cp := 6) (i := i) (k' := 7) (x := x) hv (by unfold okp; decide) rfl 11 ?_ rfl (by decide) hl rfl (ty := .int) (by decide +kernel) rfl rfl (by simp) hdg kk
  have e1 : mp M 6 i 7 x 6 i = upd (M 6 i) 7 x := mp_upd M 6 i 7 x
  show Sum.inr (5, List.map (sv ad (mp M 6 i 7 x) 6 i) _) = _
  simp only [kd, List.map, sv, e1, upd, List.set]
  rfl
theorem g_5_12 (X : CX p s m args meth c cc nL ret own) (hK : KK E s) (hW : WD E ad (M, N) H) {i : Nat} (hv : i < 6) (hl : Cond.fieldLink own index "MonitorTurns$Strand" "caughtNumber" "I" ∈ TB) (hdg : decode cc pc = .ok (.getfield index, 3)) (kk : W p l e R s m args below meth c H locs cells slots Q (F0 m (pc + 3) ls (.int (M 6 i 8) :: rest))) : W p l e R s m args below meth c H locs cells slots Q (F0 m pc ls (.ref (ad 6 i) :: rest)) :=
  r_get X.1 X.2.1 X.2.2.2.2.1 inX5 X.2.2.2.1 hK hW (cp := 6) (i := i) hv rfl rfl 12 (by decide) hl rfl hdg kk
theorem p_5_12 (X : CX p s m args meth c cc nL ret own) (hK : KK E s) (hW : WD E ad (M, N) H) (hS : va_S (ow E) H0 H locs) {i : Nat} (hv : i < 6) {x : Int32} {M1 : Mem} (hM : M1 = mp M 6 i 8 x) (hl : Cond.fieldLink own index "MonitorTurns$Strand" "caughtNumber" "I" ∈ TB) (hdg : decode cc pc = .ok (.putfield index, 3)) (kk : ∀ (H1 : Heap) (locs1 : List Loc), WD E ad (M1, N) H1 → va_S (ow E) H0 H1 locs1 → W p l e R s m args below meth c H1 locs1 cells slots Q (F0 m (pc + 3) ls rest)) : W p l e R s m args below meth c H locs cells slots Q (F0 m pc ls (.int x :: .ref (ad 6 i) :: rest)) := by
  subst hM
  refine r_put X.1 X.2.1 X.2.2.2.2.1 inX5 tyX5 tyX5_ok nmX5 X.2.2.2.1 hK hW hS (cp := 6) (i := i) (k' := 8) (x := x) hv (by unfold okp; decide) rfl 12 ?_ rfl (by decide) hl rfl (ty := .int) (by decide +kernel) rfl rfl (by simp) hdg kk
  have e1 : mp M 6 i 8 x 6 i = upd (M 6 i) 8 x := mp_upd M 6 i 8 x
  show Sum.inr (5, List.map (sv ad (mp M 6 i 8 x) 6 i) _) = _
  simp only [kd, List.map, sv, e1, upd, List.set]
  rfl
theorem g_5_13 (X : CX p s m args meth c cc nL ret own) (hK : KK E s) (hW : WD E ad (M, N) H) {i : Nat} (hv : i < 6) (hl : Cond.fieldLink own index "MonitorTurns$Strand" "endKind" "I" ∈ TB) (hdg : decode cc pc = .ok (.getfield index, 3)) (kk : W p l e R s m args below meth c H locs cells slots Q (F0 m (pc + 3) ls (.int (M 6 i 9) :: rest))) : W p l e R s m args below meth c H locs cells slots Q (F0 m pc ls (.ref (ad 6 i) :: rest)) :=
  r_get X.1 X.2.1 X.2.2.2.2.1 inX5 X.2.2.2.1 hK hW (cp := 6) (i := i) hv rfl rfl 13 (by decide) hl rfl hdg kk
theorem p_5_13 (X : CX p s m args meth c cc nL ret own) (hK : KK E s) (hW : WD E ad (M, N) H) (hS : va_S (ow E) H0 H locs) {i : Nat} (hv : i < 6) {x : Int32} {M1 : Mem} (hM : M1 = mp M 6 i 9 x) (hl : Cond.fieldLink own index "MonitorTurns$Strand" "endKind" "I" ∈ TB) (hdg : decode cc pc = .ok (.putfield index, 3)) (kk : ∀ (H1 : Heap) (locs1 : List Loc), WD E ad (M1, N) H1 → va_S (ow E) H0 H1 locs1 → W p l e R s m args below meth c H1 locs1 cells slots Q (F0 m (pc + 3) ls rest)) : W p l e R s m args below meth c H locs cells slots Q (F0 m pc ls (.int x :: .ref (ad 6 i) :: rest)) := by
  subst hM
  refine r_put X.1 X.2.1 X.2.2.2.2.1 inX5 tyX5 tyX5_ok nmX5 X.2.2.2.1 hK hW hS (cp := 6) (i := i) (k' := 9) (x := x) hv (by unfold okp; decide) rfl 13 ?_ rfl (by decide) hl rfl (ty := .int) (by decide +kernel) rfl rfl (by simp) hdg kk
  have e1 : mp M 6 i 9 x 6 i = upd (M 6 i) 9 x := mp_upd M 6 i 9 x
  show Sum.inr (5, List.map (sv ad (mp M 6 i 9 x) 6 i) _) = _
  simp only [kd, List.map, sv, e1, upd, List.set]
  rfl
theorem g_5_14 (X : CX p s m args meth c cc nL ret own) (hK : KK E s) (hW : WD E ad (M, N) H) {i : Nat} (hv : i < 6) (hl : Cond.fieldLink own index "MonitorTurns$Strand" "endNumber" "I" ∈ TB) (hdg : decode cc pc = .ok (.getfield index, 3)) (kk : W p l e R s m args below meth c H locs cells slots Q (F0 m (pc + 3) ls (.int (M 6 i 10) :: rest))) : W p l e R s m args below meth c H locs cells slots Q (F0 m pc ls (.ref (ad 6 i) :: rest)) :=
  r_get X.1 X.2.1 X.2.2.2.2.1 inX5 X.2.2.2.1 hK hW (cp := 6) (i := i) hv rfl rfl 14 (by decide) hl rfl hdg kk
theorem p_5_14 (X : CX p s m args meth c cc nL ret own) (hK : KK E s) (hW : WD E ad (M, N) H) (hS : va_S (ow E) H0 H locs) {i : Nat} (hv : i < 6) {x : Int32} {M1 : Mem} (hM : M1 = mp M 6 i 10 x) (hl : Cond.fieldLink own index "MonitorTurns$Strand" "endNumber" "I" ∈ TB) (hdg : decode cc pc = .ok (.putfield index, 3)) (kk : ∀ (H1 : Heap) (locs1 : List Loc), WD E ad (M1, N) H1 → va_S (ow E) H0 H1 locs1 → W p l e R s m args below meth c H1 locs1 cells slots Q (F0 m (pc + 3) ls rest)) : W p l e R s m args below meth c H locs cells slots Q (F0 m pc ls (.int x :: .ref (ad 6 i) :: rest)) := by
  subst hM
  refine r_put X.1 X.2.1 X.2.2.2.2.1 inX5 tyX5 tyX5_ok nmX5 X.2.2.2.1 hK hW hS (cp := 6) (i := i) (k' := 10) (x := x) hv (by unfold okp; decide) rfl 14 ?_ rfl (by decide) hl rfl (ty := .int) (by decide +kernel) rfl rfl (by simp) hdg kk
  have e1 : mp M 6 i 10 x 6 i = upd (M 6 i) 10 x := mp_upd M 6 i 10 x
  show Sum.inr (5, List.map (sv ad (mp M 6 i 10 x) 6 i) _) = _
  simp only [kd, List.map, sv, e1, upd, List.set]
  rfl
theorem g_5_15 (X : CX p s m args meth c cc nL ret own) (hK : KK E s) (hW : WD E ad (M, N) H) {i : Nat} (hv : i < 6) (hl : Cond.fieldLink own index "MonitorTurns$Strand" "target" "I" ∈ TB) (hdg : decode cc pc = .ok (.getfield index, 3)) (kk : W p l e R s m args below meth c H locs cells slots Q (F0 m (pc + 3) ls (.int (M 6 i 11) :: rest))) : W p l e R s m args below meth c H locs cells slots Q (F0 m pc ls (.ref (ad 6 i) :: rest)) :=
  r_get X.1 X.2.1 X.2.2.2.2.1 inX5 X.2.2.2.1 hK hW (cp := 6) (i := i) hv rfl rfl 15 (by decide) hl rfl hdg kk
theorem p_5_15 (X : CX p s m args meth c cc nL ret own) (hK : KK E s) (hW : WD E ad (M, N) H) (hS : va_S (ow E) H0 H locs) {i : Nat} (hv : i < 6) {x : Int32} {M1 : Mem} (hM : M1 = mp M 6 i 11 x) (hl : Cond.fieldLink own index "MonitorTurns$Strand" "target" "I" ∈ TB) (hdg : decode cc pc = .ok (.putfield index, 3)) (kk : ∀ (H1 : Heap) (locs1 : List Loc), WD E ad (M1, N) H1 → va_S (ow E) H0 H1 locs1 → W p l e R s m args below meth c H1 locs1 cells slots Q (F0 m (pc + 3) ls rest)) : W p l e R s m args below meth c H locs cells slots Q (F0 m pc ls (.int x :: .ref (ad 6 i) :: rest)) := by
  subst hM
  refine r_put X.1 X.2.1 X.2.2.2.2.1 inX5 tyX5 tyX5_ok nmX5 X.2.2.2.1 hK hW hS (cp := 6) (i := i) (k' := 11) (x := x) hv (by unfold okp; decide) rfl 15 ?_ rfl (by decide) hl rfl (ty := .int) (by decide +kernel) rfl rfl (by simp) hdg kk
  have e1 : mp M 6 i 11 x 6 i = upd (M 6 i) 11 x := mp_upd M 6 i 11 x
  show Sum.inr (5, List.map (sv ad (mp M 6 i 11 x) 6 i) _) = _
  simp only [kd, List.map, sv, e1, upd, List.set]
  rfl
theorem g_5_16 (X : CX p s m args meth c cc nL ret own) (hK : KK E s) (hW : WD E ad (M, N) H) {i : Nat} (hv : i < 6) (hl : Cond.fieldLink own index "MonitorTurns$Strand" "until" "I" ∈ TB) (hdg : decode cc pc = .ok (.getfield index, 3)) (kk : W p l e R s m args below meth c H locs cells slots Q (F0 m (pc + 3) ls (.int (M 6 i 12) :: rest))) : W p l e R s m args below meth c H locs cells slots Q (F0 m pc ls (.ref (ad 6 i) :: rest)) :=
  r_get X.1 X.2.1 X.2.2.2.2.1 inX5 X.2.2.2.1 hK hW (cp := 6) (i := i) hv rfl rfl 16 (by decide) hl rfl hdg kk
theorem p_5_16 (X : CX p s m args meth c cc nL ret own) (hK : KK E s) (hW : WD E ad (M, N) H) (hS : va_S (ow E) H0 H locs) {i : Nat} (hv : i < 6) {x : Int32} {M1 : Mem} (hM : M1 = mp M 6 i 12 x) (hl : Cond.fieldLink own index "MonitorTurns$Strand" "until" "I" ∈ TB) (hdg : decode cc pc = .ok (.putfield index, 3)) (kk : ∀ (H1 : Heap) (locs1 : List Loc), WD E ad (M1, N) H1 → va_S (ow E) H0 H1 locs1 → W p l e R s m args below meth c H1 locs1 cells slots Q (F0 m (pc + 3) ls rest)) : W p l e R s m args below meth c H locs cells slots Q (F0 m pc ls (.int x :: .ref (ad 6 i) :: rest)) := by
  subst hM
  refine r_put X.1 X.2.1 X.2.2.2.2.1 inX5 tyX5 tyX5_ok nmX5 X.2.2.2.1 hK hW hS (cp := 6) (i := i) (k' := 12) (x := x) hv (by unfold okp; decide) rfl 16 ?_ rfl (by decide) hl rfl (ty := .int) (by decide +kernel) rfl rfl (by simp) hdg kk
  have e1 : mp M 6 i 12 x 6 i = upd (M 6 i) 12 x := mp_upd M 6 i 12 x
  show Sum.inr (5, List.map (sv ad (mp M 6 i 12 x) 6 i) _) = _
  simp only [kd, List.map, sv, e1, upd, List.set]
  rfl
theorem g_5_17 (X : CX p s m args meth c cc nL ret own) (hK : KK E s) (hW : WD E ad (M, N) H) {i : Nat} (hv : i < 6) (hl : Cond.fieldLink own index "MonitorTurns$Strand" "depth" "I" ∈ TB) (hdg : decode cc pc = .ok (.getfield index, 3)) (kk : W p l e R s m args below meth c H locs cells slots Q (F0 m (pc + 3) ls (.int (M 6 i 13) :: rest))) : W p l e R s m args below meth c H locs cells slots Q (F0 m pc ls (.ref (ad 6 i) :: rest)) :=
  r_get X.1 X.2.1 X.2.2.2.2.1 inX5 X.2.2.2.1 hK hW (cp := 6) (i := i) hv rfl rfl 17 (by decide) hl rfl hdg kk
theorem p_5_17 (X : CX p s m args meth c cc nL ret own) (hK : KK E s) (hW : WD E ad (M, N) H) (hS : va_S (ow E) H0 H locs) {i : Nat} (hv : i < 6) {x : Int32} {M1 : Mem} (hM : M1 = mp M 6 i 13 x) (hl : Cond.fieldLink own index "MonitorTurns$Strand" "depth" "I" ∈ TB) (hdg : decode cc pc = .ok (.putfield index, 3)) (kk : ∀ (H1 : Heap) (locs1 : List Loc), WD E ad (M1, N) H1 → va_S (ow E) H0 H1 locs1 → W p l e R s m args below meth c H1 locs1 cells slots Q (F0 m (pc + 3) ls rest)) : W p l e R s m args below meth c H locs cells slots Q (F0 m pc ls (.int x :: .ref (ad 6 i) :: rest)) := by
  subst hM
  refine r_put X.1 X.2.1 X.2.2.2.2.1 inX5 tyX5 tyX5_ok nmX5 X.2.2.2.1 hK hW hS (cp := 6) (i := i) (k' := 13) (x := x) hv (by unfold okp; decide) rfl 17 ?_ rfl (by decide) hl rfl (ty := .int) (by decide +kernel) rfl rfl (by simp) hdg kk
  have e1 : mp M 6 i 13 x 6 i = upd (M 6 i) 13 x := mp_upd M 6 i 13 x
  show Sum.inr (5, List.map (sv ad (mp M 6 i 13 x) 6 i) _) = _
  simp only [kd, List.map, sv, e1, upd, List.set]
  rfl
theorem g_5_18 (X : CX p s m args meth c cc nL ret own) (hK : KK E s) (hW : WD E ad (M, N) H) {i : Nat} (hv : i < 6) (hl : Cond.fieldLink own index "MonitorTurns$Strand" "stamp" "I" ∈ TB) (hdg : decode cc pc = .ok (.getfield index, 3)) (kk : W p l e R s m args below meth c H locs cells slots Q (F0 m (pc + 3) ls (.int (M 6 i 14) :: rest))) : W p l e R s m args below meth c H locs cells slots Q (F0 m pc ls (.ref (ad 6 i) :: rest)) :=
  r_get X.1 X.2.1 X.2.2.2.2.1 inX5 X.2.2.2.1 hK hW (cp := 6) (i := i) hv rfl rfl 18 (by decide) hl rfl hdg kk
theorem p_5_18 (X : CX p s m args meth c cc nL ret own) (hK : KK E s) (hW : WD E ad (M, N) H) (hS : va_S (ow E) H0 H locs) {i : Nat} (hv : i < 6) {x : Int32} {M1 : Mem} (hM : M1 = mp M 6 i 14 x) (hl : Cond.fieldLink own index "MonitorTurns$Strand" "stamp" "I" ∈ TB) (hdg : decode cc pc = .ok (.putfield index, 3)) (kk : ∀ (H1 : Heap) (locs1 : List Loc), WD E ad (M1, N) H1 → va_S (ow E) H0 H1 locs1 → W p l e R s m args below meth c H1 locs1 cells slots Q (F0 m (pc + 3) ls rest)) : W p l e R s m args below meth c H locs cells slots Q (F0 m pc ls (.int x :: .ref (ad 6 i) :: rest)) := by
  subst hM
  refine r_put X.1 X.2.1 X.2.2.2.2.1 inX5 tyX5 tyX5_ok nmX5 X.2.2.2.1 hK hW hS (cp := 6) (i := i) (k' := 14) (x := x) hv (by unfold okp; decide) rfl 18 ?_ rfl (by decide) hl rfl (ty := .int) (by decide +kernel) rfl rfl (by simp) hdg kk
  have e1 : mp M 6 i 14 x 6 i = upd (M 6 i) 14 x := mp_upd M 6 i 14 x
  show Sum.inr (5, List.map (sv ad (mp M 6 i 14 x) 6 i) _) = _
  simp only [kd, List.map, sv, e1, upd, List.set]
  rfl
theorem g_5_19 (X : CX p s m args meth c cc nL ret own) (hK : KK E s) (hW : WD E ad (M, N) H) {i : Nat} (hv : i < 6) (hl : Cond.fieldLink own index "MonitorTurns$Strand" "begun" "I" ∈ TB) (hdg : decode cc pc = .ok (.getfield index, 3)) (kk : W p l e R s m args below meth c H locs cells slots Q (F0 m (pc + 3) ls (.int (M 6 i 15) :: rest))) : W p l e R s m args below meth c H locs cells slots Q (F0 m pc ls (.ref (ad 6 i) :: rest)) :=
  r_get X.1 X.2.1 X.2.2.2.2.1 inX5 X.2.2.2.1 hK hW (cp := 6) (i := i) hv rfl rfl 19 (by decide) hl rfl hdg kk
theorem p_5_19 (X : CX p s m args meth c cc nL ret own) (hK : KK E s) (hW : WD E ad (M, N) H) (hS : va_S (ow E) H0 H locs) {i : Nat} (hv : i < 6) {x : Int32} {M1 : Mem} (hM : M1 = mp M 6 i 15 x) (hl : Cond.fieldLink own index "MonitorTurns$Strand" "begun" "I" ∈ TB) (hdg : decode cc pc = .ok (.putfield index, 3)) (kk : ∀ (H1 : Heap) (locs1 : List Loc), WD E ad (M1, N) H1 → va_S (ow E) H0 H1 locs1 → W p l e R s m args below meth c H1 locs1 cells slots Q (F0 m (pc + 3) ls rest)) : W p l e R s m args below meth c H locs cells slots Q (F0 m pc ls (.int x :: .ref (ad 6 i) :: rest)) := by
  subst hM
  refine r_put X.1 X.2.1 X.2.2.2.2.1 inX5 tyX5 tyX5_ok nmX5 X.2.2.2.1 hK hW hS (cp := 6) (i := i) (k' := 15) (x := x) hv (by unfold okp; decide) rfl 19 ?_ rfl (by decide) hl rfl (ty := .int) (by decide +kernel) rfl rfl (by simp) hdg kk
  have e1 : mp M 6 i 15 x 6 i = upd (M 6 i) 15 x := mp_upd M 6 i 15 x
  show Sum.inr (5, List.map (sv ad (mp M 6 i 15 x) 6 i) _) = _
  simp only [kd, List.map, sv, e1, upd, List.set]
  rfl
theorem g_2_0 (X : CX p s m args meth c cc nL ret own) (hK : KK E s) (hW : WD E ad (M, N) H) {i : Nat} (hv : i < 6) (hl : Cond.fieldLink own index "MonitorTurns$Handlers" "places" "[I" ∈ TB) (hdg : decode cc pc = .ok (.getfield index, 3)) (kk : W p l e R s m args below meth c H locs cells slots Q (F0 m (pc + 3) ls (.ref (ad 17 i) :: rest))) : W p l e R s m args below meth c H locs cells slots Q (F0 m pc ls (.ref (ad 7 i) :: rest)) :=
  r_get X.1 X.2.1 X.2.2.2.2.1 inX2 X.2.2.2.1 hK hW (cp := 7) (i := i) hv rfl rfl 0 (by decide) hl rfl hdg kk
theorem g_2_1 (X : CX p s m args meth c cc nL ret own) (hK : KK E s) (hW : WD E ad (M, N) H) {i : Nat} (hv : i < 6) (hl : Cond.fieldLink own index "MonitorTurns$Handlers" "masks" "[I" ∈ TB) (hdg : decode cc pc = .ok (.getfield index, 3)) (kk : W p l e R s m args below meth c H locs cells slots Q (F0 m (pc + 3) ls (.ref (ad 18 i) :: rest))) : W p l e R s m args below meth c H locs cells slots Q (F0 m pc ls (.ref (ad 7 i) :: rest)) :=
  r_get X.1 X.2.1 X.2.2.2.2.1 inX2 X.2.2.2.1 hK hW (cp := 7) (i := i) hv rfl rfl 1 (by decide) hl rfl hdg kk
theorem g_2_2 (X : CX p s m args meth c cc nL ret own) (hK : KK E s) (hW : WD E ad (M, N) H) {i : Nat} (hv : i < 6) (hl : Cond.fieldLink own index "MonitorTurns$Handlers" "size" "I" ∈ TB) (hdg : decode cc pc = .ok (.getfield index, 3)) (kk : W p l e R s m args below meth c H locs cells slots Q (F0 m (pc + 3) ls (.int (M 7 i 0) :: rest))) : W p l e R s m args below meth c H locs cells slots Q (F0 m pc ls (.ref (ad 7 i) :: rest)) :=
  r_get X.1 X.2.1 X.2.2.2.2.1 inX2 X.2.2.2.1 hK hW (cp := 7) (i := i) hv rfl rfl 2 (by decide) hl rfl hdg kk
theorem p_2_2 (X : CX p s m args meth c cc nL ret own) (hK : KK E s) (hW : WD E ad (M, N) H) (hS : va_S (ow E) H0 H locs) {i : Nat} (hv : i < 6) {x : Int32} {M1 : Mem} (hM : M1 = mp M 7 i 0 x) (hl : Cond.fieldLink own index "MonitorTurns$Handlers" "size" "I" ∈ TB) (hdg : decode cc pc = .ok (.putfield index, 3)) (kk : ∀ (H1 : Heap) (locs1 : List Loc), WD E ad (M1, N) H1 → va_S (ow E) H0 H1 locs1 → W p l e R s m args below meth c H1 locs1 cells slots Q (F0 m (pc + 3) ls rest)) : W p l e R s m args below meth c H locs cells slots Q (F0 m pc ls (.int x :: .ref (ad 7 i) :: rest)) := by
  subst hM
  refine r_put X.1 X.2.1 X.2.2.2.2.1 inX2 tyX2 tyX2_ok nmX2 X.2.2.2.1 hK hW hS (cp := 7) (i := i) (k' := 0) (x := x) hv (by unfold okp; decide) rfl 2 ?_ rfl (by decide) hl rfl (ty := .int) (by decide +kernel) rfl rfl (by simp) hdg kk
  have e1 : mp M 7 i 0 x 7 i = upd (M 7 i) 0 x := mp_upd M 7 i 0 x
  show Sum.inr (2, List.map (sv ad (mp M 7 i 0 x) 7 i) _) = _
  simp only [kd, List.map, sv, e1, upd, List.set]
  rfl
theorem g_7_0 (X : CX p s m args meth c cc nL ret own) (hK : KK E s) (hW : WD E ad (M, N) H) {i : Nat} (hv : i < (M 60 0 1).toNatClampNeg) (hl : Cond.fieldLink own index "MonitorTurns$Thing" "number" "I" ∈ TB) (hdg : decode cc pc = .ok (.getfield index, 3)) (kk : W p l e R s m args below meth c H locs cells slots Q (F0 m (pc + 3) ls (.int (nI i) :: rest))) : W p l e R s m args below meth c H locs cells slots Q (F0 m pc ls (.ref (ad 8 i) :: rest)) :=
  r_get X.1 X.2.1 X.2.2.2.2.1 inX7 X.2.2.2.1 hK hW (cp := 8) (i := i) hv rfl rfl 0 (by decide) hl rfl hdg kk
theorem g_7_1 (X : CX p s m args meth c cc nL ret own) (hK : KK E s) (hW : WD E ad (M, N) H) {i : Nat} (hv : i < (M 60 0 1).toNatClampNeg) (hl : Cond.fieldLink own index "MonitorTurns$Thing" "kind" "I" ∈ TB) (hdg : decode cc pc = .ok (.getfield index, 3)) (kk : W p l e R s m args below meth c H locs cells slots Q (F0 m (pc + 3) ls (.int (M 8 i 0) :: rest))) : W p l e R s m args below meth c H locs cells slots Q (F0 m pc ls (.ref (ad 8 i) :: rest)) :=
  r_get X.1 X.2.1 X.2.2.2.2.1 inX7 X.2.2.2.1 hK hW (cp := 8) (i := i) hv rfl rfl 1 (by decide) hl rfl hdg kk
theorem g_7_2 (X : CX p s m args meth c cc nL ret own) (hK : KK E s) (hW : WD E ad (M, N) H) {i : Nat} (hv : i < (M 60 0 1).toNatClampNeg) (hl : Cond.fieldLink own index "MonitorTurns$Thing" "places" "[I" ∈ TB) (hdg : decode cc pc = .ok (.getfield index, 3)) (kk : W p l e R s m args below meth c H locs cells slots Q (F0 m (pc + 3) ls (.ref (ad 19 i) :: rest))) : W p l e R s m args below meth c H locs cells slots Q (F0 m pc ls (.ref (ad 8 i) :: rest)) :=
  r_get X.1 X.2.1 X.2.2.2.2.1 inX7 X.2.2.2.1 hK hW (cp := 8) (i := i) hv rfl rfl 2 (by decide) hl rfl hdg kk
theorem g_7_3 (X : CX p s m args meth c cc nL ret own) (hK : KK E s) (hW : WD E ad (M, N) H) {i : Nat} (hv : i < (M 60 0 1).toNatClampNeg) (hl : Cond.fieldLink own index "MonitorTurns$Thing" "count" "I" ∈ TB) (hdg : decode cc pc = .ok (.getfield index, 3)) (kk : W p l e R s m args below meth c H locs cells slots Q (F0 m (pc + 3) ls (.int (M 8 i 1) :: rest))) : W p l e R s m args below meth c H locs cells slots Q (F0 m pc ls (.ref (ad 8 i) :: rest)) :=
  r_get X.1 X.2.1 X.2.2.2.2.1 inX7 X.2.2.2.1 hK hW (cp := 8) (i := i) hv rfl rfl 3 (by decide) hl rfl hdg kk
theorem p_7_3 (X : CX p s m args meth c cc nL ret own) (hK : KK E s) (hW : WD E ad (M, N) H) (hS : va_S (ow E) H0 H locs) {i : Nat} (hv : i < (M 60 0 1).toNatClampNeg) {x : Int32} {M1 : Mem} (hM : M1 = mp M 8 i 1 x) (hl : Cond.fieldLink own index "MonitorTurns$Thing" "count" "I" ∈ TB) (hdg : decode cc pc = .ok (.putfield index, 3)) (kk : ∀ (H1 : Heap) (locs1 : List Loc), WD E ad (M1, N) H1 → va_S (ow E) H0 H1 locs1 → W p l e R s m args below meth c H1 locs1 cells slots Q (F0 m (pc + 3) ls rest)) : W p l e R s m args below meth c H locs cells slots Q (F0 m pc ls (.int x :: .ref (ad 8 i) :: rest)) := by
  subst hM
  refine r_put X.1 X.2.1 X.2.2.2.2.1 inX7 tyX7 tyX7_ok nmX7 X.2.2.2.1 hK hW hS (cp := 8) (i := i) (k' := 1) (x := x) hv (by unfold okp; decide) rfl 3 ?_ rfl (by decide) hl rfl (ty := .int) (by decide +kernel) rfl rfl (by simp) hdg kk
  have e1 : mp M 8 i 1 x 8 i = upd (M 8 i) 1 x := mp_upd M 8 i 1 x
  show Sum.inr (7, List.map (sv ad (mp M 8 i 1 x) 8 i) _) = _
  simp only [kd, List.map, sv, e1, upd, List.set]
  rfl
theorem g_7_4 (X : CX p s m args meth c cc nL ret own) (hK : KK E s) (hW : WD E ad (M, N) H) {i : Nat} (hv : i < (M 60 0 1).toNatClampNeg) (hl : Cond.fieldLink own index "MonitorTurns$Thing" "owner" "I" ∈ TB) (hdg : decode cc pc = .ok (.getfield index, 3)) (kk : W p l e R s m args below meth c H locs cells slots Q (F0 m (pc + 3) ls (.int (M 8 i 2) :: rest))) : W p l e R s m args below meth c H locs cells slots Q (F0 m pc ls (.ref (ad 8 i) :: rest)) :=
  r_get X.1 X.2.1 X.2.2.2.2.1 inX7 X.2.2.2.1 hK hW (cp := 8) (i := i) hv rfl rfl 4 (by decide) hl rfl hdg kk
theorem p_7_4 (X : CX p s m args meth c cc nL ret own) (hK : KK E s) (hW : WD E ad (M, N) H) (hS : va_S (ow E) H0 H locs) {i : Nat} (hv : i < (M 60 0 1).toNatClampNeg) {x : Int32} {M1 : Mem} (hM : M1 = mp M 8 i 2 x) (hl : Cond.fieldLink own index "MonitorTurns$Thing" "owner" "I" ∈ TB) (hdg : decode cc pc = .ok (.putfield index, 3)) (kk : ∀ (H1 : Heap) (locs1 : List Loc), WD E ad (M1, N) H1 → va_S (ow E) H0 H1 locs1 → W p l e R s m args below meth c H1 locs1 cells slots Q (F0 m (pc + 3) ls rest)) : W p l e R s m args below meth c H locs cells slots Q (F0 m pc ls (.int x :: .ref (ad 8 i) :: rest)) := by
  subst hM
  refine r_put X.1 X.2.1 X.2.2.2.2.1 inX7 tyX7 tyX7_ok nmX7 X.2.2.2.1 hK hW hS (cp := 8) (i := i) (k' := 2) (x := x) hv (by unfold okp; decide) rfl 4 ?_ rfl (by decide) hl rfl (ty := .int) (by decide +kernel) rfl rfl (by simp) hdg kk
  have e1 : mp M 8 i 2 x 8 i = upd (M 8 i) 2 x := mp_upd M 8 i 2 x
  show Sum.inr (7, List.map (sv ad (mp M 8 i 2 x) 8 i) _) = _
  simp only [kd, List.map, sv, e1, upd, List.set]
  rfl
theorem g_7_5 (X : CX p s m args meth c cc nL ret own) (hK : KK E s) (hW : WD E ad (M, N) H) {i : Nat} (hv : i < (M 60 0 1).toNatClampNeg) (hl : Cond.fieldLink own index "MonitorTurns$Thing" "depth" "I" ∈ TB) (hdg : decode cc pc = .ok (.getfield index, 3)) (kk : W p l e R s m args below meth c H locs cells slots Q (F0 m (pc + 3) ls (.int (M 8 i 3) :: rest))) : W p l e R s m args below meth c H locs cells slots Q (F0 m pc ls (.ref (ad 8 i) :: rest)) :=
  r_get X.1 X.2.1 X.2.2.2.2.1 inX7 X.2.2.2.1 hK hW (cp := 8) (i := i) hv rfl rfl 5 (by decide) hl rfl hdg kk
theorem p_7_5 (X : CX p s m args meth c cc nL ret own) (hK : KK E s) (hW : WD E ad (M, N) H) (hS : va_S (ow E) H0 H locs) {i : Nat} (hv : i < (M 60 0 1).toNatClampNeg) {x : Int32} {M1 : Mem} (hM : M1 = mp M 8 i 3 x) (hl : Cond.fieldLink own index "MonitorTurns$Thing" "depth" "I" ∈ TB) (hdg : decode cc pc = .ok (.putfield index, 3)) (kk : ∀ (H1 : Heap) (locs1 : List Loc), WD E ad (M1, N) H1 → va_S (ow E) H0 H1 locs1 → W p l e R s m args below meth c H1 locs1 cells slots Q (F0 m (pc + 3) ls rest)) : W p l e R s m args below meth c H locs cells slots Q (F0 m pc ls (.int x :: .ref (ad 8 i) :: rest)) := by
  subst hM
  refine r_put X.1 X.2.1 X.2.2.2.2.1 inX7 tyX7 tyX7_ok nmX7 X.2.2.2.1 hK hW hS (cp := 8) (i := i) (k' := 3) (x := x) hv (by unfold okp; decide) rfl 5 ?_ rfl (by decide) hl rfl (ty := .int) (by decide +kernel) rfl rfl (by simp) hdg kk
  have e1 : mp M 8 i 3 x 8 i = upd (M 8 i) 3 x := mp_upd M 8 i 3 x
  show Sum.inr (7, List.map (sv ad (mp M 8 i 3 x) 8 i) _) = _
  simp only [kd, List.map, sv, e1, upd, List.set]
  rfl
theorem g_9_0 (X : CX p s m args meth c cc nL ret own) (hK : KK E s) (hW : WD E ad (M, N) H) (hl : Cond.fieldLink own index "MonitorTurnsModel" "things" "I" ∈ TB) (hdg : decode cc pc = .ok (.getfield index, 3)) (kk : W p l e R s m args below meth c H locs cells slots Q (F0 m (pc + 3) ls (.int (N 20 0 0) :: rest))) : W p l e R s m args below meth c H locs cells slots Q (F0 m pc ls (.ref (ad 20 0) :: rest)) :=
  r_get X.1 X.2.1 X.2.2.2.2.1 inX9 X.2.2.2.1 hK hW (cp := 20) (i := 0) Nat.zero_lt_one rfl rfl 0 (by decide) hl rfl hdg kk
theorem p_9_0 (X : CX p s m args meth c cc nL ret own) (hK : KK E s) (hW : WD E ad (M, N) H) (hS : va_S (ow E) H0 H locs) {x : Int32} {N1 : Mem} (hM : N1 = mp N 20 0 0 x) (hl : Cond.fieldLink own index "MonitorTurnsModel" "things" "I" ∈ TB) (hdg : decode cc pc = .ok (.putfield index, 3)) (kk : ∀ (H1 : Heap) (locs1 : List Loc), WD E ad (M, N1) H1 → va_S (ow E) H0 H1 locs1 → W p l e R s m args below meth c H1 locs1 cells slots Q (F0 m (pc + 3) ls rest)) : W p l e R s m args below meth c H locs cells slots Q (F0 m pc ls (.int x :: .ref (ad 20 0) :: rest)) := by
  subst hM
  refine r_put X.1 X.2.1 X.2.2.2.2.1 inX9 tyX9 tyX9_ok nmX9 X.2.2.2.1 hK hW hS (cp := 20) (i := 0) (k' := 0) (x := x) Nat.zero_lt_one (by unfold okp; decide) rfl 0 ?_ rfl (by decide) hl rfl (ty := .int) (by decide +kernel) rfl rfl (by simp) hdg kk
  have e1 : mp N 20 0 0 x 20 0 = upd (N 20 0) 0 x := mp_upd N 20 0 0 x
  show Sum.inr (9, List.map (sv ad (mp N 20 0 0 x) 20 0) _) = _
  simp only [kd, List.map, sv, e1, upd, List.set]
  rfl
theorem g_9_1 (X : CX p s m args meth c cc nL ret own) (hK : KK E s) (hW : WD E ad (M, N) H) (hl : Cond.fieldLink own index "MonitorTurnsModel" "kinds" "[I" ∈ TB) (hdg : decode cc pc = .ok (.getfield index, 3)) (kk : W p l e R s m args below meth c H locs cells slots Q (F0 m (pc + 3) ls (.ref (ad 21 0) :: rest))) : W p l e R s m args below meth c H locs cells slots Q (F0 m pc ls (.ref (ad 20 0) :: rest)) :=
  r_get X.1 X.2.1 X.2.2.2.2.1 inX9 X.2.2.2.1 hK hW (cp := 20) (i := 0) Nat.zero_lt_one rfl rfl 1 (by decide) hl rfl hdg kk
theorem g_9_2 (X : CX p s m args meth c cc nL ret own) (hK : KK E s) (hW : WD E ad (M, N) H) (hl : Cond.fieldLink own index "MonitorTurnsModel" "counts" "[I" ∈ TB) (hdg : decode cc pc = .ok (.getfield index, 3)) (kk : W p l e R s m args below meth c H locs cells slots Q (F0 m (pc + 3) ls (.ref (ad 22 0) :: rest))) : W p l e R s m args below meth c H locs cells slots Q (F0 m pc ls (.ref (ad 20 0) :: rest)) :=
  r_get X.1 X.2.1 X.2.2.2.2.1 inX9 X.2.2.2.1 hK hW (cp := 20) (i := 0) Nat.zero_lt_one rfl rfl 2 (by decide) hl rfl hdg kk
theorem g_9_3 (X : CX p s m args meth c cc nL ret own) (hK : KK E s) (hW : WD E ad (M, N) H) (hl : Cond.fieldLink own index "MonitorTurnsModel" "sizes" "[I" ∈ TB) (hdg : decode cc pc = .ok (.getfield index, 3)) (kk : W p l e R s m args below meth c H locs cells slots Q (F0 m (pc + 3) ls (.ref (ad 23 0) :: rest))) : W p l e R s m args below meth c H locs cells slots Q (F0 m pc ls (.ref (ad 20 0) :: rest)) :=
  r_get X.1 X.2.1 X.2.2.2.2.1 inX9 X.2.2.2.1 hK hW (cp := 20) (i := 0) Nat.zero_lt_one rfl rfl 3 (by decide) hl rfl hdg kk
theorem g_9_4 (X : CX p s m args meth c cc nL ret own) (hK : KK E s) (hW : WD E ad (M, N) H) (hl : Cond.fieldLink own index "MonitorTurnsModel" "cells" "[I" ∈ TB) (hdg : decode cc pc = .ok (.getfield index, 3)) (kk : W p l e R s m args below meth c H locs cells slots Q (F0 m (pc + 3) ls (.ref (ad 24 0) :: rest))) : W p l e R s m args below meth c H locs cells slots Q (F0 m pc ls (.ref (ad 20 0) :: rest)) :=
  r_get X.1 X.2.1 X.2.2.2.2.1 inX9 X.2.2.2.1 hK hW (cp := 20) (i := 0) Nat.zero_lt_one rfl rfl 4 (by decide) hl rfl hdg kk
theorem g_9_5 (X : CX p s m args meth c cc nL ret own) (hK : KK E s) (hW : WD E ad (M, N) H) (hl : Cond.fieldLink own index "MonitorTurnsModel" "owner" "[I" ∈ TB) (hdg : decode cc pc = .ok (.getfield index, 3)) (kk : W p l e R s m args below meth c H locs cells slots Q (F0 m (pc + 3) ls (.ref (ad 25 0) :: rest))) : W p l e R s m args below meth c H locs cells slots Q (F0 m pc ls (.ref (ad 20 0) :: rest)) :=
  r_get X.1 X.2.1 X.2.2.2.2.1 inX9 X.2.2.2.1 hK hW (cp := 20) (i := 0) Nat.zero_lt_one rfl rfl 5 (by decide) hl rfl hdg kk
theorem g_9_6 (X : CX p s m args meth c cc nL ret own) (hK : KK E s) (hW : WD E ad (M, N) H) (hl : Cond.fieldLink own index "MonitorTurnsModel" "depth" "[I" ∈ TB) (hdg : decode cc pc = .ok (.getfield index, 3)) (kk : W p l e R s m args below meth c H locs cells slots Q (F0 m (pc + 3) ls (.ref (ad 26 0) :: rest))) : W p l e R s m args below meth c H locs cells slots Q (F0 m pc ls (.ref (ad 20 0) :: rest)) :=
  r_get X.1 X.2.1 X.2.2.2.2.1 inX9 X.2.2.2.1 hK hW (cp := 20) (i := 0) Nat.zero_lt_one rfl rfl 6 (by decide) hl rfl hdg kk
theorem g_9_7 (X : CX p s m args meth c cc nL ret own) (hK : KK E s) (hW : WD E ad (M, N) H) (hl : Cond.fieldLink own index "MonitorTurnsModel" "trace" "[I" ∈ TB) (hdg : decode cc pc = .ok (.getfield index, 3)) (kk : W p l e R s m args below meth c H locs cells slots Q (F0 m (pc + 3) ls (.ref (ad 27 0) :: rest))) : W p l e R s m args below meth c H locs cells slots Q (F0 m pc ls (.ref (ad 20 0) :: rest)) :=
  r_get X.1 X.2.1 X.2.2.2.2.1 inX9 X.2.2.2.1 hK hW (cp := 20) (i := 0) Nat.zero_lt_one rfl rfl 7 (by decide) hl rfl hdg kk
theorem g_9_8 (X : CX p s m args meth c cc nL ret own) (hK : KK E s) (hW : WD E ad (M, N) H) (hl : Cond.fieldLink own index "MonitorTurnsModel" "traced" "I" ∈ TB) (hdg : decode cc pc = .ok (.getfield index, 3)) (kk : W p l e R s m args below meth c H locs cells slots Q (F0 m (pc + 3) ls (.int (N 20 0 1) :: rest))) : W p l e R s m args below meth c H locs cells slots Q (F0 m pc ls (.ref (ad 20 0) :: rest)) :=
  r_get X.1 X.2.1 X.2.2.2.2.1 inX9 X.2.2.2.1 hK hW (cp := 20) (i := 0) Nat.zero_lt_one rfl rfl 8 (by decide) hl rfl hdg kk
theorem p_9_8 (X : CX p s m args meth c cc nL ret own) (hK : KK E s) (hW : WD E ad (M, N) H) (hS : va_S (ow E) H0 H locs) {x : Int32} {N1 : Mem} (hM : N1 = mp N 20 0 1 x) (hl : Cond.fieldLink own index "MonitorTurnsModel" "traced" "I" ∈ TB) (hdg : decode cc pc = .ok (.putfield index, 3)) (kk : ∀ (H1 : Heap) (locs1 : List Loc), WD E ad (M, N1) H1 → va_S (ow E) H0 H1 locs1 → W p l e R s m args below meth c H1 locs1 cells slots Q (F0 m (pc + 3) ls rest)) : W p l e R s m args below meth c H locs cells slots Q (F0 m pc ls (.int x :: .ref (ad 20 0) :: rest)) := by
  subst hM
  refine r_put X.1 X.2.1 X.2.2.2.2.1 inX9 tyX9 tyX9_ok nmX9 X.2.2.2.1 hK hW hS (cp := 20) (i := 0) (k' := 1) (x := x) Nat.zero_lt_one (by unfold okp; decide) rfl 8 ?_ rfl (by decide) hl rfl (ty := .int) (by decide +kernel) rfl rfl (by simp) hdg kk
  have e1 : mp N 20 0 1 x 20 0 = upd (N 20 0) 1 x := mp_upd N 20 0 1 x
  show Sum.inr (9, List.map (sv ad (mp N 20 0 1 x) 20 0) _) = _
  simp only [kd, List.map, sv, e1, upd, List.set]
  rfl
theorem g_9_9 (X : CX p s m args meth c cc nL ret own) (hK : KK E s) (hW : WD E ad (M, N) H) (hl : Cond.fieldLink own index "MonitorTurnsModel" "acts" "[I" ∈ TB) (hdg : decode cc pc = .ok (.getfield index, 3)) (kk : W p l e R s m args below meth c H locs cells slots Q (F0 m (pc + 3) ls (.ref (ad 28 0) :: rest))) : W p l e R s m args below meth c H locs cells slots Q (F0 m pc ls (.ref (ad 20 0) :: rest)) :=
  r_get X.1 X.2.1 X.2.2.2.2.1 inX9 X.2.2.2.1 hK hW (cp := 20) (i := 0) Nat.zero_lt_one rfl rfl 9 (by decide) hl rfl hdg kk
theorem g_9_10 (X : CX p s m args meth c cc nL ret own) (hK : KK E s) (hW : WD E ad (M, N) H) (hl : Cond.fieldLink own index "MonitorTurnsModel" "many" "[I" ∈ TB) (hdg : decode cc pc = .ok (.getfield index, 3)) (kk : W p l e R s m args below meth c H locs cells slots Q (F0 m (pc + 3) ls (.ref (ad 29 0) :: rest))) : W p l e R s m args below meth c H locs cells slots Q (F0 m pc ls (.ref (ad 20 0) :: rest)) :=
  r_get X.1 X.2.1 X.2.2.2.2.1 inX9 X.2.2.2.1 hK hW (cp := 20) (i := 0) Nat.zero_lt_one rfl rfl 10 (by decide) hl rfl hdg kk
theorem g_9_11 (X : CX p s m args meth c cc nL ret own) (hK : KK E s) (hW : WD E ad (M, N) H) (hl : Cond.fieldLink own index "MonitorTurnsModel" "named" "[I" ∈ TB) (hdg : decode cc pc = .ok (.getfield index, 3)) (kk : W p l e R s m args below meth c H locs cells slots Q (F0 m (pc + 3) ls (.ref (ad 30 0) :: rest))) : W p l e R s m args below meth c H locs cells slots Q (F0 m pc ls (.ref (ad 20 0) :: rest)) :=
  r_get X.1 X.2.1 X.2.2.2.2.1 inX9 X.2.2.2.1 hK hW (cp := 20) (i := 0) Nat.zero_lt_one rfl rfl 11 (by decide) hl rfl hdg kk
theorem g_9_12 (X : CX p s m args meth c cc nL ret own) (hK : KK E s) (hW : WD E ad (M, N) H) (hl : Cond.fieldLink own index "MonitorTurnsModel" "state" "[I" ∈ TB) (hdg : decode cc pc = .ok (.getfield index, 3)) (kk : W p l e R s m args below meth c H locs cells slots Q (F0 m (pc + 3) ls (.ref (ad 31 0) :: rest))) : W p l e R s m args below meth c H locs cells slots Q (F0 m pc ls (.ref (ad 20 0) :: rest)) :=
  r_get X.1 X.2.1 X.2.2.2.2.1 inX9 X.2.2.2.1 hK hW (cp := 20) (i := 0) Nat.zero_lt_one rfl rfl 12 (by decide) hl rfl hdg kk
theorem g_9_13 (X : CX p s m args meth c cc nL ret own) (hK : KK E s) (hW : WD E ad (M, N) H) (hl : Cond.fieldLink own index "MonitorTurnsModel" "program" "[I" ∈ TB) (hdg : decode cc pc = .ok (.getfield index, 3)) (kk : W p l e R s m args below meth c H locs cells slots Q (F0 m (pc + 3) ls (.ref (ad 32 0) :: rest))) : W p l e R s m args below meth c H locs cells slots Q (F0 m pc ls (.ref (ad 20 0) :: rest)) :=
  r_get X.1 X.2.1 X.2.2.2.2.1 inX9 X.2.2.2.1 hK hW (cp := 20) (i := 0) Nat.zero_lt_one rfl rfl 13 (by decide) hl rfl hdg kk
theorem g_9_14 (X : CX p s m args meth c cc nL ret own) (hK : KK E s) (hW : WD E ad (M, N) H) (hl : Cond.fieldLink own index "MonitorTurnsModel" "rank" "[I" ∈ TB) (hdg : decode cc pc = .ok (.getfield index, 3)) (kk : W p l e R s m args below meth c H locs cells slots Q (F0 m (pc + 3) ls (.ref (ad 33 0) :: rest))) : W p l e R s m args below meth c H locs cells slots Q (F0 m pc ls (.ref (ad 20 0) :: rest)) :=
  r_get X.1 X.2.1 X.2.2.2.2.1 inX9 X.2.2.2.1 hK hW (cp := 20) (i := 0) Nat.zero_lt_one rfl rfl 14 (by decide) hl rfl hdg kk
theorem g_9_15 (X : CX p s m args meth c cc nL ret own) (hK : KK E s) (hW : WD E ad (M, N) H) (hl : Cond.fieldLink own index "MonitorTurnsModel" "place" "[I" ∈ TB) (hdg : decode cc pc = .ok (.getfield index, 3)) (kk : W p l e R s m args below meth c H locs cells slots Q (F0 m (pc + 3) ls (.ref (ad 34 0) :: rest))) : W p l e R s m args below meth c H locs cells slots Q (F0 m pc ls (.ref (ad 20 0) :: rest)) :=
  r_get X.1 X.2.1 X.2.2.2.2.1 inX9 X.2.2.2.1 hK hW (cp := 20) (i := 0) Nat.zero_lt_one rfl rfl 15 (by decide) hl rfl hdg kk
theorem g_9_16 (X : CX p s m args meth c cc nL ret own) (hK : KK E s) (hW : WD E ad (M, N) H) (hl : Cond.fieldLink own index "MonitorTurnsModel" "flag" "[Z" ∈ TB) (hdg : decode cc pc = .ok (.getfield index, 3)) (kk : W p l e R s m args below meth c H locs cells slots Q (F0 m (pc + 3) ls (.ref (ad 35 0) :: rest))) : W p l e R s m args below meth c H locs cells slots Q (F0 m pc ls (.ref (ad 20 0) :: rest)) :=
  r_get X.1 X.2.1 X.2.2.2.2.1 inX9 X.2.2.2.1 hK hW (cp := 20) (i := 0) Nat.zero_lt_one rfl rfl 16 (by decide) hl rfl hdg kk
theorem g_9_17 (X : CX p s m args meth c cc nL ret own) (hK : KK E s) (hW : WD E ad (M, N) H) (hl : Cond.fieldLink own index "MonitorTurnsModel" "isBroken" "[Z" ∈ TB) (hdg : decode cc pc = .ok (.getfield index, 3)) (kk : W p l e R s m args below meth c H locs cells slots Q (F0 m (pc + 3) ls (.ref (ad 36 0) :: rest))) : W p l e R s m args below meth c H locs cells slots Q (F0 m pc ls (.ref (ad 20 0) :: rest)) :=
  r_get X.1 X.2.1 X.2.2.2.2.1 inX9 X.2.2.2.1 hK hW (cp := 20) (i := 0) Nat.zero_lt_one rfl rfl 17 (by decide) hl rfl hdg kk
theorem g_9_18 (X : CX p s m args meth c cc nL ret own) (hK : KK E s) (hW : WD E ad (M, N) H) (hl : Cond.fieldLink own index "MonitorTurnsModel" "endKind" "[I" ∈ TB) (hdg : decode cc pc = .ok (.getfield index, 3)) (kk : W p l e R s m args below meth c H locs cells slots Q (F0 m (pc + 3) ls (.ref (ad 37 0) :: rest))) : W p l e R s m args below meth c H locs cells slots Q (F0 m pc ls (.ref (ad 20 0) :: rest)) :=
  r_get X.1 X.2.1 X.2.2.2.2.1 inX9 X.2.2.2.1 hK hW (cp := 20) (i := 0) Nat.zero_lt_one rfl rfl 18 (by decide) hl rfl hdg kk
theorem g_9_19 (X : CX p s m args meth c cc nL ret own) (hK : KK E s) (hW : WD E ad (M, N) H) (hl : Cond.fieldLink own index "MonitorTurnsModel" "endNumber" "[I" ∈ TB) (hdg : decode cc pc = .ok (.getfield index, 3)) (kk : W p l e R s m args below meth c H locs cells slots Q (F0 m (pc + 3) ls (.ref (ad 38 0) :: rest))) : W p l e R s m args below meth c H locs cells slots Q (F0 m pc ls (.ref (ad 20 0) :: rest)) :=
  r_get X.1 X.2.1 X.2.2.2.2.1 inX9 X.2.2.2.1 hK hW (cp := 20) (i := 0) Nat.zero_lt_one rfl rfl 19 (by decide) hl rfl hdg kk
theorem g_9_20 (X : CX p s m args meth c cc nL ret own) (hK : KK E s) (hW : WD E ad (M, N) H) (hl : Cond.fieldLink own index "MonitorTurnsModel" "about" "[I" ∈ TB) (hdg : decode cc pc = .ok (.getfield index, 3)) (kk : W p l e R s m args below meth c H locs cells slots Q (F0 m (pc + 3) ls (.ref (ad 39 0) :: rest))) : W p l e R s m args below meth c H locs cells slots Q (F0 m pc ls (.ref (ad 20 0) :: rest)) :=
  r_get X.1 X.2.1 X.2.2.2.2.1 inX9 X.2.2.2.1 hK hW (cp := 20) (i := 0) Nat.zero_lt_one rfl rfl 20 (by decide) hl rfl hdg kk
theorem g_9_21 (X : CX p s m args meth c cc nL ret own) (hK : KK E s) (hW : WD E ad (M, N) H) (hl : Cond.fieldLink own index "MonitorTurnsModel" "till" "[I" ∈ TB) (hdg : decode cc pc = .ok (.getfield index, 3)) (kk : W p l e R s m args below meth c H locs cells slots Q (F0 m (pc + 3) ls (.ref (ad 40 0) :: rest))) : W p l e R s m args below meth c H locs cells slots Q (F0 m pc ls (.ref (ad 20 0) :: rest)) :=
  r_get X.1 X.2.1 X.2.2.2.2.1 inX9 X.2.2.2.1 hK hW (cp := 20) (i := 0) Nat.zero_lt_one rfl rfl 21 (by decide) hl rfl hdg kk
theorem g_9_22 (X : CX p s m args meth c cc nL ret own) (hK : KK E s) (hW : WD E ad (M, N) H) (hl : Cond.fieldLink own index "MonitorTurnsModel" "want" "[I" ∈ TB) (hdg : decode cc pc = .ok (.getfield index, 3)) (kk : W p l e R s m args below meth c H locs cells slots Q (F0 m (pc + 3) ls (.ref (ad 41 0) :: rest))) : W p l e R s m args below meth c H locs cells slots Q (F0 m pc ls (.ref (ad 20 0) :: rest)) :=
  r_get X.1 X.2.1 X.2.2.2.2.1 inX9 X.2.2.2.1 hK hW (cp := 20) (i := 0) Nat.zero_lt_one rfl rfl 22 (by decide) hl rfl hdg kk
theorem g_9_23 (X : CX p s m args meth c cc nL ret own) (hK : KK E s) (hW : WD E ad (M, N) H) (hl : Cond.fieldLink own index "MonitorTurnsModel" "since" "[I" ∈ TB) (hdg : decode cc pc = .ok (.getfield index, 3)) (kk : W p l e R s m args below meth c H locs cells slots Q (F0 m (pc + 3) ls (.ref (ad 42 0) :: rest))) : W p l e R s m args below meth c H locs cells slots Q (F0 m pc ls (.ref (ad 20 0) :: rest)) :=
  r_get X.1 X.2.1 X.2.2.2.2.1 inX9 X.2.2.2.1 hK hW (cp := 20) (i := 0) Nat.zero_lt_one rfl rfl 23 (by decide) hl rfl hdg kk
theorem g_9_24 (X : CX p s m args meth c cc nL ret own) (hK : KK E s) (hW : WD E ad (M, N) H) (hl : Cond.fieldLink own index "MonitorTurnsModel" "done" "[I" ∈ TB) (hdg : decode cc pc = .ok (.getfield index, 3)) (kk : W p l e R s m args below meth c H locs cells slots Q (F0 m (pc + 3) ls (.ref (ad 43 0) :: rest))) : W p l e R s m args below meth c H locs cells slots Q (F0 m pc ls (.ref (ad 20 0) :: rest)) :=
  r_get X.1 X.2.1 X.2.2.2.2.1 inX9 X.2.2.2.1 hK hW (cp := 20) (i := 0) Nat.zero_lt_one rfl rfl 24 (by decide) hl rfl hdg kk
theorem g_9_25 (X : CX p s m args meth c cc nL ret own) (hK : KK E s) (hW : WD E ad (M, N) H) (hl : Cond.fieldLink own index "MonitorTurnsModel" "metKind" "[I" ∈ TB) (hdg : decode cc pc = .ok (.getfield index, 3)) (kk : W p l e R s m args below meth c H locs cells slots Q (F0 m (pc + 3) ls (.ref (ad 44 0) :: rest))) : W p l e R s m args below meth c H locs cells slots Q (F0 m pc ls (.ref (ad 20 0) :: rest)) :=
  r_get X.1 X.2.1 X.2.2.2.2.1 inX9 X.2.2.2.1 hK hW (cp := 20) (i := 0) Nat.zero_lt_one rfl rfl 25 (by decide) hl rfl hdg kk
theorem g_9_26 (X : CX p s m args meth c cc nL ret own) (hK : KK E s) (hW : WD E ad (M, N) H) (hl : Cond.fieldLink own index "MonitorTurnsModel" "metNumber" "[I" ∈ TB) (hdg : decode cc pc = .ok (.getfield index, 3)) (kk : W p l e R s m args below meth c H locs cells slots Q (F0 m (pc + 3) ls (.ref (ad 45 0) :: rest))) : W p l e R s m args below meth c H locs cells slots Q (F0 m pc ls (.ref (ad 20 0) :: rest)) :=
  r_get X.1 X.2.1 X.2.2.2.2.1 inX9 X.2.2.2.1 hK hW (cp := 20) (i := 0) Nat.zero_lt_one rfl rfl 26 (by decide) hl rfl hdg kk
theorem g_9_27 (X : CX p s m args meth c cc nL ret own) (hK : KK E s) (hW : WD E ad (M, N) H) (hl : Cond.fieldLink own index "MonitorTurnsModel" "handlers" "[I" ∈ TB) (hdg : decode cc pc = .ok (.getfield index, 3)) (kk : W p l e R s m args below meth c H locs cells slots Q (F0 m (pc + 3) ls (.ref (ad 46 0) :: rest))) : W p l e R s m args below meth c H locs cells slots Q (F0 m pc ls (.ref (ad 20 0) :: rest)) :=
  r_get X.1 X.2.1 X.2.2.2.2.1 inX9 X.2.2.2.1 hK hW (cp := 20) (i := 0) Nat.zero_lt_one rfl rfl 27 (by decide) hl rfl hdg kk
theorem g_9_28 (X : CX p s m args meth c cc nL ret own) (hK : KK E s) (hW : WD E ad (M, N) H) (hl : Cond.fieldLink own index "MonitorTurnsModel" "handlerPlace" "[I" ∈ TB) (hdg : decode cc pc = .ok (.getfield index, 3)) (kk : W p l e R s m args below meth c H locs cells slots Q (F0 m (pc + 3) ls (.ref (ad 47 0) :: rest))) : W p l e R s m args below meth c H locs cells slots Q (F0 m pc ls (.ref (ad 20 0) :: rest)) :=
  r_get X.1 X.2.1 X.2.2.2.2.1 inX9 X.2.2.2.1 hK hW (cp := 20) (i := 0) Nat.zero_lt_one rfl rfl 28 (by decide) hl rfl hdg kk
theorem g_9_29 (X : CX p s m args meth c cc nL ret own) (hK : KK E s) (hW : WD E ad (M, N) H) (hl : Cond.fieldLink own index "MonitorTurnsModel" "handlerBits" "[I" ∈ TB) (hdg : decode cc pc = .ok (.getfield index, 3)) (kk : W p l e R s m args below meth c H locs cells slots Q (F0 m (pc + 3) ls (.ref (ad 48 0) :: rest))) : W p l e R s m args below meth c H locs cells slots Q (F0 m pc ls (.ref (ad 20 0) :: rest)) :=
  r_get X.1 X.2.1 X.2.2.2.2.1 inX9 X.2.2.2.1 hK hW (cp := 20) (i := 0) Nat.zero_lt_one rfl rfl 29 (by decide) hl rfl hdg kk
theorem g_9_30 (X : CX p s m args meth c cc nL ret own) (hK : KK E s) (hW : WD E ad (M, N) H) (hl : Cond.fieldLink own index "MonitorTurnsModel" "registers" "[I" ∈ TB) (hdg : decode cc pc = .ok (.getfield index, 3)) (kk : W p l e R s m args below meth c H locs cells slots Q (F0 m (pc + 3) ls (.ref (ad 49 0) :: rest))) : W p l e R s m args below meth c H locs cells slots Q (F0 m pc ls (.ref (ad 20 0) :: rest)) :=
  r_get X.1 X.2.1 X.2.2.2.2.1 inX9 X.2.2.2.1 hK hW (cp := 20) (i := 0) Nat.zero_lt_one rfl rfl 30 (by decide) hl rfl hdg kk
theorem g_9_31 (X : CX p s m args meth c cc nL ret own) (hK : KK E s) (hW : WD E ad (M, N) H) (hl : Cond.fieldLink own index "MonitorTurnsModel" "hands" "[I" ∈ TB) (hdg : decode cc pc = .ok (.getfield index, 3)) (kk : W p l e R s m args below meth c H locs cells slots Q (F0 m (pc + 3) ls (.ref (ad 50 0) :: rest))) : W p l e R s m args below meth c H locs cells slots Q (F0 m pc ls (.ref (ad 20 0) :: rest)) :=
  r_get X.1 X.2.1 X.2.2.2.2.1 inX9 X.2.2.2.1 hK hW (cp := 20) (i := 0) Nat.zero_lt_one rfl rfl 31 (by decide) hl rfl hdg kk
theorem g_9_32 (X : CX p s m args meth c cc nL ret own) (hK : KK E s) (hW : WD E ad (M, N) H) (hl : Cond.fieldLink own index "MonitorTurnsModel" "time" "I" ∈ TB) (hdg : decode cc pc = .ok (.getfield index, 3)) (kk : W p l e R s m args below meth c H locs cells slots Q (F0 m (pc + 3) ls (.int (N 20 0 2) :: rest))) : W p l e R s m args below meth c H locs cells slots Q (F0 m pc ls (.ref (ad 20 0) :: rest)) :=
  r_get X.1 X.2.1 X.2.2.2.2.1 inX9 X.2.2.2.1 hK hW (cp := 20) (i := 0) Nat.zero_lt_one rfl rfl 32 (by decide) hl rfl hdg kk
theorem p_9_32 (X : CX p s m args meth c cc nL ret own) (hK : KK E s) (hW : WD E ad (M, N) H) (hS : va_S (ow E) H0 H locs) {x : Int32} {N1 : Mem} (hM : N1 = mp N 20 0 2 x) (hl : Cond.fieldLink own index "MonitorTurnsModel" "time" "I" ∈ TB) (hdg : decode cc pc = .ok (.putfield index, 3)) (kk : ∀ (H1 : Heap) (locs1 : List Loc), WD E ad (M, N1) H1 → va_S (ow E) H0 H1 locs1 → W p l e R s m args below meth c H1 locs1 cells slots Q (F0 m (pc + 3) ls rest)) : W p l e R s m args below meth c H locs cells slots Q (F0 m pc ls (.int x :: .ref (ad 20 0) :: rest)) := by
  subst hM
  refine r_put X.1 X.2.1 X.2.2.2.2.1 inX9 tyX9 tyX9_ok nmX9 X.2.2.2.1 hK hW hS (cp := 20) (i := 0) (k' := 2) (x := x) Nat.zero_lt_one (by unfold okp; decide) rfl 32 ?_ rfl (by decide) hl rfl (ty := .int) (by decide +kernel) rfl rfl (by simp) hdg kk
  have e1 : mp N 20 0 2 x 20 0 = upd (N 20 0) 2 x := mp_upd N 20 0 2 x
  show Sum.inr (9, List.map (sv ad (mp N 20 0 2 x) 20 0) _) = _
  simp only [kd, List.map, sv, e1, upd, List.set]
  rfl
theorem g_9_33 (X : CX p s m args meth c cc nL ret own) (hK : KK E s) (hW : WD E ad (M, N) H) (hl : Cond.fieldLink own index "MonitorTurnsModel" "rule" "I" ∈ TB) (hdg : decode cc pc = .ok (.getfield index, 3)) (kk : W p l e R s m args below meth c H locs cells slots Q (F0 m (pc + 3) ls (.int (N 20 0 3) :: rest))) : W p l e R s m args below meth c H locs cells slots Q (F0 m pc ls (.ref (ad 20 0) :: rest)) :=
  r_get X.1 X.2.1 X.2.2.2.2.1 inX9 X.2.2.2.1 hK hW (cp := 20) (i := 0) Nat.zero_lt_one rfl rfl 33 (by decide) hl rfl hdg kk
theorem p_9_33 (X : CX p s m args meth c cc nL ret own) (hK : KK E s) (hW : WD E ad (M, N) H) (hS : va_S (ow E) H0 H locs) {x : Int32} {N1 : Mem} (hM : N1 = mp N 20 0 3 x) (hl : Cond.fieldLink own index "MonitorTurnsModel" "rule" "I" ∈ TB) (hdg : decode cc pc = .ok (.putfield index, 3)) (kk : ∀ (H1 : Heap) (locs1 : List Loc), WD E ad (M, N1) H1 → va_S (ow E) H0 H1 locs1 → W p l e R s m args below meth c H1 locs1 cells slots Q (F0 m (pc + 3) ls rest)) : W p l e R s m args below meth c H locs cells slots Q (F0 m pc ls (.int x :: .ref (ad 20 0) :: rest)) := by
  subst hM
  refine r_put X.1 X.2.1 X.2.2.2.2.1 inX9 tyX9 tyX9_ok nmX9 X.2.2.2.1 hK hW hS (cp := 20) (i := 0) (k' := 3) (x := x) Nat.zero_lt_one (by unfold okp; decide) rfl 33 ?_ rfl (by decide) hl rfl (ty := .int) (by decide +kernel) rfl rfl (by simp) hdg kk
  have e1 : mp N 20 0 3 x 20 0 = upd (N 20 0) 3 x := mp_upd N 20 0 3 x
  show Sum.inr (9, List.map (sv ad (mp N 20 0 3 x) 20 0) _) = _
  simp only [kd, List.map, sv, e1, upd, List.set]
  rfl
theorem g_9_34 (X : CX p s m args meth c cc nL ret own) (hK : KK E s) (hW : WD E ad (M, N) H) (hl : Cond.fieldLink own index "MonitorTurnsModel" "order" "I" ∈ TB) (hdg : decode cc pc = .ok (.getfield index, 3)) (kk : W p l e R s m args below meth c H locs cells slots Q (F0 m (pc + 3) ls (.int (N 20 0 4) :: rest))) : W p l e R s m args below meth c H locs cells slots Q (F0 m pc ls (.ref (ad 20 0) :: rest)) :=
  r_get X.1 X.2.1 X.2.2.2.2.1 inX9 X.2.2.2.1 hK hW (cp := 20) (i := 0) Nat.zero_lt_one rfl rfl 34 (by decide) hl rfl hdg kk
theorem p_9_34 (X : CX p s m args meth c cc nL ret own) (hK : KK E s) (hW : WD E ad (M, N) H) (hS : va_S (ow E) H0 H locs) {x : Int32} {N1 : Mem} (hM : N1 = mp N 20 0 4 x) (hl : Cond.fieldLink own index "MonitorTurnsModel" "order" "I" ∈ TB) (hdg : decode cc pc = .ok (.putfield index, 3)) (kk : ∀ (H1 : Heap) (locs1 : List Loc), WD E ad (M, N1) H1 → va_S (ow E) H0 H1 locs1 → W p l e R s m args below meth c H1 locs1 cells slots Q (F0 m (pc + 3) ls rest)) : W p l e R s m args below meth c H locs cells slots Q (F0 m pc ls (.int x :: .ref (ad 20 0) :: rest)) := by
  subst hM
  refine r_put X.1 X.2.1 X.2.2.2.2.1 inX9 tyX9 tyX9_ok nmX9 X.2.2.2.1 hK hW hS (cp := 20) (i := 0) (k' := 4) (x := x) Nat.zero_lt_one (by unfold okp; decide) rfl 34 ?_ rfl (by decide) hl rfl (ty := .int) (by decide +kernel) rfl rfl (by simp) hdg kk
  have e1 : mp N 20 0 4 x 20 0 = upd (N 20 0) 4 x := mp_upd N 20 0 4 x
  show Sum.inr (9, List.map (sv ad (mp N 20 0 4 x) 20 0) _) = _
  simp only [kd, List.map, sv, e1, upd, List.set]
  rfl
theorem g_9_35 (X : CX p s m args meth c cc nL ret own) (hK : KK E s) (hW : WD E ad (M, N) H) (hl : Cond.fieldLink own index "MonitorTurnsModel" "latest" "I" ∈ TB) (hdg : decode cc pc = .ok (.getfield index, 3)) (kk : W p l e R s m args below meth c H locs cells slots Q (F0 m (pc + 3) ls (.int (N 20 0 5) :: rest))) : W p l e R s m args below meth c H locs cells slots Q (F0 m pc ls (.ref (ad 20 0) :: rest)) :=
  r_get X.1 X.2.1 X.2.2.2.2.1 inX9 X.2.2.2.1 hK hW (cp := 20) (i := 0) Nat.zero_lt_one rfl rfl 35 (by decide) hl rfl hdg kk
theorem p_9_35 (X : CX p s m args meth c cc nL ret own) (hK : KK E s) (hW : WD E ad (M, N) H) (hS : va_S (ow E) H0 H locs) {x : Int32} {N1 : Mem} (hM : N1 = mp N 20 0 5 x) (hl : Cond.fieldLink own index "MonitorTurnsModel" "latest" "I" ∈ TB) (hdg : decode cc pc = .ok (.putfield index, 3)) (kk : ∀ (H1 : Heap) (locs1 : List Loc), WD E ad (M, N1) H1 → va_S (ow E) H0 H1 locs1 → W p l e R s m args below meth c H1 locs1 cells slots Q (F0 m (pc + 3) ls rest)) : W p l e R s m args below meth c H locs cells slots Q (F0 m pc ls (.int x :: .ref (ad 20 0) :: rest)) := by
  subst hM
  refine r_put X.1 X.2.1 X.2.2.2.2.1 inX9 tyX9 tyX9_ok nmX9 X.2.2.2.1 hK hW hS (cp := 20) (i := 0) (k' := 5) (x := x) Nat.zero_lt_one (by unfold okp; decide) rfl 35 ?_ rfl (by decide) hl rfl (ty := .int) (by decide +kernel) rfl rfl (by simp) hdg kk
  have e1 : mp N 20 0 5 x 20 0 = upd (N 20 0) 5 x := mp_upd N 20 0 5 x
  show Sum.inr (9, List.map (sv ad (mp N 20 0 5 x) 20 0) _) = _
  simp only [kd, List.map, sv, e1, upd, List.set]
  rfl
theorem g_9_36 (X : CX p s m args meth c cc nL ret own) (hK : KK E s) (hW : WD E ad (M, N) H) (hl : Cond.fieldLink own index "MonitorTurnsModel" "begun" "I" ∈ TB) (hdg : decode cc pc = .ok (.getfield index, 3)) (kk : W p l e R s m args below meth c H locs cells slots Q (F0 m (pc + 3) ls (.int (N 20 0 6) :: rest))) : W p l e R s m args below meth c H locs cells slots Q (F0 m pc ls (.ref (ad 20 0) :: rest)) :=
  r_get X.1 X.2.1 X.2.2.2.2.1 inX9 X.2.2.2.1 hK hW (cp := 20) (i := 0) Nat.zero_lt_one rfl rfl 36 (by decide) hl rfl hdg kk
theorem p_9_36 (X : CX p s m args meth c cc nL ret own) (hK : KK E s) (hW : WD E ad (M, N) H) (hS : va_S (ow E) H0 H locs) {x : Int32} {N1 : Mem} (hM : N1 = mp N 20 0 6 x) (hl : Cond.fieldLink own index "MonitorTurnsModel" "begun" "I" ∈ TB) (hdg : decode cc pc = .ok (.putfield index, 3)) (kk : ∀ (H1 : Heap) (locs1 : List Loc), WD E ad (M, N1) H1 → va_S (ow E) H0 H1 locs1 → W p l e R s m args below meth c H1 locs1 cells slots Q (F0 m (pc + 3) ls rest)) : W p l e R s m args below meth c H locs cells slots Q (F0 m pc ls (.int x :: .ref (ad 20 0) :: rest)) := by
  subst hM
  refine r_put X.1 X.2.1 X.2.2.2.2.1 inX9 tyX9 tyX9_ok nmX9 X.2.2.2.1 hK hW hS (cp := 20) (i := 0) (k' := 6) (x := x) Nat.zero_lt_one (by unfold okp; decide) rfl 36 ?_ rfl (by decide) hl rfl (ty := .int) (by decide +kernel) rfl rfl (by simp) hdg kk
  have e1 : mp N 20 0 6 x 20 0 = upd (N 20 0) 6 x := mp_upd N 20 0 6 x
  show Sum.inr (9, List.map (sv ad (mp N 20 0 6 x) 20 0) _) = _
  simp only [kd, List.map, sv, e1, upd, List.set]
  rfl
theorem g_9_37 (X : CX p s m args meth c cc nL ret own) (hK : KK E s) (hW : WD E ad (M, N) H) (hl : Cond.fieldLink own index "MonitorTurnsModel" "fault" "I" ∈ TB) (hdg : decode cc pc = .ok (.getfield index, 3)) (kk : W p l e R s m args below meth c H locs cells slots Q (F0 m (pc + 3) ls (.int (N 20 0 7) :: rest))) : W p l e R s m args below meth c H locs cells slots Q (F0 m pc ls (.ref (ad 20 0) :: rest)) :=
  r_get X.1 X.2.1 X.2.2.2.2.1 inX9 X.2.2.2.1 hK hW (cp := 20) (i := 0) Nat.zero_lt_one rfl rfl 37 (by decide) hl rfl hdg kk
theorem p_9_37 (X : CX p s m args meth c cc nL ret own) (hK : KK E s) (hW : WD E ad (M, N) H) (hS : va_S (ow E) H0 H locs) {x : Int32} {N1 : Mem} (hM : N1 = mp N 20 0 7 x) (hl : Cond.fieldLink own index "MonitorTurnsModel" "fault" "I" ∈ TB) (hdg : decode cc pc = .ok (.putfield index, 3)) (kk : ∀ (H1 : Heap) (locs1 : List Loc), WD E ad (M, N1) H1 → va_S (ow E) H0 H1 locs1 → W p l e R s m args below meth c H1 locs1 cells slots Q (F0 m (pc + 3) ls rest)) : W p l e R s m args below meth c H locs cells slots Q (F0 m pc ls (.int x :: .ref (ad 20 0) :: rest)) := by
  subst hM
  refine r_put X.1 X.2.1 X.2.2.2.2.1 inX9 tyX9 tyX9_ok nmX9 X.2.2.2.1 hK hW hS (cp := 20) (i := 0) (k' := 7) (x := x) Nat.zero_lt_one (by unfold okp; decide) rfl 37 ?_ rfl (by decide) hl rfl (ty := .int) (by decide +kernel) rfl rfl (by simp) hdg kk
  have e1 : mp N 20 0 7 x 20 0 = upd (N 20 0) 7 x := mp_upd N 20 0 7 x
  show Sum.inr (9, List.map (sv ad (mp N 20 0 7 x) 20 0) _) = _
  simp only [kd, List.map, sv, e1, upd, List.set]
  rfl
theorem g_9_38 (X : CX p s m args meth c cc nL ret own) (hK : KK E s) (hW : WD E ad (M, N) H) (hl : Cond.fieldLink own index "MonitorTurnsModel" "faultNumber" "I" ∈ TB) (hdg : decode cc pc = .ok (.getfield index, 3)) (kk : W p l e R s m args below meth c H locs cells slots Q (F0 m (pc + 3) ls (.int (N 20 0 8) :: rest))) : W p l e R s m args below meth c H locs cells slots Q (F0 m pc ls (.ref (ad 20 0) :: rest)) :=
  r_get X.1 X.2.1 X.2.2.2.2.1 inX9 X.2.2.2.1 hK hW (cp := 20) (i := 0) Nat.zero_lt_one rfl rfl 38 (by decide) hl rfl hdg kk
theorem p_9_38 (X : CX p s m args meth c cc nL ret own) (hK : KK E s) (hW : WD E ad (M, N) H) (hS : va_S (ow E) H0 H locs) {x : Int32} {N1 : Mem} (hM : N1 = mp N 20 0 8 x) (hl : Cond.fieldLink own index "MonitorTurnsModel" "faultNumber" "I" ∈ TB) (hdg : decode cc pc = .ok (.putfield index, 3)) (kk : ∀ (H1 : Heap) (locs1 : List Loc), WD E ad (M, N1) H1 → va_S (ow E) H0 H1 locs1 → W p l e R s m args below meth c H1 locs1 cells slots Q (F0 m (pc + 3) ls rest)) : W p l e R s m args below meth c H locs cells slots Q (F0 m pc ls (.int x :: .ref (ad 20 0) :: rest)) := by
  subst hM
  refine r_put X.1 X.2.1 X.2.2.2.2.1 inX9 tyX9 tyX9_ok nmX9 X.2.2.2.1 hK hW hS (cp := 20) (i := 0) (k' := 8) (x := x) Nat.zero_lt_one (by unfold okp; decide) rfl 38 ?_ rfl (by decide) hl rfl (ty := .int) (by decide +kernel) rfl rfl (by simp) hdg kk
  have e1 : mp N 20 0 8 x 20 0 = upd (N 20 0) 8 x := mp_upd N 20 0 8 x
  show Sum.inr (9, List.map (sv ad (mp N 20 0 8 x) 20 0) _) = _
  simp only [kd, List.map, sv, e1, upd, List.set]
  rfl
theorem g_9_39 (X : CX p s m args meth c cc nL ret own) (hK : KK E s) (hW : WD E ad (M, N) H) (hl : Cond.fieldLink own index "MonitorTurnsModel" "faults" "[I" ∈ TB) (hdg : decode cc pc = .ok (.getfield index, 3)) (kk : W p l e R s m args below meth c H locs cells slots Q (F0 m (pc + 3) ls (.ref (ad 51 0) :: rest))) : W p l e R s m args below meth c H locs cells slots Q (F0 m pc ls (.ref (ad 20 0) :: rest)) :=
  r_get X.1 X.2.1 X.2.2.2.2.1 inX9 X.2.2.2.1 hK hW (cp := 20) (i := 0) Nat.zero_lt_one rfl rfl 39 (by decide) hl rfl hdg kk
theorem g_9_40 (X : CX p s m args meth c cc nL ret own) (hK : KK E s) (hW : WD E ad (M, N) H) (hl : Cond.fieldLink own index "MonitorTurnsModel" "faultMany" "I" ∈ TB) (hdg : decode cc pc = .ok (.getfield index, 3)) (kk : W p l e R s m args below meth c H locs cells slots Q (F0 m (pc + 3) ls (.int (N 20 0 9) :: rest))) : W p l e R s m args below meth c H locs cells slots Q (F0 m pc ls (.ref (ad 20 0) :: rest)) :=
  r_get X.1 X.2.1 X.2.2.2.2.1 inX9 X.2.2.2.1 hK hW (cp := 20) (i := 0) Nat.zero_lt_one rfl rfl 40 (by decide) hl rfl hdg kk
theorem p_9_40 (X : CX p s m args meth c cc nL ret own) (hK : KK E s) (hW : WD E ad (M, N) H) (hS : va_S (ow E) H0 H locs) {x : Int32} {N1 : Mem} (hM : N1 = mp N 20 0 9 x) (hl : Cond.fieldLink own index "MonitorTurnsModel" "faultMany" "I" ∈ TB) (hdg : decode cc pc = .ok (.putfield index, 3)) (kk : ∀ (H1 : Heap) (locs1 : List Loc), WD E ad (M, N1) H1 → va_S (ow E) H0 H1 locs1 → W p l e R s m args below meth c H1 locs1 cells slots Q (F0 m (pc + 3) ls rest)) : W p l e R s m args below meth c H locs cells slots Q (F0 m pc ls (.int x :: .ref (ad 20 0) :: rest)) := by
  subst hM
  refine r_put X.1 X.2.1 X.2.2.2.2.1 inX9 tyX9 tyX9_ok nmX9 X.2.2.2.1 hK hW hS (cp := 20) (i := 0) (k' := 9) (x := x) Nat.zero_lt_one (by unfold okp; decide) rfl 40 ?_ rfl (by decide) hl rfl (ty := .int) (by decide +kernel) rfl rfl (by simp) hdg kk
  have e1 : mp N 20 0 9 x 20 0 = upd (N 20 0) 9 x := mp_upd N 20 0 9 x
  show Sum.inr (9, List.map (sv ad (mp N 20 0 9 x) 20 0) _) = _
  simp only [kd, List.map, sv, e1, upd, List.set]
  rfl
theorem g_9_41 (X : CX p s m args meth c cc nL ret own) (hK : KK E s) (hW : WD E ad (M, N) H) (hl : Cond.fieldLink own index "MonitorTurnsModel" "met" "I" ∈ TB) (hdg : decode cc pc = .ok (.getfield index, 3)) (kk : W p l e R s m args below meth c H locs cells slots Q (F0 m (pc + 3) ls (.int (N 20 0 10) :: rest))) : W p l e R s m args below meth c H locs cells slots Q (F0 m pc ls (.ref (ad 20 0) :: rest)) :=
  r_get X.1 X.2.1 X.2.2.2.2.1 inX9 X.2.2.2.1 hK hW (cp := 20) (i := 0) Nat.zero_lt_one rfl rfl 41 (by decide) hl rfl hdg kk
theorem p_9_41 (X : CX p s m args meth c cc nL ret own) (hK : KK E s) (hW : WD E ad (M, N) H) (hS : va_S (ow E) H0 H locs) {x : Int32} {N1 : Mem} (hM : N1 = mp N 20 0 10 x) (hl : Cond.fieldLink own index "MonitorTurnsModel" "met" "I" ∈ TB) (hdg : decode cc pc = .ok (.putfield index, 3)) (kk : ∀ (H1 : Heap) (locs1 : List Loc), WD E ad (M, N1) H1 → va_S (ow E) H0 H1 locs1 → W p l e R s m args below meth c H1 locs1 cells slots Q (F0 m (pc + 3) ls rest)) : W p l e R s m args below meth c H locs cells slots Q (F0 m pc ls (.int x :: .ref (ad 20 0) :: rest)) := by
  subst hM
  refine r_put X.1 X.2.1 X.2.2.2.2.1 inX9 tyX9 tyX9_ok nmX9 X.2.2.2.1 hK hW hS (cp := 20) (i := 0) (k' := 10) (x := x) Nat.zero_lt_one (by unfold okp; decide) rfl 41 ?_ rfl (by decide) hl rfl (ty := .int) (by decide +kernel) rfl rfl (by simp) hdg kk
  have e1 : mp N 20 0 10 x 20 0 = upd (N 20 0) 10 x := mp_upd N 20 0 10 x
  show Sum.inr (9, List.map (sv ad (mp N 20 0 10 x) 20 0) _) = _
  simp only [kd, List.map, sv, e1, upd, List.set]
  rfl
theorem g_9_42 (X : CX p s m args meth c cc nL ret own) (hK : KK E s) (hW : WD E ad (M, N) H) (hl : Cond.fieldLink own index "MonitorTurnsModel" "actMany" "I" ∈ TB) (hdg : decode cc pc = .ok (.getfield index, 3)) (kk : W p l e R s m args below meth c H locs cells slots Q (F0 m (pc + 3) ls (.int (N 20 0 11) :: rest))) : W p l e R s m args below meth c H locs cells slots Q (F0 m pc ls (.ref (ad 20 0) :: rest)) :=
  r_get X.1 X.2.1 X.2.2.2.2.1 inX9 X.2.2.2.1 hK hW (cp := 20) (i := 0) Nat.zero_lt_one rfl rfl 42 (by decide) hl rfl hdg kk
theorem p_9_42 (X : CX p s m args meth c cc nL ret own) (hK : KK E s) (hW : WD E ad (M, N) H) (hS : va_S (ow E) H0 H locs) {x : Int32} {N1 : Mem} (hM : N1 = mp N 20 0 11 x) (hl : Cond.fieldLink own index "MonitorTurnsModel" "actMany" "I" ∈ TB) (hdg : decode cc pc = .ok (.putfield index, 3)) (kk : ∀ (H1 : Heap) (locs1 : List Loc), WD E ad (M, N1) H1 → va_S (ow E) H0 H1 locs1 → W p l e R s m args below meth c H1 locs1 cells slots Q (F0 m (pc + 3) ls rest)) : W p l e R s m args below meth c H locs cells slots Q (F0 m pc ls (.int x :: .ref (ad 20 0) :: rest)) := by
  subst hM
  refine r_put X.1 X.2.1 X.2.2.2.2.1 inX9 tyX9 tyX9_ok nmX9 X.2.2.2.1 hK hW hS (cp := 20) (i := 0) (k' := 11) (x := x) Nat.zero_lt_one (by unfold okp; decide) rfl 42 ?_ rfl (by decide) hl rfl (ty := .int) (by decide +kernel) rfl rfl (by simp) hdg kk
  have e1 : mp N 20 0 11 x 20 0 = upd (N 20 0) 11 x := mp_upd N 20 0 11 x
  show Sum.inr (9, List.map (sv ad (mp N 20 0 11 x) 20 0) _) = _
  simp only [kd, List.map, sv, e1, upd, List.set]
  rfl
theorem g_9_43 (X : CX p s m args meth c cc nL ret own) (hK : KK E s) (hW : WD E ad (M, N) H) (hl : Cond.fieldLink own index "MonitorTurnsModel" "logged" "I" ∈ TB) (hdg : decode cc pc = .ok (.getfield index, 3)) (kk : W p l e R s m args below meth c H locs cells slots Q (F0 m (pc + 3) ls (.int (N 20 0 12) :: rest))) : W p l e R s m args below meth c H locs cells slots Q (F0 m pc ls (.ref (ad 20 0) :: rest)) :=
  r_get X.1 X.2.1 X.2.2.2.2.1 inX9 X.2.2.2.1 hK hW (cp := 20) (i := 0) Nat.zero_lt_one rfl rfl 43 (by decide) hl rfl hdg kk
theorem p_9_43 (X : CX p s m args meth c cc nL ret own) (hK : KK E s) (hW : WD E ad (M, N) H) (hS : va_S (ow E) H0 H locs) {x : Int32} {N1 : Mem} (hM : N1 = mp N 20 0 12 x) (hl : Cond.fieldLink own index "MonitorTurnsModel" "logged" "I" ∈ TB) (hdg : decode cc pc = .ok (.putfield index, 3)) (kk : ∀ (H1 : Heap) (locs1 : List Loc), WD E ad (M, N1) H1 → va_S (ow E) H0 H1 locs1 → W p l e R s m args below meth c H1 locs1 cells slots Q (F0 m (pc + 3) ls rest)) : W p l e R s m args below meth c H locs cells slots Q (F0 m pc ls (.int x :: .ref (ad 20 0) :: rest)) := by
  subst hM
  refine r_put X.1 X.2.1 X.2.2.2.2.1 inX9 tyX9 tyX9_ok nmX9 X.2.2.2.1 hK hW hS (cp := 20) (i := 0) (k' := 12) (x := x) Nat.zero_lt_one (by unfold okp; decide) rfl 43 ?_ rfl (by decide) hl rfl (ty := .int) (by decide +kernel) rfl rfl (by simp) hdg kk
  have e1 : mp N 20 0 12 x 20 0 = upd (N 20 0) 12 x := mp_upd N 20 0 12 x
  show Sum.inr (9, List.map (sv ad (mp N 20 0 12 x) 20 0) _) = _
  simp only [kd, List.map, sv, e1, upd, List.set]
  rfl
theorem g_9_44 (X : CX p s m args meth c cc nL ret own) (hK : KK E s) (hW : WD E ad (M, N) H) (hl : Cond.fieldLink own index "MonitorTurnsModel" "log" "[I" ∈ TB) (hdg : decode cc pc = .ok (.getfield index, 3)) (kk : W p l e R s m args below meth c H locs cells slots Q (F0 m (pc + 3) ls (.ref (ad 52 0) :: rest))) : W p l e R s m args below meth c H locs cells slots Q (F0 m pc ls (.ref (ad 20 0) :: rest)) :=
  r_get X.1 X.2.1 X.2.2.2.2.1 inX9 X.2.2.2.1 hK hW (cp := 20) (i := 0) Nat.zero_lt_one rfl rfl 44 (by decide) hl rfl hdg kk
theorem al_9s (X : CX p s m args meth c cc nL ret own) (hK : KK E s) (hW : WD E ad (M, N) H) {j : Int32} (hin : ¬ (j < 0 ∨ 32 ≤ j.toNatClampNeg)) (hq : j.toNatClampNeg < (M 60 0 0).toNatClampNeg) (hdg : decode cc pc = .ok (.aaload, 1)) (kk : W p l e R s m args below meth c H locs cells slots Q (F0 m (pc + 1) ls (.ref (ad 8 j.toNatClampNeg) :: rest))) : W p l e R s m args below meth c H locs cells slots Q (F0 m pc ls (.int j :: .ref (ad 9 0) :: rest)) :=
  r_aald X.1 X.2.1 hK hW (cp := 9) (i := 0) Nat.zero_lt_one 4 rfl rfl hin (by show va_rf (if _ then _ else _) = _; rw [if_pos hq]; rfl) hdg kk
theorem al_9n (X : CX p s m args meth c cc nL ret own) (hK : KK E s) (hW : WD E ad (M, N) H) {j : Int32} (hin : ¬ (j < 0 ∨ 32 ≤ j.toNatClampNeg)) (hq : ¬ j.toNatClampNeg < (M 60 0 0).toNatClampNeg) (hdg : decode cc pc = .ok (.aaload, 1)) (kk : W p l e R s m args below meth c H locs cells slots Q (F0 m (pc + 1) ls (.null :: rest))) : W p l e R s m args below meth c H locs cells slots Q (F0 m pc ls (.int j :: .ref (ad 9 0) :: rest)) :=
  r_aald X.1 X.2.1 hK hW (cp := 9) (i := 0) Nat.zero_lt_one 4 rfl rfl hin (by show va_rf (if _ then _ else _) = _; rw [if_neg hq]; rfl) hdg kk
theorem an_9 (X : CX p s m args meth c cc nL ret own) (hK : KK E s) (hW : WD E ad (M, N) H) (hdg : decode cc pc = .ok (.arraylength, 1)) (kk : W p l e R s m args below meth c H locs cells slots Q (F0 m (pc + 1) ls (.int 32 :: rest))) : W p l e R s m args below meth c H locs cells slots Q (F0 m pc ls (.ref (ad 9 0) :: rest)) :=
  r_alen X.1 X.2.1 hK hW (cp := 9) (i := 0) Nat.zero_lt_one 4 rfl rfl (show nI 32 = 32 by decide) hdg kk
theorem al_10 (X : CX p s m args meth c cc nL ret own) (hK : KK E s) (hW : WD E ad (M, N) H) {j : Int32} (hin : ¬ (j < 0 ∨ 6 ≤ j.toNatClampNeg)) (hdg : decode cc pc = .ok (.aaload, 1)) (kk : W p l e R s m args below meth c H locs cells slots Q (F0 m (pc + 1) ls (.ref (ad 6 j.toNatClampNeg) :: rest))) : W p l e R s m args below meth c H locs cells slots Q (F0 m pc ls (.int j :: .ref (ad 10 0) :: rest)) :=
  r_aald X.1 X.2.1 hK hW (cp := 10) (i := 0) Nat.zero_lt_one 3 rfl rfl hin rfl hdg kk
theorem an_10 (X : CX p s m args meth c cc nL ret own) (hK : KK E s) (hW : WD E ad (M, N) H) (hdg : decode cc pc = .ok (.arraylength, 1)) (kk : W p l e R s m args below meth c H locs cells slots Q (F0 m (pc + 1) ls (.int 6 :: rest))) : W p l e R s m args below meth c H locs cells slots Q (F0 m pc ls (.ref (ad 10 0) :: rest)) :=
  r_alen X.1 X.2.1 hK hW (cp := 10) (i := 0) Nat.zero_lt_one 3 rfl rfl (show nI 6 = 6 by decide) hdg kk
theorem al_11 (X : CX p s m args meth c cc nL ret own) (hK : KK E s) (hW : WD E ad (M, N) H) {j : Int32} (hin : ¬ (j < 0 ∨ 8 ≤ j.toNatClampNeg)) (hdg : decode cc pc = .ok (.aaload, 1)) (kk : W p l e R s m args below meth c H locs cells slots Q (F0 m (pc + 1) ls (.ref (ad 5 j.toNatClampNeg) :: rest))) : W p l e R s m args below meth c H locs cells slots Q (F0 m pc ls (.int j :: .ref (ad 11 0) :: rest)) :=
  r_aald X.1 X.2.1 hK hW (cp := 11) (i := 0) Nat.zero_lt_one 2 rfl rfl hin rfl hdg kk
theorem an_11 (X : CX p s m args meth c cc nL ret own) (hK : KK E s) (hW : WD E ad (M, N) H) (hdg : decode cc pc = .ok (.arraylength, 1)) (kk : W p l e R s m args below meth c H locs cells slots Q (F0 m (pc + 1) ls (.int 8 :: rest))) : W p l e R s m args below meth c H locs cells slots Q (F0 m pc ls (.ref (ad 11 0) :: rest)) :=
  r_alen X.1 X.2.1 hK hW (cp := 11) (i := 0) Nat.zero_lt_one 2 rfl rfl (show nI 8 = 8 by decide) hdg kk
theorem al_12 (X : CX p s m args meth c cc nL ret own) (hK : KK E s) (hW : WD E ad (M, N) H) {j : Int32} (hin : ¬ (j < 0 ∨ 12 ≤ j.toNatClampNeg)) (hdg : decode cc pc = .ok (.iaload, 1)) (kk : W p l e R s m args below meth c H locs cells slots Q (F0 m (pc + 1) ls (.int (M 12 0 j.toNatClampNeg) :: rest))) : W p l e R s m args below meth c H locs cells slots Q (F0 m pc ls (.int j :: .ref (ad 12 0) :: rest)) :=
  r_ald X.1 X.2.1 hK hW (cp := 12) (i := 0) Nat.zero_lt_one rfl hin hdg kk
theorem as_12 (X : CX p s m args meth c cc nL ret own) (hK : KK E s) (hW : WD E ad (M, N) H) (hS : va_S (ow E) H0 H locs) {j x : Int32} (hin : ¬ (j < 0 ∨ 12 ≤ j.toNatClampNeg)) {M1 : Mem} (hM : M1 = mp M 12 0 j.toNatClampNeg x) (hdg : decode cc pc = .ok (.iastore, 1)) (kk : ∀ (H1 : Heap) (locs1 : List Loc), WD E ad (M1, N) H1 → va_S (ow E) H0 H1 locs1 → W p l e R s m args below meth c H1 locs1 cells slots Q (F0 m (pc + 1) ls rest)) : W p l e R s m args below meth c H locs cells slots Q (F0 m pc ls (.int x :: .int j :: .ref (ad 12 0) :: rest)) := by
  subst hM
  refine r_ast X.1 X.2.1 hK hW hS (cp := 12) (i := 0) Nat.zero_lt_one rfl (by unfold okp; omega) ?_ hin hdg kk
  have e1 : mp M 12 0 j.toNatClampNeg x 12 0 = upd (M 12 0) j.toNatClampNeg x := mp_upd M 12 0 j.toNatClampNeg x
  show Sum.inl (E.2.1 0, 12, Sum.inl (mp M 12 0 j.toNatClampNeg x 12 0)) = _
  rw [e1]
  rfl
theorem an_12 (X : CX p s m args meth c cc nL ret own) (hK : KK E s) (hW : WD E ad (M, N) H) (hdg : decode cc pc = .ok (.arraylength, 1)) (kk : W p l e R s m args below meth c H locs cells slots Q (F0 m (pc + 1) ls (.int (12) :: rest))) : W p l e R s m args below meth c H locs cells slots Q (F0 m pc ls (.ref (ad 12 0) :: rest)) :=
  r_alen X.1 X.2.1 hK hW (cp := 12) (i := 0) Nat.zero_lt_one 0 rfl rfl (show nI 12 = 12 by decide) hdg kk
theorem al_13 (X : CX p s m args meth c cc nL ret own) (hK : KK E s) (hW : WD E ad (M, N) H) {j : Int32} (hin : ¬ (j < 0 ∨ 180 ≤ j.toNatClampNeg)) (hdg : decode cc pc = .ok (.iaload, 1)) (kk : W p l e R s m args below meth c H locs cells slots Q (F0 m (pc + 1) ls (.int (M 13 0 j.toNatClampNeg) :: rest))) : W p l e R s m args below meth c H locs cells slots Q (F0 m pc ls (.int j :: .ref (ad 13 0) :: rest)) :=
  r_ald X.1 X.2.1 hK hW (cp := 13) (i := 0) Nat.zero_lt_one rfl hin hdg kk
theorem as_13 (X : CX p s m args meth c cc nL ret own) (hK : KK E s) (hW : WD E ad (M, N) H) (hS : va_S (ow E) H0 H locs) {j x : Int32} (hin : ¬ (j < 0 ∨ 180 ≤ j.toNatClampNeg)) {M1 : Mem} (hM : M1 = mp M 13 0 j.toNatClampNeg x) (hdg : decode cc pc = .ok (.iastore, 1)) (kk : ∀ (H1 : Heap) (locs1 : List Loc), WD E ad (M1, N) H1 → va_S (ow E) H0 H1 locs1 → W p l e R s m args below meth c H1 locs1 cells slots Q (F0 m (pc + 1) ls rest)) : W p l e R s m args below meth c H locs cells slots Q (F0 m pc ls (.int x :: .int j :: .ref (ad 13 0) :: rest)) := by
  subst hM
  refine r_ast X.1 X.2.1 hK hW hS (cp := 13) (i := 0) Nat.zero_lt_one rfl (by unfold okp; omega) ?_ hin hdg kk
  have e1 : mp M 13 0 j.toNatClampNeg x 13 0 = upd (M 13 0) j.toNatClampNeg x := mp_upd M 13 0 j.toNatClampNeg x
  show Sum.inl (E.2.1 0, 180, Sum.inl (mp M 13 0 j.toNatClampNeg x 13 0)) = _
  rw [e1]
  rfl
theorem an_13 (X : CX p s m args meth c cc nL ret own) (hK : KK E s) (hW : WD E ad (M, N) H) (hdg : decode cc pc = .ok (.arraylength, 1)) (kk : W p l e R s m args below meth c H locs cells slots Q (F0 m (pc + 1) ls (.int (180) :: rest))) : W p l e R s m args below meth c H locs cells slots Q (F0 m pc ls (.ref (ad 13 0) :: rest)) :=
  r_alen X.1 X.2.1 hK hW (cp := 13) (i := 0) Nat.zero_lt_one 0 rfl rfl (show nI 180 = 180 by decide) hdg kk
theorem al_14 (X : CX p s m args meth c cc nL ret own) (hK : KK E s) (hW : WD E ad (M, N) H) {i : Nat} (hv : i < 8) {j : Int32} (hin : ¬ (j < 0 ∨ 160 ≤ j.toNatClampNeg)) (hdg : decode cc pc = .ok (.iaload, 1)) (kk : W p l e R s m args below meth c H locs cells slots Q (F0 m (pc + 1) ls (.int (M 14 i j.toNatClampNeg) :: rest))) : W p l e R s m args below meth c H locs cells slots Q (F0 m pc ls (.int j :: .ref (ad 14 i) :: rest)) :=
  r_ald X.1 X.2.1 hK hW (cp := 14) (i := i) hv rfl hin hdg kk
theorem as_14 (X : CX p s m args meth c cc nL ret own) (hK : KK E s) (hW : WD E ad (M, N) H) (hS : va_S (ow E) H0 H locs) {i : Nat} (hv : i < 8) {j x : Int32} (hin : ¬ (j < 0 ∨ 160 ≤ j.toNatClampNeg)) {M1 : Mem} (hM : M1 = mp M 14 i j.toNatClampNeg x) (hdg : decode cc pc = .ok (.iastore, 1)) (kk : ∀ (H1 : Heap) (locs1 : List Loc), WD E ad (M1, N) H1 → va_S (ow E) H0 H1 locs1 → W p l e R s m args below meth c H1 locs1 cells slots Q (F0 m (pc + 1) ls rest)) : W p l e R s m args below meth c H locs cells slots Q (F0 m pc ls (.int x :: .int j :: .ref (ad 14 i) :: rest)) := by
  subst hM
  refine r_ast X.1 X.2.1 hK hW hS (cp := 14) (i := i) hv rfl (by unfold okp; omega) ?_ hin hdg kk
  have e1 : mp M 14 i j.toNatClampNeg x 14 i = upd (M 14 i) j.toNatClampNeg x := mp_upd M 14 i j.toNatClampNeg x
  show Sum.inl (E.2.1 0, 160, Sum.inl (mp M 14 i j.toNatClampNeg x 14 i)) = _
  rw [e1]
  rfl
theorem an_14 (X : CX p s m args meth c cc nL ret own) (hK : KK E s) (hW : WD E ad (M, N) H) {i : Nat} (hv : i < 8) (hdg : decode cc pc = .ok (.arraylength, 1)) (kk : W p l e R s m args below meth c H locs cells slots Q (F0 m (pc + 1) ls (.int (160) :: rest))) : W p l e R s m args below meth c H locs cells slots Q (F0 m pc ls (.ref (ad 14 i) :: rest)) :=
  r_alen X.1 X.2.1 hK hW (cp := 14) (i := i) hv 0 rfl rfl (show nI 160 = 160 by decide) hdg kk
theorem al_15 (X : CX p s m args meth c cc nL ret own) (hK : KK E s) (hW : WD E ad (M, N) H) {i : Nat} (hv : i < 6) {j : Int32} (hin : ¬ (j < 0 ∨ 6 ≤ j.toNatClampNeg)) (hdg : decode cc pc = .ok (.iaload, 1)) (kk : W p l e R s m args below meth c H locs cells slots Q (F0 m (pc + 1) ls (.int (M 15 i j.toNatClampNeg) :: rest))) : W p l e R s m args below meth c H locs cells slots Q (F0 m pc ls (.int j :: .ref (ad 15 i) :: rest)) :=
  r_ald X.1 X.2.1 hK hW (cp := 15) (i := i) hv rfl hin hdg kk
theorem as_15 (X : CX p s m args meth c cc nL ret own) (hK : KK E s) (hW : WD E ad (M, N) H) (hS : va_S (ow E) H0 H locs) {i : Nat} (hv : i < 6) {j x : Int32} (hin : ¬ (j < 0 ∨ 6 ≤ j.toNatClampNeg)) {M1 : Mem} (hM : M1 = mp M 15 i j.toNatClampNeg x) (hdg : decode cc pc = .ok (.iastore, 1)) (kk : ∀ (H1 : Heap) (locs1 : List Loc), WD E ad (M1, N) H1 → va_S (ow E) H0 H1 locs1 → W p l e R s m args below meth c H1 locs1 cells slots Q (F0 m (pc + 1) ls rest)) : W p l e R s m args below meth c H locs cells slots Q (F0 m pc ls (.int x :: .int j :: .ref (ad 15 i) :: rest)) := by
  subst hM
  refine r_ast X.1 X.2.1 hK hW hS (cp := 15) (i := i) hv rfl (by unfold okp; omega) ?_ hin hdg kk
  have e1 : mp M 15 i j.toNatClampNeg x 15 i = upd (M 15 i) j.toNatClampNeg x := mp_upd M 15 i j.toNatClampNeg x
  show Sum.inl (E.2.1 0, 6, Sum.inl (mp M 15 i j.toNatClampNeg x 15 i)) = _
  rw [e1]
  rfl
theorem an_15 (X : CX p s m args meth c cc nL ret own) (hK : KK E s) (hW : WD E ad (M, N) H) {i : Nat} (hv : i < 6) (hdg : decode cc pc = .ok (.arraylength, 1)) (kk : W p l e R s m args below meth c H locs cells slots Q (F0 m (pc + 1) ls (.int (6) :: rest))) : W p l e R s m args below meth c H locs cells slots Q (F0 m pc ls (.ref (ad 15 i) :: rest)) :=
  r_alen X.1 X.2.1 hK hW (cp := 15) (i := i) hv 0 rfl rfl (show nI 6 = 6 by decide) hdg kk
theorem al_16 (X : CX p s m args meth c cc nL ret own) (hK : KK E s) (hW : WD E ad (M, N) H) {i : Nat} (hv : i < 6) {j : Int32} (hin : ¬ (j < 0 ∨ 6 ≤ j.toNatClampNeg)) (hdg : decode cc pc = .ok (.iaload, 1)) (kk : W p l e R s m args below meth c H locs cells slots Q (F0 m (pc + 1) ls (.int (M 16 i j.toNatClampNeg) :: rest))) : W p l e R s m args below meth c H locs cells slots Q (F0 m pc ls (.int j :: .ref (ad 16 i) :: rest)) :=
  r_ald X.1 X.2.1 hK hW (cp := 16) (i := i) hv rfl hin hdg kk
theorem as_16 (X : CX p s m args meth c cc nL ret own) (hK : KK E s) (hW : WD E ad (M, N) H) (hS : va_S (ow E) H0 H locs) {i : Nat} (hv : i < 6) {j x : Int32} (hin : ¬ (j < 0 ∨ 6 ≤ j.toNatClampNeg)) {M1 : Mem} (hM : M1 = mp M 16 i j.toNatClampNeg x) (hdg : decode cc pc = .ok (.iastore, 1)) (kk : ∀ (H1 : Heap) (locs1 : List Loc), WD E ad (M1, N) H1 → va_S (ow E) H0 H1 locs1 → W p l e R s m args below meth c H1 locs1 cells slots Q (F0 m (pc + 1) ls rest)) : W p l e R s m args below meth c H locs cells slots Q (F0 m pc ls (.int x :: .int j :: .ref (ad 16 i) :: rest)) := by
  subst hM
  refine r_ast X.1 X.2.1 hK hW hS (cp := 16) (i := i) hv rfl (by unfold okp; omega) ?_ hin hdg kk
  have e1 : mp M 16 i j.toNatClampNeg x 16 i = upd (M 16 i) j.toNatClampNeg x := mp_upd M 16 i j.toNatClampNeg x
  show Sum.inl (E.2.1 0, 6, Sum.inl (mp M 16 i j.toNatClampNeg x 16 i)) = _
  rw [e1]
  rfl
theorem an_16 (X : CX p s m args meth c cc nL ret own) (hK : KK E s) (hW : WD E ad (M, N) H) {i : Nat} (hv : i < 6) (hdg : decode cc pc = .ok (.arraylength, 1)) (kk : W p l e R s m args below meth c H locs cells slots Q (F0 m (pc + 1) ls (.int (6) :: rest))) : W p l e R s m args below meth c H locs cells slots Q (F0 m pc ls (.ref (ad 16 i) :: rest)) :=
  r_alen X.1 X.2.1 hK hW (cp := 16) (i := i) hv 0 rfl rfl (show nI 6 = 6 by decide) hdg kk
theorem al_17 (X : CX p s m args meth c cc nL ret own) (hK : KK E s) (hW : WD E ad (M, N) H) {i : Nat} (hv : i < 6) {j : Int32} (hin : ¬ (j < 0 ∨ 8 ≤ j.toNatClampNeg)) (hdg : decode cc pc = .ok (.iaload, 1)) (kk : W p l e R s m args below meth c H locs cells slots Q (F0 m (pc + 1) ls (.int (M 17 i j.toNatClampNeg) :: rest))) : W p l e R s m args below meth c H locs cells slots Q (F0 m pc ls (.int j :: .ref (ad 17 i) :: rest)) :=
  r_ald X.1 X.2.1 hK hW (cp := 17) (i := i) hv rfl hin hdg kk
theorem as_17 (X : CX p s m args meth c cc nL ret own) (hK : KK E s) (hW : WD E ad (M, N) H) (hS : va_S (ow E) H0 H locs) {i : Nat} (hv : i < 6) {j x : Int32} (hin : ¬ (j < 0 ∨ 8 ≤ j.toNatClampNeg)) {M1 : Mem} (hM : M1 = mp M 17 i j.toNatClampNeg x) (hdg : decode cc pc = .ok (.iastore, 1)) (kk : ∀ (H1 : Heap) (locs1 : List Loc), WD E ad (M1, N) H1 → va_S (ow E) H0 H1 locs1 → W p l e R s m args below meth c H1 locs1 cells slots Q (F0 m (pc + 1) ls rest)) : W p l e R s m args below meth c H locs cells slots Q (F0 m pc ls (.int x :: .int j :: .ref (ad 17 i) :: rest)) := by
  subst hM
  refine r_ast X.1 X.2.1 hK hW hS (cp := 17) (i := i) hv rfl (by unfold okp; omega) ?_ hin hdg kk
  have e1 : mp M 17 i j.toNatClampNeg x 17 i = upd (M 17 i) j.toNatClampNeg x := mp_upd M 17 i j.toNatClampNeg x
  show Sum.inl (E.2.1 0, 8, Sum.inl (mp M 17 i j.toNatClampNeg x 17 i)) = _
  rw [e1]
  rfl
theorem an_17 (X : CX p s m args meth c cc nL ret own) (hK : KK E s) (hW : WD E ad (M, N) H) {i : Nat} (hv : i < 6) (hdg : decode cc pc = .ok (.arraylength, 1)) (kk : W p l e R s m args below meth c H locs cells slots Q (F0 m (pc + 1) ls (.int (8) :: rest))) : W p l e R s m args below meth c H locs cells slots Q (F0 m pc ls (.ref (ad 17 i) :: rest)) :=
  r_alen X.1 X.2.1 hK hW (cp := 17) (i := i) hv 0 rfl rfl (show nI 8 = 8 by decide) hdg kk
theorem al_18 (X : CX p s m args meth c cc nL ret own) (hK : KK E s) (hW : WD E ad (M, N) H) {i : Nat} (hv : i < 6) {j : Int32} (hin : ¬ (j < 0 ∨ 8 ≤ j.toNatClampNeg)) (hdg : decode cc pc = .ok (.iaload, 1)) (kk : W p l e R s m args below meth c H locs cells slots Q (F0 m (pc + 1) ls (.int (M 18 i j.toNatClampNeg) :: rest))) : W p l e R s m args below meth c H locs cells slots Q (F0 m pc ls (.int j :: .ref (ad 18 i) :: rest)) :=
  r_ald X.1 X.2.1 hK hW (cp := 18) (i := i) hv rfl hin hdg kk
theorem as_18 (X : CX p s m args meth c cc nL ret own) (hK : KK E s) (hW : WD E ad (M, N) H) (hS : va_S (ow E) H0 H locs) {i : Nat} (hv : i < 6) {j x : Int32} (hin : ¬ (j < 0 ∨ 8 ≤ j.toNatClampNeg)) {M1 : Mem} (hM : M1 = mp M 18 i j.toNatClampNeg x) (hdg : decode cc pc = .ok (.iastore, 1)) (kk : ∀ (H1 : Heap) (locs1 : List Loc), WD E ad (M1, N) H1 → va_S (ow E) H0 H1 locs1 → W p l e R s m args below meth c H1 locs1 cells slots Q (F0 m (pc + 1) ls rest)) : W p l e R s m args below meth c H locs cells slots Q (F0 m pc ls (.int x :: .int j :: .ref (ad 18 i) :: rest)) := by
  subst hM
  refine r_ast X.1 X.2.1 hK hW hS (cp := 18) (i := i) hv rfl (by unfold okp; omega) ?_ hin hdg kk
  have e1 : mp M 18 i j.toNatClampNeg x 18 i = upd (M 18 i) j.toNatClampNeg x := mp_upd M 18 i j.toNatClampNeg x
  show Sum.inl (E.2.1 0, 8, Sum.inl (mp M 18 i j.toNatClampNeg x 18 i)) = _
  rw [e1]
  rfl
theorem an_18 (X : CX p s m args meth c cc nL ret own) (hK : KK E s) (hW : WD E ad (M, N) H) {i : Nat} (hv : i < 6) (hdg : decode cc pc = .ok (.arraylength, 1)) (kk : W p l e R s m args below meth c H locs cells slots Q (F0 m (pc + 1) ls (.int (8) :: rest))) : W p l e R s m args below meth c H locs cells slots Q (F0 m pc ls (.ref (ad 18 i) :: rest)) :=
  r_alen X.1 X.2.1 hK hW (cp := 18) (i := i) hv 0 rfl rfl (show nI 8 = 8 by decide) hdg kk
theorem al_19 (X : CX p s m args meth c cc nL ret own) (hK : KK E s) (hW : WD E ad (M, N) H) {i : Nat} (hv : i < (M 60 0 1).toNatClampNeg) {j : Int32} (hin : ¬ (j < 0 ∨ (M 8 i 4).toNatClampNeg ≤ j.toNatClampNeg)) (hdg : decode cc pc = .ok (.iaload, 1)) (kk : W p l e R s m args below meth c H locs cells slots Q (F0 m (pc + 1) ls (.int (M 19 i j.toNatClampNeg) :: rest))) : W p l e R s m args below meth c H locs cells slots Q (F0 m pc ls (.int j :: .ref (ad 19 i) :: rest)) :=
  r_ald X.1 X.2.1 hK hW (cp := 19) (i := i) hv rfl hin hdg kk
theorem as_19 (X : CX p s m args meth c cc nL ret own) (hK : KK E s) (hW : WD E ad (M, N) H) (hS : va_S (ow E) H0 H locs) {i : Nat} (hv : i < (M 60 0 1).toNatClampNeg) {j x : Int32} (hin : ¬ (j < 0 ∨ (M 8 i 4).toNatClampNeg ≤ j.toNatClampNeg)) {M1 : Mem} (hM : M1 = mp M 19 i j.toNatClampNeg x) (hdg : decode cc pc = .ok (.iastore, 1)) (kk : ∀ (H1 : Heap) (locs1 : List Loc), WD E ad (M1, N) H1 → va_S (ow E) H0 H1 locs1 → W p l e R s m args below meth c H1 locs1 cells slots Q (F0 m (pc + 1) ls rest)) : W p l e R s m args below meth c H locs cells slots Q (F0 m pc ls (.int x :: .int j :: .ref (ad 19 i) :: rest)) := by
  subst hM
  refine r_ast X.1 X.2.1 hK hW hS (cp := 19) (i := i) hv rfl (by unfold okp; omega) ?_ hin hdg kk
  have e1 : mp M 19 i j.toNatClampNeg x 19 i = upd (M 19 i) j.toNatClampNeg x := mp_upd M 19 i j.toNatClampNeg x
  show Sum.inl (E.2.1 0, (mp M 19 i j.toNatClampNeg x 8 i 4).toNatClampNeg, Sum.inl (mp M 19 i j.toNatClampNeg x 19 i)) = _
  rw [e1, mp_ne M x (by omega)]
theorem an_19 (X : CX p s m args meth c cc nL ret own) (hK : KK E s) (hW : WD E ad (M, N) H) {i : Nat} (hv : i < (M 60 0 1).toNatClampNeg) (hdg : decode cc pc = .ok (.arraylength, 1)) (kk : W p l e R s m args below meth c H locs cells slots Q (F0 m (pc + 1) ls (.int (nI (M 8 i 4).toNatClampNeg) :: rest))) : W p l e R s m args below meth c H locs cells slots Q (F0 m pc ls (.ref (ad 19 i) :: rest)) :=
  r_alen X.1 X.2.1 hK hW (cp := 19) (i := i) hv 0 rfl rfl rfl hdg kk
theorem al_21 (X : CX p s m args meth c cc nL ret own) (hK : KK E s) (hW : WD E ad (M, N) H) {j : Int32} (hin : ¬ (j < 0 ∨ 32 ≤ j.toNatClampNeg)) (hdg : decode cc pc = .ok (.iaload, 1)) (kk : W p l e R s m args below meth c H locs cells slots Q (F0 m (pc + 1) ls (.int (N 21 0 j.toNatClampNeg) :: rest))) : W p l e R s m args below meth c H locs cells slots Q (F0 m pc ls (.int j :: .ref (ad 21 0) :: rest)) :=
  r_ald X.1 X.2.1 hK hW (cp := 21) (i := 0) Nat.zero_lt_one rfl hin hdg kk
theorem as_21 (X : CX p s m args meth c cc nL ret own) (hK : KK E s) (hW : WD E ad (M, N) H) (hS : va_S (ow E) H0 H locs) {j x : Int32} (hin : ¬ (j < 0 ∨ 32 ≤ j.toNatClampNeg)) {N1 : Mem} (hM : N1 = mp N 21 0 j.toNatClampNeg x) (hdg : decode cc pc = .ok (.iastore, 1)) (kk : ∀ (H1 : Heap) (locs1 : List Loc), WD E ad (M, N1) H1 → va_S (ow E) H0 H1 locs1 → W p l e R s m args below meth c H1 locs1 cells slots Q (F0 m (pc + 1) ls rest)) : W p l e R s m args below meth c H locs cells slots Q (F0 m pc ls (.int x :: .int j :: .ref (ad 21 0) :: rest)) := by
  subst hM
  refine r_ast X.1 X.2.1 hK hW hS (cp := 21) (i := 0) Nat.zero_lt_one rfl (by unfold okp; omega) ?_ hin hdg kk
  have e1 : mp N 21 0 j.toNatClampNeg x 21 0 = upd (N 21 0) j.toNatClampNeg x := mp_upd N 21 0 j.toNatClampNeg x
  show Sum.inl (E.2.1 0, 32, Sum.inl (mp N 21 0 j.toNatClampNeg x 21 0)) = _
  rw [e1]
  rfl
theorem an_21 (X : CX p s m args meth c cc nL ret own) (hK : KK E s) (hW : WD E ad (M, N) H) (hdg : decode cc pc = .ok (.arraylength, 1)) (kk : W p l e R s m args below meth c H locs cells slots Q (F0 m (pc + 1) ls (.int (32) :: rest))) : W p l e R s m args below meth c H locs cells slots Q (F0 m pc ls (.ref (ad 21 0) :: rest)) :=
  r_alen X.1 X.2.1 hK hW (cp := 21) (i := 0) Nat.zero_lt_one 0 rfl rfl (show nI 32 = 32 by decide) hdg kk
theorem al_22 (X : CX p s m args meth c cc nL ret own) (hK : KK E s) (hW : WD E ad (M, N) H) {j : Int32} (hin : ¬ (j < 0 ∨ 32 ≤ j.toNatClampNeg)) (hdg : decode cc pc = .ok (.iaload, 1)) (kk : W p l e R s m args below meth c H locs cells slots Q (F0 m (pc + 1) ls (.int (N 22 0 j.toNatClampNeg) :: rest))) : W p l e R s m args below meth c H locs cells slots Q (F0 m pc ls (.int j :: .ref (ad 22 0) :: rest)) :=
  r_ald X.1 X.2.1 hK hW (cp := 22) (i := 0) Nat.zero_lt_one rfl hin hdg kk
theorem as_22 (X : CX p s m args meth c cc nL ret own) (hK : KK E s) (hW : WD E ad (M, N) H) (hS : va_S (ow E) H0 H locs) {j x : Int32} (hin : ¬ (j < 0 ∨ 32 ≤ j.toNatClampNeg)) {N1 : Mem} (hM : N1 = mp N 22 0 j.toNatClampNeg x) (hdg : decode cc pc = .ok (.iastore, 1)) (kk : ∀ (H1 : Heap) (locs1 : List Loc), WD E ad (M, N1) H1 → va_S (ow E) H0 H1 locs1 → W p l e R s m args below meth c H1 locs1 cells slots Q (F0 m (pc + 1) ls rest)) : W p l e R s m args below meth c H locs cells slots Q (F0 m pc ls (.int x :: .int j :: .ref (ad 22 0) :: rest)) := by
  subst hM
  refine r_ast X.1 X.2.1 hK hW hS (cp := 22) (i := 0) Nat.zero_lt_one rfl (by unfold okp; omega) ?_ hin hdg kk
  have e1 : mp N 22 0 j.toNatClampNeg x 22 0 = upd (N 22 0) j.toNatClampNeg x := mp_upd N 22 0 j.toNatClampNeg x
  show Sum.inl (E.2.1 0, 32, Sum.inl (mp N 22 0 j.toNatClampNeg x 22 0)) = _
  rw [e1]
  rfl
theorem an_22 (X : CX p s m args meth c cc nL ret own) (hK : KK E s) (hW : WD E ad (M, N) H) (hdg : decode cc pc = .ok (.arraylength, 1)) (kk : W p l e R s m args below meth c H locs cells slots Q (F0 m (pc + 1) ls (.int (32) :: rest))) : W p l e R s m args below meth c H locs cells slots Q (F0 m pc ls (.ref (ad 22 0) :: rest)) :=
  r_alen X.1 X.2.1 hK hW (cp := 22) (i := 0) Nat.zero_lt_one 0 rfl rfl (show nI 32 = 32 by decide) hdg kk
theorem al_23 (X : CX p s m args meth c cc nL ret own) (hK : KK E s) (hW : WD E ad (M, N) H) {j : Int32} (hin : ¬ (j < 0 ∨ 32 ≤ j.toNatClampNeg)) (hdg : decode cc pc = .ok (.iaload, 1)) (kk : W p l e R s m args below meth c H locs cells slots Q (F0 m (pc + 1) ls (.int (N 23 0 j.toNatClampNeg) :: rest))) : W p l e R s m args below meth c H locs cells slots Q (F0 m pc ls (.int j :: .ref (ad 23 0) :: rest)) :=
  r_ald X.1 X.2.1 hK hW (cp := 23) (i := 0) Nat.zero_lt_one rfl hin hdg kk
theorem as_23 (X : CX p s m args meth c cc nL ret own) (hK : KK E s) (hW : WD E ad (M, N) H) (hS : va_S (ow E) H0 H locs) {j x : Int32} (hin : ¬ (j < 0 ∨ 32 ≤ j.toNatClampNeg)) {N1 : Mem} (hM : N1 = mp N 23 0 j.toNatClampNeg x) (hdg : decode cc pc = .ok (.iastore, 1)) (kk : ∀ (H1 : Heap) (locs1 : List Loc), WD E ad (M, N1) H1 → va_S (ow E) H0 H1 locs1 → W p l e R s m args below meth c H1 locs1 cells slots Q (F0 m (pc + 1) ls rest)) : W p l e R s m args below meth c H locs cells slots Q (F0 m pc ls (.int x :: .int j :: .ref (ad 23 0) :: rest)) := by
  subst hM
  refine r_ast X.1 X.2.1 hK hW hS (cp := 23) (i := 0) Nat.zero_lt_one rfl (by unfold okp; omega) ?_ hin hdg kk
  have e1 : mp N 23 0 j.toNatClampNeg x 23 0 = upd (N 23 0) j.toNatClampNeg x := mp_upd N 23 0 j.toNatClampNeg x
  show Sum.inl (E.2.1 0, 32, Sum.inl (mp N 23 0 j.toNatClampNeg x 23 0)) = _
  rw [e1]
  rfl
theorem an_23 (X : CX p s m args meth c cc nL ret own) (hK : KK E s) (hW : WD E ad (M, N) H) (hdg : decode cc pc = .ok (.arraylength, 1)) (kk : W p l e R s m args below meth c H locs cells slots Q (F0 m (pc + 1) ls (.int (32) :: rest))) : W p l e R s m args below meth c H locs cells slots Q (F0 m pc ls (.ref (ad 23 0) :: rest)) :=
  r_alen X.1 X.2.1 hK hW (cp := 23) (i := 0) Nat.zero_lt_one 0 rfl rfl (show nI 32 = 32 by decide) hdg kk
theorem al_24 (X : CX p s m args meth c cc nL ret own) (hK : KK E s) (hW : WD E ad (M, N) H) {j : Int32} (hin : ¬ (j < 0 ∨ 384 ≤ j.toNatClampNeg)) (hdg : decode cc pc = .ok (.iaload, 1)) (kk : W p l e R s m args below meth c H locs cells slots Q (F0 m (pc + 1) ls (.int (N 24 0 j.toNatClampNeg) :: rest))) : W p l e R s m args below meth c H locs cells slots Q (F0 m pc ls (.int j :: .ref (ad 24 0) :: rest)) :=
  r_ald X.1 X.2.1 hK hW (cp := 24) (i := 0) Nat.zero_lt_one rfl hin hdg kk
theorem as_24 (X : CX p s m args meth c cc nL ret own) (hK : KK E s) (hW : WD E ad (M, N) H) (hS : va_S (ow E) H0 H locs) {j x : Int32} (hin : ¬ (j < 0 ∨ 384 ≤ j.toNatClampNeg)) {N1 : Mem} (hM : N1 = mp N 24 0 j.toNatClampNeg x) (hdg : decode cc pc = .ok (.iastore, 1)) (kk : ∀ (H1 : Heap) (locs1 : List Loc), WD E ad (M, N1) H1 → va_S (ow E) H0 H1 locs1 → W p l e R s m args below meth c H1 locs1 cells slots Q (F0 m (pc + 1) ls rest)) : W p l e R s m args below meth c H locs cells slots Q (F0 m pc ls (.int x :: .int j :: .ref (ad 24 0) :: rest)) := by
  subst hM
  refine r_ast X.1 X.2.1 hK hW hS (cp := 24) (i := 0) Nat.zero_lt_one rfl (by unfold okp; omega) ?_ hin hdg kk
  have e1 : mp N 24 0 j.toNatClampNeg x 24 0 = upd (N 24 0) j.toNatClampNeg x := mp_upd N 24 0 j.toNatClampNeg x
  show Sum.inl (E.2.1 0, 384, Sum.inl (mp N 24 0 j.toNatClampNeg x 24 0)) = _
  rw [e1]
  rfl
theorem an_24 (X : CX p s m args meth c cc nL ret own) (hK : KK E s) (hW : WD E ad (M, N) H) (hdg : decode cc pc = .ok (.arraylength, 1)) (kk : W p l e R s m args below meth c H locs cells slots Q (F0 m (pc + 1) ls (.int (384) :: rest))) : W p l e R s m args below meth c H locs cells slots Q (F0 m pc ls (.ref (ad 24 0) :: rest)) :=
  r_alen X.1 X.2.1 hK hW (cp := 24) (i := 0) Nat.zero_lt_one 0 rfl rfl (show nI 384 = 384 by decide) hdg kk
theorem al_25 (X : CX p s m args meth c cc nL ret own) (hK : KK E s) (hW : WD E ad (M, N) H) {j : Int32} (hin : ¬ (j < 0 ∨ 32 ≤ j.toNatClampNeg)) (hdg : decode cc pc = .ok (.iaload, 1)) (kk : W p l e R s m args below meth c H locs cells slots Q (F0 m (pc + 1) ls (.int (N 25 0 j.toNatClampNeg) :: rest))) : W p l e R s m args below meth c H locs cells slots Q (F0 m pc ls (.int j :: .ref (ad 25 0) :: rest)) :=
  r_ald X.1 X.2.1 hK hW (cp := 25) (i := 0) Nat.zero_lt_one rfl hin hdg kk
theorem as_25 (X : CX p s m args meth c cc nL ret own) (hK : KK E s) (hW : WD E ad (M, N) H) (hS : va_S (ow E) H0 H locs) {j x : Int32} (hin : ¬ (j < 0 ∨ 32 ≤ j.toNatClampNeg)) {N1 : Mem} (hM : N1 = mp N 25 0 j.toNatClampNeg x) (hdg : decode cc pc = .ok (.iastore, 1)) (kk : ∀ (H1 : Heap) (locs1 : List Loc), WD E ad (M, N1) H1 → va_S (ow E) H0 H1 locs1 → W p l e R s m args below meth c H1 locs1 cells slots Q (F0 m (pc + 1) ls rest)) : W p l e R s m args below meth c H locs cells slots Q (F0 m pc ls (.int x :: .int j :: .ref (ad 25 0) :: rest)) := by
  subst hM
  refine r_ast X.1 X.2.1 hK hW hS (cp := 25) (i := 0) Nat.zero_lt_one rfl (by unfold okp; omega) ?_ hin hdg kk
  have e1 : mp N 25 0 j.toNatClampNeg x 25 0 = upd (N 25 0) j.toNatClampNeg x := mp_upd N 25 0 j.toNatClampNeg x
  show Sum.inl (E.2.1 0, 32, Sum.inl (mp N 25 0 j.toNatClampNeg x 25 0)) = _
  rw [e1]
  rfl
theorem an_25 (X : CX p s m args meth c cc nL ret own) (hK : KK E s) (hW : WD E ad (M, N) H) (hdg : decode cc pc = .ok (.arraylength, 1)) (kk : W p l e R s m args below meth c H locs cells slots Q (F0 m (pc + 1) ls (.int (32) :: rest))) : W p l e R s m args below meth c H locs cells slots Q (F0 m pc ls (.ref (ad 25 0) :: rest)) :=
  r_alen X.1 X.2.1 hK hW (cp := 25) (i := 0) Nat.zero_lt_one 0 rfl rfl (show nI 32 = 32 by decide) hdg kk
theorem al_26 (X : CX p s m args meth c cc nL ret own) (hK : KK E s) (hW : WD E ad (M, N) H) {j : Int32} (hin : ¬ (j < 0 ∨ 32 ≤ j.toNatClampNeg)) (hdg : decode cc pc = .ok (.iaload, 1)) (kk : W p l e R s m args below meth c H locs cells slots Q (F0 m (pc + 1) ls (.int (N 26 0 j.toNatClampNeg) :: rest))) : W p l e R s m args below meth c H locs cells slots Q (F0 m pc ls (.int j :: .ref (ad 26 0) :: rest)) :=
  r_ald X.1 X.2.1 hK hW (cp := 26) (i := 0) Nat.zero_lt_one rfl hin hdg kk
theorem as_26 (X : CX p s m args meth c cc nL ret own) (hK : KK E s) (hW : WD E ad (M, N) H) (hS : va_S (ow E) H0 H locs) {j x : Int32} (hin : ¬ (j < 0 ∨ 32 ≤ j.toNatClampNeg)) {N1 : Mem} (hM : N1 = mp N 26 0 j.toNatClampNeg x) (hdg : decode cc pc = .ok (.iastore, 1)) (kk : ∀ (H1 : Heap) (locs1 : List Loc), WD E ad (M, N1) H1 → va_S (ow E) H0 H1 locs1 → W p l e R s m args below meth c H1 locs1 cells slots Q (F0 m (pc + 1) ls rest)) : W p l e R s m args below meth c H locs cells slots Q (F0 m pc ls (.int x :: .int j :: .ref (ad 26 0) :: rest)) := by
  subst hM
  refine r_ast X.1 X.2.1 hK hW hS (cp := 26) (i := 0) Nat.zero_lt_one rfl (by unfold okp; omega) ?_ hin hdg kk
  have e1 : mp N 26 0 j.toNatClampNeg x 26 0 = upd (N 26 0) j.toNatClampNeg x := mp_upd N 26 0 j.toNatClampNeg x
  show Sum.inl (E.2.1 0, 32, Sum.inl (mp N 26 0 j.toNatClampNeg x 26 0)) = _
  rw [e1]
  rfl
theorem an_26 (X : CX p s m args meth c cc nL ret own) (hK : KK E s) (hW : WD E ad (M, N) H) (hdg : decode cc pc = .ok (.arraylength, 1)) (kk : W p l e R s m args below meth c H locs cells slots Q (F0 m (pc + 1) ls (.int (32) :: rest))) : W p l e R s m args below meth c H locs cells slots Q (F0 m pc ls (.ref (ad 26 0) :: rest)) :=
  r_alen X.1 X.2.1 hK hW (cp := 26) (i := 0) Nat.zero_lt_one 0 rfl rfl (show nI 32 = 32 by decide) hdg kk
theorem al_27 (X : CX p s m args meth c cc nL ret own) (hK : KK E s) (hW : WD E ad (M, N) H) {j : Int32} (hin : ¬ (j < 0 ∨ 40 ≤ j.toNatClampNeg)) (hdg : decode cc pc = .ok (.iaload, 1)) (kk : W p l e R s m args below meth c H locs cells slots Q (F0 m (pc + 1) ls (.int (N 27 0 j.toNatClampNeg) :: rest))) : W p l e R s m args below meth c H locs cells slots Q (F0 m pc ls (.int j :: .ref (ad 27 0) :: rest)) :=
  r_ald X.1 X.2.1 hK hW (cp := 27) (i := 0) Nat.zero_lt_one rfl hin hdg kk
theorem as_27 (X : CX p s m args meth c cc nL ret own) (hK : KK E s) (hW : WD E ad (M, N) H) (hS : va_S (ow E) H0 H locs) {j x : Int32} (hin : ¬ (j < 0 ∨ 40 ≤ j.toNatClampNeg)) {N1 : Mem} (hM : N1 = mp N 27 0 j.toNatClampNeg x) (hdg : decode cc pc = .ok (.iastore, 1)) (kk : ∀ (H1 : Heap) (locs1 : List Loc), WD E ad (M, N1) H1 → va_S (ow E) H0 H1 locs1 → W p l e R s m args below meth c H1 locs1 cells slots Q (F0 m (pc + 1) ls rest)) : W p l e R s m args below meth c H locs cells slots Q (F0 m pc ls (.int x :: .int j :: .ref (ad 27 0) :: rest)) := by
  subst hM
  refine r_ast X.1 X.2.1 hK hW hS (cp := 27) (i := 0) Nat.zero_lt_one rfl (by unfold okp; omega) ?_ hin hdg kk
  have e1 : mp N 27 0 j.toNatClampNeg x 27 0 = upd (N 27 0) j.toNatClampNeg x := mp_upd N 27 0 j.toNatClampNeg x
  show Sum.inl (E.2.1 0, 40, Sum.inl (mp N 27 0 j.toNatClampNeg x 27 0)) = _
  rw [e1]
  rfl
theorem an_27 (X : CX p s m args meth c cc nL ret own) (hK : KK E s) (hW : WD E ad (M, N) H) (hdg : decode cc pc = .ok (.arraylength, 1)) (kk : W p l e R s m args below meth c H locs cells slots Q (F0 m (pc + 1) ls (.int (40) :: rest))) : W p l e R s m args below meth c H locs cells slots Q (F0 m pc ls (.ref (ad 27 0) :: rest)) :=
  r_alen X.1 X.2.1 hK hW (cp := 27) (i := 0) Nat.zero_lt_one 0 rfl rfl (show nI 40 = 40 by decide) hdg kk
theorem al_28 (X : CX p s m args meth c cc nL ret own) (hK : KK E s) (hW : WD E ad (M, N) H) {j : Int32} (hin : ¬ (j < 0 ∨ 1280 ≤ j.toNatClampNeg)) (hdg : decode cc pc = .ok (.iaload, 1)) (kk : W p l e R s m args below meth c H locs cells slots Q (F0 m (pc + 1) ls (.int (N 28 0 j.toNatClampNeg) :: rest))) : W p l e R s m args below meth c H locs cells slots Q (F0 m pc ls (.int j :: .ref (ad 28 0) :: rest)) :=
  r_ald X.1 X.2.1 hK hW (cp := 28) (i := 0) Nat.zero_lt_one rfl hin hdg kk
theorem as_28 (X : CX p s m args meth c cc nL ret own) (hK : KK E s) (hW : WD E ad (M, N) H) (hS : va_S (ow E) H0 H locs) {j x : Int32} (hin : ¬ (j < 0 ∨ 1280 ≤ j.toNatClampNeg)) {N1 : Mem} (hM : N1 = mp N 28 0 j.toNatClampNeg x) (hdg : decode cc pc = .ok (.iastore, 1)) (kk : ∀ (H1 : Heap) (locs1 : List Loc), WD E ad (M, N1) H1 → va_S (ow E) H0 H1 locs1 → W p l e R s m args below meth c H1 locs1 cells slots Q (F0 m (pc + 1) ls rest)) : W p l e R s m args below meth c H locs cells slots Q (F0 m pc ls (.int x :: .int j :: .ref (ad 28 0) :: rest)) := by
  subst hM
  refine r_ast X.1 X.2.1 hK hW hS (cp := 28) (i := 0) Nat.zero_lt_one rfl (by unfold okp; omega) ?_ hin hdg kk
  have e1 : mp N 28 0 j.toNatClampNeg x 28 0 = upd (N 28 0) j.toNatClampNeg x := mp_upd N 28 0 j.toNatClampNeg x
  show Sum.inl (E.2.1 0, 1280, Sum.inl (mp N 28 0 j.toNatClampNeg x 28 0)) = _
  rw [e1]
  rfl
theorem an_28 (X : CX p s m args meth c cc nL ret own) (hK : KK E s) (hW : WD E ad (M, N) H) (hdg : decode cc pc = .ok (.arraylength, 1)) (kk : W p l e R s m args below meth c H locs cells slots Q (F0 m (pc + 1) ls (.int (1280) :: rest))) : W p l e R s m args below meth c H locs cells slots Q (F0 m pc ls (.ref (ad 28 0) :: rest)) :=
  r_alen X.1 X.2.1 hK hW (cp := 28) (i := 0) Nat.zero_lt_one 0 rfl rfl (show nI 1280 = 1280 by decide) hdg kk
theorem al_29 (X : CX p s m args meth c cc nL ret own) (hK : KK E s) (hW : WD E ad (M, N) H) {j : Int32} (hin : ¬ (j < 0 ∨ 8 ≤ j.toNatClampNeg)) (hdg : decode cc pc = .ok (.iaload, 1)) (kk : W p l e R s m args below meth c H locs cells slots Q (F0 m (pc + 1) ls (.int (N 29 0 j.toNatClampNeg) :: rest))) : W p l e R s m args below meth c H locs cells slots Q (F0 m pc ls (.int j :: .ref (ad 29 0) :: rest)) :=
  r_ald X.1 X.2.1 hK hW (cp := 29) (i := 0) Nat.zero_lt_one rfl hin hdg kk
theorem as_29 (X : CX p s m args meth c cc nL ret own) (hK : KK E s) (hW : WD E ad (M, N) H) (hS : va_S (ow E) H0 H locs) {j x : Int32} (hin : ¬ (j < 0 ∨ 8 ≤ j.toNatClampNeg)) {N1 : Mem} (hM : N1 = mp N 29 0 j.toNatClampNeg x) (hdg : decode cc pc = .ok (.iastore, 1)) (kk : ∀ (H1 : Heap) (locs1 : List Loc), WD E ad (M, N1) H1 → va_S (ow E) H0 H1 locs1 → W p l e R s m args below meth c H1 locs1 cells slots Q (F0 m (pc + 1) ls rest)) : W p l e R s m args below meth c H locs cells slots Q (F0 m pc ls (.int x :: .int j :: .ref (ad 29 0) :: rest)) := by
  subst hM
  refine r_ast X.1 X.2.1 hK hW hS (cp := 29) (i := 0) Nat.zero_lt_one rfl (by unfold okp; omega) ?_ hin hdg kk
  have e1 : mp N 29 0 j.toNatClampNeg x 29 0 = upd (N 29 0) j.toNatClampNeg x := mp_upd N 29 0 j.toNatClampNeg x
  show Sum.inl (E.2.1 0, 8, Sum.inl (mp N 29 0 j.toNatClampNeg x 29 0)) = _
  rw [e1]
  rfl
theorem an_29 (X : CX p s m args meth c cc nL ret own) (hK : KK E s) (hW : WD E ad (M, N) H) (hdg : decode cc pc = .ok (.arraylength, 1)) (kk : W p l e R s m args below meth c H locs cells slots Q (F0 m (pc + 1) ls (.int (8) :: rest))) : W p l e R s m args below meth c H locs cells slots Q (F0 m pc ls (.ref (ad 29 0) :: rest)) :=
  r_alen X.1 X.2.1 hK hW (cp := 29) (i := 0) Nat.zero_lt_one 0 rfl rfl (show nI 8 = 8 by decide) hdg kk
theorem al_30 (X : CX p s m args meth c cc nL ret own) (hK : KK E s) (hW : WD E ad (M, N) H) {j : Int32} (hin : ¬ (j < 0 ∨ 37 ≤ j.toNatClampNeg)) (hdg : decode cc pc = .ok (.iaload, 1)) (kk : W p l e R s m args below meth c H locs cells slots Q (F0 m (pc + 1) ls (.int (N 30 0 j.toNatClampNeg) :: rest))) : W p l e R s m args below meth c H locs cells slots Q (F0 m pc ls (.int j :: .ref (ad 30 0) :: rest)) :=
  r_ald X.1 X.2.1 hK hW (cp := 30) (i := 0) Nat.zero_lt_one rfl hin hdg kk
theorem as_30 (X : CX p s m args meth c cc nL ret own) (hK : KK E s) (hW : WD E ad (M, N) H) (hS : va_S (ow E) H0 H locs) {j x : Int32} (hin : ¬ (j < 0 ∨ 37 ≤ j.toNatClampNeg)) {N1 : Mem} (hM : N1 = mp N 30 0 j.toNatClampNeg x) (hdg : decode cc pc = .ok (.iastore, 1)) (kk : ∀ (H1 : Heap) (locs1 : List Loc), WD E ad (M, N1) H1 → va_S (ow E) H0 H1 locs1 → W p l e R s m args below meth c H1 locs1 cells slots Q (F0 m (pc + 1) ls rest)) : W p l e R s m args below meth c H locs cells slots Q (F0 m pc ls (.int x :: .int j :: .ref (ad 30 0) :: rest)) := by
  subst hM
  refine r_ast X.1 X.2.1 hK hW hS (cp := 30) (i := 0) Nat.zero_lt_one rfl (by unfold okp; omega) ?_ hin hdg kk
  have e1 : mp N 30 0 j.toNatClampNeg x 30 0 = upd (N 30 0) j.toNatClampNeg x := mp_upd N 30 0 j.toNatClampNeg x
  show Sum.inl (E.2.1 0, 37, Sum.inl (mp N 30 0 j.toNatClampNeg x 30 0)) = _
  rw [e1]
  rfl
theorem an_30 (X : CX p s m args meth c cc nL ret own) (hK : KK E s) (hW : WD E ad (M, N) H) (hdg : decode cc pc = .ok (.arraylength, 1)) (kk : W p l e R s m args below meth c H locs cells slots Q (F0 m (pc + 1) ls (.int (37) :: rest))) : W p l e R s m args below meth c H locs cells slots Q (F0 m pc ls (.ref (ad 30 0) :: rest)) :=
  r_alen X.1 X.2.1 hK hW (cp := 30) (i := 0) Nat.zero_lt_one 0 rfl rfl (show nI 37 = 37 by decide) hdg kk
theorem al_31 (X : CX p s m args meth c cc nL ret own) (hK : KK E s) (hW : WD E ad (M, N) H) {j : Int32} (hin : ¬ (j < 0 ∨ 6 ≤ j.toNatClampNeg)) (hdg : decode cc pc = .ok (.iaload, 1)) (kk : W p l e R s m args below meth c H locs cells slots Q (F0 m (pc + 1) ls (.int (N 31 0 j.toNatClampNeg) :: rest))) : W p l e R s m args below meth c H locs cells slots Q (F0 m pc ls (.int j :: .ref (ad 31 0) :: rest)) :=
  r_ald X.1 X.2.1 hK hW (cp := 31) (i := 0) Nat.zero_lt_one rfl hin hdg kk
theorem as_31 (X : CX p s m args meth c cc nL ret own) (hK : KK E s) (hW : WD E ad (M, N) H) (hS : va_S (ow E) H0 H locs) {j x : Int32} (hin : ¬ (j < 0 ∨ 6 ≤ j.toNatClampNeg)) {N1 : Mem} (hM : N1 = mp N 31 0 j.toNatClampNeg x) (hdg : decode cc pc = .ok (.iastore, 1)) (kk : ∀ (H1 : Heap) (locs1 : List Loc), WD E ad (M, N1) H1 → va_S (ow E) H0 H1 locs1 → W p l e R s m args below meth c H1 locs1 cells slots Q (F0 m (pc + 1) ls rest)) : W p l e R s m args below meth c H locs cells slots Q (F0 m pc ls (.int x :: .int j :: .ref (ad 31 0) :: rest)) := by
  subst hM
  refine r_ast X.1 X.2.1 hK hW hS (cp := 31) (i := 0) Nat.zero_lt_one rfl (by unfold okp; omega) ?_ hin hdg kk
  have e1 : mp N 31 0 j.toNatClampNeg x 31 0 = upd (N 31 0) j.toNatClampNeg x := mp_upd N 31 0 j.toNatClampNeg x
  show Sum.inl (E.2.1 0, 6, Sum.inl (mp N 31 0 j.toNatClampNeg x 31 0)) = _
  rw [e1]
  rfl
theorem an_31 (X : CX p s m args meth c cc nL ret own) (hK : KK E s) (hW : WD E ad (M, N) H) (hdg : decode cc pc = .ok (.arraylength, 1)) (kk : W p l e R s m args below meth c H locs cells slots Q (F0 m (pc + 1) ls (.int (6) :: rest))) : W p l e R s m args below meth c H locs cells slots Q (F0 m pc ls (.ref (ad 31 0) :: rest)) :=
  r_alen X.1 X.2.1 hK hW (cp := 31) (i := 0) Nat.zero_lt_one 0 rfl rfl (show nI 6 = 6 by decide) hdg kk
theorem al_32 (X : CX p s m args meth c cc nL ret own) (hK : KK E s) (hW : WD E ad (M, N) H) {j : Int32} (hin : ¬ (j < 0 ∨ 6 ≤ j.toNatClampNeg)) (hdg : decode cc pc = .ok (.iaload, 1)) (kk : W p l e R s m args below meth c H locs cells slots Q (F0 m (pc + 1) ls (.int (N 32 0 j.toNatClampNeg) :: rest))) : W p l e R s m args below meth c H locs cells slots Q (F0 m pc ls (.int j :: .ref (ad 32 0) :: rest)) :=
  r_ald X.1 X.2.1 hK hW (cp := 32) (i := 0) Nat.zero_lt_one rfl hin hdg kk
theorem as_32 (X : CX p s m args meth c cc nL ret own) (hK : KK E s) (hW : WD E ad (M, N) H) (hS : va_S (ow E) H0 H locs) {j x : Int32} (hin : ¬ (j < 0 ∨ 6 ≤ j.toNatClampNeg)) {N1 : Mem} (hM : N1 = mp N 32 0 j.toNatClampNeg x) (hdg : decode cc pc = .ok (.iastore, 1)) (kk : ∀ (H1 : Heap) (locs1 : List Loc), WD E ad (M, N1) H1 → va_S (ow E) H0 H1 locs1 → W p l e R s m args below meth c H1 locs1 cells slots Q (F0 m (pc + 1) ls rest)) : W p l e R s m args below meth c H locs cells slots Q (F0 m pc ls (.int x :: .int j :: .ref (ad 32 0) :: rest)) := by
  subst hM
  refine r_ast X.1 X.2.1 hK hW hS (cp := 32) (i := 0) Nat.zero_lt_one rfl (by unfold okp; omega) ?_ hin hdg kk
  have e1 : mp N 32 0 j.toNatClampNeg x 32 0 = upd (N 32 0) j.toNatClampNeg x := mp_upd N 32 0 j.toNatClampNeg x
  show Sum.inl (E.2.1 0, 6, Sum.inl (mp N 32 0 j.toNatClampNeg x 32 0)) = _
  rw [e1]
  rfl
theorem an_32 (X : CX p s m args meth c cc nL ret own) (hK : KK E s) (hW : WD E ad (M, N) H) (hdg : decode cc pc = .ok (.arraylength, 1)) (kk : W p l e R s m args below meth c H locs cells slots Q (F0 m (pc + 1) ls (.int (6) :: rest))) : W p l e R s m args below meth c H locs cells slots Q (F0 m pc ls (.ref (ad 32 0) :: rest)) :=
  r_alen X.1 X.2.1 hK hW (cp := 32) (i := 0) Nat.zero_lt_one 0 rfl rfl (show nI 6 = 6 by decide) hdg kk
theorem al_33 (X : CX p s m args meth c cc nL ret own) (hK : KK E s) (hW : WD E ad (M, N) H) {j : Int32} (hin : ¬ (j < 0 ∨ 6 ≤ j.toNatClampNeg)) (hdg : decode cc pc = .ok (.iaload, 1)) (kk : W p l e R s m args below meth c H locs cells slots Q (F0 m (pc + 1) ls (.int (N 33 0 j.toNatClampNeg) :: rest))) : W p l e R s m args below meth c H locs cells slots Q (F0 m pc ls (.int j :: .ref (ad 33 0) :: rest)) :=
  r_ald X.1 X.2.1 hK hW (cp := 33) (i := 0) Nat.zero_lt_one rfl hin hdg kk
theorem as_33 (X : CX p s m args meth c cc nL ret own) (hK : KK E s) (hW : WD E ad (M, N) H) (hS : va_S (ow E) H0 H locs) {j x : Int32} (hin : ¬ (j < 0 ∨ 6 ≤ j.toNatClampNeg)) {N1 : Mem} (hM : N1 = mp N 33 0 j.toNatClampNeg x) (hdg : decode cc pc = .ok (.iastore, 1)) (kk : ∀ (H1 : Heap) (locs1 : List Loc), WD E ad (M, N1) H1 → va_S (ow E) H0 H1 locs1 → W p l e R s m args below meth c H1 locs1 cells slots Q (F0 m (pc + 1) ls rest)) : W p l e R s m args below meth c H locs cells slots Q (F0 m pc ls (.int x :: .int j :: .ref (ad 33 0) :: rest)) := by
  subst hM
  refine r_ast X.1 X.2.1 hK hW hS (cp := 33) (i := 0) Nat.zero_lt_one rfl (by unfold okp; omega) ?_ hin hdg kk
  have e1 : mp N 33 0 j.toNatClampNeg x 33 0 = upd (N 33 0) j.toNatClampNeg x := mp_upd N 33 0 j.toNatClampNeg x
  show Sum.inl (E.2.1 0, 6, Sum.inl (mp N 33 0 j.toNatClampNeg x 33 0)) = _
  rw [e1]
  rfl
theorem an_33 (X : CX p s m args meth c cc nL ret own) (hK : KK E s) (hW : WD E ad (M, N) H) (hdg : decode cc pc = .ok (.arraylength, 1)) (kk : W p l e R s m args below meth c H locs cells slots Q (F0 m (pc + 1) ls (.int (6) :: rest))) : W p l e R s m args below meth c H locs cells slots Q (F0 m pc ls (.ref (ad 33 0) :: rest)) :=
  r_alen X.1 X.2.1 hK hW (cp := 33) (i := 0) Nat.zero_lt_one 0 rfl rfl (show nI 6 = 6 by decide) hdg kk
theorem al_34 (X : CX p s m args meth c cc nL ret own) (hK : KK E s) (hW : WD E ad (M, N) H) {j : Int32} (hin : ¬ (j < 0 ∨ 6 ≤ j.toNatClampNeg)) (hdg : decode cc pc = .ok (.iaload, 1)) (kk : W p l e R s m args below meth c H locs cells slots Q (F0 m (pc + 1) ls (.int (N 34 0 j.toNatClampNeg) :: rest))) : W p l e R s m args below meth c H locs cells slots Q (F0 m pc ls (.int j :: .ref (ad 34 0) :: rest)) :=
  r_ald X.1 X.2.1 hK hW (cp := 34) (i := 0) Nat.zero_lt_one rfl hin hdg kk
theorem as_34 (X : CX p s m args meth c cc nL ret own) (hK : KK E s) (hW : WD E ad (M, N) H) (hS : va_S (ow E) H0 H locs) {j x : Int32} (hin : ¬ (j < 0 ∨ 6 ≤ j.toNatClampNeg)) {N1 : Mem} (hM : N1 = mp N 34 0 j.toNatClampNeg x) (hdg : decode cc pc = .ok (.iastore, 1)) (kk : ∀ (H1 : Heap) (locs1 : List Loc), WD E ad (M, N1) H1 → va_S (ow E) H0 H1 locs1 → W p l e R s m args below meth c H1 locs1 cells slots Q (F0 m (pc + 1) ls rest)) : W p l e R s m args below meth c H locs cells slots Q (F0 m pc ls (.int x :: .int j :: .ref (ad 34 0) :: rest)) := by
  subst hM
  refine r_ast X.1 X.2.1 hK hW hS (cp := 34) (i := 0) Nat.zero_lt_one rfl (by unfold okp; omega) ?_ hin hdg kk
  have e1 : mp N 34 0 j.toNatClampNeg x 34 0 = upd (N 34 0) j.toNatClampNeg x := mp_upd N 34 0 j.toNatClampNeg x
  show Sum.inl (E.2.1 0, 6, Sum.inl (mp N 34 0 j.toNatClampNeg x 34 0)) = _
  rw [e1]
  rfl
theorem an_34 (X : CX p s m args meth c cc nL ret own) (hK : KK E s) (hW : WD E ad (M, N) H) (hdg : decode cc pc = .ok (.arraylength, 1)) (kk : W p l e R s m args below meth c H locs cells slots Q (F0 m (pc + 1) ls (.int (6) :: rest))) : W p l e R s m args below meth c H locs cells slots Q (F0 m pc ls (.ref (ad 34 0) :: rest)) :=
  r_alen X.1 X.2.1 hK hW (cp := 34) (i := 0) Nat.zero_lt_one 0 rfl rfl (show nI 6 = 6 by decide) hdg kk
theorem al_35 (X : CX p s m args meth c cc nL ret own) (hK : KK E s) (hW : WD E ad (M, N) H) {j : Int32} (hin : ¬ (j < 0 ∨ 6 ≤ j.toNatClampNeg)) (hdg : decode cc pc = .ok (.baload, 1)) (kk : W p l e R s m args below meth c H locs cells slots Q (F0 m (pc + 1) ls (.int (N 35 0 j.toNatClampNeg) :: rest))) : W p l e R s m args below meth c H locs cells slots Q (F0 m pc ls (.int j :: .ref (ad 35 0) :: rest)) :=
  r_zald X.1 X.2.1 hK hW (cp := 35) (i := 0) Nat.zero_lt_one rfl hin hdg kk
theorem as_35 (X : CX p s m args meth c cc nL ret own) (hK : KK E s) (hW : WD E ad (M, N) H) (hS : va_S (ow E) H0 H locs) {j x : Int32} (hx : narrow .boolean (.int x) = .int x) (hin : ¬ (j < 0 ∨ 6 ≤ j.toNatClampNeg)) {N1 : Mem} (hM : N1 = mp N 35 0 j.toNatClampNeg x) (hdg : decode cc pc = .ok (.bastore, 1)) (kk : ∀ (H1 : Heap) (locs1 : List Loc), WD E ad (M, N1) H1 → va_S (ow E) H0 H1 locs1 → W p l e R s m args below meth c H1 locs1 cells slots Q (F0 m (pc + 1) ls rest)) : W p l e R s m args below meth c H locs cells slots Q (F0 m pc ls (.int x :: .int j :: .ref (ad 35 0) :: rest)) := by
  subst hM
  refine r_zast X.1 X.2.1 hK hW hS (cp := 35) (i := 0) Nat.zero_lt_one rfl hx (by unfold okp; omega) ?_ hin hdg kk
  have e1 : mp N 35 0 j.toNatClampNeg x 35 0 = upd (N 35 0) j.toNatClampNeg x := mp_upd N 35 0 j.toNatClampNeg x
  show Sum.inl (E.2.1 1, 6, Sum.inl (mp N 35 0 j.toNatClampNeg x 35 0)) = _
  rw [e1]
  rfl
theorem an_35 (X : CX p s m args meth c cc nL ret own) (hK : KK E s) (hW : WD E ad (M, N) H) (hdg : decode cc pc = .ok (.arraylength, 1)) (kk : W p l e R s m args below meth c H locs cells slots Q (F0 m (pc + 1) ls (.int (6) :: rest))) : W p l e R s m args below meth c H locs cells slots Q (F0 m pc ls (.ref (ad 35 0) :: rest)) :=
  r_alen X.1 X.2.1 hK hW (cp := 35) (i := 0) Nat.zero_lt_one 1 rfl rfl (show nI 6 = 6 by decide) hdg kk
theorem al_36 (X : CX p s m args meth c cc nL ret own) (hK : KK E s) (hW : WD E ad (M, N) H) {j : Int32} (hin : ¬ (j < 0 ∨ 6 ≤ j.toNatClampNeg)) (hdg : decode cc pc = .ok (.baload, 1)) (kk : W p l e R s m args below meth c H locs cells slots Q (F0 m (pc + 1) ls (.int (N 36 0 j.toNatClampNeg) :: rest))) : W p l e R s m args below meth c H locs cells slots Q (F0 m pc ls (.int j :: .ref (ad 36 0) :: rest)) :=
  r_zald X.1 X.2.1 hK hW (cp := 36) (i := 0) Nat.zero_lt_one rfl hin hdg kk
theorem as_36 (X : CX p s m args meth c cc nL ret own) (hK : KK E s) (hW : WD E ad (M, N) H) (hS : va_S (ow E) H0 H locs) {j x : Int32} (hx : narrow .boolean (.int x) = .int x) (hin : ¬ (j < 0 ∨ 6 ≤ j.toNatClampNeg)) {N1 : Mem} (hM : N1 = mp N 36 0 j.toNatClampNeg x) (hdg : decode cc pc = .ok (.bastore, 1)) (kk : ∀ (H1 : Heap) (locs1 : List Loc), WD E ad (M, N1) H1 → va_S (ow E) H0 H1 locs1 → W p l e R s m args below meth c H1 locs1 cells slots Q (F0 m (pc + 1) ls rest)) : W p l e R s m args below meth c H locs cells slots Q (F0 m pc ls (.int x :: .int j :: .ref (ad 36 0) :: rest)) := by
  subst hM
  refine r_zast X.1 X.2.1 hK hW hS (cp := 36) (i := 0) Nat.zero_lt_one rfl hx (by unfold okp; omega) ?_ hin hdg kk
  have e1 : mp N 36 0 j.toNatClampNeg x 36 0 = upd (N 36 0) j.toNatClampNeg x := mp_upd N 36 0 j.toNatClampNeg x
  show Sum.inl (E.2.1 1, 6, Sum.inl (mp N 36 0 j.toNatClampNeg x 36 0)) = _
  rw [e1]
  rfl
theorem an_36 (X : CX p s m args meth c cc nL ret own) (hK : KK E s) (hW : WD E ad (M, N) H) (hdg : decode cc pc = .ok (.arraylength, 1)) (kk : W p l e R s m args below meth c H locs cells slots Q (F0 m (pc + 1) ls (.int (6) :: rest))) : W p l e R s m args below meth c H locs cells slots Q (F0 m pc ls (.ref (ad 36 0) :: rest)) :=
  r_alen X.1 X.2.1 hK hW (cp := 36) (i := 0) Nat.zero_lt_one 1 rfl rfl (show nI 6 = 6 by decide) hdg kk
theorem al_37 (X : CX p s m args meth c cc nL ret own) (hK : KK E s) (hW : WD E ad (M, N) H) {j : Int32} (hin : ¬ (j < 0 ∨ 6 ≤ j.toNatClampNeg)) (hdg : decode cc pc = .ok (.iaload, 1)) (kk : W p l e R s m args below meth c H locs cells slots Q (F0 m (pc + 1) ls (.int (N 37 0 j.toNatClampNeg) :: rest))) : W p l e R s m args below meth c H locs cells slots Q (F0 m pc ls (.int j :: .ref (ad 37 0) :: rest)) :=
  r_ald X.1 X.2.1 hK hW (cp := 37) (i := 0) Nat.zero_lt_one rfl hin hdg kk
theorem as_37 (X : CX p s m args meth c cc nL ret own) (hK : KK E s) (hW : WD E ad (M, N) H) (hS : va_S (ow E) H0 H locs) {j x : Int32} (hin : ¬ (j < 0 ∨ 6 ≤ j.toNatClampNeg)) {N1 : Mem} (hM : N1 = mp N 37 0 j.toNatClampNeg x) (hdg : decode cc pc = .ok (.iastore, 1)) (kk : ∀ (H1 : Heap) (locs1 : List Loc), WD E ad (M, N1) H1 → va_S (ow E) H0 H1 locs1 → W p l e R s m args below meth c H1 locs1 cells slots Q (F0 m (pc + 1) ls rest)) : W p l e R s m args below meth c H locs cells slots Q (F0 m pc ls (.int x :: .int j :: .ref (ad 37 0) :: rest)) := by
  subst hM
  refine r_ast X.1 X.2.1 hK hW hS (cp := 37) (i := 0) Nat.zero_lt_one rfl (by unfold okp; omega) ?_ hin hdg kk
  have e1 : mp N 37 0 j.toNatClampNeg x 37 0 = upd (N 37 0) j.toNatClampNeg x := mp_upd N 37 0 j.toNatClampNeg x
  show Sum.inl (E.2.1 0, 6, Sum.inl (mp N 37 0 j.toNatClampNeg x 37 0)) = _
  rw [e1]
  rfl
theorem an_37 (X : CX p s m args meth c cc nL ret own) (hK : KK E s) (hW : WD E ad (M, N) H) (hdg : decode cc pc = .ok (.arraylength, 1)) (kk : W p l e R s m args below meth c H locs cells slots Q (F0 m (pc + 1) ls (.int (6) :: rest))) : W p l e R s m args below meth c H locs cells slots Q (F0 m pc ls (.ref (ad 37 0) :: rest)) :=
  r_alen X.1 X.2.1 hK hW (cp := 37) (i := 0) Nat.zero_lt_one 0 rfl rfl (show nI 6 = 6 by decide) hdg kk
theorem al_38 (X : CX p s m args meth c cc nL ret own) (hK : KK E s) (hW : WD E ad (M, N) H) {j : Int32} (hin : ¬ (j < 0 ∨ 6 ≤ j.toNatClampNeg)) (hdg : decode cc pc = .ok (.iaload, 1)) (kk : W p l e R s m args below meth c H locs cells slots Q (F0 m (pc + 1) ls (.int (N 38 0 j.toNatClampNeg) :: rest))) : W p l e R s m args below meth c H locs cells slots Q (F0 m pc ls (.int j :: .ref (ad 38 0) :: rest)) :=
  r_ald X.1 X.2.1 hK hW (cp := 38) (i := 0) Nat.zero_lt_one rfl hin hdg kk
theorem as_38 (X : CX p s m args meth c cc nL ret own) (hK : KK E s) (hW : WD E ad (M, N) H) (hS : va_S (ow E) H0 H locs) {j x : Int32} (hin : ¬ (j < 0 ∨ 6 ≤ j.toNatClampNeg)) {N1 : Mem} (hM : N1 = mp N 38 0 j.toNatClampNeg x) (hdg : decode cc pc = .ok (.iastore, 1)) (kk : ∀ (H1 : Heap) (locs1 : List Loc), WD E ad (M, N1) H1 → va_S (ow E) H0 H1 locs1 → W p l e R s m args below meth c H1 locs1 cells slots Q (F0 m (pc + 1) ls rest)) : W p l e R s m args below meth c H locs cells slots Q (F0 m pc ls (.int x :: .int j :: .ref (ad 38 0) :: rest)) := by
  subst hM
  refine r_ast X.1 X.2.1 hK hW hS (cp := 38) (i := 0) Nat.zero_lt_one rfl (by unfold okp; omega) ?_ hin hdg kk
  have e1 : mp N 38 0 j.toNatClampNeg x 38 0 = upd (N 38 0) j.toNatClampNeg x := mp_upd N 38 0 j.toNatClampNeg x
  show Sum.inl (E.2.1 0, 6, Sum.inl (mp N 38 0 j.toNatClampNeg x 38 0)) = _
  rw [e1]
  rfl
theorem an_38 (X : CX p s m args meth c cc nL ret own) (hK : KK E s) (hW : WD E ad (M, N) H) (hdg : decode cc pc = .ok (.arraylength, 1)) (kk : W p l e R s m args below meth c H locs cells slots Q (F0 m (pc + 1) ls (.int (6) :: rest))) : W p l e R s m args below meth c H locs cells slots Q (F0 m pc ls (.ref (ad 38 0) :: rest)) :=
  r_alen X.1 X.2.1 hK hW (cp := 38) (i := 0) Nat.zero_lt_one 0 rfl rfl (show nI 6 = 6 by decide) hdg kk
theorem al_39 (X : CX p s m args meth c cc nL ret own) (hK : KK E s) (hW : WD E ad (M, N) H) {j : Int32} (hin : ¬ (j < 0 ∨ 6 ≤ j.toNatClampNeg)) (hdg : decode cc pc = .ok (.iaload, 1)) (kk : W p l e R s m args below meth c H locs cells slots Q (F0 m (pc + 1) ls (.int (N 39 0 j.toNatClampNeg) :: rest))) : W p l e R s m args below meth c H locs cells slots Q (F0 m pc ls (.int j :: .ref (ad 39 0) :: rest)) :=
  r_ald X.1 X.2.1 hK hW (cp := 39) (i := 0) Nat.zero_lt_one rfl hin hdg kk
theorem as_39 (X : CX p s m args meth c cc nL ret own) (hK : KK E s) (hW : WD E ad (M, N) H) (hS : va_S (ow E) H0 H locs) {j x : Int32} (hin : ¬ (j < 0 ∨ 6 ≤ j.toNatClampNeg)) {N1 : Mem} (hM : N1 = mp N 39 0 j.toNatClampNeg x) (hdg : decode cc pc = .ok (.iastore, 1)) (kk : ∀ (H1 : Heap) (locs1 : List Loc), WD E ad (M, N1) H1 → va_S (ow E) H0 H1 locs1 → W p l e R s m args below meth c H1 locs1 cells slots Q (F0 m (pc + 1) ls rest)) : W p l e R s m args below meth c H locs cells slots Q (F0 m pc ls (.int x :: .int j :: .ref (ad 39 0) :: rest)) := by
  subst hM
  refine r_ast X.1 X.2.1 hK hW hS (cp := 39) (i := 0) Nat.zero_lt_one rfl (by unfold okp; omega) ?_ hin hdg kk
  have e1 : mp N 39 0 j.toNatClampNeg x 39 0 = upd (N 39 0) j.toNatClampNeg x := mp_upd N 39 0 j.toNatClampNeg x
  show Sum.inl (E.2.1 0, 6, Sum.inl (mp N 39 0 j.toNatClampNeg x 39 0)) = _
  rw [e1]
  rfl
theorem an_39 (X : CX p s m args meth c cc nL ret own) (hK : KK E s) (hW : WD E ad (M, N) H) (hdg : decode cc pc = .ok (.arraylength, 1)) (kk : W p l e R s m args below meth c H locs cells slots Q (F0 m (pc + 1) ls (.int (6) :: rest))) : W p l e R s m args below meth c H locs cells slots Q (F0 m pc ls (.ref (ad 39 0) :: rest)) :=
  r_alen X.1 X.2.1 hK hW (cp := 39) (i := 0) Nat.zero_lt_one 0 rfl rfl (show nI 6 = 6 by decide) hdg kk
theorem al_40 (X : CX p s m args meth c cc nL ret own) (hK : KK E s) (hW : WD E ad (M, N) H) {j : Int32} (hin : ¬ (j < 0 ∨ 6 ≤ j.toNatClampNeg)) (hdg : decode cc pc = .ok (.iaload, 1)) (kk : W p l e R s m args below meth c H locs cells slots Q (F0 m (pc + 1) ls (.int (N 40 0 j.toNatClampNeg) :: rest))) : W p l e R s m args below meth c H locs cells slots Q (F0 m pc ls (.int j :: .ref (ad 40 0) :: rest)) :=
  r_ald X.1 X.2.1 hK hW (cp := 40) (i := 0) Nat.zero_lt_one rfl hin hdg kk
theorem as_40 (X : CX p s m args meth c cc nL ret own) (hK : KK E s) (hW : WD E ad (M, N) H) (hS : va_S (ow E) H0 H locs) {j x : Int32} (hin : ¬ (j < 0 ∨ 6 ≤ j.toNatClampNeg)) {N1 : Mem} (hM : N1 = mp N 40 0 j.toNatClampNeg x) (hdg : decode cc pc = .ok (.iastore, 1)) (kk : ∀ (H1 : Heap) (locs1 : List Loc), WD E ad (M, N1) H1 → va_S (ow E) H0 H1 locs1 → W p l e R s m args below meth c H1 locs1 cells slots Q (F0 m (pc + 1) ls rest)) : W p l e R s m args below meth c H locs cells slots Q (F0 m pc ls (.int x :: .int j :: .ref (ad 40 0) :: rest)) := by
  subst hM
  refine r_ast X.1 X.2.1 hK hW hS (cp := 40) (i := 0) Nat.zero_lt_one rfl (by unfold okp; omega) ?_ hin hdg kk
  have e1 : mp N 40 0 j.toNatClampNeg x 40 0 = upd (N 40 0) j.toNatClampNeg x := mp_upd N 40 0 j.toNatClampNeg x
  show Sum.inl (E.2.1 0, 6, Sum.inl (mp N 40 0 j.toNatClampNeg x 40 0)) = _
  rw [e1]
  rfl
theorem an_40 (X : CX p s m args meth c cc nL ret own) (hK : KK E s) (hW : WD E ad (M, N) H) (hdg : decode cc pc = .ok (.arraylength, 1)) (kk : W p l e R s m args below meth c H locs cells slots Q (F0 m (pc + 1) ls (.int (6) :: rest))) : W p l e R s m args below meth c H locs cells slots Q (F0 m pc ls (.ref (ad 40 0) :: rest)) :=
  r_alen X.1 X.2.1 hK hW (cp := 40) (i := 0) Nat.zero_lt_one 0 rfl rfl (show nI 6 = 6 by decide) hdg kk
theorem al_41 (X : CX p s m args meth c cc nL ret own) (hK : KK E s) (hW : WD E ad (M, N) H) {j : Int32} (hin : ¬ (j < 0 ∨ 6 ≤ j.toNatClampNeg)) (hdg : decode cc pc = .ok (.iaload, 1)) (kk : W p l e R s m args below meth c H locs cells slots Q (F0 m (pc + 1) ls (.int (N 41 0 j.toNatClampNeg) :: rest))) : W p l e R s m args below meth c H locs cells slots Q (F0 m pc ls (.int j :: .ref (ad 41 0) :: rest)) :=
  r_ald X.1 X.2.1 hK hW (cp := 41) (i := 0) Nat.zero_lt_one rfl hin hdg kk
theorem as_41 (X : CX p s m args meth c cc nL ret own) (hK : KK E s) (hW : WD E ad (M, N) H) (hS : va_S (ow E) H0 H locs) {j x : Int32} (hin : ¬ (j < 0 ∨ 6 ≤ j.toNatClampNeg)) {N1 : Mem} (hM : N1 = mp N 41 0 j.toNatClampNeg x) (hdg : decode cc pc = .ok (.iastore, 1)) (kk : ∀ (H1 : Heap) (locs1 : List Loc), WD E ad (M, N1) H1 → va_S (ow E) H0 H1 locs1 → W p l e R s m args below meth c H1 locs1 cells slots Q (F0 m (pc + 1) ls rest)) : W p l e R s m args below meth c H locs cells slots Q (F0 m pc ls (.int x :: .int j :: .ref (ad 41 0) :: rest)) := by
  subst hM
  refine r_ast X.1 X.2.1 hK hW hS (cp := 41) (i := 0) Nat.zero_lt_one rfl (by unfold okp; omega) ?_ hin hdg kk
  have e1 : mp N 41 0 j.toNatClampNeg x 41 0 = upd (N 41 0) j.toNatClampNeg x := mp_upd N 41 0 j.toNatClampNeg x
  show Sum.inl (E.2.1 0, 6, Sum.inl (mp N 41 0 j.toNatClampNeg x 41 0)) = _
  rw [e1]
  rfl
theorem an_41 (X : CX p s m args meth c cc nL ret own) (hK : KK E s) (hW : WD E ad (M, N) H) (hdg : decode cc pc = .ok (.arraylength, 1)) (kk : W p l e R s m args below meth c H locs cells slots Q (F0 m (pc + 1) ls (.int (6) :: rest))) : W p l e R s m args below meth c H locs cells slots Q (F0 m pc ls (.ref (ad 41 0) :: rest)) :=
  r_alen X.1 X.2.1 hK hW (cp := 41) (i := 0) Nat.zero_lt_one 0 rfl rfl (show nI 6 = 6 by decide) hdg kk
theorem al_42 (X : CX p s m args meth c cc nL ret own) (hK : KK E s) (hW : WD E ad (M, N) H) {j : Int32} (hin : ¬ (j < 0 ∨ 6 ≤ j.toNatClampNeg)) (hdg : decode cc pc = .ok (.iaload, 1)) (kk : W p l e R s m args below meth c H locs cells slots Q (F0 m (pc + 1) ls (.int (N 42 0 j.toNatClampNeg) :: rest))) : W p l e R s m args below meth c H locs cells slots Q (F0 m pc ls (.int j :: .ref (ad 42 0) :: rest)) :=
  r_ald X.1 X.2.1 hK hW (cp := 42) (i := 0) Nat.zero_lt_one rfl hin hdg kk
theorem as_42 (X : CX p s m args meth c cc nL ret own) (hK : KK E s) (hW : WD E ad (M, N) H) (hS : va_S (ow E) H0 H locs) {j x : Int32} (hin : ¬ (j < 0 ∨ 6 ≤ j.toNatClampNeg)) {N1 : Mem} (hM : N1 = mp N 42 0 j.toNatClampNeg x) (hdg : decode cc pc = .ok (.iastore, 1)) (kk : ∀ (H1 : Heap) (locs1 : List Loc), WD E ad (M, N1) H1 → va_S (ow E) H0 H1 locs1 → W p l e R s m args below meth c H1 locs1 cells slots Q (F0 m (pc + 1) ls rest)) : W p l e R s m args below meth c H locs cells slots Q (F0 m pc ls (.int x :: .int j :: .ref (ad 42 0) :: rest)) := by
  subst hM
  refine r_ast X.1 X.2.1 hK hW hS (cp := 42) (i := 0) Nat.zero_lt_one rfl (by unfold okp; omega) ?_ hin hdg kk
  have e1 : mp N 42 0 j.toNatClampNeg x 42 0 = upd (N 42 0) j.toNatClampNeg x := mp_upd N 42 0 j.toNatClampNeg x
  show Sum.inl (E.2.1 0, 6, Sum.inl (mp N 42 0 j.toNatClampNeg x 42 0)) = _
  rw [e1]
  rfl
theorem an_42 (X : CX p s m args meth c cc nL ret own) (hK : KK E s) (hW : WD E ad (M, N) H) (hdg : decode cc pc = .ok (.arraylength, 1)) (kk : W p l e R s m args below meth c H locs cells slots Q (F0 m (pc + 1) ls (.int (6) :: rest))) : W p l e R s m args below meth c H locs cells slots Q (F0 m pc ls (.ref (ad 42 0) :: rest)) :=
  r_alen X.1 X.2.1 hK hW (cp := 42) (i := 0) Nat.zero_lt_one 0 rfl rfl (show nI 6 = 6 by decide) hdg kk
theorem al_43 (X : CX p s m args meth c cc nL ret own) (hK : KK E s) (hW : WD E ad (M, N) H) {j : Int32} (hin : ¬ (j < 0 ∨ 6 ≤ j.toNatClampNeg)) (hdg : decode cc pc = .ok (.iaload, 1)) (kk : W p l e R s m args below meth c H locs cells slots Q (F0 m (pc + 1) ls (.int (N 43 0 j.toNatClampNeg) :: rest))) : W p l e R s m args below meth c H locs cells slots Q (F0 m pc ls (.int j :: .ref (ad 43 0) :: rest)) :=
  r_ald X.1 X.2.1 hK hW (cp := 43) (i := 0) Nat.zero_lt_one rfl hin hdg kk
theorem as_43 (X : CX p s m args meth c cc nL ret own) (hK : KK E s) (hW : WD E ad (M, N) H) (hS : va_S (ow E) H0 H locs) {j x : Int32} (hin : ¬ (j < 0 ∨ 6 ≤ j.toNatClampNeg)) {N1 : Mem} (hM : N1 = mp N 43 0 j.toNatClampNeg x) (hdg : decode cc pc = .ok (.iastore, 1)) (kk : ∀ (H1 : Heap) (locs1 : List Loc), WD E ad (M, N1) H1 → va_S (ow E) H0 H1 locs1 → W p l e R s m args below meth c H1 locs1 cells slots Q (F0 m (pc + 1) ls rest)) : W p l e R s m args below meth c H locs cells slots Q (F0 m pc ls (.int x :: .int j :: .ref (ad 43 0) :: rest)) := by
  subst hM
  refine r_ast X.1 X.2.1 hK hW hS (cp := 43) (i := 0) Nat.zero_lt_one rfl (by unfold okp; omega) ?_ hin hdg kk
  have e1 : mp N 43 0 j.toNatClampNeg x 43 0 = upd (N 43 0) j.toNatClampNeg x := mp_upd N 43 0 j.toNatClampNeg x
  show Sum.inl (E.2.1 0, 6, Sum.inl (mp N 43 0 j.toNatClampNeg x 43 0)) = _
  rw [e1]
  rfl
theorem an_43 (X : CX p s m args meth c cc nL ret own) (hK : KK E s) (hW : WD E ad (M, N) H) (hdg : decode cc pc = .ok (.arraylength, 1)) (kk : W p l e R s m args below meth c H locs cells slots Q (F0 m (pc + 1) ls (.int (6) :: rest))) : W p l e R s m args below meth c H locs cells slots Q (F0 m pc ls (.ref (ad 43 0) :: rest)) :=
  r_alen X.1 X.2.1 hK hW (cp := 43) (i := 0) Nat.zero_lt_one 0 rfl rfl (show nI 6 = 6 by decide) hdg kk
theorem al_44 (X : CX p s m args meth c cc nL ret own) (hK : KK E s) (hW : WD E ad (M, N) H) {j : Int32} (hin : ¬ (j < 0 ∨ 6 ≤ j.toNatClampNeg)) (hdg : decode cc pc = .ok (.iaload, 1)) (kk : W p l e R s m args below meth c H locs cells slots Q (F0 m (pc + 1) ls (.int (N 44 0 j.toNatClampNeg) :: rest))) : W p l e R s m args below meth c H locs cells slots Q (F0 m pc ls (.int j :: .ref (ad 44 0) :: rest)) :=
  r_ald X.1 X.2.1 hK hW (cp := 44) (i := 0) Nat.zero_lt_one rfl hin hdg kk
theorem as_44 (X : CX p s m args meth c cc nL ret own) (hK : KK E s) (hW : WD E ad (M, N) H) (hS : va_S (ow E) H0 H locs) {j x : Int32} (hin : ¬ (j < 0 ∨ 6 ≤ j.toNatClampNeg)) {N1 : Mem} (hM : N1 = mp N 44 0 j.toNatClampNeg x) (hdg : decode cc pc = .ok (.iastore, 1)) (kk : ∀ (H1 : Heap) (locs1 : List Loc), WD E ad (M, N1) H1 → va_S (ow E) H0 H1 locs1 → W p l e R s m args below meth c H1 locs1 cells slots Q (F0 m (pc + 1) ls rest)) : W p l e R s m args below meth c H locs cells slots Q (F0 m pc ls (.int x :: .int j :: .ref (ad 44 0) :: rest)) := by
  subst hM
  refine r_ast X.1 X.2.1 hK hW hS (cp := 44) (i := 0) Nat.zero_lt_one rfl (by unfold okp; omega) ?_ hin hdg kk
  have e1 : mp N 44 0 j.toNatClampNeg x 44 0 = upd (N 44 0) j.toNatClampNeg x := mp_upd N 44 0 j.toNatClampNeg x
  show Sum.inl (E.2.1 0, 6, Sum.inl (mp N 44 0 j.toNatClampNeg x 44 0)) = _
  rw [e1]
  rfl
theorem an_44 (X : CX p s m args meth c cc nL ret own) (hK : KK E s) (hW : WD E ad (M, N) H) (hdg : decode cc pc = .ok (.arraylength, 1)) (kk : W p l e R s m args below meth c H locs cells slots Q (F0 m (pc + 1) ls (.int (6) :: rest))) : W p l e R s m args below meth c H locs cells slots Q (F0 m pc ls (.ref (ad 44 0) :: rest)) :=
  r_alen X.1 X.2.1 hK hW (cp := 44) (i := 0) Nat.zero_lt_one 0 rfl rfl (show nI 6 = 6 by decide) hdg kk
theorem al_45 (X : CX p s m args meth c cc nL ret own) (hK : KK E s) (hW : WD E ad (M, N) H) {j : Int32} (hin : ¬ (j < 0 ∨ 6 ≤ j.toNatClampNeg)) (hdg : decode cc pc = .ok (.iaload, 1)) (kk : W p l e R s m args below meth c H locs cells slots Q (F0 m (pc + 1) ls (.int (N 45 0 j.toNatClampNeg) :: rest))) : W p l e R s m args below meth c H locs cells slots Q (F0 m pc ls (.int j :: .ref (ad 45 0) :: rest)) :=
  r_ald X.1 X.2.1 hK hW (cp := 45) (i := 0) Nat.zero_lt_one rfl hin hdg kk
theorem as_45 (X : CX p s m args meth c cc nL ret own) (hK : KK E s) (hW : WD E ad (M, N) H) (hS : va_S (ow E) H0 H locs) {j x : Int32} (hin : ¬ (j < 0 ∨ 6 ≤ j.toNatClampNeg)) {N1 : Mem} (hM : N1 = mp N 45 0 j.toNatClampNeg x) (hdg : decode cc pc = .ok (.iastore, 1)) (kk : ∀ (H1 : Heap) (locs1 : List Loc), WD E ad (M, N1) H1 → va_S (ow E) H0 H1 locs1 → W p l e R s m args below meth c H1 locs1 cells slots Q (F0 m (pc + 1) ls rest)) : W p l e R s m args below meth c H locs cells slots Q (F0 m pc ls (.int x :: .int j :: .ref (ad 45 0) :: rest)) := by
  subst hM
  refine r_ast X.1 X.2.1 hK hW hS (cp := 45) (i := 0) Nat.zero_lt_one rfl (by unfold okp; omega) ?_ hin hdg kk
  have e1 : mp N 45 0 j.toNatClampNeg x 45 0 = upd (N 45 0) j.toNatClampNeg x := mp_upd N 45 0 j.toNatClampNeg x
  show Sum.inl (E.2.1 0, 6, Sum.inl (mp N 45 0 j.toNatClampNeg x 45 0)) = _
  rw [e1]
  rfl
theorem an_45 (X : CX p s m args meth c cc nL ret own) (hK : KK E s) (hW : WD E ad (M, N) H) (hdg : decode cc pc = .ok (.arraylength, 1)) (kk : W p l e R s m args below meth c H locs cells slots Q (F0 m (pc + 1) ls (.int (6) :: rest))) : W p l e R s m args below meth c H locs cells slots Q (F0 m pc ls (.ref (ad 45 0) :: rest)) :=
  r_alen X.1 X.2.1 hK hW (cp := 45) (i := 0) Nat.zero_lt_one 0 rfl rfl (show nI 6 = 6 by decide) hdg kk
theorem al_46 (X : CX p s m args meth c cc nL ret own) (hK : KK E s) (hW : WD E ad (M, N) H) {j : Int32} (hin : ¬ (j < 0 ∨ 6 ≤ j.toNatClampNeg)) (hdg : decode cc pc = .ok (.iaload, 1)) (kk : W p l e R s m args below meth c H locs cells slots Q (F0 m (pc + 1) ls (.int (N 46 0 j.toNatClampNeg) :: rest))) : W p l e R s m args below meth c H locs cells slots Q (F0 m pc ls (.int j :: .ref (ad 46 0) :: rest)) :=
  r_ald X.1 X.2.1 hK hW (cp := 46) (i := 0) Nat.zero_lt_one rfl hin hdg kk
theorem as_46 (X : CX p s m args meth c cc nL ret own) (hK : KK E s) (hW : WD E ad (M, N) H) (hS : va_S (ow E) H0 H locs) {j x : Int32} (hin : ¬ (j < 0 ∨ 6 ≤ j.toNatClampNeg)) {N1 : Mem} (hM : N1 = mp N 46 0 j.toNatClampNeg x) (hdg : decode cc pc = .ok (.iastore, 1)) (kk : ∀ (H1 : Heap) (locs1 : List Loc), WD E ad (M, N1) H1 → va_S (ow E) H0 H1 locs1 → W p l e R s m args below meth c H1 locs1 cells slots Q (F0 m (pc + 1) ls rest)) : W p l e R s m args below meth c H locs cells slots Q (F0 m pc ls (.int x :: .int j :: .ref (ad 46 0) :: rest)) := by
  subst hM
  refine r_ast X.1 X.2.1 hK hW hS (cp := 46) (i := 0) Nat.zero_lt_one rfl (by unfold okp; omega) ?_ hin hdg kk
  have e1 : mp N 46 0 j.toNatClampNeg x 46 0 = upd (N 46 0) j.toNatClampNeg x := mp_upd N 46 0 j.toNatClampNeg x
  show Sum.inl (E.2.1 0, 6, Sum.inl (mp N 46 0 j.toNatClampNeg x 46 0)) = _
  rw [e1]
  rfl
theorem an_46 (X : CX p s m args meth c cc nL ret own) (hK : KK E s) (hW : WD E ad (M, N) H) (hdg : decode cc pc = .ok (.arraylength, 1)) (kk : W p l e R s m args below meth c H locs cells slots Q (F0 m (pc + 1) ls (.int (6) :: rest))) : W p l e R s m args below meth c H locs cells slots Q (F0 m pc ls (.ref (ad 46 0) :: rest)) :=
  r_alen X.1 X.2.1 hK hW (cp := 46) (i := 0) Nat.zero_lt_one 0 rfl rfl (show nI 6 = 6 by decide) hdg kk
theorem al_47 (X : CX p s m args meth c cc nL ret own) (hK : KK E s) (hW : WD E ad (M, N) H) {j : Int32} (hin : ¬ (j < 0 ∨ 48 ≤ j.toNatClampNeg)) (hdg : decode cc pc = .ok (.iaload, 1)) (kk : W p l e R s m args below meth c H locs cells slots Q (F0 m (pc + 1) ls (.int (N 47 0 j.toNatClampNeg) :: rest))) : W p l e R s m args below meth c H locs cells slots Q (F0 m pc ls (.int j :: .ref (ad 47 0) :: rest)) :=
  r_ald X.1 X.2.1 hK hW (cp := 47) (i := 0) Nat.zero_lt_one rfl hin hdg kk
theorem as_47 (X : CX p s m args meth c cc nL ret own) (hK : KK E s) (hW : WD E ad (M, N) H) (hS : va_S (ow E) H0 H locs) {j x : Int32} (hin : ¬ (j < 0 ∨ 48 ≤ j.toNatClampNeg)) {N1 : Mem} (hM : N1 = mp N 47 0 j.toNatClampNeg x) (hdg : decode cc pc = .ok (.iastore, 1)) (kk : ∀ (H1 : Heap) (locs1 : List Loc), WD E ad (M, N1) H1 → va_S (ow E) H0 H1 locs1 → W p l e R s m args below meth c H1 locs1 cells slots Q (F0 m (pc + 1) ls rest)) : W p l e R s m args below meth c H locs cells slots Q (F0 m pc ls (.int x :: .int j :: .ref (ad 47 0) :: rest)) := by
  subst hM
  refine r_ast X.1 X.2.1 hK hW hS (cp := 47) (i := 0) Nat.zero_lt_one rfl (by unfold okp; omega) ?_ hin hdg kk
  have e1 : mp N 47 0 j.toNatClampNeg x 47 0 = upd (N 47 0) j.toNatClampNeg x := mp_upd N 47 0 j.toNatClampNeg x
  show Sum.inl (E.2.1 0, 48, Sum.inl (mp N 47 0 j.toNatClampNeg x 47 0)) = _
  rw [e1]
  rfl
theorem an_47 (X : CX p s m args meth c cc nL ret own) (hK : KK E s) (hW : WD E ad (M, N) H) (hdg : decode cc pc = .ok (.arraylength, 1)) (kk : W p l e R s m args below meth c H locs cells slots Q (F0 m (pc + 1) ls (.int (48) :: rest))) : W p l e R s m args below meth c H locs cells slots Q (F0 m pc ls (.ref (ad 47 0) :: rest)) :=
  r_alen X.1 X.2.1 hK hW (cp := 47) (i := 0) Nat.zero_lt_one 0 rfl rfl (show nI 48 = 48 by decide) hdg kk
theorem al_48 (X : CX p s m args meth c cc nL ret own) (hK : KK E s) (hW : WD E ad (M, N) H) {j : Int32} (hin : ¬ (j < 0 ∨ 48 ≤ j.toNatClampNeg)) (hdg : decode cc pc = .ok (.iaload, 1)) (kk : W p l e R s m args below meth c H locs cells slots Q (F0 m (pc + 1) ls (.int (N 48 0 j.toNatClampNeg) :: rest))) : W p l e R s m args below meth c H locs cells slots Q (F0 m pc ls (.int j :: .ref (ad 48 0) :: rest)) :=
  r_ald X.1 X.2.1 hK hW (cp := 48) (i := 0) Nat.zero_lt_one rfl hin hdg kk
theorem as_48 (X : CX p s m args meth c cc nL ret own) (hK : KK E s) (hW : WD E ad (M, N) H) (hS : va_S (ow E) H0 H locs) {j x : Int32} (hin : ¬ (j < 0 ∨ 48 ≤ j.toNatClampNeg)) {N1 : Mem} (hM : N1 = mp N 48 0 j.toNatClampNeg x) (hdg : decode cc pc = .ok (.iastore, 1)) (kk : ∀ (H1 : Heap) (locs1 : List Loc), WD E ad (M, N1) H1 → va_S (ow E) H0 H1 locs1 → W p l e R s m args below meth c H1 locs1 cells slots Q (F0 m (pc + 1) ls rest)) : W p l e R s m args below meth c H locs cells slots Q (F0 m pc ls (.int x :: .int j :: .ref (ad 48 0) :: rest)) := by
  subst hM
  refine r_ast X.1 X.2.1 hK hW hS (cp := 48) (i := 0) Nat.zero_lt_one rfl (by unfold okp; omega) ?_ hin hdg kk
  have e1 : mp N 48 0 j.toNatClampNeg x 48 0 = upd (N 48 0) j.toNatClampNeg x := mp_upd N 48 0 j.toNatClampNeg x
  show Sum.inl (E.2.1 0, 48, Sum.inl (mp N 48 0 j.toNatClampNeg x 48 0)) = _
  rw [e1]
  rfl
theorem an_48 (X : CX p s m args meth c cc nL ret own) (hK : KK E s) (hW : WD E ad (M, N) H) (hdg : decode cc pc = .ok (.arraylength, 1)) (kk : W p l e R s m args below meth c H locs cells slots Q (F0 m (pc + 1) ls (.int (48) :: rest))) : W p l e R s m args below meth c H locs cells slots Q (F0 m pc ls (.ref (ad 48 0) :: rest)) :=
  r_alen X.1 X.2.1 hK hW (cp := 48) (i := 0) Nat.zero_lt_one 0 rfl rfl (show nI 48 = 48 by decide) hdg kk
theorem al_49 (X : CX p s m args meth c cc nL ret own) (hK : KK E s) (hW : WD E ad (M, N) H) {j : Int32} (hin : ¬ (j < 0 ∨ 36 ≤ j.toNatClampNeg)) (hdg : decode cc pc = .ok (.iaload, 1)) (kk : W p l e R s m args below meth c H locs cells slots Q (F0 m (pc + 1) ls (.int (N 49 0 j.toNatClampNeg) :: rest))) : W p l e R s m args below meth c H locs cells slots Q (F0 m pc ls (.int j :: .ref (ad 49 0) :: rest)) :=
  r_ald X.1 X.2.1 hK hW (cp := 49) (i := 0) Nat.zero_lt_one rfl hin hdg kk
theorem as_49 (X : CX p s m args meth c cc nL ret own) (hK : KK E s) (hW : WD E ad (M, N) H) (hS : va_S (ow E) H0 H locs) {j x : Int32} (hin : ¬ (j < 0 ∨ 36 ≤ j.toNatClampNeg)) {N1 : Mem} (hM : N1 = mp N 49 0 j.toNatClampNeg x) (hdg : decode cc pc = .ok (.iastore, 1)) (kk : ∀ (H1 : Heap) (locs1 : List Loc), WD E ad (M, N1) H1 → va_S (ow E) H0 H1 locs1 → W p l e R s m args below meth c H1 locs1 cells slots Q (F0 m (pc + 1) ls rest)) : W p l e R s m args below meth c H locs cells slots Q (F0 m pc ls (.int x :: .int j :: .ref (ad 49 0) :: rest)) := by
  subst hM
  refine r_ast X.1 X.2.1 hK hW hS (cp := 49) (i := 0) Nat.zero_lt_one rfl (by unfold okp; omega) ?_ hin hdg kk
  have e1 : mp N 49 0 j.toNatClampNeg x 49 0 = upd (N 49 0) j.toNatClampNeg x := mp_upd N 49 0 j.toNatClampNeg x
  show Sum.inl (E.2.1 0, 36, Sum.inl (mp N 49 0 j.toNatClampNeg x 49 0)) = _
  rw [e1]
  rfl
theorem an_49 (X : CX p s m args meth c cc nL ret own) (hK : KK E s) (hW : WD E ad (M, N) H) (hdg : decode cc pc = .ok (.arraylength, 1)) (kk : W p l e R s m args below meth c H locs cells slots Q (F0 m (pc + 1) ls (.int (36) :: rest))) : W p l e R s m args below meth c H locs cells slots Q (F0 m pc ls (.ref (ad 49 0) :: rest)) :=
  r_alen X.1 X.2.1 hK hW (cp := 49) (i := 0) Nat.zero_lt_one 0 rfl rfl (show nI 36 = 36 by decide) hdg kk
theorem al_50 (X : CX p s m args meth c cc nL ret own) (hK : KK E s) (hW : WD E ad (M, N) H) {j : Int32} (hin : ¬ (j < 0 ∨ 36 ≤ j.toNatClampNeg)) (hdg : decode cc pc = .ok (.iaload, 1)) (kk : W p l e R s m args below meth c H locs cells slots Q (F0 m (pc + 1) ls (.int (N 50 0 j.toNatClampNeg) :: rest))) : W p l e R s m args below meth c H locs cells slots Q (F0 m pc ls (.int j :: .ref (ad 50 0) :: rest)) :=
  r_ald X.1 X.2.1 hK hW (cp := 50) (i := 0) Nat.zero_lt_one rfl hin hdg kk
theorem as_50 (X : CX p s m args meth c cc nL ret own) (hK : KK E s) (hW : WD E ad (M, N) H) (hS : va_S (ow E) H0 H locs) {j x : Int32} (hin : ¬ (j < 0 ∨ 36 ≤ j.toNatClampNeg)) {N1 : Mem} (hM : N1 = mp N 50 0 j.toNatClampNeg x) (hdg : decode cc pc = .ok (.iastore, 1)) (kk : ∀ (H1 : Heap) (locs1 : List Loc), WD E ad (M, N1) H1 → va_S (ow E) H0 H1 locs1 → W p l e R s m args below meth c H1 locs1 cells slots Q (F0 m (pc + 1) ls rest)) : W p l e R s m args below meth c H locs cells slots Q (F0 m pc ls (.int x :: .int j :: .ref (ad 50 0) :: rest)) := by
  subst hM
  refine r_ast X.1 X.2.1 hK hW hS (cp := 50) (i := 0) Nat.zero_lt_one rfl (by unfold okp; omega) ?_ hin hdg kk
  have e1 : mp N 50 0 j.toNatClampNeg x 50 0 = upd (N 50 0) j.toNatClampNeg x := mp_upd N 50 0 j.toNatClampNeg x
  show Sum.inl (E.2.1 0, 36, Sum.inl (mp N 50 0 j.toNatClampNeg x 50 0)) = _
  rw [e1]
  rfl
theorem an_50 (X : CX p s m args meth c cc nL ret own) (hK : KK E s) (hW : WD E ad (M, N) H) (hdg : decode cc pc = .ok (.arraylength, 1)) (kk : W p l e R s m args below meth c H locs cells slots Q (F0 m (pc + 1) ls (.int (36) :: rest))) : W p l e R s m args below meth c H locs cells slots Q (F0 m pc ls (.ref (ad 50 0) :: rest)) :=
  r_alen X.1 X.2.1 hK hW (cp := 50) (i := 0) Nat.zero_lt_one 0 rfl rfl (show nI 36 = 36 by decide) hdg kk
theorem al_51 (X : CX p s m args meth c cc nL ret own) (hK : KK E s) (hW : WD E ad (M, N) H) {j : Int32} (hin : ¬ (j < 0 ∨ 12 ≤ j.toNatClampNeg)) (hdg : decode cc pc = .ok (.iaload, 1)) (kk : W p l e R s m args below meth c H locs cells slots Q (F0 m (pc + 1) ls (.int (N 51 0 j.toNatClampNeg) :: rest))) : W p l e R s m args below meth c H locs cells slots Q (F0 m pc ls (.int j :: .ref (ad 51 0) :: rest)) :=
  r_ald X.1 X.2.1 hK hW (cp := 51) (i := 0) Nat.zero_lt_one rfl hin hdg kk
theorem as_51 (X : CX p s m args meth c cc nL ret own) (hK : KK E s) (hW : WD E ad (M, N) H) (hS : va_S (ow E) H0 H locs) {j x : Int32} (hin : ¬ (j < 0 ∨ 12 ≤ j.toNatClampNeg)) {N1 : Mem} (hM : N1 = mp N 51 0 j.toNatClampNeg x) (hdg : decode cc pc = .ok (.iastore, 1)) (kk : ∀ (H1 : Heap) (locs1 : List Loc), WD E ad (M, N1) H1 → va_S (ow E) H0 H1 locs1 → W p l e R s m args below meth c H1 locs1 cells slots Q (F0 m (pc + 1) ls rest)) : W p l e R s m args below meth c H locs cells slots Q (F0 m pc ls (.int x :: .int j :: .ref (ad 51 0) :: rest)) := by
  subst hM
  refine r_ast X.1 X.2.1 hK hW hS (cp := 51) (i := 0) Nat.zero_lt_one rfl (by unfold okp; omega) ?_ hin hdg kk
  have e1 : mp N 51 0 j.toNatClampNeg x 51 0 = upd (N 51 0) j.toNatClampNeg x := mp_upd N 51 0 j.toNatClampNeg x
  show Sum.inl (E.2.1 0, 12, Sum.inl (mp N 51 0 j.toNatClampNeg x 51 0)) = _
  rw [e1]
  rfl
theorem an_51 (X : CX p s m args meth c cc nL ret own) (hK : KK E s) (hW : WD E ad (M, N) H) (hdg : decode cc pc = .ok (.arraylength, 1)) (kk : W p l e R s m args below meth c H locs cells slots Q (F0 m (pc + 1) ls (.int (12) :: rest))) : W p l e R s m args below meth c H locs cells slots Q (F0 m pc ls (.ref (ad 51 0) :: rest)) :=
  r_alen X.1 X.2.1 hK hW (cp := 51) (i := 0) Nat.zero_lt_one 0 rfl rfl (show nI 12 = 12 by decide) hdg kk
theorem al_52 (X : CX p s m args meth c cc nL ret own) (hK : KK E s) (hW : WD E ad (M, N) H) {j : Int32} (hin : ¬ (j < 0 ∨ 180 ≤ j.toNatClampNeg)) (hdg : decode cc pc = .ok (.iaload, 1)) (kk : W p l e R s m args below meth c H locs cells slots Q (F0 m (pc + 1) ls (.int (N 52 0 j.toNatClampNeg) :: rest))) : W p l e R s m args below meth c H locs cells slots Q (F0 m pc ls (.int j :: .ref (ad 52 0) :: rest)) :=
  r_ald X.1 X.2.1 hK hW (cp := 52) (i := 0) Nat.zero_lt_one rfl hin hdg kk
theorem as_52 (X : CX p s m args meth c cc nL ret own) (hK : KK E s) (hW : WD E ad (M, N) H) (hS : va_S (ow E) H0 H locs) {j x : Int32} (hin : ¬ (j < 0 ∨ 180 ≤ j.toNatClampNeg)) {N1 : Mem} (hM : N1 = mp N 52 0 j.toNatClampNeg x) (hdg : decode cc pc = .ok (.iastore, 1)) (kk : ∀ (H1 : Heap) (locs1 : List Loc), WD E ad (M, N1) H1 → va_S (ow E) H0 H1 locs1 → W p l e R s m args below meth c H1 locs1 cells slots Q (F0 m (pc + 1) ls rest)) : W p l e R s m args below meth c H locs cells slots Q (F0 m pc ls (.int x :: .int j :: .ref (ad 52 0) :: rest)) := by
  subst hM
  refine r_ast X.1 X.2.1 hK hW hS (cp := 52) (i := 0) Nat.zero_lt_one rfl (by unfold okp; omega) ?_ hin hdg kk
  have e1 : mp N 52 0 j.toNatClampNeg x 52 0 = upd (N 52 0) j.toNatClampNeg x := mp_upd N 52 0 j.toNatClampNeg x
  show Sum.inl (E.2.1 0, 180, Sum.inl (mp N 52 0 j.toNatClampNeg x 52 0)) = _
  rw [e1]
  rfl
theorem an_52 (X : CX p s m args meth c cc nL ret own) (hK : KK E s) (hW : WD E ad (M, N) H) (hdg : decode cc pc = .ok (.arraylength, 1)) (kk : W p l e R s m args below meth c H locs cells slots Q (F0 m (pc + 1) ls (.int (180) :: rest))) : W p l e R s m args below meth c H locs cells slots Q (F0 m pc ls (.ref (ad 52 0) :: rest)) :=
  r_alen X.1 X.2.1 hK hW (cp := 52) (i := 0) Nat.zero_lt_one 0 rfl rfl (show nI 180 = 180 by decide) hdg kk
end RF
